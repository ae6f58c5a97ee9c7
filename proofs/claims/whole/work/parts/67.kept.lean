/-! kept rows -/
def shA (a : Nat) : Nat := if a = 40 then 1 else 0
def aeA (a : Nat) : Nat := if a = 40 then 39 else a
theorem mulI (a b : Nat) : nI a * nI b = nI (a * b) := by unfold nI; rw [← Int32.ofNat_mul]
theorem m43 (a : Nat) : nI a * 43 = nI (a * 43) := mulI a 43
theorem m43' (a : Nat) : (43 : Int32) * nI a = nI (43 * a) := mulI 43 a
theorem nI_p43 (n : Nat) : nI n + 43 = nI (n + 43) := nI_add n 43
section S67
variable {C C' M M' W : ST} {K : KT} {O : Nat → Int64} {N w a o : Nat} {G : GT}
theorem rest_40 {h : AH} {x : Nat} (hx : x < 1000) : f_X6_rest N h (nI x) 40 = some (nI (x % 40), h) := by
  have e := remI (a := x) (b := 40) (by omega) (by decide) (by decide)
  rw [show nI 40 = 40 from rfl] at e
  simp only [f_X6_rest, show ¬ (40 : Int32) ≤ 0 by decide, show ¬ (40 : Int32) = 0 by decide, ↓reduceIte, e]
theorem cpw36 {s n dp : Nat} (h1 : (ckA 0 s n && decide (s < 71)) = true) (h2 : s ≠ 36) (h3 : dp + n ≤ 1720) {y : Int32} (hy : y = nI n) (C : ST) : jcp (HP C M K O) s 0 36 (nI dp) y = some (HP (cps C s 0 36 dp n) M K O) := by
  have q := hCp (C := C) (M := M) (K := K) (O := O) (a := s) (d := 36) (na := n) (nd := 1720) (sp := 0) (dp := dp) (n := n) h1 (by decide) (by omega) h3 h2
  rw [show nI 0 = 0 from rfl] at q
  rw [hy]
  exact q
theorem cpr36 {s n sp : Nat} (h1 : (ckA 0 s n && decide (s < 71)) = true) (h2 : s ≠ 36) (h3 : sp + n ≤ 1720) {y : Int32} (hy : y = nI n) (C : ST) : jcp (HP C M K O) 36 (nI sp) s 0 y = some (HP (cps C 36 sp s 0 n) M K O) := by
  have q := hCp (C := C) (M := M) (K := K) (O := O) (a := 36) (d := s) (na := 1720) (nd := n) (sp := sp) (dp := 0) (n := n) (by decide) h1 h3 (by omega) (fun z => h2 z.symm)
  rw [show nI 0 = 0 from rfl] at q
  rw [hy]
  exact q
set_option maxHeartbeats 4000000 in
theorem writeTo_c (hw : w < 40) : ∃ C', f_X5_writeTo N (HP C M K O) 21 36 (nI w) = some (HP C' M K O) ∧ (∀ x, x ≠ 36 → C' x = C x) ∧ (∀ j, j < 8 → C' 36 (w * 43 + j) = C 22 j ∧ C' 36 (w * 43 + (8 + j)) = C 23 j ∧ C' 36 (w * 43 + (16 + j)) = C 24 j) ∧ (∀ r, r < 9 → C' 36 (w * 43 + (24 + r)) = C 27 r ∧ C' 36 (w * 43 + (33 + r)) = C 28 r) ∧ C' 36 (w * 43 + 42) = C 21 0 ∧ ∀ i, (i < w * 43 ∨ w * 43 + 43 ≤ i) → C' 36 i = C 36 i := by
  have hl : jln 0 (HP C M K O) 36 = some (nI 1720) := by simp only [lnH]
  have n0 : ¬ nI (w * 43) < 0 := nI_pos (by omega)
  have n1 : nI (w * 43 + 43) ≤ nI 1720 := nI_le (by omega) (by omega)
  have c1 := cpw36 (M := M) (K := K) (O := O) (s := 21 + 1) (n := 8) (dp := w * 43) (y := 8) (by decide) (by decide) (by omega) rfl
  have c2 := cpw36 (M := M) (K := K) (O := O) (s := 21 + 2) (n := 8) (dp := w * 43 + 8) (y := 8) (by decide) (by decide) (by omega) rfl
  have c3 := cpw36 (M := M) (K := K) (O := O) (s := 21 + 3) (n := 8) (dp := w * 43 + 16) (y := 8) (by decide) (by decide) (by omega) rfl
  have c4 := cpw36 (M := M) (K := K) (O := O) (s := 21 + 6) (n := 9) (dp := w * 43 + 24) (y := 9) (by decide) (by decide) (by omega) rfl
  have c5 := cpw36 (M := M) (K := K) (O := O) (s := 21 + 7) (n := 9) (dp := w * 43 + 24 + 9) (y := 9) (by decide) (by decide) (by omega) rfl
  have e1 : nI (w * 43 + 43) - 1 = nI (w * 43 + 42) := nI_pred (w * 43 + 42)
  have l42 : w * 43 + 42 < 1720 := by omega
  refine ⟨up (cps (cps (cps (cps (cps C (21 + 1) 0 36 (w * 43) 8) (21 + 2) 0 36 (w * 43 + 8) 8) (21 + 3) 0 36 (w * 43 + 16) 8) (21 + 6) 0 36 (w * 43 + 24) 9) (21 + 7) 0 36 (w * 43 + 24 + 9) 9) 36 (w * 43 + 42) (C 21 0), ?_, fun x hx => ?_, fun j hj => ⟨?_, ?_, ?_⟩, fun r hr => ⟨?_, ?_⟩, ?_, fun i hi => ?_⟩
  · have e21 : cps (cps (cps (cps (cps C (21 + 1) 0 36 (w * 43) 8) (21 + 2) 0 36 (w * 43 + 8) 8) (21 + 3) 0 36 (w * 43 + 16) 8) (21 + 6) 0 36 (w * 43 + 24) 9) (21 + 7) 0 36 (w * 43 + 24 + 9) 9 21 0 = C 21 0 := by
      rw [cpO (by decide), cpO (by decide), cpO (by decide), cpO (by decide), cpO (by decide)]
    unfold f_X5_writeTo
    rw [m43 w, nI_p43, nI_p8, nI_p16, nI_p24, nI_p9, e1]
    simp only [n0, ↓reduceIte, ↓bnd hl, n1, ↓b_rW w21, ↓bnd (c1 _), ↓bnd (c2 _), ↓bnd (c3 _), ↓bnd (c4 _), ↓bnd (c5 _), ↓b_waC, l42, e21]
  · rw [up_o hx, cpO hx, cpO hx, cpO hx, cpO hx, cpO hx]
  · rw [up_s, upd_o (by omega), cpS, if_neg (by omega), cpS, if_neg (by omega), cpS, if_neg (by omega), cpS, if_neg (by omega), cpS, if_pos (by omega)]
    exact congrArg (C 22) (by omega)
  · rw [up_s, upd_o (by omega), cpS, if_neg (by omega), cpS, if_neg (by omega), cpS, if_neg (by omega), cpS, if_pos (by omega), cpO (by decide)]
    exact congrArg (C 23) (by omega)
  · rw [up_s, upd_o (by omega), cpS, if_neg (by omega), cpS, if_neg (by omega), cpS, if_pos (by omega), cpO (by decide), cpO (by decide)]
    exact congrArg (C 24) (by omega)
  · rw [up_s, upd_o (by omega), cpS, if_neg (by omega), cpS, if_pos (by omega), cpO (by decide), cpO (by decide), cpO (by decide)]
    exact congrArg (C 27) (by omega)
  · rw [up_s, upd_o (by omega), cpS, if_pos (by omega), cpO (by decide), cpO (by decide), cpO (by decide), cpO (by decide)]
    exact congrArg (C 28) (by omega)
  · rw [up_s, upd_s]
  · rw [up_s, upd_o (by omega), cpS, if_neg (by omega), cpS, if_neg (by omega), cpS, if_neg (by omega), cpS, if_neg (by omega), cpS, if_neg (by omega)]
set_option maxHeartbeats 4000000 in
theorem readFrom_c (hw : w < 40) : ∃ C', f_X5_readFrom N (HP C M K O) 21 36 (nI w) = some (HP C' M K O) ∧ (∀ x, x ≠ 21 → x ≠ 22 → x ≠ 23 → x ≠ 24 → x ≠ 27 → x ≠ 28 → C' x = C x) ∧ (∀ j, j < 8 → C' 22 j = C 36 (w * 43 + j) ∧ C' 23 j = C 36 (w * 43 + (8 + j)) ∧ C' 24 j = C 36 (w * 43 + (16 + j))) ∧ (∀ r, r < 9 → C' 27 r = C 36 (w * 43 + (24 + r)) ∧ C' 28 r = C 36 (w * 43 + (33 + r))) ∧ C' 21 0 = C 36 (w * 43 + 42) := by
  have hl : jln 0 (HP C M K O) 36 = some (nI 1720) := by simp only [lnH]
  have n0 : ¬ nI (w * 43) < 0 := nI_pos (by omega)
  have n1 : nI (w * 43 + 43) ≤ nI 1720 := nI_le (by omega) (by omega)
  have c1 := cpr36 (M := M) (K := K) (O := O) (s := 21 + 1) (n := 8) (sp := w * 43) (y := 8) (by decide) (by decide) (by omega) rfl
  have c2 := cpr36 (M := M) (K := K) (O := O) (s := 21 + 2) (n := 8) (sp := w * 43 + 8) (y := 8) (by decide) (by decide) (by omega) rfl
  have c3 := cpr36 (M := M) (K := K) (O := O) (s := 21 + 3) (n := 8) (sp := w * 43 + 16) (y := 8) (by decide) (by decide) (by omega) rfl
  have c4 := cpr36 (M := M) (K := K) (O := O) (s := 21 + 6) (n := 9) (sp := w * 43 + 24) (y := 9) (by decide) (by decide) (by omega) rfl
  have c5 := cpr36 (M := M) (K := K) (O := O) (s := 21 + 7) (n := 9) (sp := w * 43 + 24 + 9) (y := 9) (by decide) (by decide) (by omega) rfl
  have e1 : nI (w * 43 + 43) - 1 = nI (w * 43 + 42) := nI_pred (w * 43 + 42)
  have l42 : w * 43 + 42 < 1720 := by omega
  refine ⟨up (cps (cps (cps (cps (cps C 36 (w * 43) (21 + 1) 0 8) 36 (w * 43 + 8) (21 + 2) 0 8) 36 (w * 43 + 16) (21 + 3) 0 8) 36 (w * 43 + 24) (21 + 6) 0 9) 36 (w * 43 + 24 + 9) (21 + 7) 0 9) 21 0 (C 36 (w * 43 + 42)), ?_, fun x h1 h2 h3 h4 h5 h6 => ?_, fun j hj => ⟨?_, ?_, ?_⟩, fun r hr => ⟨?_, ?_⟩, ?_⟩
  · have e36 : cps (cps (cps (cps (cps C 36 (w * 43) (21 + 1) 0 8) 36 (w * 43 + 8) (21 + 2) 0 8) 36 (w * 43 + 16) (21 + 3) 0 8) 36 (w * 43 + 24) (21 + 6) 0 9) 36 (w * 43 + 24 + 9) (21 + 7) 0 9 36 (w * 43 + 42) = C 36 (w * 43 + 42) := by
      rw [cpO (by decide), cpO (by decide), cpO (by decide), cpO (by decide), cpO (by decide)]
    unfold f_X5_readFrom
    rw [m43 w, nI_p43, nI_p8, nI_p16, nI_p24, nI_p9, e1]
    simp only [n0, ↓reduceIte, ↓bnd hl, n1, ↓b_rW w21, ↓bnd (c1 _), ↓bnd (c2 _), ↓bnd (c3 _), ↓bnd (c4 _), ↓bnd (c5 _), ↓b_raC, l42, e36]
  · rw [up_o h1, cpO h6, cpO h5, cpO h4, cpO h3, cpO h2]
  · rw [up_o (by decide), cpO (by decide), cpO (by decide), cpO (by decide), cpO (by decide), cpS, if_pos (by omega)]
    exact congrArg (C 36) (by omega)
  · rw [up_o (by decide), cpO (by decide), cpO (by decide), cpO (by decide), cpS, if_pos (by omega), cpO (by decide)]
    exact congrArg (C 36) (by omega)
  · rw [up_o (by decide), cpO (by decide), cpO (by decide), cpS, if_pos (by omega), cpO (by decide), cpO (by decide)]
    exact congrArg (C 36) (by omega)
  · rw [up_o (by decide), cpO (by decide), cpS, if_pos (by omega), cpO (by decide), cpO (by decide), cpO (by decide)]
    exact congrArg (C 36) (by omega)
  · rw [up_o (by decide), cpS, if_pos (by omega), cpO (by decide), cpO (by decide), cpO (by decide), cpO (by decide)]
    exact congrArg (C 36) (by omega)
  · rw [up_s, upd_s]
set_option maxHeartbeats 4000000 in
theorem keepAct_c (ha : a ≤ 40) (ho : o < 40) (e2 : C 20 2 = nI a) (e8 : C 20 8 = nI o) : ∃ C', f_X0_keepAct N (HP C M K O) 20 = some (HP C' M K O) ∧ (∀ x, x ≠ 20 → x ≠ 36 → C' x = C x) ∧ C' 20 3 = C 20 3 ∧ C' 20 2 = nI (aeA a + 1) ∧ C' 20 8 = nI ((o + shA a) % 40) ∧ (∀ i x, i < aeA a → x < 43 → C' 36 (((o + shA a) % 40 + i) % 40 * 43 + x) = C 36 ((o + (i + shA a)) % 40 * 43 + x)) ∧ (∀ j, j < 8 → C' 36 (((o + shA a) % 40 + aeA a) % 40 * 43 + j) = C 22 j ∧ C' 36 (((o + shA a) % 40 + aeA a) % 40 * 43 + (8 + j)) = C 23 j ∧ C' 36 (((o + shA a) % 40 + aeA a) % 40 * 43 + (16 + j)) = C 24 j) ∧ (∀ r, r < 9 → C' 36 (((o + shA a) % 40 + aeA a) % 40 * 43 + (24 + r)) = C 27 r ∧ C' 36 (((o + shA a) % 40 + aeA a) % 40 * 43 + (33 + r)) = C 28 r) ∧ C' 36 (((o + shA a) % 40 + aeA a) % 40 * 43 + 42) = C 21 0 := by
  by_cases h40 : a = 40
  · have es : shA a = 1 := if_pos h40
    have ee : aeA a = 39 := if_pos h40
    rw [es, ee]
    have r1 : f_X6_rest N (HP C M K O) (nI (o + 1)) 40 = some (nI ((o + 1) % 40), HP C M K O) := rest_40 (by omega)
    obtain ⟨C1, e1⟩ : ∃ C1, C1 = up (up C 20 8 (nI ((o + 1) % 40))) 20 2 (nI 39) := ⟨_, rfl⟩
    have r2 : f_X6_rest N (HP C1 M K O) (nI ((o + 1) % 40 + 39)) 40 = some (nI (((o + 1) % 40 + 39) % 40), HP C1 M K O) := rest_40 (by omega)
    obtain ⟨C2, w1, w2, w3, w4, w5, w6⟩ := writeTo_c (N := N) (C := C1) (M := M) (K := K) (O := O) (w := ((o + 1) % 40 + 39) % 40) (by omega)
    have f2 : C2 20 = C1 20 := w2 20 (by decide)
    have q2 : C1 20 2 = nI 39 := by rw [e1, up_s, upd_s]
    have q8 : C1 20 8 = nI ((o + 1) % 40) := by rw [e1, up_s, upd_o (by decide), up_s, upd_s]
    have q3 : C1 20 3 = C 20 3 := by rw [e1, up_s, upd_o (by decide), up_s, upd_o (by decide)]
    have qo : ∀ x, x ≠ 20 → C1 x = C x := fun x hx => by rw [e1, up_o hx, up_o hx]
    refine ⟨up C2 20 2 (nI 40), ?_, fun x h1 h2 => ?_, ?_, ?_, ?_, fun i x hi hx => ?_, fun j hj => ?_, fun r hr => ?_, ?_⟩
    · have s1 : up C 20 8 (nI ((o + 1) % 40)) 20 2 = nI 40 := by rw [up_s, upd_o (by decide), e2, h40]
      have s2 : nI 40 - 1 = nI 39 := by decide
      have s3 : nI o + 1 = nI (o + 1) := nI_1 o
      have s4 : C2 20 2 + 1 = nI 40 := by rw [f2, q2]; decide
      simp only [f_X0_keepAct, f_X0_keepAct_b34, ↓b_rdC, e2, h40, show nI 40 = 40 from rfl, ↓reduceIte, e8, s3, ↓bnd r1, ↓b_wrC]
      rw [s1, s2, ← e1]
      simp only [↓b_rdC, q8, q2, nI_add, ↓bnd r2, ↓bnd w1, s4, ↓b_wrC]
      rfl
    · rw [up_o h1, w2 x h2, qo x h1]
    · rw [up_s, upd_o (by decide), f2, q3]
    · rw [up_s, upd_s]
    · rw [up_s, upd_o (by decide), f2, q8]
    · rw [up_o (by decide), w6 _ (by omega), qo 36 (by decide)]
      exact congrArg (C 36) (by omega)
    · rw [up_o (by decide)]
      have := w3 j hj
      rw [qo 22 (by decide), qo 23 (by decide), qo 24 (by decide)] at this
      exact this
    · rw [up_o (by decide)]
      have := w4 r hr
      rw [qo 27 (by decide), qo 28 (by decide)] at this
      exact this
    · rw [up_o (by decide), w5, qo 21 (by decide)]
  · have es : shA a = 0 := if_neg h40
    have ee : aeA a = a := if_neg h40
    have eo : (o + 0) % 40 = o := by omega
    rw [es, ee, eo]
    have r2 : f_X6_rest N (HP C M K O) (nI (o + a)) 40 = some (nI ((o + a) % 40), HP C M K O) := rest_40 (by omega)
    obtain ⟨C2, w1, w2, w3, w4, w5, w6⟩ := writeTo_c (N := N) (C := C) (M := M) (K := K) (O := O) (w := (o + a) % 40) (by omega)
    have f2 : C2 20 = C 20 := w2 20 (by decide)
    refine ⟨up C2 20 2 (nI (a + 1)), ?_, fun x h1 h2 => ?_, ?_, ?_, ?_, fun i x hi hx => ?_, fun j hj => ?_, fun r hr => ?_, ?_⟩
    · have n40 : ¬ nI a = 40 := fun z => h40 ((eq_nI (a := a) (b := 40) (by omega) (by omega)).mp z)
      have s4 : C2 20 2 + 1 = nI (a + 1) := by rw [f2, e2, nI_1]
      simp only [f_X0_keepAct, f_X0_keepAct_b34, ↓b_rdC, e2, n40, ↓reduceIte, e8, nI_add, ↓bnd r2, ↓bnd w1, s4, ↓b_wrC]
    · rw [up_o h1, w2 x h2]
    · rw [up_s, upd_o (by decide), f2]
    · rw [up_s, upd_s]
    · rw [up_s, upd_o (by decide), f2, e8]
    · rw [up_o (by decide), w6 _ (by omega)]
      exact congrArg (C 36) (by omega)
    · rw [up_o (by decide)]
      exact w3 j hj
    · rw [up_o (by decide)]
      exact w4 r hr
    · rw [up_o (by decide), w5]
/-! the reference -/
set_option maxHeartbeats 4000000 in
theorem shift_m (hN : 10000 ≤ N) : ∃ M', itr (fun s : Int32 × AH => f_X7_keep_l12 N 71 s.1 s.2) N (43, HP C M K O) = some (HP C M' K O) ∧ (∀ x, x ≠ 92 → M' x = M x) ∧ ∀ i, i < 1677 → M' 92 i = M 92 (i + 43) := by
  have A := itr_inv (body := fun s : Int32 × AH => f_X7_keep_l12 N 71 s.1 s.2)
    (fun k s => ∃ M', s = (nI (k + 43), HP C M' K O) ∧ (∀ x, x ≠ 92 → M' x = M x) ∧ (∀ i, i < k → M' 92 i = M 92 (i + 43)) ∧ ∀ i, k ≤ i → M' 92 i = M 92 i)
    (P := fun r => ∃ M', r = HP C M' K O ∧ (∀ x, x ≠ 92 → M' x = M x) ∧ ∀ i, i < 1677 → M' 92 i = M 92 (i + 43)) (n := 1677) ?_ ?_ (s := (43, HP C M K O)) ⟨M, rfl, fun _ _ => rfl, fun i hi => absurd hi (Nat.not_lt_zero i), fun _ _ => rfl⟩ (N := N) (by omega)
  · obtain ⟨r, a1, M2, e, a2⟩ := A
    rw [e] at a1
    exact ⟨M2, a1, a2⟩
  · rintro k s hk ⟨M2, rfl, h1, h2, h3⟩
    left
    have hl : jln 0 (HP C M2 K O) 92 = some (nI 1720) := by simp only [lnH]
    have n1 : ¬ nI 1720 ≤ nI (k + 43) := nI_ge (by omega) (by omega)
    have k1 : k + 43 < 1720 := by omega
    have k2 : k < 1720 := by omega
    have s1 : nI (k + 43) - 43 = nI k := by
      have := subI (a := 43) (b := k + 43) (by omega)
      rw [Nat.add_sub_cancel] at this
      exact this
    refine ⟨(nI (k + 1 + 43), HP C (up M2 92 k (M2 92 (k + 43))) K O), ?_, _, rfl, fun x hx => (up_o hx).trans (h1 x hx), fun i hi => ?_, fun i hi => ?_⟩
    · simp only [f_X7_keep_l12, ↓b_rdM, ↓bnd hl, n1, ↓reduceIte, ↓b_raM, k1, s1, ↓b_waM, k2, nI_1]
    · rw [up_s]
      unfold upd
      split
      · rename_i z
        rw [z]; exact h3 (k + 43) (by omega)
      · exact h2 i (by omega)
    · rw [up_s, upd_o (by omega)]
      exact h3 i (by omega)
  · rintro s ⟨M2, rfl, h1, h2, h3⟩
    have hl : jln 0 (HP C M2 K O) 92 = some (nI 1720) := by simp only [lnH]
    refine ⟨_, ?_, M2, rfl, h1, h2⟩
    simp only [f_X7_keep_l12, ↓b_rdM, ↓bnd hl, show nI 1720 ≤ nI (1677 + 43) by decide, ↓reduceIte]
set_option maxHeartbeats 4000000 in
theorem keep_m (ha : a ≤ 40) (e5 : M 71 35 = nI a) (hN : 10000 ≤ N) : ∃ M', f_X7_keep N (HP C M K O) 71 = some (HP C M' K O) ∧ (∀ x, x ≠ 71 → x ≠ 92 → M' x = M x) ∧ (∀ k, k ≠ 35 → M' 71 k = M 71 k) ∧ M' 71 35 = nI (aeA a + 1) ∧ (∀ i x, i < aeA a → x < 43 → M' 92 (43 * i + x) = M 92 (43 * (i + shA a) + x)) ∧ ∀ x, x < 43 → M' 92 (43 * aeA a + x) = rowM M x := by
  have pk : pok 92 1720 := .inr (.inr (.inr ⟨rfl, rfl⟩))
  by_cases h40 : a = 40
  · have es : shA a = 1 := if_pos h40
    have ee : aeA a = 39 := if_pos h40
    rw [es, ee]
    obtain ⟨M1, s1, s2, s3⟩ := shift_m (C := C) (M := M) (K := K) (O := O) hN
    obtain ⟨M2, e2⟩ : ∃ M2, M2 = up M1 71 35 (nI 39) := ⟨_, rfl⟩
    obtain ⟨M3, p1, p2, p3⟩ := pack_m (C := C) (M := M2) (K := K) (O := O) (N := N) (f := 1677) pk (by decide) (by omega)
    have q92 : M2 92 = M1 92 := by rw [e2, up_o (by decide)]
    have q71 : ∀ k, k ≠ 35 → M2 71 k = M 71 k := fun k hk => by rw [e2, up_s, upd_o hk, s2 71 (by decide)]
    have qo : ∀ x, x ≠ 71 → x ≠ 92 → M2 x = M x := fun x h1 h2 => by rw [e2, up_o h1, s2 x h2]
    have er : rowM M2 = rowM M := by
      unfold rowM
      rw [q71 34 (by decide), qo 87 (by decide) (by decide), qo 88 (by decide) (by decide), qo 89 (by decide) (by decide), qo 90 (by decide) (by decide), qo 91 (by decide) (by decide)]
    refine ⟨up M3 71 35 (nI 40), ?_, fun x h1 h2 => ?_, fun k hk => ?_, ?_, fun i x hi hx => ?_, fun x hx => ?_⟩
    · have t1 : M1 71 35 - 1 = nI 39 := by rw [s2 71 (by decide), e5, h40]; decide
      have t2 : M2 71 35 = nI 39 := by rw [e2, up_s, upd_s]
      have t3 : M3 71 35 + 1 = nI 40 := by rw [p2 71 (by decide), t2]; decide
      have t4 : (43 : Int32) * nI 39 = nI 1677 := by decide
      simp only [f_X7_keep, f_X7_keep_b12, f_X7_keep_b52, ↓b_rdM, e5, h40, show nI 40 = 40 from rfl, ↓reduceIte, s1, Option.bind_some, t1, ↓b_wrM]
      rw [← e2]
      simp only [↓b_rdM, t2, t4, ↓bnd p1, t3, ↓b_wrM]
      rfl
    · rw [up_o h1, p2 x h2, qo x h1 h2]
    · rw [up_s, upd_o hk, p2 71 (by decide), q71 k hk]
    · rw [up_s, upd_s]
    · rw [up_o (by decide), p3, if_neg (by omega), q92, s3 _ (by omega)]
      exact congrArg (M 92) (by omega)
    · rw [up_o (by decide), p3, if_pos (by omega), er]
      exact congrArg (rowM M) (by omega)
  · have es : shA a = 0 := if_neg h40
    have ee : aeA a = a := if_neg h40
    rw [es, ee]
    obtain ⟨M3, p1, p2, p3⟩ := pack_m (C := C) (M := M) (K := K) (O := O) (N := N) (f := 43 * a) pk (by omega) (by omega)
    refine ⟨up M3 71 35 (nI (a + 1)), ?_, fun x h1 h2 => ?_, fun k hk => ?_, ?_, fun i x hi hx => ?_, fun x hx => ?_⟩
    · have n40 : ¬ nI a = 40 := fun z => h40 ((eq_nI (a := a) (b := 40) (by omega) (by omega)).mp z)
      have t3 : M3 71 35 + 1 = nI (a + 1) := by rw [p2 71 (by decide), e5, nI_1]
      simp only [f_X7_keep, f_X7_keep_b52, ↓b_rdM, e5, n40, ↓reduceIte, m43', ↓bnd p1, t3, ↓b_wrM]
    · rw [up_o h1, p2 x h2]
    · rw [up_s, upd_o hk, p2 71 (by decide)]
    · rw [up_s, upd_s]
    · rw [up_o (by decide), p3, if_neg (by omega)]
      rfl
    · rw [up_o (by decide), p3, if_pos (by omega)]
      exact congrArg (rowM M) (by omega)
theorem RRow_congr {f g f' g' : Nat → Int32} (hG : okG G) (h : RRow G f g) (hf : ∀ x, x < 43 → f' x = f x) (hg : ∀ x, x < 43 → g' x = g x) : RRow G f' g' := by
  obtain ⟨V, v1, v2, v3, v4, v5, v6⟩ := h
  have hJ := hG.2.2.1
  have hR := hG.2.1
  refine ⟨V, v1, v2, by rw [hf 42 (by decide)]; exact v3, by rw [hg 0 (by decide)]; exact v4, fun j hj => ?_, fun r hr => ?_⟩
  · rw [hf j (by omega), hf (8 + j) (by omega), hf (16 + j) (by omega), hg (1 + j) (by omega), hg (9 + j) (by omega), hg (17 + j) (by omega)]
    exact v5 j hj
  · rw [hf (24 + r) (by omega), hf (33 + r) (by omega), hg (25 + r) (by omega), hg (34 + r) (by omega)]
    exact v6 r hr
set_option maxHeartbeats 4000000 in
theorem keep_b (h : REL K C M G W) (hN : 10000 ≤ N) : ∃ C', f_X0_keepAct N (HP C M K O) 20 = some (HP C' M K O) ∧ (∀ x, x ≠ 20 → x ≠ 36 → C' x = C x) ∧ C' 20 3 = C 20 3 ∧ ∀ C1 O1, ∃ M', f_X7_keep N (HP C1 (up M 71 4 0) K O1) 71 = some (HP C1 M' K O1) ∧ M' 71 4 = 0 ∧ (∀ x, x ≠ 71 → x ≠ 92 → M' x = M x) ∧ (∀ k, k ≠ 35 → k ≠ 4 → M' 71 k = M 71 k) ∧ RA G C' 20 M' 35 92 := by
  obtain ⟨⟨hc, hm, hl⟩, _, _, ⟨a, o, r1, r2, r3, r4, r5, r6⟩, _⟩ := h
  have hJ := hm.1.2.2.1
  have hR := hm.1.2.1
  obtain ⟨C', k1, k2, k3, k4, k5, k6, k7, k8, k9⟩ := keepAct_c (N := N) (M := M) (K := K) (O := O) r1 r2 r3 r4
  refine ⟨C', k1, k2, k3, fun C1 O1 => ?_⟩
  obtain ⟨M', m1, m2, m3, m4, m5, m6⟩ := keep_m (C := C1) (M := up M 71 4 0) (K := K) (O := O1) r1 (by rw [up_s, upd_o (by decide)]; exact r5) hN
  have ae : aeA a + 1 ≤ 40 := by unfold aeA; split <;> omega
  have as : aeA a + shA a = a ∨ (a < 40 ∧ shA a = 0 ∧ aeA a = a) := by unfold aeA shA; split <;> omega
  have q92 : up M 71 4 0 92 = M 92 := up_o (by decide)
  refine ⟨M', m1, ?_, fun x h1 h2 => ?_, fun k h1 h2 => ?_, aeA a + 1, (o + shA a) % 40, ae, by omega, k4, k5, m4, fun i hi => ?_⟩
  · rw [m3 4 (by decide), up_s, upd_s]
  · rw [m2 x h1 h2, up_o h1]
  · rw [m3 k h1, up_s, upd_o h2]
  · rcases Nat.lt_or_ge i (aeA a) with z | z
    · refine RRow_congr hm.1 (r6 (i + shA a) (by omega)) (fun x hx => ?_) (fun x hx => ?_)
      · exact k6 i x z hx
      · show M' 92 (43 * i + x) = M 92 (43 * (i + shA a) + x)
        rw [m5 i x z hx, q92]
    · have ei : i = aeA a := by omega
      subst ei
      have er : rowM (up M 71 4 0) = rowM M := by
        unfold rowM
        rw [up_s, upd_o (show (34 : Nat) ≠ 4 by decide), up_o (show (87 : Nat) ≠ 71 by decide), up_o (show (88 : Nat) ≠ 71 by decide), up_o (show (89 : Nat) ≠ 71 by decide), up_o (show (90 : Nat) ≠ 71 by decide), up_o (show (91 : Nat) ≠ 71 by decide)]
      have m6' : ∀ x, x < 43 → M' 92 (43 * aeA a + x) = rowM M x := fun x hx => by rw [m6 x hx, er]
      obtain ⟨w1, w2, w3⟩ := hc.2.2.2.1
      obtain ⟨v1, _, v2, v3⟩ := hm.2.2.1
      refine ⟨W, hm.2.2.2, hl, ?_, ?_, fun j hj => ⟨?_, ?_, ?_, ?_, ?_, ?_⟩, fun r hr => ⟨?_, ?_, ?_, ?_⟩⟩
      · exact k9.trans w1
      · exact (m6' 0 (by decide)).trans v1
      · exact ((k7 j (by omega)).1).trans (w2 1 j (by decide) (by decide) hj)
      · exact ((k7 j (by omega)).2.1).trans (w2 2 j (by decide) (by decide) hj)
      · exact ((k7 j (by omega)).2.2).trans (w2 3 j (by decide) (by decide) hj)
      · exact (m6' (1 + j) (by omega)).trans ((rowM_1 (by omega)).trans (v2 j hj).1)
      · exact (m6' (9 + j) (by omega)).trans ((rowM_9 (by omega)).trans (v2 j hj).2.1)
      · exact (m6' (17 + j) (by omega)).trans ((rowM_17 (by omega)).trans (v2 j hj).2.2.1)
      · exact ((k8 r (by omega)).1).trans (w3 r hr).1
      · exact ((k8 r (by omega)).2).trans (w3 r hr).2
      · exact (m6' (25 + r) (by omega)).trans ((rowM_25 (by omega)).trans (v3 r hr).1)
      · exact (m6' (34 + r) (by omega)).trans ((rowM_34 (by omega)).trans (v3 r hr).2)
end S67
