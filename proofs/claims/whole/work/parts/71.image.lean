/-! image, restore -/
theorem cpN {a d n : Nat} {M : ST} {K : KT} {O : Nat → Int64} (h1 : (ckA 0 a n && decide (a < 71)) = true) (h2 : (ckA 0 d n && decide (d < 71)) = true) (h5 : a ≠ d) {y : Int32} (hy : y = nI n) (C : ST) : jcp (HP C M K O) a 0 d 0 y = some (HP (cps C a 0 d 0 n) M K O) := by
  have q := hCp (C := C) (M := M) (K := K) (O := O) (sp := 0) (dp := 0) (n := n) h1 h2 (by omega) (by omega) h5
  rw [show nI 0 = 0 from rfl] at q
  rw [hy]
  exact q
theorem w38 : wok 38 := .inr (.inl rfl)
section S71
variable {C C' M M' W W' : ST} {K : KT} {O : Nat → Int64} {N : Nat} {G : GT} {a b c : Int32}
theorem cpV {a d n i : Nat} (hi : i < n) : cps C a 0 d 0 n d i = C a i := by
  rw [cpS, if_pos (by omega)]
  exact congrArg (C a) (by omega)
set_option maxHeartbeats 4000000 in
theorem toImage_c (hG : okG G) (hW : RW G (20 + 1) C W) (hN : 1000 ≤ N) : ∃ C', f_X0_copyFrom N (HP C M K O) 37 20 = some (HP C' M K O) ∧ (∀ x, x < 37 ∨ 53 < x → C' x = C x) ∧ RW G (37 + 1) C' (clr W) ∧ C' 37 2 = C 20 2 ∧ C' 37 8 = C 20 8 ∧ C' 37 3 = C 20 3 ∧ (∀ k, k < 3 → C' (37 + 12) k = C (20 + 12) k) ∧ (∀ i, i < 8 → C' (37 + 13) i = C (20 + 13) i ∧ C' (37 + 14) i = C (20 + 14) i ∧ C' (37 + 15) i = C (20 + 15) i) ∧ ∀ i, i < 1720 → C' (37 + 16) i = C (20 + 16) i := by
  obtain ⟨C1, q1, q2, q3⟩ := copyFrom_c (M := M) (K := K) (O := O) w38 w21 (by decide) hG hW hN
  obtain ⟨C2, e2⟩ : ∃ C2, C2 = cps C1 32 0 49 0 3 := ⟨_, rfl⟩
  obtain ⟨C3, e3⟩ : ∃ C3, C3 = up C2 37 2 (C 20 2) := ⟨_, rfl⟩
  obtain ⟨C4, e4⟩ : ∃ C4, C4 = up C3 37 8 (C 20 8) := ⟨_, rfl⟩
  obtain ⟨C5, e5⟩ : ∃ C5, C5 = cps C4 36 0 53 0 1720 := ⟨_, rfl⟩
  obtain ⟨C6, e6⟩ : ∃ C6, C6 = up C5 37 3 (C 20 3) := ⟨_, rfl⟩
  obtain ⟨C7, e7⟩ : ∃ C7, C7 = cps C6 33 0 50 0 8 := ⟨_, rfl⟩
  obtain ⟨C8, e8⟩ : ∃ C8, C8 = cps C7 34 0 51 0 8 := ⟨_, rfl⟩
  obtain ⟨C9, e9⟩ : ∃ C9, C9 = cps C8 35 0 52 0 8 := ⟨_, rfl⟩
  have f1 : ∀ x, x < 37 + 1 ∨ 37 + 11 < x → C1 x = C x := fun x hx => q2 x (by omega)
  have f2 : ∀ x, x ≠ 49 → C2 x = C1 x := fun x hx => by rw [e2, cpO hx]
  have f3 : ∀ x, x ≠ 37 → C3 x = C2 x := fun x hx => by rw [e3, up_o hx]
  have f4 : ∀ x, x ≠ 37 → C4 x = C3 x := fun x hx => by rw [e4, up_o hx]
  have f5 : ∀ x, x ≠ 53 → C5 x = C4 x := fun x hx => by rw [e5, cpO hx]
  have f6 : ∀ x, x ≠ 37 → C6 x = C5 x := fun x hx => by rw [e6, up_o hx]
  have f7 : ∀ x, x ≠ 50 → C7 x = C6 x := fun x hx => by rw [e7, cpO hx]
  have f8 : ∀ x, x ≠ 51 → C8 x = C7 x := fun x hx => by rw [e8, cpO hx]
  have f9 : ∀ x, x ≠ 52 → C9 x = C8 x := fun x hx => by rw [e9, cpO hx]
  have g2 : C2 20 2 = C 20 2 := by rw [f2 _ (by decide), f1 _ (by decide)]
  have g3 : C3 20 8 = C 20 8 := by rw [f3 _ (by decide), f2 _ (by decide), f1 _ (by decide)]
  have g5 : C5 20 3 = C 20 3 := by rw [f5 _ (by decide), f4 _ (by decide), f3 _ (by decide), f2 _ (by decide), f1 _ (by decide)]
  have l2 : jln 0 (HP C1 M K O) 49 = some (nI 3) := by simp only [lnH]
  have l5 : jln 0 (HP C4 M K O) 53 = some (nI 1720) := by simp only [lnH]
  have c2 : jcp (HP C1 M K O) 32 0 49 0 (nI 3) = some (HP C2 M K O) := by rw [e2]; exact cpN (by decide) (by decide) (by decide) rfl C1
  have c5 : jcp (HP C4 M K O) 36 0 53 0 (nI 1720) = some (HP C5 M K O) := by rw [e5]; exact cpN (by decide) (by decide) (by decide) rfl C4
  have c7 : jcp (HP C6 M K O) 33 0 50 0 8 = some (HP C7 M K O) := by rw [e7]; exact cpN (by decide) (by decide) (by decide) rfl C6
  have c8 : jcp (HP C7 M K O) 34 0 51 0 8 = some (HP C8 M K O) := by rw [e8]; exact cpN (by decide) (by decide) (by decide) rfl C7
  have c9 : jcp (HP C8 M K O) 35 0 52 0 8 = some (HP C9 M K O) := by rw [e9]; exact cpN (by decide) (by decide) (by decide) rfl C8
  refine ⟨C9, ?_, fun x hx => ?_, RW_same q3 (fun i hi => ?_), ?_, ?_, ?_, fun k hk => ?_, fun i hi => ⟨?_, ?_, ?_⟩, fun i hi => ?_⟩
  · simp only [f_X0_copyFrom, ↓b_rdC, ↓bnd q1, ↓bnd l2, ↓bnd c2, g2, ↓b_wrC]
    rw [← e3]
    simp only [↓b_rdC, g3, ↓b_wrC]
    rw [← e4]
    simp only [↓b_rdC, ↓bnd l5, ↓bnd c5, g5, ↓b_wrC]
    rw [← e6]
    simp only [↓b_rdC, ↓bnd c7, ↓bnd c8, ↓bnd c9]
  · rw [f9 x (by omega), f8 x (by omega), f7 x (by omega), f6 x (by omega), f5 x (by omega), f4 x (by omega), f3 x (by omega), f2 x (by omega), f1 x (by omega)]
  · rw [f9 _ (by omega), f8 _ (by omega), f7 _ (by omega), f6 _ (by omega), f5 _ (by omega), f4 _ (by omega), f3 _ (by omega), f2 _ (by omega)]
  · rw [f9 _ (by decide), f8 _ (by decide), f7 _ (by decide), e6, up_s, upd_o (by decide), f5 _ (by decide), e4, up_s, upd_o (by decide), e3, up_s, upd_s]
  · rw [f9 _ (by decide), f8 _ (by decide), f7 _ (by decide), e6, up_s, upd_o (by decide), f5 _ (by decide), e4, up_s, upd_s]
  · rw [f9 _ (by decide), f8 _ (by decide), f7 _ (by decide), e6, up_s, upd_s]
  · show C9 49 k = C 32 k
    rw [f9 _ (by decide), f8 _ (by decide), f7 _ (by decide), f6 _ (by decide), f5 _ (by decide), f4 _ (by decide), f3 _ (by decide), e2, cpV hk, f1 _ (by decide)]
  · show C9 50 i = C 33 i
    rw [f9 _ (by decide), f8 _ (by decide), e7, cpV hi, f6 _ (by decide), f5 _ (by decide), f4 _ (by decide), f3 _ (by decide), f2 _ (by decide), f1 _ (by decide)]
  · show C9 51 i = C 34 i
    rw [f9 _ (by decide), e8, cpV hi, f7 _ (by decide), f6 _ (by decide), f5 _ (by decide), f4 _ (by decide), f3 _ (by decide), f2 _ (by decide), f1 _ (by decide)]
  · show C9 52 i = C 35 i
    rw [e9, cpV hi, f8 _ (by decide), f7 _ (by decide), f6 _ (by decide), f5 _ (by decide), f4 _ (by decide), f3 _ (by decide), f2 _ (by decide), f1 _ (by decide)]
  · show C9 53 i = C 36 i
    rw [f9 _ (by decide), f8 _ (by decide), f7 _ (by decide), f6 _ (by decide), e5, cpV hi, f4 _ (by decide), f3 _ (by decide), f2 _ (by decide), f1 _ (by decide)]
set_option maxHeartbeats 4000000 in
theorem ofImage_c (hG : okG G) (hW : RW G (37 + 1) C W) (hN : 1000 ≤ N) : ∃ C', f_X0_copyFrom N (HP C M K O) 20 37 = some (HP C' M K O) ∧ (∀ x, x < 20 ∨ 36 < x → C' x = C x) ∧ RW G (20 + 1) C' (clr W) ∧ C' 20 2 = C 37 2 ∧ C' 20 8 = C 37 8 ∧ C' 20 3 = C 37 3 ∧ (∀ k, k < 3 → C' (20 + 12) k = C (37 + 12) k) ∧ (∀ i, i < 8 → C' (20 + 13) i = C (37 + 13) i ∧ C' (20 + 14) i = C (37 + 14) i ∧ C' (20 + 15) i = C (37 + 15) i) ∧ ∀ i, i < 1720 → C' (20 + 16) i = C (37 + 16) i := by
  obtain ⟨C1, q1, q2, q3⟩ := copyFrom_c (M := M) (K := K) (O := O) w21 w38 (by decide) hG hW hN
  obtain ⟨C2, e2⟩ : ∃ C2, C2 = cps C1 49 0 32 0 3 := ⟨_, rfl⟩
  obtain ⟨C3, e3⟩ : ∃ C3, C3 = up C2 20 2 (C 37 2) := ⟨_, rfl⟩
  obtain ⟨C4, e4⟩ : ∃ C4, C4 = up C3 20 8 (C 37 8) := ⟨_, rfl⟩
  obtain ⟨C5, e5⟩ : ∃ C5, C5 = cps C4 53 0 36 0 1720 := ⟨_, rfl⟩
  obtain ⟨C6, e6⟩ : ∃ C6, C6 = up C5 20 3 (C 37 3) := ⟨_, rfl⟩
  obtain ⟨C7, e7⟩ : ∃ C7, C7 = cps C6 50 0 33 0 8 := ⟨_, rfl⟩
  obtain ⟨C8, e8⟩ : ∃ C8, C8 = cps C7 51 0 34 0 8 := ⟨_, rfl⟩
  obtain ⟨C9, e9⟩ : ∃ C9, C9 = cps C8 52 0 35 0 8 := ⟨_, rfl⟩
  have f1 : ∀ x, x < 20 + 1 ∨ 20 + 11 < x → C1 x = C x := fun x hx => q2 x (by omega)
  have f2 : ∀ x, x ≠ 32 → C2 x = C1 x := fun x hx => by rw [e2, cpO hx]
  have f3 : ∀ x, x ≠ 20 → C3 x = C2 x := fun x hx => by rw [e3, up_o hx]
  have f4 : ∀ x, x ≠ 20 → C4 x = C3 x := fun x hx => by rw [e4, up_o hx]
  have f5 : ∀ x, x ≠ 36 → C5 x = C4 x := fun x hx => by rw [e5, cpO hx]
  have f6 : ∀ x, x ≠ 20 → C6 x = C5 x := fun x hx => by rw [e6, up_o hx]
  have f7 : ∀ x, x ≠ 33 → C7 x = C6 x := fun x hx => by rw [e7, cpO hx]
  have f8 : ∀ x, x ≠ 34 → C8 x = C7 x := fun x hx => by rw [e8, cpO hx]
  have f9 : ∀ x, x ≠ 35 → C9 x = C8 x := fun x hx => by rw [e9, cpO hx]
  have g2 : C2 37 2 = C 37 2 := by rw [f2 _ (by decide), f1 _ (by decide)]
  have g3 : C3 37 8 = C 37 8 := by rw [f3 _ (by decide), f2 _ (by decide), f1 _ (by decide)]
  have g5 : C5 37 3 = C 37 3 := by rw [f5 _ (by decide), f4 _ (by decide), f3 _ (by decide), f2 _ (by decide), f1 _ (by decide)]
  have l2 : jln 0 (HP C1 M K O) 32 = some (nI 3) := by simp only [lnH]
  have l5 : jln 0 (HP C4 M K O) 36 = some (nI 1720) := by simp only [lnH]
  have c2 : jcp (HP C1 M K O) 49 0 32 0 (nI 3) = some (HP C2 M K O) := by rw [e2]; exact cpN (by decide) (by decide) (by decide) rfl C1
  have c5 : jcp (HP C4 M K O) 53 0 36 0 (nI 1720) = some (HP C5 M K O) := by rw [e5]; exact cpN (by decide) (by decide) (by decide) rfl C4
  have c7 : jcp (HP C6 M K O) 50 0 33 0 8 = some (HP C7 M K O) := by rw [e7]; exact cpN (by decide) (by decide) (by decide) rfl C6
  have c8 : jcp (HP C7 M K O) 51 0 34 0 8 = some (HP C8 M K O) := by rw [e8]; exact cpN (by decide) (by decide) (by decide) rfl C7
  have c9 : jcp (HP C8 M K O) 52 0 35 0 8 = some (HP C9 M K O) := by rw [e9]; exact cpN (by decide) (by decide) (by decide) rfl C8
  refine ⟨C9, ?_, fun x hx => ?_, RW_same q3 (fun i hi => ?_), ?_, ?_, ?_, fun k hk => ?_, fun i hi => ⟨?_, ?_, ?_⟩, fun i hi => ?_⟩
  · simp only [f_X0_copyFrom, ↓b_rdC, ↓bnd q1, ↓bnd l2, ↓bnd c2, g2, ↓b_wrC]
    rw [← e3]
    simp only [↓b_rdC, g3, ↓b_wrC]
    rw [← e4]
    simp only [↓b_rdC, ↓bnd l5, ↓bnd c5, g5, ↓b_wrC]
    rw [← e6]
    simp only [↓b_rdC, ↓bnd c7, ↓bnd c8, ↓bnd c9]
  · rw [f9 x (by omega), f8 x (by omega), f7 x (by omega), f6 x (by omega), f5 x (by omega), f4 x (by omega), f3 x (by omega), f2 x (by omega), f1 x (by omega)]
  · rw [f9 _ (by omega), f8 _ (by omega), f7 _ (by omega), f6 _ (by omega), f5 _ (by omega), f4 _ (by omega), f3 _ (by omega), f2 _ (by omega)]
  · rw [f9 _ (by decide), f8 _ (by decide), f7 _ (by decide), e6, up_s, upd_o (by decide), f5 _ (by decide), e4, up_s, upd_o (by decide), e3, up_s, upd_s]
  · rw [f9 _ (by decide), f8 _ (by decide), f7 _ (by decide), e6, up_s, upd_o (by decide), f5 _ (by decide), e4, up_s, upd_s]
  · rw [f9 _ (by decide), f8 _ (by decide), f7 _ (by decide), e6, up_s, upd_s]
  · show C9 32 k = C 49 k
    rw [f9 _ (by decide), f8 _ (by decide), f7 _ (by decide), f6 _ (by decide), f5 _ (by decide), f4 _ (by decide), f3 _ (by decide), e2, cpV hk, f1 _ (by decide)]
  · show C9 33 i = C 50 i
    rw [f9 _ (by decide), f8 _ (by decide), e7, cpV hi, f6 _ (by decide), f5 _ (by decide), f4 _ (by decide), f3 _ (by decide), f2 _ (by decide), f1 _ (by decide)]
  · show C9 34 i = C 51 i
    rw [f9 _ (by decide), e8, cpV hi, f7 _ (by decide), f6 _ (by decide), f5 _ (by decide), f4 _ (by decide), f3 _ (by decide), f2 _ (by decide), f1 _ (by decide)]
  · show C9 35 i = C 52 i
    rw [e9, cpV hi, f8 _ (by decide), f7 _ (by decide), f6 _ (by decide), f5 _ (by decide), f4 _ (by decide), f3 _ (by decide), f2 _ (by decide), f1 _ (by decide)]
  · show C9 36 i = C 53 i
    rw [f9 _ (by decide), f8 _ (by decide), f7 _ (by decide), f6 _ (by decide), e5, cpV hi, f4 _ (by decide), f3 _ (by decide), f2 _ (by decide), f1 _ (by decide)]
set_option maxHeartbeats 4000000 in
theorem copyTo_m {d s n : Nat} (hl : ∀ M, jln 0 (HP C M K O) d = some (nI n)) (hr : ∀ M j, j < n → jal 0 (HP C M K O) s (nI j) = some (M s j)) (hw : ∀ M j v, j < n → jas 0 (HP C M K O) d (nI j) v = some (HP C (up M d j v) K O)) (hd : s ≠ d) (hn : n ≤ 1720) (hN : 10000 ≤ N) : ∃ M', f_X7_copyTo N (HP C M K O) d s = some (HP C M' K O) ∧ (∀ x, x ≠ d → M' x = M x) ∧ ∀ i, i < n → M' d i = M s i := by
  have A := itr_inv (body := fun q : Int32 × AH => f_X7_copyTo_l2 N d s q.1 q.2)
    (fun k q => ∃ M', q = (nI k, HP C M' K O) ∧ (∀ x, x ≠ d → M' x = M x) ∧ ∀ i, i < k → M' d i = M s i)
    (P := fun r => ∃ M', r = HP C M' K O ∧ (∀ x, x ≠ d → M' x = M x) ∧ ∀ i, i < n → M' d i = M s i) (n := n) ?_ ?_ (s := (0, HP C M K O)) ⟨M, rfl, fun _ _ => rfl, fun i hi => absurd hi (Nat.not_lt_zero i)⟩ (N := N) (by omega)
  · obtain ⟨r, a1, M2, e, a2⟩ := A
    rw [e] at a1
    refine ⟨M2, ?_, a2⟩
    simp only [f_X7_copyTo, f_X7_copyTo_b2, a1, Option.bind_some]
  · rintro k q hk ⟨M2, rfl, h1, h2⟩
    left
    refine ⟨(nI (k + 1), HP C (up M2 d k (M2 s k)) K O), ?_, _, rfl, fun x hx => (up_o hx).trans (h1 x hx), fun i hi => ?_⟩
    · simp only [f_X7_copyTo_l2, ↓bnd (hl M2), nle hk (by omega), ↓reduceIte, ↓bnd (hr M2 k hk), ↓bnd (hw M2 k _ hk), nI_1]
    · rw [up_s]; unfold upd; split
      · rename_i z; rw [z, h1 s hd]
      · exact h2 i (by omega)
  · rintro q ⟨M2, rfl, h1, h2⟩
    refine ⟨_, ?_, M2, rfl, h1, h2⟩
    simp only [f_X7_copyTo_l2, ↓bnd (hl M2), yle (Nat.le_refl n) (by omega), ↓reduceIte]
theorem ct_106 (hN : 10000 ≤ N) : ∃ M', f_X7_copyTo N (HP C M K O) 106 92 = some (HP C M' K O) ∧ (∀ x, x ≠ 106 → M' x = M x) ∧ ∀ i, i < 1720 → M' 106 i = M 92 i := copyTo_m (n := 1720) (fun M => by simp only [lnH]) (fun M j hj => by simp only [raM, hj]) (fun M j v hj => by simp only [waM, hj]) (by decide) (by decide) hN
theorem ct_107 (hN : 10000 ≤ N) : ∃ M', f_X7_copyTo N (HP C M K O) 107 98 = some (HP C M' K O) ∧ (∀ x, x ≠ 107 → M' x = M x) ∧ ∀ i, i < 8 → M' 107 i = M 98 i := copyTo_m (n := 8) (fun M => by simp only [lnH]) (fun M j hj => by simp only [raM, hj]) (fun M j v hj => by simp only [waM, hj]) (by decide) (by decide) hN
theorem ct_108 (hN : 10000 ≤ N) : ∃ M', f_X7_copyTo N (HP C M K O) 108 99 = some (HP C M' K O) ∧ (∀ x, x ≠ 108 → M' x = M x) ∧ ∀ i, i < 8 → M' 108 i = M 99 i := copyTo_m (n := 8) (fun M => by simp only [lnH]) (fun M j hj => by simp only [raM, hj]) (fun M j v hj => by simp only [waM, hj]) (by decide) (by decide) hN
theorem ct_109 (hN : 10000 ≤ N) : ∃ M', f_X7_copyTo N (HP C M K O) 109 100 = some (HP C M' K O) ∧ (∀ x, x ≠ 109 → M' x = M x) ∧ ∀ i, i < 8 → M' 109 i = M 100 i := copyTo_m (n := 8) (fun M => by simp only [lnH]) (fun M j hj => by simp only [raM, hj]) (fun M j v hj => by simp only [waM, hj]) (by decide) (by decide) hN
theorem ct_110 (hN : 10000 ≤ N) : ∃ M', f_X7_copyTo N (HP C M K O) 110 84 = some (HP C M' K O) ∧ (∀ x, x ≠ 110 → M' x = M x) ∧ ∀ i, i < 3 → M' 110 i = M 84 i := copyTo_m (n := 3) (fun M => by simp only [lnH]) (fun M j hj => by simp only [raM, hj]) (fun M j v hj => by simp only [waM, hj]) (by decide) (by decide) hN
theorem ct_92 (hN : 10000 ≤ N) : ∃ M', f_X7_copyTo N (HP C M K O) 92 106 = some (HP C M' K O) ∧ (∀ x, x ≠ 92 → M' x = M x) ∧ ∀ i, i < 1720 → M' 92 i = M 106 i := copyTo_m (n := 1720) (fun M => by simp only [lnH]) (fun M j hj => by simp only [raM, hj]) (fun M j v hj => by simp only [waM, hj]) (by decide) (by decide) hN
theorem ct_98 (hN : 10000 ≤ N) : ∃ M', f_X7_copyTo N (HP C M K O) 98 107 = some (HP C M' K O) ∧ (∀ x, x ≠ 98 → M' x = M x) ∧ ∀ i, i < 8 → M' 98 i = M 107 i := copyTo_m (n := 8) (fun M => by simp only [lnH]) (fun M j hj => by simp only [raM, hj]) (fun M j v hj => by simp only [waM, hj]) (by decide) (by decide) hN
theorem ct_99 (hN : 10000 ≤ N) : ∃ M', f_X7_copyTo N (HP C M K O) 99 108 = some (HP C M' K O) ∧ (∀ x, x ≠ 99 → M' x = M x) ∧ ∀ i, i < 8 → M' 99 i = M 108 i := copyTo_m (n := 8) (fun M => by simp only [lnH]) (fun M j hj => by simp only [raM, hj]) (fun M j v hj => by simp only [waM, hj]) (by decide) (by decide) hN
theorem ct_100 (hN : 10000 ≤ N) : ∃ M', f_X7_copyTo N (HP C M K O) 100 109 = some (HP C M' K O) ∧ (∀ x, x ≠ 100 → M' x = M x) ∧ ∀ i, i < 8 → M' 100 i = M 109 i := copyTo_m (n := 8) (fun M => by simp only [lnH]) (fun M j hj => by simp only [raM, hj]) (fun M j v hj => by simp only [waM, hj]) (by decide) (by decide) hN
theorem ct_84 (hN : 10000 ≤ N) : ∃ M', f_X7_copyTo N (HP C M K O) 84 110 = some (HP C M' K O) ∧ (∀ x, x ≠ 84 → M' x = M x) ∧ ∀ i, i < 3 → M' 84 i = M 110 i := copyTo_m (n := 3) (fun M => by simp only [lnH]) (fun M j hj => by simp only [raM, hj]) (fun M j v hj => by simp only [waM, hj]) (by decide) (by decide) hN
theorem RA_cp {b b' ac ac' pa pa' : Nat} (hG : okG G) (h : RA G C b M ac pa) (h1 : C' b' 2 = C b 2) (h2 : C' b' 8 = C b 8) (h3 : ∀ i, i < 1720 → C' (b' + 16) i = C (b + 16) i) (h4 : M' 71 ac' = M 71 ac) (h5 : ∀ i, i < 1720 → M' pa' i = M pa i) : RA G C' b' M' ac' pa' := by
  obtain ⟨n, o, r1, r2, r3, r4, r5, r6⟩ := h
  refine ⟨n, o, r1, r2, h1.trans r3, h2.trans r4, h4.trans r5, fun i hi => RRow_congr hG (r6 i hi) (fun x hx => h3 _ (by omega)) (fun x hx => h5 _ (by omega))⟩
theorem RS_cp {b b' sn sn' w1 w1' w2 w2' w3 w3' : Nat} (h : RS G C b M sn w1 w2 w3) (h1 : C' b' 3 = C b 3) (h2 : ∀ i, i < 8 → C' (b' + 13) i = C (b + 13) i ∧ C' (b' + 14) i = C (b + 14) i ∧ C' (b' + 15) i = C (b + 15) i) (h3 : M' 71 sn' = M 71 sn) (h4 : ∀ i, i < 8 → M' w1' i = M w1 i) (h5 : ∀ i, i < 8 → M' w2' i = M w2 i) (h6 : ∀ i, i < 8 → M' w3' i = M w3 i) : RS G C' b' M' sn' w1' w2' w3' := by
  obtain ⟨q, q1, q2, q3, q4⟩ := h
  refine ⟨q, q1, h1.trans q2, h3.trans q3, fun i hi => ?_⟩
  obtain ⟨x1, x2, x3⟩ := h2 i (by omega)
  rw [x1, x2, x3, h4 i (by omega), h5 i (by omega), h6 i (by omega)]
  exact q4 i hi
set_option maxHeartbeats 4000000 in
theorem a_image (h : REL K C M G W) (hN : 10000 ≤ N) : AE K M O (f_X6_image N (HP C M K O) 0) (fun C' K' O' => f_X7_image N (HP C' M K' O') 71) := by
  have hc := h.1.1
  have hm := h.1.2.1
  have hl := h.1.2.2
  have hJ := hm.1.2.2.1
  have hR := hm.1.2.1
  obtain ⟨C1, b1, b2, b3, b4, b5, b6, b7, b8, b9⟩ := toImage_c (M := M) (K := K) (O := O) (N := N) hm.1 hc.2.2.2.1 (by omega)
  have k01 : ∀ x, x ≠ 0 → up C1 0 7 1 x = C1 x := fun x hx => up_o hx
  refine ⟨up C1 0 7 1, K, ?_, fun O' => ?_⟩
  · simp only [f_X6_image, ↓b_rdC, ↓bnd b1, jwz_eq (v := 1) (.inr rfl), ↓b_wrC]
  · obtain ⟨M1, e1⟩ : ∃ M1, M1 = up (up (up (up M 71 4 0) 71 52 1) 71 53 (M 71 35)) 71 54 (M 71 36) := ⟨_, rfl⟩
    have y1 : up (up M 71 4 0) 71 52 1 71 35 = M 71 35 := by rw [up_s, upd_o (by decide), up_s, upd_o (by decide)]
    have y2 : up (up (up M 71 4 0) 71 52 1) 71 53 (M 71 35) 71 36 = M 71 36 := by rw [up_s, upd_o (by decide), up_s, upd_o (by decide), up_s, upd_o (by decide)]
    have mo1 : ∀ x, x ≠ 71 → M1 x = M x := fun x hx => by rw [e1, up_o hx, up_o hx, up_o hx, up_o hx]
    have mk1 : ∀ k, k ≠ 4 → k ≠ 52 → k ≠ 53 → k ≠ 54 → M1 71 k = M 71 k := fun k z1 z2 z3 z4 => by rw [e1, up_s, upd_o z4, up_s, upd_o z3, up_s, upd_o z2, up_s, upd_o z1]
    have m52 : M1 71 52 = 1 := by rw [e1, up_s, upd_o (by decide), up_s, upd_o (by decide), up_s, upd_s]
    have m53 : M1 71 53 = M 71 35 := by rw [e1, up_s, upd_o (by decide), up_s, upd_s]
    have m54 : M1 71 54 = M 71 36 := by rw [e1, up_s, upd_s]
    obtain ⟨M2, p1, p2, p3⟩ := pack_m (C := up C1 0 7 1) (M := M1) (K := K) (O := O') (N := N) (pa := 105) (ln := 43) (f := 0) (.inr (.inr (.inl ⟨rfl, rfl⟩))) (by decide) (by omega)
    rw [show nI 0 = 0 from rfl] at p1
    obtain ⟨M3, u1, u2, u3⟩ := ct_106 (C := up C1 0 7 1) (M := M2) (K := K) (O := O') hN
    obtain ⟨M4, v1, v2, v3⟩ := ct_107 (C := up C1 0 7 1) (M := M3) (K := K) (O := O') hN
    obtain ⟨M5, w1, w2, w3⟩ := ct_108 (C := up C1 0 7 1) (M := M4) (K := K) (O := O') hN
    obtain ⟨M6, x1, x2, x3⟩ := ct_109 (C := up C1 0 7 1) (M := M5) (K := K) (O := O') hN
    obtain ⟨M7, z1, z2, z3⟩ := ct_110 (C := up C1 0 7 1) (M := M6) (K := K) (O := O') hN
    have mo : ∀ x, x ≠ 71 → x < 105 ∨ 110 < x → M7 x = M x := fun x h1 h2 => by rw [z2 x (by omega), x2 x (by omega), w2 x (by omega), v2 x (by omega), u2 x (by omega), p2 x (by omega), mo1 x h1]
    have m71 : ∀ k, M7 71 k = M1 71 k := fun k => by rw [z2 71 (by decide), x2 71 (by decide), w2 71 (by decide), v2 71 (by decide), u2 71 (by decide), p2 71 (by decide)]
    have r105 : ∀ i, i < 43 → M7 105 i = rowM M i := fun i hi => by
      rw [z2 105 (by decide), x2 105 (by decide), w2 105 (by decide), v2 105 (by decide), u2 105 (by decide), p3 i, if_pos (by omega), Nat.sub_zero]
      unfold rowM
      rw [mk1 34 (by decide) (by decide) (by decide) (by decide), mo1 87 (by decide), mo1 88 (by decide), mo1 89 (by decide), mo1 90 (by decide), mo1 91 (by decide)]
    have a106 : ∀ i, i < 1720 → M7 106 i = M 92 i := fun i hi => by rw [z2 106 (by decide), x2 106 (by decide), w2 106 (by decide), v2 106 (by decide), u3 i hi, p2 92 (by decide), mo1 92 (by decide)]
    have a107 : ∀ i, i < 8 → M7 107 i = M 98 i := fun i hi => by rw [z2 107 (by decide), x2 107 (by decide), w2 107 (by decide), v3 i hi, u2 98 (by decide), p2 98 (by decide), mo1 98 (by decide)]
    have a108 : ∀ i, i < 8 → M7 108 i = M 99 i := fun i hi => by rw [z2 108 (by decide), x2 108 (by decide), w3 i hi, v2 99 (by decide), u2 99 (by decide), p2 99 (by decide), mo1 99 (by decide)]
    have a109 : ∀ i, i < 8 → M7 109 i = M 100 i := fun i hi => by rw [z2 109 (by decide), x3 i hi, w2 100 (by decide), v2 100 (by decide), u2 100 (by decide), p2 100 (by decide), mo1 100 (by decide)]
    have a110 : ∀ i, i < 3 → M7 110 i = M 84 i := fun i hi => by rw [z3 i hi, x2 84 (by decide), w2 84 (by decide), v2 84 (by decide), u2 84 (by decide), p2 84 (by decide), mo1 84 (by decide)]
    obtain ⟨⟨a1, a2, a3⟩, rb, rd, re, rf, rg, ri, rk⟩ := h
    obtain ⟨h1, h2, h3, h4, h5⟩ := a1
    have cf : ∀ x, x ≠ 0 → x < 37 → up C1 0 7 1 x = C x := fun x q1 q2 => by rw [k01 x q1, b2 x (by omega)]
    have c0 : ∀ k, k ≠ 7 → up C1 0 7 1 0 k = C 0 k := fun k hk => by rw [up_s, upd_o hk, b2 0 (by decide)]
    have kq : ∀ k, k ≠ 4 → k ≠ 52 → k ≠ 53 → k ≠ 54 → M7 71 k = M 71 k := fun k q1 q2 q3 q4 => by rw [m71, mk1 k q1 q2 q3 q4]
    refine ⟨M7, K, G, W, ?_, ⟨⟨h1, h2, ?_, RW_same h4 (fun i hi => cf _ (by omega) (by omega)), h5⟩, ⟨h2, ?_, ?_, h5⟩, a3⟩, RT_fr rb (c0 1 (by decide)) (cf 1 (by decide) (by decide)) (kq 17 (by decide) (by decide) (by decide) (by decide)) (mo 86 (by decide) (by decide)), ?_, RA_fr re (cf 20 (by decide) (by decide)) (cf 36 (by decide) (by decide)) (kq 35 (by decide) (by decide) (by decide) (by decide)) (mo 92 (by decide) (by decide)), RS_fr rf (cf 20 (by decide) (by decide)) (cf 33 (by decide) (by decide)) (cf 34 (by decide) (by decide)) (cf 35 (by decide) (by decide)) (kq 36 (by decide) (by decide) (by decide) (by decide)) (mo 98 (by decide) (by decide)) (mo 99 (by decide) (by decide)) (mo 100 (by decide) (by decide)), fun x hx => ?_, .inr ⟨?_, ?_, ?_, ?_, ?_, fun k hk => ?_⟩, rk⟩
    · simp only [f_X7_image, ↓b_wrM, jwz_eq (v := 1) (.inr rfl), ↓b_rdM, y1, y2]
      rw [← e1]
      simp only [↓b_rdM, ↓bnd p1, ↓bnd u1, ↓bnd v1, ↓bnd w1, ↓bnd x1, ↓bnd z1]
    · have e : ∀ i, i ≤ 7 → up C1 0 7 1 (K.1 + i) = C (K.1 + i) := fun i hi => cf _ (by rcases h1 with e | e <;> rw [e] <;> omega) (by rcases h1 with e | e <;> rw [e] <;> omega)
      have e0 : up C1 0 7 1 K.1 = C K.1 := e 0 (by omega)
      unfold RG
      rw [e0, e 4 (by omega), e 5 (by omega), e 6 (by omega), e 7 (by omega)]
      exact h3
    · unfold RGm
      rw [mo 75 (by decide) (by decide), mo 81 (by decide) (by decide), mo 78 (by decide) (by decide), mo 82 (by decide) (by decide), mo 83 (by decide) (by decide)]
      exact a2.2.1
    · have := a2.2.2.1
      unfold RWm at this ⊢
      rw [kq 34 (by decide) (by decide) (by decide) (by decide), mo 87 (by decide) (by decide), mo 88 (by decide) (by decide), mo 89 (by decide) (by decide), mo 85 (by decide) (by decide), mo 95 (by decide) (by decide), mo 90 (by decide) (by decide), mo 91 (by decide) (by decide)]
      exact ⟨this.1, fun q => (Bool.noConfusion q), this.2.2⟩
    · rw [c0 2 (by decide), kq 26 (by decide) (by decide) (by decide) (by decide)]; exact rd
    · rw [cf 32 (by decide) (by decide), mo 84 (by decide) (by decide)]; exact rg x hx
    · rw [up_s, upd_s]
    · rw [m71, m52]
    · obtain ⟨s1, _, s2, s3⟩ := hm.2.2.1
      refine ⟨clr W, okW_clr h5, hl, RW_same b3 (fun i hi => k01 _ (by omega)), ?_, fun j hj => ?_, fun r hr => ?_⟩
      · exact (r105 0 (by decide)).trans s1
      · rw [r105 (1 + j) (by omega), r105 (9 + j) (by omega), r105 (17 + j) (by omega), rowM_1 (by omega), rowM_9 (by omega), rowM_17 (by omega)]
        exact ⟨(s2 j hj).1, (s2 j hj).2.1, (s2 j hj).2.2.1⟩
      · rw [r105 (25 + r) (by omega), r105 (34 + r) (by omega), rowM_25 (by omega), rowM_34 (by omega)]
        exact s3 r hr
    · exact RA_cp hm.1 re (by rw [k01 37 (by decide)]; exact b4) (by rw [k01 37 (by decide)]; exact b5) (fun i hi => by rw [k01 (37 + 16) (by decide)]; exact b9 i hi) (by rw [m71, m53]) a106
    · exact RS_cp rf (by rw [k01 37 (by decide)]; exact b6) (fun i hi => by rw [k01 (37 + 13) (by decide), k01 (37 + 14) (by decide), k01 (37 + 15) (by decide)]; exact b8 i hi) (by rw [m71, m54]) a107 a108 a109
    · rw [k01 49 (by decide), a110 k hk]
      exact (b7 k hk).trans (rg k hk)
set_option maxHeartbeats 4000000 in
theorem a_restore (h : REL K C M G W) (hN : 10000 ≤ N) : AD K M O (f_X6_restore N (HP C M K O) 0) (fun C' K' O' => f_X7_restore N (HP C' M K' O') 71) := by
  have hc := h.1.1
  have hm := h.1.2.1
  have hl := h.1.2.2
  have hJ := hm.1.2.2.1
  have hR := hm.1.2.1
  have t1 : ¬ (1 : Int32) = 0 := by decide
  rcases h.2.2.2.2.2.2.1 with ⟨i1, i2⟩ | ⟨i1, i2, ⟨V, v1, v2, v3, v4, v5, v6⟩, i4, i5, i6⟩
  · refine ⟨0, C, K, ?_, fun O' => ⟨up M 71 4 0, K, G, W, ?_, REL_q h (fun _ _ => rfl) (EQ_code M 0)⟩⟩
    · simp only [f_X6_restore, ↓b_rdC, i1, ↓reduceIte]
    · have e : up M 71 4 0 71 52 = 0 := by rw [up_s, upd_o (by decide)]; exact i2
      simp only [f_X7_restore, ↓b_wrM, ↓b_rdM, e, ↓reduceIte]
  · obtain ⟨C1, b1, b2, b3, b4, b5, b6, b7, b8, b9⟩ := ofImage_c (M := M) (K := K) (O := O) (N := N) hm.1 v3 (by omega)
    refine ⟨1, C1, K, ?_, fun O' => ?_⟩
    · simp only [f_X6_restore, ↓b_rdC, i1, t1, ↓reduceIte, ↓bnd b1]
    · obtain ⟨M1, e1⟩ : ∃ M1, M1 = up (up (up M 71 4 0) 71 35 (M 71 53)) 71 36 (M 71 54) := ⟨_, rfl⟩
      have y0 : up M 71 4 0 71 52 = 1 := by rw [up_s, upd_o (by decide)]; exact i2
      have y1 : up M 71 4 0 71 53 = M 71 53 := by rw [up_s, upd_o (by decide)]
      have y2 : up (up M 71 4 0) 71 35 (M 71 53) 71 54 = M 71 54 := by rw [up_s, upd_o (by decide), up_s, upd_o (by decide)]
      have mo1 : ∀ x, x ≠ 71 → M1 x = M x := fun x hx => by rw [e1, up_o hx, up_o hx, up_o hx]
      have mk1 : ∀ k, k ≠ 4 → k ≠ 35 → k ≠ 36 → M1 71 k = M 71 k := fun k z1 z2 z3 => by rw [e1, up_s, upd_o z3, up_s, upd_o z2, up_s, upd_o z1]
      have m35 : M1 71 35 = M 71 53 := by rw [e1, up_s, upd_o (by decide), up_s, upd_s]
      have m36 : M1 71 36 = M 71 54 := by rw [e1, up_s, upd_s]
      obtain ⟨M2, p1, p2, p3, p4, p5⟩ := unpack_m (C := C1) (M := M1) (K := K) (O := O') (N := N) (pa := 105) (ln := 43) (f := 0) (.inr (.inr (.inl ⟨rfl, rfl⟩))) (by decide) (by omega)
      rw [show nI 0 = 0 from rfl] at p1
      rw [mo1 105 (by decide)] at p3 p4 p5
      obtain ⟨M3, u1, u2, u3⟩ := ct_92 (C := C1) (M := M2) (K := K) (O := O') hN
      obtain ⟨M4, q1, q2, q3⟩ := ct_98 (C := C1) (M := M3) (K := K) (O := O') hN
      obtain ⟨M5, w1, w2, w3⟩ := ct_99 (C := C1) (M := M4) (K := K) (O := O') hN
      obtain ⟨M6, x1, x2, x3⟩ := ct_100 (C := C1) (M := M5) (K := K) (O := O') hN
      obtain ⟨M7, z1, z2, z3⟩ := ct_84 (C := C1) (M := M6) (K := K) (O := O') hN
      have up1 : ∀ x, x ≠ 92 → x ≠ 98 → x ≠ 99 → x ≠ 100 → x ≠ 84 → M7 x = M2 x := fun x a1 a2 a3 a4 a5 => by rw [z2 x a5, x2 x a4, w2 x a3, q2 x a2, u2 x a1]
      have lo2 : ∀ x, x ≠ 71 → x ≠ 87 → x ≠ 88 → x ≠ 89 → x ≠ 90 → x ≠ 91 → M2 x = M x := fun x a1 a2 a3 a4 a5 a6 => by rw [p2 x a1 a2 a3 a4 a5 a6, mo1 x a1]
      have m71 : ∀ k, k ≠ 34 → M7 71 k = M1 71 k := fun k hk => by rw [up1 71 (by decide) (by decide) (by decide) (by decide) (by decide), p3 k, if_neg hk]
      have a92 : ∀ i, i < 1720 → M7 92 i = M 106 i := fun i hi => by rw [z2 92 (by decide), x2 92 (by decide), w2 92 (by decide), q2 92 (by decide), u3 i hi, lo2 106 (by decide) (by decide) (by decide) (by decide) (by decide) (by decide)]
      have a98 : ∀ i, i < 8 → M7 98 i = M 107 i := fun i hi => by rw [z2 98 (by decide), x2 98 (by decide), w2 98 (by decide), q3 i hi, u2 107 (by decide), lo2 107 (by decide) (by decide) (by decide) (by decide) (by decide) (by decide)]
      have a99 : ∀ i, i < 8 → M7 99 i = M 108 i := fun i hi => by rw [z2 99 (by decide), x2 99 (by decide), w3 i hi, q2 108 (by decide), u2 108 (by decide), lo2 108 (by decide) (by decide) (by decide) (by decide) (by decide) (by decide)]
      have a100 : ∀ i, i < 8 → M7 100 i = M 109 i := fun i hi => by rw [z2 100 (by decide), x3 i hi, w2 109 (by decide), q2 109 (by decide), u2 109 (by decide), lo2 109 (by decide) (by decide) (by decide) (by decide) (by decide) (by decide)]
      have a84 : ∀ i, i < 3 → M7 84 i = M 110 i := fun i hi => by rw [z3 i hi, x2 110 (by decide), w2 110 (by decide), q2 110 (by decide), u2 110 (by decide), lo2 110 (by decide) (by decide) (by decide) (by decide) (by decide) (by decide)]
      have mo : ∀ x, (x = 75 ∨ x = 78 ∨ x = 81 ∨ x = 82 ∨ x = 83 ∨ x = 85 ∨ x = 86 ∨ (105 ≤ x ∧ x ≤ 110)) → M7 x = M x := fun x hx => by rw [up1 x (by omega) (by omega) (by omega) (by omega) (by omega), lo2 x (by omega) (by omega) (by omega) (by omega) (by omega) (by omega)]
      have kq : ∀ k, k ≠ 4 → k ≠ 34 → k ≠ 35 → k ≠ 36 → M7 71 k = M 71 k := fun k a1 a2 a3 a4 => by rw [m71 k a2, mk1 k a1 a3 a4]
      obtain ⟨⟨a1, a2, a3⟩, rb, rd, re, rf, rg, ri, rk⟩ := h
      obtain ⟨h1, h2, h3, h4, h5⟩ := a1
      have cf : ∀ x, x < 20 ∨ 36 < x → C1 x = C x := fun x hx => b2 x hx
      refine ⟨M7, K, G, clr V, ?_, ⟨⟨h1, h2, ?_, b3, okW_clr v1⟩, ⟨h2, ?_, ⟨?_, fun q => (Bool.noConfusion q), fun j hj => ?_, fun r hr => ?_⟩, okW_clr v1⟩, v2⟩, RT_fr rb (by rw [cf 0 (by decide)]) (cf 1 (by decide)) (kq 17 (by decide) (by decide) (by decide) (by decide)) (mo 86 (by omega)), ?_, RA_cp hm.1 i4 b4 b5 b9 (by rw [m71 35 (by decide), m35]) a92, RS_cp i5 b6 b8 (by rw [m71 36 (by decide), m36]) a98 a99 a100, fun x hx => ?_, RIm_fr ri (by rw [cf 0 (by decide)]) (fun x y z => cf x (by omega)) (fun k hk => kq k (by omega) (by omega) (by omega) (by omega)) (fun x y z => mo x (by omega)), rk⟩
      · simp only [f_X7_restore, ↓b_wrM, ↓b_rdM, y0, t1, ↓reduceIte, y1, y2]
        rw [← e1]
        simp only [↓b_rdM, ↓bnd p1, ↓bnd u1, ↓bnd q1, ↓bnd w1, ↓bnd x1, ↓bnd z1]
      · have e : ∀ i, i ≤ 7 → C1 (K.1 + i) = C (K.1 + i) := fun i hi => cf _ (by rcases h1 with e | e <;> rw [e] <;> omega)
        have e0 : C1 K.1 = C K.1 := e 0 (by omega)
        unfold RG
        rw [e0, e 4 (by omega), e 5 (by omega), e 6 (by omega), e 7 (by omega)]
        exact h3
      · unfold RGm
        rw [mo 75 (by omega), mo 81 (by omega), mo 78 (by omega), mo 82 (by omega), mo 83 (by omega)]
        exact a2.2.1
      · rw [up1 71 (by decide) (by decide) (by decide) (by decide) (by decide), p3 34, if_pos rfl]
        exact v4
      · have s := p4 j (by omega)
        have t := v5 j hj
        rw [up1 87 (by decide) (by decide) (by decide) (by decide) (by decide), up1 88 (by decide) (by decide) (by decide) (by decide) (by decide), up1 89 (by decide) (by decide) (by decide) (by decide) (by decide), mo 85 (by omega)]
        refine ⟨s.1.trans ((congrArg (M 105) (by omega)).trans t.1), s.2.1.trans ((congrArg (M 105) (by omega)).trans t.2.1), s.2.2.trans ((congrArg (M 105) (by omega)).trans t.2.2), ?_, fun q => (Bool.noConfusion q)⟩
        show M 85 j = V 4 j
        rw [(hm.2.2.1.2.2.1 j hj).2.2.2.1, hl j hj, v2 j hj]
      · have s := p5 r (by omega)
        have t := v6 r hr
        rw [up1 90 (by decide) (by decide) (by decide) (by decide) (by decide), up1 91 (by decide) (by decide) (by decide) (by decide) (by decide)]
        exact ⟨s.1.trans ((congrArg (M 105) (by omega)).trans t.1), s.2.trans ((congrArg (M 105) (by omega)).trans t.2)⟩
      · rw [cf 0 (by decide), kq 26 (by decide) (by decide) (by decide) (by decide)]; exact rd
      · rw [a84 x hx]
        exact (b7 x hx).trans (i6 x hx)
end S71
