/-! queries: the class's answer and the reference's are one; what counts stays as it was -/
def QC (K : KT) (C M : ST) (O : Nat → Int64) (x : Option ((Nat ⊕ Int32) × AH)) (r : Nat ⊕ Int32) : Prop := ∃ C', x = some (r, HP C' M K O) ∧ ∀ a, a < 54 → C' a = C a
def QD (K : KT) (C M : ST) (O : Nat → Int64) (x : Option (Int32 × AH)) (v : Int32) : Prop := ∃ C', x = some (v, HP C' M K O) ∧ ∀ a, a < 54 → C' a = C a
def QM (C M : ST) (K : KT) (O : Nat → Int64) (x : Option (Int32 × AH)) (r : Nat ⊕ Int32) : Prop := ∃ v M', x = some (v, HP C M' K O) ∧ EQm M M' ∧ Sum.elim (fun k => M' 71 4 = nI k) (fun y => M' 71 4 = 0 ∧ v = y) r
section S42
variable {C M W : ST} {K : KT} {O : Nat → Int64} {N : Nat} {G : GT} {a b c : Int32}
theorem EQ_code (M : ST) (v : Int32) : EQm M (up M 71 4 v) := ⟨⟨fun a ha => up_o (by rintro rfl; exact ha (by simp [scr])), fun k h1 _ _ _ _ => by rw [up_s, upd_o h1]⟩, by rw [up_s, upd_o (by decide)], fun j _ => ⟨by rw [up_o (by decide)], by rw [up_o (by decide)], by rw [up_o (by decide)]⟩, fun r _ => ⟨by rw [up_o (by decide)], by rw [up_o (by decide)]⟩⟩
theorem code_s (M : ST) (v : Int32) : up M 71 4 v 71 4 = v := by rw [up_s, upd_s]
theorem QM_fail {C : ST} {k : Nat} {kv : Int32} (e : kv = nI k) : ∃ M', f_X7_fail N (HP C (up M 71 4 0) K O) 71 kv = some (0, HP C M' K O) ∧ EQm M M' ∧ M' 71 4 = nI k := by
  subst e
  refine ⟨up (up M 71 4 0) 71 4 (nI k), ?_, EQm_trans (EQ_code M 0) (EQ_code _ _), code_s _ _⟩
  simp only [f_X7_fail, ↓b_wrM]
set_option maxHeartbeats 4000000 in
theorem g_then {a b c : Int32} (hc : CI K C G W) (hm : MI M G W) (hN : 1000 ≤ N) (hj : inR a (gJ G)) (hw : btw c 0 2) (hs : btw b 0 60) : ∃ r, QC K C M O (f_X6_then N (HP C M K O) 0 a b c) r ∧ ∀ C' O', QM C' M K O' (f_X7_then N (HP C' M K O') 71 a b c) r := by
  have m0 := MI_EQ hm (EQ_code M 0)
  obtain ⟨n, _, hn, rfl⟩ := hs
  have hs : btw (nI n) 0 60 := ⟨n, by omega, hn, rfl⟩
  have hj' := hj
  obtain ⟨j, hj1, rfl⟩ := hj'
  have j8 : j < 8 := by have := hm.1.2.2.1; omega
  obtain ⟨C1, t1, T1⟩ := tryFor_c (M := M) (O := O) hc (fun _ _ => rfl) hn hN
  have e1 := T1.2.1.2.1 1 j (by omega) (by omega) hj1
  have e2 := T1.2.1.2.1 2 j (by omega) (by omega) hj1
  have e3 := T1.2.1.2.1 3 j (by omega) (by omega) hj1
  refine ⟨.inr (if c = 0 then passN G n (clr W) 1 j else if c = 1 then passN G n (clr W) 2 j else passN G n (clr W) 3 j), ⟨C1, ?_, T1.1⟩, fun C' O' => ?_⟩
  · simp only [f_X6_then, ↓b_rdC, ↓bnd (needJ_y hc hj), ↓Sum.elim_inr, ↓bnd (nW2_y hw), ↓bnd (nT060_y hs), ↓bnd t1, ↓b_rW w54, ↓b_rWa w54, j8, e1, e2, e3]
    split
    · rfl
    · split <;> rfl
  · obtain ⟨M1, p1, p2, p3⟩ := TM_pack (C := C') (K := K) (O := O') (.inl rfl) m0 hN
    obtain ⟨M2, g1, g2, g3, g4⟩ := TM_goOn (C := C') (K := K) (O := O') (.inl rfl) m0 p2 hn hN
    obtain ⟨M3, u1, u2, u3, u4, u5⟩ := TM_back (C := C') (K := K) (O := O') (.inl rfl) ⟨g2.1, g2.2.1⟩ hN
    obtain ⟨d1, d2, d3, _⟩ := g2.2.2.1.2.2.1 j hj1
    refine ⟨_, M3, ?_, EQm_trans (EQ_code M 0) u2, ?_, rfl⟩
    · simp only [f_X7_then, f_X7_then_b96, ↓b_wrM, ↓b_rdM, ↓bnd (isJ_y m0.2.1 hm.1 hj), ↓reduceIte, show ¬ (1 : Int32) = 0 by decide, ↓bnd (bW2_y hw), ↓bnd (bT060_y hs), ↓bnd p1, ↓bnd g1, ↓b_raM, j8, ↓bnd u1, d1, d2, d3]
      split
      · rfl
      · split <;> rfl
    · rw [u4 4 (by decide), g3, p3 71 (by decide)]
      exact code_s M 0
set_option maxHeartbeats 4000000 in
theorem q_then {a b c : Int32} (hc : CI K C G W) (hm : MI M G W) (hN : 1000 ≤ N) : ∃ r, QC K C M O (f_X6_then N (HP C M K O) 0 a b c) r ∧ ∀ C' O', QM C' M K O' (f_X7_then N (HP C' M K O') 71 a b c) r := by
  have m0 := MI_EQ hm (EQ_code M 0)
  by_cases h0 : inR a (gJ G)
  ·
    by_cases h1 : btw c 0 2
    ·
      by_cases h2 : btw b 0 60
      · exact g_then hc hm hN h0 h1 h2
      · refine ⟨.inl 2, ⟨C, ?_, fun _ _ => rfl⟩, fun C' O' => ?_⟩
        · simp only [f_X6_then, ↓b_rdC, ↓Sum.elim_inr, ↓Sum.elim_inl, ↓bnd (needJ_y hc h0), ↓bnd (nW2_y h1), ↓bnd (nT060_n h2)]
        · obtain ⟨M', f1, f2, f3⟩ := QM_fail (N := N) (C := C') (M := M) (K := K) (O := O') (k := 2) (kv := 2) rfl
          refine ⟨0, M', ?_, f2, f3⟩
          simp only [f_X7_then_b25, f_X7_then_b96, f_X7_then, ↓b_wrM, ↓b_rdM, ↓reduceIte, show ¬ (1 : Int32) = 0 by decide, ↓bnd (isJ_y m0.2.1 hm.1 h0), ↓bnd (bW2_y h1), ↓bnd (bT060_n h2), ↓bnd f1]
    · refine ⟨.inl 1, ⟨C, ?_, fun _ _ => rfl⟩, fun C' O' => ?_⟩
      · simp only [f_X6_then, ↓b_rdC, ↓Sum.elim_inr, ↓Sum.elim_inl, ↓bnd (needJ_y hc h0), ↓bnd (nW2_n h1)]
      · obtain ⟨M', f1, f2, f3⟩ := QM_fail (N := N) (C := C') (M := M) (K := K) (O := O') (k := 1) (kv := 1) rfl
        refine ⟨0, M', ?_, f2, f3⟩
        simp only [f_X7_then_b25, f_X7_then_b96, f_X7_then, ↓b_wrM, ↓b_rdM, ↓reduceIte, show ¬ (1 : Int32) = 0 by decide, ↓bnd (isJ_y m0.2.1 hm.1 h0), ↓bnd (bW2_n h1), ↓bnd f1]
  · refine ⟨.inl 1, ⟨C, ?_, fun _ _ => rfl⟩, fun C' O' => ?_⟩
    · simp only [f_X6_then, ↓b_rdC, ↓Sum.elim_inr, ↓Sum.elim_inl, ↓bnd (needJ_n hc h0)]
    · obtain ⟨M', f1, f2, f3⟩ := QM_fail (N := N) (C := C') (M := M) (K := K) (O := O') (k := 1) (kv := 1) rfl
      refine ⟨0, M', ?_, f2, f3⟩
      simp only [f_X7_then_b25, f_X7_then_b96, f_X7_then, ↓b_wrM, ↓b_rdM, ↓reduceIte, show ¬ (1 : Int32) = 0 by decide, ↓bnd (isJ_n m0.2.1 hm.1 h0), ↓bnd f1]
end S42
