/-! reach, judge -/
section S56
variable {C M W : ST} {K : KT} {O : Nat → Int64} {N : Nat} {G : GT}
set_option maxHeartbeats 4000000 in
theorem g_reach {a c : Int32} (hc : CI K C G W) (hm : MI M G W) (hN : 1000 ≤ N) (hj : inR a (gRn G)) (hw : btw c 0 2) : ∃ r, QC K C M O (f_X6_reach N (HP C M K O) 0 a c) r ∧ ∀ C' O', QM C' M K O' (f_X7_reach N (HP C' M K O') 71 a c) r := by
  have m0 := m0_of hm
  have hj' := hj
  obtain ⟨j, hj1, rfl⟩ := hj'
  have j8 : j < 9 := by have := hm.1.2.1; omega
  have e1 := (hc.2.2.2.1.2.2 j hj1).1
  have e2 := (hc.2.2.2.1.2.2 j hj1).2
  have d1 := (m0.2.2.1.2.2.2 j hj1).1
  have d2 := (m0.2.2.1.2.2.2 j hj1).2
  refine ⟨.inr (if c = 0 then W 6 j else if c = 1 then W 7 j else setAt G W (nI j)), ⟨C, ?_, fun _ _ => rfl⟩, fun C' O' => ⟨_, up M 71 4 0, ?_, EQ_code M 0, code_s M 0, rfl⟩⟩
  · simp only [f_X6_reach, ↓b_rdC, ↓Sum.elim_inr, ↓bnd (needR_y hc hj), ↓bnd (nW2_y hw), ↓b_rW w21, ↓b_rWa w21, j8, e1, e2, ↓bnd (onesOn_w hc.1 w21 hc.2.1 hc.2.2.1 hc.2.2.2.1 hN _)]
    split
    · rfl
    · split <;> rfl
  · simp only [f_X7_reach, ↓b_wrM, ↓b_rdM, ↓b_raM, ↓reduceIte, show ¬ (1 : Int32) = 0 by decide, ↓bnd (isR_y m0.2.1 hm.1 hj), ↓bnd (bW2_y hw), j8, d1, d2, ↓bnd (whoIs_w hm.1 m0.2.1 m0.2.2.1 hN _)]
    split
    · rfl
    · split <;> rfl
set_option maxHeartbeats 4000000 in
theorem g_judge {a c : Int32} (hl : ∀ j, j < gJ G → W 4 j = gln G j) (hc : CI K C G W) (hm : MI M G W) (hj : inR a (gJ G)) : ∃ r, QC K C M O (f_X6_judge N (HP C M K O) 0 a c) r ∧ ∀ C' O', QM C' M K O' (f_X7_judge N (HP C' M K O') 71 a c) r := by
  have m0 := m0_of hm
  have hj' := hj
  obtain ⟨j, hj1, rfl⟩ := hj'
  have j8 : j < 8 := by have := hm.1.2.2.1; omega
  have j16 : j < 16 := by omega
  have e1 := hc.2.2.2.1.2.1 1 j (by omega) (by omega) hj1
  have e2 := hc.2.2.2.1.2.1 2 j (by omega) (by omega) hj1
  have e3 := hc.2.2.2.1.2.1 3 j (by omega) (by omega) hj1
  obtain ⟨e4, e5, e6⟩ := hc.2.2.1.2.2.2.1 j hj1
  obtain ⟨d1, d2, d3, d4, _⟩ := m0.2.2.1.2.2.1 j hj1
  obtain ⟨d5, d6⟩ := m0.2.1.2.2.2.1 j hj1
  have hb := (hm.1.2.2.2.1 j hj1).1
  rw [hl j hj1] at d4
  by_cases c5 : c = 0 ∨ c = 1 ∨ c = 2 ∨ c = 3 ∨ c = 4 ∨ c = 5
  · refine ⟨.inr (if c = 0 then W 1 j else if c = 1 then W 2 j else if c = 2 then W 3 j else if c = 3 then gln G j else if c = 4 then glg G j else gbg G j), ⟨C, ?_, fun _ _ => rfl⟩, fun C' O' => ⟨_, up M 71 4 0, ?_, EQ_code M 0, code_s M 0, rfl⟩⟩
    · rcases c5 with rfl | rfl | rfl | rfl | rfl | rfl
      · simp only [f_X6_judge, ↓b_rdC, ↓Sum.elim_inr, ↓bnd (needJ_y hc hj), ↓reduceIte, ↓b_rW w21, ↓b_rWa w21, j8, e1]
      · simp only [f_X6_judge, ↓b_rdC, ↓Sum.elim_inr, ↓bnd (needJ_y hc hj), ↓reduceIte, ↓b_rW w21, ↓b_rWa w21, j8, e2, show ¬ (1 : Int32) = 0 by decide]
      · simp only [f_X6_judge, ↓b_rdC, ↓Sum.elim_inr, ↓bnd (needJ_y hc hj), ↓reduceIte, ↓b_rW w21, ↓b_rWa w21, j8, e3, show ¬ (2 : Int32) = 0 by decide, show ¬ (2 : Int32) = 1 by decide]
      · simp only [f_X6_judge, ↓b_rdC, ↓Sum.elim_inr, ↓bnd (needJ_y hc hj), ↓reduceIte, ↓b_rG hc.1, ↓b_rGa hc.1, j8, e6, show ¬ (3 : Int32) = 0 by decide, show ¬ (3 : Int32) = 1 by decide, show ¬ (3 : Int32) = 2 by decide]
      · simp only [f_X6_judge, ↓b_rdC, ↓Sum.elim_inr, ↓bnd (needJ_y hc hj), ↓reduceIte, ↓b_rG hc.1, ↓b_rGa hc.1, j8, e4, show ¬ (4 : Int32) = 0 by decide, show ¬ (4 : Int32) = 1 by decide, show ¬ (4 : Int32) = 2 by decide, show ¬ (4 : Int32) = 3 by decide]
      · simp only [f_X6_judge, ↓b_rdC, ↓Sum.elim_inr, ↓bnd (needJ_y hc hj), ↓reduceIte, ↓b_rG hc.1, ↓b_rGa hc.1, j8, e5, show ¬ (5 : Int32) = 0 by decide, show ¬ (5 : Int32) = 1 by decide, show ¬ (5 : Int32) = 2 by decide, show ¬ (5 : Int32) = 3 by decide, show ¬ (5 : Int32) = 4 by decide]
        rcases hb with q | q
        · simp only [q, ↓reduceIte]
        · simp only [q, ↓reduceIte, show ¬ (1 : Int32) = 0 by decide]
    · rcases c5 with rfl | rfl | rfl | rfl | rfl | rfl
      · simp only [f_X7_judge, ↓b_wrM, ↓b_rdM, ↓b_raM, ↓reduceIte, show ¬ (1 : Int32) = 0 by decide, ↓bnd (isJ_y m0.2.1 hm.1 hj), j8, j16, d1]
      · simp only [f_X7_judge, ↓b_wrM, ↓b_rdM, ↓b_raM, ↓reduceIte, show ¬ (1 : Int32) = 0 by decide, ↓bnd (isJ_y m0.2.1 hm.1 hj), j8, j16, d2]
      · simp only [f_X7_judge, ↓b_wrM, ↓b_rdM, ↓b_raM, ↓reduceIte, show ¬ (1 : Int32) = 0 by decide, ↓bnd (isJ_y m0.2.1 hm.1 hj), j8, j16, d3, show ¬ (2 : Int32) = 0 by decide, show ¬ (2 : Int32) = 1 by decide]
      · simp only [f_X7_judge, ↓b_wrM, ↓b_rdM, ↓b_raM, ↓reduceIte, show ¬ (1 : Int32) = 0 by decide, ↓bnd (isJ_y m0.2.1 hm.1 hj), j8, j16, d4, show ¬ (3 : Int32) = 0 by decide, show ¬ (3 : Int32) = 1 by decide, show ¬ (3 : Int32) = 2 by decide]
      · simp only [f_X7_judge, ↓b_wrM, ↓b_rdM, ↓b_raM, ↓reduceIte, show ¬ (1 : Int32) = 0 by decide, ↓bnd (isJ_y m0.2.1 hm.1 hj), j8, j16, d5, show ¬ (4 : Int32) = 0 by decide, show ¬ (4 : Int32) = 1 by decide, show ¬ (4 : Int32) = 2 by decide, show ¬ (4 : Int32) = 3 by decide]
      · simp only [f_X7_judge, ↓b_wrM, ↓b_rdM, ↓b_raM, ↓reduceIte, show ¬ (1 : Int32) = 0 by decide, ↓bnd (isJ_y m0.2.1 hm.1 hj), j8, j16, d6, show ¬ (5 : Int32) = 0 by decide, show ¬ (5 : Int32) = 1 by decide, show ¬ (5 : Int32) = 2 by decide, show ¬ (5 : Int32) = 3 by decide, show ¬ (5 : Int32) = 4 by decide]
  · have n0 : ¬ c = 0 := fun q => c5 (.inl q)
    have n1 : ¬ c = 1 := fun q => c5 (.inr (.inl q))
    have n2 : ¬ c = 2 := fun q => c5 (.inr (.inr (.inl q)))
    have n3 : ¬ c = 3 := fun q => c5 (.inr (.inr (.inr (.inl q))))
    have n4 : ¬ c = 4 := fun q => c5 (.inr (.inr (.inr (.inr (.inl q)))))
    have n5 : ¬ c = 5 := fun q => c5 (.inr (.inr (.inr (.inr (.inr q)))))
    refine ⟨.inl 1, ⟨C, ?_, fun _ _ => rfl⟩, fun C' O' => ?_⟩
    · simp only [f_X6_judge, ↓b_rdC, ↓Sum.elim_inr, ↓bnd (needJ_y hc hj), ↓reduceIte, n0, n1, n2, n3, n4, n5]
    · obtain ⟨M', f1, f2, f3⟩ := QM_fail (N := N) (C := C') (M := M) (K := K) (O := O') (k := 1) (kv := 1) rfl
      refine ⟨0, M', ?_, f2, f3⟩
      simp only [f_X7_judge, ↓b_wrM, ↓b_rdM, ↓reduceIte, show ¬ (1 : Int32) = 0 by decide, ↓bnd (isJ_y m0.2.1 hm.1 hj), n0, n1, n2, n3, n4, n5, ↓bnd f1]
set_option maxHeartbeats 4000000 in
theorem q_reach {a c : Int32} (hc : CI K C G W) (hm : MI M G W) (hN : 1000 ≤ N) : ∃ r, QC K C M O (f_X6_reach N (HP C M K O) 0 a c) r ∧ ∀ C' O', QM C' M K O' (f_X7_reach N (HP C' M K O') 71 a c) r := by
  have m0 := MI_EQ hm (EQ_code M 0)
  by_cases h0 : inR a (gRn G)
  ·
    by_cases h1 : btw c 0 2
    · exact g_reach hc hm hN h0 h1
    · refine ⟨.inl 1, ⟨C, ?_, fun _ _ => rfl⟩, fun C' O' => ?_⟩
      · simp only [f_X6_reach, ↓b_rdC, ↓Sum.elim_inr, ↓Sum.elim_inl, ↓bnd (needR_y hc h0), ↓bnd (nW2_n h1)]
      · obtain ⟨M', f1, f2, f3⟩ := QM_fail (N := N) (C := C') (M := M) (K := K) (O := O') (k := 1) (kv := 1) rfl
        refine ⟨0, M', ?_, f2, f3⟩
        simp only [f_X7_reach_b25, f_X7_reach, ↓b_wrM, ↓b_rdM, ↓reduceIte, show ¬ (1 : Int32) = 0 by decide, ↓bnd (isR_y m0.2.1 hm.1 h0), ↓bnd (bW2_n h1), ↓bnd f1]
  · refine ⟨.inl 1, ⟨C, ?_, fun _ _ => rfl⟩, fun C' O' => ?_⟩
    · simp only [f_X6_reach, ↓b_rdC, ↓Sum.elim_inr, ↓Sum.elim_inl, ↓bnd (needR_n hc h0)]
    · obtain ⟨M', f1, f2, f3⟩ := QM_fail (N := N) (C := C') (M := M) (K := K) (O := O') (k := 1) (kv := 1) rfl
      refine ⟨0, M', ?_, f2, f3⟩
      simp only [f_X7_reach_b25, f_X7_reach, ↓b_wrM, ↓b_rdM, ↓reduceIte, show ¬ (1 : Int32) = 0 by decide, ↓bnd (isR_n m0.2.1 hm.1 h0), ↓bnd f1]
set_option maxHeartbeats 4000000 in
theorem q_judge {a c : Int32} (hl : ∀ j, j < gJ G → W 4 j = gln G j) (hc : CI K C G W) (hm : MI M G W) (hN : 1000 ≤ N) : ∃ r, QC K C M O (f_X6_judge N (HP C M K O) 0 a c) r ∧ ∀ C' O', QM C' M K O' (f_X7_judge N (HP C' M K O') 71 a c) r := by
  have m0 := MI_EQ hm (EQ_code M 0)
  by_cases h0 : inR a (gJ G)
  · exact g_judge hl hc hm h0
  · refine ⟨.inl 1, ⟨C, ?_, fun _ _ => rfl⟩, fun C' O' => ?_⟩
    · simp only [f_X6_judge, ↓b_rdC, ↓Sum.elim_inr, ↓Sum.elim_inl, ↓bnd (needJ_n hc h0)]
    · obtain ⟨M', f1, f2, f3⟩ := QM_fail (N := N) (C := C') (M := M) (K := K) (O := O') (k := 1) (kv := 1) rfl
      refine ⟨0, M', ?_, f2, f3⟩
      simp only [f_X7_judge, ↓b_wrM, ↓b_rdM, ↓reduceIte, show ¬ (1 : Int32) = 0 by decide, ↓bnd (isJ_n m0.2.1 hm.1 h0), ↓bnd f1]
end S56
