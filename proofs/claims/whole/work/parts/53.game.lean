/-! the game, both -/
section S53
variable {C C0 B M M1 W T : ST} {K : KT} {O : Nat → Int64} {N : Nat} {G : GT} {b : Bool}
set_option maxHeartbeats 4000000 in
theorem g_game {a d c : Int32} (hc : CI K C G W) (hm : MI M G W) (hN : 1000 ≤ N) (hj : inR a (gJ G)) (hi : inR d (gJ G)) (hw : btw c 0 1) (hne : ¬ a = d) : ∃ r, QC K C M O (f_X6_game N (HP C M K O) 0 a d c) r ∧ ∀ C' O', QM C' M K O' (f_X7_game N (HP C' M K O') 71 a d c) r := by
  have m0 := m0_of hm
  have hj' := hj
  obtain ⟨j, hj1, rfl⟩ := hj'
  have hi' := hi
  obtain ⟨i, hi1, rfl⟩ := hi'
  have j8 : j < 8 := by have := hm.1.2.2.1; omega
  have i8 : i < 8 := by have := hm.1.2.2.1; omega
  have e1 := hc.2.2.2.1.2.1 1 j (by omega) (by omega) hj1
  have e2 := hc.2.2.2.1.2.1 1 i (by omega) (by omega) hi1
  have d1 := (m0.2.2.1.2.2.1 j hj1).1
  have d2 := (m0.2.2.1.2.2.1 i hi1).1
  by_cases p1 : W 1 j = -2
  · by_cases p2 : W 1 i = -2
    · obtain ⟨C1, q1, q2⟩ := gameA_c (M := M) (O := O) (o := 0) (v3 := c) hc (fun _ _ => rfl) hj1 hi1 (by decide) hN
      refine ⟨.inr (if c = 0 then (gm G W j i 0 4).1 else (gm G W j i 0 4).2), ⟨C1, ?_, q2⟩, fun C' O' => ?_⟩
      · rw [show nI 0 = 0 from rfl] at q1
        simp only [f_X6_game, f_X6_game_b57, f_X6_game_b80, ↓b_rdC, ↓Sum.elim_inr, ↓bnd (needJ_y hc hj), ↓bnd (needJ_y hc hi), ↓bnd (nW1_y hw), hne, ↓reduceIte, ↓b_rW w21, ↓b_rWa w21, j8, i8, e1, e2, p1, p2, q1]
      · obtain ⟨M1, r1, r2⟩ := gameB_m (C := C') (K := K) (O := O') (o := 0) (v3 := c) hm hj1 hi1 (by decide) hN
        refine ⟨_, M1, ?_, r2.1, r2.2.2, rfl⟩
        rw [show (if 0 / 2 = 1 then (1 : Int32) else 0) = 0 from rfl] at r1
        try rw [show (if 0 % 2 = 1 then (1 : Int32) else 0) = 0 from rfl] at r1
        simp only [f_X7_game, f_X7_game_b64, ↓b_wrM, ↓b_rdM, ↓b_raM, ↓reduceIte, show ¬ (1 : Int32) = 0 by decide, ↓bnd (isJ_y m0.2.1 hm.1 hj), ↓bnd (isJ_y m0.2.1 hm.1 hi), ↓bnd (bW1_y hw), hne, j8, i8, d1, d2, p1, p2, r1]
    · obtain ⟨C1, q1, q2⟩ := gameA_c (M := M) (O := O) (o := 1) (v3 := c) hc (fun _ _ => rfl) hj1 hi1 (by decide) hN
      refine ⟨.inr (if c = 0 then (gm G W j i 1 4).1 else (gm G W j i 1 4).2), ⟨C1, ?_, q2⟩, fun C' O' => ?_⟩
      · have ex : ((0 : Int32) ||| 1) = nI 1 := by decide
        simp only [f_X6_game, f_X6_game_b57, f_X6_game_b80, ↓b_rdC, ↓Sum.elim_inr, ↓bnd (needJ_y hc hj), ↓bnd (needJ_y hc hi), ↓bnd (nW1_y hw), hne, ↓reduceIte, ↓b_rW w21, ↓b_rWa w21, j8, i8, e1, e2, p1, p2, ex, q1]
      · obtain ⟨M1, r1, r2⟩ := gameB_m (C := C') (K := K) (O := O') (o := 1) (v3 := c) hm hj1 hi1 (by decide) hN
        refine ⟨_, M1, ?_, r2.1, r2.2.2, rfl⟩
        rw [show (if 1 / 2 = 1 then (1 : Int32) else 0) = 0 from rfl] at r1
        try rw [show (if 1 % 2 = 1 then (1 : Int32) else 0) = 1 from rfl] at r1
        simp only [f_X7_game, f_X7_game_b64, ↓b_wrM, ↓b_rdM, ↓b_raM, ↓reduceIte, show ¬ (1 : Int32) = 0 by decide, ↓bnd (isJ_y m0.2.1 hm.1 hj), ↓bnd (isJ_y m0.2.1 hm.1 hi), ↓bnd (bW1_y hw), hne, j8, i8, d1, d2, p1, p2, r1]
  · by_cases p2 : W 1 i = -2
    · obtain ⟨C1, q1, q2⟩ := gameA_c (M := M) (O := O) (o := 2) (v3 := c) hc (fun _ _ => rfl) hj1 hi1 (by decide) hN
      refine ⟨.inr (if c = 0 then (gm G W j i 2 4).1 else (gm G W j i 2 4).2), ⟨C1, ?_, q2⟩, fun C' O' => ?_⟩
      · have ex : ((0 : Int32) ||| 2) = nI 2 := by decide
        simp only [f_X6_game, f_X6_game_b57, f_X6_game_b80, ↓b_rdC, ↓Sum.elim_inr, ↓bnd (needJ_y hc hj), ↓bnd (needJ_y hc hi), ↓bnd (nW1_y hw), hne, ↓reduceIte, ↓b_rW w21, ↓b_rWa w21, j8, i8, e1, e2, p1, p2, ex, q1]
      · obtain ⟨M1, r1, r2⟩ := gameB_m (C := C') (K := K) (O := O') (o := 2) (v3 := c) hm hj1 hi1 (by decide) hN
        refine ⟨_, M1, ?_, r2.1, r2.2.2, rfl⟩
        rw [show (if 2 / 2 = 1 then (1 : Int32) else 0) = 1 from rfl] at r1
        try rw [show (if 2 % 2 = 1 then (1 : Int32) else 0) = 0 from rfl] at r1
        simp only [f_X7_game, f_X7_game_b64, ↓b_wrM, ↓b_rdM, ↓b_raM, ↓reduceIte, show ¬ (1 : Int32) = 0 by decide, ↓bnd (isJ_y m0.2.1 hm.1 hj), ↓bnd (isJ_y m0.2.1 hm.1 hi), ↓bnd (bW1_y hw), hne, j8, i8, d1, d2, p1, p2, r1]
    · obtain ⟨C1, q1, q2⟩ := gameA_c (M := M) (O := O) (o := 3) (v3 := c) hc (fun _ _ => rfl) hj1 hi1 (by decide) hN
      refine ⟨.inr (if c = 0 then (gm G W j i 3 4).1 else (gm G W j i 3 4).2), ⟨C1, ?_, q2⟩, fun C' O' => ?_⟩
      · have ex : (((0 : Int32) ||| 2) ||| 1) = nI 3 := by decide
        simp only [f_X6_game, f_X6_game_b57, f_X6_game_b80, ↓b_rdC, ↓Sum.elim_inr, ↓bnd (needJ_y hc hj), ↓bnd (needJ_y hc hi), ↓bnd (nW1_y hw), hne, ↓reduceIte, ↓b_rW w21, ↓b_rWa w21, j8, i8, e1, e2, p1, p2, ex, q1]
      · obtain ⟨M1, r1, r2⟩ := gameB_m (C := C') (K := K) (O := O') (o := 3) (v3 := c) hm hj1 hi1 (by decide) hN
        refine ⟨_, M1, ?_, r2.1, r2.2.2, rfl⟩
        rw [show (if 3 / 2 = 1 then (1 : Int32) else 0) = 1 from rfl] at r1
        try rw [show (if 3 % 2 = 1 then (1 : Int32) else 0) = 1 from rfl] at r1
        simp only [f_X7_game, f_X7_game_b64, ↓b_wrM, ↓b_rdM, ↓b_raM, ↓reduceIte, show ¬ (1 : Int32) = 0 by decide, ↓bnd (isJ_y m0.2.1 hm.1 hj), ↓bnd (isJ_y m0.2.1 hm.1 hi), ↓bnd (bW1_y hw), hne, j8, i8, d1, d2, p1, p2, r1]
set_option maxHeartbeats 4000000 in
theorem q_game {a d c : Int32} (hc : CI K C G W) (hm : MI M G W) (hN : 1000 ≤ N) : ∃ r, QC K C M O (f_X6_game N (HP C M K O) 0 a d c) r ∧ ∀ C' O', QM C' M K O' (f_X7_game N (HP C' M K O') 71 a d c) r := by
  have m0 := MI_EQ hm (EQ_code M 0)
  by_cases h0 : inR a (gJ G)
  ·
    by_cases h1 : inR d (gJ G)
    ·
      by_cases h2 : btw c 0 1
      · by_cases h3 : a = d
        · subst h3
          refine ⟨.inl 2, ⟨C, ?_, fun _ _ => rfl⟩, fun C' O' => ?_⟩
          · simp only [f_X6_game, ↓b_rdC, ↓Sum.elim_inr, ↓Sum.elim_inl, ↓bnd (needJ_y hc h0), ↓bnd (nW1_y h2), ↓reduceIte]
          · obtain ⟨M', f1, f2, f3⟩ := QM_fail (N := N) (C := C') (M := M) (K := K) (O := O') (k := 2) (kv := 2) rfl
            refine ⟨0, M', ?_, f2, f3⟩
            simp only [f_X7_game, ↓b_wrM, ↓b_rdM, ↓reduceIte, show ¬ (1 : Int32) = 0 by decide, ↓bnd (isJ_y m0.2.1 hm.1 h0), ↓bnd (bW1_y h2), ↓bnd f1]
        · exact g_game hc hm hN h0 h1 h2 h3
      · refine ⟨.inl 1, ⟨C, ?_, fun _ _ => rfl⟩, fun C' O' => ?_⟩
        · simp only [f_X6_game_b165, f_X6_game_b115, f_X6_game_b83, f_X6_game_b80, f_X6_game_b57, f_X6_game, ↓b_rdC, ↓Sum.elim_inr, ↓Sum.elim_inl, ↓bnd (needJ_y hc h0), ↓bnd (needJ_y hc h1), ↓bnd (nW1_n h2)]
        · obtain ⟨M', f1, f2, f3⟩ := QM_fail (N := N) (C := C') (M := M) (K := K) (O := O') (k := 1) (kv := 1) rfl
          refine ⟨0, M', ?_, f2, f3⟩
          simp only [f_X7_game_b31, f_X7_game_b225, f_X7_game_b223, f_X7_game_b197, f_X7_game_b162, f_X7_game_b134, f_X7_game_b118, f_X7_game_b99, f_X7_game_b82, f_X7_game_b64, f_X7_game, ↓b_wrM, ↓b_rdM, ↓reduceIte, show ¬ (1 : Int32) = 0 by decide, ↓bnd (isJ_y m0.2.1 hm.1 h0), ↓bnd (isJ_y m0.2.1 hm.1 h1), ↓bnd (bW1_n h2), ↓bnd f1]
    · refine ⟨.inl 1, ⟨C, ?_, fun _ _ => rfl⟩, fun C' O' => ?_⟩
      · simp only [f_X6_game_b165, f_X6_game_b115, f_X6_game_b83, f_X6_game_b80, f_X6_game_b57, f_X6_game, ↓b_rdC, ↓Sum.elim_inr, ↓Sum.elim_inl, ↓bnd (needJ_y hc h0), ↓bnd (needJ_n hc h1)]
      · obtain ⟨M', f1, f2, f3⟩ := QM_fail (N := N) (C := C') (M := M) (K := K) (O := O') (k := 1) (kv := 1) rfl
        refine ⟨0, M', ?_, f2, f3⟩
        simp only [f_X7_game_b31, f_X7_game_b225, f_X7_game_b223, f_X7_game_b197, f_X7_game_b162, f_X7_game_b134, f_X7_game_b118, f_X7_game_b99, f_X7_game_b82, f_X7_game_b64, f_X7_game, ↓b_wrM, ↓b_rdM, ↓reduceIte, show ¬ (1 : Int32) = 0 by decide, ↓bnd (isJ_y m0.2.1 hm.1 h0), ↓bnd (isJ_n m0.2.1 hm.1 h1), ↓bnd f1]
  · refine ⟨.inl 1, ⟨C, ?_, fun _ _ => rfl⟩, fun C' O' => ?_⟩
    · simp only [f_X6_game_b165, f_X6_game_b115, f_X6_game_b83, f_X6_game_b80, f_X6_game_b57, f_X6_game, ↓b_rdC, ↓Sum.elim_inr, ↓Sum.elim_inl, ↓bnd (needJ_n hc h0)]
    · obtain ⟨M', f1, f2, f3⟩ := QM_fail (N := N) (C := C') (M := M) (K := K) (O := O') (k := 1) (kv := 1) rfl
      refine ⟨0, M', ?_, f2, f3⟩
      simp only [f_X7_game_b31, f_X7_game_b225, f_X7_game_b223, f_X7_game_b197, f_X7_game_b162, f_X7_game_b134, f_X7_game_b118, f_X7_game_b99, f_X7_game_b82, f_X7_game_b64, f_X7_game, ↓b_wrM, ↓b_rdM, ↓reduceIte, show ¬ (1 : Int32) = 0 by decide, ↓bnd (isJ_n m0.2.1 hm.1 h0), ↓bnd f1]
end S53
