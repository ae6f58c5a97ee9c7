/-! fault, forget, see, count -/
section S70
variable {C C' M M' W W' : ST} {K : KT} {O : Nat → Int64} {N : Nat} {G : GT} {a b c : Int32}
theorem a_fault (h : REL K C M G W) : AD K M O (f_X6_fault N (HP C M K O) 0) (fun C' K' O' => f_X7_fault N (HP C' M K' O') 71) := by
  refine ⟨C 0 2, C, K, ?_, fun O' => ⟨up M 71 4 0, K, G, W, ?_, REL_q h (fun _ _ => rfl) (EQ_code M 0)⟩⟩
  · simp only [f_X6_fault, ↓b_rdC]
  · have e : up M 71 4 0 71 26 = C 0 2 := by rw [up_s, upd_o (by decide)]; exact h.2.2.1.symm
    simp only [f_X7_fault, ↓b_wrM, ↓b_rdM, e]
/-- sightings anew, all else as it was -/
theorem REL_s (h : REL K C M G W) (c1 : ∀ x, x ≠ 20 → x ≠ 33 → x ≠ 34 → x ≠ 35 → C' x = C x) (c2 : C' 20 2 = C 20 2 ∧ C' 20 8 = C 20 8) (m1 : ∀ x, x ≠ 71 → x ≠ 98 → x ≠ 99 → x ≠ 100 → M' x = M x) (m2 : ∀ k, k ≠ 4 → k ≠ 36 → M' 71 k = M 71 k) (hs : RS G C' 20 M' 36 98 99 100) : REL K C' M' G W := by
  obtain ⟨⟨a1, a2, a3⟩, b, d, e, f, g, i, kk⟩ := h
  obtain ⟨h1, h2, h3, h4, h5⟩ := a1
  refine ⟨⟨⟨h1, h2, ?_, RW_same h4 (fun i hi => c1 _ (by omega) (by omega) (by omega) (by omega)), h5⟩, ⟨h2, ?_, ?_, h5⟩, a3⟩, RT_fr b (by rw [c1 0 (by decide) (by decide) (by decide) (by decide)]) (c1 1 (by decide) (by decide) (by decide) (by decide)) (m2 17 (by decide) (by decide)) (m1 86 (by decide) (by decide) (by decide) (by decide)), ?_, ?_, hs, fun x hx => ?_, RIm_fr i (by rw [c1 0 (by decide) (by decide) (by decide) (by decide)]) (fun x y z => c1 x (by omega) (by omega) (by omega) (by omega)) (fun k hk => m2 k (by omega) (by omega)) (fun x y z => m1 x (by omega) (by omega) (by omega) (by omega)), kk⟩
  · have e : ∀ i, i ≤ 7 → C' (K.1 + i) = C (K.1 + i) := fun i hi => c1 _ (by rcases h1 with e | e <;> rw [e] <;> omega) (by rcases h1 with e | e <;> rw [e] <;> omega) (by rcases h1 with e | e <;> rw [e] <;> omega) (by rcases h1 with e | e <;> rw [e] <;> omega)
    have e0 : C' K.1 = C K.1 := e 0 (by omega)
    unfold RG
    rw [e0, e 4 (by omega), e 5 (by omega), e 6 (by omega), e 7 (by omega)]
    exact h3
  · have n : ∀ x, (x = 75 ∨ x = 81 ∨ x = 78 ∨ x = 82 ∨ x = 83) → M' x = M x := fun x hx => m1 x (by omega) (by omega) (by omega) (by omega)
    unfold RGm
    rw [n 75 (by omega), n 81 (by omega), n 78 (by omega), n 82 (by omega), n 83 (by omega)]
    exact a2.2.1
  · have n : ∀ x, (x = 87 ∨ x = 88 ∨ x = 89 ∨ x = 85 ∨ x = 95 ∨ x = 90 ∨ x = 91) → M' x = M x := fun x hx => m1 x (by omega) (by omega) (by omega) (by omega)
    have := a2.2.2.1
    unfold RWm at this ⊢
    rw [m2 34 (by decide) (by decide), n 87 (by omega), n 88 (by omega), n 89 (by omega), n 85 (by omega), n 95 (by omega), n 90 (by omega), n 91 (by omega)]
    exact ⟨this.1, fun q => (Bool.noConfusion q), this.2.2⟩
  · rw [c1 0 (by decide) (by decide) (by decide) (by decide), m2 26 (by decide) (by decide)]; exact d
  · obtain ⟨n, o, r1, r2, r3, r4, r5, r6⟩ := e
    refine ⟨n, o, r1, r2, by rw [c2.1]; exact r3, by rw [c2.2]; exact r4, by rw [m2 35 (by decide) (by decide)]; exact r5, fun x hx => ?_⟩
    rw [c1 (20 + 16) (by decide) (by decide) (by decide) (by decide), m1 92 (by decide) (by decide) (by decide) (by decide)]
    exact r6 x hx
  · rw [c1 32 (by decide) (by decide) (by decide) (by decide), m1 84 (by decide) (by decide) (by decide) (by decide)]; exact g x hx
theorem a_forget (h : REL K C M G W) : AE K M O (f_X6_forget N (HP C M K O) 0) (fun C' K' O' => f_X7_forget N (HP C' M K' O') 71) := by
  refine ⟨up C 20 3 0, K, ?_, fun O' => ⟨up (up M 71 4 0) 71 36 0, K, G, W, ?_, REL_s h (fun x x1 x2 x3 x4 => up_o x1) ⟨by rw [up_s, upd_o (by decide)], by rw [up_s, upd_o (by decide)]⟩ (fun x x1 _ _ _ => by rw [up_o x1, up_o x1]) (fun k x1 x2 => by rw [up_s, upd_o x2, up_s, upd_o x1]) ⟨0, by decide, by rw [up_s, upd_s]; rfl, by rw [up_s, upd_s]; rfl, fun i hi => absurd hi (Nat.not_lt_zero i)⟩⟩⟩
  · simp only [f_X6_forget, ↓b_rdC, ↓b_wrC]
  · simp only [f_X7_forget, ↓b_wrM]
set_option maxHeartbeats 4000000 in
theorem a_see (h : REL K C M G W) : AQ K M O (f_X6_see N (HP C M K O) 0 a b c) (fun C' K' O' => f_X7_see N (HP C' M K' O') 71 a b c) := by
  have hc := h.1.1
  have hm := h.1.2.1
  have m0 := m0_of hm
  have t1 : ¬ (1 : Int32) = 0 := by decide
  by_cases hj : inR a (gJ G)
  · obtain ⟨q, q1, q2, q3, q4⟩ := h.2.2.2.2.1
    have d3 : up M 71 4 0 71 36 = nI q := by rw [up_s, upd_o (by decide)]; exact q3
    have refuse : f_X6_see_b42 N 0 (HP C M K O) = some (.inr (-1), HP (up C 32 2 (C 32 2 + 1)) M K O) := by
      simp only [f_X6_see_b42, ↓b_rdC, ↓bnd (refuse_c (x := 2) (k := 2) rfl (by decide))]
    have refusm : ∀ C1 O1, f_X7_see_b48 N 71 (HP C1 (up M 71 4 0) K O1) = some (-1, HP C1 (up (up M 71 4 0) 84 2 (M 84 2 + 1)) K O1) := fun C1 O1 => by
      simp only [f_X7_see_b48, ↓b_rdM, ↓bnd (refuse_m (x := 2) (k := 2) rfl (by decide))]
    have fin : ∀ {x6 : Option ((Nat ⊕ Int32) × AH)} {x7 : ST → KT → (Nat → Int64) → Option (Int32 × AH)}, x6 = some (.inr (-1), HP (up C 32 2 (C 32 2 + 1)) M K O) → (∀ C1 O1, x7 C1 K O1 = some (-1, HP C1 (up (up M 71 4 0) 84 2 (M 84 2 + 1)) K O1)) → AQ K M O x6 x7 := fun e6 e7 => ⟨.inr (-1), _, K, e6, fun O' => ⟨-1, _, K, G, W, e7 _ O', ⟨by rw [up_o (by decide)]; exact code_s M 0, rfl⟩, REL_r (by decide) h⟩⟩
    by_cases z8 : q = 8
    · subst z8
      refine fin ?_ fun C1 O1 => ?_
      · simp only [f_X6_see, ↓b_rdC, ↓bnd (needJ_y hc hj), ↓Sum.elim_inr, q2, show (8 : Int32) ≤ nI 8 by decide, ↓reduceIte, refuse]
      · simp only [f_X7_see, ↓b_wrM, ↓b_rdM, ↓bnd (isJ_y m0.2.1 hm.1 hj), t1, ↓reduceIte, d3, show nI 8 = 8 from rfl, refusm]
    · have q8 : q < 8 := by omega
      have n8 : ¬ (8 : Int32) ≤ nI q := nI_ge (b := 8) q8 (by decide)
      have n8' : ¬ nI q = 8 := fun z => z8 ((eq_nI (a := q) (b := 8) (by omega) (by decide)).mp z)
      have b20 := lt_l (x := b) (m := 20) (y := 20) rfl (by decide)
      by_cases hb : btw b 0 20
      · obtain ⟨x1, x2, x3⟩ := b20.1 hb
        have eS := hc.2.2.1.1
        by_cases hs : inR c (gsd G)
        · have hs' := hs
          obtain ⟨s, s1, rfl⟩ := hs'
          have hj' := hj
          obtain ⟨j, j1, rfl⟩ := hj'
          have hb' := hb
          obtain ⟨t, _, t2, rfl⟩ := hb'
          have hsd := hm.1.1.2
          have y1 : ¬ nI s < 0 := nI_pos (by omega)
          have y2 : nI s < nI (gsd G) := nI_lt s1 (by omega)
          obtain ⟨C1, e1⟩ : ∃ C1, C1 = up (up (up C 33 q (nI j)) 34 q (nI t)) 35 q (nI s) := ⟨_, rfl⟩
          have c20 : C1 20 = C 20 := by rw [e1, up_o (by decide), up_o (by decide), up_o (by decide)]
          have g1 : up C 33 q (nI j) 20 3 = nI q := by rw [up_o (by decide)]; exact q2
          have g2 : up (up C 33 q (nI j)) 34 q (nI t) 20 3 = nI q := by rw [up_o (by decide), up_o (by decide)]; exact q2
          have g3 : C1 20 3 = nI q := by rw [c20]; exact q2
          have g4 : up C1 20 3 (nI (q + 1)) 20 3 = nI (q + 1) := by rw [up_s, upd_s]
          refine ⟨.inr (nI (q + 1)), up C1 20 3 (nI (q + 1)), K, ?_, fun O' => ?_⟩
          · simp only [f_X6_see, f_X0_keepSighting, ↓b_rdC, ↓bnd (needJ_y hc hj), ↓Sum.elim_inr, q2, n8, x1, x2, y1, ↓b_rG hc.1, eS, y2, ↓reduceIte, ↓b_waC, q8, g1, g2]
            rw [← e1]
            simp only [↓b_rdC, g3, nI_1, ↓b_wrC, Option.bind_some, g4]
          · obtain ⟨M1, em⟩ : ∃ M1, M1 = up (up (up (up M 71 4 0) 98 q (nI j)) 99 q (nI t)) 100 q (nI s) := ⟨_, rfl⟩
            have m71 : M1 71 = up M 71 4 0 71 := by rw [em, up_o (by decide), up_o (by decide), up_o (by decide)]
            have k1 : up (up M 71 4 0) 98 q (nI j) 71 36 = nI q := by rw [up_o (by decide)]; exact d3
            have k2 : up (up (up M 71 4 0) 98 q (nI j)) 99 q (nI t) 71 36 = nI q := by rw [up_o (by decide), up_o (by decide)]; exact d3
            have k3 : M1 71 36 = nI q := by rw [m71]; exact d3
            have k4 : up M1 71 36 (nI (q + 1)) 71 36 = nI (q + 1) := by rw [up_s, upd_s]
            have w98 : ∀ i, M1 98 i = upd (M 98) q (nI j) i := fun i => by rw [em, up_o (by decide), up_o (by decide), up_s, up_o (by decide)]
            have w99 : ∀ i, M1 99 i = upd (M 99) q (nI t) i := fun i => by rw [em, up_o (by decide), up_s, up_o (by decide), up_o (by decide)]
            have w100 : ∀ i, M1 100 i = upd (M 100) q (nI s) i := fun i => by rw [em, up_s, up_o (by decide), up_o (by decide), up_o (by decide)]
            have w33 : ∀ i, C1 33 i = upd (C 33) q (nI j) i := fun i => by rw [e1, up_o (by decide), up_o (by decide), up_s]
            have w34 : ∀ i, C1 34 i = upd (C 34) q (nI t) i := fun i => by rw [e1, up_o (by decide), up_s, up_o (by decide)]
            have w35 : ∀ i, C1 35 i = upd (C 35) q (nI s) i := fun i => by rw [e1, up_s, up_o (by decide), up_o (by decide)]
            refine ⟨nI (q + 1), up M1 71 36 (nI (q + 1)), K, G, W, ?_, ⟨?_, rfl⟩, REL_s h (fun x x1 x2 x3 x4 => ?_) ⟨?_, ?_⟩ (fun x x1 x2 x3 x4 => ?_) (fun k x1 x2 => ?_) ⟨q + 1, by omega, g4, k4, fun i hi => ?_⟩⟩
            · simp only [f_X7_see, ↓b_wrM, ↓b_rdM, ↓bnd (isJ_y m0.2.1 hm.1 hj), t1, ↓reduceIte, d3, n8', ↓bnd (bT020_y hb), ↓bnd (isS_y m0.2.1 hm.1 hs), ↓b_waM, q8, k1, k2]
              rw [← em]
              simp only [↓b_rdM, k3, nI_1, ↓b_wrM, k4]
            · rw [up_s, upd_o (by decide), m71]; exact code_s M 0
            · rw [up_o x1, e1, up_o x4, up_o x3, up_o x2]
            · rw [up_s, upd_o (by decide), c20]
            · rw [up_s, upd_o (by decide), c20]
            · rw [up_o x1, em, up_o x4, up_o x3, up_o x2, up_o x1]
            · rw [up_s, upd_o x2, m71, up_s, upd_o x1]
            · rw [up_o (show (20 + 13 : Nat) ≠ 20 by decide), up_o (show (20 + 14 : Nat) ≠ 20 by decide), up_o (show (20 + 15 : Nat) ≠ 20 by decide), up_o (show (98 : Nat) ≠ 71 by decide), up_o (show (99 : Nat) ≠ 71 by decide), up_o (show (100 : Nat) ≠ 71 by decide), w98, w99, w100, w33, w34, w35]
              by_cases z : i = q
              · subst z
                rw [upd_s, upd_s, upd_s, upd_s, upd_s, upd_s]
                exact ⟨⟨j, t, j1, t2, rfl, rfl, rfl, rfl⟩, rfl⟩
              · rw [upd_o z, upd_o z, upd_o z, upd_o z, upd_o z, upd_o z]
                exact q4 i (by omega)
        · refine fin ?_ fun C1 O1 => ?_
          · have hs0 := hs
            rw [inR_i (by have := hm.1.1.2; omega)] at hs0
            by_cases y1 : c < 0
            · simp only [f_X6_see, ↓b_rdC, ↓bnd (needJ_y hc hj), ↓Sum.elim_inr, q2, n8, x1, x2, y1, ↓reduceIte, refuse]
            · have y2 : ¬ c < nI (gsd G) := by
                rw [lt0_i] at y1
                rw [Int32.lt_iff_toInt_lt, nI_toInt (by have := hm.1.1.2; omega)]
                omega
              simp only [f_X6_see, ↓b_rdC, ↓bnd (needJ_y hc hj), ↓Sum.elim_inr, q2, n8, x1, x2, y1, ↓b_rG hc.1, eS, y2, ↓reduceIte, refuse]
          · simp only [f_X7_see, ↓b_wrM, ↓b_rdM, ↓bnd (isJ_y m0.2.1 hm.1 hj), t1, ↓reduceIte, d3, n8', ↓bnd (bT020_y hb), ↓bnd (isS_n m0.2.1 hm.1 hs), refusm]
      · refine fin ?_ fun C1 O1 => ?_
        · by_cases y1 : b < 0
          · simp only [f_X6_see, ↓b_rdC, ↓bnd (needJ_y hc hj), ↓Sum.elim_inr, q2, n8, y1, ↓reduceIte, refuse]
          · obtain ⟨y2, y3⟩ := b20.2 hb y1
            simp only [f_X6_see, ↓b_rdC, ↓bnd (needJ_y hc hj), ↓Sum.elim_inr, q2, n8, y1, y2, ↓reduceIte, refuse]
        · simp only [f_X7_see, ↓b_wrM, ↓b_rdM, ↓bnd (isJ_y m0.2.1 hm.1 hj), t1, ↓reduceIte, d3, n8', ↓bnd (bT020_n hb), refusm]
  · refine AQ_fail h ?_ fun O' => ?_
    · simp only [f_X6_see, ↓b_rdC, ↓bnd (needJ_n hc hj), ↓Sum.elim_inl]
    · simp only [f_X7_see, ↓b_wrM, ↓b_rdM, ↓bnd (isJ_n m0.2.1 hm.1 hj), ↓reduceIte, ↓bnd fail_1]
set_option maxHeartbeats 4000000 in
theorem a_count (h : REL K C M G W) (hN : 1000 ≤ N) : AQ K M O (f_X6_count N (HP C M K O) 0 c) (fun C' K' O' => f_X7_count N (HP C' M K' O') 71 c) := by
  have hc := h.1.1
  have hm := h.1.2.1
  have m0 := m0_of hm
  have e0 : up M 71 4 0 75 0 = C K.1 0 := m0.2.1.1.trans hc.2.2.1.1.symm
  have e1 : up M 71 4 0 75 1 = C K.1 1 := m0.2.1.2.1.trans hc.2.2.1.2.1.symm
  have e2 : up M 71 4 0 75 2 = C K.1 2 := m0.2.1.2.2.1.trans hc.2.2.1.2.2.1.symm
  have e3 : up M 71 4 0 71 34 = C 21 0 := m0.2.2.1.1.trans hc.2.2.2.1.1.symm
  have e9 : up M 71 4 0 71 35 = C 20 2 := by
    obtain ⟨n, o, r1, r2, r3, r4, r5, r6⟩ := h.2.2.2.1
    rw [up_s, upd_o (by decide), r3]; exact r5
  have e10 : up M 71 4 0 71 36 = C 20 3 := by
    obtain ⟨q, q1, q2, q3, q4⟩ := h.2.2.2.2.1
    rw [up_s, upd_o (by decide), q2]; exact q3
  have e11 : up M 71 4 0 71 17 = C 0 1 := by
    obtain ⟨t, t1, t2, t3, t4⟩ := h.2.1
    rw [up_s, upd_o (by decide), t2]; exact t3
  have e12 : up M 71 4 0 84 0 = C 32 0 := by rw [up_o (by decide)]; exact (h.2.2.2.2.2.1 0 (by decide)).symm
  have e13 : up M 71 4 0 84 1 = C 32 1 := by rw [up_o (by decide)]; exact (h.2.2.2.2.2.1 1 (by decide)).symm
  have e14 : up M 71 4 0 84 2 = C 32 2 := by rw [up_o (by decide)]; exact (h.2.2.2.2.2.1 2 (by decide)).symm
  have fin : ∀ {v : Int32} {x6 : Option ((Nat ⊕ Int32) × AH)} {x7 : ST → KT → (Nat → Int64) → Option (Int32 × AH)}, x6 = some (.inr v, HP C M K O) → (∀ O1, x7 C K O1 = some (v, HP C (up M 71 4 0) K O1)) → AQ K M O x6 x7 := fun e6 e7 => ⟨.inr _, C, K, e6, fun O' => ⟨_, _, K, G, W, e7 O', ⟨code_s M 0, rfl⟩, REL_q h (fun _ _ => rfl) (EQ_code M 0)⟩⟩
  by_cases c0 : c = 0
  · subst c0
    refine fin (v := C K.1 0) ?_ fun O1 => ?_
    · simp only [f_X6_count, ↓reduceIte, ↓b_rdC, ↓b_rG hc.1]
    · simp only [f_X7_count, ↓b_wrM, ↓reduceIte, ↓b_rdM, ↓b_rlM, e0]
  by_cases c1 : c = 1
  · subst c1
    refine fin (v := C K.1 1) ?_ fun O1 => ?_
    · simp only [f_X6_count, ↓reduceIte, show ¬ (1 : Int32) = 0 by decide, ↓b_rdC, ↓b_rG hc.1]
    · simp only [f_X7_count, ↓b_wrM, ↓reduceIte, show ¬ (1 : Int32) = 0 by decide, ↓b_rdM, ↓b_rlM, e1]
  by_cases c2 : c = 2
  · subst c2
    refine fin (v := C K.1 2) ?_ fun O1 => ?_
    · simp only [f_X6_count, ↓reduceIte, show ¬ (2 : Int32) = 0 by decide, show ¬ (2 : Int32) = 1 by decide, ↓b_rdC, ↓b_rG hc.1]
    · simp only [f_X7_count, ↓b_wrM, ↓reduceIte, show ¬ (2 : Int32) = 0 by decide, show ¬ (2 : Int32) = 1 by decide, ↓b_rdM, ↓b_rlM, e2]
  by_cases c3 : c = 3
  · subst c3
    refine fin (v := C 21 0) ?_ fun O1 => ?_
    · simp only [f_X6_count, ↓reduceIte, show ¬ (3 : Int32) = 0 by decide, show ¬ (3 : Int32) = 1 by decide, show ¬ (3 : Int32) = 2 by decide, ↓b_rdC]
    · simp only [f_X7_count, ↓b_wrM, ↓reduceIte, show ¬ (3 : Int32) = 0 by decide, show ¬ (3 : Int32) = 1 by decide, show ¬ (3 : Int32) = 2 by decide, ↓b_rdM, e3]
  by_cases c4 : c = 4
  · subst c4
    refine fin (v := setFa G W) ?_ fun O1 => ?_
    · simp only [f_X6_count, ↓reduceIte, show ¬ (4 : Int32) = 0 by decide, show ¬ (4 : Int32) = 1 by decide, show ¬ (4 : Int32) = 2 by decide, show ¬ (4 : Int32) = 3 by decide, ↓b_rdC, ↓bnd (fairOnes_w hc.1 w21 hc.2.1 hc.2.2.1 hc.2.2.2.1 hN)]
    · simp only [f_X7_count, ↓b_wrM, ↓reduceIte, show ¬ (4 : Int32) = 0 by decide, show ¬ (4 : Int32) = 1 by decide, show ¬ (4 : Int32) = 2 by decide, show ¬ (4 : Int32) = 3 by decide, ↓b_rdM, ↓bnd (fairOnes_v hm.1 m0.2.1 m0.2.2.1 hN)]
  by_cases c5 : c = 5
  · subst c5
    refine fin (v := setAt G W (-2)) ?_ fun O1 => ?_
    · simp only [f_X6_count, ↓reduceIte, show ¬ (5 : Int32) = 0 by decide, show ¬ (5 : Int32) = 1 by decide, show ¬ (5 : Int32) = 2 by decide, show ¬ (5 : Int32) = 3 by decide, show ¬ (5 : Int32) = 4 by decide, ↓b_rdC, ↓bnd (landed_w hc.1 w21 hc.2.1 hc.2.2.1 hc.2.2.2.1 hN)]
    · simp only [f_X7_count, ↓b_wrM, ↓reduceIte, show ¬ (5 : Int32) = 0 by decide, show ¬ (5 : Int32) = 1 by decide, show ¬ (5 : Int32) = 2 by decide, show ¬ (5 : Int32) = 3 by decide, show ¬ (5 : Int32) = 4 by decide, ↓b_rdM, ↓bnd (whoIs_w hm.1 m0.2.1 m0.2.2.1 hN _)]
  by_cases c6 : c = 6
  · subst c6
    refine fin (v := setAf G W) ?_ fun O1 => ?_
    · simp only [f_X6_count, ↓reduceIte, show ¬ (6 : Int32) = 0 by decide, show ¬ (6 : Int32) = 1 by decide, show ¬ (6 : Int32) = 2 by decide, show ¬ (6 : Int32) = 3 by decide, show ¬ (6 : Int32) = 4 by decide, show ¬ (6 : Int32) = 5 by decide, ↓b_rdC, ↓bnd (afloatOnes_w hc.1 w21 hc.2.1 hc.2.2.1 hc.2.2.2.1 hN)]
    · simp only [f_X7_count, ↓b_wrM, ↓reduceIte, show ¬ (6 : Int32) = 0 by decide, show ¬ (6 : Int32) = 1 by decide, show ¬ (6 : Int32) = 2 by decide, show ¬ (6 : Int32) = 3 by decide, show ¬ (6 : Int32) = 4 by decide, show ¬ (6 : Int32) = 5 by decide, ↓b_rdM, ↓bnd (onReaches_v hm.1 m0.2.1 m0.2.2.1 hN)]
  by_cases c7 : c = 7
  · subst c7
    refine fin (v := setPo G W) ?_ fun O1 => ?_
    · simp only [f_X6_count, ↓reduceIte, show ¬ (7 : Int32) = 0 by decide, show ¬ (7 : Int32) = 1 by decide, show ¬ (7 : Int32) = 2 by decide, show ¬ (7 : Int32) = 3 by decide, show ¬ (7 : Int32) = 4 by decide, show ¬ (7 : Int32) = 5 by decide, show ¬ (7 : Int32) = 6 by decide, ↓b_rdC, ↓bnd (pools_w hc.1 w21 hc.2.1 hc.2.2.1 hc.2.2.2.1 hN)]
    · simp only [f_X7_count, ↓b_wrM, ↓reduceIte, show ¬ (7 : Int32) = 0 by decide, show ¬ (7 : Int32) = 1 by decide, show ¬ (7 : Int32) = 2 by decide, show ¬ (7 : Int32) = 3 by decide, show ¬ (7 : Int32) = 4 by decide, show ¬ (7 : Int32) = 5 by decide, show ¬ (7 : Int32) = 6 by decide, ↓b_rdM, ↓bnd (pools_v hm.1 m0.2.1 m0.2.2.1 hN)]
  by_cases c8 : c = 8
  · subst c8
    refine fin (v := bn G W (2 ^ gJ G)) ?_ fun O1 => ?_
    · simp only [f_X6_count, ↓reduceIte, show ¬ (8 : Int32) = 0 by decide, show ¬ (8 : Int32) = 1 by decide, show ¬ (8 : Int32) = 2 by decide, show ¬ (8 : Int32) = 3 by decide, show ¬ (8 : Int32) = 4 by decide, show ¬ (8 : Int32) = 5 by decide, show ¬ (8 : Int32) = 6 by decide, show ¬ (8 : Int32) = 7 by decide, ↓b_rdC, ↓bnd (fewest_c hc hN)]
    · simp only [f_X7_count, ↓b_wrM, ↓reduceIte, show ¬ (8 : Int32) = 0 by decide, show ¬ (8 : Int32) = 1 by decide, show ¬ (8 : Int32) = 2 by decide, show ¬ (8 : Int32) = 3 by decide, show ¬ (8 : Int32) = 4 by decide, show ¬ (8 : Int32) = 5 by decide, show ¬ (8 : Int32) = 6 by decide, show ¬ (8 : Int32) = 7 by decide, ↓b_rdM, ↓bnd (bench_m m0 hN)]
  by_cases c9 : c = 9
  · subst c9
    refine fin (v := C 20 2) ?_ fun O1 => ?_
    · simp only [f_X6_count, ↓reduceIte, show ¬ (9 : Int32) = 0 by decide, show ¬ (9 : Int32) = 1 by decide, show ¬ (9 : Int32) = 2 by decide, show ¬ (9 : Int32) = 3 by decide, show ¬ (9 : Int32) = 4 by decide, show ¬ (9 : Int32) = 5 by decide, show ¬ (9 : Int32) = 6 by decide, show ¬ (9 : Int32) = 7 by decide, show ¬ (9 : Int32) = 8 by decide, ↓b_rdC]
    · simp only [f_X7_count, ↓b_wrM, ↓reduceIte, show ¬ (9 : Int32) = 0 by decide, show ¬ (9 : Int32) = 1 by decide, show ¬ (9 : Int32) = 2 by decide, show ¬ (9 : Int32) = 3 by decide, show ¬ (9 : Int32) = 4 by decide, show ¬ (9 : Int32) = 5 by decide, show ¬ (9 : Int32) = 6 by decide, show ¬ (9 : Int32) = 7 by decide, show ¬ (9 : Int32) = 8 by decide, ↓b_rdM, e9]
  by_cases c10 : c = 10
  · subst c10
    refine fin (v := C 20 3) ?_ fun O1 => ?_
    · simp only [f_X6_count, ↓reduceIte, show ¬ (10 : Int32) = 0 by decide, show ¬ (10 : Int32) = 1 by decide, show ¬ (10 : Int32) = 2 by decide, show ¬ (10 : Int32) = 3 by decide, show ¬ (10 : Int32) = 4 by decide, show ¬ (10 : Int32) = 5 by decide, show ¬ (10 : Int32) = 6 by decide, show ¬ (10 : Int32) = 7 by decide, show ¬ (10 : Int32) = 8 by decide, show ¬ (10 : Int32) = 9 by decide, ↓b_rdC]
    · simp only [f_X7_count, ↓b_wrM, ↓reduceIte, show ¬ (10 : Int32) = 0 by decide, show ¬ (10 : Int32) = 1 by decide, show ¬ (10 : Int32) = 2 by decide, show ¬ (10 : Int32) = 3 by decide, show ¬ (10 : Int32) = 4 by decide, show ¬ (10 : Int32) = 5 by decide, show ¬ (10 : Int32) = 6 by decide, show ¬ (10 : Int32) = 7 by decide, show ¬ (10 : Int32) = 8 by decide, show ¬ (10 : Int32) = 9 by decide, ↓b_rdM, e10]
  by_cases c11 : c = 11
  · subst c11
    refine fin (v := C 0 1) ?_ fun O1 => ?_
    · simp only [f_X6_count, ↓reduceIte, show ¬ (11 : Int32) = 0 by decide, show ¬ (11 : Int32) = 1 by decide, show ¬ (11 : Int32) = 2 by decide, show ¬ (11 : Int32) = 3 by decide, show ¬ (11 : Int32) = 4 by decide, show ¬ (11 : Int32) = 5 by decide, show ¬ (11 : Int32) = 6 by decide, show ¬ (11 : Int32) = 7 by decide, show ¬ (11 : Int32) = 8 by decide, show ¬ (11 : Int32) = 9 by decide, show ¬ (11 : Int32) = 10 by decide, ↓b_rdC]
    · simp only [f_X7_count, ↓b_wrM, ↓reduceIte, show ¬ (11 : Int32) = 0 by decide, show ¬ (11 : Int32) = 1 by decide, show ¬ (11 : Int32) = 2 by decide, show ¬ (11 : Int32) = 3 by decide, show ¬ (11 : Int32) = 4 by decide, show ¬ (11 : Int32) = 5 by decide, show ¬ (11 : Int32) = 6 by decide, show ¬ (11 : Int32) = 7 by decide, show ¬ (11 : Int32) = 8 by decide, show ¬ (11 : Int32) = 9 by decide, show ¬ (11 : Int32) = 10 by decide, ↓b_rdM, e11]
  by_cases c12 : c = 12
  · subst c12
    refine fin (v := C 32 0) ?_ fun O1 => ?_
    · simp only [f_X6_count, ↓reduceIte, show ¬ (12 : Int32) = 0 by decide, show ¬ (12 : Int32) = 1 by decide, show ¬ (12 : Int32) = 2 by decide, show ¬ (12 : Int32) = 3 by decide, show ¬ (12 : Int32) = 4 by decide, show ¬ (12 : Int32) = 5 by decide, show ¬ (12 : Int32) = 6 by decide, show ¬ (12 : Int32) = 7 by decide, show ¬ (12 : Int32) = 8 by decide, show ¬ (12 : Int32) = 9 by decide, show ¬ (12 : Int32) = 10 by decide, show ¬ (12 : Int32) = 11 by decide, ↓b_rdC, ↓b_rlC]
    · simp only [f_X7_count, ↓b_wrM, ↓reduceIte, show ¬ (12 : Int32) = 0 by decide, show ¬ (12 : Int32) = 1 by decide, show ¬ (12 : Int32) = 2 by decide, show ¬ (12 : Int32) = 3 by decide, show ¬ (12 : Int32) = 4 by decide, show ¬ (12 : Int32) = 5 by decide, show ¬ (12 : Int32) = 6 by decide, show ¬ (12 : Int32) = 7 by decide, show ¬ (12 : Int32) = 8 by decide, show ¬ (12 : Int32) = 9 by decide, show ¬ (12 : Int32) = 10 by decide, show ¬ (12 : Int32) = 11 by decide, ↓b_rdM, show (12 : Int32) - 12 = 0 by decide, ↓b_rlM, e12]
  by_cases c13 : c = 13
  · subst c13
    refine fin (v := C 32 1) ?_ fun O1 => ?_
    · simp only [f_X6_count, ↓reduceIte, show ¬ (13 : Int32) = 0 by decide, show ¬ (13 : Int32) = 1 by decide, show ¬ (13 : Int32) = 2 by decide, show ¬ (13 : Int32) = 3 by decide, show ¬ (13 : Int32) = 4 by decide, show ¬ (13 : Int32) = 5 by decide, show ¬ (13 : Int32) = 6 by decide, show ¬ (13 : Int32) = 7 by decide, show ¬ (13 : Int32) = 8 by decide, show ¬ (13 : Int32) = 9 by decide, show ¬ (13 : Int32) = 10 by decide, show ¬ (13 : Int32) = 11 by decide, show ¬ (13 : Int32) = 12 by decide, ↓b_rdC, ↓b_rlC]
    · simp only [f_X7_count, ↓b_wrM, ↓reduceIte, show ¬ (13 : Int32) = 0 by decide, show ¬ (13 : Int32) = 1 by decide, show ¬ (13 : Int32) = 2 by decide, show ¬ (13 : Int32) = 3 by decide, show ¬ (13 : Int32) = 4 by decide, show ¬ (13 : Int32) = 5 by decide, show ¬ (13 : Int32) = 6 by decide, show ¬ (13 : Int32) = 7 by decide, show ¬ (13 : Int32) = 8 by decide, show ¬ (13 : Int32) = 9 by decide, show ¬ (13 : Int32) = 10 by decide, show ¬ (13 : Int32) = 11 by decide, show ¬ (13 : Int32) = 12 by decide, ↓b_rdM, show (13 : Int32) - 12 = 1 by decide, ↓b_rlM, e13]
  by_cases c14 : c = 14
  · subst c14
    refine fin (v := C 32 2) ?_ fun O1 => ?_
    · simp only [f_X6_count, ↓reduceIte, show ¬ (14 : Int32) = 0 by decide, show ¬ (14 : Int32) = 1 by decide, show ¬ (14 : Int32) = 2 by decide, show ¬ (14 : Int32) = 3 by decide, show ¬ (14 : Int32) = 4 by decide, show ¬ (14 : Int32) = 5 by decide, show ¬ (14 : Int32) = 6 by decide, show ¬ (14 : Int32) = 7 by decide, show ¬ (14 : Int32) = 8 by decide, show ¬ (14 : Int32) = 9 by decide, show ¬ (14 : Int32) = 10 by decide, show ¬ (14 : Int32) = 11 by decide, show ¬ (14 : Int32) = 12 by decide, show ¬ (14 : Int32) = 13 by decide, ↓b_rdC, ↓b_rlC]
    · simp only [f_X7_count, ↓b_wrM, ↓reduceIte, show ¬ (14 : Int32) = 0 by decide, show ¬ (14 : Int32) = 1 by decide, show ¬ (14 : Int32) = 2 by decide, show ¬ (14 : Int32) = 3 by decide, show ¬ (14 : Int32) = 4 by decide, show ¬ (14 : Int32) = 5 by decide, show ¬ (14 : Int32) = 6 by decide, show ¬ (14 : Int32) = 7 by decide, show ¬ (14 : Int32) = 8 by decide, show ¬ (14 : Int32) = 9 by decide, show ¬ (14 : Int32) = 10 by decide, show ¬ (14 : Int32) = 11 by decide, show ¬ (14 : Int32) = 12 by decide, show ¬ (14 : Int32) = 13 by decide, ↓b_rdM, show (14 : Int32) - 12 = 2 by decide, ↓b_rlM, e14]
  refine AQ_fail h ?_ fun O' => ?_
  · simp only [f_X6_count, ↓reduceIte, c0, c1, c2, c3, c4, c5, c6, c7, c8, c9, c10, c11, c12, c13, c14]
  · simp only [f_X7_count, ↓b_wrM, ↓reduceIte, c0, c1, c2, c3, c4, c5, c6, c7, c8, c9, c10, c11, c12, c13, c14, ↓b_rdM, ↓bnd fail_1]
end S70
