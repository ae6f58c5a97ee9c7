/-! call, paddle, carry, dredge, undo -/
theorem okW_wh {G : GT} {W : ST} {j r : Nat} (h : okW G W) (hr : r < gRn G) : okW G (up W 1 j (nI r)) := by
  obtain ⟨h1, h2⟩ := h
  refine ⟨fun i hi => ?_, fun r hr => ?_⟩
  · have := h1 i hi
    simp only [up, upd, show ¬ 2 = 1 by decide, show ¬ 3 = 1 by decide, show ¬ 4 = 1 by decide, if_false, if_true]
    refine ⟨?_, this.2⟩
    split
    · exact .inr (.inr ⟨r, hr, rfl⟩)
    · exact this.1
  · have := h2 r hr
    simpa only [up, show ¬ 6 = 1 by decide, show ¬ 7 = 1 by decide, if_false]
theorem okW_fl {G : GT} {W : ST} {j f : Nat} (h : okW G W) (hf : f < 4) : okW G (up W 6 j (nI f)) := by
  obtain ⟨h1, h2⟩ := h
  refine ⟨fun i hi => ?_, fun r hr => ?_⟩
  · have := h1 i hi
    simpa only [up, show ¬ 1 = 6 by decide, show ¬ 2 = 6 by decide, show ¬ 3 = 6 by decide, show ¬ 4 = 6 by decide, if_false]
  · have := h2 r hr
    simp only [up, upd, show ¬ 7 = 6 by decide, if_false, if_true]
    refine ⟨?_, this.2⟩
    split
    · exact ⟨f, hf, rfl⟩
    · exact this.1
section S69
variable {C C' M M' W W' : ST} {K : KT} {O : Nat → Int64} {N : Nat} {G : GT} {a b c : Int32} {bb : Bool}
theorem RWm_fl {j : Nat} {v : Int32} (h : RWm G bb M W) : RWm G bb (up M 90 j v) (up W 6 j v) := by
  unfold RWm at h ⊢
  simp only [up, upd, show ¬ 71 = 90 by decide, show ¬ 87 = 90 by decide, show ¬ 88 = 90 by decide, show ¬ 89 = 90 by decide, show ¬ 85 = 90 by decide, show ¬ 95 = 90 by decide, show ¬ 91 = 90 by decide, show ¬ 0 = 6 by decide, show ¬ 1 = 6 by decide, show ¬ 2 = 6 by decide, show ¬ 3 = 6 by decide, show ¬ 4 = 6 by decide, show ¬ 5 = 6 by decide, show ¬ 7 = 6 by decide, if_false, if_true]
  refine ⟨h.1, h.2.1, h.2.2.1, fun r hr => ⟨?_, (h.2.2.2 r hr).2⟩⟩
  split
  · rfl
  · exact (h.2.2.2 r hr).1
set_option maxHeartbeats 4000000 in
theorem keep_k (h : REL K C M G W) (hN : 10000 ≤ N) : ∃ C1, f_X0_keepAct N (HP C M K O) 20 = some (HP C1 M K O) ∧ (∀ x, x ≠ 20 → x ≠ 36 → C1 x = C x) ∧ C1 20 3 = C 20 3 ∧ RG K.1 C1 G ∧ RW G 21 C1 W ∧ ∀ C' O', ∃ M1, f_X7_keep N (HP C' (up M 71 4 0) K O') 71 = some (HP C' M1 K O') ∧ M1 71 4 = 0 ∧ (∀ x, x ≠ 71 → x ≠ 92 → M1 x = M x) ∧ (∀ k, k ≠ 35 → k ≠ 4 → M1 71 k = M 71 k) ∧ RGm M1 G ∧ RWm G false M1 W ∧ RA G C1 20 M1 35 92 := by
  have hc := h.1.1
  have hm := h.1.2.1
  obtain ⟨C1, k1, k2, k3, k4⟩ := keep_b (O := O) h hN
  refine ⟨C1, k1, k2, k3, ?_, RW_same hc.2.2.2.1 (fun i hi => k2 _ (by omega) (by omega)), fun C' O' => ?_⟩
  · have e : ∀ i, i ≤ 7 → C1 (K.1 + i) = C (K.1 + i) := fun i hi => k2 _ (by rcases hc.1 with e | e <;> rw [e] <;> omega) (by rcases hc.1 with e | e <;> rw [e] <;> omega)
    have e0 : C1 K.1 = C K.1 := e 0 (by omega)
    unfold RG
    rw [e0, e 4 (by omega), e 5 (by omega), e 6 (by omega), e 7 (by omega)]
    exact hc.2.2.1
  · obtain ⟨M1, p1, p2, p3, p4, p5⟩ := k4 C' O'
    refine ⟨M1, p1, p2, p3, p4, ?_, ?_, p5⟩
    · have n_ : ∀ x, (x = 75 ∨ x = 81 ∨ x = 78 ∨ x = 82 ∨ x = 83) → M1 x = M x := fun x hx => p3 x (by omega) (by omega)
      unfold RGm
      rw [n_ 75 (by omega), n_ 81 (by omega), n_ 78 (by omega), n_ 82 (by omega), n_ 83 (by omega)]
      exact hm.2.1
    · have := hm.2.2.1
      unfold RWm at this ⊢
      rw [p4 34 (by decide) (by decide), p3 87 (by decide) (by decide), p3 88 (by decide) (by decide), p3 89 (by decide) (by decide), p3 85 (by decide) (by decide), p3 95 (by decide) (by decide), p3 90 (by decide) (by decide), p3 91 (by decide) (by decide)]
      exact ⟨this.1, fun q => (Bool.noConfusion q), this.2.2⟩
/-- the first check fails on both sides -/
theorem AQ_fail {x7 : ST → KT → (Nat → Int64) → Option (Int32 × AH)} {x6 : Option ((Nat ⊕ Int32) × AH)} (h : REL K C M G W) (h6 : x6 = some (.inl 1, HP C M K O)) (h7 : ∀ O', x7 C K O' = some (0, HP C (up (up M 71 4 0) 71 4 1) K O')) : AQ K M O x6 x7 := by
  refine ⟨.inl 1, C, K, h6, fun O' => ⟨0, _, K, G, W, h7 O', ?_, REL_q h (fun _ _ => rfl) EQ_fail⟩⟩
  show up (up M 71 4 0) 71 4 1 71 4 = nI 1
  rw [up_s, upd_s]
  rfl
theorem fail_1 : f_X7_fail N (HP C (up M 71 4 0) K O) 71 1 = some (0, HP C (up (up M 71 4 0) 71 4 1) K O) := by
  simp only [f_X7_fail, ↓b_wrM]
set_option maxHeartbeats 4000000 in
theorem a_call (h : REL K C M G W) (hN : 10000 ≤ N) : AQ K M O (f_X6_call N (HP C M K O) 0 a) (fun C' K' O' => f_X7_call N (HP C' M K' O') 71 a) := by
  have hN1 : 1000 ≤ N := by omega
  have hc := h.1.1
  have hm := h.1.2.1
  have m0 := m0_of hm
  have hl := h.1.2.2
  have t1 : ¬ (1 : Int32) = 0 := by decide
  by_cases hj : inR a (gJ G)
  · have hj' := hj
    obtain ⟨j, j1, rfl⟩ := hj'
    have j8 : j < 8 := by have := hm.1.2.2.1; omega
    have e1 := hc.2.2.2.1.2.1 1 j (by decide) (by decide) j1
    have d1 := (m0.2.2.1.2.2.1 j j1).1
    by_cases z : 0 ≤ W 1 j
    · have z' : ¬ W 1 j < 0 := by rw [Int32.lt_iff_toInt_lt]; rw [Int32.le_iff_toInt_le] at z; omega
      have hr : ∃ r, r < gRn G ∧ W 1 j = nI r := by
        rcases (hm.2.2.2.1 j j1).1 with q | q | q
        · rw [q] at z; exact absurd z (by decide)
        · rw [q] at z; exact absurd z (by decide)
        · exact q
      obtain ⟨C1, k1, k2, k3, k4, k5, k6⟩ := keep_k (O := O) h hN
      obtain ⟨C2, s1, s2, s3⟩ := goOn_c (N := N) (M := M) (K := K) (O := O) hc.1 w21 hc.2.1 k4 k5 j1 z' 1
      have f2 := FR_21 s3
      have e2 := s2.2.1 1 j (by decide) (by decide) j1
      refine ⟨.inr (goV G W j 1 1 j), C2, K, ?_, fun O' => ?_⟩
      · simp only [f_X6_call, ↓b_rdC, ↓bnd (needJ_y hc hj), ↓Sum.elim_inr, ↓b_rW w21, ↓b_rWa w21, j8, e1, z, ↓reduceIte, ↓bnd k1, ↓bnd s1, e2]
      · obtain ⟨M1, p1, p2, p3, p4, p5, p6, p7⟩ := k6 C2 O'
        obtain ⟨M2, g1, g2, g3⟩ := goBy_m (N := N) (C := C2) (K := K) (O := O') hm.1 p5 p6 j1 1
        have d2 := (g2.2.2.1 j j1).1
        refine ⟨goV G W j 1 1 j, M2, K, G, goV G W j 1, ?_, ⟨by rw [g3.2 4 (by decide) (by decide)]; exact p2, rfl⟩, REL_w h (fun x x1 x2 x3 => (f2 x (by omega)).trans (k2 x (by omega) x3)) (by rw [f2 20 (by omega)]; exact k3) (RA_fr p7 (f2 20 (by omega)) (f2 36 (by omega)) (g3.2 35 (by decide) (by decide)) (g3.1 92 (by simp [stC]))) (fun x x1 x2 x3 => (g3.1 x x1).trans (p3 x (fun q => x1 (by unfold stC; omega)) x3)) (fun k x1 x2 x3 x4 => (g3.2 k x2 x4).trans (p4 k x3 x1)) s2 g2 (okW_go hm.1 hm.2.2.2 j1 (y := 1) (by decide) (.inr hr)) (fun i hi => by rw [goV_4]; exact hl i hi)⟩
        simp only [f_X7_call, ↓b_wrM, ↓b_rdM, ↓bnd (isJ_y m0.2.1 hm.1 hj), t1, ↓reduceIte, ↓b_raM, j8, d1, z, ↓bnd p1, ↓bnd g1, d2]
    · refine ⟨.inr (-1), up C 32 1 (C 32 1 + 1), K, ?_, fun O' => ⟨-1, up (up M 71 4 0) 84 1 (M 84 1 + 1), K, G, W, ?_, ⟨by rw [up_o (by decide)]; exact code_s M 0, rfl⟩, REL_r (by decide) h⟩⟩
      · simp only [f_X6_call, ↓b_rdC, ↓bnd (needJ_y hc hj), ↓Sum.elim_inr, ↓b_rW w21, ↓b_rWa w21, j8, e1, z, ↓reduceIte, ↓bnd (refuse_c (x := 1) (k := 1) rfl (by decide))]
      · simp only [f_X7_call, ↓b_wrM, ↓b_rdM, ↓bnd (isJ_y m0.2.1 hm.1 hj), t1, ↓reduceIte, ↓b_raM, j8, d1, z, ↓bnd (refuse_m (x := 1) (k := 1) rfl (by decide))]
  · refine AQ_fail h ?_ fun O' => ?_
    · simp only [f_X6_call, ↓b_rdC, ↓bnd (needJ_n hc hj), ↓Sum.elim_inl]
    · simp only [f_X7_call, ↓b_wrM, ↓b_rdM, ↓bnd (isJ_n m0.2.1 hm.1 hj), ↓reduceIte, ↓bnd fail_1]
set_option maxHeartbeats 4000000 in
theorem a_paddle (h : REL K C M G W) (hN : 10000 ≤ N) : AQ K M O (f_X6_paddle N (HP C M K O) 0 a b) (fun C' K' O' => f_X7_paddle N (HP C' M K' O') 71 a b) := by
  have hc := h.1.1
  have hm := h.1.2.1
  have m0 := m0_of hm
  have hl := h.1.2.2
  have t1 : ¬ (1 : Int32) = 0 := by decide
  by_cases hj : inR a (gJ G)
  · by_cases hs : inR b (gsd G)
    · have hj' := hj
      obtain ⟨j, j1, rfl⟩ := hj'
      have hs' := hs
      obtain ⟨s, s1, rfl⟩ := hs'
      have j8 : j < 8 := by have := hm.1.2.2.1; omega
      have e1 := hc.2.2.2.1.2.1 1 j (by decide) (by decide) j1
      have e2 := hc.2.2.2.1.2.1 2 j (by decide) (by decide) j1
      have d1 := (m0.2.2.1.2.2.1 j j1).1
      have d2 := (m0.2.2.1.2.2.1 j j1).2.1
      by_cases z : W 1 j = -2 ∨ W 2 j = nI s
      · refine ⟨.inr (-1), up C 32 1 (C 32 1 + 1), K, ?_, fun O' => ⟨-1, up (up M 71 4 0) 84 1 (M 84 1 + 1), K, G, W, ?_, ⟨by rw [up_o (by decide)]; exact code_s M 0, rfl⟩, REL_r (by decide) h⟩⟩
        · by_cases y : W 1 j = -2
          · simp only [f_X6_paddle, f_X6_paddle_b45, ↓b_rdC, ↓bnd (needJ_y hc hj), ↓bnd (needS_y hc hs), ↓Sum.elim_inr, ↓b_rW w21, ↓b_rWa w21, j8, e1, e2, y, ↓reduceIte, ↓bnd (refuse_c (x := 1) (k := 1) rfl (by decide))]
          · have y2 : W 2 j = nI s := z.resolve_left y
            simp only [f_X6_paddle, f_X6_paddle_b45, ↓b_rdC, ↓bnd (needJ_y hc hj), ↓bnd (needS_y hc hs), ↓Sum.elim_inr, ↓b_rW w21, ↓b_rWa w21, j8, e1, e2, y, y2, ↓reduceIte, ↓bnd (refuse_c (x := 1) (k := 1) rfl (by decide))]
        · by_cases y : W 1 j = -2
          · simp only [f_X7_paddle, f_X7_paddle_b50, ↓b_wrM, ↓b_rdM, ↓bnd (isJ_y m0.2.1 hm.1 hj), ↓bnd (isS_y m0.2.1 hm.1 hs), t1, ↓reduceIte, ↓b_raM, j8, d1, d2, y, ↓bnd (refuse_m (x := 1) (k := 1) rfl (by decide))]
          · have y2 : W 2 j = nI s := z.resolve_left y
            simp only [f_X7_paddle, f_X7_paddle_b50, ↓b_wrM, ↓b_rdM, ↓bnd (isJ_y m0.2.1 hm.1 hj), ↓bnd (isS_y m0.2.1 hm.1 hs), t1, ↓reduceIte, ↓b_raM, j8, d1, d2, y, y2, ↓bnd (refuse_m (x := 1) (k := 1) rfl (by decide))]
      · have z1 : ¬ W 1 j = -2 := fun q => z (.inl q)
        have z2 : ¬ W 2 j = nI s := fun q => z (.inr q)
        obtain ⟨C1, k1, k2, k3, k4, k5, k6⟩ := keep_k (O := O) h hN
        refine ⟨.inr (W 2 j), up C1 (21 + 2) j (nI s), K, ?_, fun O' => ?_⟩
        · simp only [f_X6_paddle, ↓b_rdC, ↓bnd (needJ_y hc hj), ↓bnd (needS_y hc hs), ↓Sum.elim_inr, ↓b_rW w21, ↓b_rWa w21, j8, e1, e2, z1, z2, ↓reduceIte, ↓bnd k1, ↓b_wWa w21]
        · obtain ⟨M1, p1, p2, p3, p4, p5, p6, p7⟩ := k6 (up C1 (21 + 2) j (nI s)) O'
          refine ⟨W 2 j, up M1 88 j (nI s), K, G, up W 2 j (nI s), ?_, ⟨by rw [up_o (by decide)]; exact p2, rfl⟩, REL_w h (fun x x1 x2 x3 => (up_o (by omega)).trans (k2 x (by omega) x3)) (by rw [up_o (by decide)]; exact k3) (RA_fr p7 (up_o (by decide)) (up_o (by decide)) (by rw [up_o (by decide)]) (up_o (by decide))) (fun x x1 x2 x3 => (up_o (by rintro rfl; exact x1 (by simp [stC]))).trans (p3 x (fun q => x1 (by unfold stC; omega)) x3)) (fun k x1 x2 x3 x4 => by rw [up_o (by decide)]; exact p4 k x3 x1) (RW_up (by decide) (by decide) k5) (RWm_fc p6) (okW_fc hm.2.2.2 s1) (fun i hi => by rw [up_o (by decide)]; exact hl i hi)⟩
          simp only [f_X7_paddle, ↓b_wrM, ↓b_rdM, ↓bnd (isJ_y m0.2.1 hm.1 hj), ↓bnd (isS_y m0.2.1 hm.1 hs), t1, ↓reduceIte, ↓b_raM, j8, d1, d2, z1, z2, ↓bnd p1, ↓b_waM]
    · refine AQ_fail h ?_ fun O' => ?_
      · simp only [f_X6_paddle, ↓b_rdC, ↓bnd (needJ_y hc hj), ↓bnd (needS_n hc hs), ↓Sum.elim_inl, ↓Sum.elim_inr]
      · simp only [f_X7_paddle, f_X7_paddle_b21, ↓b_wrM, ↓b_rdM, ↓bnd (isJ_y m0.2.1 hm.1 hj), ↓bnd (isS_n m0.2.1 hm.1 hs), t1, ↓reduceIte, ↓bnd fail_1]
  · refine AQ_fail h ?_ fun O' => ?_
    · simp only [f_X6_paddle, ↓b_rdC, ↓bnd (needJ_n hc hj), ↓Sum.elim_inl]
    · simp only [f_X7_paddle, f_X7_paddle_b21, ↓b_wrM, ↓b_rdM, ↓bnd (isJ_n m0.2.1 hm.1 hj), ↓reduceIte, ↓bnd fail_1]
set_option maxHeartbeats 4000000 in
theorem a_carry (h : REL K C M G W) (hN : 10000 ≤ N) : AQ K M O (f_X6_carry N (HP C M K O) 0 a b) (fun C' K' O' => f_X7_carry N (HP C' M K' O') 71 a b) := by
  have hc := h.1.1
  have hm := h.1.2.1
  have m0 := m0_of hm
  have hl := h.1.2.2
  have t1 : ¬ (1 : Int32) = 0 := by decide
  by_cases hj : inR a (gJ G)
  · by_cases hs : inR b (gRn G)
    · have hj' := hj
      obtain ⟨j, j1, rfl⟩ := hj'
      have hs' := hs
      obtain ⟨s, s1, rfl⟩ := hs'
      have j8 : j < 8 := by have := hm.1.2.2.1; omega
      have e1 := hc.2.2.2.1.2.1 1 j (by decide) (by decide) j1
      have d1 := (m0.2.2.1.2.2.1 j j1).1
      by_cases z : W 1 j = -1 ∨ W 1 j = nI s
      · refine ⟨.inr (-1), up C 32 1 (C 32 1 + 1), K, ?_, fun O' => ⟨-1, up (up M 71 4 0) 84 1 (M 84 1 + 1), K, G, W, ?_, ⟨by rw [up_o (by decide)]; exact code_s M 0, rfl⟩, REL_r (by decide) h⟩⟩
        · by_cases y : W 1 j = -1
          · simp only [f_X6_carry, f_X6_carry_b33, ↓b_rdC, ↓bnd (needJ_y hc hj), ↓bnd (needR_y hc hs), ↓Sum.elim_inr, ↓b_rW w21, ↓b_rWa w21, j8, e1, y, ↓reduceIte, ↓bnd (refuse_c (x := 1) (k := 1) rfl (by decide))]
          · have y2 : W 1 j = nI s := z.resolve_left y
            have y3 : ¬ nI s = -1 := fun q => y (y2.trans q)
            simp only [f_X6_carry, f_X6_carry_b33, ↓b_rdC, ↓bnd (needJ_y hc hj), ↓bnd (needR_y hc hs), ↓Sum.elim_inr, ↓b_rW w21, ↓b_rWa w21, j8, e1, y2, y3, ↓reduceIte, ↓bnd (refuse_c (x := 1) (k := 1) rfl (by decide))]
        · by_cases y : W 1 j = -1
          · simp only [f_X7_carry, f_X7_carry_b44, ↓b_wrM, ↓b_rdM, ↓bnd (isJ_y m0.2.1 hm.1 hj), ↓bnd (isR_y m0.2.1 hm.1 hs), t1, ↓reduceIte, ↓b_raM, j8, d1, y, ↓bnd (refuse_m (x := 1) (k := 1) rfl (by decide))]
          · have y2 : W 1 j = nI s := z.resolve_left y
            have y3 : ¬ nI s = -1 := fun q => y (y2.trans q)
            simp only [f_X7_carry, f_X7_carry_b44, ↓b_wrM, ↓b_rdM, ↓bnd (isJ_y m0.2.1 hm.1 hj), ↓bnd (isR_y m0.2.1 hm.1 hs), t1, ↓reduceIte, ↓b_raM, j8, d1, y2, y3, ↓bnd (refuse_m (x := 1) (k := 1) rfl (by decide))]
      · have z1 : ¬ W 1 j = -1 := fun q => z (.inl q)
        have z2 : ¬ W 1 j = nI s := fun q => z (.inr q)
        obtain ⟨C1, k1, k2, k3, k4, k5, k6⟩ := keep_k (O := O) h hN
        refine ⟨.inr (W 1 j), up C1 (21 + 1) j (nI s), K, ?_, fun O' => ?_⟩
        · simp only [f_X6_carry, ↓b_rdC, ↓bnd (needJ_y hc hj), ↓bnd (needR_y hc hs), ↓Sum.elim_inr, ↓b_rW w21, ↓b_rWa w21, j8, e1, z1, z2, ↓reduceIte, ↓bnd k1, ↓b_wWa w21]
        · obtain ⟨M1, p1, p2, p3, p4, p5, p6, p7⟩ := k6 (up C1 (21 + 1) j (nI s)) O'
          refine ⟨W 1 j, up M1 87 j (nI s), K, G, up W 1 j (nI s), ?_, ⟨by rw [up_o (by decide)]; exact p2, rfl⟩, REL_w h (fun x x1 x2 x3 => (up_o (by omega)).trans (k2 x (by omega) x3)) (by rw [up_o (by decide)]; exact k3) (RA_fr p7 (up_o (by decide)) (up_o (by decide)) (by rw [up_o (by decide)]) (up_o (by decide))) (fun x x1 x2 x3 => (up_o (by rintro rfl; exact x1 (by simp [stC]))).trans (p3 x (fun q => x1 (by unfold stC; omega)) x3)) (fun k x1 x2 x3 x4 => by rw [up_o (by decide)]; exact p4 k x3 x1) (RW_up (by decide) (by decide) k5) (RWm_wh p6) (okW_wh hm.2.2.2 s1) (fun i hi => by rw [up_o (by decide)]; exact hl i hi)⟩
          simp only [f_X7_carry, ↓b_wrM, ↓b_rdM, ↓bnd (isJ_y m0.2.1 hm.1 hj), ↓bnd (isR_y m0.2.1 hm.1 hs), t1, ↓reduceIte, ↓b_raM, j8, d1, z1, z2, ↓bnd p1, ↓b_waM]
    · refine AQ_fail h ?_ fun O' => ?_
      · simp only [f_X6_carry, ↓b_rdC, ↓bnd (needJ_y hc hj), ↓bnd (needR_n hc hs), ↓Sum.elim_inl, ↓Sum.elim_inr]
      · simp only [f_X7_carry, f_X7_carry_b21, ↓b_wrM, ↓b_rdM, ↓bnd (isJ_y m0.2.1 hm.1 hj), ↓bnd (isR_n m0.2.1 hm.1 hs), t1, ↓reduceIte, ↓bnd fail_1]
  · refine AQ_fail h ?_ fun O' => ?_
    · simp only [f_X6_carry, ↓b_rdC, ↓bnd (needJ_n hc hj), ↓Sum.elim_inl]
    · simp only [f_X7_carry, f_X7_carry_b21, ↓b_wrM, ↓b_rdM, ↓bnd (isJ_n m0.2.1 hm.1 hj), ↓reduceIte, ↓bnd fail_1]
theorem lt_l {x : Int32} {m : Nat} {y : Int32} (hy : y = nI m) (hm : m < 1000) : (btw x 0 m → ¬ x < 0 ∧ ¬ y < x ∧ x ≤ y) ∧ (¬ btw x 0 m → ¬ x < 0 → y < x ∧ ¬ x ≤ y) := by
  subst hy
  refine ⟨fun q => ?_, fun q q0 => ?_⟩
  · rw [btw_i (by omega)] at q
    rw [lt0_i, Int32.lt_iff_toInt_lt, Int32.le_iff_toInt_le, nI_toInt (by omega)]
    omega
  · rw [btw_i (by omega)] at q
    rw [lt0_i] at q0
    rw [Int32.lt_iff_toInt_lt, Int32.le_iff_toInt_le, nI_toInt (by omega)]
    omega
set_option maxHeartbeats 4000000 in
theorem a_dredge (h : REL K C M G W) (hN : 10000 ≤ N) : AQ K M O (f_X6_dredge N (HP C M K O) 0 a b c) (fun C' K' O' => f_X7_dredge N (HP C' M K' O') 71 a b c) := by
  have hc := h.1.1
  have hm := h.1.2.1
  have m0 := m0_of hm
  have hl := h.1.2.2
  have t1 : ¬ (1 : Int32) = 0 := by decide
  by_cases hj : inR a (gRn G)
  · have hj' := hj
    obtain ⟨j, j1, rfl⟩ := hj'
    have j8 : j < 9 := by have := hm.1.2.1; omega
    have refuse : f_X6_dredge_b24 N 0 (HP C M K O) = some (.inr (-1), HP (up C 32 1 (C 32 1 + 1)) M K O) := by
      simp only [f_X6_dredge_b24, ↓b_rdC, ↓bnd (refuse_c (x := 1) (k := 1) rfl (by decide))]
    have refusm : ∀ C1 O1, f_X7_dredge_b43 N 71 (HP C1 (up M 71 4 0) K O1) = some (-1, HP C1 (up (up M 71 4 0) 84 1 (M 84 1 + 1)) K O1) := fun C1 O1 => by
      simp only [f_X7_dredge_b43, ↓b_rdM, ↓bnd (refuse_m (x := 1) (k := 1) rfl (by decide))]
    have b3 := lt_l (x := b) (m := 3) (y := 3) rfl (by decide)
    have c7 := lt_l (x := c) (m := 7) (y := 7) rfl (by decide)
    by_cases hb : btw b 0 3
    · obtain ⟨x1, x2, x3⟩ := b3.1 hb
      by_cases hd : btw c 0 7
      · obtain ⟨y1, y2, y3⟩ := c7.1 hd
        have hb' := hb
        have hd' := hd
        obtain ⟨f, _, f1, rfl⟩ := hb'
        obtain ⟨s, _, s1, rfl⟩ := hd'
        obtain ⟨C1, k1, k2, k3, k4, k5, k6⟩ := keep_k (O := O) h hN
        have e6 := (k5.2.2 j j1).1
        have e7 := (k5.2.2 j j1).2
        refine ⟨.inr (10 * W 6 j + W 7 j), up (up C1 (21 + 6) j (nI f)) (21 + 7) j (nI s), K, ?_, fun O' => ?_⟩
        · simp only [f_X6_dredge, ↓b_rdC, ↓bnd (needR_y hc hj), ↓Sum.elim_inr, x1, x2, y1, y3, ↓reduceIte, ↓bnd k1, ↓b_rW w21, ↓b_rWa w21, j8, e6, e7, ↓b_wWa w21]
        · obtain ⟨M1, p1, p2, p3, p4, p5, p6, p7⟩ := k6 (up (up C1 (21 + 6) j (nI f)) (21 + 7) j (nI s)) O'
          have d6 := (p6.2.2.2 j j1).1
          have d7 := (p6.2.2.2 j j1).2
          refine ⟨10 * W 6 j + W 7 j, up (up M1 90 j (nI f)) 91 j (nI s), K, G, up (up W 6 j (nI f)) 7 j (nI s), ?_, ⟨by rw [up_o (by decide), up_o (by decide)]; exact p2, rfl⟩, REL_w h (fun x x1 x2 x3 => by rw [up_o (by omega), up_o (by omega)]; exact k2 x (by omega) x3) (by rw [up_o (by decide), up_o (by decide)]; exact k3) (RA_fr p7 (by rw [up_o (by decide), up_o (by decide)]) (by rw [up_o (by decide), up_o (by decide)]) (by rw [up_o (by decide), up_o (by decide)]) (by rw [up_o (by decide), up_o (by decide)])) (fun x x1 x2 x3 => by rw [up_o (by rintro rfl; exact x1 (by simp [stC])), up_o x2]; exact p3 x (fun q => x1 (by unfold stC; omega)) x3) (fun k x1 x2 x3 x4 => by rw [up_o (by decide), up_o (by decide)]; exact p4 k x3 x1) (RW_up (by decide) (by decide) (RW_up (by decide) (by decide) k5)) (RWm_sp (RWm_fl p6)) (okW_sp (okW_fl hm.2.2.2 (by omega)) (by omega)) (fun i hi => by rw [up_o (by decide), up_o (by decide)]; exact hl i hi)⟩
          simp only [f_X7_dredge, ↓b_wrM, ↓b_rdM, ↓bnd (isR_y m0.2.1 hm.1 hj), ↓bnd (bW3_y hb), ↓bnd (bT07_y hd), t1, ↓reduceIte, ↓bnd p1, ↓b_raM, j8, d6, d7, ↓b_waM]
      · refine ⟨.inr (-1), up C 32 1 (C 32 1 + 1), K, ?_, fun O' => ⟨-1, up (up M 71 4 0) 84 1 (M 84 1 + 1), K, G, W, ?_, ⟨by rw [up_o (by decide)]; exact code_s M 0, rfl⟩, REL_r (by decide) h⟩⟩
        · by_cases y1 : c < 0
          · simp only [f_X6_dredge, ↓b_rdC, ↓bnd (needR_y hc hj), ↓Sum.elim_inr, x1, x2, y1, ↓reduceIte, refuse]
          · obtain ⟨y2, y3⟩ := c7.2 hd y1
            simp only [f_X6_dredge, ↓b_rdC, ↓bnd (needR_y hc hj), ↓Sum.elim_inr, x1, x2, y1, y3, ↓reduceIte, refuse]
        · simp only [f_X7_dredge, ↓b_wrM, ↓b_rdM, ↓bnd (isR_y m0.2.1 hm.1 hj), ↓bnd (bW3_y hb), ↓bnd (bT07_n hd), t1, ↓reduceIte, refusm]
    · refine ⟨.inr (-1), up C 32 1 (C 32 1 + 1), K, ?_, fun O' => ⟨-1, up (up M 71 4 0) 84 1 (M 84 1 + 1), K, G, W, ?_, ⟨by rw [up_o (by decide)]; exact code_s M 0, rfl⟩, REL_r (by decide) h⟩⟩
      · by_cases y1 : b < 0
        · simp only [f_X6_dredge, ↓b_rdC, ↓bnd (needR_y hc hj), ↓Sum.elim_inr, y1, ↓reduceIte, refuse]
        · obtain ⟨y2, y3⟩ := b3.2 hb y1
          simp only [f_X6_dredge, ↓b_rdC, ↓bnd (needR_y hc hj), ↓Sum.elim_inr, y1, y2, ↓reduceIte, refuse]
      · simp only [f_X7_dredge, ↓b_wrM, ↓b_rdM, ↓bnd (isR_y m0.2.1 hm.1 hj), ↓bnd (bW3_n hb), t1, ↓reduceIte, refusm]
  · refine AQ_fail h ?_ fun O' => ?_
    · simp only [f_X6_dredge, ↓b_rdC, ↓bnd (needR_n hc hj), ↓Sum.elim_inl]
    · simp only [f_X7_dredge, ↓b_wrM, ↓b_rdM, ↓bnd (isR_n m0.2.1 hm.1 hj), ↓reduceIte, ↓bnd fail_1]
set_option maxHeartbeats 4000000 in
theorem a_undo (h : REL K C M G W) (hN : 10000 ≤ N) : AD K M O (f_X6_undo N (HP C M K O) 0) (fun C' K' O' => f_X7_undo N (HP C' M K' O') 71) := by
  have hc := h.1.1
  have hm := h.1.2.1
  have hl := h.1.2.2
  have hJ := hm.1.2.2.1
  have hR := hm.1.2.1
  obtain ⟨n, o, r1, r2, r3, r4, r5, r6⟩ := h.2.2.2.1
  have t1 : ¬ (1 : Int32) = 0 := by decide
  have d5 : up M 71 4 0 71 35 = nI n := by rw [up_s, upd_o (by decide)]; exact r5
  by_cases hz : n = 0
  · subst hz
    refine ⟨-1, C, K, ?_, fun O' => ⟨up M 71 4 0, K, G, W, ?_, REL_q h (fun _ _ => rfl) (EQ_code M 0)⟩⟩
    · simp only [f_X6_undo, f_X0_undoAct, ↓b_rdC, r3, show nI 0 = 0 from rfl, ↓reduceIte, Option.bind_some]
    · simp only [f_X7_undo, ↓b_wrM, ↓b_rdM, d5, show nI 0 = 0 from rfl, ↓reduceIte]
  · obtain ⟨i, rfl⟩ : ∃ i, n = i + 1 := ⟨n - 1, by omega⟩
    have nz : ¬ nI (i + 1) = 0 := nI_ne0 (by omega) (by omega)
    have ep : nI (i + 1) - 1 = nI i := nI_pred i
    obtain ⟨V, v1, v2, v3, v4, v5, v6⟩ := r6 i (by omega)
    obtain ⟨C1, e1⟩ : ∃ C1, C1 = up C 20 2 (nI i) := ⟨_, rfl⟩
    have q2 : C1 20 2 = nI i := by rw [e1, up_s, upd_s]
    have q8 : C1 20 8 = nI o := by rw [e1, up_s, upd_o (by decide)]; exact r4
    have qo : ∀ x, x ≠ 20 → C1 x = C x := fun x hx => by rw [e1, up_o hx]
    have rs : f_X6_rest N (HP C1 M K O) (nI (o + i)) 40 = some (nI ((o + i) % 40), HP C1 M K O) := rest_40 (by omega)
    obtain ⟨C2, w1, w2, w3, w4, w5⟩ := readFrom_c (N := N) (C := C1) (M := M) (K := K) (O := O) (w := (o + i) % 40) (by omega)
    have f20 : C2 20 = C1 20 := w2 20 (by decide) (by decide) (by decide) (by decide) (by decide) (by decide)
    have q36 : C1 36 = C 36 := qo 36 (by decide)
    rw [q36] at w3 w4 w5
    refine ⟨nI i, C2, K, ?_, fun O' => ?_⟩
    · simp only [f_X6_undo, f_X0_undoAct, ↓b_rdC, r3, nz, ↓reduceIte, ep, ↓b_wrC]
      rw [← e1]
      simp only [↓b_rdC, q8, q2, nI_add, ↓bnd rs, ↓bnd w1, Option.bind_some, t1, ↓reduceIte, f20]
    · obtain ⟨M1, em⟩ : ∃ M1, M1 = up (up M 71 4 0) 71 35 (nI i) := ⟨_, rfl⟩
      have m5 : M1 71 35 = nI i := by rw [em, up_s, upd_s]
      have mk : ∀ k, k ≠ 35 → k ≠ 4 → M1 71 k = M 71 k := fun k x y => by rw [em, up_s, upd_o x, up_s, upd_o y]
      have mo : ∀ x, x ≠ 71 → M1 x = M x := fun x hx => by rw [em, up_o hx, up_o hx]
      obtain ⟨M2, u1, u2, u3, u4, u5⟩ := unpack_m (C := C2) (M := M1) (K := K) (O := O') (N := N) (pa := 92) (ln := 1720) (f := 43 * i) (.inr (.inr (.inr ⟨rfl, rfl⟩))) (by omega) (by omega)
      have m92 : M1 92 = M 92 := mo 92 (by decide)
      rw [m92] at u3 u4 u5
      have k7 : ∀ k, k ≠ 34 → M2 71 k = M1 71 k := fun k hk => by rw [u3 k, if_neg hk]
      refine ⟨M2, K, G, fun x => if x = 5 then W 5 else V x, ?_, REL_w h (fun x x1 x2 x3 => ?_) ?_ ?_ (fun x x1 x2 x3 => ?_) (fun k x1 x2 x3 x4 => ?_) ?_ ?_ ?_ (fun j hj => v2 j hj)⟩
      · simp only [f_X7_undo, ↓b_wrM, ↓b_rdM, d5, nz, ↓reduceIte, ep]
        rw [← em]
        simp only [↓b_rdM, m5, m43', ↓bnd u1, k7 35 (by decide)]
      · rw [w2 x (by omega) (by omega) (by omega) (by omega) (by omega) (by omega)]
        exact qo x (by omega)
      · rw [f20, e1, up_s, upd_o (by decide)]
      · have g92 : M2 92 = M 92 := by rw [u2 92 (by decide) (by decide) (by decide) (by decide) (by decide) (by decide), m92]
        have c36 : C2 (20 + 16) = C (20 + 16) := by rw [w2 (20 + 16) (by decide) (by decide) (by decide) (by decide) (by decide) (by decide)]; exact qo _ (by decide)
        refine ⟨i, o, by omega, r2, by rw [f20]; exact q2, by rw [f20]; exact q8, by rw [k7 35 (by decide)]; exact m5, fun x hx => ?_⟩
        rw [g92, c36]
        exact r6 x (by omega)
      · rw [u2 x (fun q => x1 (by unfold stC; omega)) (fun q => x1 (by unfold stC; omega)) (fun q => x1 (by unfold stC; omega)) (fun q => x1 (by unfold stC; omega)) x2 (fun q => x1 (by unfold stC; omega))]
        exact mo x (fun q => x1 (by unfold stC; omega))
      · rw [k7 k x2]; exact mk k x3 x1
      · refine ⟨w5.trans v3, fun x j x1 x2 hj => ?_, fun r hr => ?_⟩
        · have a3 := w3 j (by omega)
          have b3 := v5 j hj
          rcases (show x = 1 ∨ x = 2 ∨ x = 3 ∨ x = 4 ∨ x = 5 by omega) with rfl | rfl | rfl | rfl | rfl
          · exact a3.1.trans b3.1
          · exact a3.2.1.trans b3.2.1
          · exact a3.2.2.trans b3.2.2.1
          · show C2 (21 + 4) j = V 4 j
            rw [w2 _ (by decide) (by decide) (by decide) (by decide) (by decide) (by decide), qo _ (by decide), hc.2.2.2.1.2.1 4 j (by decide) (by decide) hj, hl j hj, v2 j hj]
          · show C2 (21 + 5) j = W 5 j
            rw [w2 _ (by decide) (by decide) (by decide) (by decide) (by decide) (by decide), qo _ (by decide)]
            exact hc.2.2.2.1.2.1 5 j (by decide) (by decide) hj
        · have a4 := w4 r (by omega)
          have b4 := v6 r hr
          exact ⟨a4.1.trans b4.1, a4.2.trans b4.2.1⟩
      · refine ⟨?_, fun q => (Bool.noConfusion q), fun j hj => ?_, fun r hr => ?_⟩
        · have := u3 34
          rw [if_pos rfl] at this
          exact this.trans v4
        · have a4 := u4 j (by omega)
          have b3 := v5 j hj
          refine ⟨a4.1.trans ((congrArg (M 92) (by omega)).trans b3.2.2.2.1), a4.2.1.trans ((congrArg (M 92) (by omega)).trans b3.2.2.2.2.1), a4.2.2.trans ((congrArg (M 92) (by omega)).trans b3.2.2.2.2.2), ?_, fun q => (Bool.noConfusion q)⟩
          show M2 85 j = V 4 j
          rw [u2 85 (by decide) (by decide) (by decide) (by decide) (by decide) (by decide), mo 85 (by decide), (hm.2.2.1.2.2.1 j hj).2.2.2.1, hl j hj, v2 j hj]
        · have a5 := u5 r (by omega)
          have b4 := v6 r hr
          exact ⟨a5.1.trans ((congrArg (M 92) (by omega)).trans b4.2.2.1), a5.2.trans ((congrArg (M 92) (by omega)).trans b4.2.2.2)⟩
      · exact ⟨fun j hj => v1.1 j hj, fun r hr => v1.2 r hr⟩
end S69
