/-! the game, the reference -/
section S52
variable {C C0 B M M1 W T : ST} {K : KT} {O : Nat → Int64} {N : Nat} {G : GT} {b : Bool}
theorem sn_r {X : ST} (ok : okW G X) {j i : Nat} (hj : j < gJ G) (hi : i < gJ G) : ∃ s, s < 256 ∧ X 3 j &&& (X 3 i ^^^ (-1)) = nI s := by
  obtain ⟨s, hs, es⟩ := (ok.1 j hj).2.2.1
  obtain ⟨t, ht, et⟩ := (ok.1 i hi).2.2.1
  rw [es, et]
  exact andnot_n hs ht
set_option maxHeartbeats 4000000 in
theorem gain_m (hm : MI M G W) (hT : TQ G false M M1 (clr W)) {j i m : Nat} (hj : j < gJ G) (hi : i < gJ G) (h4 : m < 4) (hN : 1000 ≤ N) : ∃ M', f_X7_tellGains_l11 N 71 (nI j) (nI i) (nI m) (HP C M1 K O) = some (.inl (nI (m + 1), HP C M' K O)) ∧ RQ M M' ∧ M' 104 = upd (upd (M1 104) (2 * m) (gnA G W j i m)) (2 * m + 1) (gnB G W j i m) := by
  have j8 : j < 8 := by have := hm.1.2.2.1; omega
  have i8 : i < 8 := by have := hm.1.2.2.1; omega
  have hs := hm.1.1
  have q2 : ¬ nI (gsd G) = 0 := nI_ne0 (by omega) (by omega)
  obtain ⟨k1, k2, k3, k4, k5, k6, k7, k8, k9, k10⟩ := gm_k m h4
  have n4 : ¬ (4 : Int32) ≤ nI m := nI_ge (b := 4) h4 (by decide)
  have m8 : 2 * m < 8 := by omega
  have m9 : 2 * m + 1 < 8 := by omega
  rw [k5] at k6
  rw [k7] at k8
  have fin : ∀ M2, TY G false M M1 M2 (gmX G (clr W) j i m) → ∃ M', f_X7_tellGains_b72 N 71 (nI j) (nI i) (nI m) (HP C M2 K O) = some (.inl (nI (m + 1), HP C M' K O)) ∧ RQ M M' ∧ M' 104 = upd (upd (M1 104) (2 * m) (gnA G W j i m)) (2 * m + 1) (gnB G W j i m) := by
    intro M2 T2
    obtain ⟨M3, g1, T3⟩ := TY_goOn (C := C) (K := K) (O := O) (n := 5) hm T2 (by decide) hN
    rw [show nI 5 = 5 from rfl] at g1
    have e1 : M3 89 j = gmT G W j i m 3 j := ((TQ_w T3.1).2.2.1 j hj).2.2.1
    have e2 : M3 89 i = gmT G W j i m 3 i := ((TQ_w T3.1).2.2.1 i hi).2.2.1
    have b1 : ∃ s, s < 256 ∧ gmT G W j i m 3 j &&& (gmT G W j i m 3 i ^^^ (-1)) = nI s := sn_r (TQ_o T3.1) hj hi
    have b2 : ∃ s, s < 256 ∧ gmT G W j i m 3 i &&& (gmT G W j i m 3 j ^^^ (-1)) = nI s := sn_r (TQ_o T3.1) hi hj
    have T4 : TY G false M (up (up M1 104 (2 * m) (gnA G W j i m)) 104 (2 * m + 1) (gnB G W j i m)) (up (up M3 104 (2 * m) (gnA G W j i m)) 104 (2 * m + 1) (gnB G W j i m)) (passN G 5 (gmX G (clr W) j i m)) := by
      refine ⟨TQ_scr (TQ_scr T3.1 (.inr (.inr rfl))) (.inr (.inr rfl)), fun a x y => ?_⟩
      by_cases z : a = 104
      · subst z
        rw [up_s, up_s, up_s, up_s, T3.2 104 x y]
      · rw [up_o z, up_o z, up_o z, up_o z]
        exact T3.2 a x y
    obtain ⟨M5, u1, u2, u3⟩ := TY_back (C := C) (K := K) (O := O) T4 hN
    refine ⟨M5, ?_, u2, ?_⟩
    · have n1 : (89 : Nat) ≠ 104 := by decide
      simp only [f_X7_tellGains_b72, ↓b_rdM, ↓bnd g1, ↓b_raM, j8, i8, e1, e2, ↓bnd (bits2 b1 hN), ↓bnd (bits2 b2 hN), k5, k6, k7, k8, ↓b_waM, m8, m9, up_o n1, nI_1]
      have ea : (2 * bc (gmT G W j i m 3 j &&& (gmT G W j i m 3 i ^^^ (-1))) - nI (m / 2)) = gnA G W j i m := rfl
      have eb : (2 * bc (gmT G W j i m 3 i &&& (gmT G W j i m 3 j ^^^ (-1))) - nI (m % 2)) = gnB G W j i m := rfl
      simp only [ea, eb, ↓bnd u1]
    · rw [u3 104 (by simp [stC]) (by decide), up_s, up_s]
  have mid : ∀ M2 Y, TY G false M M1 M2 Y → Y = (if m / 2 = 1 then faceV G (clr W) j 1 else clr W) → ∃ M', f_X7_tellGains_b44 N 71 (nI j) (nI i) (nI m) (HP C M2 K O) = some (.inl (nI (m + 1), HP C M' K O)) ∧ RQ M M' ∧ M' 104 = upd (upd (M1 104) (2 * m) (gnA G W j i m)) (2 * m + 1) (gnB G W j i m) := by
    intro M2 Y T2 eY
    have hg := TQ_g hm T2.1
    by_cases z : m % 2 = 1
    · have e3 := ((TQ_w T2.1).2.2.1 i hi).2.1
      have T3 := TY_up (c := 88) (i := 2) (j := i) (v := (Y 2 i + 1) - (Y 2 i + 1) / nI (gsd G) * nI (gsd G)) T2 (.inl rfl) (RWm_fc (TQ_w T2.1)) (okW_face (t := 1) hm.1 (TQ_o T2.1) hi (by decide))
      have ex : up Y 2 i ((Y 2 i + 1) - (Y 2 i + 1) / nI (gsd G) * nI (gsd G)) = gmX G (clr W) j i m := by
        unfold gmX
        rw [if_pos z, ← eY]
        rfl
      rw [ex] at T3
      obtain ⟨M', r1, r2⟩ := fin _ T3
      refine ⟨M', ?_, r2⟩
      simp only [f_X7_tellGains_b44, k5, k6, k10.mpr z, ↓reduceIte, ↓b_rdM, ↓b_raM, ↓b_rlM, i8, e3, hg.1, q2, ↓b_waM]
      exact r1
    · have ex : Y = gmX G (clr W) j i m := by
        unfold gmX
        rw [if_neg z, ← eY]
      rw [ex] at T2
      obtain ⟨M', r1, r2⟩ := fin _ T2
      refine ⟨M', ?_, r2⟩
      have n1 : ¬ nI (m % 2) = 1 := fun q => z (k10.mp q)
      simp only [f_X7_tellGains_b44, k5, k6, n1, ↓reduceIte]
      exact r1
  have T1 : TY G false M M1 M1 (clr W) := ⟨hT, fun _ _ _ => rfl⟩
  by_cases z : m / 2 = 1
  · have hg := TQ_g hm hT
    have e3 := ((TQ_w hT).2.2.1 j hj).2.1
    have T3 := TY_up (c := 88) (i := 2) (j := j) (v := (clr W 2 j + 1) - (clr W 2 j + 1) / nI (gsd G) * nI (gsd G)) T1 (.inl rfl) (RWm_fc (TQ_w hT)) (okW_face (t := 1) hm.1 (TQ_o hT) hj (by decide))
    obtain ⟨M', r1, r2⟩ := mid _ _ T3 (by rw [if_pos z]; rfl)
    refine ⟨M', ?_, r2⟩
    simp only [f_X7_tellGains_l11, n4, k5, k9.mpr z, ↓reduceIte, ↓b_rdM, ↓b_raM, ↓b_rlM, j8, e3, hg.1, q2, ↓b_waM]
    exact r1
  · obtain ⟨M', r1, r2⟩ := mid _ _ T1 (by rw [if_neg z])
    refine ⟨M', ?_, r2⟩
    have n1 : ¬ nI (m / 2) = 1 := fun q => z (k9.mp q)
    simp only [f_X7_tellGains_l11, n4, k5, n1, ↓reduceIte]
    exact r1
set_option maxHeartbeats 4000000 in
theorem tellGains_m (hm : MI M G W) {j i : Nat} (hj : j < gJ G) (hi : i < gJ G) (hN : 1000 ≤ N) : ∃ M', f_X7_tellGains N (HP C (up M 71 4 0) K O) 71 (nI j) (nI i) = some (HP C M' K O) ∧ RQ M M' ∧ ∀ c, c < 4 → M' 104 (2 * c) = gnA G W j i c ∧ M' 104 (2 * c + 1) = gnB G W j i c := by
  obtain ⟨M1, p1, p2⟩ := TQ_pack (C := C) (K := K) (O := O) hm hN
  have q := itr_inv (body := fun s : Int32 × AH => f_X7_tellGains_l11 N 71 (nI j) (nI i) s.1 s.2)
    (fun k s => ∃ M', s = (nI k, HP C M' K O) ∧ TQ G false M M' (clr W) ∧ (0 < k → RQ M M') ∧ ∀ c, c < k → M' 104 (2 * c) = gnA G W j i c ∧ M' 104 (2 * c + 1) = gnB G W j i c)
    (P := fun r => ∃ M', r = HP C M' K O ∧ RQ M M' ∧ ∀ c, c < 4 → M' 104 (2 * c) = gnA G W j i c ∧ M' 104 (2 * c + 1) = gnB G W j i c) (n := 4) ?_ ?_ (s := (0, HP C M1 K O)) ⟨M1, rfl, p2, fun h => absurd h (by decide), fun c hc => absurd hc (Nat.not_lt_zero c)⟩ (N := N) (by omega)
  · obtain ⟨r, q1, M2, e, q2⟩ := q
    rw [e] at q1
    refine ⟨M2, ?_, q2⟩
    simp only [f_X7_tellGains, f_X7_tellGains_b11, ↓b_rdM, ↓bnd p1, q1, Option.bind_some]
  · rintro k s hk ⟨M2, rfl, h1, _, h3⟩
    left
    obtain ⟨M3, g1, g2, g3⟩ := gain_m (C := C) (K := K) (O := O) hm h1 hj hi hk hN
    refine ⟨(nI (k + 1), HP C M3 K O), by simp only [g1], M3, rfl, TQ_again hm g2, fun _ => g2, fun c hc => ?_⟩
    rw [g3]
    unfold upd
    by_cases z : c = k
    · subst z
      rw [if_neg (by omega), if_pos rfl, if_pos rfl]
      exact ⟨rfl, rfl⟩
    · rw [if_neg (by omega), if_neg (by omega), if_neg (by omega), if_neg (by omega)]
      exact h3 c (by omega)
  · rintro s ⟨M2, rfl, h1, h2, h3⟩
    refine ⟨_, ?_, M2, rfl, h2 (by decide), h3⟩
    simp only [f_X7_tellGains_l11, show (4 : Int32) ≤ nI 4 by decide, ↓reduceIte]
theorem gx1 : ∀ o, o < 4 → ∀ k, k < 4 → (k &&& o = k ↔ (¬ k / 2 = 1 ∨ o / 2 = 1) ∧ (¬ k % 2 = 1 ∨ o % 2 = 1)) := by decide
theorem gx2 : ∀ o, o < 4 → ∀ k, k < 4 → (¬ o / 2 = 1 ∨ k ^^^ (o &&& 2) = k ^^^ 2) ∧ (o / 2 = 1 ∨ k ^^^ (o &&& 2) = k) := by decide
theorem gx3 : ∀ o, o < 4 → ∀ k, k < 4 → (¬ o % 2 = 1 ∨ k ^^^ (o &&& 1) = k ^^^ 1) ∧ (o % 2 = 1 ∨ k ^^^ (o &&& 1) = k) := by decide
theorem lt_irr (a : Int32) : ¬ a < a := by rw [Int32.lt_iff_toInt_lt]; omega
set_option maxHeartbeats 8000000 in
theorem gameB_m (hm : MI M G W) {j i o : Nat} {v3 : Int32} (hj : j < gJ G) (hi : i < gJ G) (ho : o < 4) (hN : 1000 ≤ N) : ∃ M', f_X7_game_b82 N 71 (nI j) (nI i) v3 (if o / 2 = 1 then 1 else 0) (if o % 2 = 1 then 1 else 0) (HP C (up M 71 4 0) K O) = some (if v3 = 0 then (gm G W j i o 4).1 else (gm G W j i o 4).2, HP C M' K O) ∧ RQ M M' := by
  obtain ⟨M1, g1, g2, g3⟩ := tellGains_m (C := C) (K := K) (O := O) hm hj hi hN
  refine ⟨M1, ?_, g2⟩
  have q2 := itr_seq (body := fun s : Int32 × Int32 × Int32 × AH => f_X7_game_l99 N 71 v3 (if o / 2 = 1 then 1 else 0) (if o % 2 = 1 then 1 else 0) s.1 s.2.1 s.2.2.1 s.2.2.2) (fun k => ((gm G W j i o k).1, (gm G W j i o k).2, nI k, HP C M1 K O)) (n := 4) (r := ((gm G W j i o 4).1, (gm G W j i o 4).2, HP C M1 K O)) ?_ ?_ (N := N) (by omega)
  · simp only [show nI 0 = 0 from rfl] at q2
    rw [show gm G W j i o 0 = (0, -1) from rfl] at q2
    simp only [f_X7_game_b82, f_X7_game_b99, ↓b_rdM, ↓bnd g1, q2, Option.bind_some]
    split <;> rfl
  · intro k hk
    obtain ⟨_, _, _, _, k5, k6, k7, k8, k9, k10⟩ := gm_k k hk
    have x1 : k &&& o = k ↔ (k / 2 = 1 → o / 2 = 1) ∧ (k % 2 = 1 → o % 2 = 1) := by
      rw [gx1 o ho k hk]
      constructor
      · rintro ⟨p, q⟩
        exact ⟨fun w => p.resolve_left (fun n => n w), fun w => q.resolve_left (fun n => n w)⟩
      · rintro ⟨p, q⟩
        refine ⟨?_, ?_⟩
        · by_cases w : k / 2 = 1
          · exact .inr (p w)
          · exact .inl w
        · by_cases w : k % 2 = 1
          · exact .inr (q w)
          · exact .inl w
    have x2 : o / 2 = 1 → k ^^^ (o &&& 2) = k ^^^ 2 := fun w => (gx2 o ho k hk).1.resolve_left (fun n => n w)
    have x3 : ¬ o / 2 = 1 → k ^^^ (o &&& 2) = k := fun w => (gx2 o ho k hk).2.resolve_left w
    have x4 : o % 2 = 1 → k ^^^ (o &&& 1) = k ^^^ 1 := fun w => (gx3 o ho k hk).1.resolve_left (fun n => n w)
    have x5 : ¬ o % 2 = 1 → k ^^^ (o &&& 1) = k := fun w => (gx3 o ho k hk).2.resolve_left w
    obtain ⟨y1, y2, y3, y4⟩ := gq_k k hk
    obtain ⟨_, _, _, _, _, _, g7, _⟩ := gp_k o ho k hk
    have n4 : ¬ (4 : Int32) ≤ nI k := nI_ge (b := 4) hk (by decide)
    have a1 := (g3 k hk).1
    have a2 := (g3 k hk).2
    have a3 := (g3 _ y3).1
    have a4 := (g3 _ y4).2
    have l1 : 2 * k < 8 := by omega
    have l2 : 2 * k + 1 < 8 := by omega
    have l3 : 2 * (k ^^^ 2) < 8 := by omega
    have l4 : 2 * (k ^^^ 1) + 1 < 8 := by omega
    rw [k5] at k6
    rw [k7] at k8
    have e197 : ∀ h : AH, f_X7_game_b197 N 71 v3 (if o / 2 = 1 then 1 else 0) (if o % 2 = 1 then 1 else 0) (gm G W j i o k).1 (gm G W j i o k).2 (nI k) h = some (.inl ((gm G W j i o k).1 + 1, (if (gm G W j i o k).2 = -1 then nI (10 * (k / 2) + k % 2) else (gm G W j i o k).2), nI (k + 1), h)) := by
      intro h
      simp only [f_X7_game_b197, f_X7_game_b223, f_X7_game_b225, k5, k6, g7, nI_1]
      by_cases y : (gm G W j i o k).2 = -1
      · simp only [y, ↓reduceIte]
      · simp only [y, ↓reduceIte]
    have e162 : f_X7_game_b162 N 71 v3 (if o / 2 = 1 then 1 else 0) (if o % 2 = 1 then 1 else 0) (gm G W j i o k).1 (gm G W j i o k).2 (nI k) (HP C M1 K O) = some (.inl (if gnB G W j i k < gnB G W j i (k ^^^ (o &&& 1)) then ((gm G W j i o k).1, (gm G W j i o k).2, nI (k + 1), HP C M1 K O) else ((gm G W j i o k).1 + 1, (if (gm G W j i o k).2 = -1 then nI (10 * (k / 2) + k % 2) else (gm G W j i o k).2), nI (k + 1), HP C M1 K O))) := by
      by_cases z : o % 2 = 1
      · rw [x4 z]
        simp only [z, ↓reduceIte] at e197 ⊢
        by_cases y : gnB G W j i k < gnB G W j i (k ^^^ 1)
        · have y' : ¬ gnB G W j i (k ^^^ 1) ≤ gnB G W j i k := nle_lt.mpr y
          simp only [f_X7_game_b162, f_X7_game_b225, show ¬ (1 : Int32) = 0 by decide, ↓reduceIte, ↓b_rdM, y2, k7, k8, ↓b_raM, l2, l4, a2, a4, y, y', nI_1]
        · have y' : gnB G W j i (k ^^^ 1) ≤ gnB G W j i k := by rw [Int32.le_iff_toInt_le]; rw [Int32.lt_iff_toInt_lt] at y; omega
          simp only [f_X7_game_b162, f_X7_game_b225, show ¬ (1 : Int32) = 0 by decide, ↓reduceIte, ↓b_rdM, y2, k7, k8, ↓b_raM, l2, l4, a2, a4, y, y', e197]
      · rw [x5 z]
        simp only [z, ↓reduceIte] at e197 ⊢
        simp only [f_X7_game_b162, ↓reduceIte, e197, lt_irr]
    have e134 : f_X7_game_b134 N 71 v3 (if o / 2 = 1 then 1 else 0) (if o % 2 = 1 then 1 else 0) (gm G W j i o k).1 (gm G W j i o k).2 (nI k) (HP C M1 K O) = some (.inl (if gnA G W j i k < gnA G W j i (k ^^^ (o &&& 2)) then ((gm G W j i o k).1, (gm G W j i o k).2, nI (k + 1), HP C M1 K O) else if gnB G W j i k < gnB G W j i (k ^^^ (o &&& 1)) then ((gm G W j i o k).1, (gm G W j i o k).2, nI (k + 1), HP C M1 K O) else ((gm G W j i o k).1 + 1, (if (gm G W j i o k).2 = -1 then nI (10 * (k / 2) + k % 2) else (gm G W j i o k).2), nI (k + 1), HP C M1 K O))) := by
      by_cases z : o / 2 = 1
      · rw [x2 z]
        simp only [z, ↓reduceIte] at e162 ⊢
        by_cases y : gnA G W j i k < gnA G W j i (k ^^^ 2)
        · simp only [f_X7_game_b134, f_X7_game_b225, show ¬ (1 : Int32) = 0 by decide, ↓reduceIte, ↓b_rdM, y1, k7, ↓b_raM, l1, l3, a1, a3, y, nI_1]
        · simp only [f_X7_game_b134, f_X7_game_b225, show ¬ (1 : Int32) = 0 by decide, ↓reduceIte, ↓b_rdM, y1, k7, ↓b_raM, l1, l3, a1, a3, y, e162]
      · rw [x3 z]
        simp only [z, ↓reduceIte] at e162 ⊢
        simp only [f_X7_game_b134, ↓reduceIte, e162, lt_irr]
    by_cases z : k &&& o = k
    · have zz := x1.mp z
      have eg : gm G W j i o (k + 1) = (if gnA G W j i k < gnA G W j i (k ^^^ (o &&& 2)) then gm G W j i o k else if gnB G W j i k < gnB G W j i (k ^^^ (o &&& 1)) then gm G W j i o k else ((gm G W j i o k).1 + 1, if (gm G W j i o k).2 = -1 then nI (10 * (k / 2) + k % 2) else (gm G W j i o k).2)) := by
        conv => lhs; unfold gm
        rw [if_pos z]
      have e118 : f_X7_game_b118 N 71 v3 (if o / 2 = 1 then 1 else 0) (if o % 2 = 1 then 1 else 0) (gm G W j i o k).1 (gm G W j i o k).2 (nI k) (HP C M1 K O) = f_X7_game_b134 N 71 v3 (if o / 2 = 1 then 1 else 0) (if o % 2 = 1 then 1 else 0) (gm G W j i o k).1 (gm G W j i o k).2 (nI k) (HP C M1 K O) := by
        unfold f_X7_game_b118
        rw [k5, k6]
        by_cases y : k % 2 = 1
        · rw [if_pos (k10.mpr y), if_neg (by rw [if_pos (zz.2 y)]; decide)]
        · rw [if_neg (fun q => y (k10.mp q))]
      have e99 : f_X7_game_l99 N 71 v3 (if o / 2 = 1 then 1 else 0) (if o % 2 = 1 then 1 else 0) (gm G W j i o k).1 (gm G W j i o k).2 (nI k) (HP C M1 K O) = f_X7_game_b118 N 71 v3 (if o / 2 = 1 then 1 else 0) (if o % 2 = 1 then 1 else 0) (gm G W j i o k).1 (gm G W j i o k).2 (nI k) (HP C M1 K O) := by
        unfold f_X7_game_l99
        rw [if_neg n4, k5]
        by_cases y : k / 2 = 1
        · rw [if_pos (k9.mpr y), if_neg (by rw [if_pos (zz.1 y)]; decide)]
        · rw [if_neg (fun q => y (k9.mp q))]
      suffices fin : f_X7_game_l99 N 71 v3 (if o / 2 = 1 then 1 else 0) (if o % 2 = 1 then 1 else 0) (gm G W j i o k).1 (gm G W j i o k).2 (nI k) (HP C M1 K O) = some (.inl ((gm G W j i o (k + 1)).1, (gm G W j i o (k + 1)).2, nI (k + 1), HP C M1 K O)) by simp only [fin]
      rw [e99, e118, e134, eg]
      by_cases y : gnA G W j i k < gnA G W j i (k ^^^ (o &&& 2))
      · rw [if_pos y, if_pos y]
      · rw [if_neg y, if_neg y]
        by_cases y' : gnB G W j i k < gnB G W j i (k ^^^ (o &&& 1))
        · rw [if_pos y', if_pos y']
        · rw [if_neg y', if_neg y']
    · have eg : gm G W j i o (k + 1) = gm G W j i o k := by
        conv => lhs; unfold gm
        rw [if_neg z]
      suffices fin : f_X7_game_l99 N 71 v3 (if o / 2 = 1 then 1 else 0) (if o % 2 = 1 then 1 else 0) (gm G W j i o k).1 (gm G W j i o k).2 (nI k) (HP C M1 K O) = some (.inl ((gm G W j i o (k + 1)).1, (gm G W j i o (k + 1)).2, nI (k + 1), HP C M1 K O)) by simp only [fin]
      rw [eg]
      unfold f_X7_game_l99
      rw [if_neg n4, k5]
      by_cases y : k / 2 = 1 ∧ ¬ o / 2 = 1
      · rw [if_pos (k9.mpr y.1), if_pos (by rw [if_neg y.2])]
        simp only [f_X7_game_b225, nI_1]
      · have y2 : k % 2 = 1 ∧ ¬ o % 2 = 1 := by
          refine Classical.byContradiction fun w => z (x1.mpr ⟨fun p => Classical.byContradiction fun r => y ⟨p, r⟩, fun p => Classical.byContradiction fun r => w ⟨p, r⟩⟩)
        have e118 : f_X7_game_b118 N 71 v3 (if o / 2 = 1 then 1 else 0) (if o % 2 = 1 then 1 else 0) (gm G W j i o k).1 (gm G W j i o k).2 (nI k) (HP C M1 K O) = some (.inl ((gm G W j i o k).1, (gm G W j i o k).2, nI (k + 1), HP C M1 K O)) := by
          unfold f_X7_game_b118
          rw [k5, k6, if_pos (k10.mpr y2.1), if_pos (by rw [if_neg y2.2])]
          simp only [f_X7_game_b225, nI_1]
        by_cases y3 : k / 2 = 1
        · rw [if_pos (k9.mpr y3), if_neg (by rw [if_pos (Classical.byContradiction fun r => y ⟨y3, r⟩)]; decide), e118]
        · rw [if_neg (fun q => y3 (k9.mp q)), e118]
  · simp only [f_X7_game_l99, show (4 : Int32) ≤ nI 4 by decide, ↓reduceIte]
end S52
