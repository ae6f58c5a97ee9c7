/-! the reference's step -/
section S37
variable {C M M' M'' W : ST} {K : KT} {O : Nat → Int64} {N : Nat} {G : GT} {b : Bool}
theorem isFair_m (hG : okG G) (h : RGm M G) (hW : RWm G b M W) {j : Nat} (hj : j < gJ G) : f_X7_isFair N (HP C M K O) 71 (nI j) = some (if W 3 j = allS G then 1 else 0, HP C M K O) := by
  have h8 : j < 8 := by have := hG.2.2.1; omega
  have e3 := (hW.2.2.1 j hj).2.2.1
  have ea : ((1 : Int32) <<< (nI (gsd G) &&& 31)) - 1 = allS G := rfl
  simp only [f_X7_isFair, f_X7_allSides, ↓b_rdM, ↓b_raM, ↓b_rlM, h8, e3, h.1, Option.bind_some, ea]
  by_cases q : W 3 j = allS G
  · simp only [q, ↓reduceIte]
  · simp only [q, ↓reduceIte]
set_option maxHeartbeats 4000000 in
theorem turnsOf_m (hG : okG G) (h : RGm M G) (hW : RWm G b M W) (ok : okW G W) {j r : Nat} (hj : j < gJ G) (hr : r < gRn G) (e1 : W 1 j = nI r) (hN : 1000 ≤ N) : ∃ M', f_X7_turnsOf N (HP C M K O) 71 (nI j) = some (turnV G W j, HP C M' K O) ∧ ∀ a, a ≠ 93 → a ≠ 94 → M' a = M a := by
  have h8 : j < 8 := by have := hG.2.2.1; omega
  have h9 : r < 9 := by have := hG.2.1; omega
  have j16 : j < 16 := by omega
  have em := (hW.2.2.1 j hj).1
  rw [e1] at em
  have es : M 91 r = spH W j := by unfold spH; rw [e1, nI_clampN (by omega)]; exact (hW.2.2.2 r hr).2
  have e4 := (hW.2.2.1 j hj).2.2.2.1
  have eb := (h.2.2.2.1 j hj).2
  have hb := (hG.2.2.2.1 j hj).1
  obtain ⟨en, hm⟩ := h.2.2.2.2.1
  by_cases hz : gtn G = 0
  · refine ⟨M, ?_, fun _ _ _ => rfl⟩
    simp only [f_X7_turnsOf, f_X7_turnsOf_b47, ↓b_rdM, ↓b_raM, ↓b_rlM, h8, h9, j16, em, es, e4, eb, en, hz, show nI 0 ≤ 0 by decide, ↓reduceIte, turnV]
    rcases hb with q | q
    · simp only [q, show ¬ (0 : Int32) = 1 by decide, ↓reduceIte]
    · simp only [q, show ¬ (1 : Int32) = 0 by decide, ↓reduceIte]
  · obtain ⟨M2, t1, t2⟩ := ruleOf_m (C := C) (K := K) (O := O) hG h hW ok hj (spH W j) (.inl rfl) h.2.2.2.2.1 hG.2.2.2.2.1 (by omega) hN
    refine ⟨M2, ?_, t2⟩
    have hn : ¬ nI (gtn G) ≤ 0 := nI_ge (a := 0) (by omega) (by have := hG.2.2.2.2.1.1; omega)
    have eb2 : M2 78 j = gbg G j := by rw [t2 78 (by decide) (by decide)]; exact eb
    rw [en] at t1
    simp only [f_X7_turnsOf, f_X7_turnsOf_b47, ↓b_rdM, ↓b_raM, ↓b_rlM, h8, h9, j16, em, es, e4, en, hz, hn, ↓reduceIte, turnV, ↓bnd t1, eb2]
    rcases hb with q | q
    · simp only [q, show ¬ (0 : Int32) = 1 by decide, ↓reduceIte]
    · simp only [q, show ¬ (1 : Int32) = 0 by decide, ↓reduceIte]
set_option maxHeartbeats 4000000 in
theorem goesOf_m (hG : okG G) (h : RGm M G) (hW : RWm G b M W) (ok : okW G W) {j r : Nat} (hj : j < gJ G) (hr : r < gRn G) (e1 : W 1 j = nI r) (fd : Int32) (hN : 1000 ≤ N) : ∃ M', f_X7_goesOf N (HP C M K O) 71 (nI j) fd = some (wayV G W j fd, HP C M' K O) ∧ ∀ a, a ≠ 93 → a ≠ 94 → M' a = M a := by
  have h8 : j < 8 := by have := hG.2.2.1; omega
  have h9 : r < 9 := by have := hG.2.1; omega
  have em := (hW.2.2.1 j hj).1
  rw [e1] at em
  have es : M 90 r = W 6 r := (hW.2.2.2 r hr).1
  obtain ⟨en, hm⟩ := h.2.2.2.2.2
  have q19 : f_X7_goesOf N (HP C M K O) 71 (nI j) fd = f_X7_goesOf_b19 N 71 (nI j) (flH W j fd) (HP C M K O) := by
    unfold f_X7_goesOf flH
    by_cases q : fd = 0
    · simp only [q, ↓reduceIte, ↓b_rdM, ↓b_raM, h8, h9, em, es, e1, nI_clampN (show r < 10000 by omega)]
    · simp only [q, ↓reduceIte]
  rw [q19]
  have q37 : f_X7_goesOf_b19 N 71 (nI j) (flH W j fd) (HP C M K O) = f_X7_goesOf_b37 N 71 (nI j) (flH W j fd) (if flH W j fd = 0 ∧ W 3 j = allS G then 1 else flH W j fd) (HP C M K O) := by
    unfold f_X7_goesOf_b19 f_X7_goesOf_b36
    by_cases q : flH W j fd = 0
    · simp only [q, ↓reduceIte, ↓b_rdM, ↓bnd (isFair_m hG h hW hj), true_and]
      by_cases q3 : W 3 j = allS G
      · simp only [q3, ↓reduceIte, show ¬ (1 : Int32) = 0 by decide]
      · simp only [q3, ↓reduceIte]
    · simp only [q, ↓reduceIte, false_and]
  rw [q37]
  by_cases hz : ggn G = 0
  · refine ⟨M, ?_, fun _ _ _ => rfl⟩
    simp only [f_X7_goesOf_b37, f_X7_goesOf_b66, ↓b_rdM, ↓b_rlM, en, hz, show nI 0 ≤ 0 by decide, ↓reduceIte, wayV]
  · obtain ⟨M2, t1, t2⟩ := ruleOf_m (C := C) (K := K) (O := O) hG h hW ok hj (flH W j fd) (.inr rfl) h.2.2.2.2.2 hG.2.2.2.2.2 (by omega) hN
    refine ⟨M2, ?_, t2⟩
    have hn : ¬ nI (ggn G) ≤ 0 := nI_ge (a := 0) (by omega) (by have := hG.2.2.2.2.2.1; omega)
    rw [en] at t1
    simp only [f_X7_goesOf_b37, f_X7_goesOf_b66, ↓b_rdM, ↓b_rlM, en, hz, hn, ↓reduceIte, wayV, ↓bnd t1]
set_option maxHeartbeats 4000000 in
theorem goBy_m (hG : okG G) (h : RGm M G) (hW : RWm G b M W) {j : Nat} (hj : j < gJ G) (y : Int32) : ∃ M', f_X7_goBy N (HP C M K O) 71 (nI j) y = some (HP C M' K O) ∧ RWm G b M' (goV G W j y) ∧ FM M M' := by
  have h8 : j < 8 := by have := hG.2.2.1; omega
  have e1 := (hW.2.2.1 j hj).1
  have n1 : (75 : Nat) ≠ 87 := by decide
  by_cases hl : nI (gRn G) ≤ W 1 j + y
  · refine ⟨up (up (up M 87 j (W 1 j + y)) 87 j (-2)) 71 40 (M 71 40 + 1), ?_, ?_, ?_⟩
    · have n2 : (71 : Nat) ≠ 87 := by decide
      simp only [f_X7_goBy, ↓b_rdM, ↓b_raM, ↓b_rlM, ↓b_waM, ↓b_wrM, h8, e1, up_s, upd_s, up_o n1, up_o n2, h.2.1, hl, ↓reduceIte]
    · unfold goV
      rw [if_pos hl]
      have q := RWm_ld (RWm_wh (j := j) (v := -2) (RWm_wh (j := j) (v := W 1 j + y) hW))
      have ew : up (up W 1 j (W 1 j + y)) 1 j (-2) = up W 1 j (-2) := by
        funext a c
        by_cases x : a = 1
        · subst x; rw [up_s, up_s, up_s]; unfold upd; split <;> rfl
        · rw [up_o x, up_o x, up_o x]
      rw [ew] at q
      rw [up_o (by decide), up_o (by decide)] at q
      rw [show up W 1 j (-2) 0 1 = W 0 1 by rw [up_o (by decide)]] at q
      exact q
    · exact FM_trans (FM_trans (FM_up (by simp [stC]) (by decide)) (FM_up (by simp [stC]) (by decide))) (FM_up0 (.inr rfl))
  · refine ⟨up M 87 j (W 1 j + y), ?_, ?_, FM_up (by simp [stC]) (by decide)⟩
    · simp only [f_X7_goBy, ↓b_rdM, ↓b_raM, ↓b_rlM, ↓b_waM, h8, e1, up_s, upd_s, up_o n1, h.2.1, hl, ↓reduceIte]
    · unfold goV
      rw [if_neg hl]
      exact RWm_wh hW
set_option maxHeartbeats 4000000 in
theorem aStepIn_m (hG : okG G) (h : RGm M G) (hW : RWm G b M W) (ok : okW G W) (fd : Int32) (hN : 1000 ≤ N) : ∃ M', f_X7_aStepIn N (HP C M K O) 71 fd = some (HP C M' K O) ∧ RWm G b M' (passV G fd W) ∧ FM M M' := by
  have hJ := hG.2.2.1
  have hRn := hG.2.1
  have A := itr_inv (body := fun s : Int32 × AH => f_X7_aStepIn_l2 N 71 fd s.1 s.2)
    (fun k s => ∃ M', s = (nI k, HP C M' K O) ∧ RWm G b M' (letA G W k) ∧ FM M M')
    (P := fun r => ∃ M', r = HP C M' K O ∧ RWm G b M' (letA G W (gJ G)) ∧ FM M M') (n := gJ G) ?_ ?_ (s := (0, HP C M K O)) ⟨M, rfl, hW, FM_refl⟩ (N := N) (by omega)
  · obtain ⟨r, A1, M1, e, hW1, f1⟩ := A
    rw [e] at A1
    have ok1 := okW_letA hG ok _ (Nat.le_refl _)
    have B := itr_inv (body := fun s : Int32 × AH => f_X7_aStepIn_l49 N 71 fd s.1 s.2)
      (fun k s => ∃ M', s = (nI k, HP C M' K O) ∧ RWm G b M' (drfA G fd (letA G W (gJ G)) k) ∧ FM M M')
      (P := fun r => ∃ M', r = HP C M' K O ∧ RWm G b M' (drfA G fd (letA G W (gJ G)) (gJ G)) ∧ FM M M') (n := gJ G) ?_ ?_ (s := (0, HP C M1 K O)) ⟨M1, rfl, hW1, f1⟩ (N := N) (by omega)
    · obtain ⟨r2, B1, M2, e2, hW2, f2⟩ := B
      rw [e2] at B1
      refine ⟨up M2 71 34 (M2 71 34 + 1), ?_, RWm_tick hW2, FM_trans f2 (FM_up0 (.inl rfl))⟩
      simp only [f_X7_aStepIn, f_X7_aStepIn_b2, f_X7_aStepIn_b49, A1, B1, Option.bind_some, ↓b_rdM, ↓b_wrM]
    · rintro k s hk ⟨M3, rfl, hW', f'⟩
      left
      have k8 : k < 8 := by omega
      have h' := RGm_fr h f'
      have ok' := okW_drfA (fd := fd) hG ok1 k (by omega)
      obtain ⟨e1, e2, e3, e4, e5⟩ := hW'.2.2.1 k hk
      by_cases q : 0 ≤ drfA G fd (letA G W (gJ G)) k 1 k
      · obtain ⟨r, hr, er⟩ : ∃ r, r < gRn G ∧ drfA G fd (letA G W (gJ G)) k 1 k = nI r := by
          rcases (ok'.1 k hk).1 with q1 | q1 | q1
          · rw [q1] at q; exact absurd q (by decide)
          · rw [q1] at q; exact absurd q (by decide)
          · exact q1
        have ed : drfA G fd (letA G W (gJ G)) (k + 1) = driftV G fd (drfA G fd (letA G W (gJ G)) k) k := by simp only [drfA, q, ↓reduceIte]
        rw [ed]
        generalize drfA G fd (letA G W (gJ G)) k = X at *
        have hW4 : RWm G b (up M3 89 k (X 3 k ||| ((1 : Int32) <<< (X 2 k &&& 31)))) (seeV X k) := RWm_sn hW'
        have f4 := FM_trans f' (FM_up (M := M3) (i := 89) (j := k) (v := X 3 k ||| ((1 : Int32) <<< (X 2 k &&& 31))) (by simp [stC]) (by decide))
        have ok4 := okW_see hG ok' hk
        obtain ⟨M5, t1, t2⟩ := turnsOf_m (C := C) (K := K) (O := O) hG (RGm_fr h f4) hW4 ok4 hk hr (by rw [seeV_1]; exact er) hN
        have hW5 := RWm_fr hW4 t2
        have f5 := FM_trans f4 (FM_m t2)
        have e6 := (hW5.2.2.1 k hk).2.1
        have h5 := RGm_fr h f5
        have hW6 : RWm G b (up M5 88 k ((seeV X k 2 k + turnV G (seeV X k) k) - (seeV X k 2 k + turnV G (seeV X k) k) / nI (gsd G) * nI (gsd G))) (faceV G (seeV X k) k (turnV G (seeV X k) k)) := RWm_fc hW5
        have f6 := FM_trans f5 (FM_up (M := M5) (i := 88) (j := k) (v := (seeV X k 2 k + turnV G (seeV X k) k) - (seeV X k 2 k + turnV G (seeV X k) k) / nI (gsd G) * nI (gsd G)) (by simp [stC]) (by decide))
        have hW7 : RWm G b (up (up M5 88 k ((seeV X k 2 k + turnV G (seeV X k) k) - (seeV X k 2 k + turnV G (seeV X k) k) / nI (gsd G) * nI (gsd G))) 95 k (M5 95 k + turnV G (seeV X k) k)) (turnA G (seeV X k) k) := RWm_tu hW6 (fun hb => by rw [(hW5.2.2.1 k hk).2.2.2.2 hb])
        have f7 := FM_trans f6 (FM_up (M := up M5 88 k ((seeV X k 2 k + turnV G (seeV X k) k) - (seeV X k 2 k + turnV G (seeV X k) k) / nI (gsd G) * nI (gsd G))) (i := 95) (j := k) (v := M5 95 k + turnV G (seeV X k) k) (by simp [stC]) (by decide))
        have ok7 := okW_turnA hG ok4 hk
        have er7 : turnA G (seeV X k) k 1 k = nI r := by rw [turnA_1, seeV_1]; exact er
        obtain ⟨M8, t3, t4⟩ := goesOf_m (C := C) (K := K) (O := O) hG (RGm_fr h f7) hW7 ok7 hk hr er7 fd hN
        have hW8 := RWm_fr hW7 t4
        have f8 := FM_trans f7 (FM_m t4)
        obtain ⟨M9, t5, t6, t7⟩ := goBy_m (N := N) (C := C) (K := K) (O := O) hG (RGm_fr h f8) hW8 hk (wayV G (turnA G (seeV X k) k) k fd)
        refine ⟨(nI (k + 1), HP C M9 K O), ?_, M9, rfl, t6, FM_trans f8 t7⟩
        have hs := hG.1
        have q2 : ¬ nI (gsd G) = 0 := nI_ne0 (by omega) (by omega)
        have n1 : (95 : Nat) ≠ 88 := by decide
        rw [er] at q e1
        simp only [f_X7_aStepIn_l49, f_X7_aStepIn_b136, ↓b_rdM, ↓b_raM, ↓b_rlM, ↓b_waM, h'.2.2.1, nle hk (by omega), k8, e1, e2, e3, q, ↓reduceIte, ↓bnd t1, e6, h5.1, q2, up_o n1, ↓bnd t3, ↓bnd t5, nI_1]
      · refine ⟨(nI (k + 1), HP C M3 K O), ?_, M3, rfl, ?_, f'⟩
        · simp only [f_X7_aStepIn_l49, f_X7_aStepIn_b136, ↓b_rdM, ↓b_raM, ↓b_rlM, h'.2.2.1, nle hk (by omega), k8, e1, q, ↓reduceIte, nI_1]
        · simp only [drfA, q, ↓reduceIte]; exact hW'
    · rintro s ⟨M3, rfl, hW', f'⟩
      refine ⟨_, ?_, M3, rfl, hW', f'⟩
      simp only [f_X7_aStepIn_l49, ↓b_rdM, ↓b_rlM, (RGm_fr h f').2.2.1, yle (Nat.le_refl (gJ G)) (by omega), ↓reduceIte]
  · rintro k s hk ⟨M3, rfl, hW', f'⟩
    left
    have k8 : k < 8 := by omega
    have k16 : k < 16 := by omega
    have h' := RGm_fr h f'
    have e1 := (hW'.2.2.1 k hk).1
    have el := (h'.2.2.2.1 k hk).1
    by_cases q : letA G W k 1 k = -1
    · by_cases q2 : glg G k = letA G W k 0 0
      · have eg : letA G W (k + 1) = goV G (letA G W k) k 1 := by simp only [letA, q, q2, and_self, ↓reduceIte]
        obtain ⟨M9, t5, t6, t7⟩ := goBy_m (N := N) (C := C) (K := K) (O := O) hG h' hW' hk 1
        refine ⟨(nI (k + 1), HP C M9 K O), ?_, M9, rfl, by rw [eg]; exact t6, FM_trans f' t7⟩
        simp only [f_X7_aStepIn_l2, f_X7_aStepIn_b41, ↓b_rdM, ↓b_raM, ↓b_rlM, h'.2.2.1, nle hk (by omega), k8, k16, e1, q, el, q2, hW'.1, ↓reduceIte, ↓bnd t5, nI_1]
      · refine ⟨(nI (k + 1), HP C M3 K O), ?_, M3, rfl, ?_, f'⟩
        · simp only [f_X7_aStepIn_l2, f_X7_aStepIn_b41, ↓b_rdM, ↓b_raM, ↓b_rlM, h'.2.2.1, nle hk (by omega), k8, k16, e1, q, el, q2, hW'.1, ↓reduceIte, nI_1]
        · simp only [letA, q, q2, and_false, ↓reduceIte]; exact hW'
    · refine ⟨(nI (k + 1), HP C M3 K O), ?_, M3, rfl, ?_, f'⟩
      · simp only [f_X7_aStepIn_l2, f_X7_aStepIn_b41, ↓b_rdM, ↓b_raM, ↓b_rlM, h'.2.2.1, nle hk (by omega), k8, e1, q, ↓reduceIte, nI_1]
      · simp only [letA, q, false_and, ↓reduceIte]; exact hW'
  · rintro s ⟨M3, rfl, hW', f'⟩
    refine ⟨_, ?_, M3, rfl, hW', f'⟩
    simp only [f_X7_aStepIn_l2, ↓b_rdM, ↓b_rlM, (RGm_fr h f').2.2.1, yle (Nat.le_refl (gJ G)) (by omega), ↓reduceIte]
end S37
