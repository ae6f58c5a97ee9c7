/-! the class's waters do it -/
def FR (wa : Nat) (C C' : ST) : Prop := ∀ a, a < wa ∨ wa + 10 < a → C' a = C a
section S35
variable {C C' C'' M W : ST} {K : KT} {O : Nat → Int64} {N wa g : Nat} {G : GT}
theorem FR_refl : FR wa C C := fun _ _ => rfl
theorem FR_trans (h : FR wa C C') (h' : FR wa C' C'') : FR wa C C'' := fun a ha => (h' a ha).trans (h a ha)
theorem FR_up {i j : Nat} {v : Int32} (hi : i ≤ 10) : FR wa C (up C (wa + i) j v) := fun a ha => up_o (by omega)
theorem FR_up0 {j : Nat} {v : Int32} : FR wa C (up C wa j v) := fun a ha => up_o (by omega)
theorem FR_m (h : ∀ a, a ≠ wa + 9 → a ≠ wa + 10 → C' a = C a) : FR wa C C' := fun a ha => h a (by omega) (by omega)
theorem RG_fr (hg : gok g) (hw : wok wa) (h : RG g C G) (hf : FR wa C C') : RG g C' G := by
  have e : ∀ i, i ≤ 7 → C' (g + i) = C (g + i) := fun i hi => hf _ (by rcases hg with rfl | rfl <;> rcases hw with rfl | rfl | rfl <;> omega)
  have e0 : C' g = C g := e 0 (by omega)
  unfold RG
  rw [e0, e 4 (by omega), e 5 (by omega), e 6 (by omega), e 7 (by omega)]
  exact h
theorem RW_up {i j : Nat} {v : Int32} (h1 : 1 ≤ i) (h7 : i ≤ 7) (h : RW G wa C W) : RW G wa (up C (wa + i) j v) (up W i j v) := by
  obtain ⟨a, b, c⟩ := h
  refine ⟨?_, fun i' j' x y z => ?_, fun r hr => ⟨?_, ?_⟩⟩
  · rw [up_o (by omega), up_o (by omega)]; exact a
  · by_cases e : i' = i
    · subst e; rw [up_s, up_s]; unfold upd; split
      · rfl
      · exact b _ _ x y z
    · rw [up_o (by omega), up_o (by omega)]; exact b _ _ x y z
  · by_cases e : 6 = i
    · subst e; rw [up_s, up_s]; unfold upd; split
      · rfl
      · exact (c r hr).1
    · rw [up_o (by omega), up_o (by omega)]; exact (c r hr).1
  · by_cases e : 7 = i
    · subst e; rw [up_s, up_s]; unfold upd; split
      · rfl
      · exact (c r hr).2
    · rw [up_o (by omega), up_o (by omega)]; exact (c r hr).2
theorem RW_fr (h : RW G wa C W) (hf : ∀ a, a ≠ wa + 9 → a ≠ wa + 10 → C' a = C a) : RW G wa C' W := by
  obtain ⟨a, b, c⟩ := h
  refine ⟨?_, fun i j x y z => ?_, fun r hr => ?_⟩
  · rw [hf _ (by omega) (by omega)]; exact a
  · rw [hf _ (by omega) (by omega)]; exact b _ _ x y z
  · rw [hf _ (by omega) (by omega), hf _ (by omega) (by omega)]; exact c r hr
theorem RW_ld {v : Int32} (h : RW G wa C W) : RW G wa C (up W 0 1 v) := by
  obtain ⟨a, b, c⟩ := h
  refine ⟨?_, fun i j x y z => ?_, fun r hr => ?_⟩
  · rw [up_s, upd_o (by omega)]; exact a
  · rw [up_o (by omega)]; exact b _ _ x y z
  · rw [up_o (by omega), up_o (by omega)]; exact c r hr
set_option maxHeartbeats 4000000 in
theorem onesOn_c (hg : gok g) (hw : wok wa) (hJ : C g 2 = nI (gJ G)) (h8 : gJ G ≤ 8) (hN : 1000 ≤ N) (p : Int32) : f_X5_onesOn N (HP C M K O) wa g p = some (ones (fun j => C (wa + 1) j = p) (gJ G), HP C M K O) := by
  unfold f_X5_onesOn f_X5_onesOn_b5
  have h := itr_seq (body := fun s : Int32 × Int32 × AH => f_X5_onesOn_l5 N wa g p s.1 s.2.1 s.2.2) (fun k => (ones (fun j => C (wa + 1) j = p) k, nI k, HP C M K O)) (n := gJ G) (r := (ones (fun j => C (wa + 1) j = p) (gJ G), HP C M K O)) ?_ ?_ (N := N) (by omega)
  · simp only [ones, show nI 0 = 0 from rfl] at h
    simp only [h, Option.bind_some]
  · intro k hk
    have k8 : k < 8 := by omega
    simp only [f_X5_onesOn_l5, f_X5_onesOn_b32, ↓b_rG hg, ↓b_rW hw, ↓b_rWa hw, hJ, nle hk (by omega), k8, ones, nI_1, decide_eq_true_eq, ↓reduceIte]
    split <;> rfl
  · simp only [f_X5_onesOn_l5, ↓b_rG hg, hJ, yle (Nat.le_refl (gJ G)) (by omega), ↓reduceIte]
set_option maxHeartbeats 4000000 in
theorem tell_c (hg : gok g) (hw : wok wa) (hG : okG G) (h : RG g C G) (hW : RW G wa C W) {j : Nat} (hj : j < gJ G) (l : Int32) (hN : 1000 ≤ N) : ∃ C', f_X5_tellMachine N (HP C M K O) wa g (nI j) l = some (HP C' M K O) ∧ (∀ a, a ≠ wa + 9 → C' a = C a) ∧ ∀ i, i < 6 → C' (wa + 9) i = env G W j l i := by
  have h8 : j < 8 := by have := hG.2.2.1; omega
  obtain ⟨h0, h1, h2⟩ := hW
  have e1 := h1 1 j (by omega) (by omega) hj
  have e2 := h1 2 j (by omega) (by omega) hj
  have e3 := h1 3 j (by omega) (by omega) hj
  have e4 := h1 4 j (by omega) (by omega) hj
  have hone : ∀ C1 : ST, C1 g = C g → C1 (wa + 1) = C (wa + 1) → f_X5_onesOn N (HP C1 M K O) wa g (W 1 j) = some (ones (fun q => W 1 q = W 1 j) (gJ G), HP C1 M K O) := by
    intro C1 q1 q2
    rw [onesOn_c hg hw (by rw [q1]; exact h.2.2.1) hG.2.2.1 hN, q2]
    congr 2
    exact ones_congr fun i hi => by rw [h1 1 i (by omega) (by omega) hi]
  have hgw : g ≠ wa + 9 := by rcases hg with rfl | rfl <;> rcases hw with rfl | rfl | rfl <;> decide
  have hon := hone (up (up (up C (wa + 9) 0 (W 4 j)) (wa + 9) 1 (bc (W 3 j))) (wa + 9) 2 (W 2 j)) (by rw [up_o hgw, up_o hgw, up_o hgw]) (by rw [up_o (by omega), up_o (by omega), up_o (by omega)])
  refine ⟨up (up (up (up (up (up C (wa + 9) 0 (W 4 j)) (wa + 9) 1 (bc (W 3 j))) (wa + 9) 2 (W 2 j)) (wa + 9) 3 (bc (ones (fun q => W 1 q = W 1 j) (gJ G)) - 1)) (wa + 9) 4 (W 0 0)) (wa + 9) 5 l, ?_, ?_, ?_⟩
  · have n1 : wa + 3 ≠ wa + 9 := by omega
    have n2 : wa + 2 ≠ wa + 9 := by omega
    have n3 : wa + 1 ≠ wa + 9 := by omega
    have n4 : wa ≠ wa + 9 := by omega
    unfold f_X5_tellMachine
    simp only [↓b_rW hw, ↓b_rWa hw, ↓b_wWa hw, h8, e1, e2, e3, e4, ↓bnd (bitCount_c _ _ _), ↓bnd hon, up_o n1, up_o n2, up_o n3, up_o n4, h0]
  · intro a ha
    rw [up_o ha, up_o ha, up_o ha, up_o ha, up_o ha, up_o ha]
  · intro i hi
    simp only [up_s, upd, env]
    rcases i with _ | _ | _ | _ | _ | _ | i
    · rfl
    · rfl
    · rfl
    · rfl
    · rfl
    · rfl
    · omega
theorem n_hasT (hg : gok g) (h : RUc (C (g + 7)) (C g 11) (C g 12) (gtF G) (gtn G)) : f_X1_hasTurns N (HP C M K O) g = some (if gtn G = 0 then 0 else 1, HP C M K O) := by
  obtain ⟨f, a, b, c, _⟩ := h
  simp only [f_X1_hasTurns, ↓b_rG hg, a, b]
  by_cases hz : gtn G = 0
  · rw [if_pos (by rw [hz]; exact nI_le (by omega) (by omega)), if_pos hz]
  · rw [if_neg (nI_ge (by omega) (by omega)), if_neg hz]
theorem n_hasG (hg : gok g) (h : RUc (C (g + 7)) (C g 13) (C g 14) (ggF G) (ggn G)) : f_X1_hasGoes N (HP C M K O) g = some (if ggn G = 0 then 0 else 1, HP C M K O) := by
  obtain ⟨f, a, b, c, _⟩ := h
  simp only [f_X1_hasGoes, ↓b_rG hg, a, b]
  by_cases hz : ggn G = 0
  · rw [if_pos (by rw [hz]; exact nI_le (by omega) (by omega)), if_pos hz]
  · rw [if_neg (nI_ge (by omega) (by omega)), if_neg hz]
set_option maxHeartbeats 4000000 in
theorem turnOn_c (hg : gok g) (hw : wok wa) (hG : okG G) (h : RG g C G) (hW : RW G wa C W) (ok : okW G W) {j r : Nat} (hj : j < gJ G) (hr : r < gRn G) (e1 : W 1 j = nI r) (hN : 1000 ≤ N) : ∃ C', f_X5_turnOn N (HP C M K O) wa g (nI j) (C (wa + 7) r) = some (turnV G W j, HP C' M K O) ∧ ∀ a, a ≠ wa + 9 → a ≠ wa + 10 → C' a = C a := by
  have h8 : j < 8 := by have := hG.2.2.1; omega
  have h9 : r < 9 := by have := hG.2.1; omega
  have es : C (wa + 7) r = spH W j := by unfold spH; rw [e1, nI_clampN (by omega)]; exact (hW.2.2 r hr).2
  have e4 := hW.2.1 4 j (by omega) (by omega) hj
  have eb := (h.2.2.2.1 j hj).2.1
  obtain ⟨s, hs, ess⟩ := (ok.2 r hr).2
  obtain ⟨l, hl, el⟩ := (ok.1 j hj).2.2.2
  by_cases hz : gtn G = 0
  · refine ⟨C, ?_, fun _ _ _ => rfl⟩
    have q : jmx 0 (spH W j - W 4 j) = jmx 0 (jmn 30 (spH W j - W 4 j)) := by
      unfold spH
      rw [e1, nI_clampN (by omega), ess, el]
      have : ∀ s, s < 8 → ∀ l, l < 10 → jmx 0 (nI s - nI l) = jmx 0 (jmn 30 (nI s - nI l)) := by decide
      exact this s hs l hl
    simp only [f_X5_turnOn, f_X5_turnOn_b65, ↓b_rG hg, ↓b_rGa hg, ↓b_rW hw, ↓b_rWa hw, ↓bnd (n_hasT hg h.2.2.2.2.1), hz, ↓reduceIte, h8, es, e4, eb, turnV, q]
    split <;> rfl
  · obtain ⟨C1, t1, t2, t3⟩ := tell_c (M := M) (K := K) (O := O) hg hw hG h hW hj (spH W j) hN
    have f1 : FR wa C C1 := FR_m fun a x _ => t2 a x
    have h' := RG_fr hg hw h f1
    obtain ⟨C2, s1, s2⟩ := result_c (M := M) (K := K) (O := O) hg hw h'.2.2.2.2.1 hG.2.2.2.2.1 (by omega) t3 hN
    have eb2 : C2 (g + 6) j = gbg G j := by rw [s2 _ (by rcases hg with rfl | rfl <;> rcases hw with rfl | rfl | rfl <;> decide)]; exact (h'.2.2.2.1 j hj).2.1
    refine ⟨C2, ?_, fun a x y => (s2 a y).trans (t2 a x)⟩
    simp only [f_X5_turnOn, f_X5_turnOn_b65, ↓b_rG hg, ↓b_rGa hg, ↓b_rW hw, ↓b_rWa hw, ↓bnd (n_hasT hg h.2.2.2.2.1), hz, show ¬ (1 : Int32) = 0 by decide, ↓reduceIte, h8, es, ↓bnd t1, ↓bnd s1, eb2, turnV]
    split <;> rfl
set_option maxHeartbeats 4000000 in
theorem isFair_c (hg : gok g) (hw : wok wa) (hG : okG G) (h : RG g C G) (hW : RW G wa C W) {j : Nat} (hj : j < gJ G) : f_X5_isFair N (HP C M K O) wa g (nI j) = some (if W 3 j = allS G then 1 else 0, HP C M K O) := by
  have h8 : j < 8 := by have := hG.2.2.1; omega
  have e3 := hW.2.1 3 j (by omega) (by omega) hj
  have ea : ((1 : Int32) <<< (nI (gsd G) &&& 31)) - 1 = allS G := rfl
  simp only [f_X5_isFair, f_X1_allSides, ↓b_rG hg, ↓b_rW hw, ↓b_rWa hw, h8, e3, h.1, Option.bind_some, ea]
  by_cases q : W 3 j = allS G
  · simp only [q, ↓reduceIte]
  · simp only [q, ↓reduceIte]
set_option maxHeartbeats 4000000 in
theorem wayOn_c (hg : gok g) (hw : wok wa) (hG : okG G) (h : RG g C G) (hW : RW G wa C W) (ok : okW G W) {j : Nat} (hj : j < gJ G) {fd l : Int32} (el : l = flH W j fd) (hl : ∃ f, f < 4 ∧ l = nI f) (hN : 1000 ≤ N) : ∃ C', f_X5_wayOn N (HP C M K O) wa g (nI j) l = some (wayV G W j fd, HP C' M K O) ∧ ∀ a, a ≠ wa + 9 → a ≠ wa + 10 → C' a = C a := by
  have h8 : j < 8 := by have := hG.2.2.1; omega
  have e3 := hW.2.1 3 j (by omega) (by omega) hj
  by_cases hz : ggn G = 0
  · refine ⟨C, ?_, fun _ _ _ => rfl⟩
    have q : jmx 0 (jmn 3 l) = l := by
      obtain ⟨f, hf, rfl⟩ := hl
      have : ∀ f, f < 4 → jmx 0 (jmn 3 (nI f)) = nI f := by decide
      exact this f hf
    have qf := isFair_c (N := N) (M := M) (K := K) (O := O) hg hw hG h hW hj
    simp only [f_X5_wayOn, f_X5_wayOn_b63, ↓b_rG hg, ↓b_rW hw, ↓bnd (n_hasG hg h.2.2.2.2.2), hz, ↓reduceIte, ↓bnd qf, wayV, ← el]
    by_cases q0 : l = 0
    · by_cases q3 : W 3 j = allS G
      · simp only [q0, q3, ↓reduceIte, and_self, show ¬ (1 : Int32) = 0 by decide]; rfl
      · simp only [q0, q3, ↓reduceIte, and_false]; rfl
    · simp only [q0, ↓reduceIte, false_and, q]
  · obtain ⟨C1, t1, t2, t3⟩ := tell_c (M := M) (K := K) (O := O) hg hw hG h hW hj l hN
    have f1 : FR wa C C1 := FR_m fun a x _ => t2 a x
    have h' := RG_fr hg hw h f1
    obtain ⟨C2, s1, s2⟩ := result_c (M := M) (K := K) (O := O) hg hw h'.2.2.2.2.2 hG.2.2.2.2.2 (by omega) t3 hN
    refine ⟨C2, ?_, fun a x y => (s2 a y).trans (t2 a x)⟩
    simp only [f_X5_wayOn, ↓b_rG hg, ↓b_rW hw, ↓bnd (n_hasG hg h.2.2.2.2.2), hz, show ¬ (1 : Int32) = 0 by decide, ↓reduceIte, ↓bnd t1, ↓bnd s1, wayV, ← el]
set_option maxHeartbeats 4000000 in
theorem goOn_c (hg : gok g) (hw : wok wa) (hG : okG G) (h : RG g C G) (hW : RW G wa C W) {j : Nat} (hj : j < gJ G) (h0 : ¬ W 1 j < 0) (y : Int32) : ∃ C', f_X5_goOn N (HP C M K O) wa g (nI j) y = some (HP C' M K O) ∧ RW G wa C' (goV G W j y) ∧ FR wa C C' := by
  have h8 : j < 8 := by have := hG.2.2.1; omega
  have e1 := hW.2.1 1 j (by omega) (by omega) hj
  by_cases hl : nI (gRn G) ≤ W 1 j + y
  · refine ⟨up C (wa + 1) j (-2), ?_, ?_, FR_up (by omega)⟩
    · simp only [f_X5_goOn, f_X5_goOn_b40, ↓b_rG hg, ↓b_rW hw, ↓b_rWa hw, ↓b_wWa hw, h8, e1, h0, ↓reduceIte, h.2.1, hl]
    · unfold goV
      rw [if_pos hl]
      exact RW_ld (RW_up (by omega) (by omega) hW)
  · refine ⟨up C (wa + 1) j (W 1 j + y), ?_, ?_, FR_up (by omega)⟩
    · simp only [f_X5_goOn, f_X5_goOn_b40, ↓b_rG hg, ↓b_rW hw, ↓b_rWa hw, ↓b_wWa hw, h8, e1, h0, ↓reduceIte, h.2.1, hl]
    · unfold goV
      rw [if_neg hl]
      exact RW_up (by omega) (by omega) hW
set_option maxHeartbeats 4000000 in
theorem turnBy_c (hg : gok g) (hw : wok wa) (hG : okG G) (h : RG g C G) (hW : RW G wa C W) {j : Nat} (hj : j < gJ G) (t : Int32) : f_X5_turnBy N (HP C M K O) wa g (nI j) t = some (HP (up C (wa + 2) j ((W 2 j + t) - (W 2 j + t) / nI (gsd G) * nI (gsd G))) M K O) := by
  have h8 : j < 8 := by have := hG.2.2.1; omega
  have e2 := hW.2.1 2 j (by omega) (by omega) hj
  have hs := hG.1
  have q1 : ¬ nI (gsd G) ≤ 0 := nI_ge (a := 0) (by omega) (by omega)
  have q2 : ¬ nI (gsd G) = 0 := nI_ne0 (by omega) (by omega)
  simp only [f_X5_turnBy, f_X6_rest, ↓b_rG hg, ↓b_rW hw, ↓b_rWa hw, ↓b_wWa hw, h8, e2, h.1, q1, q2, ↓reduceIte, Option.bind_some]
set_option maxHeartbeats 4000000 in
theorem drift_c (hg : gok g) (hw : wok wa) (hG : okG G) (h : RG g C G) (hW : RW G wa C W) (ok : okW G W) {j : Nat} (hj : j < gJ G) (h0 : 0 ≤ W 1 j) (fd : Int32) (hN : 1000 ≤ N) : ∃ C', f_X5_drift N (HP C M K O) wa g (nI j) fd = some (HP C' M K O) ∧ RW G wa C' (driftV G fd W j) ∧ FR wa C C' := by
  have h8 : j < 8 := by have := hG.2.2.1; omega
  have e1 := hW.2.1 1 j (by omega) (by omega) hj
  have e2 := hW.2.1 2 j (by omega) (by omega) hj
  have e3 := hW.2.1 3 j (by omega) (by omega) hj
  obtain ⟨r, hr, er⟩ : ∃ r, r < gRn G ∧ W 1 j = nI r := by
    rcases (ok.1 j hj).1 with q | q | q
    · rw [q] at h0; exact absurd h0 (by decide)
    · rw [q] at h0; exact absurd h0 (by decide)
    · exact q
  have h9 : r < 9 := by have := hG.2.1; omega
  rw [er] at e1
  have hW1 : RW G wa (up C (wa + 3) j (W 3 j ||| ((1 : Int32) <<< (W 2 j &&& 31)))) (seeV W j) := RW_up (by omega) (by omega) hW
  have f1 : FR wa C (up C (wa + 3) j (W 3 j ||| ((1 : Int32) <<< (W 2 j &&& 31)))) := FR_up (by omega)
  have ok1 := okW_see hG ok hj
  obtain ⟨C2, t1, t2⟩ := turnOn_c (M := M) (K := K) (O := O) hg hw hG (RG_fr hg hw h f1) hW1 ok1 hj hr (by rw [seeV_1]; exact er) hN
  have hW2 := RW_fr hW1 t2
  have f2 := FR_trans f1 (FR_m t2)
  have e5 := hW2.2.1 5 j (by omega) (by omega) hj
  have hW3 : RW G wa (up C2 (wa + 5) j (seeV W j 5 j + turnV G (seeV W j) j)) (up (seeV W j) 5 j (seeV W j 5 j + turnV G (seeV W j) j)) := RW_up (by omega) (by omega) hW2
  have f3 := FR_trans f2 (FR_up (C := C2) (i := 5) (j := j) (v := seeV W j 5 j + turnV G (seeV W j) j) (by omega))
  have t4 := turnBy_c (N := N) (M := M) (K := K) (O := O) hg hw hG (RG_fr hg hw h f3) hW3 hj (turnV G (seeV W j) j)
  have hW4 := RW_up (i := 2) (j := j) (v := ((up (seeV W j) 5 j (seeV W j 5 j + turnV G (seeV W j) j)) 2 j + turnV G (seeV W j) j) - ((up (seeV W j) 5 j (seeV W j 5 j + turnV G (seeV W j) j)) 2 j + turnV G (seeV W j) j) / nI (gsd G) * nI (gsd G)) (by omega) (by omega) hW3
  have f4 := FR_trans f3 (FR_up (C := up C2 (wa + 5) j (seeV W j 5 j + turnV G (seeV W j) j)) (i := 2) (j := j) (v := ((up (seeV W j) 5 j (seeV W j 5 j + turnV G (seeV W j) j)) 2 j + turnV G (seeV W j) j) - ((up (seeV W j) 5 j (seeV W j 5 j + turnV G (seeV W j) j)) 2 j + turnV G (seeV W j) j) / nI (gsd G) * nI (gsd G)) (by omega))
  have ec : up (up (seeV W j) 5 j (seeV W j 5 j + turnV G (seeV W j) j)) 2 j (((up (seeV W j) 5 j (seeV W j 5 j + turnV G (seeV W j) j)) 2 j + turnV G (seeV W j) j) - ((up (seeV W j) 5 j (seeV W j 5 j + turnV G (seeV W j) j)) 2 j + turnV G (seeV W j) j) / nI (gsd G) * nI (gsd G)) = turnA G (seeV W j) j := by
    unfold turnA faceV
    funext a
    unfold up
    by_cases a2 : a = 2
    · subst a2; simp only [show ¬ 2 = 5 by decide, if_false, if_true]
    · by_cases a5 : a = 5
      · subst a5; simp only [show ¬ 5 = 2 by decide, if_false, if_true]
      · simp only [a2, a5, if_false]
  rw [ec] at hW4
  have ok4 := okW_turnA hG ok1 hj
  have e1' : (turnA G (seeV W j) j) 1 j = nI r := by rw [turnA_1, seeV_1]; exact er
  have eflow : ∀ C', C' = up (up C2 (wa + 5) j (seeV W j 5 j + turnV G (seeV W j) j)) (wa + 2) j (((up (seeV W j) 5 j (seeV W j 5 j + turnV G (seeV W j) j)) 2 j + turnV G (seeV W j) j) - ((up (seeV W j) 5 j (seeV W j 5 j + turnV G (seeV W j) j)) 2 j + turnV G (seeV W j) j) / nI (gsd G) * nI (gsd G)) → (if fd = 0 then C' (wa + 6) r else 3) = flH (turnA G (seeV W j) j) j fd ∧ ∃ f, f < 4 ∧ (if fd = 0 then C' (wa + 6) r else 3) = nI f := by
    rintro _ rfl
    rw [(hW4.2.2 r hr).1]
    unfold flH
    rw [e1', nI_clampN (by omega)]
    refine ⟨rfl, ?_⟩
    split
    · exact (ok4.2 r hr).1
    · exact ⟨3, by omega, rfl⟩
  obtain ⟨q1, q2⟩ := eflow _ rfl
  obtain ⟨C5, t5, t6⟩ := wayOn_c (M := M) (K := K) (O := O) hg hw hG (RG_fr hg hw h f4) hW4 ok4 hj q1 q2 hN
  have hW5 := RW_fr hW4 t6
  have f5 := FR_trans f4 (FR_m t6)
  obtain ⟨C6, t7, t8, t9⟩ := goOn_c (M := M) (K := K) (O := O) (N := N) hg hw hG (RG_fr hg hw h f5) hW5 hj (by rw [e1']; exact nI_pos (by omega)) (wayV G (turnA G (seeV W j) j) j fd)
  refine ⟨C6, ?_, t8, FR_trans f5 t9⟩
  have n7 : wa + 7 ≠ wa + 3 := by omega
  simp only [f_X5_drift, f_X5_drift_b80, ↓b_rW hw, ↓b_rWa hw, ↓b_wWa hw, h8, h9, e1, e2, e3, ↓bnd t1, e5, ↓bnd t4]
  by_cases hf : fd = 0
  · rw [if_pos hf] at t5
    simp only [hf, ↓reduceIte, ↓b_rW hw, ↓b_rWa hw, h9] at t5 t7 ⊢
    simp only [↓bnd t5, ↓b_rW hw, ↓bnd t7]
  · rw [if_neg hf] at t5
    simp only [hf, ↓reduceIte, ↓b_rW hw]
    simp only [↓bnd t5, ↓b_rW hw, ↓bnd t7]
theorem goV_1 {j : Nat} {y : Int32} : ∀ i, i ≠ j → goV G W j y 1 i = W 1 i := by
  intro i hi
  unfold goV
  split
  · simp only [up, upd, show ¬ 1 = 0 by decide, if_false, if_true, hi]
  · simp only [up, upd, if_true, hi, if_false]
theorem RW_0 (h : RW G wa C W) (hw : wok wa) : RW G wa (up C wa 0 (W 0 0 + 1)) (tickV W) := by
  obtain ⟨a, b, c⟩ := h
  unfold tickV
  refine ⟨?_, fun i j x y z => ?_, fun r hr => ?_⟩
  · rw [up_s, up_s, upd_s, upd_s]
  · rw [up_o (by omega), up_o (by omega)]; exact b _ _ x y z
  · rw [up_o (by omega), up_o (by omega), up_o (by omega), up_o (by omega)]; exact c r hr
set_option maxHeartbeats 4000000 in
theorem pass_c (hg : gok g) (hw : wok wa) (hG : okG G) (h : RG g C G) (hW : RW G wa C W) (ok : okW G W) (fd : Int32) (hN : 1000 ≤ N) : ∃ C', f_X5_pass N (HP C M K O) wa g fd = some (HP C' M K O) ∧ RW G wa C' (passV G fd W) ∧ FR wa C C' := by
  have hJ := hG.2.2.1
  have hRn := hG.2.1
  have A := itr_inv (body := fun s : Int32 × AH => f_X5_pass_l2 N wa g fd s.1 s.2)
    (fun k s => ∃ C', s = (nI k, HP C' M K O) ∧ RW G wa C' (letA G W k) ∧ FR wa C C')
    (P := fun r => ∃ C', r = HP C' M K O ∧ RW G wa C' (letA G W (gJ G)) ∧ FR wa C C') (n := gJ G) ?_ ?_ (s := (0, HP C M K O)) ⟨C, rfl, hW, FR_refl⟩ (N := N) (by omega)
  · obtain ⟨r, A1, C1, e, hW1, f1⟩ := A
    rw [e] at A1
    have ok1 := okW_letA hG ok _ (Nat.le_refl _)
    have B := itr_inv (body := fun s : Int32 × AH => f_X5_pass_l60 N wa g fd s.1 s.2)
      (fun k s => ∃ C', s = (nI k, HP C' M K O) ∧ RW G wa C' (drfA G fd (letA G W (gJ G)) k) ∧ FR wa C C')
      (P := fun r => ∃ C', r = HP C' M K O ∧ RW G wa C' (drfA G fd (letA G W (gJ G)) (gJ G)) ∧ FR wa C C') (n := gJ G) ?_ ?_ (s := (0, HP C1 M K O)) ⟨C1, rfl, hW1, f1⟩ (N := N) (by omega)
    · obtain ⟨r2, B1, C2, e2, hW2, f2⟩ := B
      rw [e2] at B1
      refine ⟨up C2 wa 0 (C2 wa 0 + 1), ?_, ?_, FR_trans f2 FR_up0⟩
      · simp only [f_X5_pass, f_X5_pass_b2, f_X5_pass_b60, A1, B1, Option.bind_some, ↓b_rW hw]
      · rw [hW2.1]
        exact RW_0 hW2 hw
    · rintro k s hk ⟨C', rfl, hW', f'⟩
      left
      have k8 : k < 8 := by omega
      have h' := RG_fr hg hw h f'
      have ok' := okW_drfA (fd := fd) hG ok1 k (by omega)
      have e1 := hW'.2.1 1 k (by omega) (by omega) hk
      by_cases q : 0 ≤ drfA G fd (letA G W (gJ G)) k 1 k
      · obtain ⟨r, hr, er⟩ : ∃ r, r < gRn G ∧ drfA G fd (letA G W (gJ G)) k 1 k = nI r := by
          rcases (ok'.1 k hk).1 with q1 | q1 | q1
          · rw [q1] at q; exact absurd q (by decide)
          · rw [q1] at q; exact absurd q (by decide)
          · exact q1
        obtain ⟨C3, d1, d2, d3⟩ := drift_c (M := M) (K := K) (O := O) hg hw hG h' hW' ok' hk q fd hN
        refine ⟨(nI (k + 1), HP C3 M K O), ?_, C3, rfl, ?_, FR_trans f' d3⟩
        · simp only [f_X5_pass_l60, f_X5_pass_b97, ↓b_rG hg, ↓b_rW hw, ↓b_rWa hw, h'.2.2.1, h'.2.1, nle hk (by omega), k8, e1, er, nI_pos (n := r) (by omega), nle hr (by omega), ↓reduceIte, ↓bnd d1, nI_1]
        · simp only [drfA, q, ↓reduceIte]; exact d2
      · refine ⟨(nI (k + 1), HP C' M K O), ?_, C', rfl, ?_, f'⟩
        · have q' : drfA G fd (letA G W (gJ G)) k 1 k < 0 := by
            rw [Int32.lt_iff_toInt_lt]; rw [Int32.le_iff_toInt_le] at q; omega
          simp only [f_X5_pass_l60, f_X5_pass_b97, ↓b_rG hg, ↓b_rW hw, ↓b_rWa hw, h'.2.2.1, nle hk (by omega), k8, e1, q', ↓reduceIte, nI_1]
        · simp only [drfA, q, ↓reduceIte]; exact hW'
    · rintro s ⟨C', rfl, hW', f'⟩
      refine ⟨_, ?_, C', rfl, hW', f'⟩
      simp only [f_X5_pass_l60, ↓b_rG hg, (RG_fr hg hw h f').2.2.1, yle (Nat.le_refl (gJ G)) (by omega), ↓reduceIte]
  · rintro k s hk ⟨C', rfl, hW', f'⟩
    left
    have k8 : k < 8 := by omega
    have h' := RG_fr hg hw h f'
    have e1 := hW'.2.1 1 k (by omega) (by omega) hk
    have el := (h'.2.2.2.1 k hk).1
    by_cases q : letA G W k 1 k = -1
    · by_cases q2 : glg G k = letA G W k 0 0
      · have eg : letA G W (k + 1) = goV G (letA G W k) k 1 := by simp only [letA, q, q2, and_self, ↓reduceIte]
        by_cases hz : gRn G = 0
        · refine ⟨(nI (k + 1), HP (up C' (wa + 1) k (-2)) M K O), ?_, _, rfl, ?_, FR_trans f' (FR_up (by omega))⟩
          · simp only [f_X5_pass_l2, f_X5_pass_b51, f_X5_pass_b52, ↓b_rG hg, ↓b_rGa hg, ↓b_rW hw, ↓b_rWa hw, ↓b_wWa hw, h'.2.2.1, h'.2.1, nle hk (by omega), k8, e1, q, el, q2, hW'.1, hz, show nI 0 ≤ 0 by decide, ↓reduceIte, nI_1]
          · rw [eg]; unfold goV
            rw [q, hz, if_pos (by decide)]
            exact RW_ld (RW_up (by omega) (by omega) hW')
        · refine ⟨(nI (k + 1), HP (up C' (wa + 1) k 0) M K O), ?_, _, rfl, ?_, FR_trans f' (FR_up (by omega))⟩
          · have hn : ¬ nI (gRn G) ≤ 0 := nI_ge (a := 0) (by omega) (by omega)
            simp only [f_X5_pass_l2, f_X5_pass_b51, f_X5_pass_b52, ↓b_rG hg, ↓b_rGa hg, ↓b_rW hw, ↓b_rWa hw, ↓b_wWa hw, h'.2.2.1, h'.2.1, nle hk (by omega), k8, e1, q, el, q2, hW'.1, hn, ↓reduceIte, nI_1]
          · rw [eg]; unfold goV
            rw [q, show (-1 : Int32) + 1 = 0 by decide, if_neg (show ¬ nI (gRn G) ≤ 0 from nI_ge (a := 0) (by omega) (by omega))]
            exact RW_up (by omega) (by omega) hW'
      · refine ⟨(nI (k + 1), HP C' M K O), ?_, C', rfl, ?_, f'⟩
        · simp only [f_X5_pass_l2, f_X5_pass_b52, ↓b_rG hg, ↓b_rGa hg, ↓b_rW hw, ↓b_rWa hw, h'.2.2.1, nle hk (by omega), k8, e1, q, el, q2, hW'.1, ↓reduceIte, nI_1]
        · simp only [letA, q, q2, and_false, ↓reduceIte]; exact hW'
    · refine ⟨(nI (k + 1), HP C' M K O), ?_, C', rfl, ?_, f'⟩
      · simp only [f_X5_pass_l2, f_X5_pass_b52, ↓b_rG hg, ↓b_rW hw, ↓b_rWa hw, h'.2.2.1, nle hk (by omega), k8, e1, q, ↓reduceIte, nI_1]
      · simp only [letA, q, false_and, ↓reduceIte]; exact hW'
  · rintro s ⟨C', rfl, hW', f'⟩
    refine ⟨_, ?_, C', rfl, hW', f'⟩
    simp only [f_X5_pass_l2, ↓b_rG hg, (RG_fr hg hw h f').2.2.1, yle (Nat.le_refl (gJ G)) (by omega), ↓reduceIte]
end S35
