/-! the law's loop -/
theorem gtL {i L : Nat} (h : L < i + 6) (hL : L ≤ 3072) (hi : i ≤ 4000) : nI L - 6 < nI i := by
  by_cases h6 : 6 ≤ L
  · rw [show (6 : Int32) = nI 6 from rfl, subI h6]
    exact nI_lt (by omega) (by omega)
  · have a : nI L - 6 < 0 := by
      rcases (show L = 0 ∨ L = 1 ∨ L = 2 ∨ L = 3 ∨ L = 4 ∨ L = 5 by omega) with rfl | rfl | rfl | rfl | rfl | rfl <;> decide
    have b : ¬ nI i < 0 := nI_pos (by omega)
    rw [Int32.lt_iff_toInt_lt] at a b ⊢
    omega
theorem jsx_y {L k : Nat} {xs : Nat → Int32} (h : k < L) (hL : L ≤ 3072) : jsx L xs (nI k) = some (xs k) := by
  unfold jsx
  rw [nI_clampN (by omega), if_pos (fun z => by
    rcases z with z | z
    · exact nI_pos (by omega) z
    · omega)]
theorem law_loop {Gg : JG} {X : JX} (E : jE Gg X (RL, cL_law, 7)) (hX : X.2.2.2.1 = room_1) {L : Nat} {xs : Nat → Int32} (hS9 : jScr Gg X L xs) (hL : L ≤ 3072) {Q : State → Prop} (hend : ∀ h lv cells slots, cells ≤ 601024 → slots ≤ 7293033 → JW Gg X (RL, cL_law, 7) h lv [] 2486 cells slots Q) : ∀ (n i : Nat) (C M : ST) (K : KT) (O : Nat → Int64) (G : GT) (W : ST) (cells slots : Nat), L ≤ i + 6 * n + 5 → i ≤ 3078 → cells + 4 * n ≤ 601024 → slots + 24 * n ≤ 7293033 → REL K C M G W → JW Gg X (RL, cL_law, 7) (HP C M K O) [(0, .ref 4000000), (1, .ref 0), (2, .ref 71), (3, .ref 111), (4, .int (nI i))] [] 23 cells slots Q := by
  intro n
  induction n with
  | zero =>
    intro i C M K O G W cells slots h1 h2 h3 h4 hR
    refine J_iload E (jd dk_L_law_0 13 rfl) 4 rfl ?_
    refine J_aload_n E (jd dk_L_law_0 14 rfl) rfl 0 rfl ?_
    refine J_slL E hS9 (jd dk_L_law_0 15 rfl) ?_
    refine J_bipush (v := 6) E (jd dk_L_law_0 16 rfl) (by decide) ?_
    refine J_isub E (jd dk_L_law_0 17 rfl) ?_
    exact J_icmp_gt (tgt := 2486) E (jd dk_L_law_0 18 rfl) (by decide) (fun _ => hend _ _ _ _ (by omega) (by omega)) (fun hg => absurd (gtL (i := i) (L := L) (by omega) hL (by omega)) hg)
  | succ n ih =>
    intro i C M K O G W cells slots h1 h2 h3 h4 hR
    refine J_iload E (jd dk_L_law_0 13 rfl) 4 rfl ?_
    refine J_aload_n E (jd dk_L_law_0 14 rfl) rfl 0 rfl ?_
    refine J_slL E hS9 (jd dk_L_law_0 15 rfl) ?_
    refine J_bipush (v := 6) E (jd dk_L_law_0 16 rfl) (by decide) ?_
    refine J_isub E (jd dk_L_law_0 17 rfl) ?_
    refine J_icmp_gt (tgt := 2486) E (jd dk_L_law_0 18 rfl) (by decide) (fun _ => hend _ _ _ _ (by omega) (by omega)) (fun hg => ?_)
    have hi : i + 6 ≤ L := by
      rcases Nat.lt_or_ge L (i + 6) with z | z
      · exact absurd (gtL (i := i) (L := L) z hL (by omega)) hg
      · exact z
    obtain ⟨K1, C1, M1, G1, W1, O1, e, hR1⟩ := f_step (N := 10000) (O := O) (L := L) (xs := xs) (i := nI i) hR (jsx_y (k := i) (by omega) hL) (by rw [show nI i + 1 = nI (i + 1) from nI_add i 1]; exact jsx_y (by omega) hL) (by rw [show nI i + 2 = nI (i + 2) from nI_add i 2]; exact jsx_y (by omega) hL) (by rw [show nI i + 3 = nI (i + 3) from nI_add i 3]; exact jsx_y (by omega) hL) (by rw [show nI i + 4 = nI (i + 4) from nI_add i 4]; exact jsx_y (by omega) hL) (by rw [show nI i + 5 = nI (i + 5) from nI_add i 5]; exact jsx_y (by omega) hL) (Nat.le_refl _)
    refine lk_L_step E hX hS9 10000 (cc9 := cells) (ss9 := slots) ⟨by omega, by omega⟩ e ?_
    refine J_iinc (v := nI (i + 6)) (lv' := [(4, .int (nI (i + 6))), (0, .ref 4000000), (1, .ref 0), (2, .ref 71), (3, .ref 111)]) E (jd dk_L_law_30 22 rfl) 4 rfl (nI_add i 6) (by decide) rfl ?_
    refine J_goto (tgt := 23) E (jd dk_L_law_30 23 rfl) (by decide) ?_
    refine J_sub [1, 2, 3, 4, 0] rfl ?_
    exact ih (i + 6) C1 M1 K1 O1 G1 W1 (cells + 4) (slots + 24) (by omega) (by omega) (by omega) (by omega) hR1
