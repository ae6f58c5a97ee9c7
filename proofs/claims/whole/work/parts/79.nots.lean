/-! nots, comparisons; and, or; the whole expression -/
section S79
variable {C C' C'' M M' M'' : ST} {N n g vl p e k m f w wi d D q : Nat} {tx : Nat → Nat} {F : Nat → RI} {rf : AH → Nat → Int32 → Option (Int32 × AH)} {rf' : AH → Nat → Int32 → Option AH} {x : Int32}
theorem TFc_refl : TFc C C := ⟨fun _ _ => rfl, fun _ _ => rfl⟩
theorem TFm_refl : TFm M M := ⟨fun _ _ => rfl, fun _ _ => rfl⟩
theorem TFc_trans (h : TFc C C') (h' : TFc C' C'') : TFc C C'' := ⟨fun x a => (h'.1 x a).trans (h.1 x a), fun k a => (h'.2 k a).trans (h.2 k a)⟩
theorem TFm_trans (h : TFm M M') (h' : TFm M' M'') : TFm M M'' := ⟨fun x a => (h'.1 x a).trans (h.1 x a), fun k a => (h'.2 k a).trans (h.2 k a)⟩
set_option maxHeartbeats 4000000 in
theorem notL_b (hN : 1000 ≤ N) : ∀ j c C M p e k, c + j = 6 → TK n tx C M p e k → ∀ Nc Nm, j + 3 ≤ Nc → j + 4 ≤ Nm → (∃ c' C' M' p' e' k', c ≤ c' ∧ c' ≤ 6 ∧ (∀ (Mz : ST) (k1 vz : Nat) (O : Nat → Int64), itr (fun s : Int32 × AH => f_X4_readNot_l2 N rf 2 x s.1 s.2) Nc (nI c, (HP C Mz (k1, g, 1, vz) O)) = some (.inr (nI c', (HP C' Mz (k1, g, 1, vz) O)))) ∧ (∀ (Cz : ST) (k1 k2 k3 : Nat) (O : Nat → Int64), itr (fun s : Int32 × AH => f_X7_readNot_l2 N rf' 71 x s.1 s.2) Nm (nI c, (HP Cz M (k1, k2, k3, vl) O)) = some (nI c', (HP Cz M' (k1, k2, k3, vl) O))) ∧ TK n tx C' M' p' e' k' ∧ p + (c' - c) ≤ p' ∧ TFc C C' ∧ TFm M M') ∨ (∃ C' M' p' e' k', (∀ (Mz : ST) (k1 vz : Nat) (O : Nat → Int64), itr (fun s : Int32 × AH => f_X4_readNot_l2 N rf 2 x s.1 s.2) Nc (nI c, (HP C Mz (k1, g, 1, vz) O)) = some (.inl (HP C' Mz (k1, g, 1, vz) O))) ∧ (∀ (Cz : ST) (k1 k2 k3 : Nat) (O : Nat → Int64), itr (fun s : Int32 × AH => f_X7_readNot_l2 N rf' 71 x s.1 s.2) Nm (nI c, (HP Cz M (k1, k2, k3, vl) O)) = some (nI 7, (HP Cz (up (up M' 71 24 2) 71 25 (nI p')) (k1, k2, k3, vl) O))) ∧ TK n tx C' M' p' e' k' ∧ TFc C C' ∧ TFm M M') := by
  intro j
  induction j with
  | zero =>
    intro c C M p e k hc hK Nc Nm hNc hNm
    obtain rfl : c = 6 := by omega
    obtain ⟨Nc, rfl⟩ : ∃ x, Nc = x + 1 := ⟨Nc - 1, by omega⟩
    obtain ⟨Nm, rfl⟩ : ∃ x, Nm = x + 2 := ⟨Nm - 2, by omega⟩
    have g1 := isWord_c (N := N) (g := g) hK ws_1000006 (by decide) (by decide) hN
    have g2 := is_m (N := N) (vl := vl) hK ws_1000036 (by decide) (by decide) hN
    have l6 : ¬ (6 : Int32) < nI 6 := by decide
    have e6 : nI 6 = 6 := rfl
    by_cases y : wm tx p e k w_not = true
    · right
      rw [y] at g1 g2
      have hf := FLT_t (fl := 2) (x := 2) hK (by decide) (by decide) rfl
      refine ⟨C, M, p, e, k, fun Mz k1 vz O => itr_r ?_ Nc, fun Cz k1 k2 k3 O => ?_, hK, TFc_refl, TFm_refl⟩
      · simp only [f_X4_readNot_l2, l6, ↓reduceIte, ↓b_rdC, ↓bnd (g1 Mz k1 vz O), show b2i true = 1 from rfl, show ¬ (1 : Int32) = 0 by decide, e6, show ¬ (6 : Int32) < 6 by decide]
      · rw [itr_l (s' := (nI 7, (HP Cz (up (up M 71 24 2) 71 25 (nI p)) (k1, k2, k3, vl) O)))]
        · refine itr_r ?_ Nm
          simp only [f_X7_readNot_l2, ↓b_rdM, ↓bnd (is_d (N := N) (vl := vl) (FLT_ne hf) hN Cz k1 k2 k3 O), ↓reduceIte]
        · simp only [f_X7_readNot_l2, f_X7_readNot_b23, ↓b_rdM, ↓bnd (g2 Cz k1 k2 k3 O), show b2i true = 1 from rfl, show ¬ (1 : Int32) = 0 by decide, ↓reduceIte, e6, ↓bnd (wrong_t (N := N) (vl := vl) (x := 2) hK Cz k1 k2 k3 O), FLT_ne hf]
          rfl
    · left
      have y' : wm tx p e k w_not = false := by simpa using y
      rw [y'] at g1 g2
      refine ⟨6, C, M, p, e, k, by omega, by omega, fun Mz k1 vz O => itr_r ?_ Nc, fun Cz k1 k2 k3 O => itr_r ?_ (Nm + 1), hK, by omega, TFc_refl, TFm_refl⟩
      · simp only [f_X4_readNot_l2, l6, ↓reduceIte, ↓b_rdC, ↓bnd (g1 Mz k1 vz O), show b2i false = 0 from rfl]
      · simp only [f_X7_readNot_l2, ↓b_rdM, ↓bnd (g2 Cz k1 k2 k3 O), show b2i false = 0 from rfl, ↓reduceIte]
  | succ j ih =>
    intro c C M p e k hc hK Nc Nm hNc hNm
    obtain ⟨Nc, rfl⟩ : ∃ x, Nc = x + 1 := ⟨Nc - 1, by omega⟩
    obtain ⟨Nm, rfl⟩ : ∃ x, Nm = x + 1 := ⟨Nm - 1, by omega⟩
    have g1 := isWord_c (N := N) (g := g) hK ws_1000006 (by decide) (by decide) hN
    have g2 := is_m (N := N) (vl := vl) hK ws_1000036 (by decide) (by decide) hN
    have l6 : ¬ (6 : Int32) < nI c := nI_nlt (a := 6) (by omega) (by decide)
    have e6 : ¬ nI c = 6 := fun z => absurd ((eq_nI (a := c) (b := 6) (by omega) (by decide)).mp z) (by omega)
    by_cases y : wm tx p e k w_not = true
    · rw [y] at g1 g2
      have k1' : k = 1 := (decide_eq_true_eq.mp y).1
      have pe := hK.2.2.2.2.2.2.1 (by omega)
      obtain ⟨p1, e1, k1', C1, M1, n1, n2, n3, n4, n5, n6⟩ := TK_next (g := g) (vl := vl) hK hN
      have s1 : ∀ (Mz : ST) (k1 vz : Nat) (O : Nat → Int64), (fun s : Int32 × AH => f_X4_readNot_l2 N rf 2 x s.1 s.2) (nI c, (HP C Mz (k1, g, 1, vz) O)) = some (.inl (nI (c + 1), (HP C1 Mz (k1, g, 1, vz) O))) := fun Mz k1 vz O => by
        simp only [f_X4_readNot_l2, l6, ↓reduceIte, ↓b_rdC, ↓bnd (g1 Mz k1 vz O), show b2i true = 1 from rfl, show ¬ (1 : Int32) = 0 by decide, e6, ↓bnd (n2 Mz k1 vz O), nI_1]
      have s2' : ∀ (Cz : ST) (k1 k2 k3 : Nat) (O : Nat → Int64), (fun s : Int32 × AH => f_X7_readNot_l2 N rf' 71 x s.1 s.2) (nI c, (HP Cz M (k1, k2, k3, vl) O)) = some (.inl (nI (c + 1), (HP Cz M1 (k1, k2, k3, vl) O))) := fun Cz k1 k2 k3 O => by
        simp only [f_X7_readNot_l2, f_X7_readNot_b23, ↓b_rdM, ↓bnd (g2 Cz k1 k2 k3 O), show b2i true = 1 from rfl, show ¬ (1 : Int32) = 0 by decide, ↓reduceIte, e6, hK.2.1, ↓bnd (n3 Cz k1 k2 k3 O), nI_1]
      rcases ih (c + 1) C1 M1 p1 e1 k1' (by omega) n4 Nc Nm (by omega) (by omega) with ⟨c', C', M', p', e', k', h1, h2, h3, h4, h5, h6, h7, h8⟩ | ⟨C', M', p', e', k', h3, h4, h5, h7, h8⟩
      · refine .inl ⟨c', C', M', p', e', k', by omega, h2, fun Mz k1 vz O => ?_, fun Cz k1 k2 k3 O => ?_, h5, by omega, TFc_trans n5 h7, TFm_trans n6 h8⟩
        · rw [itr_l (body := fun s : Int32 × AH => f_X4_readNot_l2 N rf 2 x s.1 s.2) (s := (nI c, (HP C Mz (k1, g, 1, vz) O))) (s1 Mz k1 vz O)]; exact h3 Mz k1 vz O
        · rw [itr_l (body := fun s : Int32 × AH => f_X7_readNot_l2 N rf' 71 x s.1 s.2) (s := (nI c, (HP Cz M (k1, k2, k3, vl) O))) (s2' Cz k1 k2 k3 O)]; exact h4 Cz k1 k2 k3 O
      · refine .inr ⟨C', M', p', e', k', fun Mz k1 vz O => ?_, fun Cz k1 k2 k3 O => ?_, h5, TFc_trans n5 h7, TFm_trans n6 h8⟩
        · rw [itr_l (body := fun s : Int32 × AH => f_X4_readNot_l2 N rf 2 x s.1 s.2) (s := (nI c, (HP C Mz (k1, g, 1, vz) O))) (s1 Mz k1 vz O)]; exact h3 Mz k1 vz O
        · rw [itr_l (body := fun s : Int32 × AH => f_X7_readNot_l2 N rf' 71 x s.1 s.2) (s := (nI c, (HP Cz M (k1, k2, k3, vl) O))) (s2' Cz k1 k2 k3 O)]; exact h4 Cz k1 k2 k3 O
    · left
      have y' : wm tx p e k w_not = false := by simpa using y
      rw [y'] at g1 g2
      refine ⟨c, C, M, p, e, k, by omega, by omega, fun Mz k1 vz O => itr_r ?_ Nc, fun Cz k1 k2 k3 O => itr_r ?_ Nm, hK, by omega, TFc_refl, TFm_refl⟩
      · simp only [f_X4_readNot_l2, l6, ↓reduceIte, ↓b_rdC, ↓bnd (g1 Mz k1 vz O), show b2i false = 0 from rfl]
      · simp only [f_X7_readNot_l2, ↓b_rdM, ↓bnd (g2 Cz k1 k2 k3 O), show b2i false = 0 from rfl, ↓reduceIte]
set_option maxHeartbeats 4000000 in
theorem notsL_b (hg : gok g) {c : Nat} (hc6 : c ≤ 6) (hN : 1000 ≤ N) : ∀ j i C M m F, i + j = c → PS n tx g w wi vl f C M p e k m F D → f + m + j ≤ p → 1 ≤ D → D ≤ 40 → ∀ Nc Nm, j + 1 ≤ Nc → j + 1 ≤ Nm → ∃ C' M' F', (∀ (Mz : ST) (k1 vz : Nat) (O : Nat → Int64), itr (fun s : Int32 × AH => f_X4_readNot_l109 N rf 2 (nI c) s.1 s.2) Nc (nI i, (HP C Mz (k1, g, 1, vz) O)) = some (HP C' Mz (k1, g, 1, vz) O)) ∧ (∀ (Cz : ST) (k1 k2 k3 : Nat) (O : Nat → Int64), itr (fun s : Int32 × AH => f_X7_readNot_l96 N rf' 71 (nI c) s.1 s.2) Nm (nI i, (HP Cz M (k1, k2, k3, vl) O)) = some (HP Cz M' (k1, k2, k3, vl) O)) ∧ PS n tx g w wi vl f C' M' p e k (m + j) F' D ∧ FRc g f C C' ∧ FRm w wi M M' := by
  intro j
  induction j with
  | zero =>
    intro i C M m F hi hP hf hD hD2 Nc Nm hNc hNm
    obtain ⟨Nc, rfl⟩ : ∃ x, Nc = x + 1 := ⟨Nc - 1, by omega⟩
    obtain ⟨Nm, rfl⟩ : ∃ x, Nm = x + 1 := ⟨Nm - 1, by omega⟩
    refine ⟨C, M, F, fun Mz k1 vz O => itr_r ?_ Nc, fun Cz k1 k2 k3 O => itr_r ?_ Nm, hP, FRc_refl, FRm_refl⟩
    · simp only [f_X4_readNot_l109, yle (show c ≤ i by omega) (by omega), ↓reduceIte]
    · simp only [f_X7_readNot_l96, yle (show c ≤ i by omega) (by omega), ↓reduceIte]
  | succ j ih =>
    intro i C M m F hi hP hf hD hD2 Nc Nm hNc hNm
    obtain ⟨Nc, rfl⟩ : ∃ x, Nc = x + 1 := ⟨Nc - 1, by omega⟩
    obtain ⟨Nm, rfl⟩ : ∃ x, Nm = x + 1 := ⟨Nm - 1, by omega⟩
    have h7 := PS_700 hP
    obtain ⟨C3, M3, F3, b1, b2, b3, b4, b5, b6, b7, b8, b9⟩ := em_b (N := N) hg hP (by omega) (.inr (.inr (.inl ()))) ⟨hD, by omega⟩ (op := 10) (ar := 0) (s := -28) (by decide) rfl
    obtain ⟨C4, M4, F4, a1, a2, a3, a4, a5⟩ := ih (i + 1) C3 M3 (m + 1) F3 (by omega) ⟨b3, b4, b5, b6, by omega, b7⟩ (by omega) hD hD2 Nc Nm (by omega) (by omega)
    refine ⟨C4, M4, F4, fun Mz k1 vz O => ?_, fun Cz k1 k2 k3 O => ?_, ?_, FRc_trans b8 a4, FRm_trans b9 a5⟩
    · rw [itr_l (s' := (nI (i + 1), (HP C3 Mz (k1, g, 1, vz) O)))]
      · exact a1 Mz k1 vz O
      · simp only [f_X4_readNot_l109, nle (show i < c by omega) (by omega), ↓reduceIte, ↓b_rdC, ↓b_rG hg, ↓bnd (b1 Mz k1 vz O), nI_1]
    · rw [itr_l (s' := (nI (i + 1), (HP Cz M3 (k1, k2, k3, vl) O)))]
      · exact a2 Cz k1 k2 k3 O
      · simp only [f_X7_readNot_l96, nle (show i < c by omega) (by omega), ↓reduceIte, ↓b_rdM, ↓bnd (b2 Cz k1 k2 k3 O), nI_1]
    · rw [show m + (j + 1) = m + 1 + j by omega]; exact a3
/-- a sum, a comparison, the nots behind it: from the token behind the nots on -/
theorem cmp_b (hg : gok g) (hrf : ∀ C M p e k m F d, PS n tx g w wi vl f C M p e k m F d → d ≤ 5 * (q + 1) → OUT n tx g w wi vl f C M d m p (fun Mz k1 vz O => rf (HP C Mz (k1, g, 1, vz) O) 2 (nI (q + 1))) (fun Cz k1 k2 k3 O => rf' (HP Cz M (k1, k2, k3, vl) O) 71 (nI (q + 1)))) (hrd : ∀ M, ¬ M 71 24 = 0 → ∀ (Cz : ST) (k1 k2 k3 : Nat) (O : Nat → Int64), rf' (HP Cz M (k1, k2, k3, vl) O) 71 (nI (q + 1)) = some (HP Cz M (k1, k2, k3, vl) O)) (hP : PS n tx g w wi vl f C M p e k m F d) (hd : d ≤ 5 * q + 2) (hq : q ≤ 5) {c : Nat} (hc6 : c ≤ 6) (hc : f + m + c ≤ p) (hN : 1000 ≤ N) : (∃ C' M' p' e' k' m' F', (∀ (Mz : ST) (k1 vz : Nat) (O : Nat → Int64), f_X4_readNot_b39 N rf 2 (nI q) (nI c) (HP C Mz (k1, g, 1, vz) O) = some (1, (HP C' Mz (k1, g, 1, vz) O))) ∧ (∀ (Cz : ST) (k1 k2 k3 : Nat) (O : Nat → Int64), ((jck 7 (HP Cz M (k1, k2, k3, vl) O) 71).bind fun _ => (f_X7_readSum N rf' (HP Cz M (k1, k2, k3, vl) O) 71 (nI q)).bind fun r40 => (jck 7 r40 71).bind fun _ => (f_X7_isMarked N r40 71 60).bind fun r44 => if r44.1 = 0 then (jck 7 r44.2 71).bind fun _ => (f_X7_isMarked N r44.2 71 61).bind fun r49 => if r49.1 = 0 then f_X7_readNot_b94 N rf' 71 (nI c) r49.2 else f_X7_readNot_b63 N rf' 71 (nI q) (nI c) r49.2 else f_X7_readNot_b63 N rf' 71 (nI q) (nI c) r44.2) = some (HP Cz M' (k1, k2, k3, vl) O)) ∧ PS n tx g w wi vl f C' M' p' e' k' m' F' (d + 1) ∧ m' + p ≤ m + c + p' ∧ p < p' ∧ FRc g f C C' ∧ FRm w wi M M') ∨ (∃ C' M' fl pl, (∀ (Mz : ST) (k1 vz : Nat) (O : Nat → Int64), f_X4_readNot_b39 N rf 2 (nI q) (nI c) (HP C Mz (k1, g, 1, vz) O) = some (0, (HP C' Mz (k1, g, 1, vz) O))) ∧ (∀ (Cz : ST) (k1 k2 k3 : Nat) (O : Nat → Int64), ((jck 7 (HP Cz M (k1, k2, k3, vl) O) 71).bind fun _ => (f_X7_readSum N rf' (HP Cz M (k1, k2, k3, vl) O) 71 (nI q)).bind fun r40 => (jck 7 r40 71).bind fun _ => (f_X7_isMarked N r40 71 60).bind fun r44 => if r44.1 = 0 then (jck 7 r44.2 71).bind fun _ => (f_X7_isMarked N r44.2 71 61).bind fun r49 => if r49.1 = 0 then f_X7_readNot_b94 N rf' 71 (nI c) r49.2 else f_X7_readNot_b63 N rf' 71 (nI q) (nI c) r49.2 else f_X7_readNot_b63 N rf' 71 (nI q) (nI c) r44.2) = some (HP Cz M' (k1, k2, k3, vl) O)) ∧ FLT C' M' fl pl ∧ FRc g f C C' ∧ FRm w wi M M') := by
  have hw := MD_w hP.2.2.2.2.2
  have t1 : ¬ (1 : Int32) = 0 := by decide
  have bt : b2i true = 1 := rfl
  have bf : b2i false = 0 := rfl
  rcases sum_b hg hrf hrd hP (by omega) hq hN with ⟨C1, M1, p1, e1, k1', m1, F1, a1, a2, P1, a3, a4, a5, a6⟩ | ⟨C1, M1, fl, pl, a1, a2, a3, a4, a5⟩
  · have g1 := isSign_c (N := N) (g := g) (c := 60) (x := 60) P1.1 (by decide) rfl
    have g2 := isMarked_m (N := N) (vl := vl) (c := 60) (x := 60) P1.1 (by decide) rfl
    have i1 := isSign_c (N := N) (g := g) (c := 61) (x := 61) P1.1 (by decide) rfl
    have i2 := isMarked_m (N := N) (vl := vl) (c := 61) (x := 61) P1.1 (by decide) rfl
    -- what an operator does
    have OP : ∀ oc om : Int32, bin2 om oc → k1' ≠ 0 → (∃ C' M' p' e' k' m' F', (∀ (Mz : ST) (k1 vz : Nat) (O : Nat → Int64), f_X4_readNot_b83 N rf 2 (nI q) (nI c) oc (HP C1 Mz (k1, g, 1, vz) O) = some (1, (HP C' Mz (k1, g, 1, vz) O))) ∧ (∀ (Cz : ST) (k1 k2 k3 : Nat) (O : Nat → Int64), f_X7_readNot_b79 N rf' 71 (nI q) (nI c) om (HP Cz M1 (k1, k2, k3, vl) O) = some (HP Cz M' (k1, k2, k3, vl) O)) ∧ PS n tx g w wi vl f C' M' p' e' k' m' F' (d + 1) ∧ m' + p ≤ m + c + p' ∧ p < p' ∧ FRc g f C1 C' ∧ FRm w wi M1 M') ∨ (∃ C' M' fl pl, (∀ (Mz : ST) (k1 vz : Nat) (O : Nat → Int64), f_X4_readNot_b83 N rf 2 (nI q) (nI c) oc (HP C1 Mz (k1, g, 1, vz) O) = some (0, (HP C' Mz (k1, g, 1, vz) O))) ∧ (∀ (Cz : ST) (k1 k2 k3 : Nat) (O : Nat → Int64), f_X7_readNot_b79 N rf' 71 (nI q) (nI c) om (HP Cz M1 (k1, k2, k3, vl) O) = some (HP Cz M' (k1, k2, k3, vl) O)) ∧ FLT C' M' fl pl ∧ FRc g f C1 C' ∧ FRm w wi M1 M') := by
      intro oc om ho hk
      have pe := P1.1.2.2.2.2.2.2.1 hk
      obtain ⟨p2, e2, k2', C2, M2, n1, n2, n3, n4, n5, n6⟩ := TK_next (g := g) (vl := vl) P1.1 hN
      have P2 := PS_tf hg P1 n4 (by omega) n5 n6
      rcases sum_b hg hrf hrd P2 (by omega) hq hN with ⟨C3, M3, p3, e3, k3', m3, F3, x1, x2, P3, x3, x4, x5, x6⟩ | ⟨C3, M3, fl, pl, x1, x2, x3, x4, x5⟩
      · left
        have h7 := PS_700 P3
        have e0 : om = -18 - oc ∧ (0 : Int32) * 16 + oc = oc := by
          rcases ho with ⟨rfl, rfl⟩ | ⟨rfl, rfl⟩ | ⟨rfl, rfl⟩ | ⟨rfl, rfl⟩ | ⟨rfl, rfl⟩ | ⟨rfl, rfl⟩ | ⟨rfl, rfl⟩ | ⟨rfl, rfl⟩ <;> decide
        obtain ⟨C4, M4, F4, b1, b2, b3, b4, b5, b6, b7, b8, b9⟩ := em_b (N := N) hg P3 (by omega) (.inr (.inr (.inr oc))) ⟨by rw [← e0.1]; exact ho, by omega, by omega⟩ (op := oc) (ar := 0) (s := om) e0.2 e0.1
        obtain ⟨C5, M5, F5, y1, y2, y3, y4, y5⟩ := notsL_b (rf := rf) (rf' := rf') hg hc6 hN c 0 C4 M4 (m3 + 1) F4 (by omega) (D := d + 1) ⟨b3, b4, b5, b6, by omega, b7⟩ (by omega) (by omega) (by omega) N N (by omega) (by omega)
        refine ⟨C5, M5, p3, e3, k3', m3 + 1 + c, F5, fun Mz k1 vz O => ?_, fun Cz k1 k2 k3 O => ?_, y3, by omega, by omega, FRc_trans (TFc_FRc hg n5) (FRc_trans x5 (FRc_trans b8 y4)), FRm_trans (TFm_FRm hw n6) (FRm_trans x6 (FRm_trans b9 y5))⟩
        · have B := y1 Mz k1 vz O
          rw [show nI 0 = 0 from rfl] at B
          simp only [f_X4_readNot_b83, f_X4_readNot_b107, f_X4_readNot_b109, ↓b_rdC, ↓bnd (n2 Mz k1 vz O), ↓bnd (x1 Mz k1 vz O), t1, ↓reduceIte, ↓b_rG hg, ↓bnd (b1 Mz k1 vz O), B, Option.bind_some]
        · have B := y2 Cz k1 k2 k3 O
          rw [show nI 0 = 0 from rfl] at B
          simp only [f_X7_readNot_b79, f_X7_readNot_b94, f_X7_readNot_b96, ↓b_rdM, ↓bnd (n3 Cz k1 k2 k3 O), ↓bnd (x2 Cz k1 k2 k3 O), ↓bnd (b2 Cz k1 k2 k3 O), B, Option.bind_some]
      · right
        refine ⟨C3, M3, fl, pl, fun Mz k1 vz O => ?_, fun Cz k1 k2 k3 O => ?_, x3, FRc_trans (TFc_FRc hg n5) x4, FRm_trans (TFm_FRm hw n6) x5⟩
        · simp only [f_X4_readNot_b83, ↓b_rdC, ↓bnd (n2 Mz k1 vz O), ↓bnd (x1 Mz k1 vz O), ↓reduceIte]
        · simp only [f_X7_readNot_b79, ↓b_rdM, ↓bnd (n3 Cz k1 k2 k3 O), ↓bnd (x2 Cz k1 k2 k3 O), ↓bnd (lay_d (N := N) (vl := vl) (FLT_ne x3) Cz k1 k2 k3 O), nots_d (N := N) (rf' := rf') (vl := vl) (FLT_ne x3) (show c ≤ 7 by omega) hN Cz k1 k2 k3 O]
    by_cases y1 : sgm tx p1 k1' 60 = true
    · have k3 : k1' ≠ 0 := by have := (decide_eq_true_eq.mp y1).1; omega
      rw [y1] at g1 g2
      rcases OP 6 (-24) (by unfold bin2; decide) k3 with ⟨C', M', p', e', k', m', F', h1, h2, h3, h4, h5, h6, h7⟩ | ⟨C', M', fl, pl, h1, h2, h3, h4, h5⟩
      · refine .inl ⟨C', M', p', e', k', m', F', fun Mz k1 vz O => ?_, fun Cz k1 k2 k3 O => ?_, h3, h4, h5, FRc_trans a5 h6, FRm_trans a6 h7⟩
        · simp only [f_X4_readNot_b39, f_X4_readNot_b67, ↓b_rdC, ↓bnd (a1 Mz k1 vz O), t1, ↓reduceIte, ↓bnd (g1 Mz k1 vz O), bt, h1 Mz k1 vz O]
        · simp only [f_X7_readNot_b63, ↓b_rdM, ↓bnd (a2 Cz k1 k2 k3 O), ↓bnd (g2 Cz k1 k2 k3 O), bt, t1, ↓reduceIte, h2 Cz k1 k2 k3 O]
      · refine .inr ⟨C', M', fl, pl, fun Mz k1 vz O => ?_, fun Cz k1 k2 k3 O => ?_, h3, FRc_trans a5 h4, FRm_trans a6 h5⟩
        · simp only [f_X4_readNot_b39, f_X4_readNot_b67, ↓b_rdC, ↓bnd (a1 Mz k1 vz O), t1, ↓reduceIte, ↓bnd (g1 Mz k1 vz O), bt, h1 Mz k1 vz O]
        · simp only [f_X7_readNot_b63, ↓b_rdM, ↓bnd (a2 Cz k1 k2 k3 O), ↓bnd (g2 Cz k1 k2 k3 O), bt, t1, ↓reduceIte, h2 Cz k1 k2 k3 O]
    · have y1' : sgm tx p1 k1' 60 = false := by simpa using y1
      rw [y1'] at g1 g2
      by_cases y2 : sgm tx p1 k1' 61 = true
      · have k3 : k1' ≠ 0 := by have := (decide_eq_true_eq.mp y2).1; omega
        rw [y2] at i1 i2
        rcases OP 7 (-25) (by unfold bin2; decide) k3 with ⟨C', M', p', e', k', m', F', h1, h2, h3, h4, h5, h6, h7⟩ | ⟨C', M', fl, pl, h1, h2, h3, h4, h5⟩
        · refine .inl ⟨C', M', p', e', k', m', F', fun Mz k1 vz O => ?_, fun Cz k1 k2 k3 O => ?_, h3, h4, h5, FRc_trans a5 h6, FRm_trans a6 h7⟩
          · simp only [f_X4_readNot_b39, f_X4_readNot_b67, ↓b_rdC, ↓bnd (a1 Mz k1 vz O), t1, ↓reduceIte, ↓bnd (g1 Mz k1 vz O), ↓bnd (i1 Mz k1 vz O), bt, bf, h1 Mz k1 vz O]
          · simp only [f_X7_readNot_b63, ↓b_rdM, ↓bnd (a2 Cz k1 k2 k3 O), ↓bnd (g2 Cz k1 k2 k3 O), ↓bnd (i2 Cz k1 k2 k3 O), bt, bf, t1, ↓reduceIte, h2 Cz k1 k2 k3 O]
        · refine .inr ⟨C', M', fl, pl, fun Mz k1 vz O => ?_, fun Cz k1 k2 k3 O => ?_, h3, FRc_trans a5 h4, FRm_trans a6 h5⟩
          · simp only [f_X4_readNot_b39, f_X4_readNot_b67, ↓b_rdC, ↓bnd (a1 Mz k1 vz O), t1, ↓reduceIte, ↓bnd (g1 Mz k1 vz O), ↓bnd (i1 Mz k1 vz O), bt, bf, h1 Mz k1 vz O]
          · simp only [f_X7_readNot_b63, ↓b_rdM, ↓bnd (a2 Cz k1 k2 k3 O), ↓bnd (g2 Cz k1 k2 k3 O), ↓bnd (i2 Cz k1 k2 k3 O), bt, bf, t1, ↓reduceIte, h2 Cz k1 k2 k3 O]
      · left
        have y2' : sgm tx p1 k1' 61 = false := by simpa using y2
        rw [y2'] at i1 i2
        obtain ⟨C5, M5, F5, x1, x2, x3, x4, x5⟩ := notsL_b (rf := rf) (rf' := rf') hg hc6 hN c 0 C1 M1 m1 F1 (by omega) P1 (by omega) (by omega) (by omega) N N (by omega) (by omega)
        refine ⟨C5, M5, p1, e1, k1', m1 + c, F5, fun Mz k1 vz O => ?_, fun Cz k1 k2 k3 O => ?_, x3, by omega, by omega, FRc_trans a5 x4, FRm_trans a6 x5⟩
        · have B := x1 Mz k1 vz O
          rw [show nI 0 = 0 from rfl] at B
          simp only [f_X4_readNot_b39, f_X4_readNot_b107, f_X4_readNot_b109, ↓b_rdC, ↓bnd (a1 Mz k1 vz O), t1, ↓reduceIte, ↓bnd (g1 Mz k1 vz O), ↓bnd (i1 Mz k1 vz O), bf, B, Option.bind_some]
        · have B := x2 Cz k1 k2 k3 O
          rw [show nI 0 = 0 from rfl] at B
          simp only [f_X7_readNot_b94, f_X7_readNot_b96, ↓b_rdM, ↓bnd (a2 Cz k1 k2 k3 O), ↓bnd (g2 Cz k1 k2 k3 O), ↓bnd (i2 Cz k1 k2 k3 O), bf, ↓reduceIte, B, Option.bind_some]
  · right
    refine ⟨C1, M1, fl, pl, fun Mz k1 vz O => ?_, fun Cz k1 k2 k3 O => ?_, a3, a4, a5⟩
    · simp only [f_X4_readNot_b39, ↓b_rdC, ↓bnd (a1 Mz k1 vz O), ↓reduceIte]
    · simp only [↓b_rdM, ↓bnd (a2 Cz k1 k2 k3 O), ↓bnd (isMarked_d (N := N) (vl := vl) (FLT_ne a3) Cz k1 k2 k3 O), ↓reduceIte, nots_d (N := N) (rf' := rf') (vl := vl) (FLT_ne a3) (show c ≤ 7 by omega) hN Cz k1 k2 k3 O]
set_option maxHeartbeats 4000000 in
theorem not_b (hg : gok g) (hrf : ∀ C M p e k m F d, PS n tx g w wi vl f C M p e k m F d → d ≤ 5 * (q + 1) → OUT n tx g w wi vl f C M d m p (fun Mz k1 vz O => rf (HP C Mz (k1, g, 1, vz) O) 2 (nI (q + 1))) (fun Cz k1 k2 k3 O => rf' (HP Cz M (k1, k2, k3, vl) O) 71 (nI (q + 1)))) (hrd : ∀ M, ¬ M 71 24 = 0 → ∀ (Cz : ST) (k1 k2 k3 : Nat) (O : Nat → Int64), rf' (HP Cz M (k1, k2, k3, vl) O) 71 (nI (q + 1)) = some (HP Cz M (k1, k2, k3, vl) O)) (hP : PS n tx g w wi vl f C M p e k m F d) (hd : d ≤ 5 * q + 2) (hq : q ≤ 5) (hN : 1000 ≤ N) : OUT n tx g w wi vl f C M d m p (fun Mz k1 vz O => f_X4_readNot N rf (HP C Mz (k1, g, 1, vz) O) 2 (nI q)) (fun Cz k1 k2 k3 O => f_X7_readNot N rf' (HP Cz M (k1, k2, k3, vl) O) 71 (nI q)) := by
  have hw := MD_w hP.2.2.2.2.2
  have fp := hP.2.2.2.2.1
  rcases notL_b (n := n) (tx := tx) (g := g) (vl := vl) (rf := rf) (rf' := rf') (x := nI q) hN 6 0 C M p e k (by omega) hP.1 N N (by omega) (by omega) with ⟨c, C1, M1, p1, e1, k1', h1, h2, h3, h4, h5, h6, h7, h8⟩ | ⟨C1, M1, p1, e1, k1', h3, h4, h5, h7, h8⟩
  · have P1 := PS_tf hg hP h5 (by omega) h7 h8
    rcases cmp_b hg hrf hrd P1 hd hq h2 (by omega) hN with ⟨C2, M2, p2, e2, k2', m2, F2, a1, a2, P2, a3, a4, a5, a6⟩ | ⟨C2, M2, fl, pl, a1, a2, a3, a4, a5⟩
    · left
      refine ⟨C2, M2, p2, e2, k2', m2, F2, fun Mz k1 vz O => ?_, fun Cz k1 k2 k3 O => ?_, P2, by omega, by omega, FRc_trans (TFc_FRc hg h7) a5, FRm_trans (TFm_FRm hw h8) a6⟩
      · have B := h3 Mz k1 vz O
        rw [show nI 0 = 0 from rfl] at B
        simp only [f_X4_readNot, f_X4_readNot_b2, B, Option.bind_some, Sum.elim_inr, a1 Mz k1 vz O]
      · have B := h4 Cz k1 k2 k3 O
        rw [show nI 0 = 0 from rfl] at B
        simp only [f_X7_readNot, f_X7_readNot_b2, B, Option.bind_some]
        exact a2 Cz k1 k2 k3 O
    · right
      refine ⟨C2, M2, fl, pl, fun Mz k1 vz O => ?_, fun Cz k1 k2 k3 O => ?_, a3, FRc_trans (TFc_FRc hg h7) a4, FRm_trans (TFm_FRm hw h8) a5⟩
      · have B := h3 Mz k1 vz O
        rw [show nI 0 = 0 from rfl] at B
        simp only [f_X4_readNot, f_X4_readNot_b2, B, Option.bind_some, Sum.elim_inr, a1 Mz k1 vz O]
      · have B := h4 Cz k1 k2 k3 O
        rw [show nI 0 = 0 from rfl] at B
        simp only [f_X7_readNot, f_X7_readNot_b2, B, Option.bind_some]
        exact a2 Cz k1 k2 k3 O
  · right
    have hf := FLT_t (fl := 2) (x := 2) h5 (by decide) (by decide) rfl
    refine ⟨_, _, 2, p1, fun Mz k1 vz O => ?_, fun Cz k1 k2 k3 O => ?_, hf, FRc_trans (TFc_FRc hg h7) (FRc_t hg), FRm_trans (TFm_FRm hw h8) (FRm_t hw)⟩
    · have B := h3 Mz k1 vz O
      rw [show nI 0 = 0 from rfl] at B
      simp only [f_X4_readNot, f_X4_readNot_b2, B, Option.bind_some, Sum.elim_inl, ↓b_rdC, ↓bnd (refuse_t (N := N) (g := g) (x := 2) h5 Mz k1 vz O), nb0, ↓reduceIte]
    · have B := h4 Cz k1 k2 k3 O
      rw [show nI 0 = 0 from rfl] at B
      simp only [f_X7_readNot, f_X7_readNot_b2, B, Option.bind_some]
      exact notT_d (N := N) (rf' := rf') (x := nI q) (vl := vl) (c := 7) (FLT_ne hf) (by decide) hN Cz k1 k2 k3 O
set_option maxHeartbeats 4000000 in
theorem conj_b (hg : gok g) (hrf : ∀ C M p e k m F d, PS n tx g w wi vl f C M p e k m F d → d ≤ 5 * (q + 1) → OUT n tx g w wi vl f C M d m p (fun Mz k1 vz O => rf (HP C Mz (k1, g, 1, vz) O) 2 (nI (q + 1))) (fun Cz k1 k2 k3 O => rf' (HP Cz M (k1, k2, k3, vl) O) 71 (nI (q + 1)))) (hrd : ∀ M, ¬ M 71 24 = 0 → ∀ (Cz : ST) (k1 k2 k3 : Nat) (O : Nat → Int64), rf' (HP Cz M (k1, k2, k3, vl) O) 71 (nI (q + 1)) = some (HP Cz M (k1, k2, k3, vl) O)) (hP : PS n tx g w wi vl f C M p e k m F d) (hd : d ≤ 5 * q + 1) (hq : q ≤ 5) (hN : 1000 ≤ N) : OUT n tx g w wi vl f C M d m p (fun Mz k1 vz O => f_X4_readAnd N rf (HP C Mz (k1, g, 1, vz) O) 2 (nI q)) (fun Cz k1 k2 k3 O => f_X7_readAnd N rf' (HP Cz M (k1, k2, k3, vl) O) 71 (nI q)) := by
  have hw := MD_w hP.2.2.2.2.2
  have t1 : ¬ (1 : Int32) = 0 := by decide
  have hn := hP.1.1.1
  rcases not_b hg hrf hrd hP (by omega) hq hN with ⟨C1, M1, p1, e1, k1', m1, F1, a1, a2, P1, a3, a4, a5, a6⟩ | ⟨C1, M1, fl, pl, a1, a2, a3, a4, a5⟩
  · have L := loop_b (n := n) (tx := tx) (g := g) (w := w) (wi := wi) (vl := vl) (f := f) (D := d + 1) (bC := fun s : Int32 × AH => f_X4_readAnd_l12 N rf 2 (nI q) s.1 s.2) (bM := fun s => f_X7_readAnd_l5 N rf' 71 (nI q) s) (fun M hz => andL_d hz hN) ?_ 700 C1 M1 p1 e1 k1' m1 F1 0 P1 (by omega) (by omega) N N (by omega) (by omega)
    · rcases L with ⟨C2, M2, p2, e2, k2', m2, F2, b1, b2, P2, b3, b4, b5, b6⟩ | ⟨C2, M2, fl, pl, b1, b2, b3, b4, b5⟩
      · left
        refine ⟨C2, M2, p2, e2, k2', m2, F2, fun Mz k1 vz O => ?_, fun Cz k1 k2 k3 O => ?_, P2, by omega, by omega, FRc_trans a5 b5, FRm_trans a6 b6⟩
        · have B := b1 Mz k1 vz O
          rw [show nI 0 = 0 from rfl] at B
          simp only [f_X4_readAnd, f_X4_readAnd_b12, ↓b_rdC, ↓bnd (a1 Mz k1 vz O), t1, ↓reduceIte, B, Option.bind_some, Sum.elim_inr]
        · simp only [f_X7_readAnd, f_X7_readAnd_b5, ↓b_rdM, ↓bnd (a2 Cz k1 k2 k3 O), b2 Cz k1 k2 k3 O, Option.bind_some]
      · right
        refine ⟨C2, M2, fl, pl, fun Mz k1 vz O => ?_, fun Cz k1 k2 k3 O => ?_, b3, FRc_trans a5 b4, FRm_trans a6 b5⟩
        · have B := b1 Mz k1 vz O
          rw [show nI 0 = 0 from rfl] at B
          simp only [f_X4_readAnd, f_X4_readAnd_b12, ↓b_rdC, ↓bnd (a1 Mz k1 vz O), t1, ↓reduceIte, B, Option.bind_some, Sum.elim_inl]
        · simp only [f_X7_readAnd, f_X7_readAnd_b5, ↓b_rdM, ↓bnd (a2 Cz k1 k2 k3 O), b2 Cz k1 k2 k3 O, Option.bind_some]
    · intro C M p e k m F i hP hi
      have e3 : C 2 3 = nI n := hP.1.1.2.1
      have pn : p ≤ n := by have := hP.1.2.2.2.2.1; have := hP.1.2.2.2.2.2.1; omega
      have lg : ¬ nI n < nI i := nI_nlt (by omega) (by omega)
      have hsub : ∀ C M p e k m F, PS n tx g w wi vl f C M p e k m F (d + 1) → OUT n tx g w wi vl f C M (d + 1) m p (fun Mz k1 vz O => f_X4_readNot N rf (HP C Mz (k1, g, 1, vz) O) 2 (nI q)) (fun Cz k1 k2 k3 O => f_X7_readNot N rf' (HP Cz M (k1, k2, k3, vl) O) 71 (nI q)) := fun C M p e k m F hP => not_b hg hrf hrd hP (by omega) hq hN
      have g1 := isWord_c (N := N) (g := g) hP.1 ws_1000014 (by decide) (by decide) hN
      have g2 := is_m (N := N) (vl := vl) hP.1 ws_1000037 (by decide) (by decide) hN
      by_cases y1 : wm tx p e k w_and = true
      · have k3 : k ≠ 0 := by have := (decide_eq_true_eq.mp y1).1; omega
        rw [y1] at g1 g2
        rcases op_b (N := N) hg (sc := fun h => f_X4_readNot N rf h 2 (nI q)) (sm := fun h => f_X7_readNot N rf' h 71 (nI q)) hsub (oc := 8) (om := -26) (by unfold bin2; decide) (by omega) (by omega) hP k3 (i := i) hN with ⟨C', M', p', e', k', m', F', h1, h2, h3⟩ | ⟨C', M', fl, pl, h1, h2, h3⟩
        · refine .inr (.inl ⟨C', M', p', e', k', m', F', fun Mz k1 vz O => ?_, fun Cz k1 k2 k3 O => ?_, h3⟩)
          · refine Eq.trans ?_ (h1 Mz k1 vz O)
            simp only [f_X4_readAnd_l12, opC, ↓b_rdC, e3, lg, ↓reduceIte, ↓bnd (g1 Mz k1 vz O), show b2i true = 1 from rfl, t1]
          · refine Eq.trans ?_ (h2 Cz k1 k2 k3 O)
            simp only [f_X7_readAnd_l5, opM, ↓b_rdM, ↓bnd (g2 Cz k1 k2 k3 O), show b2i true = 1 from rfl, t1, ↓reduceIte]
        · refine .inr (.inr ⟨C', M', fl, pl, fun Mz k1 vz O => ?_, fun Cz k1 k2 k3 O => ?_, h3⟩)
          · refine Eq.trans ?_ (h1 Mz k1 vz O)
            simp only [f_X4_readAnd_l12, opC, ↓b_rdC, e3, lg, ↓reduceIte, ↓bnd (g1 Mz k1 vz O), show b2i true = 1 from rfl, t1]
          · refine Eq.trans ?_ (h2 Cz k1 k2 k3 O)
            simp only [f_X7_readAnd_l5, opM, ↓b_rdM, ↓bnd (g2 Cz k1 k2 k3 O), show b2i true = 1 from rfl, t1, ↓reduceIte]
      · have y1' : wm tx p e k w_and = false := by simpa using y1
        rw [y1'] at g1 g2
        refine .inl ⟨fun Mz k1 vz O => ?_, fun Cz k1 k2 k3 O => ?_⟩
        · simp only [f_X4_readAnd_l12, ↓b_rdC, e3, lg, ↓reduceIte, ↓bnd (g1 Mz k1 vz O), show b2i false = 0 from rfl]
        · simp only [f_X7_readAnd_l5, ↓b_rdM, ↓bnd (g2 Cz k1 k2 k3 O), show b2i false = 0 from rfl, ↓reduceIte]
  · right
    refine ⟨C1, M1, fl, pl, fun Mz k1 vz O => ?_, fun Cz k1 k2 k3 O => ?_, a3, a4, a5⟩
    · simp only [f_X4_readAnd, ↓b_rdC, ↓bnd (a1 Mz k1 vz O), ↓reduceIte]
    · have A := it1 (body := fun s => f_X7_readAnd_l5 N rf' 71 (nI q) s) (andL_d (N := N) (rf' := rf') (x := nI q) (vl := vl) (FLT_ne a3) hN Cz k1 k2 k3 O) hN
      simp only [f_X7_readAnd, f_X7_readAnd_b5, ↓b_rdM, ↓bnd (a2 Cz k1 k2 k3 O), A, Option.bind_some]
end S79
