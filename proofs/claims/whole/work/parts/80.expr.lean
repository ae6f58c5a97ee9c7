/-! the whole expression -/
section S80
variable {C C' C'' M M' M'' : ST} {N n g vl p e k m f w wi d D q : Nat} {tx : Nat → Nat} {F : Nat → RI} {rf : AH → Nat → Int32 → Option (Int32 × AH)} {rf' : AH → Nat → Int32 → Option AH} {x : Int32}
/-! where no expression can begin: the class -/
theorem npart (hK : TK n tx C M p e k) (h1 : k ≠ 1) (h2 : k ≠ 2) (h3 : sgm tx p k 40 = false) : ∀ (Mz : ST) (k1 vz : Nat) (O : Nat → Int64), f_X4_readPart N rf (HP C Mz (k1, g, 1, vz) O) 2 x = some (0, (HP (up (up C 2 0 1) 2 1 (nI p)) Mz (k1, g, 1, vz) O)) := by
  intro Mz k1 vz O
  have n2 : ¬ nI k = 2 := fun q => h2 ((eq_nI (a := k) (b := 2) (by have := hK.2.2.2.2.2.2.2.1; omega) (by omega)).mp q)
  have n1 : ¬ nI k = 1 := fun q => h1 ((eq_nI (a := k) (b := 1) (by have := hK.2.2.2.2.2.2.2.1; omega) (by omega)).mp q)
  obtain ⟨u1, _⟩ := sign_n (N := N) (g := g) (vl := 0) (c := 40) (x := 40) hK (by decide) rfl h3
  simp only [f_X4_readPart, f_X4_readPart_b107, ↓b_rdC, hK.2.2.1.2.2, n2, n1, ↓reduceIte, ↓bnd (u1 Mz k1 vz O)]
theorem nprod (hK : TK n tx C M p e k) (h1 : k ≠ 1) (h2 : k ≠ 2) (h3 : sgm tx p k 40 = false) : ∀ (Mz : ST) (k1 vz : Nat) (O : Nat → Int64), f_X4_readProduct N rf (HP C Mz (k1, g, 1, vz) O) 2 x = some (0, (HP (up (up C 2 0 1) 2 1 (nI p)) Mz (k1, g, 1, vz) O)) := by
  intro Mz k1 vz O
  simp only [f_X4_readProduct, ↓b_rdC, ↓bnd (npart (N := N) (g := g) (rf := rf) (x := x) hK h1 h2 h3 Mz k1 vz O), ↓reduceIte]
theorem nsum (hK : TK n tx C M p e k) (h1 : k ≠ 1) (h2 : k ≠ 2) (h3 : sgm tx p k 40 = false) : ∀ (Mz : ST) (k1 vz : Nat) (O : Nat → Int64), f_X4_readSum N rf (HP C Mz (k1, g, 1, vz) O) 2 x = some (0, (HP (up (up C 2 0 1) 2 1 (nI p)) Mz (k1, g, 1, vz) O)) := by
  intro Mz k1 vz O
  simp only [f_X4_readSum, ↓b_rdC, ↓bnd (nprod (N := N) (g := g) (rf := rf) (x := x) hK h1 h2 h3 Mz k1 vz O), ↓reduceIte]
theorem nnot (hK : TK n tx C M p e k) (h1 : k ≠ 1) (h2 : k ≠ 2) (h3 : sgm tx p k 40 = false) (hN : 1000 ≤ N) : ∀ (Mz : ST) (k1 vz : Nat) (O : Nat → Int64), f_X4_readNot N rf (HP C Mz (k1, g, 1, vz) O) 2 x = some (0, (HP (up (up C 2 0 1) 2 1 (nI p)) Mz (k1, g, 1, vz) O)) := by
  intro Mz k1 vz O
  have g1 := isWord_c (N := N) (g := g) hK ws_1000006 (by decide) (by decide) hN Mz k1 vz O
  have y' : wm tx p e k w_not = false := by
    unfold wm
    rw [decide_eq_false_iff_not]
    exact fun z => h1 z.1
  rw [y'] at g1
  have A : itr (fun s : Int32 × AH => f_X4_readNot_l2 N rf 2 x s.1 s.2) N (0, (HP C Mz (k1, g, 1, vz) O)) = some (.inr (0, (HP C Mz (k1, g, 1, vz) O))) := it1 (by simp only [f_X4_readNot_l2, show ¬ (6 : Int32) < 0 by decide, ↓reduceIte, ↓b_rdC, ↓bnd g1, show b2i false = 0 from rfl]) hN
  simp only [f_X4_readNot, f_X4_readNot_b2, A, Option.bind_some, Sum.elim_inr, f_X4_readNot_b39, ↓b_rdC, ↓bnd (nsum (N := N) (g := g) (rf := rf) (x := x) hK h1 h2 h3 Mz k1 vz O), ↓reduceIte]
theorem nconj (hK : TK n tx C M p e k) (h1 : k ≠ 1) (h2 : k ≠ 2) (h3 : sgm tx p k 40 = false) (hN : 1000 ≤ N) : ∀ (Mz : ST) (k1 vz : Nat) (O : Nat → Int64), f_X4_readAnd N rf (HP C Mz (k1, g, 1, vz) O) 2 x = some (0, (HP (up (up C 2 0 1) 2 1 (nI p)) Mz (k1, g, 1, vz) O)) := by
  intro Mz k1 vz O
  simp only [f_X4_readAnd, ↓b_rdC, ↓bnd (nnot (N := N) (g := g) (rf := rf) (x := x) hK h1 h2 h3 hN Mz k1 vz O), ↓reduceIte]
/-- the reference, where none can begin, or where one may -/
theorem may_y (hK : TK n tx C M p e k) (h : k = 2 ∨ k = 1 ∨ sgm tx p k 40 = true) : ∀ (Cz : ST) (k1 k2 k3 : Nat) (O : Nat → Int64), f_X7_readExpression N rf' (HP Cz M (k1, k2, k3, vl) O) 71 x = f_X7_readExpression_b38 N rf' 71 x 1 (HP Cz M (k1, k2, k3, vl) O) := by
  intro Cz k1 k2 k3 O
  have k4 := hK.2.2.2.2.2.2.2.1
  have e7 := hK.2.2.2.1.2.2.2
  by_cases z2 : k = 2
  · have e2 : nI k = 2 := by rw [z2]; rfl
    simp only [f_X7_readExpression, f_X7_readExpression_b33, ↓b_rdM, hK.2.1, ↓reduceIte, e7, e2]
  · have n2 : ¬ nI k = 2 := fun q => z2 ((eq_nI (a := k) (b := 2) (by omega) (by omega)).mp q)
    by_cases z1 : k = 1
    · have e1 : nI k = 1 := by rw [z1]; rfl
      simp only [f_X7_readExpression, f_X7_readExpression_b33, ↓b_rdM, hK.2.1, ↓reduceIte, e7, e1, show ¬ (1 : Int32) = 2 by decide]
    · have n1 : ¬ nI k = 1 := fun q => z1 ((eq_nI (a := k) (b := 1) (by omega) (by omega)).mp q)
      have y := (h.resolve_left z2).resolve_left z1
      have g2 := isMarked_m (N := N) (vl := vl) (c := 40) (x := 40) hK (by decide) rfl Cz k1 k2 k3 O
      rw [y] at g2
      simp only [f_X7_readExpression, f_X7_readExpression_b33, ↓b_rdM, hK.2.1, ↓reduceIte, e7, n2, n1, ↓bnd g2, show b2i true = 1 from rfl, show ¬ (1 : Int32) = 0 by decide]
theorem may_n (hK : TK n tx C M p e k) (h1 : k ≠ 1) (h2 : k ≠ 2) (h3 : sgm tx p k 40 = false) (hN : 1000 ≤ N) : ∀ (Cz : ST) (k1 k2 k3 : Nat) (O : Nat → Int64), f_X7_readExpression N rf' (HP Cz M (k1, k2, k3, vl) O) 71 x = some (HP Cz (up (up M 71 24 1) 71 25 (nI p)) (k1, k2, k3, vl) O) := by
  intro Cz k1 k2 k3 O
  have k4 := hK.2.2.2.2.2.2.2.1
  have e7 := hK.2.2.2.1.2.2.2
  have n2 : ¬ nI k = 2 := fun q => h2 ((eq_nI (a := k) (b := 2) (by omega) (by omega)).mp q)
  have n1 : ¬ nI k = 1 := fun q => h1 ((eq_nI (a := k) (b := 1) (by omega) (by omega)).mp q)
  have g2 := isMarked_m (N := N) (vl := vl) (c := 40) (x := 40) hK (by decide) rfl Cz k1 k2 k3 O
  rw [h3] at g2
  have hf := FLT_t (fl := 1) (x := 1) hK (by decide) (by decide) rfl
  simp only [f_X7_readExpression, f_X7_readExpression_b38, ↓b_rdM, hK.2.1, ↓reduceIte, e7, n2, n1, ↓bnd g2, show b2i false = 0 from rfl, ↓bnd (wrong_t (N := N) (vl := vl) (x := 1) hK Cz k1 k2 k3 O), orT_d (N := N) (rf' := rf') (x := x) (vl := vl) (FLT_ne hf) hN Cz k1 k2 k3 O]
set_option maxHeartbeats 4000000 in
theorem expr_b (hg : gok g) (hrf : ∀ C M p e k m F d, PS n tx g w wi vl f C M p e k m F d → d ≤ 5 * (q + 1) → OUT n tx g w wi vl f C M d m p (fun Mz k1 vz O => rf (HP C Mz (k1, g, 1, vz) O) 2 (nI (q + 1))) (fun Cz k1 k2 k3 O => rf' (HP Cz M (k1, k2, k3, vl) O) 71 (nI (q + 1)))) (hrd : ∀ M, ¬ M 71 24 = 0 → ∀ (Cz : ST) (k1 k2 k3 : Nat) (O : Nat → Int64), rf' (HP Cz M (k1, k2, k3, vl) O) 71 (nI (q + 1)) = some (HP Cz M (k1, k2, k3, vl) O)) (hP : PS n tx g w wi vl f C M p e k m F d) (hd : d ≤ 5 * q) (hq : q ≤ 5) (hN : 1000 ≤ N) : OUT n tx g w wi vl f C M d m p (fun Mz k1 vz O => f_X4_readExpr N rf (HP C Mz (k1, g, 1, vz) O) 2 (nI q)) (fun Cz k1 k2 k3 O => f_X7_readExpression N rf' (HP Cz M (k1, k2, k3, vl) O) 71 (nI q)) := by
  have hw := MD_w hP.2.2.2.2.2
  have t1 : ¬ (1 : Int32) = 0 := by decide
  have hn := hP.1.1.1
  have q6 : nI q < 6 := nI_lt (b := 6) (by omega) (by decide)
  have n6 : ¬ nI q = 6 := fun z => absurd ((eq_nI (a := q) (b := 6) (by omega) (by decide)).mp z) (by omega)
  by_cases my : k = 2 ∨ k = 1 ∨ sgm tx p k 40 = true
  · have M0 := may_y (N := N) (vl := vl) (rf' := rf') (x := nI q) hP.1 my
    rcases conj_b hg hrf hrd hP (by omega) hq hN with ⟨C1, M1, p1, e1, k1', m1, F1, a1, a2, P1, a3, a4, a5, a6⟩ | ⟨C1, M1, fl, pl, a1, a2, a3, a4, a5⟩
    · have L := loop_b (n := n) (tx := tx) (g := g) (w := w) (wi := wi) (vl := vl) (f := f) (D := d + 1) (bC := fun s : Int32 × AH => f_X4_readExpr_l63 N rf 2 (nI q) s.1 s.2) (bM := fun s => f_X7_readExpression_l67 N rf' 71 (nI q) s) (fun M hz => orL_d hz hN) ?_ 700 C1 M1 p1 e1 k1' m1 F1 0 P1 (by omega) (by omega) N N (by omega) (by omega)
      · rcases L with ⟨C2, M2, p2, e2, k2', m2, F2, b1, b2, P2, b3, b4, b5, b6⟩ | ⟨C2, M2, fl, pl, b1, b2, b3, b4, b5⟩
        · left
          refine ⟨C2, M2, p2, e2, k2', m2, F2, fun Mz k1 vz O => ?_, fun Cz k1 k2 k3 O => ?_, P2, by omega, by omega, FRc_trans a5 b5, FRm_trans a6 b6⟩
          · have B := b1 Mz k1 vz O
            rw [show nI 0 = 0 from rfl] at B
            simp only [f_X4_readExpr, f_X4_readExpr_b63, q6, ↓b_rdC, ↓bnd (a1 Mz k1 vz O), t1, ↓reduceIte, B, Option.bind_some, Sum.elim_inr]
          · refine Eq.trans (M0 Cz k1 k2 k3 O) ?_
            simp only [f_X7_readExpression_b38, f_X7_readExpression_b62, f_X7_readExpression_b67, t1, n6, ↓reduceIte, ↓b_rdM, ↓bnd (a2 Cz k1 k2 k3 O), b2 Cz k1 k2 k3 O, Option.bind_some]
        · right
          refine ⟨C2, M2, fl, pl, fun Mz k1 vz O => ?_, fun Cz k1 k2 k3 O => ?_, b3, FRc_trans a5 b4, FRm_trans a6 b5⟩
          · have B := b1 Mz k1 vz O
            rw [show nI 0 = 0 from rfl] at B
            simp only [f_X4_readExpr, f_X4_readExpr_b63, q6, ↓b_rdC, ↓bnd (a1 Mz k1 vz O), t1, ↓reduceIte, B, Option.bind_some, Sum.elim_inl]
          · refine Eq.trans (M0 Cz k1 k2 k3 O) ?_
            simp only [f_X7_readExpression_b38, f_X7_readExpression_b62, f_X7_readExpression_b67, t1, n6, ↓reduceIte, ↓b_rdM, ↓bnd (a2 Cz k1 k2 k3 O), b2 Cz k1 k2 k3 O, Option.bind_some]
      · intro C M p e k m F i hP hi
        have e3 : C 2 3 = nI n := hP.1.1.2.1
        have pn : p ≤ n := by have := hP.1.2.2.2.2.1; have := hP.1.2.2.2.2.2.1; omega
        have lg : ¬ nI n < nI i := nI_nlt (by omega) (by omega)
        have hsub : ∀ C M p e k m F, PS n tx g w wi vl f C M p e k m F (d + 1) → OUT n tx g w wi vl f C M (d + 1) m p (fun Mz k1 vz O => f_X4_readAnd N rf (HP C Mz (k1, g, 1, vz) O) 2 (nI q)) (fun Cz k1 k2 k3 O => f_X7_readAnd N rf' (HP Cz M (k1, k2, k3, vl) O) 71 (nI q)) := fun C M p e k m F hP => conj_b hg hrf hrd hP (by omega) hq hN
        have g1 := isWord_c (N := N) (g := g) hP.1 ws_1000015 (by decide) (by decide) hN
        have g2 := is_m (N := N) (vl := vl) hP.1 ws_1000038 (by decide) (by decide) hN
        by_cases y1 : wm tx p e k w_or = true
        · have k3 : k ≠ 0 := by have := (decide_eq_true_eq.mp y1).1; omega
          rw [y1] at g1 g2
          rcases op_b (N := N) hg (sc := fun h => f_X4_readAnd N rf h 2 (nI q)) (sm := fun h => f_X7_readAnd N rf' h 71 (nI q)) hsub (oc := 9) (om := -27) (by unfold bin2; decide) (by omega) (by omega) hP k3 (i := i) hN with ⟨C', M', p', e', k', m', F', h1, h2, h3⟩ | ⟨C', M', fl, pl, h1, h2, h3⟩
          · refine .inr (.inl ⟨C', M', p', e', k', m', F', fun Mz k1 vz O => ?_, fun Cz k1 k2 k3 O => ?_, h3⟩)
            · refine Eq.trans ?_ (h1 Mz k1 vz O)
              simp only [f_X4_readExpr_l63, opC, ↓b_rdC, e3, lg, ↓reduceIte, ↓bnd (g1 Mz k1 vz O), show b2i true = 1 from rfl, t1]
            · refine Eq.trans ?_ (h2 Cz k1 k2 k3 O)
              simp only [f_X7_readExpression_l67, opM, ↓b_rdM, ↓bnd (g2 Cz k1 k2 k3 O), show b2i true = 1 from rfl, t1, ↓reduceIte]
          · refine .inr (.inr ⟨C', M', fl, pl, fun Mz k1 vz O => ?_, fun Cz k1 k2 k3 O => ?_, h3⟩)
            · refine Eq.trans ?_ (h1 Mz k1 vz O)
              simp only [f_X4_readExpr_l63, opC, ↓b_rdC, e3, lg, ↓reduceIte, ↓bnd (g1 Mz k1 vz O), show b2i true = 1 from rfl, t1]
            · refine Eq.trans ?_ (h2 Cz k1 k2 k3 O)
              simp only [f_X7_readExpression_l67, opM, ↓b_rdM, ↓bnd (g2 Cz k1 k2 k3 O), show b2i true = 1 from rfl, t1, ↓reduceIte]
        · have y1' : wm tx p e k w_or = false := by simpa using y1
          rw [y1'] at g1 g2
          refine .inl ⟨fun Mz k1 vz O => ?_, fun Cz k1 k2 k3 O => ?_⟩
          · simp only [f_X4_readExpr_l63, ↓b_rdC, e3, lg, ↓reduceIte, ↓bnd (g1 Mz k1 vz O), show b2i false = 0 from rfl]
          · simp only [f_X7_readExpression_l67, ↓b_rdM, ↓bnd (g2 Cz k1 k2 k3 O), show b2i false = 0 from rfl, ↓reduceIte]
    · right
      refine ⟨C1, M1, fl, pl, fun Mz k1 vz O => ?_, fun Cz k1 k2 k3 O => ?_, a3, a4, a5⟩
      · simp only [f_X4_readExpr, q6, ↓b_rdC, ↓bnd (a1 Mz k1 vz O), ↓reduceIte]
      · refine Eq.trans (M0 Cz k1 k2 k3 O) ?_
        have A := it1 (body := fun s => f_X7_readExpression_l67 N rf' 71 (nI q) s) (orL_d (N := N) (rf' := rf') (x := nI q) (vl := vl) (FLT_ne a3) hN Cz k1 k2 k3 O) hN
        simp only [f_X7_readExpression_b38, f_X7_readExpression_b62, f_X7_readExpression_b67, t1, n6, ↓reduceIte, ↓b_rdM, ↓bnd (a2 Cz k1 k2 k3 O), A, Option.bind_some]
  · right
    have h1 : k ≠ 1 := fun z => my (.inr (.inl z))
    have h2 : k ≠ 2 := fun z => my (.inl z)
    have h3 : sgm tx p k 40 = false := by
      cases hs : sgm tx p k 40 with
      | true => exact absurd (.inr (.inr hs)) my
      | false => rfl
    have hf := FLT_t (fl := 1) (x := 1) hP.1 (by decide) (by decide) rfl
    refine ⟨_, _, 1, p, fun Mz k1 vz O => ?_, may_n hP.1 h1 h2 h3 hN, hf, FRc_t hg, FRm_t hw⟩
    simp only [f_X4_readExpr, q6, ↓reduceIte, ↓b_rdC, ↓bnd (nconj (N := N) (g := g) (rf := rf) (x := nI q) hP.1 h1 h2 h3 hN Mz k1 vz O)]
set_option maxHeartbeats 4000000 in
theorem expr_6 (hg : gok g) (hP : PS n tx g w wi vl f C M p e k m F d) (hN : 1000 ≤ N) : OUT n tx g w wi vl f C M d m p (fun Mz k1 vz O => f_X4_readExpr N rf (HP C Mz (k1, g, 1, vz) O) 2 (nI 6)) (fun Cz k1 k2 k3 O => f_X7_readExpression N rf' (HP Cz M (k1, k2, k3, vl) O) 71 (nI 6)) := by
  have hw := MD_w hP.2.2.2.2.2
  have hK := hP.1
  have k4 := hK.2.2.2.2.2.2.2.1
  have c7 := hK.2.2.1.2.2
  have q6 : ¬ nI 6 < 6 := by decide
  have t1 : ¬ (1 : Int32) = 0 := by decide
  right
  by_cases my : k = 2 ∨ k = 1 ∨ sgm tx p k 40 = true
  · have hf := FLT_t (fl := 2) (x := 2) hK (by decide) (by decide) rfl
    refine ⟨_, _, 2, p, fun Mz k1 vz O => ?_, fun Cz k1 k2 k3 O => ?_, hf, FRc_t hg, FRm_t hw⟩
    · have rt := refuse_t (N := N) (g := g) (x := 2) hK Mz k1 vz O
      by_cases z2 : k = 2
      · have e2 : nI k = 2 := by rw [z2]; rfl
        simp only [f_X4_readExpr, f_X4_readExpr_b31, f_X4_readExpr_b36, q6, ↓reduceIte, ↓b_rdC, c7, e2, t1, ↓bnd rt, nb0]
      · have n2 : ¬ nI k = 2 := fun q => z2 ((eq_nI (a := k) (b := 2) (by omega) (by omega)).mp q)
        by_cases z1 : k = 1
        · have e1 : nI k = 1 := by rw [z1]; rfl
          simp only [f_X4_readExpr, f_X4_readExpr_b31, f_X4_readExpr_b36, q6, ↓reduceIte, ↓b_rdC, c7, e1, show ¬ (1 : Int32) = 2 by decide, t1, ↓bnd rt, nb0]
        · have n1 : ¬ nI k = 1 := fun q => z1 ((eq_nI (a := k) (b := 1) (by omega) (by omega)).mp q)
          have y := (my.resolve_left z2).resolve_left z1
          have g1 := isSign_c (N := N) (g := g) (c := 40) (x := 40) hK (by decide) rfl Mz k1 vz O
          rw [y] at g1
          simp only [f_X4_readExpr, f_X4_readExpr_b31, f_X4_readExpr_b36, q6, ↓reduceIte, ↓b_rdC, c7, n2, n1, ↓bnd g1, show b2i true = 1 from rfl, t1, ↓bnd rt, nb0]
    · refine Eq.trans (may_y (N := N) (vl := vl) (rf' := rf') (x := nI 6) hK my Cz k1 k2 k3 O) ?_
      simp only [f_X7_readExpression_b38, t1, show nI 6 = 6 from rfl, ↓reduceIte, ↓b_rdM, ↓bnd (wrong_t (N := N) (vl := vl) (x := 2) hK Cz k1 k2 k3 O)]
      exact orT_d (N := N) (rf' := rf') (x := 6) (vl := vl) (FLT_ne hf) hN Cz k1 k2 k3 O
  · have h1 : k ≠ 1 := fun z => my (.inr (.inl z))
    have h2 : k ≠ 2 := fun z => my (.inl z)
    have h3 : sgm tx p k 40 = false := by
      cases hs : sgm tx p k 40 with
      | true => exact absurd (.inr (.inr hs)) my
      | false => rfl
    have n2 : ¬ nI k = 2 := fun q => h2 ((eq_nI (a := k) (b := 2) (by omega) (by omega)).mp q)
    have n1 : ¬ nI k = 1 := fun q => h1 ((eq_nI (a := k) (b := 1) (by omega) (by omega)).mp q)
    have hf := FLT_t (fl := 1) (x := 1) hK (by decide) (by decide) rfl
    refine ⟨_, _, 1, p, fun Mz k1 vz O => ?_, may_n hK h1 h2 h3 hN, hf, FRc_t hg, FRm_t hw⟩
    have g1 := isSign_c (N := N) (g := g) (c := 40) (x := 40) hK (by decide) rfl Mz k1 vz O
    rw [h3] at g1
    simp only [f_X4_readExpr, f_X4_readExpr_b36, q6, ↓reduceIte, ↓b_rdC, c7, n2, n1, ↓bnd g1, show b2i false = 0 from rfl, ↓bnd (refuse_t (N := N) (g := g) (x := 1) hK Mz k1 vz O), nb0]
theorem rec_b (hg : gok g) (hN : 1000 ≤ N) : ∀ j q, q + j = 6 → ∀ C M p e k m F d, PS n tx g w wi vl f C M p e k m F d → d ≤ 5 * q → OUT n tx g w wi vl f C M d m p (fun Mz k1 vz O => fr_X4_readExpr N (j + 1) (HP C Mz (k1, g, 1, vz) O) 2 (nI q)) (fun Cz k1 k2 k3 O => fr_X7_readExpression N (j + 1) (HP Cz M (k1, k2, k3, vl) O) 71 (nI q)) := by
  intro j
  induction j with
  | zero =>
    intro q hq C M p e k m F d hP hd
    obtain rfl : q = 6 := by omega
    exact expr_6 (rf := fr_X4_readExpr N 0) (rf' := fr_X7_readExpression N 0) hg hP hN
  | succ j ih =>
    intro q hq C M p e k m F d hP hd
    exact expr_b (rf := fr_X4_readExpr N (j + 1)) (rf' := fr_X7_readExpression N (j + 1)) hg (fun C M p e k m F d hP hd => ih (q + 1) (by omega) C M p e k m F d hP hd) (fun M hz => expr_d (rf' := fr_X7_readExpression N j) hz) hP hd (by omega) hN
end S80
