/-! expressions, down to their parts -/
section S78
variable {C C' C'' M M' M'' : ST} {N n g vl p e k m f w wi d D q : Nat} {tx : Nat → Nat} {F : Nat → RI} {rf : AH → Nat → Int32 → Option (Int32 × AH)} {rf' : AH → Nat → Int32 → Option AH} {x : Int32}
/-! behind a fault the reference does nothing -/
theorem part_d (hz : ¬ M 71 24 = 0) : ∀ (Cz : ST) (k1 k2 k3 : Nat) (O : Nat → Int64), f_X7_readPart N rf' (HP Cz M (k1, k2, k3, vl) O) 71 x = some (HP Cz M (k1, k2, k3, vl) O) := by
  intro Cz k1 k2 k3 O
  simp only [f_X7_readPart, ↓b_rdM, hz, ↓reduceIte]
theorem prodL_d (hz : ¬ M 71 24 = 0) : ∀ (Cz : ST) (k1 k2 k3 : Nat) (O : Nat → Int64), f_X7_readProduct_l5 N rf' 71 x (HP Cz M (k1, k2, k3, vl) O) = some (.inr (HP Cz M (k1, k2, k3, vl) O)) := by
  intro Cz k1 k2 k3 O
  simp only [f_X7_readProduct_l5, ↓b_rdM, ↓bnd (isMarked_d (N := N) (vl := vl) hz Cz k1 k2 k3 O), ↓reduceIte]
theorem sumL_d (hz : ¬ M 71 24 = 0) : ∀ (Cz : ST) (k1 k2 k3 : Nat) (O : Nat → Int64), f_X7_readSum_l5 N rf' 71 x (HP Cz M (k1, k2, k3, vl) O) = some (.inr (HP Cz M (k1, k2, k3, vl) O)) := by
  intro Cz k1 k2 k3 O
  simp only [f_X7_readSum_l5, ↓b_rdM, ↓bnd (isMarked_d (N := N) (vl := vl) hz Cz k1 k2 k3 O), ↓reduceIte]
theorem andL_d (hz : ¬ M 71 24 = 0) (hN : 1000 ≤ N) : ∀ (Cz : ST) (k1 k2 k3 : Nat) (O : Nat → Int64), f_X7_readAnd_l5 N rf' 71 x (HP Cz M (k1, k2, k3, vl) O) = some (.inr (HP Cz M (k1, k2, k3, vl) O)) := by
  intro Cz k1 k2 k3 O
  simp only [f_X7_readAnd_l5, ↓b_rdM, ↓bnd (is_d (N := N) (vl := vl) hz hN Cz k1 k2 k3 O), ↓reduceIte]
theorem orL_d (hz : ¬ M 71 24 = 0) (hN : 1000 ≤ N) : ∀ (Cz : ST) (k1 k2 k3 : Nat) (O : Nat → Int64), f_X7_readExpression_l67 N rf' 71 x (HP Cz M (k1, k2, k3, vl) O) = some (.inr (HP Cz M (k1, k2, k3, vl) O)) := by
  intro Cz k1 k2 k3 O
  simp only [f_X7_readExpression_l67, ↓b_rdM, ↓bnd (is_d (N := N) (vl := vl) hz hN Cz k1 k2 k3 O), ↓reduceIte]
theorem it1 {σ ρ : Type} {body : σ → Option (σ ⊕ ρ)} {s : σ} {r : ρ} (h : body s = some (.inr r)) (hN : 1000 ≤ N) : itr body N s = some r := by
  obtain ⟨N', rfl⟩ : ∃ x, N = x + 1 := ⟨N - 1, by omega⟩
  exact itr_r h N'
theorem prod_d (hz : ¬ M 71 24 = 0) (hN : 1000 ≤ N) : ∀ (Cz : ST) (k1 k2 k3 : Nat) (O : Nat → Int64), f_X7_readProduct N rf' (HP Cz M (k1, k2, k3, vl) O) 71 x = some (HP Cz M (k1, k2, k3, vl) O) := by
  intro Cz k1 k2 k3 O
  have A := it1 (body := fun s => f_X7_readProduct_l5 N rf' 71 x s) (prodL_d (N := N) (rf' := rf') (x := x) (vl := vl) hz Cz k1 k2 k3 O) hN
  simp only [f_X7_readProduct, f_X7_readProduct_b5, ↓b_rdM, ↓bnd (part_d (N := N) (rf' := rf') (x := x) (vl := vl) hz Cz k1 k2 k3 O), A, Option.bind_some]
theorem sum_d (hz : ¬ M 71 24 = 0) (hN : 1000 ≤ N) : ∀ (Cz : ST) (k1 k2 k3 : Nat) (O : Nat → Int64), f_X7_readSum N rf' (HP Cz M (k1, k2, k3, vl) O) 71 x = some (HP Cz M (k1, k2, k3, vl) O) := by
  intro Cz k1 k2 k3 O
  have A := it1 (body := fun s => f_X7_readSum_l5 N rf' 71 x s) (sumL_d (N := N) (rf' := rf') (x := x) (vl := vl) hz Cz k1 k2 k3 O) hN
  simp only [f_X7_readSum, f_X7_readSum_b5, ↓b_rdM, ↓bnd (prod_d (N := N) (rf' := rf') (x := x) (vl := vl) hz hN Cz k1 k2 k3 O), A, Option.bind_some]
theorem nots_d (hz : ¬ M 71 24 = 0) {c : Nat} (hc : c ≤ 7) (hN : 1000 ≤ N) : ∀ (Cz : ST) (k1 k2 k3 : Nat) (O : Nat → Int64), f_X7_readNot_b94 N rf' 71 (nI c) (HP Cz M (k1, k2, k3, vl) O) = some (HP Cz M (k1, k2, k3, vl) O) := by
  intro Cz k1 k2 k3 O
  have A := itr_seq (body := fun s : Int32 × AH => f_X7_readNot_l96 N rf' 71 (nI c) s.1 s.2) (fun i => (nI i, (HP Cz M (k1, k2, k3, vl) O))) (n := c) (r := (HP Cz M (k1, k2, k3, vl) O)) ?_ ?_ (N := N) (by omega)
  · have A' : itr (fun s : Int32 × AH => f_X7_readNot_l96 N rf' 71 (nI c) s.1 s.2) N (0, (HP Cz M (k1, k2, k3, vl) O)) = some (HP Cz M (k1, k2, k3, vl) O) := A
    simp only [f_X7_readNot_b94, f_X7_readNot_b96, A', Option.bind_some]
  · intro i hi
    simp only [f_X7_readNot_l96, nle hi (by omega), ↓reduceIte, ↓b_rdM, ↓bnd (lay_d (N := N) (vl := vl) hz Cz k1 k2 k3 O), nI_1]
  · simp only [f_X7_readNot_l96, yle (Nat.le_refl c) (by omega), ↓reduceIte]
/-- what comes behind the nots, dead -/
theorem notT_d (hz : ¬ M 71 24 = 0) {c : Nat} (hc : c ≤ 7) (hN : 1000 ≤ N) : ∀ (Cz : ST) (k1 k2 k3 : Nat) (O : Nat → Int64), ((jck 7 (HP Cz M (k1, k2, k3, vl) O) 71).bind fun _ => (f_X7_readSum N rf' (HP Cz M (k1, k2, k3, vl) O) 71 x).bind fun r40 => (jck 7 r40 71).bind fun _ => (f_X7_isMarked N r40 71 60).bind fun r44 => if r44.1 = 0 then (jck 7 r44.2 71).bind fun _ => (f_X7_isMarked N r44.2 71 61).bind fun r49 => if r49.1 = 0 then f_X7_readNot_b94 N rf' 71 (nI c) r49.2 else f_X7_readNot_b63 N rf' 71 x (nI c) r49.2 else f_X7_readNot_b63 N rf' 71 x (nI c) r44.2) = some (HP Cz M (k1, k2, k3, vl) O) := by
  intro Cz k1 k2 k3 O
  simp only [↓b_rdM, ↓bnd (sum_d (N := N) (rf' := rf') (x := x) (vl := vl) hz hN Cz k1 k2 k3 O), ↓bnd (isMarked_d (N := N) (vl := vl) hz Cz k1 k2 k3 O), ↓reduceIte, nots_d (N := N) (rf' := rf') (vl := vl) hz hc hN Cz k1 k2 k3 O]
theorem not_d (hz : ¬ M 71 24 = 0) (hN : 1000 ≤ N) : ∀ (Cz : ST) (k1 k2 k3 : Nat) (O : Nat → Int64), f_X7_readNot N rf' (HP Cz M (k1, k2, k3, vl) O) 71 x = some (HP Cz M (k1, k2, k3, vl) O) := by
  intro Cz k1 k2 k3 O
  have A : itr (fun s : Int32 × AH => f_X7_readNot_l2 N rf' 71 x s.1 s.2) N (0, (HP Cz M (k1, k2, k3, vl) O)) = some (0, (HP Cz M (k1, k2, k3, vl) O)) := it1 (by simp only [f_X7_readNot_l2, ↓b_rdM, ↓bnd (is_d (N := N) (vl := vl) hz hN Cz k1 k2 k3 O), ↓reduceIte]) hN
  have B := notT_d (N := N) (rf' := rf') (x := x) (vl := vl) (c := 0) hz (by decide) hN Cz k1 k2 k3 O
  rw [show nI 0 = 0 from rfl] at B
  simp only [f_X7_readNot, f_X7_readNot_b2, A, Option.bind_some]
  exact B
theorem and_d (hz : ¬ M 71 24 = 0) (hN : 1000 ≤ N) : ∀ (Cz : ST) (k1 k2 k3 : Nat) (O : Nat → Int64), f_X7_readAnd N rf' (HP Cz M (k1, k2, k3, vl) O) 71 x = some (HP Cz M (k1, k2, k3, vl) O) := by
  intro Cz k1 k2 k3 O
  have A := it1 (body := fun s => f_X7_readAnd_l5 N rf' 71 x s) (andL_d (N := N) (rf' := rf') (x := x) (vl := vl) hz hN Cz k1 k2 k3 O) hN
  simp only [f_X7_readAnd, f_X7_readAnd_b5, ↓b_rdM, ↓bnd (not_d (N := N) (rf' := rf') (x := x) (vl := vl) hz hN Cz k1 k2 k3 O), A, Option.bind_some]
theorem orT_d (hz : ¬ M 71 24 = 0) (hN : 1000 ≤ N) : ∀ (Cz : ST) (k1 k2 k3 : Nat) (O : Nat → Int64), f_X7_readExpression_b62 N rf' 71 x (HP Cz M (k1, k2, k3, vl) O) = some (HP Cz M (k1, k2, k3, vl) O) := by
  intro Cz k1 k2 k3 O
  have A := it1 (body := fun s => f_X7_readExpression_l67 N rf' 71 x s) (orL_d (N := N) (rf' := rf') (x := x) (vl := vl) hz hN Cz k1 k2 k3 O) hN
  simp only [f_X7_readExpression_b62, f_X7_readExpression_b67, ↓b_rdM, ↓bnd (and_d (N := N) (rf' := rf') (x := x) (vl := vl) hz hN Cz k1 k2 k3 O), A, Option.bind_some]
theorem expr_d (hz : ¬ M 71 24 = 0) : ∀ (Cz : ST) (k1 k2 k3 : Nat) (O : Nat → Int64), f_X7_readExpression N rf' (HP Cz M (k1, k2, k3, vl) O) 71 x = some (HP Cz M (k1, k2, k3, vl) O) := by
  intro Cz k1 k2 k3 O
  simp only [f_X7_readExpression, ↓b_rdM, hz, ↓reduceIte]
/-! a part -/
theorem sh16 (v : Nat) : nI v * 16 + 0 = nI (16 * v) := by
  have : nI v * 16 = nI (16 * v) := by
    rw [Nat.mul_comm]
    exact mulI v 16
  rw [this, Int32.add_zero]
theorem sh17 (v : Nat) : nI v * 16 + 1 = nI (16 * v + 1) := by
  have : nI v * 16 = nI (16 * v) := by
    rw [Nat.mul_comm]
    exact mulI v 16
  rw [this, nI_1]
set_option maxHeartbeats 4000000 in
theorem part_b (hg : gok g) (hrf : ∀ C M p e k m F d, PS n tx g w wi vl f C M p e k m F d → d ≤ 5 * (q + 1) → OUT n tx g w wi vl f C M d m p (fun Mz k1 vz O => rf (HP C Mz (k1, g, 1, vz) O) 2 (nI (q + 1))) (fun Cz k1 k2 k3 O => rf' (HP Cz M (k1, k2, k3, vl) O) 71 (nI (q + 1)))) (hrd : ∀ M, ¬ M 71 24 = 0 → ∀ (Cz : ST) (k1 k2 k3 : Nat) (O : Nat → Int64), rf' (HP Cz M (k1, k2, k3, vl) O) 71 (nI (q + 1)) = some (HP Cz M (k1, k2, k3, vl) O)) (hP : PS n tx g w wi vl f C M p e k m F d) (hd : d ≤ 5 * q + 5) (hq : q ≤ 5) (hN : 1000 ≤ N) : OUT n tx g w wi vl f C M d m p (fun Mz k1 vz O => f_X4_readPart N rf (HP C Mz (k1, g, 1, vz) O) 2 (nI q)) (fun Cz k1 k2 k3 O => f_X7_readPart N rf' (HP Cz M (k1, k2, k3, vl) O) 71 (nI q)) := by
  have hK := hP.1
  have hw := MD_w hP.2.2.2.2.2
  have hmd := hP.2.2.2.2.2
  obtain ⟨hT, hz, ⟨c5, c6, c7⟩, ⟨d5, d6, d6', d7⟩, pe, en, hk, k4, h2⟩ := hP.1
  have t1 : ¬ (1 : Int32) = 0 := by decide
  have fp := hP.2.2.2.2.1
  have s1 : nI q + 1 = nI (q + 1) := nI_1 q
  by_cases z2 : k = 2
  · have e2 : nI k = 2 := by rw [z2]; rfl
    rcases num_b (N := N) (g := g) (vl := vl) (lo := 0) (hi := 9999) (xl := 0) (xh := 9999) hK (by decide) rfl rfl (by decide) hN with ⟨v, p', e', k', dd, y, x, v1, v2, v3, q1, q2, q3⟩ | ⟨fl, f1, f5, q1, q2⟩
    · left
      have P1 := PS_tf hg hP q3 (by omega) TFc_s2' TFm_m7
      have h7 := PS_700 P1
      have e10 : s2 (up C 2 10 (nI v)) (nI p') (nI e') (nI k') dd y 2 10 = nI v := by rw [s2_k (by decide), up_s, upd_s]
      obtain ⟨C3, M3, F3, b1, b2, b3, b4, b5, b6, b7, b8, b9⟩ := em_b (N := N) hg P1 (by omega) (.inl v) ⟨v2, by omega⟩ (op := 0) (ar := nI v) (s := nI v) (sh16 v) rfl
      refine ⟨C3, M3, p', e', k', m + 1, F3, fun Mz k1 vz O => ?_, fun Cz k1 k2 k3 O => ?_, ⟨b3, b4, b5, b6, by omega, b7⟩, by omega, v3, FRc_trans (TFc_FRc hg TFc_s2') b8, FRm_trans (TFm_FRm hw TFm_m7) b9⟩
      · simp only [f_X4_readPart, ↓b_rdC, c7, e2, ↓reduceIte, ↓bnd (q1 Mz k1 vz O), t1, e10, ↓b_rG hg, ↓bnd (b1 Mz k1 vz O)]
      · simp only [f_X7_readPart, ↓b_rdM, hz, d7, e2, ↓reduceIte, ↓bnd (q2 Cz k1 k2 k3 O), ↓bnd (b2 Cz k1 k2 k3 O)]
    · right
      have hf := FLT_t (fl := fl) (x := nI fl) hK f1 f5 rfl
      refine ⟨_, _, fl, p, fun Mz k1 vz O => ?_, fun Cz k1 k2 k3 O => ?_, hf, FRc_t hg, FRm_t hw⟩
      · simp only [f_X4_readPart, ↓b_rdC, c7, e2, ↓reduceIte, ↓bnd (q1 Mz k1 vz O)]
      · simp only [f_X7_readPart, ↓b_rdM, hz, d7, e2, ↓reduceIte, ↓bnd (q2 Cz k1 k2 k3 O), ↓bnd (lay_d (N := N) (vl := vl) (FLT_ne hf) Cz k1 k2 k3 O)]
  · have n2 : ¬ nI k = 2 := fun q => z2 ((eq_nI (a := k) (b := 2) (by omega) (by omega)).mp q)
    by_cases z1 : k = 1
    · have e1 : nI k = 1 := by rw [z1]; rfl
      have n12 : ¬ (1 : Int32) = 2 := by decide
      have pe' := hk (by omega)
      have vc := vw_c (N := N) (g := g) hK hmd hN
      have vm := vw_m (N := N) hK hmd hN
      rcases vix_c (fun i => wm tx p e k (Wv vl i)) with hv | ⟨i, hi, hv⟩
      · right
        have hf := FLT_t (fl := 3) (x := 3) hK (by decide) (by decide) rfl
        refine ⟨_, _, 3, p, fun Mz k1 vz O => ?_, fun Cz k1 k2 k3 O => ?_, hf, FRc_t hg, FRm_t hw⟩
        · have v0 := vc Mz k1 vz O
          rw [hv] at v0
          simp only [f_X4_readPart, ↓b_rdC, c7, e1, n12, ↓reduceIte, ↓bnd v0, ↓bnd (refuse_t (N := N) (g := g) (x := 3) hK Mz k1 vz O), nb0]
        · have v0 := vm Cz k1 k2 k3 O
          rw [hv] at v0
          simp only [f_X7_readPart, f_X7_readPart_b56, ↓b_rdM, hz, d7, e1, n12, ↓reduceIte, ↓bnd v0, ↓bnd (wrong_t (N := N) (vl := vl) (x := 3) hK Cz k1 k2 k3 O), ↓bnd (lay_d (N := N) (vl := vl) (FLT_ne hf) Cz k1 k2 k3 O), FLT_ne hf]
      · left
        have h7 := (TK_p hK).2
        have n1 : ¬ nI i = -1 := (neg_cases (by omega)).1
        obtain ⟨C3, M3, F3, b1, b2, b3, b4, b5, b6, b7, b8, b9⟩ := em_b (N := N) hg hP (by omega) (.inr (.inl i)) ⟨hi, by omega⟩ (op := 1) (ar := nI i) (s := -1 - nI i) (sh17 i) rfl
        obtain ⟨p4, e4, k4', C4, M4, x1, x2, x3, x4, x5, x6⟩ := TK_next (g := g) (vl := vl) b3 hN
        have hz3 : M3 71 24 = 0 := b3.2.1
        have rs : RSr g w wi f C4 M4 (m + 1) F3 := by
          refine ⟨b4.1, by rw [x5.1 g (by rcases hg with rfl | rfl <;> decide)]; exact b4.2.1, by rw [x6.1 75 (by decide)]; exact b4.2.2.1, fun i hi => ?_⟩
          rw [x5.1 (g + 7) (by rcases hg with rfl | rfl <;> decide), x6.1 w (by rcases hw with rfl | rfl <;> decide)]
          exact b4.2.2.2 i hi
        refine ⟨C4, M4, p4, e4, k4', m + 1, F3, fun Mz k1 vz O => ?_, fun Cz k1 k2 k3 O => ?_, ⟨x4, rs, b5, b6, by omega, MD_fr b7 (TFc_FRc (f := f) hg x5) (TFm_FRm hw x6)⟩, by omega, by omega, FRc_trans b8 (TFc_FRc hg x5), FRm_trans b9 (TFm_FRm hw x6)⟩
        · have v0 := vc Mz k1 vz O
          rw [hv] at v0
          simp only [f_X4_readPart, ↓b_rdC, c7, e1, n12, ↓reduceIte, ↓bnd v0, n1, ↓b_rG hg, ↓bnd (b1 Mz k1 vz O), ↓bnd (x2 Mz k1 vz O)]
        · have v0 := vm Cz k1 k2 k3 O
          rw [hv] at v0
          simp only [f_X7_readPart, f_X7_readPart_b56, ↓b_rdM, hz, d7, e1, n12, ↓reduceIte, ↓bnd v0, n1, ↓bnd (b2 Cz k1 k2 k3 O), hz3, ↓bnd (x3 Cz k1 k2 k3 O)]
    · have n1 : ¬ nI k = 1 := fun q => z1 ((eq_nI (a := k) (b := 1) (by omega) (by omega)).mp q)
      by_cases y : sgm tx p k 40 = true
      · obtain ⟨p1, e1', k1', dd, yy, zz, y1, y2, y3, y4⟩ := sign_y (N := N) (g := g) (vl := vl) (c := 40) (x := 40) hK (by decide) rfl y hN
        have P1 := PS_tf hg hP y4 (by omega) TFc_s2 TFm_m7
        have c1 := TFc_FRc (g := g) (f := f) (C := C) (C' := s2 C (nI p1) (nI e1') (nI k1') dd yy) hg TFc_s2
        have m1 := TFm_FRm (w := w) (wi := wi) (M := M) (M' := m7 M (nI e1') (nI k1') zz (nI p1) (nI e1')) hw TFm_m7
        rcases hrf _ _ _ _ _ _ _ _ P1 (by omega) with ⟨C2, M2, p2, e2, k2', m2, F2, a1, a2, P2, a3, a4, a5, a6⟩ | ⟨C2, M2, fl, pl, a1, a2, a3, a4, a5⟩
        · by_cases u : sgm tx p2 k2' 41 = true
          · left
            obtain ⟨p3, e3', k3', d3, yy3, zz3, u1, u2, u3, u4⟩ := sign_y (N := N) (g := g) (vl := vl) (c := 41) (x := 41) P2.1 (by decide) rfl u hN
            have P3 := PS_tf hg P2 u4 (by omega) TFc_s2 TFm_m7
            refine ⟨_, _, p3, e3', k3', m2, F2, fun Mz k1 vz O => ?_, fun Cz k1 k2 k3 O => ?_, P3, by omega, by omega, FRc_trans c1 (FRc_trans a5 (TFc_FRc hg TFc_s2)), FRm_trans m1 (FRm_trans a6 (TFm_FRm hw TFm_m7))⟩
            · unfold f_X4_readPart
              rw [s1]
              simp only [↓b_rdC, c7, n2, n1, ↓reduceIte, ↓bnd (y2 Mz k1 vz O), t1, ↓bnd (a1 Mz k1 vz O), ↓bnd (u2 Mz k1 vz O)]
            · unfold f_X7_readPart
              rw [s1]
              simp only [↓b_rdM, hz, d7, n2, n1, ↓reduceIte, ↓bnd (y3 Cz k1 k2 k3 O), ↓bnd (a2 Cz k1 k2 k3 O), ↓bnd (u3 Cz k1 k2 k3 O)]
          · right
            have u' : sgm tx p2 k2' 41 = false := by simpa using u
            obtain ⟨u1, u2⟩ := sign_n (N := N) (g := g) (vl := vl) (c := 41) (x := 41) P2.1 (by decide) rfl u'
            have hf := FLT_t (fl := 1) (x := 1) P2.1 (by decide) (by decide) rfl
            refine ⟨_, _, 1, p2, fun Mz k1 vz O => ?_, fun Cz k1 k2 k3 O => ?_, hf, FRc_trans c1 (FRc_trans a5 (FRc_t hg)), FRm_trans m1 (FRm_trans a6 (FRm_t hw))⟩
            · unfold f_X4_readPart
              rw [s1]
              simp only [f_X4_readPart_b107, ↓b_rdC, c7, n2, n1, ↓reduceIte, ↓bnd (y2 Mz k1 vz O), t1, ↓bnd (a1 Mz k1 vz O), ↓bnd (u1 Mz k1 vz O)]
            · unfold f_X7_readPart
              rw [s1]
              simp only [↓b_rdM, hz, d7, n2, n1, ↓reduceIte, ↓bnd (y3 Cz k1 k2 k3 O), ↓bnd (a2 Cz k1 k2 k3 O), ↓bnd (u2 Cz k1 k2 k3 O)]
        · right
          refine ⟨C2, M2, fl, pl, fun Mz k1 vz O => ?_, fun Cz k1 k2 k3 O => ?_, a3, FRc_trans c1 a4, FRm_trans m1 a5⟩
          · unfold f_X4_readPart
            rw [s1]
            simp only [f_X4_readPart_b107, ↓b_rdC, c7, n2, n1, ↓reduceIte, ↓bnd (y2 Mz k1 vz O), t1, ↓bnd (a1 Mz k1 vz O)]
          · unfold f_X7_readPart
            rw [s1]
            simp only [↓b_rdM, hz, d7, n2, n1, ↓reduceIte, ↓bnd (y3 Cz k1 k2 k3 O), ↓bnd (a2 Cz k1 k2 k3 O), ↓bnd (mark_d (N := N) (vl := vl) (FLT_ne a3) Cz k1 k2 k3 O)]
      · right
        have y' : sgm tx p k 40 = false := by simpa using y
        obtain ⟨u1, u2⟩ := sign_n (N := N) (g := g) (vl := vl) (c := 40) (x := 40) hK (by decide) rfl y'
        have hf := FLT_t (fl := 1) (x := 1) hK (by decide) (by decide) rfl
        refine ⟨_, _, 1, p, fun Mz k1 vz O => ?_, fun Cz k1 k2 k3 O => ?_, hf, FRc_t hg, FRm_t hw⟩
        · unfold f_X4_readPart
          rw [s1]
          simp only [f_X4_readPart_b107, ↓b_rdC, c7, n2, n1, ↓reduceIte, ↓bnd (u1 Mz k1 vz O)]
        · unfold f_X7_readPart
          rw [s1]
          simp only [↓b_rdM, hz, d7, n2, n1, ↓reduceIte, ↓bnd (u2 Cz k1 k2 k3 O), ↓bnd (hrd _ (FLT_ne hf) Cz k1 k2 k3 O), ↓bnd (mark_d (N := N) (vl := vl) (FLT_ne hf) Cz k1 k2 k3 O)]
set_option maxHeartbeats 4000000 in
theorem prod_b (hg : gok g) (hrf : ∀ C M p e k m F d, PS n tx g w wi vl f C M p e k m F d → d ≤ 5 * (q + 1) → OUT n tx g w wi vl f C M d m p (fun Mz k1 vz O => rf (HP C Mz (k1, g, 1, vz) O) 2 (nI (q + 1))) (fun Cz k1 k2 k3 O => rf' (HP Cz M (k1, k2, k3, vl) O) 71 (nI (q + 1)))) (hrd : ∀ M, ¬ M 71 24 = 0 → ∀ (Cz : ST) (k1 k2 k3 : Nat) (O : Nat → Int64), rf' (HP Cz M (k1, k2, k3, vl) O) 71 (nI (q + 1)) = some (HP Cz M (k1, k2, k3, vl) O)) (hP : PS n tx g w wi vl f C M p e k m F d) (hd : d ≤ 5 * q + 4) (hq : q ≤ 5) (hN : 1000 ≤ N) : OUT n tx g w wi vl f C M d m p (fun Mz k1 vz O => f_X4_readProduct N rf (HP C Mz (k1, g, 1, vz) O) 2 (nI q)) (fun Cz k1 k2 k3 O => f_X7_readProduct N rf' (HP Cz M (k1, k2, k3, vl) O) 71 (nI q)) := by
  have hw := MD_w hP.2.2.2.2.2
  have t1 : ¬ (1 : Int32) = 0 := by decide
  have hn := hP.1.1.1
  rcases part_b hg hrf hrd hP (by omega) hq hN with ⟨C1, M1, p1, e1, k1', m1, F1, a1, a2, P1, a3, a4, a5, a6⟩ | ⟨C1, M1, fl, pl, a1, a2, a3, a4, a5⟩
  · have L := loop_b (n := n) (tx := tx) (g := g) (w := w) (wi := wi) (vl := vl) (f := f) (D := d + 1) (bC := fun s : Int32 × AH => f_X4_readProduct_l12 N rf 2 (nI q) s.1 s.2) (bM := fun s => f_X7_readProduct_l5 N rf' 71 (nI q) s) (fun M hz => prodL_d hz) ?_ 700 C1 M1 p1 e1 k1' m1 F1 0 P1 (by omega) (by omega) N N (by omega) (by omega)
    · rcases L with ⟨C2, M2, p2, e2, k2', m2, F2, b1, b2, P2, b3, b4, b5, b6⟩ | ⟨C2, M2, fl, pl, b1, b2, b3, b4, b5⟩
      · left
        refine ⟨C2, M2, p2, e2, k2', m2, F2, fun Mz k1 vz O => ?_, fun Cz k1 k2 k3 O => ?_, P2, by omega, by omega, FRc_trans a5 b5, FRm_trans a6 b6⟩
        · have B := b1 Mz k1 vz O
          rw [show nI 0 = 0 from rfl] at B
          simp only [f_X4_readProduct, f_X4_readProduct_b12, ↓b_rdC, ↓bnd (a1 Mz k1 vz O), t1, ↓reduceIte, B, Option.bind_some, Sum.elim_inr]
        · simp only [f_X7_readProduct, f_X7_readProduct_b5, ↓b_rdM, ↓bnd (a2 Cz k1 k2 k3 O), b2 Cz k1 k2 k3 O, Option.bind_some]
      · right
        refine ⟨C2, M2, fl, pl, fun Mz k1 vz O => ?_, fun Cz k1 k2 k3 O => ?_, b3, FRc_trans a5 b4, FRm_trans a6 b5⟩
        · have B := b1 Mz k1 vz O
          rw [show nI 0 = 0 from rfl] at B
          simp only [f_X4_readProduct, f_X4_readProduct_b12, ↓b_rdC, ↓bnd (a1 Mz k1 vz O), t1, ↓reduceIte, B, Option.bind_some, Sum.elim_inl]
        · simp only [f_X7_readProduct, f_X7_readProduct_b5, ↓b_rdM, ↓bnd (a2 Cz k1 k2 k3 O), b2 Cz k1 k2 k3 O, Option.bind_some]
    · intro C M p e k m F i hP hi
      have e3 : C 2 3 = nI n := hP.1.1.2.1
      have pn : p ≤ n := by have := hP.1.2.2.2.2.1; have := hP.1.2.2.2.2.2.1; omega
      have lg : ¬ nI n < nI i := nI_nlt (by omega) (by omega)
      have hsub : ∀ C M p e k m F, PS n tx g w wi vl f C M p e k m F (d + 1) → OUT n tx g w wi vl f C M (d + 1) m p (fun Mz k1 vz O => f_X4_readPart N rf (HP C Mz (k1, g, 1, vz) O) 2 (nI q)) (fun Cz k1 k2 k3 O => f_X7_readPart N rf' (HP Cz M (k1, k2, k3, vl) O) 71 (nI q)) := fun C M p e k m F hP => part_b hg hrf hrd hP (by omega) hq hN
      by_cases y1 : sgm tx p k 42 = true
      · have k3 : k ≠ 0 := by have := (decide_eq_true_eq.mp y1).1; omega
        have g1 := isSign_c (N := N) (g := g) (c := 42) (x := 42) hP.1 (by decide) rfl
        have g2 := isMarked_m (N := N) (vl := vl) (c := 42) (x := 42) hP.1 (by decide) rfl
        rw [y1] at g1 g2
        rcases op_b (N := N) hg (sc := fun h => f_X4_readPart N rf h 2 (nI q)) (sm := fun h => f_X7_readPart N rf' h 71 (nI q)) hsub (oc := 4) (om := -22) (by unfold bin2; decide) (by omega) (by omega) hP k3 (i := i) hN with ⟨C', M', p', e', k', m', F', h1, h2, h3⟩ | ⟨C', M', fl, pl, h1, h2, h3⟩
        · refine .inr (.inl ⟨C', M', p', e', k', m', F', fun Mz k1 vz O => ?_, fun Cz k1 k2 k3 O => ?_, h3⟩)
          · refine Eq.trans ?_ (h1 Mz k1 vz O)
            simp only [f_X4_readProduct_l12, f_X4_readProduct_b38, f_X4_readProduct_b52, opC, ↓b_rdC, e3, lg, ↓reduceIte, ↓bnd (g1 Mz k1 vz O), show b2i true = 1 from rfl, t1]
          · refine Eq.trans ?_ (h2 Cz k1 k2 k3 O)
            simp only [f_X7_readProduct_l5, f_X7_readProduct_b23, f_X7_readProduct_b39, opM, ↓b_rdM, ↓bnd (g2 Cz k1 k2 k3 O), show b2i true = 1 from rfl, t1, ↓reduceIte]
        · refine .inr (.inr ⟨C', M', fl, pl, fun Mz k1 vz O => ?_, fun Cz k1 k2 k3 O => ?_, h3⟩)
          · refine Eq.trans ?_ (h1 Mz k1 vz O)
            simp only [f_X4_readProduct_l12, f_X4_readProduct_b38, f_X4_readProduct_b52, opC, ↓b_rdC, e3, lg, ↓reduceIte, ↓bnd (g1 Mz k1 vz O), show b2i true = 1 from rfl, t1]
          · refine Eq.trans ?_ (h2 Cz k1 k2 k3 O)
            simp only [f_X7_readProduct_l5, f_X7_readProduct_b23, f_X7_readProduct_b39, opM, ↓b_rdM, ↓bnd (g2 Cz k1 k2 k3 O), show b2i true = 1 from rfl, t1, ↓reduceIte]
      · have y1' : sgm tx p k 42 = false := by simpa using y1
        have g1 := isSign_c (N := N) (g := g) (c := 42) (x := 42) hP.1 (by decide) rfl
        have g2 := isMarked_m (N := N) (vl := vl) (c := 42) (x := 42) hP.1 (by decide) rfl
        rw [y1'] at g1 g2
        have i1 := isSign_c (N := N) (g := g) (c := 47) (x := 47) hP.1 (by decide) rfl
        have i2 := isMarked_m (N := N) (vl := vl) (c := 47) (x := 47) hP.1 (by decide) rfl
        by_cases y2 : sgm tx p k 47 = true
        · have k3 : k ≠ 0 := by have := (decide_eq_true_eq.mp y2).1; omega
          rw [y2] at i1 i2
          rcases op_b (N := N) hg (sc := fun h => f_X4_readPart N rf h 2 (nI q)) (sm := fun h => f_X7_readPart N rf' h 71 (nI q)) hsub (oc := 5) (om := -23) (by unfold bin2; decide) (by omega) (by omega) hP k3 (i := i) hN with ⟨C', M', p', e', k', m', F', h1, h2, h3⟩ | ⟨C', M', fl, pl, h1, h2, h3⟩
          · refine .inr (.inl ⟨C', M', p', e', k', m', F', fun Mz k1 vz O => ?_, fun Cz k1 k2 k3 O => ?_, h3⟩)
            · refine Eq.trans ?_ (h1 Mz k1 vz O)
              simp only [f_X4_readProduct_l12, f_X4_readProduct_b38, f_X4_readProduct_b52, opC, ↓b_rdC, e3, lg, ↓reduceIte, ↓bnd (g1 Mz k1 vz O), ↓bnd (i1 Mz k1 vz O), show b2i true = 1 from rfl, show b2i false = 0 from rfl, t1]
            · refine Eq.trans ?_ (h2 Cz k1 k2 k3 O)
              simp only [f_X7_readProduct_l5, f_X7_readProduct_b23, f_X7_readProduct_b39, opM, ↓b_rdM, ↓bnd (g2 Cz k1 k2 k3 O), ↓bnd (i2 Cz k1 k2 k3 O), show b2i true = 1 from rfl, show b2i false = 0 from rfl, t1, ↓reduceIte]
          · refine .inr (.inr ⟨C', M', fl, pl, fun Mz k1 vz O => ?_, fun Cz k1 k2 k3 O => ?_, h3⟩)
            · refine Eq.trans ?_ (h1 Mz k1 vz O)
              simp only [f_X4_readProduct_l12, f_X4_readProduct_b38, f_X4_readProduct_b52, opC, ↓b_rdC, e3, lg, ↓reduceIte, ↓bnd (g1 Mz k1 vz O), ↓bnd (i1 Mz k1 vz O), show b2i true = 1 from rfl, show b2i false = 0 from rfl, t1]
            · refine Eq.trans ?_ (h2 Cz k1 k2 k3 O)
              simp only [f_X7_readProduct_l5, f_X7_readProduct_b23, f_X7_readProduct_b39, opM, ↓b_rdM, ↓bnd (g2 Cz k1 k2 k3 O), ↓bnd (i2 Cz k1 k2 k3 O), show b2i true = 1 from rfl, show b2i false = 0 from rfl, t1, ↓reduceIte]
        · have y2' : sgm tx p k 47 = false := by simpa using y2
          rw [y2'] at i1 i2
          refine .inl ⟨fun Mz k1 vz O => ?_, fun Cz k1 k2 k3 O => ?_⟩
          · simp only [f_X4_readProduct_l12, ↓b_rdC, e3, lg, ↓reduceIte, ↓bnd (g1 Mz k1 vz O), ↓bnd (i1 Mz k1 vz O), show b2i false = 0 from rfl]
          · simp only [f_X7_readProduct_l5, ↓b_rdM, ↓bnd (g2 Cz k1 k2 k3 O), ↓bnd (i2 Cz k1 k2 k3 O), show b2i false = 0 from rfl, ↓reduceIte]
  · right
    refine ⟨C1, M1, fl, pl, fun Mz k1 vz O => ?_, fun Cz k1 k2 k3 O => ?_, a3, a4, a5⟩
    · simp only [f_X4_readProduct, ↓b_rdC, ↓bnd (a1 Mz k1 vz O), ↓reduceIte]
    · have A := it1 (body := fun s => f_X7_readProduct_l5 N rf' 71 (nI q) s) (prodL_d (N := N) (rf' := rf') (x := nI q) (vl := vl) (FLT_ne a3) Cz k1 k2 k3 O) hN
      simp only [f_X7_readProduct, f_X7_readProduct_b5, ↓b_rdM, ↓bnd (a2 Cz k1 k2 k3 O), A, Option.bind_some]
set_option maxHeartbeats 4000000 in
theorem sum_b (hg : gok g) (hrf : ∀ C M p e k m F d, PS n tx g w wi vl f C M p e k m F d → d ≤ 5 * (q + 1) → OUT n tx g w wi vl f C M d m p (fun Mz k1 vz O => rf (HP C Mz (k1, g, 1, vz) O) 2 (nI (q + 1))) (fun Cz k1 k2 k3 O => rf' (HP Cz M (k1, k2, k3, vl) O) 71 (nI (q + 1)))) (hrd : ∀ M, ¬ M 71 24 = 0 → ∀ (Cz : ST) (k1 k2 k3 : Nat) (O : Nat → Int64), rf' (HP Cz M (k1, k2, k3, vl) O) 71 (nI (q + 1)) = some (HP Cz M (k1, k2, k3, vl) O)) (hP : PS n tx g w wi vl f C M p e k m F d) (hd : d ≤ 5 * q + 3) (hq : q ≤ 5) (hN : 1000 ≤ N) : OUT n tx g w wi vl f C M d m p (fun Mz k1 vz O => f_X4_readSum N rf (HP C Mz (k1, g, 1, vz) O) 2 (nI q)) (fun Cz k1 k2 k3 O => f_X7_readSum N rf' (HP Cz M (k1, k2, k3, vl) O) 71 (nI q)) := by
  have hw := MD_w hP.2.2.2.2.2
  have t1 : ¬ (1 : Int32) = 0 := by decide
  have hn := hP.1.1.1
  rcases prod_b hg hrf hrd hP (by omega) hq hN with ⟨C1, M1, p1, e1, k1', m1, F1, a1, a2, P1, a3, a4, a5, a6⟩ | ⟨C1, M1, fl, pl, a1, a2, a3, a4, a5⟩
  · have L := loop_b (n := n) (tx := tx) (g := g) (w := w) (wi := wi) (vl := vl) (f := f) (D := d + 1) (bC := fun s : Int32 × AH => f_X4_readSum_l12 N rf 2 (nI q) s.1 s.2) (bM := fun s => f_X7_readSum_l5 N rf' 71 (nI q) s) (fun M hz => sumL_d hz) ?_ 700 C1 M1 p1 e1 k1' m1 F1 0 P1 (by omega) (by omega) N N (by omega) (by omega)
    · rcases L with ⟨C2, M2, p2, e2, k2', m2, F2, b1, b2, P2, b3, b4, b5, b6⟩ | ⟨C2, M2, fl, pl, b1, b2, b3, b4, b5⟩
      · left
        refine ⟨C2, M2, p2, e2, k2', m2, F2, fun Mz k1 vz O => ?_, fun Cz k1 k2 k3 O => ?_, P2, by omega, by omega, FRc_trans a5 b5, FRm_trans a6 b6⟩
        · have B := b1 Mz k1 vz O
          rw [show nI 0 = 0 from rfl] at B
          simp only [f_X4_readSum, f_X4_readSum_b12, ↓b_rdC, ↓bnd (a1 Mz k1 vz O), t1, ↓reduceIte, B, Option.bind_some, Sum.elim_inr]
        · simp only [f_X7_readSum, f_X7_readSum_b5, ↓b_rdM, ↓bnd (a2 Cz k1 k2 k3 O), b2 Cz k1 k2 k3 O, Option.bind_some]
      · right
        refine ⟨C2, M2, fl, pl, fun Mz k1 vz O => ?_, fun Cz k1 k2 k3 O => ?_, b3, FRc_trans a5 b4, FRm_trans a6 b5⟩
        · have B := b1 Mz k1 vz O
          rw [show nI 0 = 0 from rfl] at B
          simp only [f_X4_readSum, f_X4_readSum_b12, ↓b_rdC, ↓bnd (a1 Mz k1 vz O), t1, ↓reduceIte, B, Option.bind_some, Sum.elim_inl]
        · simp only [f_X7_readSum, f_X7_readSum_b5, ↓b_rdM, ↓bnd (a2 Cz k1 k2 k3 O), b2 Cz k1 k2 k3 O, Option.bind_some]
    · intro C M p e k m F i hP hi
      have e3 : C 2 3 = nI n := hP.1.1.2.1
      have pn : p ≤ n := by have := hP.1.2.2.2.2.1; have := hP.1.2.2.2.2.2.1; omega
      have lg : ¬ nI n < nI i := nI_nlt (by omega) (by omega)
      have hsub : ∀ C M p e k m F, PS n tx g w wi vl f C M p e k m F (d + 1) → OUT n tx g w wi vl f C M (d + 1) m p (fun Mz k1 vz O => f_X4_readProduct N rf (HP C Mz (k1, g, 1, vz) O) 2 (nI q)) (fun Cz k1 k2 k3 O => f_X7_readProduct N rf' (HP Cz M (k1, k2, k3, vl) O) 71 (nI q)) := fun C M p e k m F hP => prod_b hg hrf hrd hP (by omega) hq hN
      by_cases y1 : sgm tx p k 43 = true
      · have k3 : k ≠ 0 := by have := (decide_eq_true_eq.mp y1).1; omega
        have g1 := isSign_c (N := N) (g := g) (c := 43) (x := 43) hP.1 (by decide) rfl
        have g2 := isMarked_m (N := N) (vl := vl) (c := 43) (x := 43) hP.1 (by decide) rfl
        rw [y1] at g1 g2
        rcases op_b (N := N) hg (sc := fun h => f_X4_readProduct N rf h 2 (nI q)) (sm := fun h => f_X7_readProduct N rf' h 71 (nI q)) hsub (oc := 2) (om := -20) (by unfold bin2; decide) (by omega) (by omega) hP k3 (i := i) hN with ⟨C', M', p', e', k', m', F', h1, h2, h3⟩ | ⟨C', M', fl, pl, h1, h2, h3⟩
        · refine .inr (.inl ⟨C', M', p', e', k', m', F', fun Mz k1 vz O => ?_, fun Cz k1 k2 k3 O => ?_, h3⟩)
          · refine Eq.trans ?_ (h1 Mz k1 vz O)
            simp only [f_X4_readSum_l12, f_X4_readSum_b38, f_X4_readSum_b52, opC, ↓b_rdC, e3, lg, ↓reduceIte, ↓bnd (g1 Mz k1 vz O), show b2i true = 1 from rfl, t1]
          · refine Eq.trans ?_ (h2 Cz k1 k2 k3 O)
            simp only [f_X7_readSum_l5, f_X7_readSum_b23, f_X7_readSum_b39, opM, ↓b_rdM, ↓bnd (g2 Cz k1 k2 k3 O), show b2i true = 1 from rfl, t1, ↓reduceIte]
        · refine .inr (.inr ⟨C', M', fl, pl, fun Mz k1 vz O => ?_, fun Cz k1 k2 k3 O => ?_, h3⟩)
          · refine Eq.trans ?_ (h1 Mz k1 vz O)
            simp only [f_X4_readSum_l12, f_X4_readSum_b38, f_X4_readSum_b52, opC, ↓b_rdC, e3, lg, ↓reduceIte, ↓bnd (g1 Mz k1 vz O), show b2i true = 1 from rfl, t1]
          · refine Eq.trans ?_ (h2 Cz k1 k2 k3 O)
            simp only [f_X7_readSum_l5, f_X7_readSum_b23, f_X7_readSum_b39, opM, ↓b_rdM, ↓bnd (g2 Cz k1 k2 k3 O), show b2i true = 1 from rfl, t1, ↓reduceIte]
      · have y1' : sgm tx p k 43 = false := by simpa using y1
        have g1 := isSign_c (N := N) (g := g) (c := 43) (x := 43) hP.1 (by decide) rfl
        have g2 := isMarked_m (N := N) (vl := vl) (c := 43) (x := 43) hP.1 (by decide) rfl
        rw [y1'] at g1 g2
        have i1 := isSign_c (N := N) (g := g) (c := 45) (x := 45) hP.1 (by decide) rfl
        have i2 := isMarked_m (N := N) (vl := vl) (c := 45) (x := 45) hP.1 (by decide) rfl
        by_cases y2 : sgm tx p k 45 = true
        · have k3 : k ≠ 0 := by have := (decide_eq_true_eq.mp y2).1; omega
          rw [y2] at i1 i2
          rcases op_b (N := N) hg (sc := fun h => f_X4_readProduct N rf h 2 (nI q)) (sm := fun h => f_X7_readProduct N rf' h 71 (nI q)) hsub (oc := 3) (om := -21) (by unfold bin2; decide) (by omega) (by omega) hP k3 (i := i) hN with ⟨C', M', p', e', k', m', F', h1, h2, h3⟩ | ⟨C', M', fl, pl, h1, h2, h3⟩
          · refine .inr (.inl ⟨C', M', p', e', k', m', F', fun Mz k1 vz O => ?_, fun Cz k1 k2 k3 O => ?_, h3⟩)
            · refine Eq.trans ?_ (h1 Mz k1 vz O)
              simp only [f_X4_readSum_l12, f_X4_readSum_b38, f_X4_readSum_b52, opC, ↓b_rdC, e3, lg, ↓reduceIte, ↓bnd (g1 Mz k1 vz O), ↓bnd (i1 Mz k1 vz O), show b2i true = 1 from rfl, show b2i false = 0 from rfl, t1]
            · refine Eq.trans ?_ (h2 Cz k1 k2 k3 O)
              simp only [f_X7_readSum_l5, f_X7_readSum_b23, f_X7_readSum_b39, opM, ↓b_rdM, ↓bnd (g2 Cz k1 k2 k3 O), ↓bnd (i2 Cz k1 k2 k3 O), show b2i true = 1 from rfl, show b2i false = 0 from rfl, t1, ↓reduceIte]
          · refine .inr (.inr ⟨C', M', fl, pl, fun Mz k1 vz O => ?_, fun Cz k1 k2 k3 O => ?_, h3⟩)
            · refine Eq.trans ?_ (h1 Mz k1 vz O)
              simp only [f_X4_readSum_l12, f_X4_readSum_b38, f_X4_readSum_b52, opC, ↓b_rdC, e3, lg, ↓reduceIte, ↓bnd (g1 Mz k1 vz O), ↓bnd (i1 Mz k1 vz O), show b2i true = 1 from rfl, show b2i false = 0 from rfl, t1]
            · refine Eq.trans ?_ (h2 Cz k1 k2 k3 O)
              simp only [f_X7_readSum_l5, f_X7_readSum_b23, f_X7_readSum_b39, opM, ↓b_rdM, ↓bnd (g2 Cz k1 k2 k3 O), ↓bnd (i2 Cz k1 k2 k3 O), show b2i true = 1 from rfl, show b2i false = 0 from rfl, t1, ↓reduceIte]
        · have y2' : sgm tx p k 45 = false := by simpa using y2
          rw [y2'] at i1 i2
          refine .inl ⟨fun Mz k1 vz O => ?_, fun Cz k1 k2 k3 O => ?_⟩
          · simp only [f_X4_readSum_l12, ↓b_rdC, e3, lg, ↓reduceIte, ↓bnd (g1 Mz k1 vz O), ↓bnd (i1 Mz k1 vz O), show b2i false = 0 from rfl]
          · simp only [f_X7_readSum_l5, ↓b_rdM, ↓bnd (g2 Cz k1 k2 k3 O), ↓bnd (i2 Cz k1 k2 k3 O), show b2i false = 0 from rfl, ↓reduceIte]
  · right
    refine ⟨C1, M1, fl, pl, fun Mz k1 vz O => ?_, fun Cz k1 k2 k3 O => ?_, a3, a4, a5⟩
    · simp only [f_X4_readSum, ↓b_rdC, ↓bnd (a1 Mz k1 vz O), ↓reduceIte]
    · have A := it1 (body := fun s => f_X7_readSum_l5 N rf' 71 (nI q) s) (sumL_d (N := N) (rf' := rf') (x := nI q) (vl := vl) (FLT_ne a3) Cz k1 k2 k3 O) hN
      simp only [f_X7_readSum, f_X7_readSum_b5, ↓b_rdM, ↓bnd (a2 Cz k1 k2 k3 O), A, Option.bind_some]
end S78
