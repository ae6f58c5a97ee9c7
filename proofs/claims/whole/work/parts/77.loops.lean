/-! expressions: frames, outcomes, loops -/
abbrev X4T : Type := ST → Nat → Nat → (Nat → Int64) → Option (Int32 × AH)
abbrev X7T : Type := ST → Nat → Nat → Nat → (Nat → Int64) → Option AH
def OUT (n : Nat) (tx : Nat → Nat) (g w wi vl f : Nat) (C M : ST) (d m p : Nat) (x4 : X4T) (x7 : X7T) : Prop := (∃ C' M' p' e' k' m' F', (∀ (Mz : ST) (k1 vz : Nat) (O : Nat → Int64), x4 Mz k1 vz O = some (1, (HP C' Mz (k1, g, 1, vz) O))) ∧ (∀ (Cz : ST) (k1 k2 k3 : Nat) (O : Nat → Int64), x7 Cz k1 k2 k3 O = some (HP Cz M' (k1, k2, k3, vl) O)) ∧ PS n tx g w wi vl f C' M' p' e' k' m' F' (d + 1) ∧ m' + p ≤ m + p' ∧ p < p' ∧ FRc g f C C' ∧ FRm w wi M M') ∨ (∃ C' M' fl pl, (∀ (Mz : ST) (k1 vz : Nat) (O : Nat → Int64), x4 Mz k1 vz O = some (0, (HP C' Mz (k1, g, 1, vz) O))) ∧ (∀ (Cz : ST) (k1 k2 k3 : Nat) (O : Nat → Int64), x7 Cz k1 k2 k3 O = some (HP Cz M' (k1, k2, k3, vl) O)) ∧ FLT C' M' fl pl ∧ FRc g f C C' ∧ FRm w wi M M')
def TFc (C C' : ST) : Prop := (∀ x, x ≠ 2 → C' x = C x) ∧ ∀ k, k = 3 ∨ 10 < k → C' 2 k = C 2 k
def TFm (M M' : ST) : Prop := (∀ x, x ≠ 71 → M' x = M x) ∧ ∀ k, k < 18 ∨ k = 19 ∨ 25 < k → M' 71 k = M 71 k
def vixB (b0 b1 b2 b3 b4 b5 : Bool) : Int32 := if b0 = true then 0 else if b1 = true then 1 else if b2 = true then 2 else if b3 = true then 3 else if b4 = true then 4 else if b5 = true then 5 else -1
theorem vchain {h : AH} (b0 b1 b2 b3 b4 b5 : Bool) : (if b2i b0 = 0 then if b2i b1 = 0 then if b2i b2 = 0 then if b2i b3 = 0 then if b2i b4 = 0 then if b2i b5 = 0 then some ((-1 : Int32), h) else some (5, h) else some (4, h) else some (3, h) else some (2, h) else some (1, h) else some (0, h)) = some (vixB b0 b1 b2 b3 b4 b5, h) := by
  cases b0
  · cases b1
    · cases b2
      · cases b3
        · cases b4
          · cases b5 <;> rfl
          · rfl
        · rfl
      · rfl
    · rfl
  · rfl
def opC (N g : Nat) (sc : AH → Option (Int32 × AH)) (oc : Int32) (i : Int32) (h : AH) : Option ((Int32 × AH) ⊕ ((AH) ⊕ (AH))) :=
  (jck 4 h 2).bind fun _ =>
  (f_X4_next N h 2).bind fun r1 =>
  (jck 4 r1 2).bind fun _ =>
  (sc r1).bind fun r5 =>
  if r5.1 = 0 then some (.inr (.inl r5.2))
  else (jgr 4 r5.2 2 4).bind fun x10 =>
  (jck 1 r5.2 x10).bind fun _ =>
  (f_X1_emit N r5.2 x10 oc 0).bind fun r12 =>
  some (.inl ((i + 1, r12)))
def opM (N : Nat) (sm : AH → Option AH) (om : Int32) (h : AH) : Option ((AH) ⊕ ((AH))) :=
  (jck 7 h 71).bind fun _ =>
  (f_X7_stepOn N h 71).bind fun r1 =>
  (jck 7 r1 71).bind fun _ =>
  (sm r1).bind fun r5 =>
  (jck 7 r5 71).bind fun _ =>
  (f_X7_lay N r5 71 om).bind fun r9 =>
  some (.inl r9)
section S77
variable {C C' C'' M M' M'' : ST} {N n g vl p e k m f w wi d D q : Nat} {tx : Nat → Nat} {F : Nat → RI}
theorem TFc_s2 {p e k d v : Int32} : TFc C (s2 C p e k d v) := ⟨fun x hx => s2_o hx, fun k hk => s2_k (by omega)⟩
theorem TFc_s2' {u p e k d v : Int32} : TFc C (s2 (up C 2 10 u) p e k d v) := ⟨fun x hx => by rw [s2_o hx, up_o hx], fun k hk => by rw [s2_k (by omega), up_s, upd_o (by omega)]⟩
theorem TFm_m7 {a t x b s : Int32} : TFm M (m7 M a t x b s) := ⟨fun x hx => m7_o hx, fun k hk => m7_k (by omega)⟩
theorem TFc_FRc (hg : gok g) (h : TFc C C') : FRc g f C C' := ⟨fun x a _ _ => h.1 x a, fun k _ => by rw [h.1 g (by rcases hg with rfl | rfl <;> decide)], fun k hk => h.2 k hk, fun i _ => by rw [h.1 (g + 7) (by rcases hg with rfl | rfl <;> decide)]⟩
theorem TFm_FRm (hw : w = 82 ∨ w = 83) (h : TFm M M') : FRm w wi M M' := ⟨fun x a _ _ => h.1 x a, fun k _ => by rw [h.1 75 (by decide)], fun k hk => h.2 k hk, fun i _ => by rw [h.1 w (by rcases hw with rfl | rfl <;> decide)]⟩
theorem PS_tf {p' e' k' : Nat} (hg : gok g) (hP : PS n tx g w wi vl f C M p e k m F d) (hK : TK n tx C' M' p' e' k') (hp : p ≤ p') (hc : TFc C C') (hm : TFm M M') : PS n tx g w wi vl f C' M' p' e' k' m F d := by
  obtain ⟨_, ⟨s1, s2, s3, s4⟩, hwf, hdp, hfp, hmd⟩ := hP
  have hw := MD_w hmd
  refine ⟨hK, ⟨s1, by rw [hc.1 g (by rcases hg with rfl | rfl <;> decide)]; exact s2, by rw [hm.1 75 (by decide)]; exact s3, fun i hi => ?_⟩, hwf, hdp, by omega, MD_fr hmd (TFc_FRc (f := f) hg hc) (TFm_FRm hw hm)⟩
  rw [hc.1 (g + 7) (by rcases hg with rfl | rfl <;> decide), hm.1 w (by rcases hw with rfl | rfl <;> decide)]
  exact s4 i hi
theorem TK_next (hK : TK n tx C M p e k) (hN : 1000 ≤ N) : ∃ (p' e' k' : Nat) (C' M' : ST), e ≤ p' ∧ (∀ (Mz : ST) (k1 vz : Nat) (O : Nat → Int64), f_X4_next N (HP C Mz (k1, g, 1, vz) O) 2 = some (HP C' Mz (k1, g, 1, vz) O)) ∧ (∀ (Cz : ST) (k1 k2 k3 : Nat) (O : Nat → Int64), f_X7_stepOn N (HP Cz M (k1, k2, k3, vl) O) 71 = some (HP Cz M' (k1, k2, k3, vl) O)) ∧ TK n tx C' M' p' e' k' ∧ TFc C C' ∧ TFm M M' := by
  obtain ⟨p', e', k', d, v, x, h1, h2, h3, h4⟩ := next_b (g := g) (vl := vl) hK.1 hK.2.2.1.2.1 hK.2.2.2.1.2.1 hK.2.2.2.2.2.1 hK.2.1 hN
  exact ⟨p', e', k', _, _, h1, h2, h3, h4, TFc_s2, TFm_m7⟩
theorem PS_700 (hP : PS n tx g w wi vl f C M p e k m F d) : p ≤ 700 := (TK_p hP.1).1
set_option maxHeartbeats 4000000 in
theorem op_b (hg : gok g) {sc : AH → Option (Int32 × AH)} {sm : AH → Option AH} (hsub : ∀ C M p e k m F, PS n tx g w wi vl f C M p e k m F D → OUT n tx g w wi vl f C M D m p (fun Mz k1 vz O => sc (HP C Mz (k1, g, 1, vz) O)) (fun Cz k1 k2 k3 O => sm (HP Cz M (k1, k2, k3, vl) O))) {oc om : Int32} (ho : bin2 om oc) (hD : 1 ≤ D) (hD2 : D ≤ 40) (hP : PS n tx g w wi vl f C M p e k m F D) (hk : k ≠ 0) {i : Nat} (hN : 1000 ≤ N) : (∃ C' M' p' e' k' m' F', (∀ (Mz : ST) (k1 vz : Nat) (O : Nat → Int64), opC N g sc oc (nI i) (HP C Mz (k1, g, 1, vz) O) = some (.inl (nI (i + 1), (HP C' Mz (k1, g, 1, vz) O)))) ∧ (∀ (Cz : ST) (k1 k2 k3 : Nat) (O : Nat → Int64), opM N sm om (HP Cz M (k1, k2, k3, vl) O) = some (.inl (HP Cz M' (k1, k2, k3, vl) O))) ∧ PS n tx g w wi vl f C' M' p' e' k' m' F' D ∧ m' + p ≤ m + p' ∧ p < p' ∧ FRc g f C C' ∧ FRm w wi M M') ∨ (∃ C' M' fl pl, (∀ (Mz : ST) (k1 vz : Nat) (O : Nat → Int64), opC N g sc oc (nI i) (HP C Mz (k1, g, 1, vz) O) = some (.inr (.inl (HP C' Mz (k1, g, 1, vz) O)))) ∧ (∀ (Cz : ST) (k1 k2 k3 : Nat) (O : Nat → Int64), opM N sm om (HP Cz M (k1, k2, k3, vl) O) = some (.inl (HP Cz M' (k1, k2, k3, vl) O))) ∧ FLT C' M' fl pl ∧ FRc g f C C' ∧ FRm w wi M M') := by
  have hw := MD_w hP.2.2.2.2.2
  have pe := hP.1.2.2.2.2.2.2.1 hk
  obtain ⟨p1, e1, k1', C1, M1, n1, n2, n3, n4, n5, n6⟩ := TK_next (g := g) (vl := vl) hP.1 hN
  have P1 := PS_tf hg hP n4 (by omega) n5 n6
  have c1 := TFc_FRc (f := f) hg n5
  have m1 := TFm_FRm (wi := wi) hw n6
  rcases hsub C1 M1 p1 e1 k1' m F P1 with ⟨C2, M2, p2, e2, k2', m2, F2, a1, a2, P2, a3, a4, a5, a6⟩ | ⟨C2, M2, fl, pl, a1, a2, a3, a4, a5⟩
  · left
    have h7 := PS_700 P2
    have fp := hP.2.2.2.2.1
    have e0 : oc = -18 - om ∧ om = -18 - oc ∧ (0 : Int32) * 16 + oc = oc := by
      rcases ho with ⟨rfl, rfl⟩ | ⟨rfl, rfl⟩ | ⟨rfl, rfl⟩ | ⟨rfl, rfl⟩ | ⟨rfl, rfl⟩ | ⟨rfl, rfl⟩ | ⟨rfl, rfl⟩ | ⟨rfl, rfl⟩ <;> decide
    obtain ⟨C3, M3, F3, b1, b2, b3, b4, b5, b6, b7, b8, b9⟩ := em_b (N := N) hg P2 (by omega) (.inr (.inr (.inr oc))) ⟨by rw [← e0.2.1]; exact ho, by omega, by omega⟩ (op := oc) (ar := 0) (s := om) e0.2.2 e0.2.1
    refine ⟨C3, M3, p2, e2, k2', m2 + 1, F3, fun Mz k1 vz O => ?_, fun Cz k1 k2 k3 O => ?_, ⟨b3, b4, b5, b6, by omega, b7⟩, by omega, by omega, FRc_trans c1 (FRc_trans a5 b8), FRm_trans m1 (FRm_trans a6 b9)⟩
    · simp only [opC, ↓b_rdC, ↓bnd (n2 Mz k1 vz O), ↓bnd (a1 Mz k1 vz O), show ¬ (1 : Int32) = 0 by decide, ↓reduceIte, ↓b_rG hg, ↓bnd (b1 Mz k1 vz O), nI_1]
    · simp only [opM, ↓b_rdM, ↓bnd (n3 Cz k1 k2 k3 O), ↓bnd (a2 Cz k1 k2 k3 O), ↓bnd (b2 Cz k1 k2 k3 O)]
  · right
    refine ⟨C2, M2, fl, pl, fun Mz k1 vz O => ?_, fun Cz k1 k2 k3 O => ?_, a3, FRc_trans c1 a4, FRm_trans m1 a5⟩
    · simp only [opC, ↓b_rdC, ↓bnd (n2 Mz k1 vz O), ↓bnd (a1 Mz k1 vz O), ↓reduceIte]
    · simp only [opM, ↓b_rdM, ↓bnd (n3 Cz k1 k2 k3 O), ↓bnd (a2 Cz k1 k2 k3 O), ↓bnd (lay_d (N := N) (vl := vl) (FLT_ne a3) Cz k1 k2 k3 O)]
theorem loop_b {bC : Int32 × AH → Option ((Int32 × AH) ⊕ (AH ⊕ AH))} {bM : AH → Option (AH ⊕ AH)} (hdead : ∀ M, ¬ M 71 24 = 0 → ∀ (Cz : ST) (k1 k2 k3 : Nat) (O : Nat → Int64), bM (HP Cz M (k1, k2, k3, vl) O) = some (.inr (HP Cz M (k1, k2, k3, vl) O))) (H : ∀ C M p e k m F i, PS n tx g w wi vl f C M p e k m F D → i ≤ p → ((∀ (Mz : ST) (k1 vz : Nat) (O : Nat → Int64), bC (nI i, (HP C Mz (k1, g, 1, vz) O)) = some (.inr (.inr (HP C Mz (k1, g, 1, vz) O)))) ∧ (∀ (Cz : ST) (k1 k2 k3 : Nat) (O : Nat → Int64), bM (HP Cz M (k1, k2, k3, vl) O) = some (.inr (HP Cz M (k1, k2, k3, vl) O)))) ∨ (∃ C' M' p' e' k' m' F', (∀ (Mz : ST) (k1 vz : Nat) (O : Nat → Int64), bC (nI i, (HP C Mz (k1, g, 1, vz) O)) = some (.inl (nI (i + 1), (HP C' Mz (k1, g, 1, vz) O)))) ∧ (∀ (Cz : ST) (k1 k2 k3 : Nat) (O : Nat → Int64), bM (HP Cz M (k1, k2, k3, vl) O) = some (.inl (HP Cz M' (k1, k2, k3, vl) O))) ∧ PS n tx g w wi vl f C' M' p' e' k' m' F' D ∧ m' + p ≤ m + p' ∧ p < p' ∧ FRc g f C C' ∧ FRm w wi M M') ∨ (∃ C' M' fl pl, (∀ (Mz : ST) (k1 vz : Nat) (O : Nat → Int64), bC (nI i, (HP C Mz (k1, g, 1, vz) O)) = some (.inr (.inl (HP C' Mz (k1, g, 1, vz) O)))) ∧ (∀ (Cz : ST) (k1 k2 k3 : Nat) (O : Nat → Int64), bM (HP Cz M (k1, k2, k3, vl) O) = some (.inl (HP Cz M' (k1, k2, k3, vl) O))) ∧ FLT C' M' fl pl ∧ FRc g f C C' ∧ FRm w wi M M')) : ∀ r C M p e k m F i, PS n tx g w wi vl f C M p e k m F D → n - p ≤ r → i ≤ p → ∀ Nc Nm, r + 3 ≤ Nc → r + 3 ≤ Nm → (∃ C' M' p' e' k' m' F', (∀ (Mz : ST) (k1 vz : Nat) (O : Nat → Int64), itr bC Nc (nI i, (HP C Mz (k1, g, 1, vz) O)) = some (.inr (HP C' Mz (k1, g, 1, vz) O))) ∧ (∀ (Cz : ST) (k1 k2 k3 : Nat) (O : Nat → Int64), itr bM Nm (HP Cz M (k1, k2, k3, vl) O) = some (HP Cz M' (k1, k2, k3, vl) O)) ∧ PS n tx g w wi vl f C' M' p' e' k' m' F' D ∧ m' + p ≤ m + p' ∧ p ≤ p' ∧ FRc g f C C' ∧ FRm w wi M M') ∨ (∃ C' M' fl pl, (∀ (Mz : ST) (k1 vz : Nat) (O : Nat → Int64), itr bC Nc (nI i, (HP C Mz (k1, g, 1, vz) O)) = some (.inl (HP C' Mz (k1, g, 1, vz) O))) ∧ (∀ (Cz : ST) (k1 k2 k3 : Nat) (O : Nat → Int64), itr bM Nm (HP Cz M (k1, k2, k3, vl) O) = some (HP Cz M' (k1, k2, k3, vl) O)) ∧ FLT C' M' fl pl ∧ FRc g f C C' ∧ FRm w wi M M') := by
  intro r
  induction r with
  | zero =>
    intro C M p e k m F i hP hr hi Nc Nm hc hm
    obtain ⟨Nc, rfl⟩ : ∃ x, Nc = x + 1 := ⟨Nc - 1, by omega⟩
    obtain ⟨Nm, rfl⟩ : ∃ x, Nm = x + 2 := ⟨Nm - 2, by omega⟩
    rcases H C M p e k m F i hP hi with ⟨h1, h2⟩ | ⟨C', M', p', e', k', m', F', h1, h2, h3, h4, h5, h6, h7⟩ | ⟨C', M', fl, pl, h1, h2, h3, h4, h5⟩
    · exact .inl ⟨C, M, p, e, k, m, F, fun Mz k1 vz O => itr_r (h1 Mz k1 vz O) Nc, fun Cz k1 k2 k3 O => itr_r (h2 Cz k1 k2 k3 O) (Nm + 1), hP, by omega, by omega, FRc_refl, FRm_refl⟩
    · exfalso
      have a := h3.1.2.2.2.2.1
      have b := h3.1.2.2.2.2.2.1
      omega
    · refine .inr ⟨C', M', fl, pl, fun Mz k1 vz O => itr_r (h1 Mz k1 vz O) Nc, fun Cz k1 k2 k3 O => ?_, h3, h4, h5⟩
      rw [itr_l (h2 Cz k1 k2 k3 O)]
      exact itr_r (hdead M' (FLT_ne h3) Cz k1 k2 k3 O) Nm
  | succ r ih =>
    intro C M p e k m F i hP hr hi Nc Nm hc hm
    obtain ⟨Nc, rfl⟩ : ∃ x, Nc = x + 1 := ⟨Nc - 1, by omega⟩
    obtain ⟨Nm, rfl⟩ : ∃ x, Nm = x + 2 := ⟨Nm - 2, by omega⟩
    rcases H C M p e k m F i hP hi with ⟨h1, h2⟩ | ⟨C', M', p', e', k', m', F', h1, h2, h3, h4, h5, h6, h7⟩ | ⟨C', M', fl, pl, h1, h2, h3, h4, h5⟩
    · exact .inl ⟨C, M, p, e, k, m, F, fun Mz k1 vz O => itr_r (h1 Mz k1 vz O) Nc, fun Cz k1 k2 k3 O => itr_r (h2 Cz k1 k2 k3 O) (Nm + 1), hP, by omega, by omega, FRc_refl, FRm_refl⟩
    · rcases ih C' M' p' e' k' m' F' (i + 1) h3 (by omega) (by omega) Nc (Nm + 1) (by omega) (by omega) with ⟨C2, M2, p2, e2, k2', m2, F2, a1, a2, a3, a4, a5, a6, a7⟩ | ⟨C2, M2, fl, pl, a1, a2, a3, a4, a5⟩
      · refine .inl ⟨C2, M2, p2, e2, k2', m2, F2, fun Mz k1 vz O => ?_, fun Cz k1 k2 k3 O => ?_, a3, by omega, by omega, FRc_trans h6 a6, FRm_trans h7 a7⟩
        · rw [itr_l (h1 Mz k1 vz O)]; exact a1 Mz k1 vz O
        · rw [itr_l (h2 Cz k1 k2 k3 O)]; exact a2 Cz k1 k2 k3 O
      · refine .inr ⟨C2, M2, fl, pl, fun Mz k1 vz O => ?_, fun Cz k1 k2 k3 O => ?_, a3, FRc_trans h6 a4, FRm_trans h7 a5⟩
        · rw [itr_l (h1 Mz k1 vz O)]; exact a1 Mz k1 vz O
        · rw [itr_l (h2 Cz k1 k2 k3 O)]; exact a2 Cz k1 k2 k3 O
    · refine .inr ⟨C', M', fl, pl, fun Mz k1 vz O => itr_r (h1 Mz k1 vz O) Nc, fun Cz k1 k2 k3 O => ?_, h3, h4, h5⟩
      rw [itr_l (h2 Cz k1 k2 k3 O)]
      exact itr_r (hdead M' (FLT_ne h3) Cz k1 k2 k3 O) Nm
/-! value words of both modes -/
def Wv (vl i : Nat) : List Nat := if vl = 73 then W_t i else W_g i
set_option maxHeartbeats 4000000 in
theorem vw_c (hK : TK n tx C M p e k) (hd : MD w wi vl C M) (hN : 1000 ≤ N) : ∀ (Mz : ST) (k1 vz : Nat) (O : Nat → Int64), f_X4_valueWord N (HP C Mz (k1, g, 1, vz) O) 2 = some (vixf (fun i => wm tx p e k (Wv vl i)), (HP C Mz (k1, g, 1, vz) O)) := by
  intro Mz k1 vz O
  have q0 := isWord_c (N := N) (g := g) hK ws_1000007 (by decide) (by decide) hN Mz k1 vz O
  have q1 := isWord_c (N := N) (g := g) hK ws_1000008 (by decide) (by decide) hN Mz k1 vz O
  have q2 := isWord_c (N := N) (g := g) hK ws_1000009 (by decide) (by decide) hN Mz k1 vz O
  have q3 := isWord_c (N := N) (g := g) hK ws_1000010 (by decide) (by decide) hN Mz k1 vz O
  have q4 := isWord_c (N := N) (g := g) hK ws_1000011 (by decide) (by decide) hN Mz k1 vz O
  have q5 := isWord_c (N := N) (g := g) hK ws_1000012 (by decide) (by decide) hN Mz k1 vz O
  have q6 := isWord_c (N := N) (g := g) hK ws_1000013 (by decide) (by decide) hN Mz k1 vz O
  rcases hd with ⟨_, _, rfl, _, h12⟩ | ⟨_, _, rfl, _, h12⟩
  · refine Eq.trans ?_ (vchain (wm tx p e k w_lean) (wm tx p e k w_seen) (wm tx p e k w_faces) (wm tx p e k w_here) (wm tx p e k w_step) (wm tx p e k w_spin))
    simp only [f_X4_valueWord, f_X4_valueWord_b70, ↓b_rdC, ↓bnd q0, ↓bnd q1, ↓bnd q2, ↓bnd q3, ↓bnd q4, ↓bnd q5, h12, show ¬ (1 : Int32) = 0 by decide, ↓reduceIte]
  · refine Eq.trans ?_ (vchain (wm tx p e k w_lean) (wm tx p e k w_seen) (wm tx p e k w_faces) (wm tx p e k w_here) (wm tx p e k w_step) (wm tx p e k w_flow))
    simp only [f_X4_valueWord, f_X4_valueWord_b70, ↓b_rdC, ↓bnd q0, ↓bnd q1, ↓bnd q2, ↓bnd q3, ↓bnd q4, ↓bnd q6, h12, ↓reduceIte]
theorem ws_t : ∀ i, i < 6 → WS (1000026 + i) (W_t i) ∧ (W_t i).length ≤ 10 ∧ ∀ j, j < (W_t i).length → (W_t i).getD j 0 < 128 := by unfold WS; decide +kernel
theorem ws_g : ∀ i, i < 6 → WS (if i < 5 then 1000026 + i else 1000032) (W_g i) ∧ (W_g i).length ≤ 10 ∧ ∀ j, j < (W_g i).length → (W_g i).getD j 0 < 128 := by unfold WS; decide +kernel
theorem ar_t : ∀ i, i < 6 → strA [1000026, 1000027, 1000028, 1000029, 1000030, 1000031] i = some (1000026 + i) := by decide +kernel
theorem ar_g : ∀ i, i < 6 → strA [1000026, 1000027, 1000028, 1000029, 1000030, 1000032] i = some (if i < 5 then 1000026 + i else 1000032) := by decide +kernel
theorem vix_y {Q : Nat → Bool} {i : Nat} (hi : i < 6) (h1 : ∀ j, j < i → Q j = false) (h2 : Q i = true) : vixf Q = nI i := by
  rcases (show i = 0 ∨ i = 1 ∨ i = 2 ∨ i = 3 ∨ i = 4 ∨ i = 5 by omega) with rfl | rfl | rfl | rfl | rfl | rfl
  · simp only [vixf, h2, ↓reduceIte]; rfl
  · simp only [vixf, h1 0 (by decide), h2, Bool.false_eq_true, ↓reduceIte]; rfl
  · simp only [vixf, h1 0 (by decide), h1 1 (by decide), h2, Bool.false_eq_true, ↓reduceIte]; rfl
  · simp only [vixf, h1 0 (by decide), h1 1 (by decide), h1 2 (by decide), h2, Bool.false_eq_true, ↓reduceIte]; rfl
  · simp only [vixf, h1 0 (by decide), h1 1 (by decide), h1 2 (by decide), h1 3 (by decide), h2, Bool.false_eq_true, ↓reduceIte]; rfl
  · simp only [vixf, h1 0 (by decide), h1 1 (by decide), h1 2 (by decide), h1 3 (by decide), h1 4 (by decide), h2, Bool.false_eq_true, ↓reduceIte]; rfl
theorem vix_n {Q : Nat → Bool} (h1 : ∀ j, j < 6 → Q j = false) : vixf Q = -1 := by
  simp only [vixf, h1 0 (by decide), h1 1 (by decide), h1 2 (by decide), h1 3 (by decide), h1 4 (by decide), h1 5 (by decide), Bool.false_eq_true, ↓reduceIte]
theorem vw_m (hK : TK n tx C M p e k) (hd : MD w wi vl C M) (hN : 1000 ≤ N) : ∀ (Cz : ST) (k1 k2 k3 : Nat) (O : Nat → Int64), f_X7_which N (HP Cz M (k1, k2, k3, vl) O) 71 vl = some (vixf (fun i => wm tx p e k (Wv vl i)), (HP Cz M (k1, k2, k3, vl) O)) := by
  intro Cz k1 k2 k3 O
  rcases hd with ⟨_, _, rfl, _, _⟩ | ⟨_, _, rfl, _, _⟩
  · rcases which_m (N := N) (vl := 73) (va := 73) (L := 6) (sa := fun i => 1000026 + i) (W := W_t) hK (fun Cz k1 k2 k3 O => by simp only [lnH]) (fun Cz k1 k2 k3 O i hi => ar_H (l := [1000026, 1000027, 1000028, 1000029, 1000030, 1000031]) rfl hi (by decide) (ar_t i hi)) ws_t (by decide) hN Cz k1 k2 k3 O with ⟨i, h1, h2, h3, h4⟩ | ⟨h1, h2⟩
    · rw [h4, vix_y (Q := fun i => wm tx p e k (Wv 73 i)) h1 h2 h3]
    · rw [h2, vix_n (Q := fun i => wm tx p e k (Wv 73 i)) h1]
  · rcases which_m (N := N) (vl := 74) (va := 74) (L := 6) (sa := fun i => if i < 5 then 1000026 + i else 1000032) (W := W_g) hK (fun Cz k1 k2 k3 O => by simp only [lnH]) (fun Cz k1 k2 k3 O i hi => ar_H (l := [1000026, 1000027, 1000028, 1000029, 1000030, 1000032]) rfl hi (by decide) (ar_g i hi)) ws_g (by decide) hN Cz k1 k2 k3 O with ⟨i, h1, h2, h3, h4⟩ | ⟨h1, h2⟩
    · rw [h4, vix_y (Q := fun i => wm tx p e k (Wv 74 i)) h1 h2 h3]
    · rw [h2, vix_n (Q := fun i => wm tx p e k (Wv 74 i)) h1]
theorem vix_c (Q : Nat → Bool) : vixf Q = -1 ∨ ∃ i, i < 6 ∧ vixf Q = nI i := by
  unfold vixf
  repeat' split
  · exact .inr ⟨0, by decide, rfl⟩
  · exact .inr ⟨1, by decide, rfl⟩
  · exact .inr ⟨2, by decide, rfl⟩
  · exact .inr ⟨3, by decide, rfl⟩
  · exact .inr ⟨4, by decide, rfl⟩
  · exact .inr ⟨5, by decide, rfl⟩
  · exact .inl rfl
end S77
