/-! judges -/
section S83
variable {C C' C'' M M' M'' : ST} {N n g vl p e k s r j : Nat} {tx : Nat → Nat} {b bS bT bG : Bool}
theorem vz_t : ∀ t, t < 2 → vp_nar .boolean (nI t) = nI t := by decide +kernel
set_option maxHeartbeats 4000000 in
theorem numJ (hK : TK n tx C M p e k) (hs : M 75 5 = nI s) (hs2 : 2 ≤ s) (hs8 : s ≤ 8) {v2 : Int32} (hN : 1000 ≤ N) : (∃ (v p' e' k' : Nat) (C' M' : ST), v < s ∧ p < p' ∧ (∀ (Mz : ST) (k1 vz : Nat) (O : Nat → Int64), f_X4_readNumber N (HP C Mz (k1, g, 1, vz) O) 2 0 (nI s - 1) 3 = some (1, (HP C' Mz (k1, g, 1, vz) O))) ∧ (∀ (Cz : ST) (k1 k2 k3 : Nat) (O : Nat → Int64), ((f_X7_numberNow N (HP Cz M (k1, k2, k3, vl) O) 71 0 9999).bind fun r47 => (jgi 7 r47.2 71 24).bind fun x51 => if x51 = 0 then (jgr 7 r47.2 71 5).bind fun x54 => (jal 0 r47.2 x54 5).bind fun x56 => if r47.1 < x56 then f_X7_sayJudge_b60 N 71 v2 r47.1 r47.2 else (jck 7 r47.2 71).bind fun _ => (f_X7_wrong N r47.2 71 3).bind fun r59 => f_X7_sayJudge_b60 N 71 v2 r47.1 r59 else f_X7_sayJudge_b60 N 71 v2 r47.1 r47.2) = f_X7_sayJudge_b71 N 71 v2 (nI v) (HP Cz M' (k1, k2, k3, vl) O)) ∧ TK n tx C' M' p' e' k' ∧ C' 2 10 = nI v ∧ TFc C C' ∧ TFm M M') ∨ (∃ C' M' fl y, (∀ (Mz : ST) (k1 vz : Nat) (O : Nat → Int64), f_X4_readNumber N (HP C Mz (k1, g, 1, vz) O) 2 0 (nI s - 1) 3 = some (0, (HP C' Mz (k1, g, 1, vz) O))) ∧ (∀ (Cz : ST) (k1 k2 k3 : Nat) (O : Nat → Int64), ((f_X7_numberNow N (HP Cz M (k1, k2, k3, vl) O) 71 0 9999).bind fun r47 => (jgi 7 r47.2 71 24).bind fun x51 => if x51 = 0 then (jgr 7 r47.2 71 5).bind fun x54 => (jal 0 r47.2 x54 5).bind fun x56 => if r47.1 < x56 then f_X7_sayJudge_b60 N 71 v2 r47.1 r47.2 else (jck 7 r47.2 71).bind fun _ => (f_X7_wrong N r47.2 71 3).bind fun r59 => f_X7_sayJudge_b60 N 71 v2 r47.1 r59 else f_X7_sayJudge_b60 N 71 v2 r47.1 r47.2) = f_X7_sayJudge_b71 N 71 v2 y (HP Cz M' (k1, k2, k3, vl) O)) ∧ FLT C' M' fl p ∧ LFc g C C' ∧ LFm M M') := by
  have hK0 := hK
  obtain ⟨hT, hz, ⟨c5, c6, c7⟩, ⟨d5, d6, d6', d7⟩, pe, en, hk, k4, h2⟩ := hK
  have h700 := TK_p hK0
  have kk1 : nI 1 = 1 := rfl
  have kk2 : nI 2 = 2 := rfl
  have es1 : nI s - 1 = nI (s - 1) := by
    have := nI_pred (s - 1)
    rw [show s - 1 + 1 = s by omega] at this
    exact this
  by_cases z : k = 2
  · obtain ⟨h8, h9⟩ := h2 z
    have pe' := hk (by omega)
    have es : nI e - nI p = nI (e - p) := subI pe
    by_cases z4 : e - p ≤ 4
    · obtain ⟨v, v1, v2', v3⟩ := h9 z4
      have l4 : nI (e - p) ≤ 4 := nI_le (b := 4) z4 (by decide)
      have l4' : ¬ (4 : Int32) < nI (e - p) := nI_nlt (a := 4) z4 (by decide)
      have y1 : ¬ nI v < 0 := nI_pos (by omega)
      have y9 : nI v ≤ 9999 := nI_le (b := 9999) v1 (by decide)
      by_cases y : v < s
      · left
        have y2 : nI v ≤ nI (s - 1) := nI_le (by omega) (by omega)
        have y3 : nI v < nI s := nI_lt y (by omega)
        obtain ⟨p', e', k', d, yy, x, q1, q2, q3, q4⟩ := next_b (g := g) (vl := vl) (C := up C 2 10 (nI v)) (TXT_10 hT) (by rw [up_s, upd_o (by decide)]; exact c6) d6 en hz hN
        refine ⟨v, p', e', k', _, _, y, by omega, fun Mz k1 vz O => ?_, fun Cz k1 k2 k3 O => ?_, q4, by rw [s2_k (by decide), up_s, upd_s], TFc_s2', TFm_m7⟩
        · rw [es1]
          simp only [f_X4_readNumber, ↓b_rdC, c7, z, kk2, ↓reduceIte, h8, l4, v2', y1, y2, ↓b_wrC, ↓bnd (q2 Mz k1 vz O)]
        · simp only [f_X7_numberNow, f_X7_numberNow_b59, f_X7_sayJudge_b60, ↓b_rdM, hz, ↓reduceIte, d7, z, kk2, d6', d5, es, l4', v3, y1, y9, Option.bind_some, ↓b_rlM, hs, y3, ↓bnd (q3 Cz k1 k2 k3 O)]
      · right
        have y2 : ¬ nI v ≤ nI (s - 1) := nI_ge (by omega) (by omega)
        have y3 : ¬ nI v < nI s := nI_nlt (by omega) (by omega)
        have hf := FLT_t (fl := 3) (x := 3) hK0 (by decide) (by decide) rfl
        refine ⟨_, _, 3, nI v, fun Mz k1 vz O => ?_, fun Cz k1 k2 k3 O => ?_, hf, LFc_t, LFm_t⟩
        · rw [es1]
          simp only [f_X4_readNumber, f_X4_readNumber_b44, ↓b_rdC, c7, z, kk2, ↓reduceIte, h8, l4, v2', y1, y2, ↓bnd (refuse_t (N := N) (g := g) (x := 3) hK0 Mz k1 vz O), nb0]
        · simp only [f_X7_numberNow, f_X7_numberNow_b59, f_X7_sayJudge_b60, ↓b_rdM, hz, ↓reduceIte, d7, z, kk2, d6', d5, es, l4', v3, y1, y9, Option.bind_some, ↓b_rlM, hs, y3, ↓bnd (wrong_t (N := N) (vl := vl) (x := 3) hK0 Cz k1 k2 k3 O), FLT_ne hf]
    · right
      have l4 : ¬ nI (e - p) ≤ 4 := nI_ge (a := 4) (by omega) (by omega)
      have l4' : (4 : Int32) < nI (e - p) := nI_lt (a := 4) (by omega) (by omega)
      have hf := FLT_t (fl := 2) (x := 2) hK0 (by decide) (by decide) rfl
      refine ⟨_, _, 2, 0, fun Mz k1 vz O => ?_, fun Cz k1 k2 k3 O => ?_, hf, LFc_t, LFm_t⟩
      · simp only [f_X4_readNumber, ↓b_rdC, c7, z, kk2, ↓reduceIte, h8, l4, ↓bnd (refuse_t (N := N) (g := g) (x := 2) hK0 Mz k1 vz O), nb0]
      · simp only [f_X7_numberNow, f_X7_numberNow_b54, f_X7_numberNow_b59, f_X7_sayJudge_b60, ↓b_rdM, hz, ↓reduceIte, d7, z, kk2, d6', d5, es, l4', ↓bnd (wrong_t (N := N) (vl := vl) (x := 2) hK0 Cz k1 k2 k3 O), FLT_ne hf, Option.bind_some]
  · right
    have z' : ¬ nI k = 2 := fun q => z ((eq_nI (a := k) (b := 2) (by omega) (by omega)).mp q)
    have hf := FLT_t (fl := 1) (x := 1) hK0 (by decide) (by decide) rfl
    refine ⟨_, _, 1, 0, fun Mz k1 vz O => ?_, fun Cz k1 k2 k3 O => ?_, hf, LFc_t, LFm_t⟩
    · simp only [f_X4_readNumber, ↓b_rdC, c7, z', ↓reduceIte, ↓bnd (refuse_t (N := N) (g := g) (x := 1) hK0 Mz k1 vz O), nb0]
    · simp only [f_X7_numberNow, f_X7_numberNow_b59, f_X7_sayJudge_b60, ↓b_rdM, hz, ↓reduceIte, d7, z', ↓bnd (wrong_t (N := N) (vl := vl) (x := 1) hK0 Cz k1 k2 k3 O), FLT_ne hf, Option.bind_some]
/-- the rest of a judge's line behind a fault -/
theorem b71_d (hz : ¬ M 71 24 = 0) {i : Nat} (h8 : 8 ≤ i) (hi : i < 16) {y : Int32} : ∃ M', (∀ (Cz : ST) (k1 k2 k3 : Nat) (O : Nat → Int64), f_X7_sayJudge_b71 N 71 (nI i) y (HP Cz M (k1, k2, k3, vl) O) = some (HP Cz M' (k1, k2, k3, vl) O)) ∧ M' 71 = M 71 ∧ LFm M M' := by
  obtain ⟨M1, e1⟩ : ∃ M1, M1 = up M 79 i y := ⟨_, rfl⟩
  obtain ⟨M2, e2⟩ : ∃ M2, M2 = up M1 80 i 0 := ⟨_, rfl⟩
  obtain ⟨M3, e3⟩ : ∃ M3, M3 = up M2 81 i 0 := ⟨_, rfl⟩
  have z1 : ¬ M1 71 24 = 0 := by rw [e1, up_o (by decide)]; exact hz
  have z2 : ¬ M2 71 24 = 0 := by rw [e2, up_o (by decide)]; exact z1
  refine ⟨up M3 75 7 (M3 75 7 + 1), fun Cz k1 k2 k3 O => ?_, by rw [up_o (by decide), e3, up_o (by decide), e2, up_o (by decide), e1, up_o (by decide)], LFm_trans (LFm_ue e1 (by omega)) (LFm_trans (LFm_ue e2 (by omega)) (LFm_trans (LFm_ue e3 (by omega)) (LFm_up (by omega))))⟩
  simp only [f_X7_sayJudge_b71, ↓b_rdM, ↓b_waM, hi]
  rw [← e1]
  simp only [↓b_rdM, ↓bnd (num_d (N := N) (vl := vl) z1 Cz k1 k2 k3 O), ↓b_waM, hi]
  rw [← e2]
  simp only [↓b_rdM, ↓bnd (num_d (N := N) (vl := vl) z2 Cz k1 k2 k3 O), ↓b_waM, hi]
  rw [← e3]
  simp only [↓b_rdM, ↓b_rlM, ↓b_wlM]
set_option maxHeartbeats 4000000 in
theorem judge_b (hg : gok g) (hK : TK n tx C M p e 1) (hS : GS g C M p bS bT bG) {v1 v3 : Int32} {t : Nat} (ht : t < 2) (hN : 1000 ≤ N) : LO n tx g vl vl C M p bS bT bG (fun Mz k1 vz O => f_X4_readJudge N (HP C Mz (k1, g, 1, vz) O) 2 (nI t)) (fun Cz k1 k2 k3 O => (f_X7_sayJudge N (HP Cz M (k1, k2, k3, vl) O) 71 (nI t)).bind fun r19 => f_X7_readLine_b138 N 71 v1 v3 r19) (v1 ||| v3) := by
  have t1 : ¬ (1 : Int32) = 0 := by decide
  have pe := TK_1 hK
  have gn : g ≠ 2 ∧ g ≠ 1 ∧ ∀ i, i ≤ 7 → g + i ≠ 2 ∧ g + i ≠ 1 := by rcases hg with rfl | rfl <;> exact ⟨by decide, by decide, fun i hi => by omega⟩
  obtain ⟨s, r, j, s1, s2', s3, s4⟩ := hS
  obtain ⟨r1, r2, r3, r4⟩ := s3
  obtain ⟨i1, i2, i3, i4, i5⟩ := s1
  by_cases j8 : j = 8
  · right
    subst j8
    have hf := FLT_t (fl := 2) (x := 2) hK (by decide) (by decide) rfl
    refine ⟨_, _, 2, p, fun Mz k1 vz O => ?_, fun Cz k1 k2 k3 O => ?_, hf, LFc_t, LFm_t⟩
    · simp only [f_X4_readJudge, ↓b_rdC, ↓b_rG hg, r1, show ¬ nI 8 < 8 by decide, ↓reduceIte, ↓bnd (refuse_t (N := N) (g := g) (x := 2) hK Mz k1 vz O), nb0]
    · have hm3 : f_X7_sayJudge N (HP Cz M (k1, k2, k3, vl) O) 71 (nI t) = some (HP Cz (up (up M 71 24 2) 71 25 (nI p)) (k1, k2, k3, vl) O) := by
        simp only [f_X7_sayJudge, f_X7_another, f_X7_another_b17, ↓b_rdM, show (5 : Int32) + 2 = 7 by decide, ↓b_rlM, r2, show nI 8 = 8 from rfl, ↓reduceIte, ↓bnd (wrong_t (N := N) (vl := vl) (x := 2) hK Cz k1 k2 k3 O), FLT_ne hf, Option.bind_some]
      refine Eq.trans (bnd hm3 _ _) ?_
      exact b138_d (FLT_ne hf) Cz k1 k2 k3 O
  · have jl : j < 8 := by omega
    have j16 : 8 + j < 16 := by omega
    have c8 : nI j < 8 := nI_lt (b := 8) jl (by decide)
    have n8' : ¬ nI j = 8 := fun z => j8 ((eq_nI (a := j) (b := 8) (by omega) (by decide)).mp z)
    obtain ⟨p1, e1, k1', C1, M1, n1, n2, n3, n4, n5, n6⟩ := TK_next (g := g) (vl := vl) hK hN
    obtain ⟨M2, eM2⟩ : ∃ M2, M2 = up M1 78 (8 + j) (nI t) := ⟨_, rfl⟩
    have q75 : M1 75 7 = nI j := by rw [n6.1 75 (by decide)]; exact r2
    have x10 : C1 g 0 = nI s := by rw [n5.1 g gn.1]; exact i1
    have K2 : TK n tx C1 M2 p1 e1 k1' := TK_fr n4 rfl rfl (by rw [eM2, up_o (by decide)]) (by rw [eM2, up_o (by decide)])
    have h75 : M2 75 5 = nI s := by rw [eM2, up_o (by decide), n6.1 75 (by decide)]; exact i2
    have an : ∀ (Cz : ST) (k1 k2 k3 : Nat) (O : Nat → Int64), f_X7_another N (HP Cz M (k1, k2, k3, vl) O) 71 2 8 = some (1, (HP Cz M1 (k1, k2, k3, vl) O)) := fun Cz k1 k2 k3 O => by
      simp only [f_X7_another, f_X7_another_b17, ↓b_rdM, show (5 : Int32) + 2 = 7 by decide, ↓b_rlM, r2, n8', ↓reduceIte, hK.2.1, ↓bnd (n3 Cz k1 k2 k3 O)]
    have lm2 : LFm M M2 := LFm_trans (LFm_tf n6) (LFm_ue eM2 (by omega))
    rcases numJ (N := N) (g := g) (vl := vl) (v2 := nI (8 + j)) K2 h75 i3 i4 hN with ⟨v, p2, e2, k2', C2, M3, a2, a3, a4, a5, a6, a7, a8, a9⟩ | ⟨C2, M3, fl, y, a4, a5, a6, a7, a8⟩
    · have hmj : ∀ (Cz : ST) (k1 k2 k3 : Nat) (O : Nat → Int64), f_X7_sayJudge N (HP Cz M (k1, k2, k3, vl) O) 71 (nI t) = f_X7_sayJudge_b71 N 71 (nI (8 + j)) (nI v) (HP Cz M3 (k1, k2, k3, vl) O) := fun Cz k1 k2 k3 O => by
        simp only [f_X7_sayJudge, ↓b_rdM, ↓bnd (an Cz k1 k2 k3 O), t1, ↓reduceIte, ↓b_rlM, q75, n8, ↓b_waM, j16]
        rw [← eM2]
        exact a5 Cz k1 k2 k3 O
      obtain ⟨C3, eC3⟩ : ∃ C3, C3 = up C2 (g + 3) j (nI v) := ⟨_, rfl⟩
      obtain ⟨M4, eM4⟩ : ∃ M4, M4 = up M3 79 (8 + j) (nI v) := ⟨_, rfl⟩
      have K3 : TK n tx C3 M4 p2 e2 k2' := TK_fr a6 (by rw [eC3, up_o (Ne.symm (gn.2.2 3 (by decide)).1)]) (by rw [eC3, up_o (Ne.symm (gn.2.2 3 (by decide)).2)]) (by rw [eM4, up_o (by decide)]) (by rw [eM4, up_o (by decide)])
      have lc3 : LFc g C C3 := LFc_trans (LFc_tf n5) (LFc_trans (LFc_tf a8) (LFc_ue eC3 (.inr ⟨by omega, by omega⟩)))
      have lm4 : LFm M M4 := LFm_trans lm2 (LFm_trans (LFm_tf a9) (LFm_ue eM4 (by omega)))
      have f1 : ∀ (Mz : ST) (k1 vz : Nat) (O : Nat → Int64), f_X4_readJudge N (HP C Mz (k1, g, 1, vz) O) 2 (nI t) = ((f_X4_readNumber N (HP C3 Mz (k1, g, 1, vz) O) 2 0 9 2).bind fun r27 => if r27.1 = 0 then some (0, r27.2) else (jgr 4 r27.2 2 4).bind fun x32 => (jgr 1 r27.2 x32 6).bind fun x34 => (jgi 4 r27.2 2 10).bind fun x36 => (jas 0 r27.2 x34 (nI j) x36).bind fun h38 => (jck 4 h38 2).bind fun _ => (f_X4_readNumber N h38 2 0 20 2).bind fun r40 => if r40.1 = 0 then some (0, r40.2) else (jgr 4 r40.2 2 4).bind fun x45 => (jgr 1 r40.2 x45 7).bind fun x47 => (jgi 4 r40.2 2 10).bind fun x49 => (jas 0 r40.2 x47 (nI j) x49).bind fun h51 => (jgr 4 h51 2 4).bind fun x53 => (jgr 1 h51 x53 8).bind fun x55 => (jas 2 h51 x55 (nI j) (nI t)).bind fun h57 => (jgr 4 h57 2 4).bind fun x59 => (jgi 1 h57 x59 2).bind fun x61 => (jpf 1 h57 x59 2 (.int (x61 + 1))).bind fun h63 => (jck 4 h63 2).bind fun _ => (f_X4_readSign N h63 2 59).bind fun r65 => if narrow .boolean (.int r65.1) = .int r65.1 then some (r65.1, r65.2) else none) := fun Mz k1 vz O => by
        simp only [f_X4_readJudge, ↓b_rdC, ↓b_rG hg, r1, c8, ↓reduceIte, ↓bnd (n2 Mz k1 vz O), x10, ↓bnd (a4 Mz k1 vz O), t1, a7, ↓b_wGa hg, jl, vz_t t ht]
        rw [← eC3]
      rcases num_f (N := N) (g := g) (vl := vl) (lo := 0) (hi := 9) (xl := 0) (xh := 9) K3 (by decide) rfl rfl (by decide) hN with ⟨u, p4, e4, k4', C4, M5, b1, b2, b3, b4, b5, b6, b7, b8, b9⟩ | ⟨C4, M5, fl, b4, b5, b6, b7, b8⟩
      · obtain ⟨C5, eC5⟩ : ∃ C5, C5 = up C4 (g + 4) j (nI u) := ⟨_, rfl⟩
        obtain ⟨M6, eM6⟩ : ∃ M6, M6 = up M5 80 (8 + j) (nI u) := ⟨_, rfl⟩
        have K5 : TK n tx C5 M6 p4 e4 k4' := TK_fr b6 (by rw [eC5, up_o (Ne.symm (gn.2.2 4 (by decide)).1)]) (by rw [eC5, up_o (Ne.symm (gn.2.2 4 (by decide)).2)]) (by rw [eM6, up_o (by decide)]) (by rw [eM6, up_o (by decide)])
        have lc5 : LFc g C C5 := LFc_trans lc3 (LFc_trans (LFc_tf b8) (LFc_ue eC5 (.inr ⟨by omega, by omega⟩)))
        have lm6 : LFm M M6 := LFm_trans lm4 (LFm_trans (LFm_tf b9) (LFm_ue eM6 (by omega)))
        rcases num_f (N := N) (g := g) (vl := vl) (lo := 0) (hi := 20) (xl := 0) (xh := 20) K5 (by decide) rfl rfl (by decide) hN with ⟨q, p6, e6, k6', C6, M7, d1, d2, d3, d4, d5, d6, d7, d8, d9⟩ | ⟨C6, M7, fl, d4, d5, d6, d7, d8⟩
        · obtain ⟨C7, eC7⟩ : ∃ C7, C7 = up C6 (g + 5) j (nI q) := ⟨_, rfl⟩
          obtain ⟨C8, eC8⟩ : ∃ C8, C8 = up C7 (g + 6) j (nI t) := ⟨_, rfl⟩
          obtain ⟨C9, eC9⟩ : ∃ C9, C9 = up C8 g 2 (nI (j + 1)) := ⟨_, rfl⟩
          obtain ⟨M8, eM8⟩ : ∃ M8, M8 = up M7 81 (8 + j) (nI q) := ⟨_, rfl⟩
          obtain ⟨M9, eM9⟩ : ∃ M9, M9 = up M8 75 7 (nI (j + 1)) := ⟨_, rfl⟩
          have c2 : ∀ x, x ≠ 2 → C2 x = C x := fun x hx => (a8.1 x hx).trans (n5.1 x hx)
          have ch : ∀ x, x ≠ 2 → x ≠ g → x ≠ g + 3 → x ≠ g + 4 → x ≠ g + 5 → x ≠ g + 6 → C9 x = C x := fun x h1 h2 h3 h4 h5 h6 => by rw [eC9, up_o h2, eC8, up_o h6, eC7, up_o h5, d8.1 x h1, eC5, up_o h4, b8.1 x h1, eC3, up_o h3, c2 x h1]
          have cg : ∀ k, k ≠ 2 → C9 g k = C g k := fun k hk => by rw [eC9, up_s, upd_o hk, eC8, up_o (by omega), eC7, up_o (by omega), d8.1 g gn.1, eC5, up_o (by omega), b8.1 g gn.1, eC3, up_o (by omega), c2 g gn.1]
          have c93 : C9 (g + 3) = upd (C (g + 3)) j (nI v) := by rw [eC9, up_o (by omega), eC8, up_o (by omega), eC7, up_o (by omega), d8.1 _ (gn.2.2 3 (by decide)).1, eC5, up_o (by omega), b8.1 _ (gn.2.2 3 (by decide)).1, eC3, up_s, c2 _ (gn.2.2 3 (by decide)).1]
          have c94 : C9 (g + 4) = upd (C (g + 4)) j (nI u) := by rw [eC9, up_o (by omega), eC8, up_o (by omega), eC7, up_o (by omega), d8.1 _ (gn.2.2 4 (by decide)).1, eC5, up_s, b8.1 _ (gn.2.2 4 (by decide)).1, eC3, up_o (by omega), c2 _ (gn.2.2 4 (by decide)).1]
          have c95 : C9 (g + 5) = upd (C (g + 5)) j (nI q) := by rw [eC9, up_o (by omega), eC8, up_o (by omega), eC7, up_s, d8.1 _ (gn.2.2 5 (by decide)).1, eC5, up_o (by omega), b8.1 _ (gn.2.2 5 (by decide)).1, eC3, up_o (by omega), c2 _ (gn.2.2 5 (by decide)).1]
          have c96 : C9 (g + 6) = upd (C (g + 6)) j (nI t) := by rw [eC9, up_o (by omega), eC8, up_s, eC7, up_o (by omega), d8.1 _ (gn.2.2 6 (by decide)).1, eC5, up_o (by omega), b8.1 _ (gn.2.2 6 (by decide)).1, eC3, up_o (by omega), c2 _ (gn.2.2 6 (by decide)).1]
          have mh : ∀ x, x ≠ 71 → x ≠ 75 → x ≠ 78 → x ≠ 79 → x ≠ 80 → x ≠ 81 → M9 x = M x := fun x h1 h2 h3 h4 h5 h6 => by rw [eM9, up_o h2, eM8, up_o h6, d9.1 x h1, eM6, up_o h5, b9.1 x h1, eM4, up_o h4, a9.1 x h1, eM2, up_o h3, n6.1 x h1]
          have mk : ∀ k, k ≠ 7 → M9 75 k = M 75 k := fun k hk => by rw [eM9, up_s, upd_o hk, eM8, up_o (by decide), d9.1 75 (by decide), eM6, up_o (by decide), b9.1 75 (by decide), eM4, up_o (by decide), a9.1 75 (by decide), eM2, up_o (by decide), n6.1 75 (by decide)]
          have m98 : M9 78 = upd (M 78) (8 + j) (nI t) := by rw [eM9, up_o (by decide), eM8, up_o (by decide), d9.1 78 (by decide), eM6, up_o (by decide), b9.1 78 (by decide), eM4, up_o (by decide), a9.1 78 (by decide), eM2, up_s, n6.1 78 (by decide)]
          have m99 : M9 79 = upd (M 79) (8 + j) (nI v) := by rw [eM9, up_o (by decide), eM8, up_o (by decide), d9.1 79 (by decide), eM6, up_o (by decide), b9.1 79 (by decide), eM4, up_s, a9.1 79 (by decide), eM2, up_o (by decide), n6.1 79 (by decide)]
          have m90 : M9 80 = upd (M 80) (8 + j) (nI u) := by rw [eM9, up_o (by decide), eM8, up_o (by decide), d9.1 80 (by decide), eM6, up_s, b9.1 80 (by decide), eM4, up_o (by decide), a9.1 80 (by decide), eM2, up_o (by decide), n6.1 80 (by decide)]
          have m91 : M9 81 = upd (M 81) (8 + j) (nI q) := by rw [eM9, up_o (by decide), eM8, up_s, d9.1 81 (by decide), eM6, up_o (by decide), b9.1 81 (by decide), eM4, up_o (by decide), a9.1 81 (by decide), eM2, up_o (by decide), n6.1 81 (by decide)]
          have s11 : C9 2 11 = C 2 11 := by rw [eC9, up_o (Ne.symm gn.1), eC8, up_o (Ne.symm (gn.2.2 6 (by decide)).1), eC7, up_o (Ne.symm (gn.2.2 5 (by decide)).1), d8.2 11 (by decide), eC5, up_o (Ne.symm (gn.2.2 4 (by decide)).1), b8.2 11 (by decide), eC3, up_o (Ne.symm (gn.2.2 3 (by decide)).1), a8.2 11 (by decide), n5.2 11 (by decide)]
          have K9 : TK n tx C9 M9 p6 e6 k6' := TK_fr d6 (by rw [eC9, up_o (Ne.symm gn.1), eC8, up_o (Ne.symm (gn.2.2 6 (by decide)).1), eC7, up_o (Ne.symm (gn.2.2 5 (by decide)).1)]) (by rw [eC9, up_o (Ne.symm gn.2.1), eC8, up_o (Ne.symm (gn.2.2 6 (by decide)).2), eC7, up_o (Ne.symm (gn.2.2 5 (by decide)).2)]) (by rw [eM9, up_o (by decide), eM8, up_o (by decide)]) (by rw [eM9, up_o (by decide), eM8, up_o (by decide)])
          have S9 : GS g C9 M9 p6 bS bT bG := by
            refine ⟨s, r, j + 1, gSi_fr ⟨i1, i2, i3, i4, i5⟩ (cg 0 (by decide)) (mk 5 (by decide)) s11, gRe_fr s2' (cg 1 (by decide)) (mk 6 (by decide)) (ch _ (gn.2.2 1 (by decide)).1 (by omega) (by omega) (by omega) (by omega) (by omega)) (ch _ (gn.2.2 2 (by decide)).1 (by omega) (by omega) (by omega) (by omega) (by omega)) (mh 76 (by decide) (by decide) (by decide) (by decide) (by decide) (by decide)) (mh 77 (by decide) (by decide) (by decide) (by decide) (by decide) (by decide)), ⟨by rw [eC9, up_s, upd_s], by rw [eM9, up_s, upd_s], by omega, fun i hi => ?_⟩, gRu_fr s4 (by omega) (fun k hk => cg k (by omega)) (ch _ (gn.2.2 7 (by decide)).1 (by omega) (by omega) (by omega) (by omega) (by omega)) (mk 8 (by decide)) (mk 9 (by decide)) (mh 82 (by decide) (by decide) (by decide) (by decide) (by decide) (by decide)) (mh 83 (by decide) (by decide) (by decide) (by decide) (by decide) (by decide))⟩
            rw [c93, c94, c95, c96, m98, m99, m90, m91]
            by_cases z : i = j
            · subst z
              exact ⟨v, u, q, t, a2, by omega, ht, upd_s, upd_s, upd_s, upd_s, upd_s, upd_s, upd_s, upd_s⟩
            · obtain ⟨x, y, w, t', x1, x2, x3, x4, x5, x6, x7, x8, x9, x10, x11⟩ := r4 i (by omega)
              exact ⟨x, y, w, t', x1, x2, x3, (upd_o z).trans x4, (upd_o (by omega)).trans x5, (upd_o z).trans x6, (upd_o (by omega)).trans x7, (upd_o z).trans x8, (upd_o (by omega)).trans x9, (upd_o z).trans x10, (upd_o (by omega)).trans x11⟩
          have lc : LFc g C C9 := fun x h1 h2 => ch x h1 (by omega) (by omega) (by omega) (by omega) (by omega)
          have lm : LFm M M9 := LFm_trans lm6 (LFm_trans (LFm_tf d9) (LFm_trans (LFm_ue eM8 (by omega)) (LFm_ue eM9 (by omega))))
          have g82 : C8 g 2 = nI j := by rw [eC8, up_o (by omega), eC7, up_o (by omega), d8.1 g gn.1, eC5, up_o (by omega), b8.1 g gn.1, eC3, up_o (by omega), c2 g gn.1]; exact r1
          have hc3 : ∀ (Mz : ST) (k1 vz : Nat) (O : Nat → Int64), f_X4_readJudge N (HP C Mz (k1, g, 1, vz) O) 2 (nI t) = (f_X4_readSign N (HP C9 Mz (k1, g, 1, vz) O) 2 59).bind fun r26 => if narrow .boolean (.int r26.1) = .int r26.1 then some (r26.1, r26.2) else none := fun Mz k1 vz O => by
            refine Eq.trans (f1 Mz k1 vz O) ?_
            simp only [↓bnd (b4 Mz k1 vz O), t1, ↓reduceIte, ↓b_rdC, ↓b_rG hg, b7, ↓b_wGa hg, jl]
            rw [← eC5]
            simp only [↓b_rdC, ↓bnd (d4 Mz k1 vz O), t1, ↓reduceIte, ↓b_rG hg, d7, ↓b_wGa hg, jl]
            rw [← eC7, ← eC8]
            simp only [↓b_rdC, ↓b_rG hg, g82, nI_1, ↓b_wG hg]
            rw [← eC9]
          have hm3 : ∀ (Cz : ST) (k1 k2 k3 : Nat) (O : Nat → Int64), f_X7_sayJudge N (HP Cz M (k1, k2, k3, vl) O) 71 (nI t) = some (HP Cz M9 (k1, k2, k3, vl) O) := fun Cz k1 k2 k3 O => by
            have q8 : M8 75 7 = nI j := by rw [eM8, up_o (by decide), d9.1 75 (by decide), eM6, up_o (by decide), b9.1 75 (by decide), eM4, up_o (by decide), a9.1 75 (by decide), eM2, up_o (by decide)]; exact q75
            refine Eq.trans (hmj Cz k1 k2 k3 O) ?_
            simp only [f_X7_sayJudge_b71, ↓b_rdM, ↓b_waM, j16]
            rw [← eM4]
            simp only [↓b_rdM, ↓bnd (b5 Cz k1 k2 k3 O), ↓b_waM, j16]
            rw [← eM6]
            simp only [↓b_rdM, ↓bnd (d5 Cz k1 k2 k3 O), ↓b_waM, j16]
            rw [← eM8]
            simp only [↓b_rdM, ↓b_rlM, q8, nI_1, ↓b_wlM]
            rw [← eM9]
          rcases end_b (N := N) (vl := vl) hg K9 S9 (v1 := v1) (v3 := v3) hN with ⟨Ca, Ma, pa, ea, ka, y1, y2, y3, y4, y5, y6, y7⟩ | ⟨Ca, Ma, y1, y2, y3, y4, y5⟩
          · refine .inl ⟨Ca, Ma, pa, ea, ka, fun Mz k1 vz O => ?_, fun Cz k1 k2 k3 O => ?_, y3, y4, by omega, LFc_trans lc y6, LFm_trans lm y7⟩
            · refine Eq.trans (hc3 Mz k1 vz O) ?_
              simp only [↓bnd (y1 Mz k1 vz O), nb1, ↓reduceIte]
            · refine Eq.trans (bnd (hm3 Cz k1 k2 k3 O) _ _) ?_
              exact y2 Cz k1 k2 k3 O
          · refine .inr ⟨Ca, Ma, 1, p6, fun Mz k1 vz O => ?_, fun Cz k1 k2 k3 O => ?_, y3, LFc_trans lc y4, LFm_trans lm y5⟩
            · refine Eq.trans (hc3 Mz k1 vz O) ?_
              simp only [↓bnd (y1 Mz k1 vz O), nb0, ↓reduceIte]
            · refine Eq.trans (bnd (hm3 Cz k1 k2 k3 O) _ _) ?_
              exact y2 Cz k1 k2 k3 O
        · obtain ⟨M8, eM8⟩ : ∃ M8, M8 = up M7 81 (8 + j) 0 := ⟨_, rfl⟩
          have hf : FLT C6 (up M8 75 7 (M8 75 7 + 1)) fl p4 := FLT_fr d6 rfl (by rw [up_o (by decide), eM8, up_o (by decide)])
          refine .inr ⟨C6, _, fl, p4, fun Mz k1 vz O => ?_, fun Cz k1 k2 k3 O => ?_, hf, LFc_trans lc5 d7, LFm_trans lm6 (LFm_trans d8 (LFm_trans (LFm_ue eM8 (by omega)) (LFm_up (by omega))))⟩
          · refine Eq.trans (f1 Mz k1 vz O) ?_
            simp only [↓bnd (b4 Mz k1 vz O), t1, ↓reduceIte, ↓b_rdC, ↓b_rG hg, b7, ↓b_wGa hg, jl]
            rw [← eC5]
            simp only [↓b_rdC, ↓bnd (d4 Mz k1 vz O), ↓reduceIte]
          · have hm3 : f_X7_sayJudge N (HP Cz M (k1, k2, k3, vl) O) 71 (nI t) = some (HP Cz (up M8 75 7 (M8 75 7 + 1)) (k1, k2, k3, vl) O) := by
              refine Eq.trans (hmj Cz k1 k2 k3 O) ?_
              simp only [f_X7_sayJudge_b71, ↓b_rdM, ↓b_waM, j16]
              rw [← eM4]
              simp only [↓b_rdM, ↓bnd (b5 Cz k1 k2 k3 O), ↓b_waM, j16]
              rw [← eM6]
              simp only [↓b_rdM, ↓bnd (d5 Cz k1 k2 k3 O), ↓b_waM, j16]
              rw [← eM8]
              simp only [↓b_rdM, ↓b_rlM, ↓b_wlM]
            refine Eq.trans (bnd hm3 _ _) ?_
            exact b138_d (FLT_ne hf) Cz k1 k2 k3 O
      · obtain ⟨M6, eM6⟩ : ∃ M6, M6 = up M5 80 (8 + j) 0 := ⟨_, rfl⟩
        obtain ⟨M8, eM8⟩ : ∃ M8, M8 = up M6 81 (8 + j) 0 := ⟨_, rfl⟩
        have hz6 : ¬ M6 71 24 = 0 := by rw [eM6, up_o (by decide)]; exact FLT_ne b6
        have hf : FLT C4 (up M8 75 7 (M8 75 7 + 1)) fl p2 := FLT_fr b6 rfl (by rw [up_o (by decide), eM8, up_o (by decide), eM6, up_o (by decide)])
        refine .inr ⟨C4, _, fl, p2, fun Mz k1 vz O => ?_, fun Cz k1 k2 k3 O => ?_, hf, LFc_trans lc3 b7, LFm_trans lm4 (LFm_trans b8 (LFm_trans (LFm_ue eM6 (by omega)) (LFm_trans (LFm_ue eM8 (by omega)) (LFm_up (by omega)))))⟩
        · refine Eq.trans (f1 Mz k1 vz O) ?_
          simp only [↓bnd (b4 Mz k1 vz O), ↓reduceIte]
        · have hm3 : f_X7_sayJudge N (HP Cz M (k1, k2, k3, vl) O) 71 (nI t) = some (HP Cz (up M8 75 7 (M8 75 7 + 1)) (k1, k2, k3, vl) O) := by
            refine Eq.trans (hmj Cz k1 k2 k3 O) ?_
            simp only [f_X7_sayJudge_b71, ↓b_rdM, ↓b_waM, j16]
            rw [← eM4]
            simp only [↓b_rdM, ↓bnd (b5 Cz k1 k2 k3 O), ↓b_waM, j16]
            rw [← eM6]
            simp only [↓b_rdM, ↓bnd (num_d (N := N) (vl := vl) hz6 Cz k1 k2 k3 O), ↓b_waM, j16]
            rw [← eM8]
            simp only [↓b_rdM, ↓b_rlM, ↓b_wlM]
          refine Eq.trans (bnd hm3 _ _) ?_
          exact b138_d (FLT_ne hf) Cz k1 k2 k3 O
    · obtain ⟨M4, x1, x2, x3⟩ := b71_d (N := N) (vl := vl) (M := M3) (i := 8 + j) (y := y) (FLT_ne a6) (by omega) j16
      have hf : FLT C2 M4 fl p1 := FLT_fr a6 rfl x2
      refine .inr ⟨C2, M4, fl, p1, fun Mz k1 vz O => ?_, fun Cz k1 k2 k3 O => ?_, hf, LFc_trans (LFc_tf n5) a7, LFm_trans lm2 (LFm_trans a8 x3)⟩
      · simp only [f_X4_readJudge, ↓b_rdC, ↓b_rG hg, r1, c8, ↓reduceIte, ↓bnd (n2 Mz k1 vz O), x10, ↓bnd (a4 Mz k1 vz O)]
      · have hm3 : f_X7_sayJudge N (HP Cz M (k1, k2, k3, vl) O) 71 (nI t) = some (HP Cz M4 (k1, k2, k3, vl) O) := by
          simp only [f_X7_sayJudge, ↓b_rdM, ↓bnd (an Cz k1 k2 k3 O), t1, ↓reduceIte, ↓b_rlM, q75, n8, ↓b_waM, j16]
          rw [← eM2]
          exact Eq.trans (a5 Cz k1 k2 k3 O) (x1 Cz k1 k2 k3 O)
        refine Eq.trans (bnd hm3 _ _) ?_
        exact b138_d (FLT_ne hf) Cz k1 k2 k3 O
end S83
