/-! references that change; rules -/
theorem cel_congr {S : Nat → Int32} {K K' : KT} {O : Nat → Int64} {q : Nat × Nat × List Nat} (h : ∀ c, c ∈ q.2.2 → rf K c = rf K' c) : cel S K O q = cel S K' O q := by
  have e : q.2.2.mapIdx (fun k c => fv S K k c) = q.2.2.mapIdx (fun k c => fv S K' k c) := by
    apply List.ext_getElem?
    intro i
    simp only [List.getElem?_mapIdx]
    cases hq : q.2.2[i]? with
    | none => rfl
    | some c =>
      simp only [Option.map_some]
      unfold fv
      rw [h c (List.mem_of_getElem? hq)]
  unfold cel
  rw [e]
def ckK (a k code : Nat) : Bool := (shp.mapIdx (fun i q => (q.2.2.mapIdx (fun j c => decide (c = code ↔ (i = a ∧ j = k)))).all (fun b => b))).all (fun b => b)
theorem ckK_inv {a k code : Nat} (h : ckK a k code = true) : ∀ i q, shp[i]? = some q → ∀ j c, q.2.2[j]? = some c → (c = code ↔ (i = a ∧ j = k)) := by
  intro i q hq j c hc
  unfold ckK at h
  rw [List.all_eq_true] at h
  have h1 : (shp.mapIdx (fun i q => (q.2.2.mapIdx (fun j c => decide (c = code ↔ (i = a ∧ j = k)))).all (fun b => b)))[i]? = some ((q.2.2.mapIdx (fun j c => decide (c = code ↔ (i = a ∧ j = k)))).all (fun b => b)) := by
    rw [List.getElem?_mapIdx, hq]; rfl
  have h2 := h _ (List.mem_of_getElem? h1)
  rw [List.all_eq_true] at h2
  have h3 : (q.2.2.mapIdx (fun j c => decide (c = code ↔ (i = a ∧ j = k))))[j]? = some (decide (c = code ↔ (i = a ∧ j = k))) := by
    rw [List.getElem?_mapIdx, hc]; rfl
  exact of_decide_eq_true (h2 _ (List.mem_of_getElem? h3))
theorem hKw {C M : ST} {K K' : KT} {O : Nat → Int64} {ci a k v n code : Nat} {l : List Nat} (h1 : shp[a]? = some (10 + ci, n, l)) (hk : k < l.length) (h3 : ckK a k code = true) (h5 : rf K' code = v) (h6 : code ≠ 0) (h4 : ∀ c, c ≠ code → rf K c = rf K' c) : jpf ci (HP C M K O) a k (.ref v) = some (HP C M K' O) := by
  have h2 : ∀ S : Nat → Int32, (l.mapIdx (fun i c => fv S K i c)).set k (.ref v) = l.mapIdx (fun i c => fv S K' i c) := by
    intro S
    apply List.ext_getElem?
    intro j
    rw [List.getElem?_set, List.length_mapIdx, List.getElem?_mapIdx, List.getElem?_mapIdx]
    cases hc : l[j]? with
    | none =>
      have := List.getElem?_eq_none_iff.mp hc
      rw [if_neg (by omega)]
      rfl
    | some c =>
      have u := ckK_inv h3 a _ h1 j c hc
      by_cases hj : k = j
      · have e := u.mpr ⟨rfl, hj.symm⟩
        rw [if_pos hj, if_pos hk]
        simp only [Option.map_some]
        unfold fv
        rw [e, if_neg h6, h5]
      · have e : c ≠ code := fun z => hj (u.mp z).2.symm
        rw [if_neg hj]
        simp only [Option.map_some]
        unfold fv
        rw [h4 c e]
  unfold jpf
  rw [hp_get h1, cel_o]
  simp only []
  rw [if_pos ⟨trivial, by rw [List.length_mapIdx]; exact hk⟩, h2]
  refine congrArg some ?_
  apply List.ext_getElem?
  intro i
  rw [List.getElem?_set]
  by_cases hi : a = i
  · subst hi
    have hl : a < shp.length := (List.getElem?_eq_some_iff.mp h1).1
    rw [if_pos rfl, if_pos (by unfold HP; rw [List.length_mapIdx]; exact hl), hp_get h1, cel_o]
  · rw [if_neg hi]
    cases hq : shp[i]? with
    | none => unfold HP; rw [List.getElem?_mapIdx, List.getElem?_mapIdx, hq]; rfl
    | some q =>
      rw [hp_get hq, hp_get hq]
      refine congrArg some (cel_congr (fun c hc => h4 c (fun z => ?_)))
      obtain ⟨j, hj⟩ := List.mem_iff_getElem?.mp hc
      exact hi ((ckK_inv h3 i q hq j c hj).mp z).1.symm
theorem kw_told {C M : ST} {k1 k2 k3 k4 v : Nat} {O : Nat → Int64} : jwr 6 (HP C M (k1, k2, k3, k4) O) 0 4 v = some (HP C M (v, k2, k3, k4) O) := hKw (code := 2000001) rfl (by decide) (by decide +kernel) rfl (by decide) (fun c hc => by unfold rf; simp only [hc, if_false])
theorem kw_gorge {C M : ST} {k1 k2 k3 k4 v : Nat} {O : Nat → Int64} : jwr 4 (HP C M (k1, k2, k3, k4) O) 2 4 v = some (HP C M (k1, v, k3, k4) O) := hKw (code := 2000002) rfl (by decide) (by decide +kernel) rfl (by decide) (fun c hc => by unfold rf; simp only [hc, if_false])
theorem kw_text {C M : ST} {k1 k2 k3 k4 v : Nat} {O : Nat → Int64} : jwr 4 (HP C M (k1, k2, k3, k4) O) 2 2 v = some (HP C M (k1, k2, v, k4) O) := hKw (code := 2000003) rfl (by decide) (by decide +kernel) rfl (by decide) (fun c hc => by unfold rf; simp only [hc, if_false])
theorem kw_vals {C M : ST} {k1 k2 k3 k4 v : Nat} {O : Nat → Int64} : jwr 7 (HP C M (k1, k2, k3, k4) O) 71 3 v = some (HP C M (k1, k2, k3, v) O) := hKw (code := 2000004) rfl (by decide) (by decide +kernel) rfl (by decide) (fun c hc => by unfold rf; simp only [hc, if_false])
section S84
variable {C C' C'' M M' M'' : ST} {N n g vl p e k s r j : Nat} {tx : Nat → Nat} {b bS bT bG : Bool}
theorem dep_pos {F : Nat → RI} {m d : Nat} (h : dep F m = d + 1) : 0 < m := by
  rcases Nat.eq_zero_or_pos m with z | z
  · rw [z] at h
    unfold dep at h
    omega
  · exact z
set_option maxHeartbeats 4000000 in
theorem turns_b (hg : gok g) (hK : TK n tx C M p e 1) (hS : GS g C M p bS false bG) {v1 v3 : Int32} (hN : 1000 ≤ N) : LO n tx g vl 73 C M p bS true bG (fun Mz k1 vz O => f_X4_readTurns N (HP C Mz (k1, g, 1, vz) O) 2) (fun Cz k1 k2 k3 O => (f_X7_sayOnce N (HP Cz M (k1, k2, k3, vl) O) 71 2).bind fun r27 => f_X7_readLine_b138 N 71 v1 v3 r27) (v1 ||| v3) := by
  have t1 : ¬ (1 : Int32) = 0 := by decide
  have pe := TK_1 hK
  have gn : g ≠ 2 ∧ g ≠ 1 ∧ ∀ i, i ≤ 7 → g + i ≠ 2 ∧ g + i ≠ 1 := by rcases hg with rfl | rfl <;> exact ⟨by decide, by decide, fun i hi => by omega⟩
  obtain ⟨s, r, j, s1, s2', s3, s4⟩ := hS
  obtain ⟨cl, n1, n2, F1, F2, h10, hcl, ⟨ux, uy, uw, ub⟩, ⟨vx, vy, vw, vb⟩⟩ := s4
  obtain rfl : n1 = 0 := by
    rcases Nat.eq_zero_or_pos n1 with z | z
    · exact z
    · rw [decide_eq_true z] at ub; cases ub
  obtain ⟨f0, u1, u2, u3, _⟩ := ux
  have hp7 := (TK_p hK).1
  have hs0 : nI (f0 + 0) ≤ nI f0 := nI_le (by omega) (by omega)
  obtain ⟨p1, e1, k1', C1, M1, n1', n2', n3, n4, n5, n6⟩ := TK_next (g := g) (vl := vl) hK hN
  obtain ⟨C2, eC2⟩ : ∃ C2, C2 = up C1 2 12 1 := ⟨_, rfl⟩
  obtain ⟨C3, eC3⟩ : ∃ C3, C3 = up C2 g 11 (nI cl) := ⟨_, rfl⟩
  obtain ⟨M2, eM2⟩ : ∃ M2, M2 = up M1 71 27 0 := ⟨_, rfl⟩
  have c2k : ∀ k, k ≠ 12 → C3 2 k = C1 2 k := fun k hk => by rw [eC3, up_o (Ne.symm gn.1), eC2, up_s, upd_o hk]
  have m2k : ∀ k, k ≠ 27 → M2 71 k = M1 71 k := fun k hk => by rw [eM2, up_s, upd_o hk]
  have e12 : C3 2 12 = 1 := by rw [eC3, up_o (Ne.symm gn.1), eC2, up_s, upd_s]
  have e27 : M2 71 27 = 0 := by rw [eM2, up_s, upd_s]
  have c3o : ∀ x, x ≠ 2 → x ≠ g → C3 x = C x := fun x h1 h2 => by rw [eC3, up_o h2, eC2, up_o h1, n5.1 x h1]
  have c3g : ∀ k, k ≠ 11 → C3 g k = C g k := fun k hk => by rw [eC3, up_s, upd_o hk, eC2, up_o gn.1, n5.1 g gn.1]
  have m2o : ∀ x, x ≠ 71 → M2 x = M x := fun x hx => by rw [eM2, up_o hx, n6.1 x hx]
  have K3 : TK n tx C3 M2 p1 e1 k1' := by
    have u := n4
    unfold TK TXT at u ⊢
    rw [c2k 3 (by decide), c2k 5 (by decide), c2k 6 (by decide), c2k 7 (by decide), c2k 8 (by decide), c2k 9 (by decide), m2k 19 (by decide), m2k 24 (by decide), m2k 22 (by decide), m2k 18 (by decide), m2k 23 (by decide), m2k 20 (by decide), m2k 21 (by decide), show M2 86 = M1 86 by rw [eM2, up_o (by decide)], show C3 1 = C1 1 by rw [eC3, up_o (Ne.symm gn.2.1), eC2, up_o (by decide)]]
    exact u
  have P3 : PS n tx g 82 8 73 cl C3 M2 p1 e1 k1' 0 (fun _ => .inl 0) 0 := ⟨K3, ⟨by omega, (c3g 10 (by decide)).trans h10, by rw [m2o 75 (by decide)]; exact uy.1, fun i hi => absurd hi (Nat.not_lt_zero i)⟩, fun i hi => absurd hi (Nat.not_lt_zero i), rfl, by omega, .inl ⟨rfl, rfl, rfl, e27, e12⟩⟩
  have lc3 : LFc g C C3 := fun x h1 h2 => c3o x h1 (by omega)
  have lm2 : LFm M M2 := LFm_trans (LFm_tf n6) (LFm_ue eM2 (by omega))
  have h2g : C2 g 10 = nI cl := by rw [eC2, up_o gn.1, n5.1 g gn.1]; exact h10
  have hcA : ∀ (Mz : ST) (k1 vz : Nat) (O : Nat → Int64), f_X4_readTurns N (HP C Mz (k1, g, 1, vz) O) 2 = ((fr_X4_readExpr N 7 (HP C3 Mz (k1, g, 1, vz) O) 2 0).bind fun r22 => if r22.1 = 0 then some (0, r22.2) else (jgr 4 r22.2 2 4).bind fun x27 => (jgr 4 r22.2 2 4).bind fun x29 => (jgi 1 r22.2 x29 10).bind fun x31 => (jpf 1 r22.2 x27 12 (.int x31)).bind fun h33 => (jck 4 h33 2).bind fun _ => (f_X4_readSign N h33 2 59).bind fun r35 => if narrow .boolean (.int r35.1) = .int r35.1 then some (r35.1, r35.2) else none) := fun Mz k1 vz O => by
    simp only [f_X4_readTurns, f_X1_hasTurns, ↓b_rdC, ↓b_rG hg, u1, u2, hs0, ↓reduceIte, Option.bind_some, ↓bnd (n2' Mz k1 vz O), jwz_eq (v := 1) (.inr rfl), ↓b_wrC]
    rw [← eC2]
    simp only [↓b_rdC, ↓b_rG hg, h2g, ↓b_wG hg]
    rw [← eC3]
  have hmA : ∀ (Cz : ST) (k1 k2 k3 : Nat) (O : Nat → Int64), f_X7_sayOnce N (HP Cz M (k1, k2, k3, vl) O) 71 2 = ((fr_X7_readExpression N 7 (HP Cz M2 (k1, k2, k3, 73) O) 71 0).bind fun r3 => some r3) := fun Cz k1 k2 k3 O => by
    simp only [f_X7_sayOnce, f_X7_sayOnce_b34, f_X7_sayOnce_b56, ↓b_rdM, ↓bnd (n3 Cz k1 k2 k3 O), show ¬ (2 : Int32) = 1 by decide, show ¬ (2 : Int32) = 4 by decide, ↓reduceIte, jwz_eq (v := 0) (.inl rfl), ↓b_wrM]
    rw [← eM2]
    simp only [↓b_rdM, e27, ↓reduceIte, ↓bnd kw_vals]
  rcases rec_b (n := n) (tx := tx) (w := 82) (wi := 8) (vl := 73) (f := cl) hg hN 6 0 (by decide) C3 M2 p1 e1 k1' 0 (fun _ => .inl 0) 0 P3 (by decide) with ⟨C4, M4, p4, e4, k4', m4, F4, a1, a2, P4, a3, a4, a5, a6⟩ | ⟨C4, M4, fl, pl, a1, a2, a3, a4, a5⟩
  · have q1 : C4 g 10 = nI (cl + m4) := P4.2.1.2.1
    obtain ⟨C5, eC5⟩ : ∃ C5, C5 = up C4 g 12 (nI (cl + m4)) := ⟨_, rfl⟩
    have c5o : ∀ x, x ≠ 2 → x ≠ g → x ≠ g + 7 → C5 x = C x := fun x h1 h2 h3 => by rw [eC5, up_o h2, a5.1 x h1 h2 h3, c3o x h1 h2]
    have c5g : ∀ k, k ≠ 10 → k ≠ 11 → k ≠ 12 → C5 g k = C g k := fun k h1 h2 h3 => by rw [eC5, up_s, upd_o h3, a5.2.1 k h1, c3g k h2]
    have m4o : ∀ x, x ≠ 71 → x ≠ 75 → x ≠ 82 → M4 x = M x := fun x h1 h2 h3 => by rw [a6.1 x h1 h2 h3, m2o x h1]
    have m4k : ∀ k, k ≠ 8 → M4 75 k = M 75 k := fun k hk => by rw [a6.2.1 k hk, m2o 75 (by decide)]
    have c57 : C5 (g + 7) = C4 (g + 7) := by rw [eC5, up_o (by omega)]
    have g10 : C5 g 10 = nI (cl + m4) := by rw [eC5, up_s, upd_o (by decide)]; exact q1
    have gfr : C5 g 11 = nI cl := by rw [eC5, up_s, upd_o (by decide), a5.2.1 11 (by decide), eC3, up_s, upd_s]
    have gto : C5 g 12 = nI (cl + m4) := by rw [eC5, up_s, upd_s]
    have s11 : C5 2 11 = C 2 11 := by rw [eC5, up_o (Ne.symm gn.1), a5.2.2.1 11 (by decide), c2k 11 (by decide), n5.2 11 (by decide)]
    have mp := dep_pos P4.2.2.2.1
    have ruA : RUx C5 g 11 12 F4 m4 (cl + m4) := ⟨cl, gfr, gto, Nat.le_refl _, fun i hi => by rw [c57]; exact (P4.2.1.2.2.2 i hi).1⟩
    have ruB : RUy M4 82 8 F4 m4 := ⟨P4.2.1.2.2.1, fun i hi => (P4.2.1.2.2.2 i hi).2⟩
    have ruC : WFr F4 m4 := ⟨by have := P4.2.1.1; omega, fun _ => P4.2.2.2.1, P4.2.2.1⟩
    have ruD : true = decide (0 < m4) := (decide_eq_true mp).symm
    have rvA : RUx C5 g 13 14 F2 n2 (cl + m4) := by
      obtain ⟨f2, x1, x2, x3, x4⟩ := vx
      refine ⟨f2, (c5g 13 (by decide) (by decide) (by decide)).trans x1, (c5g 14 (by decide) (by decide) (by decide)).trans x2, by omega, fun i hi => ?_⟩
      rw [c57, a5.2.2.2 _ (by omega), c3o _ (gn.2.2 7 (by decide)).1 (by omega)]
      exact x4 i hi
    have rvB : RUy M4 83 9 F2 n2 := ⟨(m4k 9 (by decide)).trans vy.1, fun i hi => by rw [m4o 83 (by decide) (by decide) (by decide)]; exact vy.2 i hi⟩
    have K5 : TK n tx C5 M4 p4 e4 k4' := TK_fr P4.1 (by rw [eC5, up_o (Ne.symm gn.1)]) (by rw [eC5, up_o (Ne.symm gn.2.1)]) rfl rfl
    have S5 : GS g C5 M4 p4 bS true bG := ⟨s, r, j, gSi_fr s1 (c5g 0 (by decide) (by decide) (by decide)) (m4k 5 (by decide)) s11, gRe_fr s2' (c5g 1 (by decide) (by decide) (by decide)) (m4k 6 (by decide)) (c5o _ (gn.2.2 1 (by decide)).1 (by omega) (by omega)) (c5o _ (gn.2.2 2 (by decide)).1 (by omega) (by omega)) (m4o 76 (by decide) (by decide) (by decide)) (m4o 77 (by decide) (by decide) (by decide)), gJd_fr s3 (c5g 2 (by decide) (by decide) (by decide)) (m4k 7 (by decide)) (c5o _ (gn.2.2 3 (by decide)).1 (by omega) (by omega)) (c5o _ (gn.2.2 4 (by decide)).1 (by omega) (by omega)) (c5o _ (gn.2.2 5 (by decide)).1 (by omega) (by omega)) (c5o _ (gn.2.2 6 (by decide)).1 (by omega) (by omega)) (m4o 78 (by decide) (by decide) (by decide)) (m4o 79 (by decide) (by decide) (by decide)) (m4o 80 (by decide) (by decide) (by decide)) (m4o 81 (by decide) (by decide) (by decide)), ⟨cl + m4, m4, n2, F4, F2, g10, P4.2.2.2.2.1, ⟨ruA, ruB, ruC, ruD⟩, ⟨rvA, rvB, vw, vb⟩⟩⟩
    have lc : LFc g C C5 := fun x h1 h2 => c5o x h1 (by omega) (by omega)
    have lm4 : LFm M2 M4 := ⟨fun x h1 h2 => a6.1 x h1 (by omega) (by omega), fun k hk => a6.2.1 k (by omega), fun k hk => by rw [a6.1 76 (by decide) (by decide) (by decide), a6.1 77 (by decide) (by decide) (by decide)]; exact ⟨rfl, rfl⟩, fun k hk => by rw [a6.1 78 (by decide) (by decide) (by decide), a6.1 79 (by decide) (by decide) (by decide), a6.1 80 (by decide) (by decide) (by decide), a6.1 81 (by decide) (by decide) (by decide)]; exact ⟨rfl, rfl, rfl, rfl⟩, fun k hk => ⟨a6.2.2.2 k hk, by rw [a6.1 83 (by decide) (by decide) (by decide)]⟩, fun k hk => a6.2.2.1 k (by omega)⟩
    rcases end_b (N := N) (vl := 73) hg K5 S5 (v1 := v1) (v3 := v3) hN with ⟨Ca, Ma, pa, ea, ka, y1, y2, y3, y4, y5, y6, y7⟩ | ⟨Ca, Ma, y1, y2, y3, y4, y5⟩
    · refine .inl ⟨Ca, Ma, pa, ea, ka, fun Mz k1 vz O => ?_, fun Cz k1 k2 k3 O => ?_, y3, y4, by omega, LFc_trans lc y6, LFm_trans lm2 (LFm_trans lm4 y7)⟩
      · refine Eq.trans (hcA Mz k1 vz O) ?_
        have B := a1 Mz k1 vz O
        rw [show nI 0 = 0 from rfl] at B
        simp only [↓bnd B, t1, ↓reduceIte, ↓b_rdC, ↓b_rG hg, q1, ↓b_wG hg]
        rw [← eC5]
        simp only [↓bnd (y1 Mz k1 vz O), nb1, ↓reduceIte]
      · have B := a2 Cz k1 k2 k3 O
        rw [show nI 0 = 0 from rfl] at B
        refine Eq.trans (bnd (Eq.trans (hmA Cz k1 k2 k3 O) (bnd B _ _)) _ _) ?_
        exact y2 Cz k1 k2 k3 O
    · refine .inr ⟨Ca, Ma, 1, p4, fun Mz k1 vz O => ?_, fun Cz k1 k2 k3 O => ?_, y3, LFc_trans lc y4, LFm_trans lm2 (LFm_trans lm4 y5)⟩
      · refine Eq.trans (hcA Mz k1 vz O) ?_
        have B := a1 Mz k1 vz O
        rw [show nI 0 = 0 from rfl] at B
        simp only [↓bnd B, t1, ↓reduceIte, ↓b_rdC, ↓b_rG hg, q1, ↓b_wG hg]
        rw [← eC5]
        simp only [↓bnd (y1 Mz k1 vz O), nb0, ↓reduceIte]
      · have B := a2 Cz k1 k2 k3 O
        rw [show nI 0 = 0 from rfl] at B
        refine Eq.trans (bnd (Eq.trans (hmA Cz k1 k2 k3 O) (bnd B _ _)) _ _) ?_
        exact y2 Cz k1 k2 k3 O
  · have lm4 : LFm M2 M4 := ⟨fun x h1 h2 => a5.1 x h1 (by omega) (by omega), fun k hk => a5.2.1 k (by omega), fun k hk => by rw [a5.1 76 (by decide) (by decide) (by decide), a5.1 77 (by decide) (by decide) (by decide)]; exact ⟨rfl, rfl⟩, fun k hk => by rw [a5.1 78 (by decide) (by decide) (by decide), a5.1 79 (by decide) (by decide) (by decide), a5.1 80 (by decide) (by decide) (by decide), a5.1 81 (by decide) (by decide) (by decide)]; exact ⟨rfl, rfl, rfl, rfl⟩, fun k hk => ⟨a5.2.2.2 k hk, by rw [a5.1 83 (by decide) (by decide) (by decide)]⟩, fun k hk => a5.2.2.1 k (by omega)⟩
    refine .inr ⟨C4, M4, fl, pl, fun Mz k1 vz O => ?_, fun Cz k1 k2 k3 O => ?_, a3, LFc_trans lc3 (fun x h1 h2 => a4.1 x h1 (by omega) (by omega)), LFm_trans lm2 lm4⟩
    · refine Eq.trans (hcA Mz k1 vz O) ?_
      have B := a1 Mz k1 vz O
      rw [show nI 0 = 0 from rfl] at B
      simp only [↓bnd B, ↓reduceIte]
    · have B := a2 Cz k1 k2 k3 O
      rw [show nI 0 = 0 from rfl] at B
      refine Eq.trans (bnd (Eq.trans (hmA Cz k1 k2 k3 O) (bnd B _ _)) _ _) ?_
      exact b138_d (FLT_ne a3) Cz k1 k2 k3 O
set_option maxHeartbeats 4000000 in
theorem goes_b (hg : gok g) (hK : TK n tx C M p e 1) (hS : GS g C M p bS bT false) {v1 v3 : Int32} (hN : 1000 ≤ N) : LO n tx g vl 74 C M p bS bT true (fun Mz k1 vz O => f_X4_readGoes N (HP C Mz (k1, g, 1, vz) O) 2) (fun Cz k1 k2 k3 O => (f_X7_sayOnce N (HP Cz M (k1, k2, k3, vl) O) 71 4).bind fun r27 => f_X7_readLine_b138 N 71 v1 v3 r27) (v1 ||| v3) := by
  have t1 : ¬ (1 : Int32) = 0 := by decide
  have pe := TK_1 hK
  have gn : g ≠ 2 ∧ g ≠ 1 ∧ ∀ i, i ≤ 7 → g + i ≠ 2 ∧ g + i ≠ 1 := by rcases hg with rfl | rfl <;> exact ⟨by decide, by decide, fun i hi => by omega⟩
  obtain ⟨s, r, j, s1, s2', s3, s4⟩ := hS
  obtain ⟨cl, n2, n1, F2, F1, h10, hcl, ⟨vx, vy, vw, vb⟩, ⟨ux, uy, uw, ub⟩⟩ := s4
  obtain rfl : n1 = 0 := by
    rcases Nat.eq_zero_or_pos n1 with z | z
    · exact z
    · rw [decide_eq_true z] at ub; cases ub
  obtain ⟨f0, u1, u2, u3, _⟩ := ux
  have hp7 := (TK_p hK).1
  have hs0 : nI (f0 + 0) ≤ nI f0 := nI_le (by omega) (by omega)
  obtain ⟨p1, e1, k1', C1, M1, n1', n2', n3, n4, n5, n6⟩ := TK_next (g := g) (vl := vl) hK hN
  obtain ⟨C2, eC2⟩ : ∃ C2, C2 = up C1 2 12 0 := ⟨_, rfl⟩
  obtain ⟨C3, eC3⟩ : ∃ C3, C3 = up C2 g 13 (nI cl) := ⟨_, rfl⟩
  obtain ⟨M2, eM2⟩ : ∃ M2, M2 = up M1 71 27 1 := ⟨_, rfl⟩
  have c2k : ∀ k, k ≠ 12 → C3 2 k = C1 2 k := fun k hk => by rw [eC3, up_o (Ne.symm gn.1), eC2, up_s, upd_o hk]
  have m2k : ∀ k, k ≠ 27 → M2 71 k = M1 71 k := fun k hk => by rw [eM2, up_s, upd_o hk]
  have e12 : C3 2 12 = 0 := by rw [eC3, up_o (Ne.symm gn.1), eC2, up_s, upd_s]
  have e27 : M2 71 27 = 1 := by rw [eM2, up_s, upd_s]
  have c3o : ∀ x, x ≠ 2 → x ≠ g → C3 x = C x := fun x h1 h2 => by rw [eC3, up_o h2, eC2, up_o h1, n5.1 x h1]
  have c3g : ∀ k, k ≠ 13 → C3 g k = C g k := fun k hk => by rw [eC3, up_s, upd_o hk, eC2, up_o gn.1, n5.1 g gn.1]
  have m2o : ∀ x, x ≠ 71 → M2 x = M x := fun x hx => by rw [eM2, up_o hx, n6.1 x hx]
  have K3 : TK n tx C3 M2 p1 e1 k1' := by
    have u := n4
    unfold TK TXT at u ⊢
    rw [c2k 3 (by decide), c2k 5 (by decide), c2k 6 (by decide), c2k 7 (by decide), c2k 8 (by decide), c2k 9 (by decide), m2k 19 (by decide), m2k 24 (by decide), m2k 22 (by decide), m2k 18 (by decide), m2k 23 (by decide), m2k 20 (by decide), m2k 21 (by decide), show M2 86 = M1 86 by rw [eM2, up_o (by decide)], show C3 1 = C1 1 by rw [eC3, up_o (Ne.symm gn.2.1), eC2, up_o (by decide)]]
    exact u
  have P3 : PS n tx g 83 9 74 cl C3 M2 p1 e1 k1' 0 (fun _ => .inl 0) 0 := ⟨K3, ⟨by omega, (c3g 10 (by decide)).trans h10, by rw [m2o 75 (by decide)]; exact uy.1, fun i hi => absurd hi (Nat.not_lt_zero i)⟩, fun i hi => absurd hi (Nat.not_lt_zero i), rfl, by omega, .inr ⟨rfl, rfl, rfl, e27, e12⟩⟩
  have lc3 : LFc g C C3 := fun x h1 h2 => c3o x h1 (by omega)
  have lm2 : LFm M M2 := LFm_trans (LFm_tf n6) (LFm_ue eM2 (by omega))
  have h2g : C2 g 10 = nI cl := by rw [eC2, up_o gn.1, n5.1 g gn.1]; exact h10
  have hcA : ∀ (Mz : ST) (k1 vz : Nat) (O : Nat → Int64), f_X4_readGoes N (HP C Mz (k1, g, 1, vz) O) 2 = ((fr_X4_readExpr N 7 (HP C3 Mz (k1, g, 1, vz) O) 2 0).bind fun r22 => if r22.1 = 0 then some (0, r22.2) else (jgr 4 r22.2 2 4).bind fun x27 => (jgr 4 r22.2 2 4).bind fun x29 => (jgi 1 r22.2 x29 10).bind fun x31 => (jpf 1 r22.2 x27 14 (.int x31)).bind fun h33 => (jck 4 h33 2).bind fun _ => (f_X4_readSign N h33 2 59).bind fun r35 => if narrow .boolean (.int r35.1) = .int r35.1 then some (r35.1, r35.2) else none) := fun Mz k1 vz O => by
    simp only [f_X4_readGoes, f_X1_hasGoes, ↓b_rdC, ↓b_rG hg, u1, u2, hs0, ↓reduceIte, Option.bind_some, ↓bnd (n2' Mz k1 vz O), jwz_eq (v := 0) (.inl rfl), ↓b_wrC]
    rw [← eC2]
    simp only [↓b_rdC, ↓b_rG hg, h2g, ↓b_wG hg]
    rw [← eC3]
  have hmA : ∀ (Cz : ST) (k1 k2 k3 : Nat) (O : Nat → Int64), f_X7_sayOnce N (HP Cz M (k1, k2, k3, vl) O) 71 4 = ((fr_X7_readExpression N 7 (HP Cz M2 (k1, k2, k3, 74) O) 71 0).bind fun r3 => some r3) := fun Cz k1 k2 k3 O => by
    simp only [f_X7_sayOnce, f_X7_sayOnce_b34, f_X7_sayOnce_b56, ↓b_rdM, ↓bnd (n3 Cz k1 k2 k3 O), show ¬ (4 : Int32) = 1 by decide, ↓reduceIte, jwz_eq (v := 1) (.inr rfl), ↓b_wrM]
    rw [← eM2]
    simp only [↓b_rdM, e27, ↓reduceIte, show ¬ (1 : Int32) = 0 by decide, ↓bnd kw_vals]
  rcases rec_b (n := n) (tx := tx) (w := 83) (wi := 9) (vl := 74) (f := cl) hg hN 6 0 (by decide) C3 M2 p1 e1 k1' 0 (fun _ => .inl 0) 0 P3 (by decide) with ⟨C4, M4, p4, e4, k4', m4, F4, a1, a2, P4, a3, a4, a5, a6⟩ | ⟨C4, M4, fl, pl, a1, a2, a3, a4, a5⟩
  · have q1 : C4 g 10 = nI (cl + m4) := P4.2.1.2.1
    obtain ⟨C5, eC5⟩ : ∃ C5, C5 = up C4 g 14 (nI (cl + m4)) := ⟨_, rfl⟩
    have c5o : ∀ x, x ≠ 2 → x ≠ g → x ≠ g + 7 → C5 x = C x := fun x h1 h2 h3 => by rw [eC5, up_o h2, a5.1 x h1 h2 h3, c3o x h1 h2]
    have c5g : ∀ k, k ≠ 10 → k ≠ 13 → k ≠ 14 → C5 g k = C g k := fun k h1 h2 h3 => by rw [eC5, up_s, upd_o h3, a5.2.1 k h1, c3g k h2]
    have m4o : ∀ x, x ≠ 71 → x ≠ 75 → x ≠ 83 → M4 x = M x := fun x h1 h2 h3 => by rw [a6.1 x h1 h2 h3, m2o x h1]
    have m4k : ∀ k, k ≠ 9 → M4 75 k = M 75 k := fun k hk => by rw [a6.2.1 k hk, m2o 75 (by decide)]
    have c57 : C5 (g + 7) = C4 (g + 7) := by rw [eC5, up_o (by omega)]
    have g10 : C5 g 10 = nI (cl + m4) := by rw [eC5, up_s, upd_o (by decide)]; exact q1
    have gfr : C5 g 13 = nI cl := by rw [eC5, up_s, upd_o (by decide), a5.2.1 13 (by decide), eC3, up_s, upd_s]
    have gto : C5 g 14 = nI (cl + m4) := by rw [eC5, up_s, upd_s]
    have s11 : C5 2 11 = C 2 11 := by rw [eC5, up_o (Ne.symm gn.1), a5.2.2.1 11 (by decide), c2k 11 (by decide), n5.2 11 (by decide)]
    have mp := dep_pos P4.2.2.2.1
    have ruA : RUx C5 g 13 14 F4 m4 (cl + m4) := ⟨cl, gfr, gto, Nat.le_refl _, fun i hi => by rw [c57]; exact (P4.2.1.2.2.2 i hi).1⟩
    have ruB : RUy M4 83 9 F4 m4 := ⟨P4.2.1.2.2.1, fun i hi => (P4.2.1.2.2.2 i hi).2⟩
    have ruC : WFr F4 m4 := ⟨by have := P4.2.1.1; omega, fun _ => P4.2.2.2.1, P4.2.2.1⟩
    have ruD : true = decide (0 < m4) := (decide_eq_true mp).symm
    have rvA : RUx C5 g 11 12 F2 n2 (cl + m4) := by
      obtain ⟨f2, x1, x2, x3, x4⟩ := vx
      refine ⟨f2, (c5g 11 (by decide) (by decide) (by decide)).trans x1, (c5g 12 (by decide) (by decide) (by decide)).trans x2, by omega, fun i hi => ?_⟩
      rw [c57, a5.2.2.2 _ (by omega), c3o _ (gn.2.2 7 (by decide)).1 (by omega)]
      exact x4 i hi
    have rvB : RUy M4 82 8 F2 n2 := ⟨(m4k 8 (by decide)).trans vy.1, fun i hi => by rw [m4o 82 (by decide) (by decide) (by decide)]; exact vy.2 i hi⟩
    have K5 : TK n tx C5 M4 p4 e4 k4' := TK_fr P4.1 (by rw [eC5, up_o (Ne.symm gn.1)]) (by rw [eC5, up_o (Ne.symm gn.2.1)]) rfl rfl
    have S5 : GS g C5 M4 p4 bS bT true := ⟨s, r, j, gSi_fr s1 (c5g 0 (by decide) (by decide) (by decide)) (m4k 5 (by decide)) s11, gRe_fr s2' (c5g 1 (by decide) (by decide) (by decide)) (m4k 6 (by decide)) (c5o _ (gn.2.2 1 (by decide)).1 (by omega) (by omega)) (c5o _ (gn.2.2 2 (by decide)).1 (by omega) (by omega)) (m4o 76 (by decide) (by decide) (by decide)) (m4o 77 (by decide) (by decide) (by decide)), gJd_fr s3 (c5g 2 (by decide) (by decide) (by decide)) (m4k 7 (by decide)) (c5o _ (gn.2.2 3 (by decide)).1 (by omega) (by omega)) (c5o _ (gn.2.2 4 (by decide)).1 (by omega) (by omega)) (c5o _ (gn.2.2 5 (by decide)).1 (by omega) (by omega)) (c5o _ (gn.2.2 6 (by decide)).1 (by omega) (by omega)) (m4o 78 (by decide) (by decide) (by decide)) (m4o 79 (by decide) (by decide) (by decide)) (m4o 80 (by decide) (by decide) (by decide)) (m4o 81 (by decide) (by decide) (by decide)), ⟨cl + m4, n2, m4, F2, F4, g10, P4.2.2.2.2.1, ⟨rvA, rvB, vw, vb⟩, ⟨ruA, ruB, ruC, ruD⟩⟩⟩
    have lc : LFc g C C5 := fun x h1 h2 => c5o x h1 (by omega) (by omega)
    have lm4 : LFm M2 M4 := ⟨fun x h1 h2 => a6.1 x h1 (by omega) (by omega), fun k hk => a6.2.1 k (by omega), fun k hk => by rw [a6.1 76 (by decide) (by decide) (by decide), a6.1 77 (by decide) (by decide) (by decide)]; exact ⟨rfl, rfl⟩, fun k hk => by rw [a6.1 78 (by decide) (by decide) (by decide), a6.1 79 (by decide) (by decide) (by decide), a6.1 80 (by decide) (by decide) (by decide), a6.1 81 (by decide) (by decide) (by decide)]; exact ⟨rfl, rfl, rfl, rfl⟩, fun k hk => ⟨by rw [a6.1 82 (by decide) (by decide) (by decide)], a6.2.2.2 k hk⟩, fun k hk => a6.2.2.1 k (by omega)⟩
    rcases end_b (N := N) (vl := 74) hg K5 S5 (v1 := v1) (v3 := v3) hN with ⟨Ca, Ma, pa, ea, ka, y1, y2, y3, y4, y5, y6, y7⟩ | ⟨Ca, Ma, y1, y2, y3, y4, y5⟩
    · refine .inl ⟨Ca, Ma, pa, ea, ka, fun Mz k1 vz O => ?_, fun Cz k1 k2 k3 O => ?_, y3, y4, by omega, LFc_trans lc y6, LFm_trans lm2 (LFm_trans lm4 y7)⟩
      · refine Eq.trans (hcA Mz k1 vz O) ?_
        have B := a1 Mz k1 vz O
        rw [show nI 0 = 0 from rfl] at B
        simp only [↓bnd B, t1, ↓reduceIte, ↓b_rdC, ↓b_rG hg, q1, ↓b_wG hg]
        rw [← eC5]
        simp only [↓bnd (y1 Mz k1 vz O), nb1, ↓reduceIte]
      · have B := a2 Cz k1 k2 k3 O
        rw [show nI 0 = 0 from rfl] at B
        refine Eq.trans (bnd (Eq.trans (hmA Cz k1 k2 k3 O) (bnd B _ _)) _ _) ?_
        exact y2 Cz k1 k2 k3 O
    · refine .inr ⟨Ca, Ma, 1, p4, fun Mz k1 vz O => ?_, fun Cz k1 k2 k3 O => ?_, y3, LFc_trans lc y4, LFm_trans lm2 (LFm_trans lm4 y5)⟩
      · refine Eq.trans (hcA Mz k1 vz O) ?_
        have B := a1 Mz k1 vz O
        rw [show nI 0 = 0 from rfl] at B
        simp only [↓bnd B, t1, ↓reduceIte, ↓b_rdC, ↓b_rG hg, q1, ↓b_wG hg]
        rw [← eC5]
        simp only [↓bnd (y1 Mz k1 vz O), nb0, ↓reduceIte]
      · have B := a2 Cz k1 k2 k3 O
        rw [show nI 0 = 0 from rfl] at B
        refine Eq.trans (bnd (Eq.trans (hmA Cz k1 k2 k3 O) (bnd B _ _)) _ _) ?_
        exact y2 Cz k1 k2 k3 O
  · have lm4 : LFm M2 M4 := ⟨fun x h1 h2 => a5.1 x h1 (by omega) (by omega), fun k hk => a5.2.1 k (by omega), fun k hk => by rw [a5.1 76 (by decide) (by decide) (by decide), a5.1 77 (by decide) (by decide) (by decide)]; exact ⟨rfl, rfl⟩, fun k hk => by rw [a5.1 78 (by decide) (by decide) (by decide), a5.1 79 (by decide) (by decide) (by decide), a5.1 80 (by decide) (by decide) (by decide), a5.1 81 (by decide) (by decide) (by decide)]; exact ⟨rfl, rfl, rfl, rfl⟩, fun k hk => ⟨by rw [a5.1 82 (by decide) (by decide) (by decide)], a5.2.2.2 k hk⟩, fun k hk => a5.2.2.1 k (by omega)⟩
    refine .inr ⟨C4, M4, fl, pl, fun Mz k1 vz O => ?_, fun Cz k1 k2 k3 O => ?_, a3, LFc_trans lc3 (fun x h1 h2 => a4.1 x h1 (by omega) (by omega)), LFm_trans lm2 lm4⟩
    · refine Eq.trans (hcA Mz k1 vz O) ?_
      have B := a1 Mz k1 vz O
      rw [show nI 0 = 0 from rfl] at B
      simp only [↓bnd B, ↓reduceIte]
    · have B := a2 Cz k1 k2 k3 O
      rw [show nI 0 = 0 from rfl] at B
      refine Eq.trans (bnd (Eq.trans (hmA Cz k1 k2 k3 O) (bnd B _ _)) _ _) ?_
      exact b138_d (FLT_ne a3) Cz k1 k2 k3 O
end S84
