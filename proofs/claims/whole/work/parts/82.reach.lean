/-! reaches, judges -/
section S82
variable {C C' C'' M M' M'' : ST} {N n g vl p e k s r j : Nat} {tx : Nat → Nat} {b bS bT bG : Bool}
theorem LFm_ue {a i : Nat} {v : Int32} (e : M' = up M a i v) (ha : (a = 75 ∧ 5 ≤ i) ∨ ((a = 76 ∨ a = 77) ∧ 9 ≤ i) ∨ ((a = 78 ∨ a = 79 ∨ a = 80 ∨ a = 81) ∧ 8 ≤ i) ∨ (a = 71 ∧ (i = 18 ∨ (20 ≤ i ∧ i ≤ 25) ∨ i = 27))) : LFm M M' := by rw [e]; exact LFm_up ha
theorem LFc_ue {a i : Nat} {v : Int32} (e : C' = up C a i v) (ha : a = 2 ∨ (g ≤ a ∧ a ≤ g + 7)) : LFc g C C' := by rw [e]; exact LFc_up ha
theorem n9 (r : Nat) : (9 : Int32) + nI r = nI (9 + r) := nI_add 9 r
theorem n8 (r : Nat) : (8 : Int32) + nI r = nI (8 + r) := nI_add 8 r
set_option maxHeartbeats 4000000 in
theorem reach_b (hg : gok g) (hK : TK n tx C M p e 1) (hS : GS g C M p bS bT bG) {v1 v3 : Int32} (hN : 1000 ≤ N) : LO n tx g vl vl C M p bS bT bG (fun Mz k1 vz O => f_X4_readReach N (HP C Mz (k1, g, 1, vz) O) 2) (fun Cz k1 k2 k3 O => (f_X7_sayReach N (HP Cz M (k1, k2, k3, vl) O) 71).bind fun r15 => f_X7_readLine_b138 N 71 v1 v3 r15) (v1 ||| v3) := by
  have t1 : ¬ (1 : Int32) = 0 := by decide
  have pe := TK_1 hK
  have gn : g ≠ 2 ∧ g ≠ 1 ∧ ∀ i, i ≤ 7 → g + i ≠ 2 ∧ g + i ≠ 1 := by rcases hg with rfl | rfl <;> exact ⟨by decide, by decide, fun i hi => by omega⟩
  obtain ⟨s, r, j, s1, s2', s3, s4⟩ := hS
  obtain ⟨r1, r2, r3, r4⟩ := s2'
  by_cases r9 : r = 9
  · right
    subst r9
    have hf := FLT_t (fl := 2) (x := 2) hK (by decide) (by decide) rfl
    refine ⟨_, _, 2, p, fun Mz k1 vz O => ?_, fun Cz k1 k2 k3 O => ?_, hf, LFc_t, LFm_t⟩
    · simp only [f_X4_readReach, ↓b_rdC, ↓b_rG hg, r1, show ¬ nI 9 < 9 by decide, ↓reduceIte, ↓bnd (refuse_t (N := N) (g := g) (x := 2) hK Mz k1 vz O), nb0]
    · have hm3 : f_X7_sayReach N (HP Cz M (k1, k2, k3, vl) O) 71 = some (HP Cz (up (up M 71 24 2) 71 25 (nI p)) (k1, k2, k3, vl) O) := by
        simp only [f_X7_sayReach, f_X7_another, f_X7_another_b17, ↓b_rdM, show (5 : Int32) + 1 = 6 by decide, ↓b_rlM, r2, show nI 9 = 9 from rfl, ↓reduceIte, ↓bnd (wrong_t (N := N) (vl := vl) (x := 2) hK Cz k1 k2 k3 O), FLT_ne hf, Option.bind_some]
      refine Eq.trans (bnd hm3 _ _) ?_
      exact b138_d (FLT_ne hf) Cz k1 k2 k3 O
  · have rl : r < 9 := by omega
    have r18 : 9 + r < 18 := by omega
    have c9 : nI r < 9 := nI_lt (b := 9) rl (by decide)
    have n9' : ¬ nI r = 9 := fun z => r9 ((eq_nI (a := r) (b := 9) (by omega) (by decide)).mp z)
    obtain ⟨p1, e1, k1', C1, M1, n1, n2, n3, n4, n5, n6⟩ := TK_next (g := g) (vl := vl) hK hN
    have q75 : M1 75 6 = nI r := by rw [n6.1 75 (by decide)]; exact r2
    have an : ∀ (Cz : ST) (k1 k2 k3 : Nat) (O : Nat → Int64), f_X7_another N (HP Cz M (k1, k2, k3, vl) O) 71 1 9 = some (1, (HP Cz M1 (k1, k2, k3, vl) O)) := fun Cz k1 k2 k3 O => by
      simp only [f_X7_another, f_X7_another_b17, ↓b_rdM, show (5 : Int32) + 1 = 6 by decide, ↓b_rlM, r2, n9', ↓reduceIte, hK.2.1, ↓bnd (n3 Cz k1 k2 k3 O)]
    rcases num_f (N := N) (g := g) (vl := vl) (lo := 0) (hi := 3) (xl := 0) (xh := 3) n4 (by decide) rfl rfl (by decide) hN with ⟨v, p2, e2, k2', C2, M2, a1, a2, a3, a4, a5, a6, a7, a8, a9⟩ | ⟨C2, M2, fl, a4, a5, a6, a7, a8⟩
    · obtain ⟨C3, eC3⟩ : ∃ C3, C3 = up C2 (g + 1) r (nI v) := ⟨_, rfl⟩
      obtain ⟨M3, eM3⟩ : ∃ M3, M3 = up M2 76 (9 + r) (nI v) := ⟨_, rfl⟩
      have K3 : TK n tx C3 M3 p2 e2 k2' := TK_fr a6 (by rw [eC3, up_o (by have := (gn.2.2 1 (by decide)).1; omega)]) (by rw [eC3, up_o (by have := (gn.2.2 1 (by decide)).2; omega)]) (by rw [eM3, up_o (by decide)]) (by rw [eM3, up_o (by decide)])
      rcases num_f (N := N) (g := g) (vl := vl) (lo := 0) (hi := 7) (xl := 0) (xh := 7) K3 (by decide) rfl rfl (by decide) hN with ⟨u, p4, e4, k4', C4, M4, b1, b2, b3, b4, b5, b6, b7, b8, b9⟩ | ⟨C4, M4, fl, b4, b5, b6, b7, b8⟩
      · obtain ⟨C5, eC5⟩ : ∃ C5, C5 = up C4 (g + 2) r (nI u) := ⟨_, rfl⟩
        obtain ⟨C6, eC6⟩ : ∃ C6, C6 = up C5 g 1 (nI (r + 1)) := ⟨_, rfl⟩
        obtain ⟨M5, eM5⟩ : ∃ M5, M5 = up M4 77 (9 + r) (nI u) := ⟨_, rfl⟩
        obtain ⟨M6, eM6⟩ : ∃ M6, M6 = up M5 75 6 (nI (r + 1)) := ⟨_, rfl⟩
        have c2 : ∀ x, x ≠ 2 → C2 x = C x := fun x hx => (a8.1 x hx).trans (n5.1 x hx)
        have m2 : ∀ x, x ≠ 71 → M2 x = M x := fun x hx => (a9.1 x hx).trans (n6.1 x hx)
        have c6 : ∀ x, x ≠ 2 → x ≠ g → x ≠ g + 1 → x ≠ g + 2 → C6 x = C x := fun x h1 h2 h3 h4 => by rw [eC6, up_o h2, eC5, up_o h4, b8.1 x h1, eC3, up_o h3, c2 x h1]
        have c6g : ∀ k, k ≠ 1 → C6 g k = C g k := fun k hk => by rw [eC6, up_s, upd_o hk, eC5, up_o (by omega), b8.1 g gn.1, eC3, up_o (by omega), c2 g gn.1]
        have c61 : C6 (g + 1) = upd (C (g + 1)) r (nI v) := by rw [eC6, up_o (by omega), eC5, up_o (by omega), b8.1 _ (gn.2.2 1 (by decide)).1, eC3, up_s, c2 _ (gn.2.2 1 (by decide)).1]
        have c62 : C6 (g + 2) = upd (C (g + 2)) r (nI u) := by rw [eC6, up_o (by omega), eC5, up_s, b8.1 _ (gn.2.2 2 (by decide)).1, eC3, up_o (by omega), c2 _ (gn.2.2 2 (by decide)).1]
        have m6 : ∀ x, x ≠ 71 → x ≠ 75 → x ≠ 76 → x ≠ 77 → M6 x = M x := fun x h1 h2 h3 h4 => by rw [eM6, up_o h2, eM5, up_o h4, b9.1 x h1, eM3, up_o h3, m2 x h1]
        have m6k : ∀ k, k ≠ 6 → M6 75 k = M 75 k := fun k hk => by rw [eM6, up_s, upd_o hk, eM5, up_o (by decide), b9.1 75 (by decide), eM3, up_o (by decide), m2 75 (by decide)]
        have m66 : M6 76 = upd (M 76) (9 + r) (nI v) := by rw [eM6, up_o (by decide), eM5, up_o (by decide), b9.1 76 (by decide), eM3, up_s, m2 76 (by decide)]
        have m67 : M6 77 = upd (M 77) (9 + r) (nI u) := by rw [eM6, up_o (by decide), eM5, up_s, b9.1 77 (by decide), eM3, up_o (by decide), m2 77 (by decide)]
        have s11 : C6 2 11 = C 2 11 := by rw [eC6, up_o (Ne.symm gn.1), eC5, up_o (Ne.symm (gn.2.2 2 (by decide)).1), b8.2 11 (by decide), eC3, up_o (Ne.symm (gn.2.2 1 (by decide)).1), a8.2 11 (by decide), n5.2 11 (by decide)]
        have K6 : TK n tx C6 M6 p4 e4 k4' := TK_fr b6 (by rw [eC6, up_o (Ne.symm gn.1), eC5, up_o (Ne.symm (gn.2.2 2 (by decide)).1)]) (by rw [eC6, up_o (Ne.symm gn.2.1), eC5, up_o (Ne.symm (gn.2.2 2 (by decide)).2)]) (by rw [eM6, up_o (by decide), eM5, up_o (by decide)]) (by rw [eM6, up_o (by decide), eM5, up_o (by decide)])
        have S6 : GS g C6 M6 p4 bS bT bG := by
          refine ⟨s, r + 1, j, gSi_fr s1 (c6g 0 (by decide)) (m6k 5 (by decide)) s11, ⟨by rw [eC6, up_s, upd_s], by rw [eM6, up_s, upd_s], by omega, fun i hi => ?_⟩, gJd_fr s3 (c6g 2 (by decide)) (m6k 7 (by decide)) (c6 _ (gn.2.2 3 (by decide)).1 (by omega) (by omega) (by omega)) (c6 _ (gn.2.2 4 (by decide)).1 (by omega) (by omega) (by omega)) (c6 _ (gn.2.2 5 (by decide)).1 (by omega) (by omega) (by omega)) (c6 _ (gn.2.2 6 (by decide)).1 (by omega) (by omega) (by omega)) (m6 78 (by decide) (by decide) (by decide) (by decide)) (m6 79 (by decide) (by decide) (by decide) (by decide)) (m6 80 (by decide) (by decide) (by decide) (by decide)) (m6 81 (by decide) (by decide) (by decide) (by decide)), gRu_fr s4 (by omega) (fun k hk => c6g k (by omega)) (c6 _ (gn.2.2 7 (by decide)).1 (by omega) (by omega) (by omega)) (m6k 8 (by decide)) (m6k 9 (by decide)) (m6 82 (by decide) (by decide) (by decide) (by decide)) (m6 83 (by decide) (by decide) (by decide) (by decide))⟩
          rw [c61, c62, m66, m67]
          by_cases z : i = r
          · subst z
            exact ⟨v, u, by omega, by omega, upd_s, upd_s, upd_s, upd_s⟩
          · obtain ⟨x, y, x1, x2, x3, x4, x5, x6⟩ := r4 i (by omega)
            exact ⟨x, y, x1, x2, (upd_o z).trans x3, (upd_o (by omega)).trans x4, (upd_o z).trans x5, (upd_o (by omega)).trans x6⟩
        have lc : LFc g C C6 := fun x h1 h2 => c6 x h1 (by omega) (by omega) (by omega)
        have lm : LFm M M6 := LFm_trans (LFm_tf n6) (LFm_trans (LFm_tf a9) (LFm_trans (LFm_ue eM3 (by omega)) (LFm_trans (LFm_tf b9) (LFm_trans (LFm_ue eM5 (by omega)) (LFm_ue eM6 (by omega))))))
        have g51 : C5 g 1 = nI r := by rw [eC5, up_o (by omega), b8.1 g gn.1, eC3, up_o (by omega), c2 g gn.1]; exact r1
        have hc3 : ∀ (Mz : ST) (k1 vz : Nat) (O : Nat → Int64), f_X4_readReach N (HP C Mz (k1, g, 1, vz) O) 2 = (f_X4_readSign N (HP C6 Mz (k1, g, 1, vz) O) 2 59).bind fun r26 => if narrow .boolean (.int r26.1) = .int r26.1 then some (r26.1, r26.2) else none := fun Mz k1 vz O => by
          simp only [f_X4_readReach, ↓b_rdC, ↓b_rG hg, r1, c9, ↓reduceIte, ↓bnd (n2 Mz k1 vz O), ↓bnd (a4 Mz k1 vz O), t1, a7, ↓b_wGa hg, rl]
          rw [← eC3]
          simp only [↓b_rdC, ↓bnd (b4 Mz k1 vz O), t1, ↓reduceIte, ↓b_rG hg, b7, ↓b_wGa hg, rl]
          rw [← eC5]
          simp only [↓b_rdC, ↓b_rG hg, g51, nI_1, ↓b_wG hg]
          rw [← eC6]
        have hm3 : ∀ (Cz : ST) (k1 k2 k3 : Nat) (O : Nat → Int64), f_X7_sayReach N (HP Cz M (k1, k2, k3, vl) O) 71 = some (HP Cz M6 (k1, k2, k3, vl) O) := fun Cz k1 k2 k3 O => by
          have q5 : M5 75 6 = nI r := by rw [eM5, up_o (by decide), b9.1 75 (by decide), eM3, up_o (by decide), m2 75 (by decide)]; exact r2
          simp only [f_X7_sayReach, ↓b_rdM, ↓bnd (an Cz k1 k2 k3 O), t1, ↓reduceIte, ↓b_rlM, q75, n9, ↓bnd (a5 Cz k1 k2 k3 O), ↓b_waM, r18]
          rw [← eM3]
          simp only [↓b_rdM, ↓bnd (b5 Cz k1 k2 k3 O), n9, ↓b_waM, r18]
          rw [← eM5]
          simp only [↓b_rdM, ↓b_rlM, q5, nI_1, ↓b_wlM]
          rw [← eM6]
        rcases end_b (N := N) (vl := vl) hg K6 S6 (v1 := v1) (v3 := v3) hN with ⟨C7, M7, p7, e7, k7', y1, y2, y3, y4, y5, y6, y7⟩ | ⟨C7, M7, y1, y2, y3, y4, y5⟩
        · refine .inl ⟨C7, M7, p7, e7, k7', fun Mz k1 vz O => ?_, fun Cz k1 k2 k3 O => ?_, y3, y4, by omega, LFc_trans lc y6, LFm_trans lm y7⟩
          · refine Eq.trans (hc3 Mz k1 vz O) ?_
            simp only [↓bnd (y1 Mz k1 vz O), nb1, ↓reduceIte]
          · refine Eq.trans (bnd (hm3 Cz k1 k2 k3 O) _ _) ?_
            exact y2 Cz k1 k2 k3 O
        · refine .inr ⟨C7, M7, 1, p4, fun Mz k1 vz O => ?_, fun Cz k1 k2 k3 O => ?_, y3, LFc_trans lc y4, LFm_trans lm y5⟩
          · refine Eq.trans (hc3 Mz k1 vz O) ?_
            simp only [↓bnd (y1 Mz k1 vz O), nb0, ↓reduceIte]
          · refine Eq.trans (bnd (hm3 Cz k1 k2 k3 O) _ _) ?_
            exact y2 Cz k1 k2 k3 O
      · obtain ⟨M5, eM5⟩ : ∃ M5, M5 = up M4 77 (9 + r) 0 := ⟨_, rfl⟩
        have hf : FLT C4 (up M5 75 6 (M5 75 6 + 1)) fl p2 := FLT_fr b6 rfl (by rw [up_o (by decide), eM5, up_o (by decide)])
        refine .inr ⟨C4, _, fl, p2, fun Mz k1 vz O => ?_, fun Cz k1 k2 k3 O => ?_, hf, LFc_trans (LFc_tf n5) (LFc_trans (LFc_tf a8) (LFc_trans (LFc_ue eC3 (.inr ⟨by omega, by omega⟩)) b7)), LFm_trans (LFm_tf n6) (LFm_trans (LFm_tf a9) (LFm_trans (LFm_ue eM3 (by omega)) (LFm_trans b8 (LFm_trans (LFm_ue eM5 (by omega)) (LFm_up (by omega))))))⟩
        · simp only [f_X4_readReach, ↓b_rdC, ↓b_rG hg, r1, c9, ↓reduceIte, ↓bnd (n2 Mz k1 vz O), ↓bnd (a4 Mz k1 vz O), t1, a7, ↓b_wGa hg, rl]
          rw [← eC3]
          simp only [↓b_rdC, ↓bnd (b4 Mz k1 vz O), ↓reduceIte]
        · have hm3 : f_X7_sayReach N (HP Cz M (k1, k2, k3, vl) O) 71 = some (HP Cz (up M5 75 6 (M5 75 6 + 1)) (k1, k2, k3, vl) O) := by
            simp only [f_X7_sayReach, ↓b_rdM, ↓bnd (an Cz k1 k2 k3 O), t1, ↓reduceIte, ↓b_rlM, q75, n9, ↓bnd (a5 Cz k1 k2 k3 O), ↓b_waM, r18]
            rw [← eM3]
            simp only [↓b_rdM, ↓bnd (b5 Cz k1 k2 k3 O), n9, ↓b_waM, r18]
            rw [← eM5]
            simp only [↓b_rdM, ↓b_rlM, ↓b_wlM]
          refine Eq.trans (bnd hm3 _ _) ?_
          exact b138_d (FLT_ne hf) Cz k1 k2 k3 O
    · obtain ⟨M3, eM3⟩ : ∃ M3, M3 = up M2 76 (9 + r) 0 := ⟨_, rfl⟩
      obtain ⟨M5, eM5⟩ : ∃ M5, M5 = up M3 77 (9 + r) 0 := ⟨_, rfl⟩
      have hz3 : ¬ M3 71 24 = 0 := by rw [eM3, up_o (by decide)]; exact FLT_ne a6
      have hf : FLT C2 (up M5 75 6 (M5 75 6 + 1)) fl p1 := FLT_fr a6 rfl (by rw [up_o (by decide), eM5, up_o (by decide), eM3, up_o (by decide)])
      refine .inr ⟨C2, _, fl, p1, fun Mz k1 vz O => ?_, fun Cz k1 k2 k3 O => ?_, hf, LFc_trans (LFc_tf n5) a7, LFm_trans (LFm_tf n6) (LFm_trans a8 (LFm_trans (LFm_ue eM3 (by omega)) (LFm_trans (LFm_ue eM5 (by omega)) (LFm_up (by omega)))))⟩
      · simp only [f_X4_readReach, ↓b_rdC, ↓b_rG hg, r1, c9, ↓reduceIte, ↓bnd (n2 Mz k1 vz O), ↓bnd (a4 Mz k1 vz O)]
      · have hm3 : f_X7_sayReach N (HP Cz M (k1, k2, k3, vl) O) 71 = some (HP Cz (up M5 75 6 (M5 75 6 + 1)) (k1, k2, k3, vl) O) := by
          simp only [f_X7_sayReach, ↓b_rdM, ↓bnd (an Cz k1 k2 k3 O), t1, ↓reduceIte, ↓b_rlM, q75, n9, ↓bnd (a5 Cz k1 k2 k3 O), ↓b_waM, r18]
          rw [← eM3]
          simp only [↓b_rdM, ↓bnd (num_d (N := N) (vl := vl) hz3 Cz k1 k2 k3 O), n9, ↓b_waM, r18]
          rw [← eM5]
          simp only [↓b_rdM, ↓b_rlM, ↓b_wlM]
        refine Eq.trans (bnd hm3 _ _) ?_
        exact b138_d (FLT_ne hf) Cz k1 k2 k3 O
end S82
