/-! agree, still, stay -/
theorem lts {k n : Nat} (h : k < n) (hn : n ≤ 1000) : ¬ nI n < nI (k + 1) := nI_nlt (a := n) (b := k + 1) (by omega) (by omega)
theorem lte {n : Nat} (hn : n ≤ 1000) : nI n < nI (n + 1) := nI_lt (by omega) (by omega)
section S46
variable {C C0 M M1 W T : ST} {K : KT} {O : Nat → Int64} {N : Nat} {G : GT} {b : Bool}
set_option maxHeartbeats 4000000 in
theorem g_agree {a c d : Int32} (hc : CI K C G W) (hm : MI M G W) (hN : 1000 ≤ N) (hj : inR a (gJ G)) (hi : inR c (gJ G)) (hs : btw d 1 60) : ∃ r, QC K C M O (f_X6_agree N (HP C M K O) 0 a c d) r ∧ ∀ C' O', QM C' M K O' (f_X7_agree N (HP C' M K O') 71 a c d) r := by
  have m0 := m0_of hm
  have hj' := hj
  obtain ⟨j, hj1, rfl⟩ := hj'
  have hi' := hi
  obtain ⟨i, hi1, rfl⟩ := hi'
  have hs' := hs
  obtain ⟨n, _, hn, rfl⟩ := hs'
  have j8 : j < 8 := by have := hm.1.2.2.1; omega
  have i8 : i < 8 := by have := hm.1.2.2.1; omega
  obtain ⟨C1, t1, T1⟩ := tryFor0 (M := M) (O := O) hc (fun _ _ => rfl) hN
  refine ⟨.inr (ct G (fun X => decide (¬ X 1 j < 0 ∧ ¬ X 1 i < 0 ∧ X 2 j = X 2 i)) (clr W) n), ?_, fun C' O' => ?_⟩
  · have q := itr_inv (body := fun s : Int32 × Int32 × AH => f_X6_agree_l27 N 0 (nI j) (nI i) (nI n) s.1 s.2.1 s.2.2)
      (fun k s => ∃ C', s = (ct G (fun X => decide (¬ X 1 j < 0 ∧ ¬ X 1 i < 0 ∧ X 2 j = X 2 i)) (clr W) k, nI (k + 1), HP C' M K O) ∧ TC G C C' (passN G k (clr W)))
      (P := fun r => ∃ C', r = (ct G (fun X => decide (¬ X 1 j < 0 ∧ ¬ X 1 i < 0 ∧ X 2 j = X 2 i)) (clr W) n, HP C' M K O) ∧ ∀ a, a < 54 → C' a = C a) (n := n) ?_ ?_ (s := (0, 1, HP C1 M K O)) ⟨C1, rfl, T1⟩ (N := N) (by omega)
    · obtain ⟨r, q1, C2, e, q2⟩ := q
      rw [e] at q1
      refine ⟨C2, ?_, q2⟩
      simp only [f_X6_agree, f_X6_agree_b27, ↓b_rdC, ↓Sum.elim_inr, ↓bnd (needJ_y hc hj), ↓bnd (needJ_y hc hi), ↓bnd (nT160_y hs), ↓bnd t1, q1, Option.bind_some]
    · rintro k s hk ⟨C2, rfl, h1⟩
      left
      obtain ⟨C3, t1, t2⟩ := TC_pass (M := M) (O := O) hc h1 0 hN
      have e1 := t2.2.1.2.1 1 j (by omega) (by omega) hj1
      have e2 := t2.2.1.2.1 1 i (by omega) (by omega) hi1
      have e3 := t2.2.1.2.1 2 j (by omega) (by omega) hj1
      have e4 := t2.2.1.2.1 2 i (by omega) (by omega) hi1
      refine ⟨(ct G (fun X => decide (¬ X 1 j < 0 ∧ ¬ X 1 i < 0 ∧ X 2 j = X 2 i)) (clr W) (k + 1), nI (k + 1 + 1), HP C3 M K O), ?_, C3, rfl, t2⟩
      simp only [f_X6_agree_l27, f_X6_agree_b93, lts hk (by omega), ↓reduceIte, ↓b_rdC, ↓bnd t1, ↓b_rW w54, ↓b_rWa w54, j8, i8, e1, e2, e3, e4, nI_1, ct, passN, decide_eq_true_eq]
      by_cases z1 : passV G 0 (passN G k (clr W)) 1 j < 0
      · simp only [z1, ↓reduceIte, not_true_eq_false, false_and, decide_true, decide_false, Bool.false_eq_true, decide_eq_true_eq]
      · by_cases z2 : passV G 0 (passN G k (clr W)) 1 i < 0
        · simp only [z1, z2, ↓reduceIte, not_true_eq_false, false_and, and_false, decide_true, decide_false, Bool.false_eq_true, decide_eq_true_eq]
        · by_cases z3 : passV G 0 (passN G k (clr W)) 2 j = passV G 0 (passN G k (clr W)) 2 i
          · simp only [z1, z2, z3, ↓reduceIte, not_false_eq_true, and_self, decide_true, decide_false, Bool.false_eq_true, decide_eq_true_eq]
          · simp only [z1, z2, z3, ↓reduceIte, and_false, decide_true, decide_false, Bool.false_eq_true, decide_eq_true_eq]
    · rintro s ⟨C2, rfl, h1⟩
      refine ⟨_, ?_, C2, rfl, h1.1⟩
      simp only [f_X6_agree_l27, lte (show n ≤ 1000 by omega), ↓reduceIte]
  · obtain ⟨M1, p1, p2⟩ := TQ_pack (C := C') (K := K) (O := O') hm hN
    have q := itr_inv (body := fun s : Int32 × Int32 × AH => f_X7_agree_l60 N 71 (nI j) (nI i) (nI n) s.1 s.2.1 s.2.2)
      (fun k s => ∃ M', s = (ct G (fun X => decide (¬ X 1 j < 0 ∧ ¬ X 1 i < 0 ∧ X 2 j = X 2 i)) (clr W) k, nI k, HP C' M' K O') ∧ TQ G false M M' (passN G k (clr W)))
      (P := fun r => ∃ M' X, r = (ct G (fun X => decide (¬ X 1 j < 0 ∧ ¬ X 1 i < 0 ∧ X 2 j = X 2 i)) (clr W) n, HP C' M' K O') ∧ TQ G false M M' X) (n := n) ?_ ?_ (s := (0, 0, HP C' M1 K O')) ⟨M1, rfl, p2⟩ (N := N) (by omega)
    · obtain ⟨r, q1, M2, X, e, q2⟩ := q
      rw [e] at q1
      obtain ⟨M3, u1, u2, _, _⟩ := TQ_back (C := C') (K := K) (O := O') q2 hN
      refine ⟨_, M3, ?_, u2.1, u2.2.2, rfl⟩
      simp only [f_X7_agree, f_X7_agree_b60, ↓b_wrM, ↓b_rdM, ↓reduceIte, show ¬ (1 : Int32) = 0 by decide, ↓bnd (isJ_y m0.2.1 hm.1 hj), ↓bnd (isJ_y m0.2.1 hm.1 hi), ↓bnd (bT160_y hs), ↓bnd p1, q1, Option.bind_some, ↓bnd u1]
    · rintro k s hk ⟨M2, rfl, h1⟩
      left
      obtain ⟨M3, t1, t2⟩ := TQ_one (C := C') (K := K) (O := O') hm h1 hN
      obtain ⟨e1, e3, _⟩ := (TQ_w t2).2.2.1 j hj1
      obtain ⟨e2, e4, _⟩ := (TQ_w t2).2.2.1 i hi1
      refine ⟨(ct G (fun X => decide (¬ X 1 j < 0 ∧ ¬ X 1 i < 0 ∧ X 2 j = X 2 i)) (clr W) (k + 1), nI (k + 1), HP C' M3 K O'), ?_, M3, rfl, t2⟩
      simp only [f_X7_agree_l60, f_X7_agree_b110, f_X7_agree_b111, nle hk (by omega), ↓reduceIte, ↓b_rdM, ↓b_raM, ↓bnd t1, j8, i8, e1, e2, e3, e4, nI_1, ct, passN, decide_eq_true_eq]
      by_cases z1 : passV G 0 (passN G k (clr W)) 1 j < 0
      · simp only [z1, ↓reduceIte, not_true_eq_false, false_and, Int32.add_zero, decide_true, decide_false, Bool.false_eq_true, decide_eq_true_eq]
      · by_cases z2 : passV G 0 (passN G k (clr W)) 1 i < 0
        · simp only [z1, z2, ↓reduceIte, not_true_eq_false, false_and, and_false, Int32.add_zero, decide_true, decide_false, Bool.false_eq_true, decide_eq_true_eq]
        · by_cases z3 : passV G 0 (passN G k (clr W)) 2 j = passV G 0 (passN G k (clr W)) 2 i
          · simp only [z1, z2, z3, ↓reduceIte, not_false_eq_true, and_self, Int32.add_zero, decide_true, decide_false, Bool.false_eq_true, decide_eq_true_eq]
          · simp only [z1, z2, z3, ↓reduceIte, and_false, Int32.add_zero, decide_true, decide_false, Bool.false_eq_true, decide_eq_true_eq]
    · rintro s ⟨M2, rfl, h1⟩
      refine ⟨_, ?_, M2, _, rfl, h1⟩
      simp only [f_X7_agree_l60, yle (Nat.le_refl n) (by omega), ↓reduceIte]
set_option maxHeartbeats 4000000 in
theorem q_agree {a c d : Int32} (hc : CI K C G W) (hm : MI M G W) (hN : 1000 ≤ N) : ∃ r, QC K C M O (f_X6_agree N (HP C M K O) 0 a c d) r ∧ ∀ C' O', QM C' M K O' (f_X7_agree N (HP C' M K O') 71 a c d) r := by
  have m0 := MI_EQ hm (EQ_code M 0)
  by_cases h0 : inR a (gJ G)
  ·
    by_cases h1 : inR c (gJ G)
    ·
      by_cases h2 : btw d 1 60
      · exact g_agree hc hm hN h0 h1 h2
      · refine ⟨.inl 2, ⟨C, ?_, fun _ _ => rfl⟩, fun C' O' => ?_⟩
        · simp only [f_X6_agree_b93, f_X6_agree_b27, f_X6_agree, ↓b_rdC, ↓Sum.elim_inr, ↓Sum.elim_inl, ↓bnd (needJ_y hc h0), ↓bnd (needJ_y hc h1), ↓bnd (nT160_n h2)]
        · obtain ⟨M', f1, f2, f3⟩ := QM_fail (N := N) (C := C') (M := M) (K := K) (O := O') (k := 2) (kv := 2) rfl
          refine ⟨0, M', ?_, f2, f3⟩
          simp only [f_X7_agree_b21, f_X7_agree_b111, f_X7_agree_b110, f_X7_agree_b60, f_X7_agree, ↓b_wrM, ↓b_rdM, ↓reduceIte, show ¬ (1 : Int32) = 0 by decide, ↓bnd (isJ_y m0.2.1 hm.1 h0), ↓bnd (isJ_y m0.2.1 hm.1 h1), ↓bnd (bT160_n h2), ↓bnd f1]
    · refine ⟨.inl 1, ⟨C, ?_, fun _ _ => rfl⟩, fun C' O' => ?_⟩
      · simp only [f_X6_agree_b93, f_X6_agree_b27, f_X6_agree, ↓b_rdC, ↓Sum.elim_inr, ↓Sum.elim_inl, ↓bnd (needJ_y hc h0), ↓bnd (needJ_n hc h1)]
      · obtain ⟨M', f1, f2, f3⟩ := QM_fail (N := N) (C := C') (M := M) (K := K) (O := O') (k := 1) (kv := 1) rfl
        refine ⟨0, M', ?_, f2, f3⟩
        simp only [f_X7_agree_b21, f_X7_agree_b111, f_X7_agree_b110, f_X7_agree_b60, f_X7_agree, ↓b_wrM, ↓b_rdM, ↓reduceIte, show ¬ (1 : Int32) = 0 by decide, ↓bnd (isJ_y m0.2.1 hm.1 h0), ↓bnd (isJ_n m0.2.1 hm.1 h1), ↓bnd f1]
  · refine ⟨.inl 1, ⟨C, ?_, fun _ _ => rfl⟩, fun C' O' => ?_⟩
    · simp only [f_X6_agree_b93, f_X6_agree_b27, f_X6_agree, ↓b_rdC, ↓Sum.elim_inr, ↓Sum.elim_inl, ↓bnd (needJ_n hc h0)]
    · obtain ⟨M', f1, f2, f3⟩ := QM_fail (N := N) (C := C') (M := M) (K := K) (O := O') (k := 1) (kv := 1) rfl
      refine ⟨0, M', ?_, f2, f3⟩
      simp only [f_X7_agree_b21, f_X7_agree_b111, f_X7_agree_b110, f_X7_agree_b60, f_X7_agree, ↓b_wrM, ↓b_rdM, ↓reduceIte, show ¬ (1 : Int32) = 0 by decide, ↓bnd (isJ_n m0.2.1 hm.1 h0), ↓bnd f1]
set_option maxHeartbeats 4000000 in
theorem g_still {a d c : Int32} (hc : CI K C G W) (hm : MI M G W) (hN : 1000 ≤ N) (hj : inR a (gJ G)) (hw : btw c 0 1) (hs : btw d 1 60) : ∃ r, QC K C M O (f_X6_still N (HP C M K O) 0 a d c) r ∧ ∀ C' O', QM C' M K O' (f_X7_still N (HP C' M K O') 71 a d c) r := by
  have m0 := m0_of hm
  have hj' := hj
  obtain ⟨j, hj1, rfl⟩ := hj'
  have hs' := hs
  obtain ⟨n, _, hn, rfl⟩ := hs'
  have j8 : j < 8 := by have := hm.1.2.2.1; omega
  obtain ⟨C1, t1, T1⟩ := tryFor0 (M := M) (O := O) hc (fun _ _ => rfl) hN
  refine ⟨.inr (ct G (fun X => decide (¬ X 1 j < 0 ∧ (if c = 0 then X 6 (X 1 j).toNatClampNeg = 0 else bc (setAt G X (X 1 j)) = 1))) (clr W) n), ?_, fun C' O' => ?_⟩
  · have q := itr_inv (body := fun s : Int32 × Int32 × AH => f_X6_still_l27 N 0 (nI j) (nI n) c s.1 s.2.1 s.2.2)
      (fun k s => ∃ C', s = (ct G (fun X => decide (¬ X 1 j < 0 ∧ (if c = 0 then X 6 (X 1 j).toNatClampNeg = 0 else bc (setAt G X (X 1 j)) = 1))) (clr W) k, nI (k + 1), HP C' M K O) ∧ TC G C C' (passN G k (clr W)))
      (P := fun r => ∃ C', r = (ct G (fun X => decide (¬ X 1 j < 0 ∧ (if c = 0 then X 6 (X 1 j).toNatClampNeg = 0 else bc (setAt G X (X 1 j)) = 1))) (clr W) n, HP C' M K O) ∧ ∀ a, a < 54 → C' a = C a) (n := n) ?_ ?_ (s := (0, 1, HP C1 M K O)) ⟨C1, rfl, T1⟩ (N := N) (by omega)
    · obtain ⟨r, q1, C2, e, q2⟩ := q
      rw [e] at q1
      refine ⟨C2, ?_, q2⟩
      simp only [f_X6_still, f_X6_still_b27, ↓b_rdC, ↓Sum.elim_inr, ↓bnd (needJ_y hc hj), ↓bnd (nW1_y hw), ↓bnd (nT160_y hs), ↓bnd t1, q1, Option.bind_some]
    · rintro k s hk ⟨C2, rfl, h1⟩
      left
      obtain ⟨C3, t1, t2⟩ := TC_pass (M := M) (O := O) hc h1 0 hN
      have hc3 := CI_of hc t2.1
      refine ⟨(ct G (fun X => decide (¬ X 1 j < 0 ∧ (if c = 0 then X 6 (X 1 j).toNatClampNeg = 0 else bc (setAt G X (X 1 j)) = 1))) (clr W) (k + 1), nI (k + 1 + 1), HP C3 M K O), ?_, C3, rfl, t2⟩
      simp only [f_X6_still_l27, f_X6_still_b78, f_X6_still_b81, lts hk (by omega), ↓reduceIte, ↓b_rdC, ↓bnd t1, ↓bnd (isOnPool_c (N := N) (M := M) (K := K) (O := O) hc3.2.1 t2.2.1 t2.2.2 hj1), ↓bnd (isAlone_c (N := N) (M := M) (K := K) (O := O) hc3.1 hc3.2.1 hc3.2.2.1 t2.2.1 hj1 hN), nI_1, ct, passN, decide_eq_true_eq]
      by_cases z0 : c = 0
      · simp only [z0, ↓reduceIte]
        by_cases z : ¬ passV G 0 (passN G k (clr W)) 1 j < 0 ∧ passV G 0 (passN G k (clr W)) 6 (passV G 0 (passN G k (clr W)) 1 j).toNatClampNeg = 0
        · rw [if_pos z, if_neg (by decide), if_pos (decide_eq_true z)]
        · rw [if_neg z, if_pos rfl, if_neg (fun q => z (of_decide_eq_true q))]
      · simp only [z0, ↓reduceIte]
        by_cases z : ¬ passV G 0 (passN G k (clr W)) 1 j < 0 ∧ bc (setAt G (passV G 0 (passN G k (clr W))) (passV G 0 (passN G k (clr W)) 1 j)) = 1
        · rw [if_pos z, if_neg (by decide), if_pos (decide_eq_true z)]
        · rw [if_neg z, if_pos rfl, if_neg (fun q => z (of_decide_eq_true q))]
    · rintro s ⟨C2, rfl, h1⟩
      refine ⟨_, ?_, C2, rfl, h1.1⟩
      simp only [f_X6_still_l27, lte (show n ≤ 1000 by omega), ↓reduceIte]
  · obtain ⟨M1, p1, p2⟩ := TQ_pack (C := C') (K := K) (O := O') hm hN
    have q := itr_inv (body := fun s : Int32 × Int32 × AH => f_X7_still_l62 N 71 (nI j) (nI n) c s.1 s.2.1 s.2.2)
      (fun k s => ∃ M', s = (ct G (fun X => decide (¬ X 1 j < 0 ∧ (if c = 0 then X 6 (X 1 j).toNatClampNeg = 0 else bc (setAt G X (X 1 j)) = 1))) (clr W) k, nI k, HP C' M' K O') ∧ TQ G false M M' (passN G k (clr W)))
      (P := fun r => ∃ M' X, r = (ct G (fun X => decide (¬ X 1 j < 0 ∧ (if c = 0 then X 6 (X 1 j).toNatClampNeg = 0 else bc (setAt G X (X 1 j)) = 1))) (clr W) n, HP C' M' K O') ∧ TQ G false M M' X) (n := n) ?_ ?_ (s := (0, 0, HP C' M1 K O')) ⟨M1, rfl, p2⟩ (N := N) (by omega)
    · obtain ⟨r, q1, M2, X, e, q2⟩ := q
      rw [e] at q1
      obtain ⟨M3, u1, u2, _, _⟩ := TQ_back (C := C') (K := K) (O := O') q2 hN
      refine ⟨_, M3, ?_, u2.1, u2.2.2, rfl⟩
      simp only [f_X7_still, f_X7_still_b62, ↓b_wrM, ↓b_rdM, ↓reduceIte, show ¬ (1 : Int32) = 0 by decide, ↓bnd (isJ_y m0.2.1 hm.1 hj), ↓bnd (bW1_y hw), ↓bnd (bT160_y hs), ↓bnd p1, q1, Option.bind_some, ↓bnd u1]
    · rintro k s hk ⟨M2, rfl, h1⟩
      left
      obtain ⟨M3, t1, t2⟩ := TQ_one (C := C') (K := K) (O := O') hm h1 hN
      have e1 := ((TQ_w t2).2.2.1 j hj1).1
      refine ⟨(ct G (fun X => decide (¬ X 1 j < 0 ∧ (if c = 0 then X 6 (X 1 j).toNatClampNeg = 0 else bc (setAt G X (X 1 j)) = 1))) (clr W) (k + 1), nI (k + 1), HP C' M3 K O'), ?_, M3, rfl, t2⟩
      by_cases z : passV G 0 (passN G k (clr W)) 1 j < 0
      · have z' : ¬ 0 ≤ passV G 0 (passN G k (clr W)) 1 j := by rw [Int32.le_iff_toInt_le]; rw [Int32.lt_iff_toInt_lt] at z; omega
        simp only [f_X7_still_l62, f_X7_still_b138, nle hk (by omega), ↓reduceIte, ↓b_rdM, ↓b_raM, ↓bnd t1, j8, e1, z', nI_1, ct, passN, decide_eq_true_eq, z, not_true_eq_false, false_and]
      · obtain ⟨r, hr, er⟩ : ∃ r, r < gRn G ∧ passV G 0 (passN G k (clr W)) 1 j = nI r := by
          rcases ((TQ_o t2).1 j hj1).1 with q | q | q
          · rw [q] at z; exact absurd (by decide) z
          · rw [q] at z; exact absurd (by decide) z
          · exact q
        have r9 : r < 9 := by have := hm.1.2.1; omega
        have e6 := ((TQ_w t2).2.2.2 r hr).1
        rw [er] at e1
        have z' : 0 ≤ nI r := nI_pos' (by omega)
        have z2 : ¬ nI r < 0 := nI_pos (by omega)
        simp only [f_X7_still_l62, f_X7_still_b138, f_X7_still_b135, nle hk (by omega), ↓reduceIte, ↓b_rdM, ↓b_raM, ↓bnd t1, j8, r9, e1, e6, z', nI_1, ct, passN, decide_eq_true_eq, er, z2, not_false_eq_true, true_and, nI_clampN (show r < 10000 by omega), ↓bnd (whoIs_w hm.1 (TQ_g hm t2) (TQ_w t2) hN _), ↓bnd (bitsAt hm.1 _ hN), Int32.add_zero]
        by_cases z0 : c = 0
        · simp only [z0, ↓reduceIte]
          split <;> rfl
        · simp only [z0, ↓reduceIte]
          split <;> rfl
    · rintro s ⟨M2, rfl, h1⟩
      refine ⟨_, ?_, M2, _, rfl, h1⟩
      simp only [f_X7_still_l62, yle (Nat.le_refl n) (by omega), ↓reduceIte]
set_option maxHeartbeats 4000000 in
theorem q_still {a d c : Int32} (hc : CI K C G W) (hm : MI M G W) (hN : 1000 ≤ N) : ∃ r, QC K C M O (f_X6_still N (HP C M K O) 0 a d c) r ∧ ∀ C' O', QM C' M K O' (f_X7_still N (HP C' M K O') 71 a d c) r := by
  have m0 := MI_EQ hm (EQ_code M 0)
  by_cases h0 : inR a (gJ G)
  ·
    by_cases h1 : btw c 0 1
    ·
      by_cases h2 : btw d 1 60
      · exact g_still hc hm hN h0 h1 h2
      · refine ⟨.inl 2, ⟨C, ?_, fun _ _ => rfl⟩, fun C' O' => ?_⟩
        · simp only [f_X6_still_b81, f_X6_still_b78, f_X6_still_b27, f_X6_still, ↓b_rdC, ↓Sum.elim_inr, ↓Sum.elim_inl, ↓bnd (needJ_y hc h0), ↓bnd (nW1_y h1), ↓bnd (nT160_n h2)]
        · obtain ⟨M', f1, f2, f3⟩ := QM_fail (N := N) (C := C') (M := M) (K := K) (O := O') (k := 2) (kv := 2) rfl
          refine ⟨0, M', ?_, f2, f3⟩
          simp only [f_X7_still_b23, f_X7_still_b138, f_X7_still_b135, f_X7_still_b62, f_X7_still, ↓b_wrM, ↓b_rdM, ↓reduceIte, show ¬ (1 : Int32) = 0 by decide, ↓bnd (isJ_y m0.2.1 hm.1 h0), ↓bnd (bW1_y h1), ↓bnd (bT160_n h2), ↓bnd f1]
    · refine ⟨.inl 1, ⟨C, ?_, fun _ _ => rfl⟩, fun C' O' => ?_⟩
      · simp only [f_X6_still_b81, f_X6_still_b78, f_X6_still_b27, f_X6_still, ↓b_rdC, ↓Sum.elim_inr, ↓Sum.elim_inl, ↓bnd (needJ_y hc h0), ↓bnd (nW1_n h1)]
      · obtain ⟨M', f1, f2, f3⟩ := QM_fail (N := N) (C := C') (M := M) (K := K) (O := O') (k := 1) (kv := 1) rfl
        refine ⟨0, M', ?_, f2, f3⟩
        simp only [f_X7_still_b23, f_X7_still_b138, f_X7_still_b135, f_X7_still_b62, f_X7_still, ↓b_wrM, ↓b_rdM, ↓reduceIte, show ¬ (1 : Int32) = 0 by decide, ↓bnd (isJ_y m0.2.1 hm.1 h0), ↓bnd (bW1_n h1), ↓bnd f1]
  · refine ⟨.inl 1, ⟨C, ?_, fun _ _ => rfl⟩, fun C' O' => ?_⟩
    · simp only [f_X6_still_b81, f_X6_still_b78, f_X6_still_b27, f_X6_still, ↓b_rdC, ↓Sum.elim_inr, ↓Sum.elim_inl, ↓bnd (needJ_n hc h0)]
    · obtain ⟨M', f1, f2, f3⟩ := QM_fail (N := N) (C := C') (M := M) (K := K) (O := O') (k := 1) (kv := 1) rfl
      refine ⟨0, M', ?_, f2, f3⟩
      simp only [f_X7_still_b23, f_X7_still_b138, f_X7_still_b135, f_X7_still_b62, f_X7_still, ↓b_wrM, ↓b_rdM, ↓reduceIte, show ¬ (1 : Int32) = 0 by decide, ↓bnd (isJ_n m0.2.1 hm.1 h0), ↓bnd f1]
set_option maxHeartbeats 4000000 in
theorem g_stay {a : Int32} (hc : CI K C G W) (hm : MI M G W) (hN : 1000 ≤ N) (hj : inR a (gJ G)) : ∃ r, QC K C M O (f_X6_stay N (HP C M K O) 0 a) r ∧ ∀ C' O', QM C' M K O' (f_X7_stay N (HP C' M K O') 71 a) r := by
  have m0 := m0_of hm
  have hj' := hj
  obtain ⟨j, hj1, rfl⟩ := hj'
  have j8 : j < 8 := by have := hm.1.2.2.1; omega
  obtain ⟨C1, t1, T1⟩ := tryFor0 (M := M) (O := O) hc (fun _ _ => rfl) hN
  refine ⟨.inr (sx G j (clr W) 60).1, ?_, fun C' O' => ?_⟩
  · have q := itr_inv (body := fun s : Int32 × Int32 × Int32 × Int32 × AH => f_X6_stay_l19 N 0 (nI j) s.1 s.2.1 s.2.2.1 s.2.2.2.1 s.2.2.2.2)
      (fun k s => ∃ C', s = ((sx G j (clr W) k).1, (sx G j (clr W) k).2.1, (sx G j (clr W) k).2.2, nI (k + 1), HP C' M K O) ∧ TC G C C' (passN G k (clr W)))
      (P := fun r => ∃ C', r = ((sx G j (clr W) 60).1, HP C' M K O) ∧ ∀ a, a < 54 → C' a = C a) (n := 60) ?_ ?_ (s := (0, 0, -1, 1, HP C1 M K O)) ⟨C1, rfl, T1⟩ (N := N) (by omega)
    · obtain ⟨r, q1, C2, e, q2⟩ := q
      rw [e] at q1
      refine ⟨C2, ?_, q2⟩
      simp only [f_X6_stay, f_X6_stay_b19, ↓b_rdC, ↓Sum.elim_inr, ↓bnd (needJ_y hc hj), ↓bnd t1, q1, Option.bind_some]
    · rintro k s hk ⟨C2, rfl, h1⟩
      left
      obtain ⟨C3, t1, t2⟩ := TC_pass (M := M) (O := O) hc h1 0 hN
      have e1 := t2.2.1.2.1 1 j (by omega) (by omega) hj1
      refine ⟨((sx G j (clr W) (k + 1)).1, (sx G j (clr W) (k + 1)).2.1, (sx G j (clr W) (k + 1)).2.2, nI (k + 1 + 1), HP C3 M K O), ?_, C3, rfl, t2⟩
      have n60 : ¬ (60 : Int32) < nI (k + 1) := gt60 (by omega)
      simp only [f_X6_stay_l19, f_X6_stay_b59, f_X6_stay_b83, n60, ↓reduceIte, ↓b_rdC, ↓bnd t1, ↓b_rW w54, ↓b_rWa w54, j8, e1, nI_1, sx, passN]
      by_cases z : passV G 0 (passN G k (clr W)) 1 j = (sx G j (clr W) k).2.2
      · simp only [z, ↓reduceIte]
        split
        · rfl
        · split <;> rfl
      · simp only [z, ↓reduceIte]
        split
        · rfl
        · split <;> rfl
    · rintro s ⟨C2, rfl, h1⟩
      refine ⟨_, ?_, C2, rfl, h1.1⟩
      simp only [f_X6_stay_l19, show (60 : Int32) < nI (60 + 1) by decide, ↓reduceIte]
  · obtain ⟨M1, p1, p2⟩ := TQ_pack (C := C') (K := K) (O := O') hm hN
    have q := itr_inv (body := fun s : Int32 × Int32 × Int32 × Int32 × AH => f_X7_stay_l38 N 71 (nI j) s.1 s.2.1 s.2.2.1 s.2.2.2.1 s.2.2.2.2)
      (fun k s => ∃ M', s = ((sy G j (clr W) k).1, (sy G j (clr W) k).2.1, (sy G j (clr W) k).2.2, nI k, HP C' M' K O') ∧ TQ G false M M' (passN G k (clr W)))
      (P := fun r => ∃ M' X, r = ((sy G j (clr W) 60).1, HP C' M' K O') ∧ TQ G false M M' X) (n := 60) ?_ ?_ (s := (0, 0, -1, 0, HP C' M1 K O')) ⟨M1, rfl, p2⟩ (N := N) (by omega)
    · obtain ⟨r, q1, M2, X, e, q2⟩ := q
      rw [e] at q1
      obtain ⟨M3, u1, u2, _, _⟩ := TQ_back (C := C') (K := K) (O := O') q2 hN
      refine ⟨(sy G j (clr W) 60).1, M3, ?_, u2.1, u2.2.2, (sxy G j (clr W) 60).1.symm⟩
      simp only [f_X7_stay, f_X7_stay_b38, ↓b_wrM, ↓b_rdM, ↓reduceIte, show ¬ (1 : Int32) = 0 by decide, ↓bnd (isJ_y m0.2.1 hm.1 hj), ↓bnd p1, q1, Option.bind_some, ↓bnd u1]
    · rintro k s hk ⟨M2, rfl, h1⟩
      left
      obtain ⟨M3, t1, t2⟩ := TQ_one (C := C') (K := K) (O := O') hm h1 hN
      have e1 := ((TQ_w t2).2.2.1 j hj1).1
      refine ⟨((sy G j (clr W) (k + 1)).1, (sy G j (clr W) (k + 1)).2.1, (sy G j (clr W) (k + 1)).2.2, nI (k + 1), HP C' M3 K O'), ?_, M3, rfl, t2⟩
      simp only [f_X7_stay_l38, f_X7_stay_b81, ge60 hk, ↓reduceIte, ↓b_rdM, ↓b_raM, ↓bnd t1, j8, e1, nI_1, sy, passN]
      by_cases z0 : 0 ≤ passV G 0 (passN G k (clr W)) 1 j
      · by_cases z : passV G 0 (passN G k (clr W)) 1 j = (sy G j (clr W) k).2.2
        · rw [z] at z0
          simp only [z0, z, ↓reduceIte]
        · simp only [z0, z, ↓reduceIte]
      · simp only [z0, ↓reduceIte]
    · rintro s ⟨M2, rfl, h1⟩
      refine ⟨_, ?_, M2, _, rfl, h1⟩
      simp only [f_X7_stay_l38, show (60 : Int32) ≤ nI 60 by decide, ↓reduceIte]
set_option maxHeartbeats 4000000 in
theorem q_stay {a : Int32} (hc : CI K C G W) (hm : MI M G W) (hN : 1000 ≤ N) : ∃ r, QC K C M O (f_X6_stay N (HP C M K O) 0 a) r ∧ ∀ C' O', QM C' M K O' (f_X7_stay N (HP C' M K O') 71 a) r := by
  have m0 := MI_EQ hm (EQ_code M 0)
  by_cases h0 : inR a (gJ G)
  · exact g_stay hc hm hN h0
  · refine ⟨.inl 1, ⟨C, ?_, fun _ _ => rfl⟩, fun C' O' => ?_⟩
    · simp only [f_X6_stay_b83, f_X6_stay_b59, f_X6_stay_b19, f_X6_stay, ↓b_rdC, ↓Sum.elim_inr, ↓Sum.elim_inl, ↓bnd (needJ_n hc h0)]
    · obtain ⟨M', f1, f2, f3⟩ := QM_fail (N := N) (C := C') (M := M) (K := K) (O := O') (k := 1) (kv := 1) rfl
      refine ⟨0, M', ?_, f2, f3⟩
      simp only [f_X7_stay_b81, f_X7_stay_b38, f_X7_stay, ↓b_wrM, ↓b_rdM, ↓reduceIte, show ¬ (1 : Int32) = 0 by decide, ↓bnd (isJ_n m0.2.1 hm.1 h0), ↓bnd f1]
end S46
