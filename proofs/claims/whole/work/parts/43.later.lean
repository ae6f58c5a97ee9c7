/-! bits -/
theorem nI_xor (a b : Nat) : nI a ^^^ nI b = nI (a ^^^ b) := by
  unfold nI
  apply Int32.toBitVec_inj.mp
  simp
theorem nI_and (a b : Nat) : nI a &&& nI b = nI (a &&& b) := by
  unfold nI
  apply Int32.toBitVec_inj.mp
  simp
theorem nI_or (a b : Nat) : nI a ||| nI b = nI (a ||| b) := by
  unfold nI
  apply Int32.toBitVec_inj.mp
  simp
theorem andnot (x y : Int32) : x &&& (y ^^^ (-1)) = x ^^^ (x &&& y) := by
  apply Int32.toBitVec_inj.mp
  apply BitVec.eq_of_getLsbD_eq
  intro i hi
  simp [hi, show (-1 : Int32).toBitVec = BitVec.allOnes 32 by decide]
  cases x.toBitVec[i] <;> cases y.toBitVec[i] <;> rfl
theorem andnot_n {s t : Nat} (hs : s < 256) (ht : t < 256) : ∃ r, r < 256 ∧ nI s &&& (nI t ^^^ (-1)) = nI r := by
  rw [andnot, nI_and, nI_xor]
  have : s &&& t < 2 ^ 8 := Nat.and_lt_two_pow _ (by omega)
  exact ⟨_, Nat.xor_lt_two_pow (n := 8) (by omega) this, rfl⟩
theorem bits2 {N : Nat} {h : AH} {x : Int32} (hx : ∃ s, s < 256 ∧ x = nI s) (hN : 1000 ≤ N) : f_X7_bitsOf N h x = some (bc x, h) := by
  obtain ⟨s, hs, rfl⟩ := hx
  exact bitsOf_m (by omega) hN
/-! queries without steps of their own -/
def orS (W : ST) : Nat → Int32
  | 0 => 0
  | k + 1 => orS W k ||| W 3 k
def anS (G : GT) (W : ST) : Nat → Int32
  | 0 => allS G
  | k + 1 => anS G W k &&& W 3 k
def setFc (G : GT) (W : ST) (s : Int32) : Int32 := ones (fun j => ¬ W 1 j < 0 ∧ W 2 j = s) (gJ G)
section S43
variable {C M W : ST} {K : KT} {O : Nat → Int64} {N : Nat} {G : GT} {a b c : Int32}
set_option maxHeartbeats 4000000 in
theorem g_unlike (hc : CI K C G W) (hm : MI M G W) (hN : 1000 ≤ N) (h1 : inR a (gJ G)) (h2 : inR b (gJ G)) : ∃ r, QC K C M O (f_X6_unlike N (HP C M K O) 0 a b) r ∧ ∀ C' O', QM C' M K O' (f_X7_unlike N (HP C' M K O') 71 a b) r := by
  have m0 := m0_of hm
  have h1' := h1
  have h2' := h2
  obtain ⟨j, hj, rfl⟩ := h1'
  obtain ⟨i, hi, rfl⟩ := h2'
  have j8 : j < 8 := by have := hm.1.2.2.1; omega
  have i8 : i < 8 := by have := hm.1.2.2.1; omega
  refine ⟨.inr (bc (W 3 j ^^^ W 3 i)), ⟨C, ?_, fun _ _ => rfl⟩, fun C' O' => ⟨_, up M 71 4 0, ?_, EQ_code M 0, code_s M 0, rfl⟩⟩
  · have e1 := hc.2.2.2.1.2.1 3 j (by omega) (by omega) hj
    have e2 := hc.2.2.2.1.2.1 3 i (by omega) (by omega) hi
    simp only [f_X6_unlike, ↓b_rdC, ↓bnd (needJ_y hc h1), ↓bnd (needJ_y hc h2), ↓Sum.elim_inr, ↓b_rW w21, ↓b_rWa w21, j8, i8, e1, e2, ↓bnd (bitCount_c _ _ _)]
  · have e1 := (m0.2.2.1.2.2.1 j hj).2.2.1
    have e2 := (m0.2.2.1.2.2.1 i hi).2.2.1
    have hb : ∃ s, s < 256 ∧ W 3 j ^^^ W 3 i = nI s := by
      obtain ⟨s, hs, es⟩ := (hm.2.2.2.1 j hj).2.2.1
      obtain ⟨t, ht, et⟩ := (hm.2.2.2.1 i hi).2.2.1
      rw [es, et, nI_xor]
      exact ⟨_, Nat.xor_lt_two_pow (n := 8) (by omega) (by omega), rfl⟩
    simp only [f_X7_unlike, ↓b_wrM, ↓b_rdM, ↓b_raM, ↓bnd (isJ_y m0.2.1 hm.1 h1), ↓bnd (isJ_y m0.2.1 hm.1 h2), ↓reduceIte, show ¬ (1 : Int32) = 0 by decide, j8, i8, e1, e2, ↓bnd (bits2 hb hN)]
set_option maxHeartbeats 4000000 in
theorem g_later (hc : CI K C G W) (hm : MI M G W) (hN : 1000 ≤ N) (hw : btw b 0 3) (hs : btw a 0 60) : ∃ r, QC K C M O (f_X6_later N (HP C M K O) 0 a b) r ∧ ∀ C' O', QM C' M K O' (f_X7_later N (HP C' M K O') 71 a b) r := by
  have hs' := hs
  obtain ⟨n, _, hn, rfl⟩ := hs'
  obtain ⟨C1, t1, T1⟩ := tryFor_c (M := M) (O := O) hc (fun _ _ => rfl) hn hN
  have hc1 := CI_of hc T1.1
  refine ⟨.inr (if b = 0 then setFa G (passN G n (clr W)) else if b = 1 then setAt G (passN G n (clr W)) (-2) else if b = 2 then setAf G (passN G n (clr W)) else (crV G (passN G n (clr W)) (gRn G)).1), ⟨C1, ?_, T1.1⟩, fun C' O' => ?_⟩
  · simp only [f_X6_later, ↓b_rdC, ↓Sum.elim_inr, ↓bnd (nW3_y hw), ↓bnd (nT060_y hs), ↓bnd t1, ↓bnd (fairOnes_w hc1.1 w54 hc1.2.1 hc1.2.2.1 T1.2.1 hN), ↓bnd (landed_w hc1.1 w54 hc1.2.1 hc1.2.2.1 T1.2.1 hN), ↓bnd (afloatOnes_w hc1.1 w54 hc1.2.1 hc1.2.2.1 T1.2.1 hN), ↓bnd (crowd_w hc1.1 w54 hc1.2.1 hc1.2.2.1 T1.2.1 hN)]
    split
    · rfl
    · split
      · rfl
      · split <;> rfl
  · obtain ⟨M1, p1, p2⟩ := TQ_pack (C := C') (K := K) (O := O') hm hN
    obtain ⟨M2, g1, g2⟩ := TQ_goOn (C := C') (K := K) (O := O') hm p2 hn hN
    obtain ⟨M3, u1, u2, _, _⟩ := TQ_back (C := C') (K := K) (O := O') g2 hN
    refine ⟨_, M3, ?_, u2.1, u2.2.2, rfl⟩
    simp only [f_X7_later, f_X7_later_b96, ↓b_wrM, ↓b_rdM, ↓reduceIte, show ¬ (1 : Int32) = 0 by decide, ↓bnd (bW3_y hw), ↓bnd (bT060_y hs), ↓bnd p1, ↓bnd g1, ↓bnd u1, ↓bnd (fairOnes_v hm.1 (TQ_g hm g2) (TQ_w g2) hN), ↓bnd (whoIs_w hm.1 (TQ_g hm g2) (TQ_w g2) hN _), ↓bnd (onReaches_v hm.1 (TQ_g hm g2) (TQ_w g2) hN), ↓bnd (crowdNow_v hm.1 (TQ_g hm g2) (TQ_w g2) hN)]
    split
    · rfl
    · split
      · rfl
      · split <;> rfl
set_option maxHeartbeats 4000000 in
theorem g_turned (hc : CI K C G W) (hm : MI M G W) (hN : 1000 ≤ N) (hj : inR a (gJ G)) (hs : btw b 0 60) : ∃ r, QC K C M O (f_X6_turned N (HP C M K O) 0 a b) r ∧ ∀ C' O', QM C' M K O' (f_X7_turned N (HP C' M K O') 71 a b) r := by
  have m0 := m0_of hm
  have hs' := hs
  obtain ⟨n, _, hn, rfl⟩ := hs'
  have hj' := hj
  obtain ⟨j, hj1, rfl⟩ := hj'
  have j8 : j < 8 := by have := hm.1.2.2.1; omega
  obtain ⟨C1, t1, T1⟩ := tryFor_c (M := M) (O := O) hc (fun _ _ => rfl) hn hN
  have e5 := T1.2.1.2.1 5 j (by omega) (by omega) hj1
  refine ⟨.inr (passN G n (clr W) 5 j), ⟨C1, ?_, T1.1⟩, fun C' O' => ?_⟩
  · simp only [f_X6_turned, ↓b_rdC, ↓Sum.elim_inr, ↓bnd (needJ_y hc hj), ↓bnd (nT060_y hs), ↓bnd t1, ↓b_rW w54, ↓b_rWa w54, j8, e5]
  · obtain ⟨M1, p1, p2⟩ := TQ_pack (C := C') (K := K) (O := O') hm hN
    obtain ⟨M2, n1, n2⟩ := TQ_new (C := C') (K := K) (O := O') hm p2 hN
    have ecl : clr (clr W) = clr W := by
      funext x
      unfold clr
      by_cases x5 : x = 5
      · simp only [x5, if_true]
      · by_cases x0 : x = 0
        · simp only [x0, if_true, show ¬ 0 = 5 by decide, if_false]
        · simp only [x5, x0, if_false]
    rw [ecl] at n2
    obtain ⟨M3, g1, g2⟩ := TQ_goOn (C := C') (K := K) (O := O') hm n2 hn hN
    obtain ⟨M4, u1, u2, u3, _⟩ := TQ_back (C := C') (K := K) (O := O') g2 hN
    have e : M4 95 j = passN G n (clr W) 5 j := by rw [u3]; exact ((TQ_w g2).2.2.1 j hj1).2.2.2.2 rfl
    refine ⟨_, M4, ?_, u2.1, u2.2.2, rfl⟩
    simp only [f_X7_turned, ↓b_wrM, ↓b_rdM, ↓reduceIte, show ¬ (1 : Int32) = 0 by decide, ↓bnd (isJ_y m0.2.1 hm.1 hj), ↓bnd (bT060_y hs), ↓bnd p1, ↓bnd n1, ↓bnd g1, ↓bnd u1, ↓b_raM, j8, e]
set_option maxHeartbeats 4000000 in
theorem g_sides (hc : CI K C G W) (hm : MI M G W) (hN : 1000 ≤ N) (hw : btw b 0 1) (hs : btw a 0 60) : ∃ r, QC K C M O (f_X6_sides N (HP C M K O) 0 a b) r ∧ ∀ C' O', QM C' M K O' (f_X7_sides N (HP C' M K O') 71 a b) r := by
  have hJ := hm.1.2.2.1
  have hs' := hs
  obtain ⟨n, _, hn, rfl⟩ := hs'
  have ea : ((1 : Int32) <<< (nI (gsd G) &&& 31)) - 1 = allS G := rfl
  obtain ⟨C1, t1, T1⟩ := tryFor_c (M := M) (O := O) hc (fun _ _ => rfl) hn hN
  have hc1 := CI_of hc T1.1
  refine ⟨.inr (if b = 0 then orS (passN G n (clr W)) (gJ G) else anS G (passN G n (clr W)) (gJ G)), ⟨C1, ?_, T1.1⟩, fun C' O' => ?_⟩
  · have q := itr_seq (body := fun s : Int32 × Int32 × Int32 × AH => f_X6_sides_l31 N 0 b s.1 s.2.1 s.2.2.1 s.2.2.2) (fun k => (orS (passN G n (clr W)) k, anS G (passN G n (clr W)) k, nI k, HP C1 M K O)) (n := gJ G) (r := (orS (passN G n (clr W)) (gJ G), anS G (passN G n (clr W)) (gJ G), HP C1 M K O)) ?_ ?_ (N := N) (by omega)
    · simp only [orS, anS, show nI 0 = 0 from rfl] at q
      simp only [f_X6_sides, f_X6_sides_b31, f_X1_allSides, ↓b_rdC, ↓b_rG hc.1, ↓Sum.elim_inr, ↓bnd (nW1_y hw), ↓bnd (nT060_y hs), ↓bnd t1, hc1.2.2.1.1, Option.bind_some, ea, q]
      split <;> rfl
    · intro k hk
      have k8 : k < 8 := by omega
      have e3 := T1.2.1.2.1 3 k (by omega) (by omega) hk
      simp only [f_X6_sides_l31, ↓b_rdC, ↓b_rG hc.1, ↓b_rW w54, ↓b_rWa w54, hc1.2.2.1.2.2.1, nle hk (by omega), ↓reduceIte, k8, e3, nI_1, orS, anS]
    · simp only [f_X6_sides_l31, ↓b_rdC, ↓b_rG hc.1, hc1.2.2.1.2.2.1, yle (Nat.le_refl (gJ G)) (by omega), ↓reduceIte]
  · obtain ⟨M1, p1, p2⟩ := TQ_pack (C := C') (K := K) (O := O') hm hN
    obtain ⟨M2, g1, g2⟩ := TQ_goOn (C := C') (K := K) (O := O') hm p2 hn hN
    obtain ⟨M3, u1, u2, _, _⟩ := TQ_back (C := C') (K := K) (O := O') g2 hN
    have hg := TQ_g hm g2
    refine ⟨_, M3, ?_, u2.1, u2.2.2, rfl⟩
    have q := itr_seq (body := fun s : Int32 × Int32 × Int32 × AH => f_X7_sides_l64 N 71 b s.1 s.2.1 s.2.2.1 s.2.2.2) (fun k => (orS (passN G n (clr W)) k, anS G (passN G n (clr W)) k, nI k, HP C' M2 K O')) (n := gJ G) (r := (orS (passN G n (clr W)) (gJ G), anS G (passN G n (clr W)) (gJ G), HP C' M2 K O')) ?_ ?_ (N := N) (by omega)
    · simp only [orS, anS, show nI 0 = 0 from rfl] at q
      simp only [f_X7_sides, f_X7_sides_b64, f_X7_allSides, ↓b_wrM, ↓b_rdM, ↓b_rlM, ↓reduceIte, show ¬ (1 : Int32) = 0 by decide, ↓bnd (bW1_y hw), ↓bnd (bT060_y hs), ↓bnd p1, ↓bnd g1, hg.1, Option.bind_some, ea, q, ↓bnd u1]
      split <;> rfl
    · intro k hk
      have k8 : k < 8 := by omega
      have e3 := ((TQ_w g2).2.2.1 k hk).2.2.1
      simp only [f_X7_sides_l64, ↓b_rdM, ↓b_rlM, ↓b_raM, hg.2.2.1, nle hk (by omega), ↓reduceIte, k8, e3, nI_1, orS, anS]
    · simp only [f_X7_sides_l64, ↓b_rdM, ↓b_rlM, hg.2.2.1, yle (Nat.le_refl (gJ G)) (by omega), ↓reduceIte]
set_option maxHeartbeats 4000000 in
theorem g_facing (hc : CI K C G W) (hm : MI M G W) (hN : 1000 ≤ N) (hj : inR a (gsd G)) (hs : btw b 0 60) : ∃ r, QC K C M O (f_X6_facing N (HP C M K O) 0 a b) r ∧ ∀ C' O', QM C' M K O' (f_X7_facing N (HP C' M K O') 71 a b) r := by
  have m0 := m0_of hm
  have hJ := hm.1.2.2.1
  have hs' := hs
  obtain ⟨n, _, hn, rfl⟩ := hs'
  obtain ⟨C1, t1, T1⟩ := tryFor_c (M := M) (O := O) hc (fun _ _ => rfl) hn hN
  have hc1 := CI_of hc T1.1
  refine ⟨.inr (setFc G (passN G n (clr W)) a), ⟨C1, ?_, T1.1⟩, fun C' O' => ?_⟩
  · have q := itr_seq (body := fun s : Int32 × Int32 × AH => f_X6_facing_l22 N 0 a s.1 s.2.1 s.2.2) (fun k => (ones (fun j => ¬ passN G n (clr W) 1 j < 0 ∧ passN G n (clr W) 2 j = a) k, nI k, HP C1 M K O)) (n := gJ G) (r := (setFc G (passN G n (clr W)) a, HP C1 M K O)) ?_ ?_ (N := N) (by omega)
    · simp only [ones, show nI 0 = 0 from rfl] at q
      simp only [f_X6_facing, f_X6_facing_b22, ↓b_rdC, ↓Sum.elim_inr, ↓bnd (needS_y hc hj), ↓bnd (nT060_y hs), ↓bnd t1, Option.bind_some, q]
    · intro k hk
      have k8 : k < 8 := by omega
      have e1 := T1.2.1.2.1 1 k (by omega) (by omega) hk
      have e2 := T1.2.1.2.1 2 k (by omega) (by omega) hk
      simp only [f_X6_facing_l22, f_X6_facing_b68, ↓b_rdC, ↓b_rG hc.1, ↓b_rW w54, ↓b_rWa w54, hc1.2.2.1.2.2.1, nle hk (by omega), ↓reduceIte, k8, e1, e2, nI_1, ones, decide_eq_true_eq]
      by_cases z : passN G n (clr W) 1 k < 0
      · simp only [z, ↓reduceIte, not_true_eq_false, false_and]
      · simp only [z, ↓reduceIte, not_false_eq_true, true_and]
        split <;> rfl
    · simp only [f_X6_facing_l22, ↓b_rdC, ↓b_rG hc.1, hc1.2.2.1.2.2.1, yle (Nat.le_refl (gJ G)) (by omega), ↓reduceIte, setFc]
  · obtain ⟨M1, p1, p2⟩ := TQ_pack (C := C') (K := K) (O := O') hm hN
    obtain ⟨M2, g1, g2⟩ := TQ_goOn (C := C') (K := K) (O := O') hm p2 hn hN
    obtain ⟨M3, u1, u2, _, _⟩ := TQ_back (C := C') (K := K) (O := O') g2 hN
    have hg := TQ_g hm g2
    refine ⟨_, M3, ?_, u2.1, u2.2.2, rfl⟩
    have q := itr_seq (body := fun s : Int32 × Int32 × AH => f_X7_facing_l56 N 71 a s.1 s.2.1 s.2.2) (fun k => (ones (fun j => ¬ passN G n (clr W) 1 j < 0 ∧ passN G n (clr W) 2 j = a) k, nI k, HP C' M2 K O')) (n := gJ G) (r := (setFc G (passN G n (clr W)) a, HP C' M2 K O')) ?_ ?_ (N := N) (by omega)
    · simp only [ones, show nI 0 = 0 from rfl] at q
      simp only [f_X7_facing, f_X7_facing_b56, ↓b_wrM, ↓b_rdM, ↓reduceIte, show ¬ (1 : Int32) = 0 by decide, ↓bnd (isS_y m0.2.1 hm.1 hj), ↓bnd (bT060_y hs), ↓bnd p1, ↓bnd g1, Option.bind_some, q, ↓bnd u1]
    · intro k hk
      have k8 : k < 8 := by omega
      obtain ⟨e1, e2, _⟩ := (TQ_w g2).2.2.1 k hk
      simp only [f_X7_facing_l56, f_X7_facing_b96, f_X7_facing_b97, ↓b_rdM, ↓b_rlM, ↓b_raM, hg.2.2.1, nle hk (by omega), ↓reduceIte, k8, e1, e2, nI_1, ones, decide_eq_true_eq]
      by_cases z : passN G n (clr W) 1 k < 0
      · simp only [z, ↓reduceIte, not_true_eq_false, false_and, Int32.or_zero]
      · simp only [z, ↓reduceIte, not_false_eq_true, true_and, Int32.or_zero]
        split <;> rfl
    · simp only [f_X7_facing_l56, ↓b_rdM, ↓b_rlM, hg.2.2.1, yle (Nat.le_refl (gJ G)) (by omega), ↓reduceIte, setFc]
set_option maxHeartbeats 4000000 in
theorem q_unlike {a b : Int32} (hc : CI K C G W) (hm : MI M G W) (hN : 1000 ≤ N) : ∃ r, QC K C M O (f_X6_unlike N (HP C M K O) 0 a b) r ∧ ∀ C' O', QM C' M K O' (f_X7_unlike N (HP C' M K O') 71 a b) r := by
  have m0 := MI_EQ hm (EQ_code M 0)
  by_cases h0 : inR a (gJ G)
  ·
    by_cases h1 : inR b (gJ G)
    · exact g_unlike hc hm hN h0 h1
    · refine ⟨.inl 1, ⟨C, ?_, fun _ _ => rfl⟩, fun C' O' => ?_⟩
      · simp only [f_X6_unlike, ↓b_rdC, ↓Sum.elim_inr, ↓Sum.elim_inl, ↓bnd (needJ_y hc h0), ↓bnd (needJ_n hc h1)]
      · obtain ⟨M', f1, f2, f3⟩ := QM_fail (N := N) (C := C') (M := M) (K := K) (O := O') (k := 1) (kv := 1) rfl
        refine ⟨0, M', ?_, f2, f3⟩
        simp only [f_X7_unlike_b40, f_X7_unlike, ↓b_wrM, ↓b_rdM, ↓reduceIte, show ¬ (1 : Int32) = 0 by decide, ↓bnd (isJ_y m0.2.1 hm.1 h0), ↓bnd (isJ_n m0.2.1 hm.1 h1), ↓bnd f1]
  · refine ⟨.inl 1, ⟨C, ?_, fun _ _ => rfl⟩, fun C' O' => ?_⟩
    · simp only [f_X6_unlike, ↓b_rdC, ↓Sum.elim_inr, ↓Sum.elim_inl, ↓bnd (needJ_n hc h0)]
    · obtain ⟨M', f1, f2, f3⟩ := QM_fail (N := N) (C := C') (M := M) (K := K) (O := O') (k := 1) (kv := 1) rfl
      refine ⟨0, M', ?_, f2, f3⟩
      simp only [f_X7_unlike_b40, f_X7_unlike, ↓b_wrM, ↓b_rdM, ↓reduceIte, show ¬ (1 : Int32) = 0 by decide, ↓bnd (isJ_n m0.2.1 hm.1 h0), ↓bnd f1]
set_option maxHeartbeats 4000000 in
theorem q_later {a b : Int32} (hc : CI K C G W) (hm : MI M G W) (hN : 1000 ≤ N) : ∃ r, QC K C M O (f_X6_later N (HP C M K O) 0 a b) r ∧ ∀ C' O', QM C' M K O' (f_X7_later N (HP C' M K O') 71 a b) r := by
  have m0 := MI_EQ hm (EQ_code M 0)
  by_cases h0 : btw b 0 3
  ·
    by_cases h1 : btw a 0 60
    · exact g_later hc hm hN h0 h1
    · refine ⟨.inl 2, ⟨C, ?_, fun _ _ => rfl⟩, fun C' O' => ?_⟩
      · simp only [f_X6_later, ↓b_rdC, ↓Sum.elim_inr, ↓Sum.elim_inl, ↓bnd (nW3_y h0), ↓bnd (nT060_n h1)]
      · obtain ⟨M', f1, f2, f3⟩ := QM_fail (N := N) (C := C') (M := M) (K := K) (O := O') (k := 2) (kv := 2) rfl
        refine ⟨0, M', ?_, f2, f3⟩
        simp only [f_X7_later_b96, f_X7_later, ↓b_wrM, ↓b_rdM, ↓reduceIte, show ¬ (1 : Int32) = 0 by decide, ↓bnd (bW3_y h0), ↓bnd (bT060_n h1), ↓bnd f1]
  · refine ⟨.inl 1, ⟨C, ?_, fun _ _ => rfl⟩, fun C' O' => ?_⟩
    · simp only [f_X6_later, ↓b_rdC, ↓Sum.elim_inr, ↓Sum.elim_inl, ↓bnd (nW3_n h0)]
    · obtain ⟨M', f1, f2, f3⟩ := QM_fail (N := N) (C := C') (M := M) (K := K) (O := O') (k := 1) (kv := 1) rfl
      refine ⟨0, M', ?_, f2, f3⟩
      simp only [f_X7_later_b96, f_X7_later, ↓b_wrM, ↓b_rdM, ↓reduceIte, show ¬ (1 : Int32) = 0 by decide, ↓bnd (bW3_n h0), ↓bnd f1]
set_option maxHeartbeats 4000000 in
theorem q_turned {a b : Int32} (hc : CI K C G W) (hm : MI M G W) (hN : 1000 ≤ N) : ∃ r, QC K C M O (f_X6_turned N (HP C M K O) 0 a b) r ∧ ∀ C' O', QM C' M K O' (f_X7_turned N (HP C' M K O') 71 a b) r := by
  have m0 := MI_EQ hm (EQ_code M 0)
  by_cases h0 : inR a (gJ G)
  ·
    by_cases h1 : btw b 0 60
    · exact g_turned hc hm hN h0 h1
    · refine ⟨.inl 2, ⟨C, ?_, fun _ _ => rfl⟩, fun C' O' => ?_⟩
      · simp only [f_X6_turned, ↓b_rdC, ↓Sum.elim_inr, ↓Sum.elim_inl, ↓bnd (needJ_y hc h0), ↓bnd (nT060_n h1)]
      · obtain ⟨M', f1, f2, f3⟩ := QM_fail (N := N) (C := C') (M := M) (K := K) (O := O') (k := 2) (kv := 2) rfl
        refine ⟨0, M', ?_, f2, f3⟩
        simp only [f_X7_turned, ↓b_wrM, ↓b_rdM, ↓reduceIte, show ¬ (1 : Int32) = 0 by decide, ↓bnd (isJ_y m0.2.1 hm.1 h0), ↓bnd (bT060_n h1), ↓bnd f1]
  · refine ⟨.inl 1, ⟨C, ?_, fun _ _ => rfl⟩, fun C' O' => ?_⟩
    · simp only [f_X6_turned, ↓b_rdC, ↓Sum.elim_inr, ↓Sum.elim_inl, ↓bnd (needJ_n hc h0)]
    · obtain ⟨M', f1, f2, f3⟩ := QM_fail (N := N) (C := C') (M := M) (K := K) (O := O') (k := 1) (kv := 1) rfl
      refine ⟨0, M', ?_, f2, f3⟩
      simp only [f_X7_turned, ↓b_wrM, ↓b_rdM, ↓reduceIte, show ¬ (1 : Int32) = 0 by decide, ↓bnd (isJ_n m0.2.1 hm.1 h0), ↓bnd f1]
set_option maxHeartbeats 4000000 in
theorem q_sides {a b : Int32} (hc : CI K C G W) (hm : MI M G W) (hN : 1000 ≤ N) : ∃ r, QC K C M O (f_X6_sides N (HP C M K O) 0 a b) r ∧ ∀ C' O', QM C' M K O' (f_X7_sides N (HP C' M K O') 71 a b) r := by
  have m0 := MI_EQ hm (EQ_code M 0)
  by_cases h0 : btw b 0 1
  ·
    by_cases h1 : btw a 0 60
    · exact g_sides hc hm hN h0 h1
    · refine ⟨.inl 2, ⟨C, ?_, fun _ _ => rfl⟩, fun C' O' => ?_⟩
      · simp only [f_X6_sides_b31, f_X6_sides, ↓b_rdC, ↓Sum.elim_inr, ↓Sum.elim_inl, ↓bnd (nW1_y h0), ↓bnd (nT060_n h1)]
      · obtain ⟨M', f1, f2, f3⟩ := QM_fail (N := N) (C := C') (M := M) (K := K) (O := O') (k := 2) (kv := 2) rfl
        refine ⟨0, M', ?_, f2, f3⟩
        simp only [f_X7_sides_b64, f_X7_sides, ↓b_wrM, ↓b_rdM, ↓reduceIte, show ¬ (1 : Int32) = 0 by decide, ↓bnd (bW1_y h0), ↓bnd (bT060_n h1), ↓bnd f1]
  · refine ⟨.inl 1, ⟨C, ?_, fun _ _ => rfl⟩, fun C' O' => ?_⟩
    · simp only [f_X6_sides_b31, f_X6_sides, ↓b_rdC, ↓Sum.elim_inr, ↓Sum.elim_inl, ↓bnd (nW1_n h0)]
    · obtain ⟨M', f1, f2, f3⟩ := QM_fail (N := N) (C := C') (M := M) (K := K) (O := O') (k := 1) (kv := 1) rfl
      refine ⟨0, M', ?_, f2, f3⟩
      simp only [f_X7_sides_b64, f_X7_sides, ↓b_wrM, ↓b_rdM, ↓reduceIte, show ¬ (1 : Int32) = 0 by decide, ↓bnd (bW1_n h0), ↓bnd f1]
set_option maxHeartbeats 4000000 in
theorem q_facing {a b : Int32} (hc : CI K C G W) (hm : MI M G W) (hN : 1000 ≤ N) : ∃ r, QC K C M O (f_X6_facing N (HP C M K O) 0 a b) r ∧ ∀ C' O', QM C' M K O' (f_X7_facing N (HP C' M K O') 71 a b) r := by
  have m0 := MI_EQ hm (EQ_code M 0)
  by_cases h0 : inR a (gsd G)
  ·
    by_cases h1 : btw b 0 60
    · exact g_facing hc hm hN h0 h1
    · refine ⟨.inl 2, ⟨C, ?_, fun _ _ => rfl⟩, fun C' O' => ?_⟩
      · simp only [f_X6_facing_b68, f_X6_facing_b22, f_X6_facing, ↓b_rdC, ↓Sum.elim_inr, ↓Sum.elim_inl, ↓bnd (needS_y hc h0), ↓bnd (nT060_n h1)]
      · obtain ⟨M', f1, f2, f3⟩ := QM_fail (N := N) (C := C') (M := M) (K := K) (O := O') (k := 2) (kv := 2) rfl
        refine ⟨0, M', ?_, f2, f3⟩
        simp only [f_X7_facing_b97, f_X7_facing_b96, f_X7_facing_b56, f_X7_facing, ↓b_wrM, ↓b_rdM, ↓reduceIte, show ¬ (1 : Int32) = 0 by decide, ↓bnd (isS_y m0.2.1 hm.1 h0), ↓bnd (bT060_n h1), ↓bnd f1]
  · refine ⟨.inl 1, ⟨C, ?_, fun _ _ => rfl⟩, fun C' O' => ?_⟩
    · simp only [f_X6_facing_b68, f_X6_facing_b22, f_X6_facing, ↓b_rdC, ↓Sum.elim_inr, ↓Sum.elim_inl, ↓bnd (needS_n hc h0)]
    · obtain ⟨M', f1, f2, f3⟩ := QM_fail (N := N) (C := C') (M := M) (K := K) (O := O') (k := 1) (kv := 1) rfl
      refine ⟨0, M', ?_, f2, f3⟩
      simp only [f_X7_facing_b97, f_X7_facing_b96, f_X7_facing_b56, f_X7_facing, ↓b_wrM, ↓b_rdM, ↓reduceIte, show ¬ (1 : Int32) = 0 by decide, ↓bnd (isS_n m0.2.1 hm.1 h0), ↓bnd f1]
end S43
