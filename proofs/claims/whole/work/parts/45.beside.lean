/-! beside, agree, still, stay -/
def ct (G : GT) (p : ST → Bool) (T : ST) : Nat → Int32
  | 0 => 0
  | k + 1 => if p (passN G (k + 1) T) = true then ct G p T k + 1 else ct G p T k
def onesN (p : Nat → Bool) : Nat → Nat
  | 0 => 0
  | k + 1 => if p k then onesN p k ||| 2 ^ k else onesN p k
theorem onesN_lt {p : Nat → Bool} : ∀ n, onesN p n < 2 ^ n
  | 0 => show 0 < 1 by decide
  | k + 1 => by
    have := onesN_lt (p := p) k
    unfold onesN
    split
    · exact Nat.or_lt_two_pow (by rw [Nat.pow_succ]; omega) (by rw [Nat.pow_succ]; have := Nat.two_pow_pos k; omega)
    · rw [Nat.pow_succ]; omega
theorem ones_N {p : Nat → Bool} : ∀ n, n ≤ 8 → ones p n = nI (onesN p n)
  | 0 => fun _ => rfl
  | k + 1 => fun hk => by
    have h1 := ones_N (p := p) k (by omega)
    have h2 := onesN_lt (p := p) k
    have h3 : 2 ^ k ≤ 2 ^ 8 := Nat.pow_le_pow_right (by decide) (by omega)
    unfold ones onesN
    split
    · rw [h1]; exact (orbit k (by omega) _ (by omega)).1
    · exact h1
theorem onesN_bit {p : Nat → Bool} {j : Nat} (hp : p j = true) : ∀ n, j < n → (onesN p n).testBit j = true
  | 0 => fun h => absurd h (Nat.not_lt_zero j)
  | k + 1 => fun hk => by
    unfold onesN
    by_cases e : j = k
    · subst e
      rw [if_pos hp, Nat.testBit_or, Nat.testBit_two_pow_self, Bool.or_true]
    · have := onesN_bit hp k (by omega)
      split
      · rw [Nat.testBit_or, this, Bool.true_or]
      · exact this
theorem alone_k : ∀ j, j < 8 → ∀ s, s < 256 → s.testBit j = true → ((nI s = (1 : Int32) <<< (nI j &&& 31)) ↔ bc (nI s) = 1) := by decide +kernel
theorem alone {G : GT} {X : ST} {j : Nat} (hG : okG G) (hj : j < gJ G) : (setAt G X (X 1 j) = (1 : Int32) <<< (nI j &&& 31)) ↔ bc (setAt G X (X 1 j)) = 1 := by
  have hJ := hG.2.2.1
  unfold setAt
  have h2 := onesN_lt (p := fun q => decide (X 1 q = X 1 j)) (gJ G)
  have h3 : 2 ^ gJ G ≤ 2 ^ 8 := Nat.pow_le_pow_right (by decide) (by omega)
  rw [ones_N _ hJ]
  exact alone_k j (by omega) _ (by omega) (onesN_bit (by simp only [decide_true]) _ hj)
def sx (G : GT) (j : Nat) (T : ST) : Nat → Int32 × Int32 × Int32
  | 0 => (0, 0, -1)
  | k + 1 =>
    (if passN G (k + 1) T 1 j < 0 then (sx G j T k).1 else if (if passN G (k + 1) T 1 j = (sx G j T k).2.2 then (sx G j T k).2.1 + 1 else 1) ≤ (sx G j T k).1 then (sx G j T k).1 else (if passN G (k + 1) T 1 j = (sx G j T k).2.2 then (sx G j T k).2.1 + 1 else 1),
     if passN G (k + 1) T 1 j = (sx G j T k).2.2 then (sx G j T k).2.1 + 1 else 1, passN G (k + 1) T 1 j)
def sy (G : GT) (j : Nat) (T : ST) : Nat → Int32 × Int32 × Int32
  | 0 => (0, 0, -1)
  | k + 1 =>
    (jmx (sy G j T k).1 (if 0 ≤ passN G (k + 1) T 1 j then (if passN G (k + 1) T 1 j = (sy G j T k).2.2 then (sy G j T k).2.1 + 1 else 1) else 0),
     if 0 ≤ passN G (k + 1) T 1 j then (if passN G (k + 1) T 1 j = (sy G j T k).2.2 then (sy G j T k).2.1 + 1 else 1) else 0, passN G (k + 1) T 1 j)
theorem sxy (G : GT) (j : Nat) (T : ST) : ∀ k, (sx G j T k).1 = (sy G j T k).1 ∧ (sx G j T k).2.2 = (sy G j T k).2.2 ∧ (¬ (sx G j T k).2.2 < 0 → (sx G j T k).2.1 = (sy G j T k).2.1) ∧ ¬ (sy G j T k).1 < 0
  | 0 => ⟨rfl, rfl, fun _ => rfl, show ¬ (0 : Int32) < 0 by decide⟩
  | k + 1 => by
    obtain ⟨h1, h2, h3, h4⟩ := sxy G j T k
    simp only [sx, sy]
    generalize passN G (k + 1) T 1 j = p
    generalize sx G j T k = x at *
    generalize sy G j T k = y at *
    by_cases z : p < 0
    · have z' : ¬ 0 ≤ p := by rw [Int32.le_iff_toInt_le]; rw [Int32.lt_iff_toInt_lt] at z; omega
      simp only [z, z', if_true, if_false]
      have e : jmx y.1 0 = y.1 := by unfold jmx; rw [if_neg h4]
      exact ⟨by rw [e]; exact h1, trivial, fun q => absurd trivial q, by rw [e]; exact h4⟩
    · have z' : 0 ≤ p := by rw [Int32.le_iff_toInt_le]; rw [Int32.lt_iff_toInt_lt] at z; omega
      simp only [z, z', if_true, if_false]
      have er : (if p = x.2.2 then x.2.1 + 1 else 1) = (if p = y.2.2 then y.2.1 + 1 else 1) := by
        rw [h2]
        by_cases q : p = y.2.2
        · rw [if_pos q, if_pos q, h3 (by rw [h2, ← q]; exact z)]
        · rw [if_neg q, if_neg q]
      rw [er, h1]
      generalize (if p = y.2.2 then y.2.1 + 1 else 1) = r
      refine ⟨?_, trivial, fun _ => rfl, ?_⟩
      · unfold jmx
        by_cases q : r ≤ y.1
        · rw [if_pos q, if_neg (by rw [Int32.lt_iff_toInt_lt]; rw [Int32.le_iff_toInt_le] at q; omega)]
        · rw [if_neg q, if_pos (by rw [Int32.lt_iff_toInt_lt]; rw [Int32.le_iff_toInt_le] at q; omega)]
      · unfold jmx
        split
        · rename_i q
          rw [Int32.lt_iff_toInt_lt] at h4 q ⊢
          omega
        · exact h4
section S45
variable {C C0 M M1 W T : ST} {K : KT} {O : Nat → Int64} {N : Nat} {G : GT} {b : Bool}
set_option maxHeartbeats 4000000 in
theorem isOnPool_c (hG : okG G) (hW : RW G 54 C T) (ok : okW G T) {j : Nat} (hj : j < gJ G) : f_X5_isOnPool N (HP C M K O) 54 (nI j) = some (if ¬ T 1 j < 0 ∧ T 6 (T 1 j).toNatClampNeg = 0 then 1 else 0, HP C M K O) := by
  have j8 : j < 8 := by have := hG.2.2.1; omega
  have e1 := hW.2.1 1 j (by omega) (by omega) hj
  by_cases z : T 1 j < 0
  · simp only [f_X5_isOnPool, f_X5_isOnPool_b33, ↓b_rW w54, ↓b_rWa w54, j8, e1, z, ↓reduceIte, not_true_eq_false, false_and]
  · obtain ⟨r, hr, er⟩ : ∃ r, r < gRn G ∧ T 1 j = nI r := by
      rcases (ok.1 j hj).1 with q | q | q
      · rw [q] at z; exact absurd (by decide) z
      · rw [q] at z; exact absurd (by decide) z
      · exact q
    have r9 : r < 9 := by have := hG.2.1; omega
    have e6 := (hW.2.2 r hr).1
    rw [er] at e1 z ⊢
    have hn := nle r9 (by omega)
    simp only [f_X5_isOnPool, f_X5_isOnPool_b33, ↓b_rW w54, ↓b_rWa w54, j8, e1, z, ↓reduceIte, not_false_eq_true, true_and, hn, r9, e6, nI_clampN (show r < 10000 by omega)]
    split <;> rfl
set_option maxHeartbeats 4000000 in
theorem isAlone_c (hg : gok K.1) (hG : okG G) (h : RG K.1 C G) (hW : RW G 54 C T) {j : Nat} (hj : j < gJ G) (hN : 1000 ≤ N) : f_X5_isAlone N (HP C M K O) 54 K.1 (nI j) = some (if ¬ T 1 j < 0 ∧ bc (setAt G T (T 1 j)) = 1 then 1 else 0, HP C M K O) := by
  have j8 : j < 8 := by have := hG.2.2.1; omega
  have e1 := hW.2.1 1 j (by omega) (by omega) hj
  by_cases z : T 1 j < 0
  · simp only [f_X5_isAlone, f_X5_isAlone_b30, ↓b_rW w54, ↓b_rWa w54, j8, e1, z, ↓reduceIte, not_true_eq_false, false_and]
  · simp only [f_X5_isAlone, f_X5_isAlone_b30, ↓b_rW w54, ↓b_rWa w54, j8, e1, z, ↓reduceIte, not_false_eq_true, true_and, ↓bnd (onesOn_w hg w54 hG h hW hN _), alone hG hj]
    split <;> rfl
set_option maxHeartbeats 4000000 in
theorem g_beside {a c : Int32} (hc : CI K C G W) (hm : MI M G W) (hN : 1000 ≤ N) (hj : inR a (gJ G)) (hi : inR c (gJ G)) : ∃ r, QC K C M O (f_X6_beside N (HP C M K O) 0 a c) r ∧ ∀ C' O', QM C' M K O' (f_X7_beside N (HP C' M K O') 71 a c) r := by
  have m0 := m0_of hm
  have hj' := hj
  obtain ⟨j, hj1, rfl⟩ := hj'
  have hi' := hi
  obtain ⟨i, hi1, rfl⟩ := hi'
  have j8 : j < 8 := by have := hm.1.2.2.1; omega
  have i8 : i < 8 := by have := hm.1.2.2.1; omega
  by_cases eq : nI j = nI i
  · refine ⟨.inr (-1), ⟨C, ?_, fun _ _ => rfl⟩, fun C' O' => ?_⟩
    · simp only [f_X6_beside, ↓b_rdC, ↓Sum.elim_inr, ↓bnd (needJ_y hc hj), ↓bnd (needJ_y hc hi), eq, ↓reduceIte]
    · obtain ⟨M1, p1, p2⟩ := TQ_pack (C := C') (K := K) (O := O') hm hN
      obtain ⟨M2, u1, u2, _, _⟩ := TQ_back (C := C') (K := K) (O := O') p2 hN
      refine ⟨_, M2, ?_, u2.1, u2.2.2, rfl⟩
      have q : itr (fun s : Int32 × Int32 × AH => f_X7_beside_l41 N 71 (nI i) (nI i) s.1 s.2.1 s.2.2) N (-1, 0, HP C' M1 K O') = some (-1, HP C' M1 K O') := by
        obtain ⟨N', e⟩ : ∃ q, N = q + 1 := ⟨N - 1, by omega⟩
        conv => lhs; arg 2; rw [e]
        refine itr_r ?_ N'
        simp only [f_X7_beside_l41, show ¬ (60 : Int32) < 0 by decide, ↓reduceIte]
      simp only [f_X7_beside, f_X7_beside_b41, f_X7_beside_b96, ↓b_wrM, ↓b_rdM, ↓reduceIte, show ¬ (1 : Int32) = 0 by decide, ↓bnd (isJ_y m0.2.1 hm.1 hi), eq, ↓bnd p1, q, Option.bind_some, ↓bnd u1]
  · obtain ⟨C1, t1, T1⟩ := tryFor0 (M := M) (O := O) hc (fun _ _ => rfl) hN
    refine ⟨.inr (fi G (fun X => decide (¬ X 1 j < 0 ∧ X 1 j = X 1 i)) (clr W) 61), ?_, fun C' O' => ?_⟩
    · have q := itr_inv (body := fun s : Int32 × AH => f_X6_beside_l23 N 0 (nI j) (nI i) s.1 s.2)
        (fun k s => ∃ C', s = (nI k, HP C' M K O) ∧ TC G C C' (passN G k (clr W)) ∧ fi G (fun X => decide (¬ X 1 j < 0 ∧ X 1 j = X 1 i)) (clr W) k = -1)
        (P := fun r => ∃ C', r = (if fi G (fun X => decide (¬ X 1 j < 0 ∧ X 1 j = X 1 i)) (clr W) 61 = -1 then Sum.inr (HP C' M K O) else Sum.inl (fi G (fun X => decide (¬ X 1 j < 0 ∧ X 1 j = X 1 i)) (clr W) 61, HP C' M K O)) ∧ ∀ a, a < 54 → C' a = C a) (n := 61) ?_ ?_ (s := (0, HP C1 M K O)) ⟨C1, rfl, T1, rfl⟩ (N := N) (by omega)
      · obtain ⟨r, q1, C2, e, q2⟩ := q
        rw [e] at q1
        refine ⟨C2, ?_, q2⟩
        simp only [f_X6_beside, f_X6_beside_b23, ↓b_rdC, ↓Sum.elim_inr, ↓bnd (needJ_y hc hj), ↓bnd (needJ_y hc hi), eq, ↓reduceIte, ↓bnd t1, q1, Option.bind_some]
        by_cases z : fi G (fun X => decide (¬ X 1 j < 0 ∧ X 1 j = X 1 i)) (clr W) 61 = -1
        · rw [if_pos z, Sum.elim_inr, z]
        · rw [if_neg z, Sum.elim_inl]
      · rintro k s hk ⟨C2, rfl, h1, h2⟩
        have e1 := h1.2.1.2.1 1 j (by omega) (by omega) hj1
        have e2 := h1.2.1.2.1 1 i (by omega) (by omega) hi1
        by_cases z : ¬ passN G k (clr W) 1 j < 0 ∧ passN G k (clr W) 1 j = passN G k (clr W) 1 i
        · right
          refine ⟨_, ?_, C2, rfl, h1.1⟩
          have ez := fi_hit (n := 61) h2 (decide_eq_true z) hk (by decide)
          simp only [f_X6_beside_l23, gt60 hk, ↓reduceIte, ↓b_rdC, ↓b_rW w54, ↓b_rWa w54, j8, i8, e1, e2, z.1, ← z.2, ez, (neg_cases (show k < 10000 by omega)).1]
        · left
          obtain ⟨C3, t1, t2⟩ := TC_pass (M := M) (O := O) hc h1 0 hN
          refine ⟨(nI (k + 1), HP C3 M K O), ?_, C3, rfl, t2, ?_⟩
          · by_cases z1 : passN G k (clr W) 1 j < 0
            · simp only [f_X6_beside_l23, f_X6_beside_b64, gt60 hk, ↓reduceIte, ↓b_rdC, ↓b_rW w54, ↓b_rWa w54, j8, i8, e1, e2, z1, ↓bnd t1, nI_1]
            · have z2 : ¬ passN G k (clr W) 1 j = passN G k (clr W) 1 i := fun q => z ⟨z1, q⟩
              simp only [f_X6_beside_l23, f_X6_beside_b64, gt60 hk, ↓reduceIte, ↓b_rdC, ↓b_rW w54, ↓b_rWa w54, j8, i8, e1, e2, z1, z2, ↓bnd t1, nI_1]
          · rw [fi, if_pos h2, if_neg (by simp only [z, decide_false]; decide)]
      · rintro s ⟨C2, rfl, h1, h2⟩
        refine ⟨_, ?_, C2, rfl, h1.1⟩
        simp only [f_X6_beside_l23, show (60 : Int32) < nI 61 by decide, ↓reduceIte, h2]
    · obtain ⟨M1, p1, p2⟩ := TQ_pack (C := C') (K := K) (O := O') hm hN
      have q := itr_inv (body := fun s : Int32 × Int32 × AH => f_X7_beside_l41 N 71 (nI j) (nI i) s.1 s.2.1 s.2.2)
        (fun k s => ∃ M', s = (fi G (fun X => decide (¬ X 1 j < 0 ∧ X 1 j = X 1 i)) (clr W) k, nI k, HP C' M' K O') ∧ TQ G false M M' (passN G k (clr W)))
        (P := fun r => ∃ M' X, r = (fi G (fun X => decide (¬ X 1 j < 0 ∧ X 1 j = X 1 i)) (clr W) 61, HP C' M' K O') ∧ TQ G false M M' X) (n := 61) ?_ ?_ (s := (-1, 0, HP C' M1 K O')) ⟨M1, rfl, p2⟩ (N := N) (by omega)
      · obtain ⟨r, q1, M2, X, e, q2⟩ := q
        rw [e] at q1
        obtain ⟨M3, u1, u2, _, _⟩ := TQ_back (C := C') (K := K) (O := O') q2 hN
        refine ⟨_, M3, ?_, u2.1, u2.2.2, rfl⟩
        simp only [f_X7_beside, f_X7_beside_b41, f_X7_beside_b96, ↓b_wrM, ↓b_rdM, ↓reduceIte, show ¬ (1 : Int32) = 0 by decide, ↓bnd (isJ_y m0.2.1 hm.1 hj), ↓bnd (isJ_y m0.2.1 hm.1 hi), ↓bnd p1, q1, Option.bind_some, ↓bnd u1]
      · rintro k s hk ⟨M2, rfl, h1⟩
        by_cases f0 : fi G (fun X => decide (¬ X 1 j < 0 ∧ X 1 j = X 1 i)) (clr W) k = -1
        · left
          have e1 := ((TQ_w h1).2.2.1 j hj1).1
          have e2 := ((TQ_w h1).2.2.1 i hi1).1
          obtain ⟨M3, t1, t2⟩ := TQ_one (C := C') (K := K) (O := O') hm h1 hN
          refine ⟨(fi G (fun X => decide (¬ X 1 j < 0 ∧ X 1 j = X 1 i)) (clr W) (k + 1), nI (k + 1), HP C' M3 K O'), ?_, M3, rfl, t2⟩
          by_cases z1 : passN G k (clr W) 1 j < 0
          · simp only [f_X7_beside_l41, f_X7_beside_b85, gt60 hk, ↓reduceIte, f0, eq, ↓b_rdM, ↓b_raM, j8, i8, e1, e2, z1, ↓bnd t1, nI_1, fi, not_true_eq_false, false_and, decide_false, Bool.false_eq_true]
          · by_cases z2 : passN G k (clr W) 1 j = passN G k (clr W) 1 i
            · rw [z2] at e1 z1
              simp only [f_X7_beside_l41, f_X7_beside_b85, gt60 hk, ↓reduceIte, f0, eq, ↓b_rdM, ↓b_raM, j8, i8, e1, e2, z1, z2, ↓bnd t1, nI_1, fi, not_false_eq_true, true_and, decide_true]
            · simp only [f_X7_beside_l41, f_X7_beside_b85, gt60 hk, ↓reduceIte, f0, eq, ↓b_rdM, ↓b_raM, j8, i8, e1, e2, z1, z2, ↓bnd t1, nI_1, fi, and_false, decide_false, Bool.false_eq_true]
        · right
          refine ⟨_, ?_, M2, _, rfl, h1⟩
          simp only [f_X7_beside_l41, gt60 hk, ↓reduceIte, f0, fi_end f0 (show k ≤ 61 by omega)]
      · rintro s ⟨M2, rfl, h1⟩
        refine ⟨_, ?_, M2, _, rfl, h1⟩
        simp only [f_X7_beside_l41, show (60 : Int32) < nI 61 by decide, ↓reduceIte]
set_option maxHeartbeats 4000000 in
theorem q_beside {a c : Int32} (hc : CI K C G W) (hm : MI M G W) (hN : 1000 ≤ N) : ∃ r, QC K C M O (f_X6_beside N (HP C M K O) 0 a c) r ∧ ∀ C' O', QM C' M K O' (f_X7_beside N (HP C' M K O') 71 a c) r := by
  have m0 := MI_EQ hm (EQ_code M 0)
  by_cases h0 : inR a (gJ G)
  ·
    by_cases h1 : inR c (gJ G)
    · exact g_beside hc hm hN h0 h1
    · refine ⟨.inl 1, ⟨C, ?_, fun _ _ => rfl⟩, fun C' O' => ?_⟩
      · simp only [f_X6_beside_b64, f_X6_beside_b23, f_X6_beside, ↓b_rdC, ↓Sum.elim_inr, ↓Sum.elim_inl, ↓bnd (needJ_y hc h0), ↓bnd (needJ_n hc h1)]
      · obtain ⟨M', f1, f2, f3⟩ := QM_fail (N := N) (C := C') (M := M) (K := K) (O := O') (k := 1) (kv := 1) rfl
        refine ⟨0, M', ?_, f2, f3⟩
        simp only [f_X7_beside_b21, f_X7_beside_b96, f_X7_beside_b85, f_X7_beside_b41, f_X7_beside, ↓b_wrM, ↓b_rdM, ↓reduceIte, show ¬ (1 : Int32) = 0 by decide, ↓bnd (isJ_y m0.2.1 hm.1 h0), ↓bnd (isJ_n m0.2.1 hm.1 h1), ↓bnd f1]
  · refine ⟨.inl 1, ⟨C, ?_, fun _ _ => rfl⟩, fun C' O' => ?_⟩
    · simp only [f_X6_beside_b64, f_X6_beside_b23, f_X6_beside, ↓b_rdC, ↓Sum.elim_inr, ↓Sum.elim_inl, ↓bnd (needJ_n hc h0)]
    · obtain ⟨M', f1, f2, f3⟩ := QM_fail (N := N) (C := C') (M := M) (K := K) (O := O') (k := 1) (kv := 1) rfl
      refine ⟨0, M', ?_, f2, f3⟩
      simp only [f_X7_beside_b21, f_X7_beside_b96, f_X7_beside_b85, f_X7_beside_b41, f_X7_beside, ↓b_wrM, ↓b_rdM, ↓reduceIte, show ¬ (1 : Int32) = 0 by decide, ↓bnd (isJ_n m0.2.1 hm.1 h0), ↓bnd f1]
end S45
