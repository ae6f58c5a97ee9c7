/-! acts -/
/-- a call on both sides: one answer, one state -/
def AQ (K : KT) (M : ST) (O : Nat → Int64) (x6 : Option ((Nat ⊕ Int32) × AH)) (x7 : ST → KT → (Nat → Int64) → Option (Int32 × AH)) : Prop := ∃ r C' K', x6 = some (r, HP C' M K' O) ∧ ∀ O', ∃ v M' K2 G' W', x7 C' K' O' = some (v, HP C' M' K2 O') ∧ Sum.elim (fun k => M' 71 4 = nI k) (fun y => M' 71 4 = 0 ∧ v = y) r ∧ REL K2 C' M' G' W'
/-- one without throws -/
def AD (K : KT) (M : ST) (O : Nat → Int64) (x6 : Option (Int32 × AH)) (x7 : ST → KT → (Nat → Int64) → Option (Int32 × AH)) : Prop := ∃ v C' K', x6 = some (v, HP C' M K' O) ∧ ∀ O', ∃ M' K2 G' W', x7 C' K' O' = some (v, HP C' M' K2 O') ∧ REL K2 C' M' G' W'
/-- one without an answer -/
def AE (K : KT) (M : ST) (O : Nat → Int64) (x6 : Option AH) (x7 : ST → KT → (Nat → Int64) → Option AH) : Prop := ∃ C' K', x6 = some (HP C' M K' O) ∧ ∀ O', ∃ M' K2 G' W', x7 C' K' O' = some (HP C' M' K2 O') ∧ REL K2 C' M' G' W'
section S68
variable {C C' M M' W W' : ST} {K : KT} {O : Nat → Int64} {N : Nat} {G : GT} {a b c : Int32}
theorem AQ_of {x6 : Option ((Nat ⊕ Int32) × AH)} {x7 : ST → KT → (Nat → Int64) → Option (Int32 × AH)} (h : REL K C M G W) (q : ∃ r, QC K C M O x6 r ∧ ∀ C' O', QM C' M K O' (x7 C' K O') r) : AQ K M O x6 x7 := by
  obtain ⟨r, ⟨C1, c1, c2⟩, q2⟩ := q
  refine ⟨r, C1, K, c1, fun O' => ?_⟩
  obtain ⟨v, M1, m1, m2, m3⟩ := q2 C1 O'
  exact ⟨v, M1, K, G, W, m1, m3, REL_q h c2 m2⟩
theorem REL_w (h : REL K C M G W) (c1 : ∀ x, x < 54 → x < 20 ∨ 31 < x → x ≠ 36 → C' x = C x) (c2 : C' 20 3 = C 20 3) (c3 : RA G C' 20 M' 35 92) (m1 : ∀ x, ¬ stC x → x ≠ 90 → x ≠ 92 → M' x = M x) (m2 : ∀ k, k ≠ 4 → k ≠ 34 → k ≠ 35 → k ≠ 40 → M' 71 k = M 71 k) (w1 : RW G 21 C' W') (w2 : RWm G false M' W') (w3 : okW G W') (w4 : ∀ j, j < gJ G → W' 4 j = gln G j) : REL K C' M' G W' := by
  obtain ⟨⟨a1, a2, a3⟩, b, d, e, f, g, i, k⟩ := h
  obtain ⟨h1, h2, h3, h4, h5⟩ := a1
  refine ⟨⟨⟨h1, h2, ?_, w1, w3⟩, ⟨h2, ?_, w2, w3⟩, w4⟩, RT_fr b (by rw [c1 0 (by decide) (by decide) (by decide)]) (c1 1 (by decide) (by decide) (by decide)) (m2 17 (by decide) (by decide) (by decide) (by decide)) (m1 86 (by simp [stC]) (by decide) (by decide)), ?_, c3, ?_, fun x hx => ?_, RIm_fr i (by rw [c1 0 (by decide) (by decide) (by decide)]) (fun x y z => c1 x z (by omega) (by omega)) (fun k hk => m2 k (by omega) (by omega) (by omega) (by omega)) (fun x y z => m1 x (by unfold stC; omega) (by omega) (by omega)), k⟩
  · have e : ∀ i, i ≤ 7 → C' (K.1 + i) = C (K.1 + i) := fun i hi => c1 _ (by rcases h1 with e | e <;> rw [e] <;> omega) (by rcases h1 with e | e <;> rw [e] <;> omega) (by rcases h1 with e | e <;> rw [e] <;> omega)
    have e0 : C' K.1 = C K.1 := e 0 (by omega)
    unfold RG
    rw [e0, e 4 (by omega), e 5 (by omega), e 6 (by omega), e 7 (by omega)]
    exact h3
  · have n : ∀ x, (x = 75 ∨ x = 81 ∨ x = 78 ∨ x = 82 ∨ x = 83) → M' x = M x := fun x hx => m1 x (by unfold stC; omega) (by omega) (by omega)
    unfold RGm
    rw [n 75 (by omega), n 81 (by omega), n 78 (by omega), n 82 (by omega), n 83 (by omega)]
    exact a2.2.1
  · rw [c1 0 (by decide) (by decide) (by decide), m2 26 (by decide) (by decide) (by decide) (by decide)]; exact d
  · obtain ⟨q, f1, f2, f3, f4⟩ := f
    refine ⟨q, f1, by rw [c2]; exact f2, by rw [m2 36 (by decide) (by decide) (by decide) (by decide)]; exact f3, fun x hx => ?_⟩
    rw [c1 (20 + 13) (by decide) (by decide) (by decide), c1 (20 + 14) (by decide) (by decide) (by decide), c1 (20 + 15) (by decide) (by decide) (by decide), m1 98 (by simp [stC]) (by decide) (by decide), m1 99 (by simp [stC]) (by decide) (by decide), m1 100 (by simp [stC]) (by decide) (by decide)]
    exact f4 x hx
  · rw [c1 32 (by decide) (by decide) (by decide), m1 84 (by simp [stC]) (by decide) (by decide)]; exact g x hx
/-- a refusal counts on both sides -/
theorem REL_r {k : Nat} (hk : k < 3) (h : REL K C M G W) : REL K (up C 32 k (C 32 k + 1)) (up (up M 71 4 0) 84 k (M 84 k + 1)) G W := by
  obtain ⟨⟨a1, a2, a3⟩, b, d, e, f, g, i, kk⟩ := h
  have cf : ∀ x, x ≠ 32 → up C 32 k (C 32 k + 1) x = C x := fun x hx => up_o hx
  have mf : ∀ x, x ≠ 71 → x ≠ 84 → up (up M 71 4 0) 84 k (M 84 k + 1) x = M x := fun x h1 h2 => by rw [up_o h2, up_o h1]
  have m7 : ∀ x, x ≠ 4 → up (up M 71 4 0) 84 k (M 84 k + 1) 71 x = M 71 x := fun x hx => by rw [up_o (by decide), up_s, upd_o hx]
  obtain ⟨h1, h2, h3, h4, h5⟩ := a1
  refine ⟨⟨⟨h1, h2, ?_, RW_same h4 (fun i hi => cf _ (by omega)), h5⟩, ⟨h2, ?_, ?_, h5⟩, a3⟩, RT_fr b (by rw [cf 0 (by decide)]) (cf 1 (by decide)) (m7 17 (by decide)) (mf 86 (by decide) (by decide)), ?_, RA_fr e (cf 20 (by decide)) (cf 36 (by decide)) (m7 35 (by decide)) (mf 92 (by decide) (by decide)), RS_fr f (cf 20 (by decide)) (cf 33 (by decide)) (cf 34 (by decide)) (cf 35 (by decide)) (m7 36 (by decide)) (mf 98 (by decide) (by decide)) (mf 99 (by decide) (by decide)) (mf 100 (by decide) (by decide)), fun x hx => ?_, RIm_fr i (by rw [cf 0 (by decide)]) (fun x y z => cf x (by omega)) (fun k hk => m7 k (by omega)) (fun x y z => mf x (by omega) (by omega)), kk⟩
  · have e : ∀ i, i ≤ 7 → up C 32 k (C 32 k + 1) (K.1 + i) = C (K.1 + i) := fun i hi => cf _ (by rcases h1 with e | e <;> rw [e] <;> omega)
    have e0 : up C 32 k (C 32 k + 1) K.1 = C K.1 := e 0 (by omega)
    unfold RG
    rw [e0, e 4 (by omega), e 5 (by omega), e 6 (by omega), e 7 (by omega)]
    exact h3
  · unfold RGm
    rw [mf 75 (by decide) (by decide), mf 81 (by decide) (by decide), mf 78 (by decide) (by decide), mf 82 (by decide) (by decide), mf 83 (by decide) (by decide)]
    exact a2.2.1
  · have := a2.2.2.1
    unfold RWm at this ⊢
    rw [m7 34 (by decide), mf 87 (by decide) (by decide), mf 88 (by decide) (by decide), mf 89 (by decide) (by decide), mf 85 (by decide) (by decide), mf 95 (by decide) (by decide), mf 90 (by decide) (by decide), mf 91 (by decide) (by decide)]
    exact ⟨this.1, fun q => (Bool.noConfusion q), this.2.2⟩
  · rw [cf 0 (by decide), m7 26 (by decide)]; exact d
  · rw [up_s, up_s]
    unfold upd
    split
    · rw [g k hk]
    · exact g x hx
theorem EQ_fail {k : Int32} : EQm M (up (up M 71 4 0) 71 4 k) := EQm_trans (EQ_code M 0) (EQ_code _ _)
theorem refuse_c {k : Nat} {x : Int32} (hx : x = nI k) (hk : k < 3) : f_X6_refuse N (HP C M K O) 0 x = some (-1, HP (up C 32 k (C 32 k + 1)) M K O) := by
  subst hx
  simp only [f_X6_refuse, ↓b_rdC, ↓b_raC, hk, ↓b_waC]
theorem refuse_m {k : Nat} {x : Int32} (hx : x = nI k) (hk : k < 3) : f_X7_refuse N (HP C (up M 71 4 0) K O) 71 x = some (-1, HP C (up (up M 71 4 0) 84 k (M 84 k + 1)) K O) := by
  subst hx
  have e : up M 71 4 0 84 k = M 84 k := by rw [up_o (by decide)]
  simp only [f_X7_refuse, ↓b_rdM, ↓b_raM, hk, ↓b_waM, e]
theorem FR_21 (h : FR 21 C C') : ∀ x, x < 21 ∨ 31 < x → C' x = C x := fun x hx => h x (by omega)
set_option maxHeartbeats 4000000 in
theorem steps_m (h : RGm M G) (hG : okG G) (hW : RWm G false M W) (ok : okW G W) {n : Nat} (hn : n ≤ 20) (hN : 1000 ≤ N) : ∃ M', f_X7_goOn N (HP C M K O) 71 (nI n) = some (HP C M' K O) ∧ RWm G false M' (passN G n W) ∧ FM M M' := by
  have q := itr_inv (body := fun s : Int32 × AH => f_X7_goOn_l2 N 71 (nI n) s.1 s.2)
    (fun k s => ∃ M', s = (nI k, HP C M' K O) ∧ RWm G false M' (passN G k W) ∧ FM M M')
    (P := fun r => ∃ M', r = HP C M' K O ∧ RWm G false M' (passN G n W) ∧ FM M M') (n := n) ?_ ?_ (s := (0, HP C M K O)) ⟨M, rfl, hW, FM_refl⟩ (N := N) (by omega)
  · obtain ⟨r, q1, M', e, q2⟩ := q
    rw [e] at q1
    refine ⟨M', ?_, q2⟩
    simp only [f_X7_goOn, f_X7_goOn_b2, q1, Option.bind_some]
  · rintro k s hk ⟨M1, rfl, h1, h3⟩
    left
    obtain ⟨M2, q1, q2, q3⟩ := aStepIn_m (C := C) (K := K) (O := O) hG (RGm_fr h h3) h1 (okW_passN hG ok k) 0 hN
    refine ⟨(nI (k + 1), HP C M2 K O), ?_, M2, rfl, q2, FM_trans h3 q3⟩
    simp only [f_X7_goOn_l2, nle hk (by omega), ↓reduceIte, ↓b_rdM, ↓bnd q1, nI_1]
  · rintro s ⟨M1, rfl, h1⟩
    refine ⟨_, ?_, M1, rfl, h1⟩
    simp only [f_X7_goOn_l2, yle (Nat.le_refl n) (by omega), ↓reduceIte]
set_option maxHeartbeats 4000000 in
theorem steps_c (hg : gok K.1) (hG : okG G) (h : RG K.1 C G) (hW : RW G 21 C W) (ok : okW G W) {n : Nat} (hn : n ≤ 20) (hN : 1000 ≤ N) : ∃ C', itr (fun s : Int32 × AH => f_X6_steps_l44 N 0 (nI n) s.1 s.2) N (0, HP C M K O) = some (HP C' M K O) ∧ RW G 21 C' (passN G n W) ∧ FR 21 C C' := by
  have q := itr_inv (body := fun s : Int32 × AH => f_X6_steps_l44 N 0 (nI n) s.1 s.2)
    (fun k s => ∃ C', s = (nI k, HP C' M K O) ∧ RW G 21 C' (passN G k W) ∧ FR 21 C C')
    (P := fun r => ∃ C', r = HP C' M K O ∧ RW G 21 C' (passN G n W) ∧ FR 21 C C') (n := n) ?_ ?_ (s := (0, HP C M K O)) ⟨C, rfl, hW, FR_refl⟩ (N := N) (by omega)
  · obtain ⟨r, q1, C1, e, q2⟩ := q
    rw [e] at q1
    exact ⟨C1, q1, q2⟩
  · rintro k s hk ⟨C1, rfl, h1, h3⟩
    left
    obtain ⟨C2, q1, q2, q3⟩ := pass_c (M := M) (K := K) (O := O) hg w21 hG (RG_fr hg w21 h h3) h1 (okW_passN hG ok k) 0 hN
    refine ⟨(nI (k + 1), HP C2 M K O), ?_, C2, rfl, q2, FR_trans h3 q3⟩
    simp only [f_X6_steps_l44, nle hk (by omega), ↓reduceIte, ↓b_rdC, ↓bnd q1, nI_1]
  · rintro s ⟨C1, rfl, h1⟩
    refine ⟨_, ?_, C1, rfl, h1⟩
    simp only [f_X6_steps_l44, yle (Nat.le_refl n) (by omega), ↓reduceIte]
theorem goV_4 {j : Nat} {y : Int32} : goV G W j y 4 = W 4 := by
  unfold goV
  split
  · rw [up_o (by decide), up_o (by decide)]
  · rw [up_o (by decide)]
theorem letA_4 : ∀ k, letA G W k 4 = W 4
  | 0 => rfl
  | k + 1 => by
    unfold letA
    split
    · rw [goV_4]; exact letA_4 k
    · exact letA_4 k
theorem driftV_4 {fd : Int32} {j : Nat} : driftV G fd W j 4 = W 4 := by
  unfold driftV
  rw [goV_4]
  unfold turnA faceV seeV
  rw [up_o (by decide), up_o (by decide), up_o (by decide)]
theorem drfA_4 {fd : Int32} : ∀ k, drfA G fd W k 4 = W 4
  | 0 => rfl
  | k + 1 => by
    unfold drfA
    split
    · rw [driftV_4]; exact drfA_4 k
    · exact drfA_4 k
theorem passN_4 : ∀ n, passN G n W 4 = W 4
  | 0 => rfl
  | n + 1 => by
    show passV G 0 (passN G n W) 4 = W 4
    unfold passV tickV
    rw [up_o (by decide), drfA_4, letA_4]
    exact passN_4 n
set_option maxHeartbeats 4000000 in
theorem a_steps (h : REL K C M G W) (hN : 10000 ≤ N) : AD K M O (f_X6_steps N (HP C M K O) 0 a) (fun C' K' O' => f_X7_steps N (HP C' M K' O') 71 a) := by
  have hN1 : 1000 ≤ N := by omega
  have hc := h.1.1
  have hm := h.1.2.1
  have hl := h.1.2.2
  have e0 : C 21 0 = W 0 0 := hc.2.2.2.1.1
  have e34 : up M 71 4 0 71 34 = W 0 0 := by rw [up_s, upd_o (by decide)]; exact hm.2.2.1.1
  have t1 : ¬ (1 : Int32) = 0 := by decide
  have ref : f_X6_steps_b29 N 0 (HP C M K O) = some (-1, HP (up C 32 1 (C 32 1 + 1)) M K O) := by
    simp only [f_X6_steps_b29, ↓b_rdC, ↓bnd (refuse_c (x := 1) (k := 1) rfl (by decide))]
  have rem : ∀ C1 O1, f_X7_steps_b29 N 71 (HP C1 (up M 71 4 0) K O1) = some (-1, HP C1 (up (up M 71 4 0) 84 1 (M 84 1 + 1)) K O1) := fun C1 O1 => by
    simp only [f_X7_steps_b29, ↓b_rdM, ↓bnd (refuse_m (x := 1) (k := 1) rfl (by decide))]
  by_cases hb : btw a 1 20
  · have hb' := hb
    obtain ⟨n, n1, n2, rfl⟩ := hb'
    have l1 : ¬ nI n < 1 := nI_nlt (a := n) (b := 1) n1 (by omega)
    have l2 : ¬ 20 < nI n := nI_nlt (a := 20) (b := n) n2 (by omega)
    by_cases z : W 0 0 + nI n ≤ 999
    · obtain ⟨C1, k1, k2, k3, k4⟩ := keep_b (O := O) h hN
      have hg1 : RG K.1 C1 G := by
        have e : ∀ i, i ≤ 7 → C1 (K.1 + i) = C (K.1 + i) := fun i hi => k2 _ (by rcases hc.1 with e | e <;> rw [e] <;> omega) (by rcases hc.1 with e | e <;> rw [e] <;> omega)
        have e0 : C1 K.1 = C K.1 := e 0 (by omega)
        unfold RG
        rw [e0, e 4 (by omega), e 5 (by omega), e 6 (by omega), e 7 (by omega)]
        exact hc.2.2.1
      obtain ⟨C2, s1, s2, s3⟩ := steps_c (M := M) (O := O) hc.1 hc.2.1 hg1 (RW_same hc.2.2.2.1 (fun i hi => k2 _ (by omega) (by omega))) hc.2.2.2.2 n2 hN1
      have f2 := FR_21 s3
      refine ⟨passN G n W 0 0, C2, K, ?_, fun O' => ?_⟩
      · simp only [f_X6_steps, f_X6_steps_b44, l1, l2, ↓reduceIte, ↓b_rdC, e0, z, ↓bnd k1, s1, Option.bind_some, s2.1]
      · obtain ⟨M1, p1, p2, p3, p4, p5⟩ := k4 C2 O'
        have n_ : ∀ x, (x = 75 ∨ x = 81 ∨ x = 78 ∨ x = 82 ∨ x = 83) → M1 x = M x := fun x hx => p3 x (by omega) (by omega)
        have g1 : RGm M1 G := by
          unfold RGm
          rw [n_ 75 (by omega), n_ 81 (by omega), n_ 78 (by omega), n_ 82 (by omega), n_ 83 (by omega)]
          exact hm.2.1
        have w1 : RWm G false M1 W := by
          have := hm.2.2.1
          unfold RWm at this ⊢
          rw [p4 34 (by decide) (by decide), p3 87 (by decide) (by decide), p3 88 (by decide) (by decide), p3 89 (by decide) (by decide), p3 85 (by decide) (by decide), p3 95 (by decide) (by decide), p3 90 (by decide) (by decide), p3 91 (by decide) (by decide)]
          exact ⟨this.1, fun q => (Bool.noConfusion q), this.2.2⟩
        obtain ⟨M2, g2, g3, g4⟩ := steps_m (C := C2) (K := K) (O := O') g1 hm.1 w1 hm.2.2.2 n2 hN1
        refine ⟨M2, K, G, passN G n W, ?_, REL_w h (fun x x1 x2 x3 => (f2 x (by omega)).trans (k2 x (by omega) x3)) (by rw [f2 20 (by omega)]; exact k3) ?_ (fun x x1 x2 x3 => (g4.1 x x1).trans (p3 x (fun q => x1 (by unfold stC; omega)) x3)) (fun k x1 x2 x3 x4 => (g4.2 k x2 x4).trans (p4 k x3 x1)) s2 g3 (okW_passN hm.1 hm.2.2.2 n) (fun j hj => by rw [passN_4]; exact hl j hj)⟩
        · have e2 : M2 71 34 = passN G n W 0 0 := g3.1
          simp only [f_X7_steps, ↓b_wrM, ↓bnd (bT120_y hb), t1, ↓reduceIte, ↓b_rdM, e34, z, ↓bnd p1, ↓bnd g2, e2]
        · exact RA_fr p5 (f2 20 (by omega)) (f2 36 (by omega)) (g4.2 35 (by decide) (by decide)) (g4.1 92 (by simp [stC]))
    · refine ⟨-1, up C 32 1 (C 32 1 + 1), K, ?_, fun O' => ⟨up (up M 71 4 0) 84 1 (M 84 1 + 1), K, G, W, ?_, REL_r (by decide) h⟩⟩
      · simp only [f_X6_steps, l1, l2, ↓reduceIte, ↓b_rdC, e0, z, ref]
      · simp only [f_X7_steps, ↓b_wrM, ↓bnd (bT120_y hb), t1, ↓reduceIte, ↓b_rdM, e34, z, rem]
  · refine ⟨-1, up C 32 1 (C 32 1 + 1), K, ?_, fun O' => ⟨up (up M 71 4 0) 84 1 (M 84 1 + 1), K, G, W, ?_, REL_r (by decide) h⟩⟩
    · rw [btw_i (by decide)] at hb
      by_cases y : a < 1
      · simp only [f_X6_steps, y, ↓reduceIte, ref]
      · have y2 : 20 < a := by
          rw [Int32.lt_iff_toInt_lt, show (1 : Int32).toInt = 1 by decide] at y
          rw [Int32.lt_iff_toInt_lt, show (20 : Int32).toInt = 20 by decide]
          omega
        simp only [f_X6_steps, y, y2, ↓reduceIte, ref]
    · simp only [f_X7_steps, ↓b_wrM, ↓bnd (bT120_n hb), ↓reduceIte, rem]
end S68
