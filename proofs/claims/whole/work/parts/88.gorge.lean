/-! gorge -/
def AG (K : KT) (M : ST) (O : Nat → Int64) (x6 : Option ((Nat ⊕ Int32) × AH)) (x7 : ST → KT → (Nat → Int64) → Option (Int32 × AH)) : Prop := ∃ r C' K', x6 = some (r, HP C' M K' O) ∧ ∀ O', ∃ v M' K2 G' W', x7 C' K' O' = some (v, HP C' M' K2 O') ∧ Sum.elim (fun k => k = 2 ∧ M' 71 4 = 1) (fun y => M' 71 4 = 0 ∧ v = y) r ∧ REL K2 C' M' G' W'
def nW (C : ST) (g : Nat) : ST := fun i j => if i = 0 then 0 else if i = 1 then -1 else if i = 2 then C (g + 3) j else if i = 3 then 0 else if i = 4 then C (g + 4) j else if i = 5 then 0 else if i = 6 then C (g + 1) j else C (g + 2) j
section S88
variable {C C' M M' W W' : ST} {K : KT} {O : Nat → Int64} {N : Nat} {G : GT} {x : Int32}
theorem AG_fail {x7 : ST → KT → (Nat → Int64) → Option (Int32 × AH)} {x6 : Option ((Nat ⊕ Int32) × AH)} (h : REL K C M G W) (h6 : x6 = some (.inl 2, HP C M K O)) (h7 : ∀ O', x7 C K O' = some (0, HP C (up (up M 71 4 0) 71 4 1) K O')) : AG K M O x6 x7 := by
  refine ⟨.inl 2, C, K, h6, fun O' => ⟨0, _, K, G, W, h7 O', ?_, REL_q h (fun _ _ => rfl) EQ_fail⟩⟩
  refine ⟨rfl, ?_⟩
  rw [up_s, upd_s]
/-- a text that is not taken: the state is kept, but for the place and the count -/
theorem REL_no {k1 g k3 k4 vl pl : Nat} (h : REL (k1, g, k3, k4) C M G W) (hg : gok g) {C1 M1 : ST} (h1 : C1 0 1 = 0) (hc : ∀ x, x ≠ 0 → x ≠ 2 → x < g ∨ g + 7 < x → C1 x = C x) (h7 : C1 0 7 = C 0 7) (hm : LGm M M1) : REL (k1, g, 1, vl) (up (up C1 0 2 (nI pl)) 32 0 (C1 32 0 + 1)) (up (up M1 71 26 (nI pl)) 84 0 (M1 84 0 + 1)) G W := by
  obtain ⟨⟨⟨c1, c2, c3, c4, c5⟩, ⟨_, m2, m3, _⟩, a3⟩, b, d, e, f, i, im, kk⟩ := h
  obtain ⟨l1, l2, l3, l4, l5, l6, l7, l8⟩ := hm
  have kk' : (k1 = 4 ∧ g = 12) ∨ (k1 = 12 ∧ g = 4) := kk
  have gg : 4 ≤ g ∧ g ≤ 12 := by rcases hg with rfl | rfl <;> omega
  obtain ⟨C3, e3⟩ : ∃ C3, C3 = up (up C1 0 2 (nI pl)) 32 0 (C1 32 0 + 1) := ⟨_, rfl⟩
  obtain ⟨M3, f3⟩ : ∃ M3, M3 = up (up M1 71 26 (nI pl)) 84 0 (M1 84 0 + 1) := ⟨_, rfl⟩
  rw [← e3, ← f3]
  have co : ∀ x, x ≠ 0 → x ≠ 2 → x ≠ 32 → x < g ∨ g + 7 < x → C3 x = C x := fun x a b c d => by rw [e3, up_o c, up_o a, hc x a b d]
  have mo : ∀ x, x ≠ 71 → x ≠ 84 → x < 75 ∨ 83 < x → M3 x = M x := fun x a b c => by rw [f3, up_o b, up_o a, l1 x a c]
  have mo' : ∀ x, x ≠ 71 → x ≠ 84 → M3 x = M1 x := fun x a b => by rw [f3, up_o b, up_o a]
  have mk : ∀ k, 27 < k → M3 71 k = M 71 k := fun k hk => by rw [f3, up_o (by decide), up_s, upd_o (by omega), l6 k hk]
  have kc : ∀ i, i ≤ 7 → C3 (k1 + i) = C (k1 + i) := fun i hi => co _ (by omega) (by omega) (by omega) (by omega)
  have kc0 : C3 k1 = C k1 := kc 0 (by omega)
  have hJ := c2.2.2.1
  have hR := c2.2.1
  refine ⟨⟨⟨c1, c2, ?_, RW_same c4 (fun i hi => co _ (by omega) (by omega) (by omega) (by omega)), c5⟩, ⟨c2, ?_, ?_, c5⟩, a3⟩, ⟨0, by omega, ?_, ?_, fun i hi => absurd hi (Nat.not_lt_zero i)⟩, ?_, RA_fr e (co _ (by omega) (by omega) (by omega) (by omega)) (co _ (by omega) (by omega) (by omega) (by omega)) (mk 35 (by decide)) (mo 92 (by decide) (by decide) (by omega)), RS_fr f (co _ (by omega) (by omega) (by omega) (by omega)) (co _ (by omega) (by omega) (by omega) (by omega)) (co _ (by omega) (by omega) (by omega) (by omega)) (co _ (by omega) (by omega) (by omega) (by omega)) (mk 36 (by decide)) (mo 98 (by decide) (by decide) (by omega)) (mo 99 (by decide) (by decide) (by omega)) (mo 100 (by decide) (by decide) (by omega)), fun k hk => ?_, RIm_fr im ?_ (fun x a b => co x (by omega) (by omega) (by omega) (by omega)) (fun k hk => mk k (by omega)) (fun x a b => mo x (by omega) (by omega) (by omega)), kk⟩
  · have c3' : RG k1 C G := c3
    show RG k1 C3 G
    unfold RG at c3' ⊢
    rw [kc0, kc 4 (by decide), kc 5 (by decide), kc 6 (by decide), kc 7 (by decide)]
    exact c3'
  · obtain ⟨r1, r2, r3, r4, ⟨r5, r6⟩, r7, r8⟩ := m2
    have w1 := c2.2.2.2.2.1.1
    have w2 := c2.2.2.2.2.2.1
    refine ⟨?_, ?_, ?_, fun j hj => ?_, ⟨?_, fun k hk => ?_⟩, ?_, fun k hk => ?_⟩
    · rw [mo' 75 (by decide) (by decide), l2 0 (by decide)]; exact r1
    · rw [mo' 75 (by decide) (by decide), l2 1 (by decide)]; exact r2
    · rw [mo' 75 (by decide) (by decide), l2 2 (by decide)]; exact r3
    · rw [mo' 81 (by decide) (by decide), mo' 78 (by decide) (by decide), (l4 j (by omega)).1, (l4 j (by omega)).2.2.2]; exact r4 j hj
    · rw [mo' 75 (by decide) (by decide), l2 3 (by decide)]; exact r5
    · rw [mo' 82 (by decide) (by decide), (l5 k (by omega)).1]; exact r6 k hk
    · rw [mo' 75 (by decide) (by decide), l2 4 (by decide)]; exact r7
    · rw [mo' 83 (by decide) (by decide), (l5 k (by omega)).2]; exact r8 k hk
  · unfold RWm at m3 ⊢
    rw [mk 34 (by decide), mo 87 (by decide) (by decide) (by omega), mo 88 (by decide) (by decide) (by omega), mo 89 (by decide) (by decide) (by omega), mo 85 (by decide) (by decide) (by omega), mo 90 (by decide) (by decide) (by omega), mo 91 (by decide) (by decide) (by omega), mo 95 (by decide) (by decide) (by omega), mk 40 (by decide)]
    exact m3
  · rw [e3, up_o (by decide), up_s, upd_o (by decide), h1]; rfl
  · rw [f3, up_o (by decide), up_s, upd_o (by decide), l8]; rfl
  · rw [e3, up_o (by decide), up_s, upd_s, f3, up_o (by decide), up_s, upd_s]
  · have z32 : C1 32 = C 32 := hc 32 (by decide) (by decide) (by omega)
    have z84 : M1 84 = M 84 := l1 84 (by decide) (by decide)
    rw [e3, f3, up_s, up_s, up_o (show (32 : Nat) ≠ 0 by decide), up_o (show (84 : Nat) ≠ 71 by decide), z32, z84]
    unfold upd
    split
    · rw [i 0 (by decide)]
    · exact i k hk
  · rw [e3, up_o (by decide), up_s, upd_o (by decide)]; exact h7
/-- a text that is taken: a new gorge, new waters -/
theorem REL_yes {k1 g vl p : Nat} {bS bT bG : Bool} (hg : gok g) (hk : kok (g, k1, 1, vl)) {C1 C3 M1 M2 : ST} (hp : p ≤ 700) (hS : GS g C1 M1 p bS bT bG)
    (t1 : C3 0 1 = 0) (t2 : C3 0 2 = -1) (t3 : C3 0 7 = 0) (t4 : ∀ k, k < 3 → C3 32 k = M2 84 k) (t5 : M2 71 17 = 0) (t6 : M2 71 26 = -1)
    (cg : ∀ i, i ≤ 7 → C3 (g + i) = C1 (g + i)) (b2 : C3 20 2 = 0 ∧ C3 20 3 = 0 ∧ C3 20 8 = 0) (b3 : C3 21 0 = 0)
    (b4 : ∀ j, j < 8 → C3 22 j = -1 ∧ C3 23 j = C1 (g + 3) j ∧ C3 24 j = 0 ∧ C3 25 j = C1 (g + 4) j ∧ C3 26 j = 0) (b5 : ∀ r, r < 9 → C3 27 r = C1 (g + 1) r ∧ C3 28 r = C1 (g + 2) r)
    (u1 : M2 71 34 = 0 ∧ M2 71 35 = 0 ∧ M2 71 36 = 0 ∧ M2 71 52 = 0) (u2 : ∀ k, k < 5 → M2 75 k = M1 75 (5 + k)) (u3 : ∀ k, k < 8 → M2 78 k = M1 78 (8 + k) ∧ M2 81 k = M1 81 (8 + k)) (u4 : ∀ k, k < 700 → M2 82 k = M1 82 (700 + k) ∧ M2 83 k = M1 83 (700 + k))
    (u5 : ∀ q, M1 75 7 = nI q → q ≤ 8 → ∀ j, j < q → M2 85 j = M1 80 (8 + j) ∧ M2 87 j = -1 ∧ M2 88 j = M1 79 (8 + j) ∧ M2 89 j = 0) (u6 : ∀ q, M1 75 6 = nI q → q ≤ 9 → ∀ j, j < q → M2 90 j = M1 76 (9 + j) ∧ M2 91 j = M1 77 (9 + j)) : ∃ G' W', REL (g, k1, 1, vl) C3 M2 G' W' := by
  obtain ⟨s, r, j, ⟨s1, s2, s3, s4, _⟩, ⟨r1, r2, r3, r4⟩, ⟨j1, j2, j3, j4⟩, cl, n1, n2, F1, F2, x1, x2, ⟨⟨f1, v1, v2, v3, v4⟩, ⟨v5, v6⟩, v7, _⟩, ⟨⟨f2, w1, w2, w3, w4⟩, ⟨w5, w6⟩, w7, _⟩⟩ := hS
  have cg0 : C3 g = C1 g := cg 0 (by decide)
  obtain ⟨G', eG⟩ : ∃ G' : GT, G' = ((s, r, j), (C1 (g + 5), C1 (g + 6), C1 (g + 4)), (F1, n1), (F2, n2)) := ⟨_, rfl⟩
  have g1 : gsd G' = s := by rw [eG]; rfl
  have g2 : gRn G' = r := by rw [eG]; rfl
  have g3 : gJ G' = j := by rw [eG]; rfl
  have g4 : glg G' = C1 (g + 5) := by rw [eG]; rfl
  have g5 : gbg G' = C1 (g + 6) := by rw [eG]; rfl
  have g6 : gln G' = C1 (g + 4) := by rw [eG]; rfl
  have g7 : gtF G' = F1 := by rw [eG]; rfl
  have g8 : gtn G' = n1 := by rw [eG]; rfl
  have g9 : ggF G' = F2 := by rw [eG]; rfl
  have g10 : ggn G' = n2 := by rw [eG]; rfl
  have okg : okG G' := by
    unfold okG
    rw [g1, g2, g3, g5, g6, g7, g8, g9, g10]
    refine ⟨⟨s3, s4⟩, r3, j3, fun i hi => ?_, v7, w7⟩
    obtain ⟨a, b, c, t, ha, hb, ht, y1, y2, y3, y4, y5, y6, y7, y8⟩ := j4 i hi
    refine ⟨?_, b, hb, y3⟩
    rcases (show t = 0 ∨ t = 1 by omega) with rfl | rfl
    · exact .inl y7
    · exact .inr y7
  have okw : okW G' (nW C1 g) := by
    unfold okW
    rw [g1, g2, g3]
    refine ⟨fun i hi => ?_, fun i hi => ?_⟩
    · obtain ⟨a, b, c, t, ha, hb, ht, y1, y2, y3, y4, y5, y6, y7, y8⟩ := j4 i hi
      exact ⟨.inr (.inl rfl), ⟨a, ha, y1⟩, ⟨0, by decide, rfl⟩, b, hb, y3⟩
    · obtain ⟨a, b, ha, hb, y1, y2, y3, y4⟩ := r4 i hi
      exact ⟨⟨a, ha, y1⟩, b, hb, y3⟩
  have ng : ∀ (i : Nat) (Q : Prop), i < 0 → Q := fun i Q hi => absurd hi (Nat.not_lt_zero i)
  refine ⟨G', nW C1 g, ⟨⟨hg, okg, ?_, ?_, okw⟩, ⟨okg, ?_, ?_, okw⟩, fun i hi => by rw [g6]; rfl⟩, ⟨0, by decide, t1, t5, fun i hi => ng i _ hi⟩, t2.trans t6.symm, ⟨0, 0, by decide, by decide, b2.1, b2.2.2, u1.2.1, fun i hi => ng i _ hi⟩, ⟨0, by decide, b2.2.1, u1.2.2.1, fun i hi => ng i _ hi⟩, t4, .inl ⟨t3, u1.2.2.2⟩, hk⟩
  · show RG g C3 G'
    unfold RG
    rw [g1, g2, g3, g4, g5, g6, g7, g8, g9, g10, cg0, cg 5 (by decide), cg 6 (by decide), cg 4 (by decide), cg 7 (by decide)]
    exact ⟨s1, r1, j1, fun i hi => ⟨rfl, rfl, rfl⟩, ⟨f1, v1, v2, by omega, v4⟩, ⟨f2, w1, w2, by omega, w4⟩⟩
  · unfold RW
    rw [g2, g3]
    refine ⟨b3, fun i q h1 h5 hq => ?_, fun q hq => ?_⟩
    · obtain ⟨z1, z2, z3, z4, z5⟩ := b4 q (by omega)
      rcases (show i = 1 ∨ i = 2 ∨ i = 3 ∨ i = 4 ∨ i = 5 by omega) with rfl | rfl | rfl | rfl | rfl
      · exact z1
      · exact z2
      · exact z3
      · exact z4
      · exact z5
    · exact b5 q (by omega)
  · unfold RGm
    rw [g1, g2, g3, g4, g5, g7, g8, g9, g10, u2 0 (by decide), u2 1 (by decide), u2 2 (by decide), u2 3 (by decide), u2 4 (by decide)]
    refine ⟨s2, r2, j2, fun i hi => ?_, ⟨v5, fun k hk => ?_⟩, ⟨w5, fun k hk => ?_⟩⟩
    · obtain ⟨a, b, c, t, ha, hb, ht, y1, y2, y3, y4, y5, y6, y7, y8⟩ := j4 i hi
      rw [(u3 i (by omega)).1, (u3 i (by omega)).2, y6, y8]
      exact ⟨y5.symm, y7.symm⟩
    · have := v7.1
      rw [(u4 k (by omega)).1]; exact v6 k hk
    · have := w7.1
      rw [(u4 k (by omega)).2]; exact w6 k hk
  · unfold RWm
    rw [g2, g3]
    refine ⟨u1.1, fun z => absurd z (by decide), fun i hi => ?_, fun i hi => ?_⟩
    · obtain ⟨a, b, c, t, ha, hb, ht, y1, y2, y3, y4, y5, y6, y7, y8⟩ := j4 i hi
      obtain ⟨z1, z2, z3, z4⟩ := u5 j j2 j3 i hi
      exact ⟨z2, z3.trans (y2.trans y1.symm), z4, z1.trans (y4.trans y3.symm), fun z => absurd z (by decide)⟩
    · obtain ⟨a, b, ha, hb, y1, y2, y3, y4⟩ := r4 i hi
      obtain ⟨z1, z2⟩ := u6 r r2 r3 i hi
      exact ⟨z1.trans (y2.trans y1.symm), z2.trans (y4.trans y3.symm)⟩
set_option maxHeartbeats 4000000 in
theorem a_gorge (h : REL K C M G W) (hN : 1000 ≤ N) : AG K M O (f_X6_gorge N (HP C M K O) 0 x) (fun C' K' O' => f_X7_gorge N (HP C' M K' O') 71 x) := by
  obtain ⟨t, t1, t2, t3, t4⟩ := h.2.1
  have d3 : up M 71 4 0 71 17 = nI t := by rw [up_s, upd_o (by decide)]; exact t3
  by_cases q : btw x 0 t
  · obtain ⟨n, n0, n1, rfl⟩ := q
    obtain ⟨k1, g, k3, k4⟩ := K
    have kk : (k1 = 4 ∧ g = 12) ∨ (k1 = 12 ∧ g = 4) := h.2.2.2.2.2.2.2
    have hg : gok g := by rcases kk with ⟨_, e⟩ | ⟨_, e⟩ <;> simp [gok, e]
    have hg1 : gok k1 := by rcases kk with ⟨e, _⟩ | ⟨e, _⟩ <;> simp [gok, e]
    have gg : 4 ≤ g ∧ g ≤ 12 := by rcases hg with rfl | rfl <;> omega
    have l1 : ¬ nI n < 0 := nI_pos (by omega)
    have l2 : nI n ≤ nI t := nI_le n1 (by omega)
    have t1' : ¬ (1 : Int32) = 0 := by decide
    obtain ⟨C0, e0⟩ : ∃ C0, C0 = up C 0 1 0 := ⟨_, rfl⟩
    have c0 : ∀ x, x ≠ 0 → C0 x = C x := fun x hx => by rw [e0, up_o hx]
    have B := read_b (g := g) (C := C0) (M := M) (tx := fun i => (M 86 i).toNatClampNeg) (n := n) (t := t) (vl := k4) (N := N) hg (by omega) (fun i hi => by
      obtain ⟨b, b1, b2, b3⟩ := t4 i (by omega)
      have e : (M 86 i).toNatClampNeg = b := by rw [b2, nI_clampN (by omega)]
      simp only [e]
      rw [c0 1 (by decide)]
      exact ⟨b1, b3, b2⟩) t3 n1 t1 hN
    have hc0 : f_X6_gorge N (HP C M (k1, g, k3, k4) O) 0 (nI n) = ((f_X4_read N (HP C0 M (k1, g, k3, k4) O) 2 1 (nI n)).bind fun r11 =>
  if r11.1 = 0 then (jgr 6 r11.2 0 3).bind fun x38 =>
  (jgi 4 r11.2 x38 1).bind fun x40 =>
  (jwi 6 r11.2 0 2 x40).bind fun h42 =>
  (jgr 6 h42 0 5).bind fun x44 =>
  (jgr 0 h42 x44 1).bind fun x46 =>
  (jal 0 h42 x46 0).bind fun x48 =>
  (jas 0 h42 x46 0 (x48 + 1)).bind fun h50 =>
  (jgr 6 h50 0 3).bind fun x52 =>
  (jgi 4 h50 x52 0).bind fun x54 =>
  some (.inr x54, h50)
  else (jgr 6 r11.2 0 3).bind fun x16 =>
  (jgr 6 r11.2 0 4).bind fun x18 =>
  (jck 4 r11.2 x16).bind fun _ =>
  (f_X4_exchange N r11.2 x16 x18).bind fun r20 =>
  (jwr 6 r20.2 0 4 r20.1).bind fun h24 =>
  (jwi 6 h24 0 2 ((-1))).bind fun h26 =>
  (jwz 6 h26 0 7 0).bind fun h28 =>
  (jgr 6 h28 0 5).bind fun x30 =>
  (jgr 6 h28 0 4).bind fun x32 =>
  (jck 0 h28 x30).bind fun _ =>
  (f_X0_begin N h28 x30 x32).bind fun r34 =>
  some (.inr 0, r34)) := by
      simp only [f_X6_gorge, l1, ↓reduceIte, ↓b_rdC, t2, l2, ↓b_wrC]
      rw [← e0]
    rcases B with ⟨C1, M1, vl, p, bS, bT, bG, r1, r2, r3, r4, r5, r6, r7⟩ | ⟨C1, M1, vl, fl, pl, r1, r2, r3, r4, r5⟩
    · obtain ⟨C2, e2⟩ : ∃ C2, C2 = up (up C1 0 2 (-1)) 0 7 0 := ⟨_, rfl⟩
      obtain ⟨C3, b0, b1, b1', b2, b3, b4, b5⟩ := begin_c (C := C2) (M := M) (K := (g, k1, 1, k4)) (O := O) (N := N) hg hN
      have c2 : ∀ x, x ≠ 0 → C2 x = C1 x := fun x hx => by rw [e2, up_o hx, up_o hx]
      have c1 : ∀ x, x ≠ 0 → x ≠ 2 → x < g ∨ g + 7 < x → C1 x = C x := fun x a b c => by rw [r5 x b c, c0 x a]
      have hx : f_X4_exchange N (HP C1 M (k1, g, 1, k4) O) 2 k1 = some (g, HP C1 M (k1, k1, 1, k4) O) := by
        simp only [f_X4_exchange, ↓b_rdC, ↓bnd kw_gorge]
      refine ⟨.inr 0, C3, (g, k1, 1, k4), ?_, fun O' => ?_⟩
      · rw [hc0, bnd (r1 M k1 k3 k4 O)]
        simp only [t1', ↓reduceIte, ↓b_rdC, ↓bnd hx, ↓bnd kw_told, ↓b_wrC, jwz_eq (v := 0) (.inl rfl)]
        rw [← e2]
        simp only [↓b_rdC, ↓bnd b0]
      · obtain ⟨s, r, j, _, g6, g7, _⟩ := id r4
        obtain ⟨M2, u0, u1, u2, u3, u4, u5, u6, u7, u8⟩ := takeOver_m (C := C3) (M := M1) (K := (g, k1, 1, vl)) (O := O') (N := N) (q := j) (r := r) g7.2.2.1 g6.2.2.1 g7.2.1 g6.2.1 hN
        have z : C3 0 = C2 0 := b1 0 (by omega)
        obtain ⟨G', W', R⟩ := REL_yes (k1 := k1) (vl := vl) (C1 := C1) (C3 := C3) (M1 := M1) (M2 := M2) hg (by
            rcases kk with ⟨e, e'⟩ | ⟨e, e'⟩
            · exact .inr ⟨e', e⟩
            · exact .inl ⟨e', e⟩) r3 r4
          (by rw [z, e2, up_s, upd_o (by decide), up_s, upd_o (by decide), r5 0 (by decide) (by omega), e0, up_s, upd_s])
          (by rw [z, e2, up_s, upd_o (by decide), up_s, upd_s])
          (by rw [z, e2, up_s, upd_s])
          (fun k hk => by rw [b1 32 (by omega), c2 32 (by decide), c1 32 (by decide) (by decide) (by omega), u1 84 (by decide) (by omega), r6.1 84 (by decide) (by omega)]; exact h.2.2.2.2.2.1 k hk)
          (by rw [u2 17 (by decide) (by decide) (by decide) (by decide)]; exact r6.2.2.2.2.2.2.2)
          (by rw [u2 26 (by decide) (by decide) (by decide) (by decide)]; exact r7)
          (fun i hi => by rw [b1 _ (by rcases hg with rfl | rfl <;> omega), c2 _ (by omega)])
          b2 b3
          (fun j hj => by
            have := b4 j hj
            rw [c2 _ (by omega), c2 _ (by omega)] at this
            exact this)
          (fun r hr => by
            have := b5 r hr
            rw [c2 _ (by omega), c2 _ (by omega)] at this
            exact this)
          u3 u4 u5 u6
          (fun q hq hq8 i hi => u7 i (by
            have := (eq_nI (a := j) (b := q) (by have := g7.2.2.1; omega) (by omega)).mp (g7.2.1.symm.trans hq)
            omega))
          (fun q hq hq8 i hi => u8 i (by
            have := (eq_nI (a := r) (b := q) (by have := g6.2.2.1; omega) (by omega)).mp (g6.2.1.symm.trans hq)
            omega))
        refine ⟨0, M2, (g, k1, 1, vl), G', W', ?_, ⟨?_, rfl⟩, R⟩
        · refine Eq.trans (r2 C3 g k1 1 O') ?_
          rw [bnd u0]
        · rw [u2 4 (by decide) (by decide) (by decide) (by decide)]; exact r6.2.2.2.2.2.2.1
    · have c1 : ∀ x, x ≠ 0 → x ≠ 2 → x < g ∨ g + 7 < x → C1 x = C x := fun x a b c => by rw [r4 x b c, c0 x a]
      have f0 : C1 2 0 = nI fl := r3.2.2.2.1
      have f1 : C1 2 1 = nI pl := r3.2.2.2.2.1
      have z0 : C1 0 = C0 0 := r4 0 (by decide) (by omega)
      have e32 : up C1 0 2 (nI pl) 32 0 = C1 32 0 := by rw [up_o (by decide)]
      have e20 : up (up C1 0 2 (nI pl)) 32 0 (C1 32 0 + 1) 2 0 = nI fl := by rw [up_o (by decide), up_o (by decide)]; exact f0
      refine ⟨.inr (nI fl), up (up C1 0 2 (nI pl)) 32 0 (C1 32 0 + 1), (k1, g, 1, k4), ?_, fun O' => ?_⟩
      · rw [hc0, bnd (r1 M k1 k3 k4 O)]
        simp only [↓reduceIte, ↓b_rdC, f1, ↓b_wrC, ↓b_rlC, e32, ↓b_wlC, e20]
      · refine ⟨nI fl, _, (k1, g, 1, vl), G, W, r2 _ k1 g 1 O', ⟨?_, rfl⟩, REL_no h hg (by rw [z0, e0, up_s, upd_s]) c1 (by rw [z0, e0, up_s, upd_o (by decide)]) r5⟩
        rw [up_o (by decide), up_s, upd_o (by decide)]; exact r5.2.2.2.2.2.2.1
  · by_cases l : x < 0
    · refine AG_fail h ?_ (fun O' => ?_)
      · simp only [f_X6_gorge, f_X6_gorge_b12, l, ↓reduceIte]
      · simp only [f_X7_gorge, f_X7_gorge_b17, ↓b_wrM, l, ↓reduceIte, ↓b_rdM, ↓bnd fail_1]
    · have l2 := ((lt_l (x := x) (m := t) (y := nI t) rfl (by omega)).2 q l).2
      refine AG_fail h ?_ (fun O' => ?_)
      · simp only [f_X6_gorge, f_X6_gorge_b12, l, ↓reduceIte, ↓b_rdC, t2, l2]
      · simp only [f_X7_gorge, f_X7_gorge_b17, ↓b_wrM, l, ↓reduceIte, ↓b_rdM, d3, l2, ↓bnd fail_1]
end S88
