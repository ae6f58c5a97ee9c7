/-! feed -/
def bt (v : Int32) (k : Nat) : Int32 := vp_nar .byte ((Int32.toInt8 (v >>> (((24 : Int32) - nI (8 * k)) &&& 31))).toInt32)
def wd5 (a b c d e : Int32) (k : Nat) : Int32 := if k < 4 then a else if k < 8 then b else if k < 12 then c else if k < 16 then d else e
theorem sb_toInt : ∀ b, b < 256 → (sb b).toInt = if b < 128 then (b : Int) else (b : Int) - 256 := by decide +kernel
theorem byte_rel (y : Int32) : ∃ b, b < 256 ∧ y &&& 255 = nI b ∧ vp_nar .byte (y.toInt8.toInt32) = sb b := by
  obtain ⟨n, hn⟩ : ∃ n, n = y.toBitVec.toNat := ⟨_, rfl⟩
  have hl : n < 2 ^ 32 := by rw [hn]; exact y.toBitVec.isLt
  have ey : y = nI n := by rw [hn]; exact nI_all y
  have ti : y.toInt = if 2 * n < 2 ^ 32 then (n : Int) else (n : Int) - (2 ^ 32 : Nat) := by
    have := BitVec.toInt_eq_toNat_cond y.toBitVec
    rw [← hn] at this
    exact this
  refine ⟨n % 256, Nat.mod_lt _ (by decide), ?_, ?_⟩
  · rw [ey, show (255 : Int32) = nI 255 from rfl, nI_and]
    exact congrArg nI (Nat.and_two_pow_sub_one_eq_mod n 8)
  · rw [vp_nar_byte, Int8.toInt8_toInt32]
    apply Int32.toInt_inj.mp
    rw [Int8.toInt_toInt32, Int32.toInt_toInt8, sb_toInt _ (Nat.mod_lt _ (by decide)), ti]
    simp only [Int.bmod_def]
    split <;> split <;> split <;> omega
theorem sq_step : ∀ k, k < 4 → ((24 : Int32) - nI (8 * k)) + (-8) = 24 - nI (8 * (k + 1)) ∧ ¬ ((24 : Int32) - nI (8 * k)) < 0 := by decide +kernel
theorem rem4 : ∀ k, k < 20 → (24 : Int32) - (8 * (nI k - nI k / 4 * 4)) = 24 - nI (8 * (k % 4)) := by decide +kernel
section S72
variable {C C' M M' W W' : ST} {K : KT} {O : Nat → Int64} {N t : Nat} {G : GT} {a b c d e v : Int32}
set_option maxHeartbeats 4000000 in
theorem putFour_c (e1 : C 0 1 = nI t) (ht : t + 4 ≤ 700) (hN : 1000 ≤ N) : ∃ C', f_X6_putFour N (HP C M K O) 0 v = some (HP C' M K O) ∧ (∀ x, x ≠ 0 → x ≠ 1 → C' x = C x) ∧ (∀ k, k ≠ 1 → C' 0 k = C 0 k) ∧ C' 0 1 = nI (t + 4) ∧ (∀ i, i < t → C' 1 i = C 1 i) ∧ ∀ i, i < 4 → C' 1 (t + i) = bt v i := by
  have A := itr_inv (body := fun s : Int32 × AH => f_X6_putFour_l3 N 0 v s.1 s.2)
    (fun k s => ∃ C', s = ((24 : Int32) - nI (8 * k), HP C' M K O) ∧ (∀ x, x ≠ 0 → x ≠ 1 → C' x = C x) ∧ (∀ k, k ≠ 1 → C' 0 k = C 0 k) ∧ C' 0 1 = nI (t + k) ∧ (∀ i, i < t → C' 1 i = C 1 i) ∧ ∀ i, i < k → C' 1 (t + i) = bt v i)
    (P := fun r => ∃ C', r = HP C' M K O ∧ (∀ x, x ≠ 0 → x ≠ 1 → C' x = C x) ∧ (∀ k, k ≠ 1 → C' 0 k = C 0 k) ∧ C' 0 1 = nI (t + 4) ∧ (∀ i, i < t → C' 1 i = C 1 i) ∧ ∀ i, i < 4 → C' 1 (t + i) = bt v i) (n := 4) ?_ ?_ (s := (24, HP C M K O)) ⟨C, rfl, fun _ _ _ => rfl, fun _ _ => rfl, e1, fun _ _ => rfl, fun i hi => absurd hi (Nat.not_lt_zero i)⟩ (N := N) (by omega)
  · obtain ⟨r, a1, C1, q, a2⟩ := A
    rw [q] at a1
    refine ⟨C1, ?_, a2⟩
    simp only [f_X6_putFour, f_X6_putFour_b3, a1, Option.bind_some]
  · rintro k s hk ⟨C1, rfl, h1, h2, h3, h4, h5⟩
    left
    obtain ⟨q1, q2⟩ := sq_step k hk
    have n7 : ¬ (700 : Int32) ≤ nI (t + k) := nI_ge (b := 700) (by omega) (by omega)
    have l7 : t + k < 700 := by omega
    have g1 : up C1 1 (t + k) (bt v k) 0 1 = nI (t + k) := by rw [up_o (by decide)]; exact h3
    refine ⟨((24 : Int32) - nI (8 * (k + 1)), HP (up (up C1 1 (t + k) (bt v k)) 0 1 (nI (t + k + 1))) M K O), ?_, _, rfl, fun x x1 x2 => by rw [up_o x1, up_o x2]; exact h1 x x1 x2, fun k hk => by rw [up_s, upd_o hk, up_o (by decide)]; exact h2 k hk, by rw [up_s, upd_s]; rfl, fun i hi => by rw [up_o (by decide), up_s, upd_o (by omega)]; exact h4 i hi, fun i hi => ?_⟩
    · simp only [f_X6_putFour_l3, q2, ↓reduceIte, ↓b_rdC, h3, n7, ↓b_waC, l7]
      rw [show vp_nar .byte ((Int32.toInt8 (v >>> (((24 : Int32) - nI (8 * k)) &&& 31))).toInt32) = bt v k from rfl]
      simp only [↓b_rdC, g1, nI_1, ↓b_wrC, q1]
    · rw [up_o (by decide), up_s]
      by_cases z : i = k
      · rw [z, upd_s]
      · rw [upd_o (by omega)]
        exact h5 i (by omega)
  · rintro s ⟨C1, rfl, h⟩
    refine ⟨_, ?_, C1, rfl, h⟩
    simp only [f_X6_putFour_l3, show ((24 : Int32) - nI (8 * 4)) < 0 by decide, ↓reduceIte]
theorem feed_w {h : AH} {k : Nat} (hk : k < 20) : f_X7_feed_l23 N 71 a b c d e (nI k) h = f_X7_feed_b76 N 71 a b c d e (nI k) (wd5 a b c d e k) h := by
  have n20 : ¬ (20 : Int32) ≤ nI k := nI_ge (b := 20) hk (by omega)
  obtain ⟨w, ew⟩ : ∃ w, w = wd5 a b c d e k := ⟨_, rfl⟩
  rw [← ew]
  unfold wd5 at ew
  by_cases k4 : k < 4
  · have c4 : ¬ (4 : Int32) ≤ nI k := nI_ge (b := 4) k4 (by omega)
    rw [if_pos k4] at ew
    rw [ew]
    simp only [f_X7_feed_l23, n20, c4, ↓reduceIte]
  · have c4 : (4 : Int32) ≤ nI k := nI_le (a := 4) (by omega) (by omega)
    rw [if_neg k4] at ew
    by_cases k8 : k < 8
    · have c8 : ¬ (8 : Int32) ≤ nI k := nI_ge (b := 8) k8 (by omega)
      rw [if_pos k8] at ew
      rw [ew]
      simp only [f_X7_feed_l23, n20, c4, c8, ↓reduceIte]
    · have c8 : (8 : Int32) ≤ nI k := nI_le (a := 8) (by omega) (by omega)
      rw [if_neg k8] at ew
      by_cases k12 : k < 12
      · have c12 : ¬ (12 : Int32) ≤ nI k := nI_ge (b := 12) k12 (by omega)
        rw [if_pos k12] at ew
        rw [ew]
        simp only [f_X7_feed_l23, n20, c4, c8, c12, ↓reduceIte]
      · have c12 : (12 : Int32) ≤ nI k := nI_le (a := 12) (by omega) (by omega)
        rw [if_neg k12] at ew
        by_cases k16 : k < 16
        · have c16 : ¬ (16 : Int32) ≤ nI k := nI_ge (b := 16) k16 (by omega)
          rw [if_pos k16] at ew
          rw [ew]
          simp only [f_X7_feed_l23, n20, c4, c8, c12, c16, ↓reduceIte]
        · have c16 : (16 : Int32) ≤ nI k := nI_le (a := 16) (by omega) (by omega)
          rw [if_neg k16] at ew
          rw [ew]
          simp only [f_X7_feed_l23, n20, c4, c8, c12, c16, ↓reduceIte]
set_option maxHeartbeats 4000000 in
theorem feed_m (e1 : M 71 17 = nI t) (ht : t + 20 ≤ 700) (hN : 1000 ≤ N) : ∃ M', itr (fun s : Int32 × AH => f_X7_feed_l23 N 71 a b c d e s.1 s.2) N (0, HP C M K O) = some (HP C M' K O) ∧ (∀ x, x ≠ 71 → x ≠ 86 → M' x = M x) ∧ (∀ k, k ≠ 17 → M' 71 k = M 71 k) ∧ M' 71 17 = nI (t + 20) ∧ (∀ i, i < t → M' 86 i = M 86 i) ∧ ∀ i, i < 20 → M' 86 (t + i) = (wd5 a b c d e i >>> (((24 : Int32) - nI (8 * (i % 4))) &&& 31)) &&& 255 := by
  have A := itr_inv (body := fun s : Int32 × AH => f_X7_feed_l23 N 71 a b c d e s.1 s.2)
    (fun k s => ∃ M', s = (nI k, HP C M' K O) ∧ (∀ x, x ≠ 71 → x ≠ 86 → M' x = M x) ∧ (∀ k, k ≠ 17 → M' 71 k = M 71 k) ∧ M' 71 17 = nI (t + k) ∧ (∀ i, i < t → M' 86 i = M 86 i) ∧ ∀ i, i < k → M' 86 (t + i) = (wd5 a b c d e i >>> (((24 : Int32) - nI (8 * (i % 4))) &&& 31)) &&& 255)
    (P := fun r => ∃ M', r = HP C M' K O ∧ (∀ x, x ≠ 71 → x ≠ 86 → M' x = M x) ∧ (∀ k, k ≠ 17 → M' 71 k = M 71 k) ∧ M' 71 17 = nI (t + 20) ∧ (∀ i, i < t → M' 86 i = M 86 i) ∧ ∀ i, i < 20 → M' 86 (t + i) = (wd5 a b c d e i >>> (((24 : Int32) - nI (8 * (i % 4))) &&& 31)) &&& 255) (n := 20) ?_ ?_ (s := (0, HP C M K O)) ⟨M, rfl, fun _ _ _ => rfl, fun _ _ => rfl, e1, fun _ _ => rfl, fun i hi => absurd hi (Nat.not_lt_zero i)⟩ (N := N) (by omega)
  · obtain ⟨r, a1, M1, q, a2⟩ := A
    rw [q] at a1
    exact ⟨M1, a1, a2⟩
  · rintro k s hk ⟨M1, rfl, h1, h2, h3, h4, h5⟩
    left
    have q1 := rem4 k hk
    have l7 : t + k < 700 := by omega
    have g1 : up M1 86 (t + k) ((wd5 a b c d e k >>> (((24 : Int32) - nI (8 * (k % 4))) &&& 31)) &&& 255) 71 17 = nI (t + k) := by rw [up_o (by decide)]; exact h3
    refine ⟨(nI (k + 1), HP C (up (up M1 86 (t + k) ((wd5 a b c d e k >>> (((24 : Int32) - nI (8 * (k % 4))) &&& 31)) &&& 255)) 71 17 (nI (t + k + 1))) K O), ?_, _, rfl, fun x x1 x2 => by rw [up_o x1, up_o x2]; exact h1 x x1 x2, fun k hk => by rw [up_s, upd_o hk, up_o (by decide)]; exact h2 k hk, by rw [up_s, upd_s]; rfl, fun i hi => by rw [up_o (by decide), up_s, upd_o (by omega)]; exact h4 i hi, fun i hi => ?_⟩
    · simp only [feed_w hk, f_X7_feed_b76, q1, ↓b_rdM, h3, ↓b_waM, l7, g1, nI_1, ↓b_wrM]
    · rw [up_o (by decide), up_s]
      by_cases z : i = k
      · rw [z, upd_s]
      · rw [upd_o (by omega)]
        exact h5 i (by omega)
  · rintro s ⟨M1, rfl, h⟩
    refine ⟨_, ?_, M1, rfl, h⟩
    simp only [f_X7_feed_l23, show (20 : Int32) ≤ nI 20 by decide, ↓reduceIte]
/-- the tape anew, all else as it was -/
theorem REL_t (h : REL K C M G W) (c1 : ∀ x, x ≠ 0 → x ≠ 1 → C' x = C x) (c2 : ∀ k, k ≠ 1 → C' 0 k = C 0 k) (m1 : ∀ x, x ≠ 71 → x ≠ 86 → M' x = M x) (m2 : ∀ k, k ≠ 4 → k ≠ 17 → M' 71 k = M 71 k) (ht : RT C' M') : REL K C' M' G W := by
  obtain ⟨⟨a1, a2, a3⟩, b, d, e, f, g, i, kk⟩ := h
  obtain ⟨h1, h2, h3, h4, h5⟩ := a1
  refine ⟨⟨⟨h1, h2, ?_, RW_same h4 (fun i hi => c1 _ (by omega) (by omega)), h5⟩, ⟨h2, ?_, ?_, h5⟩, a3⟩, ht, ?_, RA_fr e (c1 20 (by decide) (by decide)) (c1 36 (by decide) (by decide)) (m2 35 (by decide) (by decide)) (m1 92 (by decide) (by decide)), RS_fr f (c1 20 (by decide) (by decide)) (c1 33 (by decide) (by decide)) (c1 34 (by decide) (by decide)) (c1 35 (by decide) (by decide)) (m2 36 (by decide) (by decide)) (m1 98 (by decide) (by decide)) (m1 99 (by decide) (by decide)) (m1 100 (by decide) (by decide)), fun x hx => ?_, RIm_fr i (c2 7 (by decide)) (fun x y z => c1 x (by omega) (by omega)) (fun k hk => m2 k (by omega) (by omega)) (fun x y z => m1 x (by omega) (by omega)), kk⟩
  · have e : ∀ i, i ≤ 7 → C' (K.1 + i) = C (K.1 + i) := fun i hi => c1 _ (by rcases h1 with e | e <;> rw [e] <;> omega) (by rcases h1 with e | e <;> rw [e] <;> omega)
    have e0 : C' K.1 = C K.1 := e 0 (by omega)
    unfold RG
    rw [e0, e 4 (by omega), e 5 (by omega), e 6 (by omega), e 7 (by omega)]
    exact h3
  · have n : ∀ x, (x = 75 ∨ x = 81 ∨ x = 78 ∨ x = 82 ∨ x = 83) → M' x = M x := fun x hx => m1 x (by omega) (by omega)
    unfold RGm
    rw [n 75 (by omega), n 81 (by omega), n 78 (by omega), n 82 (by omega), n 83 (by omega)]
    exact a2.2.1
  · have n : ∀ x, (x = 87 ∨ x = 88 ∨ x = 89 ∨ x = 85 ∨ x = 95 ∨ x = 90 ∨ x = 91) → M' x = M x := fun x hx => m1 x (by omega) (by omega)
    have := a2.2.2.1
    unfold RWm at this ⊢
    rw [m2 34 (by decide) (by decide), n 87 (by omega), n 88 (by omega), n 89 (by omega), n 85 (by omega), n 95 (by omega), n 90 (by omega), n 91 (by omega)]
    exact ⟨this.1, fun q => (Bool.noConfusion q), this.2.2⟩
  · rw [c2 2 (by decide), m2 26 (by decide) (by decide)]; exact d
  · rw [c1 32 (by decide) (by decide), m1 84 (by decide) (by decide)]; exact g x hx
set_option maxHeartbeats 4000000 in
theorem a_feed (h : REL K C M G W) (hN : 1000 ≤ N) : AD K M O (f_X6_feed N (HP C M K O) 0 a b c d e) (fun C' K' O' => f_X7_feed N (HP C' M K' O') 71 a b c d e) := by
  obtain ⟨t, t1, t2, t3, t4⟩ := h.2.1
  have d3 : up M 71 4 0 71 17 = nI t := by rw [up_s, upd_o (by decide)]; exact t3
  have s20 : nI t + 20 = nI (t + 20) := nI_add t 20
  by_cases z : t + 20 ≤ 700
  · have l : nI (t + 20) ≤ 700 := nI_le (b := 700) z (by decide)
    obtain ⟨C1, p1, p2, p3, p4, p5, p6⟩ := putFour_c (M := M) (K := K) (O := O) (v := a) t2 (by omega) hN
    obtain ⟨C2, q1, q2, q3, q4, q5, q6⟩ := putFour_c (M := M) (K := K) (O := O) (v := b) p4 (by omega) hN
    obtain ⟨C3, r1, r2, r3, r4, r5, r6⟩ := putFour_c (M := M) (K := K) (O := O) (v := c) q4 (by omega) hN
    obtain ⟨C4, u1, u2, u3, u4, u5, u6⟩ := putFour_c (M := M) (K := K) (O := O) (v := d) r4 (by omega) hN
    obtain ⟨C5, v1, v2, v3, v4, v5, v6⟩ := putFour_c (M := M) (K := K) (O := O) (v := e) u4 (by omega) hN
    have e5 : C5 0 1 = nI (t + 20) := v4
    have ev : ∀ i, i < 20 → C5 1 (t + i) = bt (wd5 a b c d e i) (i % 4) := by
      intro i hi
      unfold wd5
      by_cases k4 : i < 4
      · rw [if_pos k4, v5 _ (by omega), u5 _ (by omega), r5 _ (by omega), q5 _ (by omega), p6 i k4, Nat.mod_eq_of_lt k4]
      · rw [if_neg k4]
        by_cases k8 : i < 8
        · rw [if_pos k8, v5 _ (by omega), u5 _ (by omega), r5 _ (by omega), show t + i = t + 4 + (i - 4) by omega, q6 _ (by omega)]
          exact congrArg (bt b) (by omega)
        · rw [if_neg k8]
          by_cases k12 : i < 12
          · rw [if_pos k12, v5 _ (by omega), u5 _ (by omega), show t + i = t + 4 + 4 + (i - 8) by omega, r6 _ (by omega)]
            exact congrArg (bt c) (by omega)
          · rw [if_neg k12]
            by_cases k16 : i < 16
            · rw [if_pos k16, v5 _ (by omega), show t + i = t + 4 + 4 + 4 + (i - 12) by omega, u6 _ (by omega)]
              exact congrArg (bt d) (by omega)
            · rw [if_neg k16, show t + i = t + 4 + 4 + 4 + 4 + (i - 16) by omega, v6 _ (by omega)]
              exact congrArg (bt e) (by omega)
    have eo : ∀ i, i < t → C5 1 i = C 1 i := fun i hi => by rw [v5 _ (by omega), u5 _ (by omega), r5 _ (by omega), q5 _ (by omega), p5 i hi]
    refine ⟨nI (t + 20), C5, K, ?_, fun O' => ?_⟩
    · simp only [f_X6_feed, ↓b_rdC, t2, s20, l, ↓reduceIte, ↓bnd p1, ↓bnd q1, ↓bnd r1, ↓bnd u1, ↓bnd v1, e5]
    · obtain ⟨M1, m1, m2, m3, m4, m5, m6⟩ := feed_m (C := C5) (K := K) (O := O') (a := a) (b := b) (c := c) (d := d) (e := e) d3 z hN
      refine ⟨M1, K, G, W, ?_, REL_t h (fun x x1 x2 => by rw [v2 x x1 x2, u2 x x1 x2, r2 x x1 x2, q2 x x1 x2, p2 x x1 x2]) (fun k hk => by rw [v3 k hk, u3 k hk, r3 k hk, q3 k hk, p3 k hk]) (fun x x1 x2 => by rw [m2 x x1 x2, up_o x1]) (fun k k1 k2 => by rw [m3 k k2, up_s, upd_o k1]) ⟨t + 20, z, e5, m4, fun i hi => ?_⟩⟩
      · simp only [f_X7_feed, f_X7_feed_b23, ↓b_wrM, ↓b_rdM, d3, s20, l, ↓reduceIte, m1, Option.bind_some, m4]
      · rcases Nat.lt_or_ge i t with y | y
        · rw [eo i y, m5 i y, up_o (by decide)]
          exact t4 i y
        · obtain ⟨j, rfl⟩ : ∃ j, i = t + j := ⟨i - t, by omega⟩
          rw [ev j (by omega), m6 j (by omega)]
          exact byte_rel _
  · have l : ¬ nI (t + 20) ≤ 700 := nI_ge (a := 700) (by omega) (by omega)
    refine ⟨-1, C, K, ?_, fun O' => ⟨up M 71 4 0, K, G, W, ?_, REL_q h (fun _ _ => rfl) (EQ_code M 0)⟩⟩
    · simp only [f_X6_feed, ↓b_rdC, t2, s20, l, ↓reduceIte]
    · simp only [f_X7_feed, ↓b_wrM, ↓b_rdM, d3, s20, l, ↓reduceIte]
end S72
