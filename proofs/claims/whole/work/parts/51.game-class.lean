/-! the game of two judges -/
def gmX (G : GT) (D : ST) (j i c : Nat) : ST := if c % 2 = 1 then faceV G (if c / 2 = 1 then faceV G D j 1 else D) i 1 else (if c / 2 = 1 then faceV G D j 1 else D)
def gmT (G : GT) (W : ST) (j i c : Nat) : ST := passN G 5 (gmX G (clr W) j i c)
def gnA (G : GT) (W : ST) (j i c : Nat) : Int32 := 2 * bc (gmT G W j i c 3 j &&& (gmT G W j i c 3 i ^^^ (-1))) - nI (c / 2)
def gnB (G : GT) (W : ST) (j i c : Nat) : Int32 := 2 * bc (gmT G W j i c 3 i &&& (gmT G W j i c 3 j ^^^ (-1))) - nI (c % 2)
theorem gm_k : ∀ m, m < 4 → ((nI m &&& 2 = 0) ↔ ¬ m / 2 = 1) ∧ ((nI m &&& 1 = 0) ↔ ¬ m % 2 = 1) ∧ nI m >>> (1 &&& 31) = nI (m / 2) ∧ nI m &&& 1 = nI (m % 2) ∧ nI m / 2 = nI (m / 2) ∧ nI m - nI m / 2 * 2 = nI (m % 2) ∧ 2 * nI m = nI (2 * m) ∧ 2 * nI m + 1 = nI (2 * m + 1) ∧ ((nI (m / 2) = 1) ↔ m / 2 = 1) ∧ ((nI (m % 2) = 1) ↔ m % 2 = 1) := by decide
theorem gp_k : ∀ o, o < 4 → ∀ k, k < 4 → (((nI k &&& (nI o ^^^ (-1))) = 0) ↔ k &&& o = k) ∧ nI k ^^^ (nI o &&& 2) = nI (k ^^^ (o &&& 2)) ∧ nI k ^^^ (nI o &&& 1) = nI (k ^^^ (o &&& 1)) ∧ k ^^^ (o &&& 2) < 4 ∧ k ^^^ (o &&& 1) < 4 ∧ (k &&& o = k → (k ^^^ (o &&& 2)) &&& o = k ^^^ (o &&& 2) ∧ (k ^^^ (o &&& 1)) &&& o = k ^^^ (o &&& 1)) ∧ 10 * nI (k / 2) + nI (k % 2) = nI (10 * (k / 2) + k % 2) ∧ k &&& o < 4 := by decide
theorem gq_k : ∀ k, k < 4 → 2 * (nI k ^^^ 2) = nI (2 * (k ^^^ 2)) ∧ 2 * (nI k ^^^ 1) + 1 = nI (2 * (k ^^^ 1) + 1) ∧ k ^^^ 2 < 4 ∧ k ^^^ 1 < 4 := by decide
section S51
variable {C C0 B M M1 W T : ST} {K : KT} {O : Nat → Int64} {N : Nat} {G : GT} {b : Bool}
theorem okW_gmX (hG : okG G) (h : okW G T) {j i c : Nat} (hj : j < gJ G) (hi : i < gJ G) : okW G (gmX G T j i c) := by
  have f1 : ∀ X, okW G X → ∀ q, q < gJ G → okW G (faceV G X q 1) := fun X hX q hq => okW_face (t := 1) hG hX hq (by decide)
  unfold gmX
  split
  · split
    · exact f1 _ (f1 _ h j hj) i hi
    · exact f1 _ h i hi
  · split
    · exact f1 _ h j hj
    · exact h
set_option maxHeartbeats 4000000 in
theorem play_c (hc : CI K C0 G W) (hf : ∀ a, a < 54 → C a = C0 a) {j i m : Nat} (hj : j < gJ G) (hi : i < gJ G) (hm : m < 4) (hN : 1000 ≤ N) : ∃ C', f_X6_play N (HP C M K O) 0 (nI j) (nI i) (nI m) = some (HP C' M K O) ∧ (∀ a, a < 54 → C' a = C0 a) ∧ C' 69 = upd (C 69) m (gnA G W j i m) ∧ C' 70 = upd (C 70) m (gnB G W j i m) := by
  have j8 : j < 8 := by have := hc.2.1.2.2.1; omega
  have i8 : i < 8 := by have := hc.2.1.2.2.1; omega
  obtain ⟨k1, k2, k3, k4, _⟩ := gm_k m hm
  obtain ⟨C1, t1, T1⟩ := TX_try (M := M) (O := O) hc hf hN
  have fin : ∀ C2, TX G C0 C C2 (gmX G (clr W) j i m) → ∃ C', f_X6_play_b42 N 0 (nI j) (nI i) (nI m) (HP C2 M K O) = some (HP C' M K O) ∧ (∀ a, a < 54 → C' a = C0 a) ∧ C' 69 = upd (C 69) m (gnA G W j i m) ∧ C' 70 = upd (C 70) m (gnB G W j i m) := by
    intro C2 T2
    obtain ⟨C3, g1, T3⟩ := TX_goOn (M := M) (O := O) (n := 5) hc T2 (by decide) hN
    rw [show nI 5 = 5 from rfl] at g1
    have e1 : C3 (54 + 3) j = gmT G W j i m 3 j := T3.1.2.1.2.1 3 j (by omega) (by omega) hj
    have e2 : C3 (54 + 3) i = gmT G W j i m 3 i := T3.1.2.1.2.1 3 i (by omega) (by omega) hi
    refine ⟨up (up C3 69 m (gnA G W j i m)) 70 m (gnB G W j i m), ?_, fun a ha => ?_, ?_, ?_⟩
    · simp only [f_X6_play_b42, ↓b_rdC, ↓bnd g1, ↓b_rW w54, ↓b_rWa w54, j8, i8, e1, e2, ↓bnd (bitCount_c _ _ _), k3, k4, ↓b_waC, hm, gnA, gnB]
    · rw [up_o (by omega), up_o (by omega)]; exact T3.1.1 a ha
    · rw [up_o (by decide), up_s, T3.2 69 (by decide)]
    · rw [up_s, up_o (by decide), T3.2 70 (by decide)]
  have mid : ∀ C2 Y, TX G C0 C C2 Y → Y = (if m / 2 = 1 then faceV G (clr W) j 1 else clr W) → ∃ C', f_X6_play_b23 N 0 (nI j) (nI i) (nI m) (HP C2 M K O) = some (HP C' M K O) ∧ (∀ a, a < 54 → C' a = C0 a) ∧ C' 69 = upd (C 69) m (gnA G W j i m) ∧ C' 70 = upd (C 70) m (gnB G W j i m) := by
    intro C2 Y T2 eY
    have hc2 := CI_of hc T2.1.1
    by_cases z : m % 2 = 1
    · have tb := turnBy_c (N := N) (M := M) (K := K) (O := O) hc2.1 w54 hc2.2.1 hc2.2.2.1 T2.1.2.1 hi 1
      have T3 := TX_up (i := 2) (j := i) (v := (Y 2 i + 1) - (Y 2 i + 1) / nI (gsd G) * nI (gsd G)) T2 (by omega) (by omega) (okW_face (t := 1) hc.2.1 T2.1.2.2 hi (by decide))
      have ex : up Y 2 i ((Y 2 i + 1) - (Y 2 i + 1) / nI (gsd G) * nI (gsd G)) = gmX G (clr W) j i m := by
        unfold gmX
        rw [if_pos z, ← eY]
        rfl
      rw [ex] at T3
      obtain ⟨C', r1, r2⟩ := fin _ T3
      refine ⟨C', ?_, r2⟩
      have n0 : ¬ (nI m &&& 1) = 0 := fun q => (k2.mp q) z
      simp only [f_X6_play_b23, n0, ↓reduceIte, ↓b_rdC, ↓b_rW w54, ↓bnd tb]
      exact r1
    · have ex : Y = gmX G (clr W) j i m := by
        unfold gmX
        rw [if_neg z, ← eY]
      rw [ex] at T2
      obtain ⟨C', r1, r2⟩ := fin _ T2
      refine ⟨C', ?_, r2⟩
      simp only [f_X6_play_b23, k2.mpr z, ↓reduceIte]
      exact r1
  by_cases z : m / 2 = 1
  · have hc1 := CI_of hc T1.1.1
    have tb := turnBy_c (N := N) (M := M) (K := K) (O := O) hc1.1 w54 hc1.2.1 hc1.2.2.1 T1.1.2.1 hj 1
    have T3 := TX_up (i := 2) (j := j) (v := (clr W 2 j + 1) - (clr W 2 j + 1) / nI (gsd G) * nI (gsd G)) T1 (by omega) (by omega) (okW_face (t := 1) hc.2.1 T1.1.2.2 hj (by decide))
    obtain ⟨C', r1, r2⟩ := mid _ _ T3 (by rw [if_pos z]; rfl)
    refine ⟨C', ?_, r2⟩
    have n0 : ¬ (nI m &&& 2) = 0 := fun q => (k1.mp q) z
    simp only [f_X6_play, ↓b_rdC, ↓bnd t1, n0, ↓reduceIte, ↓b_rW w54, ↓bnd tb]
    exact r1
  · obtain ⟨C', r1, r2⟩ := mid _ _ T1 (by rw [if_neg z])
    refine ⟨C', ?_, r2⟩
    simp only [f_X6_play, ↓b_rdC, ↓bnd t1, k1.mpr z, ↓reduceIte]
    exact r1
def rst (G : GT) (W : ST) (j i o k : Nat) : Prop := ¬ gnA G W j i k < gnA G W j i (k ^^^ (o &&& 2)) ∧ ¬ gnB G W j i k < gnB G W j i (k ^^^ (o &&& 1))
def gm (G : GT) (W : ST) (j i o : Nat) : Nat → Int32 × Int32
  | 0 => (0, -1)
  | k + 1 => if k &&& o = k then (if gnA G W j i k < gnA G W j i (k ^^^ (o &&& 2)) then gm G W j i o k else if gnB G W j i k < gnB G W j i (k ^^^ (o &&& 1)) then gm G W j i o k else ((gm G W j i o k).1 + 1, if (gm G W j i o k).2 = -1 then nI (10 * (k / 2) + k % 2) else (gm G W j i o k).2)) else gm G W j i o k
set_option maxHeartbeats 4000000 in
theorem gameA_c (hc : CI K C0 G W) (hf : ∀ a, a < 54 → C a = C0 a) {j i o : Nat} {v3 : Int32} (hj : j < gJ G) (hi : i < gJ G) (ho : o < 4) (hN : 1000 ≤ N) : ∃ C', f_X6_game_b83 N 0 (nI j) (nI i) v3 (nI o) 0 (HP C M K O) = some (.inr (if v3 = 0 then (gm G W j i o 4).1 else (gm G W j i o 4).2), HP C' M K O) ∧ ∀ a, a < 54 → C' a = C0 a := by
  have q := itr_inv (body := fun s : Int32 × AH => f_X6_game_l83 N 0 (nI j) (nI i) v3 (nI o) s.1 s.2)
    (fun k s => ∃ C', s = (nI k, HP C' M K O) ∧ (∀ a, a < 54 → C' a = C0 a) ∧ ∀ c, c < k → C' 69 (c &&& o) = gnA G W j i (c &&& o) ∧ C' 70 (c &&& o) = gnB G W j i (c &&& o))
    (P := fun r => ∃ C', r = HP C' M K O ∧ (∀ a, a < 54 → C' a = C0 a) ∧ ∀ c, c < 4 → C' 69 (c &&& o) = gnA G W j i (c &&& o) ∧ C' 70 (c &&& o) = gnB G W j i (c &&& o)) (n := 4) ?_ ?_ (s := (0, HP C M K O)) ⟨C, rfl, hf, fun c hc => absurd hc (Nat.not_lt_zero c)⟩ (N := N) (by omega)
  · obtain ⟨r, q1, C1, e, h1, h2⟩ := q
    rw [e] at q1
    refine ⟨C1, ?_, h1⟩
    have q2 := itr_seq (body := fun s : Int32 × Int32 × Int32 × AH => f_X6_game_l115 N 0 v3 (nI o) s.1 s.2.1 s.2.2.1 s.2.2.2) (fun k => ((gm G W j i o k).1, (gm G W j i o k).2, nI k, HP C1 M K O)) (n := 4) (r := ((gm G W j i o 4).1, (gm G W j i o 4).2, HP C1 M K O)) ?_ ?_ (N := N) (by omega)
    · simp only [show nI 0 = 0 from rfl] at q2
      rw [show gm G W j i o 0 = (0, -1) from rfl] at q2
      simp only [f_X6_game_b83, f_X6_game_b115, q1, Option.bind_some, q2]
      split <;> rfl
    · intro k hk
      obtain ⟨g1, g2, g3, g4, g5, g6, g7, g8⟩ := gp_k o ho k hk
      obtain ⟨_, _, k3, k4, _⟩ := gm_k k hk
      have n4 : ¬ (4 : Int32) ≤ nI k := nI_ge (b := 4) hk (by decide)
      by_cases z : k &&& o = k
      · obtain ⟨s1, s2⟩ := g6 z
        have e1 := (h2 k hk).1
        have e2 := (h2 k hk).2
        have e3 := (h2 _ g4).1
        have e4 := (h2 _ g5).2
        rw [z] at e1 e2
        rw [s1] at e3
        rw [s2] at e4
        have er : f_X6_rests N (HP C1 M K O) 0 (nI k) (nI o) = some (if gnA G W j i k < gnA G W j i (k ^^^ (o &&& 2)) then 0 else if gnB G W j i k < gnB G W j i (k ^^^ (o &&& 1)) then 0 else 1, HP C1 M K O) := by
          simp only [f_X6_rests, f_X6_rests_b42, ↓b_rdC, g2, g3, ↓b_raC, g4, g5, hk, e1, e2, e3, e4]
          by_cases y1 : gnA G W j i k < gnA G W j i (k ^^^ (o &&& 2))
          · simp only [y1, ↓reduceIte]
          · by_cases y2 : gnB G W j i k < gnB G W j i (k ^^^ (o &&& 1))
            · simp only [y1, y2, ↓reduceIte]
            · simp only [y1, y2, ↓reduceIte]
        simp only [f_X6_game_l115, f_X6_game_b165, n4, ↓reduceIte, g1.mpr z, ↓b_rdC, ↓bnd er, gm, z, k3, k4, g7, nI_1]
        by_cases y1 : gnA G W j i k < gnA G W j i (k ^^^ (o &&& 2))
        · simp only [y1, ↓reduceIte]
        · by_cases y2 : gnB G W j i k < gnB G W j i (k ^^^ (o &&& 1))
          · simp only [y1, y2, ↓reduceIte]
          · simp only [y1, y2, ↓reduceIte, show ¬ (1 : Int32) = 0 by decide]
            by_cases y3 : (gm G W j i o k).2 = -1
            · simp only [y3, ↓reduceIte]
            · simp only [y3, ↓reduceIte]
      · have n0 : ¬ (nI k &&& (nI o ^^^ (-1))) = 0 := fun q => z (g1.mp q)
        simp only [f_X6_game_l115, f_X6_game_b165, n4, ↓reduceIte, n0, gm, z, nI_1]
    · simp only [f_X6_game_l115, show (4 : Int32) ≤ nI 4 by decide, ↓reduceIte]
  · rintro k s hk ⟨C1, rfl, h1, h2⟩
    left
    obtain ⟨_, _, _, _, _, _, _, g8⟩ := gp_k o ho k hk
    obtain ⟨C2, p1, p2, p3, p4⟩ := play_c (M := M) (O := O) hc h1 hj hi g8 hN
    have n4 : ¬ (4 : Int32) ≤ nI k := nI_ge (b := 4) hk (by decide)
    refine ⟨(nI (k + 1), HP C2 M K O), ?_, C2, rfl, p2, fun c hc' => ?_⟩
    · simp only [f_X6_game_l83, n4, ↓reduceIte, ↓b_rdC, nI_and, ↓bnd p1, nI_1]
    · rw [p3, p4]
      unfold upd
      by_cases y : c &&& o = k &&& o
      · rw [if_pos y, if_pos y, y]; exact ⟨rfl, rfl⟩
      · rw [if_neg y, if_neg y]
        exact h2 c (by rcases Nat.lt_or_eq_of_le (Nat.lt_succ_iff.mp hc') with q | q; exact q; subst q; exact absurd rfl y)
  · rintro s ⟨C1, rfl, h1, h2⟩
    refine ⟨_, ?_, C1, rfl, h1, h2⟩
    simp only [f_X6_game_l83, show (4 : Int32) ≤ nI 4 by decide, ↓reduceIte]
end S51
