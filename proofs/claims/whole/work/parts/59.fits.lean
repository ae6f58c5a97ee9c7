/-! guesses of a lean: leans -/
def GW (W : ST) (k : Nat) : ST := clr (up W 4 (k / 10) (nI (k % 10)))
def fit (G : GT) (W : ST) (q : Nat) (sj st : Nat → Nat) (sv : Nat → Int32) (k : Nat) : Bool := decide (¬ gln G (k / 10) = nI (k % 10)) && thr G q sj st sv (GW W k) (lst st q + 1)
def FI (p : Nat → Bool) (Mb M' : ST) (n : Nat) : Prop := EQm Mb M' ∧ M' 71 4 = Mb 71 4 ∧ M' 71 49 = nI (cnt p n) ∧ ∀ k, k < n → p k = true → M' 102 (cnt p k) = nI k
theorem d10 : ∀ k, k < 80 → nI k / 10 = nI (k / 10) ∧ nI k - nI (k / 10) * 10 = nI (k % 10) := by decide +kernel
theorem m10 (n : Nat) : (10 : Int32) * nI n = nI (10 * n) := by
  show nI 10 * nI n = nI (10 * n)
  unfold nI
  rw [← Int32.ofNat_mul]
theorem cnt_le {p : Nat → Bool} : ∀ n, cnt p n ≤ n
  | 0 => Nat.le_refl _
  | k + 1 => by
    have := cnt_le (p := p) k
    unfold cnt
    split <;> omega
theorem cnt_y {p : Nat → Bool} {k : Nat} (h : p k = true) : cnt p (k + 1) = cnt p k + 1 := by rw [cnt, if_pos h]
theorem cnt_n {p : Nat → Bool} {k : Nat} (h : p k = false) : cnt p (k + 1) = cnt p k := by rw [cnt, if_neg (by rw [h]; decide)]
theorem cnt_mono {p : Nat → Bool} {k : Nat} : ∀ m, cnt p k ≤ cnt p (k + m)
  | 0 => Nat.le_refl _
  | m + 1 => by
    have := cnt_mono (p := p) (k := k) m
    rw [← Nat.add_assoc, cnt]
    split <;> omega
theorem cnt_first {p : Nat → Bool} : ∀ n, cnt p n ≠ 0 → ∃ k, k < n ∧ p k = true ∧ cnt p k = 0
  | 0 => fun h => absurd rfl h
  | n + 1 => fun h => by
    by_cases z : cnt p n = 0
    · by_cases y : p n = true
      · exact ⟨n, by omega, y, z⟩
      · rw [cnt_n (by simpa using y)] at h
        exact absurd z h
    · obtain ⟨k, h1, h2⟩ := cnt_first n z
      exact ⟨k, by omega, h2⟩
theorem clr_up4 {W : ST} {j : Nat} {v : Int32} : clr (up W 4 j v) = up (clr W) 4 j v := by
  funext a
  by_cases h4 : a = 4
  · subst h4
    rw [up_s]
    show up W 4 j v 4 = upd (W 4) j v
    rw [up_s]
  · rw [up_o h4]
    unfold clr
    rw [up_o h4, up_o (show (0 : Nat) ≠ 4 by decide)]
theorem okW_ln {G : GT} {W : ST} {j l : Nat} (h : okW G W) (hl : l < 10) : okW G (up W 4 j (nI l)) := by
  obtain ⟨h1, h2⟩ := h
  refine ⟨fun i hi => ?_, fun r hr => ?_⟩
  · have := h1 i hi
    simp only [up, upd, show ¬ 1 = 4 by decide, show ¬ 2 = 4 by decide, show ¬ 3 = 4 by decide, if_false, if_true]
    refine ⟨this.1, this.2.1, this.2.2.1, ?_⟩
    split
    · exact ⟨l, hl, rfl⟩
    · exact this.2.2.2
  · have := h2 r hr
    simpa only [up, show ¬ 6 = 4 by decide, show ¬ 7 = 4 by decide, if_false]
theorem up_up {M : ST} {a j : Nat} {x y : Int32} : up (up M a j x) a j y = up M a j y := by
  funext b
  by_cases h : b = a
  · subst h
    rw [up_s, up_s, up_s]
    funext i
    unfold upd
    split <;> rfl
  · rw [up_o h, up_o h, up_o h]
theorem up_same {M : ST} {a j : Nat} {x : Int32} (e : x = M a j) : up M a j x = M := by
  subst e
  funext b
  by_cases h : b = a
  · subst h
    rw [up_s]
    funext i
    unfold upd
    split
    · rename_i z; rw [z]
    · rfl
  · rw [up_o h]
section S59
variable {C C0 B M M0 M1 M' W T D : ST} {K : KT} {O : Nat → Int64} {N : Nat} {G : GT} {b : Bool} {q : Nat} {sj st : Nat → Nat} {sv : Nat → Int32} {c : Int32} {p : Nat → Bool}
theorem guess_c (hc : CI K C0 G W) (hf : ∀ a, a < 54 → C a = C0 a) {k : Nat} (hk : k < 10 * gJ G) (hN : 1000 ≤ N) : ∃ C', ((gln G (k / 10) = nI (k % 10) → f_X6_tryGuess N (HP C M K O) 0 (nI k) = some (0, HP C' M K O)) ∧ (¬ gln G (k / 10) = nI (k % 10) → f_X6_tryGuess N (HP C M K O) 0 (nI k) = some (1, HP C' M K O))) ∧ TX G C0 C C' (GW W k) := by
  have hJ := hc.2.1.2.2.1
  have k8 : k / 10 < 8 := by omega
  have kJ : k / 10 < gJ G := by omega
  obtain ⟨d1, d2⟩ := d10 k (by omega)
  obtain ⟨C1, t1, T1⟩ := TX_try (M := M) (O := O) hc hf hN
  have ok : okW G (up (clr W) 4 (k / 10) (nI (k % 10))) := okW_ln (okW_clr hc.2.2.2.2) (by omega)
  have T2 := TX_up T1 (i := 4) (by omega) (by omega) ok
  have eg := ((CI_of hc T2.1.1).2.2.1.2.2.2.1 _ kJ).2.2
  refine ⟨up C1 (54 + 4) (k / 10) (nI (k % 10)), ⟨fun z => ?_, fun z => ?_⟩, by rw [GW, clr_up4]; exact T2⟩
  · unfold f_X6_tryGuess
    rw [d1, d2]
    simp only [↓b_rdC, ↓bnd t1, ↓b_rW w54, ↓b_wWa w54, k8, ↓b_rG hc.1, ↓b_rGa hc.1, eg, z, ↓reduceIte]
  · unfold f_X6_tryGuess
    rw [d1, d2]
    simp only [↓b_rdC, ↓bnd t1, ↓b_rW w54, ↓b_wWa w54, k8, ↓b_rG hc.1, ↓b_rGa hc.1, eg, z, ↓reduceIte]
set_option maxHeartbeats 4000000 in
theorem leansL_c (hc : CI K C G W) (hS : SC G C q sj st sv) (hN : 1000 ≤ N) : ∃ r C', itr (fun s : Int32 × Int32 × AH => f_X6_leans_l31 N 0 c s.1 s.2.1 s.2.2) N (0, 0, HP C M K O) = some r ∧ (∀ a, a < 54 → C' a = C a) ∧ ((c = 1 ∧ ∃ k, k < 10 * gJ G ∧ fit G W q sj st sv k = true ∧ cnt (fit G W q sj st sv) k = 0 ∧ r = .inl (nI k, HP C' M K O)) ∨ ((c = 1 → cnt (fit G W q sj st sv) (10 * gJ G) = 0) ∧ r = .inr (nI (cnt (fit G W q sj st sv) (10 * gJ G)), HP C' M K O))) := by
  have hJ := hc.2.1.2.2.1
  have A := itr_inv (body := fun s : Int32 × Int32 × AH => f_X6_leans_l31 N 0 c s.1 s.2.1 s.2.2)
    (fun k s => ∃ C', s = (nI (cnt (fit G W q sj st sv) k), nI k, HP C' M K O) ∧ (∀ a, a < 54 → C' a = C a) ∧ (c = 1 → cnt (fit G W q sj st sv) k = 0))
    (P := fun r => ∃ C', (∀ a, a < 54 → C' a = C a) ∧ ((c = 1 ∧ ∃ k, k < 10 * gJ G ∧ fit G W q sj st sv k = true ∧ cnt (fit G W q sj st sv) k = 0 ∧ r = .inl (nI k, HP C' M K O)) ∨ ((c = 1 → cnt (fit G W q sj st sv) (10 * gJ G) = 0) ∧ r = .inr (nI (cnt (fit G W q sj st sv) (10 * gJ G)), HP C' M K O)))) (n := 10 * gJ G) ?_ ?_ (s := (0, 0, HP C M K O)) ⟨C, rfl, fun _ _ => rfl, fun _ => rfl⟩ (N := N) (by omega)
  · obtain ⟨r, a1, C', a2, a3⟩ := A
    exact ⟨r, C', a1, a2, a3⟩
  · rintro k s hk ⟨C1, rfl, f1, z1⟩
    obtain ⟨C2, ⟨g1, g2⟩, T2⟩ := guess_c (M := M) (O := O) hc f1 hk hN
    obtain ⟨C3, s1, s2, _⟩ := holds_c (M := M) (O := O) hc hS T2 hN
    have eJ := (CI_of hc f1).2.2.1.2.2.1
    have nl := nle hk (by omega)
    by_cases y : gln G (k / 10) = nI (k % 10)
    · left
      have ef : fit G W q sj st sv k = false := by simp [fit, y]
      refine ⟨(nI (cnt (fit G W q sj st sv) (k + 1)), nI (k + 1), HP C2 M K O), ?_, C2, rfl, T2.1.1, fun z => by rw [cnt_n ef]; exact z1 z⟩
      rw [cnt_n ef]
      simp only [f_X6_leans_l31, f_X6_leans_b70, ↓b_rdC, ↓b_rG hc.1, eJ, m10, nl, ↓reduceIte, ↓bnd (g1 y), nI_1]
    · by_cases x : thr G q sj st sv (GW W k) (lst st q + 1) = true
      · have ef : fit G W q sj st sv k = true := by simp [fit, y, x]
        rw [x] at s1
        by_cases z : c = 1
        · right
          refine ⟨.inl (nI k, HP C3 M K O), ?_, C3, s2, .inl ⟨z, k, hk, ef, z1 z, rfl⟩⟩
          simp only [f_X6_leans_l31, f_X6_leans_b70, ↓b_rdC, ↓b_rG hc.1, eJ, m10, nl, ↓reduceIte, ↓bnd (g2 y), show ¬ (1 : Int32) = 0 by decide, ↓bnd s1, show b2i true = 1 from rfl, z]
        · left
          refine ⟨(nI (cnt (fit G W q sj st sv) (k + 1)), nI (k + 1), HP C3 M K O), ?_, C3, rfl, s2, fun w => absurd w z⟩
          rw [cnt_y ef]
          simp only [f_X6_leans_l31, f_X6_leans_b70, ↓b_rdC, ↓b_rG hc.1, eJ, m10, nl, ↓reduceIte, ↓bnd (g2 y), show ¬ (1 : Int32) = 0 by decide, ↓bnd s1, show b2i true = 1 from rfl, z, nI_1]
      · left
        have x' : thr G q sj st sv (GW W k) (lst st q + 1) = false := by simpa using x
        have ef : fit G W q sj st sv k = false := by simp [fit, x']
        rw [x'] at s1
        refine ⟨(nI (cnt (fit G W q sj st sv) (k + 1)), nI (k + 1), HP C3 M K O), ?_, C3, rfl, s2, fun z => by rw [cnt_n ef]; exact z1 z⟩
        rw [cnt_n ef]
        simp only [f_X6_leans_l31, f_X6_leans_b70, ↓b_rdC, ↓b_rG hc.1, eJ, m10, nl, ↓reduceIte, ↓bnd (g2 y), show ¬ (1 : Int32) = 0 by decide, ↓bnd s1, show b2i false = 0 from rfl, nI_1]
  · rintro s ⟨C1, rfl, f1, z1⟩
    have eJ := (CI_of hc f1).2.2.1.2.2.1
    refine ⟨.inr (nI (cnt (fit G W q sj st sv) (10 * gJ G)), HP C1 M K O), ?_, C1, f1, .inr ⟨z1, rfl⟩⟩
    simp only [f_X6_leans_l31, ↓b_rdC, ↓b_rG hc.1, eJ, m10, yle (Nat.le_refl (10 * gJ G)) (by omega), ↓reduceIte]
/-! the reference -/
theorem RWm_ln {j : Nat} {v : Int32} (h : RWm G b M W) : RWm G b (up M 85 j v) (up W 4 j v) := by
  unfold RWm at h ⊢
  simp only [up, upd, show ¬ 71 = 85 by decide, show ¬ 87 = 85 by decide, show ¬ 88 = 85 by decide, show ¬ 89 = 85 by decide, show ¬ 95 = 85 by decide, show ¬ 90 = 85 by decide, show ¬ 91 = 85 by decide, show ¬ 0 = 4 by decide, show ¬ 1 = 4 by decide, show ¬ 2 = 4 by decide, show ¬ 3 = 4 by decide, show ¬ 5 = 4 by decide, show ¬ 6 = 4 by decide, show ¬ 7 = 4 by decide, if_false, if_true]
  refine ⟨h.1, h.2.1, fun i hi => ⟨(h.2.2.1 i hi).1, (h.2.2.1 i hi).2.1, (h.2.2.1 i hi).2.2.1, ?_, (h.2.2.1 i hi).2.2.2.2⟩, h.2.2.2⟩
  split
  · rfl
  · exact (h.2.2.1 i hi).2.2.2.1
theorem MI_ln {j l : Nat} (hm : MI M G W) (hl : l < 10) : MI (up M 85 j (nI l)) G (up W 4 j (nI l)) := by
  refine ⟨hm.1, ?_, RWm_ln hm.2.2.1, okW_ln hm.2.2.2 hl⟩
  unfold RGm
  rw [up_o (show (75 : Nat) ≠ 85 by decide), up_o (show (81 : Nat) ≠ 85 by decide), up_o (show (78 : Nat) ≠ 85 by decide), up_o (show (82 : Nat) ≠ 85 by decide), up_o (show (83 : Nat) ≠ 85 by decide)]
  exact hm.2.1
theorem SM_ln {j : Nat} {v : Int32} (h : SM M q sj st sv) : SM (up M 85 j v) q sj st sv := by
  unfold SM
  rw [up_o (show (71 : Nat) ≠ 85 by decide), up_o (show (98 : Nat) ≠ 85 by decide), up_o (show (99 : Nat) ≠ 85 by decide), up_o (show (100 : Nat) ≠ 85 by decide)]
  exact h
theorem EQ_85 {j : Nat} {v : Int32} (h : EQm M M') : EQm (up M 85 j v) (up M' 85 j v) := by
  obtain ⟨⟨h1, h2⟩, h3, h4, h5⟩ := h
  refine ⟨⟨fun a ha => ?_, fun k a1 a2 a3 a4 a5 => ?_⟩, ?_, fun i hi => ?_, fun r hr => ?_⟩
  · by_cases z : a = 85
    · subst z; rw [up_s, up_s, h1 85 ha]
    · rw [up_o z, up_o z, h1 a ha]
  · rw [up_o (show (71 : Nat) ≠ 85 by decide), up_o (show (71 : Nat) ≠ 85 by decide)]; exact h2 k a1 a2 a3 a4 a5
  · rw [up_o (show (71 : Nat) ≠ 85 by decide), up_o (show (71 : Nat) ≠ 85 by decide)]; exact h3
  · simp only [up, show ¬ 87 = 85 by decide, show ¬ 88 = 85 by decide, show ¬ 89 = 85 by decide, if_false]; exact h4 i hi
  · simp only [up, show ¬ 90 = 85 by decide, show ¬ 91 = 85 by decide, if_false]; exact h5 r hr
theorem EQ_scr {a j : Nat} {v : Int32} (h : EQm M M') (ha : a = 97 ∨ a = 102 ∨ a = 103) : EQm M (up M' a j v) := by
  obtain ⟨⟨h1, h2⟩, h3, h4, h5⟩ := h
  refine ⟨⟨fun x hx => ?_, fun k a1 a2 a3 a4 a5 => ?_⟩, ?_, fun i hi => ?_, fun r hr => ?_⟩
  · rw [up_o (by rintro rfl; exact hx (by rcases ha with rfl | rfl | rfl <;> simp [scr]))]; exact h1 x hx
  · rw [up_o (by omega)]; exact h2 k a1 a2 a3 a4 a5
  · rw [up_o (by omega)]; exact h3
  · rw [up_o (by omega), up_o (by omega), up_o (by omega)]; exact h4 i hi
  · rw [up_o (by omega), up_o (by omega)]; exact h5 r hr
theorem EQ_49 {v : Int32} (h : EQm M M') : EQm M (up M' 71 49 v) := by
  obtain ⟨⟨h1, h2⟩, h3, h4, h5⟩ := h
  refine ⟨⟨fun x hx => ?_, fun k a1 a2 a3 a4 a5 => ?_⟩, ?_, fun i hi => ?_, fun r hr => ?_⟩
  · rw [up_o (by rintro rfl; exact hx (by simp [scr]))]; exact h1 x hx
  · rw [up_s, upd_o a4]; exact h2 k a1 a2 a3 a4 a5
  · rw [up_s, upd_o (by decide)]; exact h3
  · rw [up_o (by decide), up_o (by decide), up_o (by decide)]; exact h4 i hi
  · rw [up_o (by decide), up_o (by decide)]; exact h5 r hr
theorem FI_skip {n : Nat} (h : FI p M M' n) (hp : p n = false) : FI p M M' (n + 1) := by
  obtain ⟨h1, h2, h3, h4⟩ := h
  refine ⟨h1, h2, by rw [cnt_n hp]; exact h3, fun k hk y => h4 k ?_ y⟩
  rcases Nat.lt_or_ge k n with z | z
  · exact z
  · have : k = n := by omega
    subst this; rw [hp] at y; cases y
theorem FI_add {n : Nat} (h : FI p M M' n) (hp : p n = true) : FI p M (up (up M' 102 (cnt p n) (nI n)) 71 49 (nI (cnt p n) + 1)) (n + 1) := by
  obtain ⟨h1, h2, h3, h4⟩ := h
  refine ⟨EQ_49 (EQ_scr h1 (.inr (.inl rfl))), ?_, ?_, fun k hk y => ?_⟩
  · rw [up_s, upd_o (by decide), up_o (by decide)]; exact h2
  · rw [up_s, upd_s, cnt_y hp, nI_1]
  · rw [up_o (by decide), up_s]
    rcases Nat.lt_or_ge k n with z | z
    · have : cnt p (k + 1) ≤ cnt p n := by
        have := cnt_mono (p := p) (k := k + 1) (n - (k + 1))
        rw [show k + 1 + (n - (k + 1)) = n by omega] at this
        exact this
      rw [cnt_y y] at this
      rw [upd_o (by omega)]
      exact h4 k z y
    · have : k = n := by omega
      subst this; rw [upd_s]
theorem FI_seen {n : Nat} (h : FI p M M0 n) (e : EQm M0 M') (e1 : ∀ k, k ≠ 40 → M' 71 k = M0 71 k) (e2 : M' 102 = M0 102) : FI p M M' n := by
  obtain ⟨h1, h2, h3, h4⟩ := h
  refine ⟨EQm_trans h1 e, (e1 4 (by decide)).trans h2, (e1 49 (by decide)).trans h3, fun k hk y => ?_⟩
  rw [e2]
  exact h4 k hk y
theorem FI_ln {n j : Nat} {x w : Int32} (h : FI p (up M 85 j x) M' n) : FI p (up M 85 j w) (up M' 85 j w) n := by
  obtain ⟨h1, h2, h3, h4⟩ := h
  refine ⟨?_, ?_, ?_, fun k hk y => ?_⟩
  · have := EQ_85 (j := j) (v := w) h1
    rw [up_up] at this
    exact this
  · rw [up_o (show (71 : Nat) ≠ 85 by decide), up_o (show (71 : Nat) ≠ 85 by decide), h2, up_o (show (71 : Nat) ≠ 85 by decide)]
  · rw [up_o (show (71 : Nat) ≠ 85 by decide)]; exact h3
  · rw [up_o (show (102 : Nat) ≠ 85 by decide)]; exact h4 k hk y
set_option maxHeartbeats 4000000 in
theorem fitsIn_m (hm : MI M G W) (hl : ∀ j, j < gJ G → W 4 j = gln G j) (hS : SM M q sj st sv) (h8 : q ≤ 8) (hr : ∀ i, i < q → sj i < gJ G ∧ st i ≤ 20) {j : Nat} (hj : j < gJ G) (h0 : FI (fit G W q sj st sv) M M1 (10 * j)) (hN : 1000 ≤ N) : ∃ M', itr (fun s : Int32 × AH => f_X7_tellFits_l26 N 71 (nI j) (gln G j) s.1 s.2) N (0, HP C M1 K O) = some (HP C M' K O) ∧ FI (fit G W q sj st sv) M (up M' 85 j (gln G j)) (10 * j + 10) := by
  have hJ := hm.1.2.2.1
  have j8 : j < 8 := by omega
  have e85 : M 85 j = gln G j := ((hm.2.2.1.2.2.1 j hj).2.2.2.1).trans (hl j hj)
  have A := itr_inv (body := fun s : Int32 × AH => f_X7_tellFits_l26 N 71 (nI j) (gln G j) s.1 s.2)
    (fun v s => ∃ M' x, s = (nI v, HP C M' K O) ∧ FI (fit G W q sj st sv) (up M 85 j x) M' (10 * j + v))
    (P := fun r => ∃ M' x, r = HP C M' K O ∧ FI (fit G W q sj st sv) (up M 85 j x) M' (10 * j + 10)) (n := 10) ?_ ?_ (s := (0, HP C M1 K O)) ⟨M1, M 85 j, rfl, by rw [up_same rfl]; exact h0⟩ (N := N) (by omega)
  · obtain ⟨r, a1, M2, x, e, a2⟩ := A
    rw [e] at a1
    refine ⟨M2, a1, ?_⟩
    have := FI_ln (w := gln G j) a2
    rw [up_same e85.symm] at this
    exact this
  · rintro v s hv ⟨M2, x, rfl, F2⟩
    left
    have n9 : ¬ (9 : Int32) < nI v := nI_nlt (a := 9) (b := v) (by omega) (by omega)
    have F3 := FI_ln (w := nI v) F2
    have m3 : MI (up M2 85 j (nI v)) G (up W 4 j (nI v)) := MI_EQ (MI_ln hm (by omega)) F3.1
    have S3 : SM (up M2 85 j (nI v)) q sj st sv := SM_Fz (SM_ln hS) F3.1.1
    obtain ⟨M4, p1, p2, p3, p4⟩ := asSeen_m (C := C) (K := K) (O := O) m3 S3 h8 hr hN
    have F4 := FI_seen F3 p2 p3 (p4 102 (by simp [stC]) (by decide) (by decide))
    have k1 : (10 * j + v) / 10 = j := by omega
    have k2 : (10 * j + v) % 10 = v := by omega
    have eg : GW W (10 * j + v) = clr (up W 4 j (nI v)) := by rw [GW, k1, k2]
    rw [← eg] at p1
    by_cases y : gln G j = nI v
    · have ef : fit G W q sj st sv (10 * j + v) = false := by unfold fit; rw [k1, k2]; simp [y]
      refine ⟨(nI (v + 1), HP C (up M2 85 j (nI v)) K O), ?_, _, nI v, rfl, FI_skip F3 ef⟩
      simp only [f_X7_tellFits_l26, f_X7_tellFits_b79, n9, ↓reduceIte, ↓b_rdM, ↓b_waM, j8, y, nI_1]
    · have y' : ¬ nI v = gln G j := fun z => y z.symm
      by_cases x : thr G q sj st sv (GW W (10 * j + v)) (lst st q + 1) = true
      · have ef : fit G W q sj st sv (10 * j + v) = true := by unfold fit; rw [k1, k2]; simp [y, x]
        rw [x] at p1
        refine ⟨(nI (v + 1), HP C (up (up M4 102 (cnt (fit G W q sj st sv) (10 * j + v)) (nI (10 * j + v))) 71 49 (nI (cnt (fit G W q sj st sv) (10 * j + v)) + 1)) K O), ?_, _, nI v, rfl, FI_add F4 ef⟩
        have c80 : cnt (fit G W q sj st sv) (10 * j + v) < 80 := by
          have := cnt_le (p := fit G W q sj st sv) (10 * j + v)
          omega
        have e49 := F4.2.2.1
        have e49' : up M4 102 (cnt (fit G W q sj st sv) (10 * j + v)) (nI (10 * j + v)) 71 49 = nI (cnt (fit G W q sj st sv) (10 * j + v)) := by rw [up_o (by decide)]; exact e49
        simp only [f_X7_tellFits_l26, f_X7_tellFits_b79, n9, ↓reduceIte, ↓b_rdM, ↓b_waM, j8, y', ↓bnd p1, show b2i true = 1 from rfl, show ¬ (1 : Int32) = 0 by decide, e49, m10, nI_add, c80, e49', ↓b_wrM, nI_1]
      · have x' : thr G q sj st sv (GW W (10 * j + v)) (lst st q + 1) = false := by simpa using x
        have ef : fit G W q sj st sv (10 * j + v) = false := by unfold fit; rw [x', Bool.and_false]
        rw [x'] at p1
        refine ⟨(nI (v + 1), HP C M4 K O), ?_, _, nI v, rfl, FI_skip F4 ef⟩
        simp only [f_X7_tellFits_l26, f_X7_tellFits_b79, n9, ↓reduceIte, ↓b_rdM, ↓b_waM, j8, y', ↓bnd p1, show b2i false = 0 from rfl, nI_1]
  · rintro s ⟨M2, x, rfl, F2⟩
    refine ⟨_, ?_, M2, x, rfl, F2⟩
    simp only [f_X7_tellFits_l26, show (9 : Int32) < nI 10 by decide, ↓reduceIte]
set_option maxHeartbeats 4000000 in
theorem tellFits_m (hm : MI M G W) (hl : ∀ j, j < gJ G → W 4 j = gln G j) (hS : SM M q sj st sv) (h8 : q ≤ 8) (hr : ∀ i, i < q → sj i < gJ G ∧ st i ≤ 20) (hN : 1000 ≤ N) : ∃ M', f_X7_tellFits N (HP C M K O) 71 = some (HP C M' K O) ∧ FI (fit G W q sj st sv) M M' (10 * gJ G) := by
  have hJ := hm.1.2.2.1
  have A := itr_inv (body := fun s : Int32 × AH => f_X7_tellFits_l7 N 71 s.1 s.2)
    (fun j s => ∃ M', s = (nI j, HP C M' K O) ∧ FI (fit G W q sj st sv) M M' (10 * j))
    (P := fun r => ∃ M', r = HP C M' K O ∧ FI (fit G W q sj st sv) M M' (10 * gJ G)) (n := gJ G) ?_ ?_ (s := (0, HP C (up M 71 49 0) K O)) ⟨up M 71 49 0, rfl, EQ_49 EQm_refl, by rw [up_s, upd_o (by decide)], by rw [up_s, upd_s]; rfl, fun k hk => absurd hk (Nat.not_lt_zero k)⟩ (N := N) (by omega)
  · obtain ⟨r, a1, M2, e, a2⟩ := A
    rw [e] at a1
    refine ⟨M2, ?_, a2⟩
    simp only [f_X7_tellFits, f_X7_tellFits_b7, ↓b_wrM, a1, Option.bind_some]
  · rintro j s hj ⟨M2, rfl, F2⟩
    left
    have j8 : j < 8 := by omega
    have m2 := MI_EQ hm F2.1
    have eJ := m2.2.1.2.2.1
    have e85 : M2 85 j = gln G j := ((m2.2.2.1.2.2.1 j hj).2.2.2.1).trans (hl j hj)
    obtain ⟨M3, p1, F3⟩ := fitsIn_m (C := C) (K := K) (O := O) hm hl hS h8 hr hj F2 hN
    refine ⟨(nI (j + 1), HP C (up M3 85 j (gln G j)) K O), ?_, _, rfl, F3⟩
    simp only [f_X7_tellFits_l7, f_X7_tellFits_b26, ↓b_rdM, ↓b_rlM, eJ, nle hj (by omega), ↓reduceIte, ↓b_raM, j8, e85, p1, Option.bind_some, ↓b_waM, nI_1]
  · rintro s ⟨M2, rfl, F2⟩
    have eJ := (MI_EQ hm F2.1).2.1.2.2.1
    refine ⟨_, ?_, M2, rfl, F2⟩
    simp only [f_X7_tellFits_l7, ↓b_rdM, ↓b_rlM, eJ, yle (Nat.le_refl (gJ G)) (by omega), ↓reduceIte]
end S59
