/-! the panel: the class -/
def ljG (G : GT) (j : Nat) : Nat := (gln G j).toNatClampNeg % 10
def CT (G : GT) (W : ST) (s0 : Nat) (C : ST) : Prop := ∀ s u, s0 ≤ s → s ≤ gsd G → u < 2 ^ gJ G → C 67 (s * 256 + u) = nI (wv (PG W (ljG G) (gsd G) (gJ G) (gsd G - s) u))
section S63
variable {C C0 C1 M W : ST} {K : KT} {O : Nat → Int64} {N : Nat} {G : GT} {s u j : Nat}
theorem ljG_le (j : Nat) : ljG G j ≤ 9 := by
  have : (gln G j).toNatClampNeg % 10 < 10 := Nat.mod_lt _ (by decide)
  unfold ljG
  omega
theorem ljG_e (hG : okG G) (hj : j < gJ G) : gln G j = nI (ljG G j) := by
  obtain ⟨l, hl, e⟩ := (hG.2.2.2.1 j hj).2
  unfold ljG
  rw [e, nI_clampN (by omega), Nat.mod_eq_of_lt hl]
set_option maxHeartbeats 4000000 in
theorem mayHave_c (hc : CI K C G W) (hj : j < gJ G) (hu : u < 256) : f_X3_mayHave N (HP C M K O) 21 (nI s) (nI u) (nI j) = some (b2i (mayB W s j u), HP C M K O) := by
  have j8 : j < 8 := by have := hc.2.1.2.2.1; omega
  have e3 := hc.2.2.2.1.2.1 3 j (by omega) (by omega) hj
  have hb := bit01 j j8 u hu
  unfold mayB
  by_cases h1 : ((nI u >>> (nI j &&& 31)) &&& 1) = 1
  · have h0 : ¬ ((nI u >>> (nI j &&& 31)) &&& 1) = 0 := fun z => hb.mp z h1
    simp only [f_X3_mayHave, f_X3_mayHave_b26, h0, h1, show ¬ (1 : Int32) = 0 by decide, ↓reduceIte, not_true_eq_false, decide_false, Bool.false_and, show b2i false = 0 from rfl]
  · have h0 := hb.mpr h1
    by_cases h2 : ((W 3 j >>> (nI s &&& 31)) &&& 1) = 1
    · simp only [f_X3_mayHave, f_X3_mayHave_b26, h0, ↓reduceIte, ↓b_rW w21, ↓b_rWa w21, j8, e3, h2, show ¬ (0 : Int32) = 1 by decide, not_false_eq_true, decide_true, Bool.and_self, show b2i true = 1 from rfl]
    · simp only [f_X3_mayHave, f_X3_mayHave_b26, h0, ↓reduceIte, ↓b_rW w21, ↓b_rWa w21, j8, e3, h2, decide_false, Bool.and_false, show b2i false = 0 from rfl]
set_option maxHeartbeats 4000000 in
theorem worthWith_c (hc : CI K C G W) (hj : j < gJ G) (hs : s < gsd G) (hu : u < 2 ^ gJ G) (hT : CT G W (s + 1) C) : f_X3_worthWith N (HP C M K O) 65 K.1 (nI s) (nI u) (nI j) = some (nI (wv (cnd (PG W (ljG G) (gsd G) (gJ G) (gsd G - (s + 1))) (ljG G) u j)), HP C M K O) := by
  have hJ := hc.2.1.2.2.1
  have hn := hc.2.1.1.2
  have j8 : j < 8 := by omega
  have p8 := p2_8 hJ
  have ol := or_lt hu hj
  obtain ⟨o1, o2⟩ := orbit j j8 u (by omega)
  have eg := (hc.2.2.1.2.2.2.1 j hj).2.2
  have ei : ((nI s + 1) * 256) + (nI u ||| ((1 : Int32) <<< (nI j &&& 31))) = nI ((s + 1) * 256 + (u ||| 2 ^ j)) := by rw [o1, nI_1, ix]
  have e67 := hT (s + 1) (u ||| 2 ^ j) (Nat.le_refl _) (by omega) ol
  have l67 : (s + 1) * 256 + (u ||| 2 ^ j) < 2304 := by omega
  unfold f_X3_worthWith
  rw [ei]
  simp only [↓b_rG hc.1, ↓b_rGa hc.1, j8, ↓b_rdC, ↓b_raC, l67, e67, eg, ljG_e hc.2.1 hj, wv_cnd (show gsd G - (s + 1) ≤ 9 by omega) (okP_PG (ljG_le (G := G)) _) (ljG_le j)]
set_option maxHeartbeats 4000000 in
theorem bestWorth_c (hc : CI K C G W) (hs : s < gsd G) (hu : u < 2 ^ gJ G) (hT : CT G W (s + 1) C) (hN : 1000 ≤ N) : f_X3_bestWorth N (HP C M K O) 65 K.1 21 (nI s) (nI u) = some (nI (wv (PG W (ljG G) (gsd G) (gJ G) (gsd G - s) u)), HP C M K O) := by
  have hJ := hc.2.1.2.2.1
  have hn := hc.2.1.1.2
  have p8 := p2_8 hJ
  have eJ := hc.2.2.1.2.2.1
  have hl := ljG_le (G := G)
  have e67 := hT (s + 1) u (Nat.le_refl _) (by omega) hu
  have l67 : (s + 1) * 256 + u < 2304 := by omega
  have ei : ((nI s + 1) * 256) + nI u = nI ((s + 1) * 256 + u) := by rw [nI_1, ix]
  have em : gsd G - s = gsd G - (s + 1) + 1 := by omega
  have ek : gsd G - (gsd G - (s + 1) + 1) = s := by omega
  have A := itr_seq (body := fun q : Int32 × Int32 × AH => f_X3_bestWorth_l20 N 65 K.1 21 (nI s) (nI u) q.1 q.2.1 q.2.2) (fun j => (nI (wv (fob (PG W (ljG G) (gsd G) (gJ G) (gsd G - (s + 1))) (ljG G) u (fun j => mayB W s j u) j)), nI j, HP C M K O)) (n := gJ G) (r := (nI (wv (fob (PG W (ljG G) (gsd G) (gJ G) (gsd G - (s + 1))) (ljG G) u (fun j => mayB W s j u) (gJ G))), HP C M K O)) ?_ ?_ (N := N) (by omega)
  · unfold f_X3_bestWorth
    rw [ei, em]
    have A' : itr (fun q : Int32 × Int32 × AH => f_X3_bestWorth_l20 N 65 K.1 21 (nI s) (nI u) q.1 q.2.1 q.2.2) N (nI (wv (PG W (ljG G) (gsd G) (gJ G) (gsd G - (s + 1)) u)), 0, HP C M K O) = some (nI (wv (fob (PG W (ljG G) (gsd G) (gJ G) (gsd G - (s + 1))) (ljG G) u (fun j => mayB W s j u) (gJ G))), HP C M K O) := A
    simp only [↓b_rdC, ↓b_raC, l67, e67, f_X3_bestWorth_b20, A', Option.bind_some, PG, ek]
  · intro j hj
    have hm := mayHave_c (N := N) (M := M) (O := O) (s := s) hc hj (show u < 256 by omega)
    have hw := worthWith_c (N := N) (M := M) (O := O) hc hj hs hu hT
    by_cases y : mayB W s j u = true
    · rw [y] at hm
      simp only [f_X3_bestWorth_l20, f_X3_bestWorth_b58, ↓b_rG hc.1, eJ, nle hj (by omega), ↓reduceIte, ↓bnd hm, show b2i true = 1 from rfl, show ¬ (1 : Int32) = 0 by decide, ↓b_rdC, ↓bnd hw, fob, y, nI_1, jmx_wv (show gsd G - (s + 1) + 1 ≤ 9 by omega) (okP_fob (okP_PG hl _) hl j) (okP_cnd (okP_PG hl _) hl)]
    · have y' : mayB W s j u = false := by simpa using y
      rw [y'] at hm
      simp only [f_X3_bestWorth_l20, f_X3_bestWorth_b58, ↓b_rG hc.1, eJ, nle hj (by omega), ↓reduceIte, ↓bnd hm, show b2i false = 0 from rfl, fob, y', Bool.false_eq_true, nI_1]
  · simp only [f_X3_bestWorth_l20, ↓b_rG hc.1, eJ, yle (Nat.le_refl (gJ G)) (by omega), ↓reduceIte]
theorem CT_67 (hT : CT G W s C) (e : C1 67 = C 67) : CT G W s C1 := by
  unfold CT
  rw [e]
  exact hT
set_option maxHeartbeats 4000000 in
theorem fillA_c (hc : CI K C G W) (hN : 1000 ≤ N) : ∃ C', itr (fun q : Int32 × AH => f_X3_fill_l10 N 65 K.1 21 (nI (2 ^ gJ G)) q.1 q.2) N (0, HP C M K O) = some (HP C' M K O) ∧ (∀ a, a ≠ 67 → C' a = C a) ∧ CT G W (gsd G) C' := by
  have hJ := hc.2.1.2.2.1
  have hn := hc.2.1.1.2
  have p8 := p2_8 hJ
  have A := itr_inv (body := fun q : Int32 × AH => f_X3_fill_l10 N 65 K.1 21 (nI (2 ^ gJ G)) q.1 q.2)
    (fun u q => ∃ C', q = (nI u, HP C' M K O) ∧ (∀ a, a ≠ 67 → C' a = C a) ∧ ∀ i, i < u → C' 67 (gsd G * 256 + i) = 0)
    (P := fun r => ∃ C', r = HP C' M K O ∧ (∀ a, a ≠ 67 → C' a = C a) ∧ ∀ i, i < 2 ^ gJ G → C' 67 (gsd G * 256 + i) = 0) (n := 2 ^ gJ G) ?_ ?_ (s := (0, HP C M K O)) ⟨C, rfl, fun _ _ => rfl, fun i hi => absurd hi (Nat.not_lt_zero i)⟩ (N := N) (by omega)
  · obtain ⟨r, a1, C1, e, a2, a3⟩ := A
    rw [e] at a1
    refine ⟨C1, a1, a2, fun s u h1 h2 h3 => ?_⟩
    have : s = gsd G := by omega
    subst this
    rw [a3 u h3, Nat.sub_self]
    rfl
  · rintro u q hu ⟨C1, rfl, h1, h2⟩
    left
    have eS : C1 K.1 0 = nI (gsd G) := by rw [h1 _ (by rcases hc.1 with e | e <;> rw [e] <;> decide)]; exact hc.2.2.1.1
    have l67 : gsd G * 256 + u < 2304 := by omega
    refine ⟨(nI (u + 1), HP (up C1 67 (gsd G * 256 + u) 0) M K O), ?_, _, rfl, fun a ha => (up_o ha).trans (h1 a ha), fun i hi => ?_⟩
    · simp only [f_X3_fill_l10, nle hu (by omega), ↓reduceIte, ↓b_rdC, ↓b_rG hc.1, eS, ix, ↓b_waC, l67, nI_1]
    · rw [up_s]; unfold upd; split
      · rfl
      · exact h2 i (by omega)
  · rintro q ⟨C1, rfl, h1, h2⟩
    refine ⟨_, ?_, C1, rfl, h1, h2⟩
    simp only [f_X3_fill_l10, yle (Nat.le_refl (2 ^ gJ G)) (by omega), ↓reduceIte]
set_option maxHeartbeats 4000000 in
theorem fillB_c (hc : CI K C0 G W) (hf : ∀ a, a < 54 → C a = C0 a) (hs : s < gsd G) (hT : CT G W (s + 1) C) (hN : 1000 ≤ N) : ∃ C', itr (fun q : Int32 × AH => f_X3_fill_l55 N 65 K.1 21 (nI (2 ^ gJ G)) (nI s) q.1 q.2) N (0, HP C M K O) = some (HP C' M K O) ∧ (∀ a, a ≠ 67 → C' a = C a) ∧ CT G W s C' := by
  have hJ := hc.2.1.2.2.1
  have hn := hc.2.1.1.2
  have p8 := p2_8 hJ
  have A := itr_inv (body := fun q : Int32 × AH => f_X3_fill_l55 N 65 K.1 21 (nI (2 ^ gJ G)) (nI s) q.1 q.2)
    (fun u q => ∃ C', q = (nI u, HP C' M K O) ∧ (∀ a, a ≠ 67 → C' a = C a) ∧ CT G W (s + 1) C' ∧ ∀ i, i < u → C' 67 (s * 256 + i) = nI (wv (PG W (ljG G) (gsd G) (gJ G) (gsd G - s) i)))
    (P := fun r => ∃ C', r = HP C' M K O ∧ (∀ a, a ≠ 67 → C' a = C a) ∧ CT G W s C') (n := 2 ^ gJ G) ?_ ?_ (s := (0, HP C M K O)) ⟨C, rfl, fun _ _ => rfl, hT, fun i hi => absurd hi (Nat.not_lt_zero i)⟩ (N := N) (by omega)
  · obtain ⟨r, a1, C1, e, a2, a3⟩ := A
    rw [e] at a1
    exact ⟨C1, a1, a2, a3⟩
  · rintro u q hu ⟨C1, rfl, h1, h2, h3⟩
    left
    have hc1 := CI_of hc (C := C1) (fun a ha => (h1 a (by omega)).trans (hf a ha))
    have l67 : s * 256 + u < 2304 := by omega
    have hb := bestWorth_c (N := N) (M := M) (O := O) hc1 hs hu h2 hN
    refine ⟨(nI (u + 1), HP (up C1 67 (s * 256 + u) (nI (wv (PG W (ljG G) (gsd G) (gJ G) (gsd G - s) u)))) M K O), ?_, _, rfl, fun a ha => (up_o ha).trans (h1 a ha), fun s' u' x y z => ?_, fun i hi => ?_⟩
    · simp only [f_X3_fill_l55, nle hu (by omega), ↓reduceIte, ↓b_rdC, ↓bnd hb, ix, ↓b_waC, l67, nI_1]
    · rw [up_s, upd_o (by omega)]
      exact h2 s' u' x y z
    · rw [up_s]; unfold upd; split
      · rename_i z
        rw [show i = u by omega]
      · exact h3 i (by omega)
  · rintro q ⟨C1, rfl, h1, h2, h3⟩
    refine ⟨_, ?_, C1, rfl, h1, fun s' u' x y z => ?_⟩
    · simp only [f_X3_fill_l55, yle (Nat.le_refl (2 ^ gJ G)) (by omega), ↓reduceIte]
    · rcases Nat.lt_or_ge s s' with w | w
      · exact h2 s' u' w y z
      · rw [show s' = s by omega]
        exact h3 u' z
set_option maxHeartbeats 4000000 in
theorem fillC_c (hc : CI K C0 G W) (hf : ∀ a, a < 54 → C a = C0 a) (hT : CT G W (gsd G) C) (hN : 1000 ≤ N) : ∃ C', itr (fun q : Int32 × AH => f_X3_fill_l47 N 65 K.1 21 (nI (2 ^ gJ G)) q.1 q.2) N (nI (gsd G) - 1, HP C M K O) = some (HP C' M K O) ∧ (∀ a, a ≠ 67 → C' a = C a) ∧ CT G W 0 C' := by
  have hn := hc.2.1.1.2
  have A := itr_inv (body := fun q : Int32 × AH => f_X3_fill_l47 N 65 K.1 21 (nI (2 ^ gJ G)) q.1 q.2)
    (fun t q => ∃ C', q = (nI (gsd G - t) - 1, HP C' M K O) ∧ (∀ a, a ≠ 67 → C' a = C a) ∧ CT G W (gsd G - t) C')
    (P := fun r => ∃ C', r = HP C' M K O ∧ (∀ a, a ≠ 67 → C' a = C a) ∧ CT G W 0 C') (n := gsd G) ?_ ?_ (s := (nI (gsd G) - 1, HP C M K O)) ⟨C, rfl, fun _ _ => rfl, hT⟩ (N := N) (by omega)
  · obtain ⟨r, a1, C1, e, a2, a3⟩ := A
    rw [e] at a1
    exact ⟨C1, a1, a2, a3⟩
  · rintro t q ht ⟨C1, rfl, h1, h2⟩
    left
    have e1 : gsd G - t = gsd G - (t + 1) + 1 := by omega
    rw [e1] at h2
    obtain ⟨C2, b1, b2, b3⟩ := fillB_c (M := M) (O := O) hc (fun a ha => (h1 a (by omega)).trans (hf a ha)) (show gsd G - (t + 1) < gsd G by omega) h2 hN
    refine ⟨(nI (gsd G - (t + 1)) - 1, HP C2 M K O), ?_, C2, rfl, fun a ha => (b2 a ha).trans (h1 a ha), b3⟩
    rw [e1, nI_pred]
    simp only [f_X3_fill_l47, f_X3_fill_b55, nI_pos (n := gsd G - (t + 1)) (by omega), ↓reduceIte, b1, Option.bind_some, sub1]
  · rintro q ⟨C1, rfl, h1, h2⟩
    rw [Nat.sub_self] at h2
    refine ⟨_, ?_, C1, rfl, h1, h2⟩
    rw [Nat.sub_self]
    simp only [f_X3_fill_l47, show nI 0 - 1 < 0 by decide, ↓reduceIte]
set_option maxHeartbeats 4000000 in
theorem firstBest_c (hc : CI K C G W) (hs : s < gsd G) (hu : u < 2 ^ gJ G) (hT : CT G W 0 C) (hN : 1000 ≤ N) : f_X3_firstBest N (HP C M K O) 65 K.1 21 (nI s) (nI u) = some (lo (hit W (ljG G) (gsd G) (gJ G) (gsd G - (s + 1)) u) (gJ G) (gJ G), HP C M K O) := by
  have hJ := hc.2.1.2.2.1
  have hn := hc.2.1.1.2
  have p8 := p2_8 hJ
  have eJ := hc.2.2.1.2.2.1
  have hl := ljG_le (G := G)
  have ek : gsd G - (gsd G - (s + 1) + 1) = s := by omega
  have em : gsd G - s = gsd G - (s + 1) + 1 := by omega
  have e67 := hT s u (Nat.zero_le _) (by omega) hu
  rw [em] at e67
  have l67 : s * 256 + u < 2304 := by omega
  have hT1 : CT G W (s + 1) C := fun s' u' x y z => hT s' u' (Nat.zero_le _) y z
  have A := itr_inv (body := fun q : Int32 × AH => f_X3_firstBest_l3 N 65 K.1 21 (nI s) (nI u) q.1 q.2)
    (fun j q => q = (nI j, HP C M K O) ∧ lo (hit W (ljG G) (gsd G) (gJ G) (gsd G - (s + 1)) u) (gJ G) (gJ G) = lo (hit W (ljG G) (gsd G) (gJ G) (gsd G - (s + 1)) u) (gJ G) (gJ G - j))
    (P := fun r => (∃ j, lo (hit W (ljG G) (gsd G) (gJ G) (gsd G - (s + 1)) u) (gJ G) (gJ G) = nI j ∧ r = .inl (nI j, HP C M K O)) ∨ (lo (hit W (ljG G) (gsd G) (gJ G) (gsd G - (s + 1)) u) (gJ G) (gJ G) = -1 ∧ r = .inr (HP C M K O))) (n := gJ G) ?_ ?_ (s := (0, HP C M K O)) ⟨rfl, rfl⟩ (N := N) (by omega)
  · obtain ⟨r, a1, a2⟩ := A
    rcases a2 with ⟨j, e, e2⟩ | ⟨e, e2⟩
    · rw [e2] at a1
      rw [e]
      simp only [f_X3_firstBest, f_X3_firstBest_b3, a1, Option.bind_some, Sum.elim_inl]
    · rw [e2] at a1
      rw [e]
      simp only [f_X3_firstBest, f_X3_firstBest_b3, a1, Option.bind_some, Sum.elim_inr]
  · rintro j q hj ⟨rfl, h1⟩
    have hm := mayHave_c (N := N) (M := M) (O := O) (s := s) hc hj (show u < 256 by omega)
    have hw := worthWith_c (N := N) (M := M) (O := O) hc hj hs hu hT1
    have e1 : gJ G - j = gJ G - (j + 1) + 1 := by omega
    have e2 : gJ G - (gJ G - (j + 1) + 1) = j := by omega
    rw [e1, lo, e2] at h1
    have hh : hit W (ljG G) (gsd G) (gJ G) (gsd G - (s + 1)) u j = (mayB W s j u && decide (cnd (PG W (ljG G) (gsd G) (gJ G) (gsd G - (s + 1))) (ljG G) u j = PG W (ljG G) (gsd G) (gJ G) (gsd G - (s + 1) + 1) u)) := by unfold hit; rw [ek]
    by_cases y : mayB W s j u = true
    · rw [y] at hm
      rw [y, Bool.true_and] at hh
      have hw9 := wv_eq (show gsd G - (s + 1) + 1 ≤ 9 by omega) (okP_cnd (u := u) (j := j) (okP_PG (W := W) (n := gsd G) (J := gJ G) hl (gsd G - (s + 1))) hl) (okP_PG (W := W) (n := gsd G) (J := gJ G) hl (gsd G - (s + 1) + 1) u)
      by_cases z : cnd (PG W (ljG G) (gsd G) (gJ G) (gsd G - (s + 1))) (ljG G) u j = PG W (ljG G) (gsd G) (gJ G) (gsd G - (s + 1) + 1) u
      · right
        have hh' : hit W (ljG G) (gsd G) (gJ G) (gsd G - (s + 1)) u j = true := by rw [hh]; exact decide_eq_true z
        rw [if_pos hh'] at h1
        refine ⟨.inl (nI j, HP C M K O), ?_, .inl ⟨j, h1, rfl⟩⟩
        simp only [f_X3_firstBest_l3, ↓b_rG hc.1, eJ, nle hj (by omega), ↓reduceIte, ↓bnd hm, show b2i true = 1 from rfl, show ¬ (1 : Int32) = 0 by decide, ↓b_rdC, ↓bnd hw, ix, ↓b_raC, l67, e67, hw9.mpr z]
      · left
        have hh' : ¬ hit W (ljG G) (gsd G) (gJ G) (gsd G - (s + 1)) u j = true := by rw [hh]; simpa using z
        rw [if_neg hh'] at h1
        refine ⟨(nI (j + 1), HP C M K O), ?_, rfl, h1⟩
        have z' : ¬ nI (wv (cnd (PG W (ljG G) (gsd G) (gJ G) (gsd G - (s + 1))) (ljG G) u j)) = nI (wv (PG W (ljG G) (gsd G) (gJ G) (gsd G - (s + 1) + 1) u)) := fun q => z (hw9.mp q)
        simp only [f_X3_firstBest_l3, f_X3_firstBest_b53, ↓b_rG hc.1, eJ, nle hj (by omega), ↓reduceIte, ↓bnd hm, show b2i true = 1 from rfl, show ¬ (1 : Int32) = 0 by decide, ↓b_rdC, ↓bnd hw, ix, ↓b_raC, l67, e67, z', nI_1]
    · left
      have y' : mayB W s j u = false := by simpa using y
      rw [y'] at hm
      rw [y', Bool.false_and] at hh
      rw [if_neg (by rw [hh]; decide)] at h1
      refine ⟨(nI (j + 1), HP C M K O), ?_, rfl, h1⟩
      simp only [f_X3_firstBest_l3, f_X3_firstBest_b53, ↓b_rG hc.1, eJ, nle hj (by omega), ↓reduceIte, ↓bnd hm, show b2i false = 0 from rfl, nI_1]
  · rintro q ⟨rfl, h1⟩
    rw [Nat.sub_self] at h1
    refine ⟨.inr (HP C M K O), ?_, .inr ⟨h1, rfl⟩⟩
    simp only [f_X3_firstBest_l3, ↓b_rG hc.1, eJ, yle (Nat.le_refl (gJ G)) (by omega), ↓reduceIte]
set_option maxHeartbeats 4000000 in
theorem fillD_c (hc : CI K C0 G W) (hf : ∀ a, a < 54 → C a = C0 a) (hT : CT G W 0 C) (h0 : C 65 0 = 0) (h1 : C 65 1 = 0) (hN : 1000 ≤ N) : ∃ C', itr (fun q : Int32 × Int32 × AH => f_X3_fill_l113 N 65 K.1 21 q.1 q.2.1 q.2.2) N (0, 0, HP C M K O) = some (HP C' M K O) ∧ (∀ a, a < 54 → C' a = C0 a) ∧ C' 65 0 = nI (PG W (ljG G) (gsd G) (gJ G) (gsd G) 0).1 ∧ C' 65 1 = nI (PG W (ljG G) (gsd G) (gJ G) (gsd G) 0).2 ∧ ∀ i, i < gsd G → C' 66 i = ow W (ljG G) (gsd G) (gJ G) i := by
  have hJ := hc.2.1.2.2.1
  have hn := hc.2.1.1.2
  have p8 := p2_8 hJ
  have hul := us_lt (W := W) (lj := ljG G) (n := gsd G) hJ
  have A := itr_inv (body := fun q : Int32 × Int32 × AH => f_X3_fill_l113 N 65 K.1 21 q.1 q.2.1 q.2.2)
    (fun s q => ∃ C' g l, q = (nI (us W (ljG G) (gsd G) (gJ G) s), nI s, HP C' M K O) ∧ (∀ a, a < 54 → C' a = C0 a) ∧ CT G W 0 C' ∧ C' 65 0 = nI g ∧ C' 65 1 = nI l ∧ g + (PG W (ljG G) (gsd G) (gJ G) (gsd G - s) (us W (ljG G) (gsd G) (gJ G) s)).1 = (PG W (ljG G) (gsd G) (gJ G) (gsd G) 0).1 ∧ l + (PG W (ljG G) (gsd G) (gJ G) (gsd G - s) (us W (ljG G) (gsd G) (gJ G) s)).2 = (PG W (ljG G) (gsd G) (gJ G) (gsd G) 0).2 ∧ ∀ i, i < s → C' 66 i = ow W (ljG G) (gsd G) (gJ G) i)
    (P := fun r => ∃ C', r = HP C' M K O ∧ (∀ a, a < 54 → C' a = C0 a) ∧ C' 65 0 = nI (PG W (ljG G) (gsd G) (gJ G) (gsd G) 0).1 ∧ C' 65 1 = nI (PG W (ljG G) (gsd G) (gJ G) (gsd G) 0).2 ∧ ∀ i, i < gsd G → C' 66 i = ow W (ljG G) (gsd G) (gJ G) i) (n := gsd G) ?_ ?_ (s := (0, 0, HP C M K O)) ⟨C, 0, 0, rfl, hf, hT, h0, h1, Nat.zero_add _, Nat.zero_add _, fun i hi => absurd hi (Nat.not_lt_zero i)⟩ (N := N) (by omega)
  · obtain ⟨r, a1, C1, e, a2⟩ := A
    rw [e] at a1
    exact ⟨C1, a1, a2⟩
  · rintro s q hs ⟨C1, g, l, rfl, b1, b2, b3, b4, b5, b6, b7⟩
    left
    have hc1 := CI_of hc b1
    have eS := hc1.2.2.1.1
    have s8 : s < 8 := by omega
    have em : gsd G - s = gsd G - (s + 1) + 1 := by omega
    have fb : f_X3_firstBest N (HP C1 M K O) 65 K.1 21 (nI s) (nI (us W (ljG G) (gsd G) (gJ G) s)) = some (ow W (ljG G) (gsd G) (gJ G) s, HP C1 M K O) := firstBest_c (N := N) (M := M) (O := O) hc1 hs (hul s) b2 hN
    rw [em] at b5 b6
    rcases ow_cases (W := W) (lj := ljG G) (n := gsd G) (J := gJ G) s with ⟨o1, o2, o3⟩ | ⟨j, o1, o2, o3, o4⟩
    · rw [PG_none o3] at b5 b6
      refine ⟨(nI (us W (ljG G) (gsd G) (gJ G) (s + 1)), nI (s + 1), HP (up C1 66 s (-1)) M K O), ?_, _, g, l, rfl, fun a ha => (up_o (by omega)).trans (b1 a ha), CT_67 b2 (up_o (by decide)), by rw [up_o (by decide)]; exact b3, by rw [up_o (by decide)]; exact b4, by rw [o2]; exact b5, by rw [o2]; exact b6, fun i hi => ?_⟩
      · rw [o1] at fb
        rw [o2]
        simp only [f_X3_fill_l113, f_X3_fill_b184, ↓b_rG hc.1, eS, nle hs (by omega), ↓reduceIte, ↓b_rdC, ↓bnd fb, ↓b_waC, s8, nI_1]
      · rw [up_s]; unfold upd; split
        · rename_i z; rw [z, o1]
        · exact b7 i (by omega)
    · have j8 : j < 8 := by omega
      rw [hit_eq o2] at b5 b6
      have o4 := o4 hJ
      rw [o3] at fb
      have eg := (hc1.2.2.1.2.2.2.1 j o1).2.2
      have kg : K.1 + 4 < 54 := by rcases hc.1 with e | e <;> rw [e] <;> decide
      have eg1 : up (up C1 66 s (nI j)) 65 0 (C1 65 0 + 1) (K.1 + 4) j = nI (ljG G j) := by
        rw [up_o (by omega), up_o (by omega), eg]; exact ljG_e hc.2.1 o1
      have n1 : ¬ nI j = -1 := (neg_cases (by omega)).1
      have eo := (orbit j j8 (us W (ljG G) (gsd G) (gJ G) s) (by have := hul s; omega)).1
      have x0 : up C1 66 s (nI j) 65 0 = C1 65 0 := by rw [up_o (by decide)]
      have x1 : up (up C1 66 s (nI j)) 65 0 (C1 65 0 + 1) 65 1 = C1 65 1 := by rw [up_s, upd_o (by decide), up_o (by decide)]
      refine ⟨(nI (us W (ljG G) (gsd G) (gJ G) (s + 1)), nI (s + 1), HP (up (up (up C1 66 s (nI j)) 65 0 (C1 65 0 + 1)) 65 1 (C1 65 1 + nI (ljG G j))) M K O), ?_, _, g + 1, l + ljG G j, rfl, fun a ha => ?_, CT_67 b2 (by rw [up_o (by decide), up_o (by decide), up_o (by decide)]), ?_, ?_, ?_, ?_, fun i hi => ?_⟩
      · rw [o4]
        simp only [f_X3_fill_l113, f_X3_fill_b184, ↓b_rG hc.1, ↓b_rGa hc.1, eS, nle hs (by omega), ↓reduceIte, ↓b_rdC, ↓bnd fb, ↓b_waC, s8, n1, ↓b_wrC, x0, x1, j8, eg1, eo, nI_1]
      · rw [up_o (by omega), up_o (by omega), up_o (by omega)]; exact b1 a ha
      · rw [up_s, upd_o (by decide), up_s, upd_s, b3, nI_1]
      · rw [up_s, upd_s, b4, nI_add]
      · rw [o4]
        unfold cnd at b5
        simp only at b5
        omega
      · rw [o4]
        unfold cnd at b6
        simp only at b6
        omega
      · rw [up_o (by decide), up_o (by decide), up_s]; unfold upd; split
        · rename_i z; rw [z, o3]
        · exact b7 i (by omega)
  · rintro q ⟨C1, g, l, rfl, b1, b2, b3, b4, b5, b6, b7⟩
    have eS := (CI_of hc b1).2.2.1.1
    rw [Nat.sub_self] at b5 b6
    refine ⟨_, ?_, C1, rfl, b1, ?_, ?_, b7⟩
    · simp only [f_X3_fill_l113, ↓b_rG hc.1, eS, yle (Nat.le_refl (gsd G)) (by omega), ↓reduceIte]
    · rw [b3]; exact congrArg nI b5
    · rw [b4]; exact congrArg nI b6
set_option maxHeartbeats 4000000 in
theorem fill_p (hc : CI K C G W) (hN : 1000 ≤ N) : ∃ C', f_X3_fill N (HP C M K O) 65 K.1 21 = some (HP C' M K O) ∧ (∀ a, a < 54 → C' a = C a) ∧ C' 65 0 = nI (PG W (ljG G) (gsd G) (gJ G) (gsd G) 0).1 ∧ C' 65 1 = nI (PG W (ljG G) (gsd G) (gJ G) (gsd G) 0).2 ∧ ∀ i, i < gsd G → C' 66 i = ow W (ljG G) (gsd G) (gJ G) i := by
  have hJ := hc.2.1.2.2.1
  have eJ := hc.2.2.1.2.2.1
  obtain ⟨C1, a1, a2, a3⟩ := fillA_c (M := M) (O := O) hc hN
  have f1 : ∀ a, a < 54 → C1 a = C a := fun a ha => a2 a (by omega)
  have eS := (CI_of hc f1).2.2.1.1
  obtain ⟨C2, b1, b2, b3⟩ := fillC_c (M := M) (O := O) hc f1 a3 hN
  have f2 : ∀ a, a < 54 → up (up C2 65 0 0) 65 1 0 a = C a := fun a ha => by rw [up_o (by omega), up_o (by omega), b2 a (by omega), f1 a ha]
  obtain ⟨C3, d1, d2⟩ := fillD_c (M := M) (O := O) hc f2 (CT_67 b3 (by rw [up_o (by decide), up_o (by decide)])) (by rw [up_s, upd_o (by decide), up_s, upd_s]) (by rw [up_s, upd_s]) hN
  refine ⟨C3, ?_, d2⟩
  simp only [f_X3_fill, f_X3_fill_b10, f_X3_fill_b47, f_X3_fill_b113, ↓b_rG hc.1, eJ, sh_11 _ (show gJ G < 11 by omega), a1, Option.bind_some, eS, b1, ↓b_wrC, d1]
end S63
