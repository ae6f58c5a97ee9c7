/-! THE STATE: what the class and the reference hold, side by side -/
/-- a kept row: the class's f, the reference's g -/
def RRow (G : GT) (f g : Nat → Int32) : Prop := ∃ V : ST, okW G V ∧ (∀ j, j < gJ G → V 4 j = gln G j) ∧ f 42 = V 0 0 ∧ g 0 = V 0 0 ∧ (∀ j, j < gJ G → f j = V 1 j ∧ f (8 + j) = V 2 j ∧ f (16 + j) = V 3 j ∧ g (1 + j) = V 1 j ∧ g (9 + j) = V 2 j ∧ g (17 + j) = V 3 j) ∧ ∀ r, r < gRn G → f (24 + r) = V 6 r ∧ f (33 + r) = V 7 r ∧ g (25 + r) = V 6 r ∧ g (34 + r) = V 7 r
/-- acts -/
def RA (G : GT) (C : ST) (b : Nat) (M : ST) (ac pa : Nat) : Prop := ∃ a o, a ≤ 40 ∧ o < 40 ∧ C b 2 = nI a ∧ C b 8 = nI o ∧ M 71 ac = nI a ∧ ∀ i, i < a → RRow G (fun x => C (b + 16) ((o + i) % 40 * 43 + x)) (fun x => M pa (43 * i + x))
/-- sightings -/
def RS (G : GT) (C : ST) (b : Nat) (M : ST) (sn w1 w2 w3 : Nat) : Prop := ∃ q, q ≤ 8 ∧ C b 3 = nI q ∧ M 71 sn = nI q ∧ ∀ i, i < q → (∃ j t, j < gJ G ∧ t ≤ 20 ∧ C (b + 13) i = nI j ∧ M w1 i = nI j ∧ C (b + 14) i = nI t ∧ M w2 i = nI t) ∧ C (b + 15) i = M w3 i
/-- the image's waters -/
def RV (G : GT) (C M : ST) : Prop := ∃ V : ST, okW G V ∧ (∀ j, j < gJ G → V 4 j = gln G j) ∧ RW G 38 C V ∧ M 105 0 = V 0 0 ∧ (∀ j, j < gJ G → M 105 (1 + j) = V 1 j ∧ M 105 (9 + j) = V 2 j ∧ M 105 (17 + j) = V 3 j) ∧ ∀ r, r < gRn G → M 105 (25 + r) = V 6 r ∧ M 105 (34 + r) = V 7 r
def sb (b : Nat) : Int32 := if b < 128 then nI b else nI b - 256
def RT (C M : ST) : Prop := ∃ t, t ≤ 700 ∧ C 0 1 = nI t ∧ M 71 17 = nI t ∧ ∀ i, i < t → ∃ b, b < 256 ∧ M 86 i = nI b ∧ C 1 i = sb b
def RIm (G : GT) (C M : ST) : Prop := (C 0 7 = 0 ∧ M 71 52 = 0) ∨ (C 0 7 = 1 ∧ M 71 52 = 1 ∧ RV G C M ∧ RA G C 37 M 53 106 ∧ RS G C 37 M 54 107 108 109 ∧ ∀ k, k < 3 → C 49 k = M 110 k)
def kok (K : KT) : Prop := (K.1 = 4 ∧ K.2.1 = 12) ∨ (K.1 = 12 ∧ K.2.1 = 4)
def REL (K : KT) (C M : ST) (G : GT) (W : ST) : Prop := (CI K C G W ∧ MI M G W ∧ ∀ j, j < gJ G → W 4 j = gln G j) ∧ RT C M ∧ C 0 2 = M 71 26 ∧ RA G C 20 M 35 92 ∧ RS G C 20 M 36 98 99 100 ∧ (∀ k, k < 3 → C 32 k = M 84 k) ∧ RIm G C M ∧ kok K
section S66
variable {C C' M M' W : ST} {K : KT} {O : Nat → Int64} {N : Nat} {G : GT} {a b c : Int32}
theorem RA_fr {bb ac pa : Nat} (h : RA G C bb M ac pa) (h1 : C' bb = C bb) (h2 : C' (bb + 16) = C (bb + 16)) (h3 : M' 71 ac = M 71 ac) (h4 : M' pa = M pa) : RA G C' bb M' ac pa := by
  unfold RA
  rw [h1, h2, h3, h4]
  exact h
theorem RS_fr {bb sn w1 w2 w3 : Nat} (h : RS G C bb M sn w1 w2 w3) (h1 : C' bb = C bb) (h2 : C' (bb + 13) = C (bb + 13)) (h3 : C' (bb + 14) = C (bb + 14)) (h4 : C' (bb + 15) = C (bb + 15)) (h5 : M' 71 sn = M 71 sn) (h6 : M' w1 = M w1) (h7 : M' w2 = M w2) (h8 : M' w3 = M w3) : RS G C' bb M' sn w1 w2 w3 := by
  unfold RS
  rw [h1, h2, h3, h4, h5, h6, h7, h8]
  exact h
theorem RW_same {wa : Nat} (h : RW G wa C W) (hf : ∀ i, i ≤ 7 → C' (wa + i) = C (wa + i)) : RW G wa C' W := by
  refine ⟨?_, fun i j h1 h2 h3 => ?_, fun r hr => ?_⟩
  · have := hf 0 (by omega)
    rw [Nat.add_zero] at this
    rw [this]; exact h.1
  · rw [hf i (by omega)]; exact h.2.1 i j h1 h2 h3
  · rw [hf 6 (by omega), hf 7 (by omega)]; exact h.2.2 r hr
theorem RIm_fr (h : RIm G C M) (h0 : C' 0 7 = C 0 7) (h1 : ∀ x, 37 ≤ x → x < 54 → C' x = C x) (h2 : ∀ k, k = 52 ∨ k = 53 ∨ k = 54 → M' 71 k = M 71 k) (h3 : ∀ x, 105 ≤ x → x ≤ 110 → M' x = M x) : RIm G C' M' := by
  unfold RIm
  rw [h0, h2 52 (.inl rfl)]
  rcases h with h | ⟨a1, a2, a3, a4, a5, a6⟩
  · exact .inl h
  · refine .inr ⟨a1, a2, ?_, RA_fr a4 (h1 _ (by decide) (by decide)) (h1 _ (by decide) (by decide)) (h2 53 (.inr (.inl rfl))) (h3 _ (by decide) (by decide)), RS_fr a5 (h1 _ (by decide) (by decide)) (h1 _ (by decide) (by decide)) (h1 _ (by decide) (by decide)) (h1 _ (by decide) (by decide)) (h2 54 (.inr (.inr rfl))) (h3 _ (by decide) (by decide)) (h3 _ (by decide) (by decide)) (h3 _ (by decide) (by decide)), fun k hk => ?_⟩
    · obtain ⟨V, v1, v2, v3, v4⟩ := a3
      refine ⟨V, v1, v2, RW_same v3 (fun i hi => h1 _ (by omega) (by omega)), ?_⟩
      rw [h3 105 (by decide) (by decide)]
      exact v4
    · rw [h1 49 (by decide) (by decide), h3 110 (by decide) (by decide)]; exact a6 k hk
theorem RT_fr (h : RT C M) (h1 : C' 0 1 = C 0 1) (h2 : C' 1 = C 1) (h3 : M' 71 17 = M 71 17) (h4 : M' 86 = M 86) : RT C' M' := by
  unfold RT
  rw [h1, h2, h3, h4]
  exact h
theorem REL_q (h : REL K C M G W) (hc : ∀ a, a < 54 → C' a = C a) (hm : EQm M M') : REL K C' M' G W := by
  obtain ⟨⟨a1, a2, a3⟩, b, d, e, f, g, i, k⟩ := h
  have ns : ∀ a, ¬ scr a → M' a = M a := hm.1.1
  have nk : ∀ k, k ≠ 4 → k ≠ 34 → k ≠ 40 → k ≠ 49 → k ≠ 51 → M' 71 k = M 71 k := hm.1.2
  refine ⟨⟨CI_of a1 hc, MI_EQ a2 hm, a3⟩, RT_fr b (by rw [hc 0 (by decide)]) (hc 1 (by decide)) (nk 17 (by decide) (by decide) (by decide) (by decide) (by decide)) (ns 86 (by simp [scr])), ?_, RA_fr e (hc 20 (by decide)) (hc 36 (by decide)) (nk 35 (by decide) (by decide) (by decide) (by decide) (by decide)) (ns 92 (by simp [scr])), RS_fr f (hc 20 (by decide)) (hc 33 (by decide)) (hc 34 (by decide)) (hc 35 (by decide)) (nk 36 (by decide) (by decide) (by decide) (by decide) (by decide)) (ns 98 (by simp [scr])) (ns 99 (by simp [scr])) (ns 100 (by simp [scr])), fun k hk => ?_, RIm_fr i (by rw [hc 0 (by decide)]) (fun x _ h2 => hc x h2) (fun k hk => nk k (by omega) (by omega) (by omega) (by omega) (by omega)) (fun x h1 h2 => ns x (by unfold scr; omega)), k⟩
  · rw [hc 0 (by decide), nk 26 (by decide) (by decide) (by decide) (by decide) (by decide)]; exact d
  · rw [hc 32 (by decide), ns 84 (by simp [scr])]; exact g k hk
theorem RS_split {bb sn w1 w2 w3 : Nat} (hJ : gJ G ≤ 8) (h : RS G C bb M sn w1 w2 w3) : ∃ (q : Nat) (sj st : Nat → Nat), q ≤ 8 ∧ C bb 3 = nI q ∧ M 71 sn = nI q ∧ ∀ i, i < q → sj i < gJ G ∧ st i ≤ 20 ∧ C (bb + 13) i = nI (sj i) ∧ M w1 i = nI (sj i) ∧ C (bb + 14) i = nI (st i) ∧ M w2 i = nI (st i) ∧ C (bb + 15) i = M w3 i := by
  obtain ⟨q, h1, h2, h3, h4⟩ := h
  refine ⟨q, fun i => (C (bb + 13) i).toNatClampNeg, fun i => (C (bb + 14) i).toNatClampNeg, h1, h2, h3, fun i hi => ?_⟩
  obtain ⟨⟨j, t, a1, a2, a3, a4, a5, a6⟩, a7⟩ := h4 i hi
  have e1 : (C (bb + 13) i).toNatClampNeg = j := by rw [a3, nI_clampN (by omega)]
  have e2 : (C (bb + 14) i).toNatClampNeg = t := by rw [a5, nI_clampN (by omega)]
  simp only [e1, e2]
  exact ⟨a1, a2, a3, a4, a5, a6, a7⟩
end S66
