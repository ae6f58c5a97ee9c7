/-! the waters, once and for all: W 0 0 the step, W 0 1 how many have landed, W 1 where, W 2 what they face, W 3 what they have seen, W 4 lean, W 5 turned, W 6 flow, W 7 spin -/
abbrev GT : Type := (Nat × Nat × Nat) × ((Nat → Int32) × (Nat → Int32) × (Nat → Int32)) × ((Nat → RI) × Nat) × ((Nat → RI) × Nat)
def gsd (G : GT) : Nat := G.1.1
def gRn (G : GT) : Nat := G.1.2.1
def gJ (G : GT) : Nat := G.1.2.2
def glg (G : GT) : Nat → Int32 := G.2.1.1
def gbg (G : GT) : Nat → Int32 := G.2.1.2.1
def gln (G : GT) : Nat → Int32 := G.2.1.2.2
def gtF (G : GT) : Nat → RI := G.2.2.1.1
def gtn (G : GT) : Nat := G.2.2.1.2
def ggF (G : GT) : Nat → RI := G.2.2.2.1
def ggn (G : GT) : Nat := G.2.2.2.2
def okG (G : GT) : Prop := (2 ≤ gsd G ∧ gsd G ≤ 8) ∧ gRn G ≤ 9 ∧ gJ G ≤ 8 ∧ (∀ j, j < gJ G → (gbg G j = 0 ∨ gbg G j = 1) ∧ ∃ l, l < 10 ∧ gln G j = nI l) ∧ WFr (gtF G) (gtn G) ∧ WFr (ggF G) (ggn G)
def okW (G : GT) (W : ST) : Prop := (∀ j, j < gJ G → (W 1 j = -2 ∨ W 1 j = -1 ∨ ∃ r, r < gRn G ∧ W 1 j = nI r) ∧ (∃ s, s < gsd G ∧ W 2 j = nI s) ∧ (∃ s, s < 256 ∧ W 3 j = nI s) ∧ ∃ l, l < 10 ∧ W 4 j = nI l) ∧ ∀ r, r < gRn G → (∃ f, f < 4 ∧ W 6 r = nI f) ∧ ∃ s, s < 8 ∧ W 7 r = nI s
def RG (g : Nat) (C : ST) (G : GT) : Prop := C g 0 = nI (gsd G) ∧ C g 1 = nI (gRn G) ∧ C g 2 = nI (gJ G) ∧ (∀ j, j < gJ G → C (g + 5) j = glg G j ∧ C (g + 6) j = gbg G j ∧ C (g + 4) j = gln G j) ∧ RUc (C (g + 7)) (C g 11) (C g 12) (gtF G) (gtn G) ∧ RUc (C (g + 7)) (C g 13) (C g 14) (ggF G) (ggn G)
def RGm (M : ST) (G : GT) : Prop := M 75 0 = nI (gsd G) ∧ M 75 1 = nI (gRn G) ∧ M 75 2 = nI (gJ G) ∧ (∀ j, j < gJ G → M 81 j = glg G j ∧ M 78 j = gbg G j) ∧ RUm (M 82) (M 75 3) (gtF G) (gtn G) ∧ RUm (M 83) (M 75 4) (ggF G) (ggn G)
def RW (G : GT) (wa : Nat) (C W : ST) : Prop := C wa 0 = W 0 0 ∧ (∀ i j, 1 ≤ i → i ≤ 5 → j < gJ G → C (wa + i) j = W i j) ∧ ∀ r, r < gRn G → C (wa + 6) r = W 6 r ∧ C (wa + 7) r = W 7 r
def bc (x : Int32) : Int32 := ((f_J6_bitCount_0f7a4 0 [] x).getD (0, [])).1
theorem bitCount_c (N : Nat) (h : AH) (x : Int32) : f_J6_bitCount_0f7a4 N h x = some (bc x, h) := rfl
def allS (G : GT) : Int32 := ((1 : Int32) <<< (nI (gsd G) &&& 31)) - 1
def env (G : GT) (W : ST) (j : Nat) (l : Int32) : Nat → Int32 := fun i => if i = 0 then W 4 j else if i = 1 then bc (W 3 j) else if i = 2 then W 2 j else if i = 3 then bc (ones (fun q => W 1 q = W 1 j) (gJ G)) - 1 else if i = 4 then W 0 0 else l
def spH (W : ST) (j : Nat) : Int32 := W 7 (W 1 j).toNatClampNeg
def flH (W : ST) (j : Nat) (fd : Int32) : Int32 := if fd = 0 then W 6 (W 1 j).toNatClampNeg else 3
def turnV (G : GT) (W : ST) (j : Nat) : Int32 :=
  if gbg G j = 0 then jmx 0 (jmn 30 (if gtn G = 0 then spH W j - W 4 j else evs (gtF G) (env G W j (spH W j)) (gtn G) 0)) else jmx 0 (jmn 30 (if gtn G = 0 then spH W j - W 4 j else evs (gtF G) (env G W j (spH W j)) (gtn G) 0)) / 2
def wayV (G : GT) (W : ST) (j : Nat) (fd : Int32) : Int32 :=
  jmx 0 (jmn 3 (if ggn G = 0 then (if flH W j fd = 0 ∧ W 3 j = allS G then 1 else flH W j fd) else evs (ggF G) (env G W j (flH W j fd)) (ggn G) 0))
def goV (G : GT) (W : ST) (j : Nat) (y : Int32) : ST := if nI (gRn G) ≤ W 1 j + y then up (up W 1 j (-2)) 0 1 (W 0 1 + 1) else up W 1 j (W 1 j + y)
def seeV (W : ST) (j : Nat) : ST := up W 3 j (W 3 j ||| ((1 : Int32) <<< (W 2 j &&& 31)))
def faceV (G : GT) (W : ST) (j : Nat) (t : Int32) : ST := up W 2 j ((W 2 j + t) - (W 2 j + t) / nI (gsd G) * nI (gsd G))
def turnA (G : GT) (W : ST) (j : Nat) : ST := up (faceV G W j (turnV G W j)) 5 j (W 5 j + turnV G W j)
def driftV (G : GT) (fd : Int32) (W : ST) (j : Nat) : ST := goV G (turnA G (seeV W j) j) j (wayV G (turnA G (seeV W j) j) j fd)
def letA (G : GT) (W : ST) : Nat → ST
  | 0 => W
  | k + 1 => if letA G W k 1 k = -1 ∧ glg G k = letA G W k 0 0 then goV G (letA G W k) k 1 else letA G W k
def drfA (G : GT) (fd : Int32) (W : ST) : Nat → ST
  | 0 => W
  | k + 1 => if 0 ≤ drfA G fd W k 1 k then driftV G fd (drfA G fd W k) k else drfA G fd W k
def tickV (W : ST) : ST := up W 0 0 (W 0 0 + 1)
def passV (G : GT) (fd : Int32) (W : ST) : ST := tickV (drfA G fd (letA G W (gJ G)) (gJ G))
/-! numbers -/
theorem clampI {m : Nat} (hm : m < 1000) (x : Int32) : ∃ t, t ≤ m ∧ jmx 0 (jmn (nI m) x) = nI t := by
  unfold jmx jmn
  by_cases h1 : x < nI m
  · rw [if_pos h1]
    by_cases h2 : (0 : Int32) < x
    · rw [if_pos h2]
      rw [Int32.lt_iff_toInt_lt, nI_toInt (by omega)] at h1
      rw [Int32.lt_iff_toInt_lt, Int32.toInt_zero] at h2
      refine ⟨x.toInt.toNat, by omega, ?_⟩
      apply Int32.toInt_inj.mp
      rw [nI_toInt (by omega)]
      omega
    · rw [if_neg h2]
      exact ⟨0, by omega, rfl⟩
  · rw [if_neg h1]
    by_cases h2 : (0 : Int32) < nI m
    · rw [if_pos h2]
      exact ⟨m, by omega, rfl⟩
    · rw [if_neg h2]
      exact ⟨0, by omega, rfl⟩
theorem remI {a b : Nat} (ha : a < 100000) (hb : 0 < b) (hb2 : b < 100000) : nI a - nI a / nI b * nI b = nI (a % b) := by
  have hd : nI a / nI b = nI (a / b) := by
    apply Int32.toInt_inj.mp
    have : a / b ≤ a := Nat.div_le_self a b
    rw [Int32.toInt_div_of_ne_left _ _ (by intro q; have := congrArg Int32.toInt q; rw [nI_toInt (by omega)] at this; revert this; simp), nI_toInt (by omega), nI_toInt (by omega), nI_toInt (by omega)]
    rw [Int.tdiv_eq_ediv_of_nonneg (by omega)]
    omega
  have hm : nI (a / b) * nI b = nI (a / b * b) := by unfold nI; rw [← Int32.ofNat_mul]
  have e : a = a % b + a / b * b := by rw [Nat.mul_comm]; exact (Nat.mod_add_div a b).symm
  rw [hd, hm]
  conv => lhs; arg 1; rw [e]
  rw [← nI_add, Int32.add_sub_cancel]
theorem half {t : Nat} (h : t ≤ 30) : nI t / 2 = nI (t / 2) := by
  have q : ∀ t, t < 31 → nI t / 2 = nI (t / 2) := by decide
  exact q t (by omega)
theorem orbit : ∀ k, k < 8 → ∀ s, s < 256 → nI s ||| ((1 : Int32) <<< (nI k &&& 31)) = nI (s ||| 2 ^ k) ∧ s ||| 2 ^ k < 256 := by decide +kernel
theorem nI_clampN {r : Nat} (h : r < 10000) : (nI r).toNatClampNeg = r := nI_clamp (by omega)
theorem neg_cases {n : Nat} (h : n < 10000) : ¬ nI n = -1 ∧ ¬ nI n = -2 ∧ 0 ≤ nI n ∧ ¬ nI n < 0 := by
  refine ⟨?_, ?_, nI_pos' (by omega), nI_pos (by omega)⟩
  · intro q; have := congrArg Int32.toInt q; rw [nI_toInt (by omega)] at this; rw [show (-1 : Int32).toInt = -1 by decide] at this; omega
  · intro q; have := congrArg Int32.toInt q; rw [nI_toInt (by omega)] at this; rw [show (-2 : Int32).toInt = -2 by decide] at this; omega
/-! what stays right -/
theorem okW_go {G : GT} {W : ST} {j : Nat} {y : Nat} (hG : okG G) (h : okW G W) (hj : j < gJ G) (hy : y ≤ 3) (hw : W 1 j = -1 ∧ y = 1 ∨ ∃ r, r < gRn G ∧ W 1 j = nI r) : okW G (goV G W j (nI y)) := by
  obtain ⟨h1, h2⟩ := h
  have hR := hG.2.1
  have hs : ∃ q, q ≤ 12 ∧ W 1 j + nI y = nI q := by
    rcases hw with ⟨e, rfl⟩ | ⟨r, hr, e⟩
    · rw [e]; exact ⟨0, by omega, by decide⟩
    · rw [e, nI_add]; exact ⟨r + y, by omega, rfl⟩
  obtain ⟨q, hq, e⟩ := hs
  unfold goV
  rw [e]
  split
  · refine ⟨fun i hi => ?_, fun r hr => ?_⟩
    · have := h1 i hi
      simp only [up, upd, show ¬ 1 = 0 by decide, show ¬ 2 = 0 by decide, show ¬ 2 = 1 by decide, show ¬ 3 = 0 by decide, show ¬ 3 = 1 by decide, show ¬ 4 = 0 by decide, show ¬ 4 = 1 by decide, if_false, if_true]
      refine ⟨?_, this.2⟩
      split
      · left; rfl
      · exact this.1
    · have := h2 r hr
      simpa only [up, show ¬ 6 = 0 by decide, show ¬ 6 = 1 by decide, show ¬ 7 = 0 by decide, show ¬ 7 = 1 by decide, if_false]
  · refine ⟨fun i hi => ?_, fun r hr => ?_⟩
    · have := h1 i hi
      simp only [up, upd, show ¬ 2 = 1 by decide, show ¬ 3 = 1 by decide, show ¬ 4 = 1 by decide, if_false, if_true]
      refine ⟨?_, this.2⟩
      split
      · rename_i q1 _
        rw [le_nI (by omega) (by omega)] at q1
        right; right; exact ⟨q, by omega, rfl⟩
      · exact this.1
    · have := h2 r hr
      simpa only [up, show ¬ 6 = 1 by decide, show ¬ 7 = 1 by decide, if_false]
theorem okW_see {G : GT} {W : ST} {j : Nat} (hG : okG G) (h : okW G W) (hj : j < gJ G) : okW G (seeV W j) := by
  obtain ⟨h1, h2⟩ := h
  refine ⟨fun i hi => ?_, fun r hr => ?_⟩
  · have := h1 i hi
    simp only [seeV, up, upd, show ¬ 1 = 3 by decide, show ¬ 2 = 3 by decide, show ¬ 4 = 3 by decide, if_false, if_true]
    refine ⟨this.1, this.2.1, ?_, this.2.2.2⟩
    split
    · obtain ⟨f, hf, e⟩ := (h1 j hj).2.1
      obtain ⟨s, hs, e2⟩ := (h1 j hj).2.2.1
      have := orbit f (by have := hG.1.2; omega) s hs
      rw [e, e2, this.1]
      exact ⟨_, this.2, rfl⟩
    · exact this.2.2.1
  · have := h2 r hr
    simpa only [seeV, up, show ¬ 6 = 3 by decide, show ¬ 7 = 3 by decide, if_false]
theorem turnV_r {G : GT} {W : ST} {j : Nat} : ∃ t, t ≤ 30 ∧ turnV G W j = nI t := by
  unfold turnV
  obtain ⟨t, ht, e⟩ := clampI (m := 30) (by omega) (if gtn G = 0 then spH W j - W 4 j else evs (gtF G) (env G W j (spH W j)) (gtn G) 0)
  rw [show (30 : Int32) = nI 30 from rfl, e]
  split
  · exact ⟨t, ht, rfl⟩
  · exact ⟨t / 2, by omega, half ht⟩
theorem wayV_r {G : GT} {W : ST} {j : Nat} {fd : Int32} : ∃ t, t ≤ 3 ∧ wayV G W j fd = nI t := clampI (m := 3) (by omega) _
theorem okW_face {G : GT} {W : ST} {j : Nat} {t : Nat} (hG : okG G) (h : okW G W) (hj : j < gJ G) (ht : t ≤ 30) : okW G (faceV G W j (nI t)) := by
  obtain ⟨h1, h2⟩ := h
  refine ⟨fun i hi => ?_, fun r hr => ?_⟩
  · have := h1 i hi
    simp only [faceV, up, upd, show ¬ 1 = 2 by decide, show ¬ 3 = 2 by decide, show ¬ 4 = 2 by decide, if_false, if_true]
    refine ⟨this.1, ?_, this.2.2⟩
    split
    · obtain ⟨f, hf, e⟩ := (h1 j hj).2.1
      have h8 := hG.1
      rw [e, nI_add, remI (by omega) (by omega) (by omega)]
      exact ⟨_, Nat.mod_lt _ (by omega), rfl⟩
    · exact this.2.1
  · have := h2 r hr
    simpa only [faceV, up, show ¬ 6 = 2 by decide, show ¬ 7 = 2 by decide, if_false]
theorem okW_up5 {G : GT} {W : ST} {j : Nat} {v : Int32} (h : okW G W) : okW G (up W 5 j v) := by
  obtain ⟨h1, h2⟩ := h
  refine ⟨fun i hi => ?_, fun r hr => ?_⟩
  · have := h1 i hi
    simpa only [up, show ¬ 1 = 5 by decide, show ¬ 2 = 5 by decide, show ¬ 3 = 5 by decide, show ¬ 4 = 5 by decide, if_false]
  · have := h2 r hr
    simpa only [up, show ¬ 6 = 5 by decide, show ¬ 7 = 5 by decide, if_false]
theorem okW_up0 {G : GT} {W : ST} {j : Nat} {v : Int32} (h : okW G W) : okW G (up W 0 j v) := by
  obtain ⟨h1, h2⟩ := h
  refine ⟨fun i hi => ?_, fun r hr => ?_⟩
  · have := h1 i hi
    simpa only [up, show ¬ 1 = 0 by decide, show ¬ 2 = 0 by decide, show ¬ 3 = 0 by decide, show ¬ 4 = 0 by decide, if_false]
  · have := h2 r hr
    simpa only [up, show ¬ 6 = 0 by decide, show ¬ 7 = 0 by decide, if_false]
theorem turnA_1 {G : GT} {W : ST} {j : Nat} : turnA G W j 1 = W 1 := by
  simp only [turnA, faceV, up, show ¬ 1 = 5 by decide, show ¬ 1 = 2 by decide, if_false]
theorem seeV_1 {W : ST} {j : Nat} : seeV W j 1 = W 1 := by
  simp only [seeV, up, show ¬ 1 = 3 by decide, if_false]
theorem okW_turnA {G : GT} {W : ST} {j : Nat} (hG : okG G) (h : okW G W) (hj : j < gJ G) : okW G (turnA G W j) := by
  obtain ⟨t, ht, e⟩ := turnV_r (G := G) (W := W) (j := j)
  unfold turnA
  rw [e]
  exact okW_up5 (okW_face hG h hj ht)
theorem okW_drift {G : GT} {W : ST} {j : Nat} {fd : Int32} (hG : okG G) (h : okW G W) (hj : j < gJ G) (h0 : 0 ≤ W 1 j) : okW G (driftV G fd W j) := by
  unfold driftV
  obtain ⟨t, ht, e⟩ := wayV_r (G := G) (W := turnA G (seeV W j) j) (j := j) (fd := fd)
  rw [e]
  refine okW_go hG (okW_turnA hG (okW_see hG h hj) hj) hj ht ?_
  rw [turnA_1, seeV_1]
  rcases (h.1 j hj).1 with q | q | q
  · rw [q] at h0; exact absurd h0 (by decide)
  · rw [q] at h0; exact absurd h0 (by decide)
  · exact .inr q
theorem okW_letA {G : GT} {W : ST} (hG : okG G) (h : okW G W) : ∀ k, k ≤ gJ G → okW G (letA G W k) := by
  intro k
  induction k with
  | zero => intro _; exact h
  | succ k ih =>
    intro hk
    unfold letA
    split
    · rename_i q
      exact okW_go hG (ih (by omega)) (by omega) (y := 1) (by omega) (.inl ⟨q.1, rfl⟩)
    · exact ih (by omega)
theorem okW_drfA {G : GT} {W : ST} {fd : Int32} (hG : okG G) (h : okW G W) : ∀ k, k ≤ gJ G → okW G (drfA G fd W k) := by
  intro k
  induction k with
  | zero => intro _; exact h
  | succ k ih =>
    intro hk
    unfold drfA
    split
    · rename_i q
      exact okW_drift hG (ih (by omega)) (by omega) q
    · exact ih (by omega)
theorem okW_pass {G : GT} {W : ST} {fd : Int32} (hG : okG G) (h : okW G W) : okW G (passV G fd W) :=
  okW_up0 (okW_drfA hG (okW_letA hG h _ (Nat.le_refl _)) _ (Nat.le_refl _))
