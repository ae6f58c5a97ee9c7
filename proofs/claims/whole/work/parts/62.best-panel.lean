/-! the panel: what is best, once for both -/
def bet (p c : Nat × Nat) : Nat × Nat := if p.1 < c.1 ∨ (p.1 = c.1 ∧ c.2 < p.2) then c else p
def cnd (P : Nat → Nat × Nat) (lj : Nat → Nat) (u j : Nat) : Nat × Nat := ((P (u ||| 2 ^ j)).1 + 1, (P (u ||| 2 ^ j)).2 + lj j)
def fob (P : Nat → Nat × Nat) (lj : Nat → Nat) (u : Nat) (my : Nat → Bool) : Nat → Nat × Nat
  | 0 => P u
  | j + 1 => if my j = true then bet (fob P lj u my j) (cnd P lj u j) else fob P lj u my j
def mayB (W : ST) (k j u : Nat) : Bool := decide (¬ ((nI u >>> (nI j &&& 31)) &&& 1) = 1) && decide (((W 3 j >>> (nI k &&& 31)) &&& 1) = 1)
def PG (W : ST) (lj : Nat → Nat) (n J : Nat) : Nat → Nat → Nat × Nat
  | 0, _ => (0, 0)
  | m + 1, u => fob (PG W lj n J m) lj u (fun j => mayB W (n - (m + 1)) j u) J
def wv (p : Nat × Nat) : Nat := 100 * p.1 - p.2
def lv (m : Nat) (p : Nat × Nat) : Nat := 1000 * (m - p.1) + p.2
def okP (m : Nat) (p : Nat × Nat) : Prop := p.1 ≤ m ∧ p.2 ≤ 9 * p.1
def hit (W : ST) (lj : Nat → Nat) (n J m u j : Nat) : Bool := mayB W (n - (m + 1)) j u && decide (cnd (PG W lj n J m) lj u j = PG W lj n J (m + 1) u)
def lo (p : Nat → Bool) (J : Nat) : Nat → Int32
  | 0 => -1
  | m + 1 => if p (J - (m + 1)) = true then nI (J - (m + 1)) else lo p J m
def us (W : ST) (lj : Nat → Nat) (n J : Nat) : Nat → Nat
  | 0 => 0
  | s + 1 => if lo (hit W lj n J (n - (s + 1)) (us W lj n J s)) J J = -1 then us W lj n J s else us W lj n J s ||| 2 ^ (lo (hit W lj n J (n - (s + 1)) (us W lj n J s)) J J).toNatClampNeg
def ow (W : ST) (lj : Nat → Nat) (n J s : Nat) : Int32 := lo (hit W lj n J (n - (s + 1)) (us W lj n J s)) J J
section S62
variable {W : ST} {lj : Nat → Nat} {n J m u j : Nat} {p c : Nat × Nat} {P : Nat → Nat × Nat} {my : Nat → Bool}
theorem okP_bet (h1 : okP m p) (h2 : okP m c) : okP m (bet p c) := by
  unfold bet
  split
  · exact h2
  · exact h1
theorem okP_cnd (h1 : ∀ u, okP m (P u)) (hl : ∀ j, lj j ≤ 9) : okP (m + 1) (cnd P lj u j) := by
  have h := h1 (u ||| 2 ^ j)
  have := hl j
  unfold okP at h ⊢
  unfold cnd
  refine ⟨?_, ?_⟩
  · show (P (u ||| 2 ^ j)).1 + 1 ≤ m + 1
    omega
  · show (P (u ||| 2 ^ j)).2 + lj j ≤ 9 * ((P (u ||| 2 ^ j)).1 + 1)
    omega
theorem okP_up (h : okP m p) : okP (m + 1) p := ⟨by have := h.1; omega, h.2⟩
theorem okP_fob (h1 : ∀ u, okP m (P u)) (hl : ∀ j, lj j ≤ 9) : ∀ j, okP (m + 1) (fob P lj u my j)
  | 0 => okP_up (h1 u)
  | j + 1 => by
    unfold fob
    split
    · exact okP_bet (okP_fob h1 hl j) (okP_cnd h1 hl)
    · exact okP_fob h1 hl j
theorem okP_PG (hl : ∀ j, lj j ≤ 9) : ∀ m u, okP m (PG W lj n J m u)
  | 0 => fun u => ⟨Nat.le_refl _, Nat.zero_le _⟩
  | m + 1 => fun u => by
    unfold PG
    exact okP_fob (okP_PG hl m) hl J
theorem jmx_wv (hm : m ≤ 9) (h1 : okP m p) (h2 : okP m c) : jmx (nI (wv p)) (nI (wv c)) = nI (wv (bet p c)) := by
  obtain ⟨p1, p2⟩ := p
  obtain ⟨c1, c2⟩ := c
  obtain ⟨a1, a2⟩ := h1
  obtain ⟨b1, b2⟩ := h2
  simp only at a1 a2 b1 b2
  unfold jmx bet wv
  simp only
  by_cases h : p1 < c1 ∨ (p1 = c1 ∧ c2 < p2)
  · rw [if_pos h, if_pos (nI_lt (by omega) (by omega))]
  · rw [if_neg h, if_neg (nI_nlt (by omega) (by omega))]
theorem jmn_lv (hm : m ≤ 9) (h1 : okP m p) (h2 : okP m c) : jmn (nI (lv m p)) (nI (lv m c)) = nI (lv m (bet p c)) := by
  obtain ⟨p1, p2⟩ := p
  obtain ⟨c1, c2⟩ := c
  obtain ⟨a1, a2⟩ := h1
  obtain ⟨b1, b2⟩ := h2
  simp only at a1 a2 b1 b2
  unfold jmn bet lv
  simp only
  by_cases h : p1 < c1 ∨ (p1 = c1 ∧ c2 < p2)
  · rw [if_pos h, if_pos (nI_lt (by omega) (by omega))]
  · rw [if_neg h, if_neg (nI_nlt (by omega) (by omega))]
theorem wv_eq (hm : m ≤ 9) (h1 : okP m p) (h2 : okP m c) : nI (wv p) = nI (wv c) ↔ p = c := by
  obtain ⟨p1, p2⟩ := p
  obtain ⟨c1, c2⟩ := c
  obtain ⟨a1, a2⟩ := h1
  obtain ⟨b1, b2⟩ := h2
  simp only at a1 a2 b1 b2
  unfold wv
  simp only
  rw [eq_nI (by omega) (by omega), Prod.mk.injEq]
  omega
theorem lv_eq (hm : m ≤ 9) (h1 : okP m p) (h2 : okP m c) : nI (lv m p) = nI (lv m c) ↔ p = c := by
  obtain ⟨p1, p2⟩ := p
  obtain ⟨c1, c2⟩ := c
  obtain ⟨a1, a2⟩ := h1
  obtain ⟨b1, b2⟩ := h2
  simp only at a1 a2 b1 b2
  unfold lv
  simp only
  rw [eq_nI (by omega) (by omega), Prod.mk.injEq]
  omega
theorem wv_cnd (hm : m ≤ 9) (h : ∀ u, okP m (P u)) (hl : lj j ≤ 9) : (100 : Int32) - nI (lj j) + nI (wv (P (u ||| 2 ^ j))) = nI (wv (cnd P lj u j)) := by
  have a := h (u ||| 2 ^ j)
  obtain ⟨a1, a2⟩ := a
  have e : ∀ l, l < 10 → (100 : Int32) - nI l = nI (100 - l) := by decide
  rw [e _ (by omega), nI_add]
  unfold wv cnd
  simp only
  exact congrArg nI (by omega)
theorem lv_cnd (h : ∀ u, okP m (P u)) : nI (lj j) + nI (lv m (P (u ||| 2 ^ j))) = nI (lv (m + 1) (cnd P lj u j)) := by
  have a := h (u ||| 2 ^ j)
  obtain ⟨a1, a2⟩ := a
  rw [nI_add]
  unfold lv cnd
  simp only
  exact congrArg nI (by omega)
theorem lv_base (h : okP m p) : (1000 : Int32) + nI (lv m p) = nI (lv (m + 1) p) := by
  obtain ⟨a1, a2⟩ := h
  have e : (1000 : Int32) + nI (lv m p) = nI (1000 + lv m p) := nI_add 1000 (lv m p)
  rw [e]
  unfold lv
  exact congrArg nI (by omega)
theorem lo_cases (p : Nat → Bool) (J : Nat) : ∀ m, m ≤ J → (lo p J m = -1 ∧ ∀ j, J - m ≤ j → j < J → p j = false) ∨ ∃ j, j < J ∧ p j = true ∧ lo p J m = nI j
  | 0 => fun _ => .inl ⟨rfl, fun j h1 h2 => by omega⟩
  | m + 1 => fun hm => by
    unfold lo
    by_cases y : p (J - (m + 1)) = true
    · rw [if_pos y]
      exact .inr ⟨_, by omega, y, rfl⟩
    · rw [if_neg y]
      rcases lo_cases p J m (by omega) with ⟨a1, a2⟩ | a
      · refine .inl ⟨a1, fun j h1 h2 => ?_⟩
        rcases Nat.lt_or_ge j (J - m) with z | z
        · have : j = J - (m + 1) := by omega
          rw [this]; simpa using y
        · exact a2 j z h2
      · exact .inr a
theorem fob_cases (P : Nat → Nat × Nat) (lj : Nat → Nat) (u : Nat) (my : Nat → Bool) : ∀ J, fob P lj u my J = P u ∨ ∃ j, j < J ∧ my j = true ∧ fob P lj u my J = cnd P lj u j
  | 0 => .inl rfl
  | J + 1 => by
    unfold fob
    by_cases y : my J = true
    · rw [if_pos y]
      unfold bet
      split
      · exact .inr ⟨J, by omega, y, rfl⟩
      · rcases fob_cases P lj u my J with h | ⟨j, h1, h2, h3⟩
        · exact .inl h
        · exact .inr ⟨j, by omega, h2, h3⟩
    · rw [if_neg y]
      rcases fob_cases P lj u my J with h | ⟨j, h1, h2, h3⟩
      · exact .inl h
      · exact .inr ⟨j, by omega, h2, h3⟩
/-- no judge gives the best: the side stays without one -/
theorem PG_none (h : ∀ j, j < J → hit W lj n J m u j = false) : PG W lj n J (m + 1) u = PG W lj n J m u := by
  rcases fob_cases (PG W lj n J m) lj u (fun j => mayB W (n - (m + 1)) j u) J with e | ⟨j, h1, h2, h3⟩
  · exact e
  · have := h j h1
    unfold hit at this
    rw [show mayB W (n - (m + 1)) j u = true from h2, Bool.true_and, decide_eq_false_iff_not] at this
    exact absurd h3.symm this
theorem hit_eq (h : hit W lj n J m u j = true) : PG W lj n J (m + 1) u = cnd (PG W lj n J m) lj u j := by
  unfold hit at h
  rw [Bool.and_eq_true, decide_eq_true_eq] at h
  exact h.2.symm
theorem or_lt {u j J : Nat} (hu : u < 2 ^ J) (hj : j < J) : u ||| 2 ^ j < 2 ^ J := Nat.or_lt_two_pow hu (Nat.pow_lt_pow_right (by decide) hj)
theorem p2_8 {J : Nat} (h : J ≤ 8) : 2 ^ J ≤ 256 := Nat.pow_le_pow_right (n := 2) (by decide) h
theorem ow_cases (s : Nat) : (ow W lj n J s = -1 ∧ us W lj n J (s + 1) = us W lj n J s ∧ ∀ j, j < J → hit W lj n J (n - (s + 1)) (us W lj n J s) j = false) ∨ ∃ j, j < J ∧ hit W lj n J (n - (s + 1)) (us W lj n J s) j = true ∧ ow W lj n J s = nI j ∧ (J ≤ 8 → us W lj n J (s + 1) = us W lj n J s ||| 2 ^ j) := by
  unfold ow
  rcases lo_cases (hit W lj n J (n - (s + 1)) (us W lj n J s)) J J (Nat.le_refl _) with ⟨a1, a2⟩ | ⟨j, a1, a2, a3⟩
  · exact .inl ⟨a1, by rw [us, if_pos a1], fun j hj => a2 j (by omega) hj⟩
  · refine .inr ⟨j, a1, a2, a3, fun h8 => ?_⟩
    rw [us, if_neg (by rw [a3]; exact (neg_cases (by omega)).1), a3, nI_clampN (by omega)]
theorem us_lt (h8 : J ≤ 8) : ∀ s, us W lj n J s < 2 ^ J
  | 0 => Nat.two_pow_pos J
  | s + 1 => by
    rcases ow_cases (W := W) (lj := lj) (n := n) (J := J) s with ⟨_, e, _⟩ | ⟨j, h1, _, _, e⟩
    · rw [e]; exact us_lt h8 s
    · rw [e h8]; exact or_lt (us_lt h8 s) h1
theorem ix (s u : Nat) : nI s * 256 + nI u = nI (s * 256 + u) := by
  show nI s * nI 256 + nI u = _
  have : nI s * nI 256 = nI (s * 256) := by unfold nI; rw [← Int32.ofNat_mul]
  rw [this, nI_add]
theorem ix8 {s : Nat} (hs : s < 10) (u : Nat) : (nI s <<< ((8 : Int32) &&& 31)) + nI u = nI (s * 256 + u) := by
  have e : ∀ s, s < 10 → nI s <<< ((8 : Int32) &&& 31) = nI (s * 256) := by decide
  rw [e s hs, nI_add]
theorem bit01 : ∀ j, j < 8 → ∀ u, u < 256 → (((nI u >>> (nI j &&& 31)) &&& 1) = 0 ↔ ¬ ((nI u >>> (nI j &&& 31)) &&& 1) = 1) := by decide +kernel
theorem sub1 (x : Int32) : x + -1 = x - 1 := by rw [Int32.sub_eq_add_neg]
end S62
