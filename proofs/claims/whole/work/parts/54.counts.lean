/-! years: what is drawn; how many have landed -/
def stir (s : Int32) : Int32 := s * 1103515245 + 12345
def drn (s : Int32) : Nat := (s >>> ((16 : Int32) &&& 31)).toBitVec.toNat &&& 32767
theorem nI_all (y : Int32) : y = nI y.toBitVec.toNat := by
  unfold nI
  apply Int32.toBitVec_inj.mp
  simp
theorem drn_e (s : Int32) : (s >>> ((16 : Int32) &&& 31)) &&& 32767 = nI (drn s) := by
  conv => lhs; arg 1; rw [nI_all (s >>> ((16 : Int32) &&& 31))]
  rw [show (32767 : Int32) = nI 32767 from rfl, nI_and]
  rfl
theorem drn_lt (s : Int32) : drn s ≤ 32767 := Nat.and_le_right
theorem drw_e {s : Int32} {n : Nat} (h0 : 0 < n) (h9 : n ≤ 9) : ((s >>> ((16 : Int32) &&& 31)) &&& 32767) - ((s >>> ((16 : Int32) &&& 31)) &&& 32767) / nI n * nI n = nI (drn s % n) := by
  rw [drn_e]
  have := drn_lt s
  exact remI (by omega) h0 (by omega)
theorem draw_c {N : Nat} {h : AH} {s : Int32} {n : Nat} {x : Int32} (ex : x = nI n) (h0 : 0 < n) (h9 : n ≤ 9) : f_X6_draw N h s x = some (nI (drn s % n), h) := by
  subst ex
  simp only [f_X6_draw, f_X6_rest, show ¬ nI n ≤ 0 from nI_ge (a := 0) h0 (by omega), nI_ne0 h0 (show n < 2 ^ 31 by omega), ↓reduceIte, drw_e h0 h9, Option.bind_some]
/-! counting -/
def cnt (p : Nat → Bool) : Nat → Nat
  | 0 => 0
  | k + 1 => if p k = true then cnt p k + 1 else cnt p k
theorem bc_s : ∀ k, k < 8 → ∀ s, s < 2 ^ k → bc (nI (s ||| 2 ^ k)) = bc (nI s) + 1 := by decide +kernel
theorem bc_cnt {p : Nat → Bool} : ∀ n, n ≤ 8 → bc (nI (onesN p n)) = nI (cnt p n)
  | 0 => fun _ => show bc (nI 0) = nI 0 by decide
  | k + 1 => fun hk => by
    have ih := bc_cnt (p := p) k (by omega)
    unfold onesN cnt
    split
    · rw [bc_s k (by omega) _ (onesN_lt k), ih, nI_1]
    · exact ih
theorem onesN_tb {p : Nat → Bool} : ∀ n i, (onesN p n).testBit i = (decide (i < n) && p i)
  | 0, i => by simp [onesN]
  | k + 1, i => by
    have ih := onesN_tb (p := p) k i
    unfold onesN
    by_cases e : i = k
    · subst e
      by_cases h : p i = true
      · rw [if_pos h, Nat.testBit_or, Nat.testBit_two_pow_self, h]; simp
      · rw [if_neg h, ih]; simp [h]
    · have e2 : decide (i < k + 1) = decide (i < k) := by simp; omega
      rw [e2]
      split
      · rw [Nat.testBit_or, ih, Nat.testBit_two_pow]; simp [Ne.symm e]
      · exact ih
theorem onesN_diff {p q : Nat → Bool} (n : Nat) : onesN p n ^^^ (onesN p n &&& onesN q n) = onesN (fun j => p j && !q j) n := by
  apply Nat.eq_of_testBit_eq
  intro i
  rw [Nat.testBit_xor, Nat.testBit_and, onesN_tb, onesN_tb, onesN_tb]
  cases decide (i < n) <;> cases p i <;> cases q i <;> rfl
theorem cnt_congr {p q : Nat → Bool} : ∀ {n : Nat}, (∀ j, j < n → p j = q j) → cnt p n = cnt q n := by
  intro n
  induction n with
  | zero => intro _; rfl
  | succ k ih =>
    intro h
    rw [cnt, cnt, ih (fun j hj => h j (by omega)), h k (by omega)]
theorem cnt_one {p q : Nat → Bool} {j : Nat} (hp : p j = false) (hq : q j = true) : ∀ {n : Nat}, j < n → (∀ i, i ≠ j → p i = q i) → cnt q n = cnt p n + 1 := by
  intro n
  induction n with
  | zero => intro h; omega
  | succ k ih =>
    intro hj h
    rw [cnt, cnt]
    by_cases e : k = j
    · subst e
      rw [if_pos hq, if_neg (by rw [hp]; decide), cnt_congr (fun i hi => (h i (by omega)).symm)]
    · have := ih (by omega) h
      rw [h k e, this]
      split <;> rfl
/-- as many as W 0 1 says have landed since W0 -/
def LD (G : GT) (W0 T : ST) : Prop := (∀ j, j < gJ G → W0 1 j = -2 → T 1 j = -2) ∧ T 0 1 = nI (cnt (fun j => decide (T 1 j = -2) && !decide (W0 1 j = -2)) (gJ G)) ∧ ∀ j, gJ G ≤ j → T 5 j = 0
section S54
variable {C C0 B M M1 W W0 T : ST} {K : KT} {O : Nat → Int64} {N : Nat} {G : GT} {b : Bool}
theorem LD_congr {T' : ST} (h : LD G W0 T) (h1 : T' 1 = T 1) (h0 : T' 0 1 = T 0 1) (h5 : ∀ j, gJ G ≤ j → T' 5 j = T 5 j) : LD G W0 T' := by
  unfold LD
  rw [h1, h0]
  exact ⟨h.1, h.2.1, fun j hj => (h5 j hj).trans (h.2.2 j hj)⟩
theorem goV_5 {j : Nat} {y : Int32} : goV G T j y 5 = T 5 := by
  unfold goV
  split
  · rw [up_o (by decide), up_o (by decide)]
  · rw [up_o (by decide)]
theorem LD_go {j y : Nat} (hG : okG G) (h : LD G W0 T) (hj : j < gJ G) (hy : y ≤ 3) (hw : T 1 j = -1 ∧ y = 1 ∨ ∃ r, r < gRn G ∧ T 1 j = nI r) : LD G W0 (goV G T j (nI y)) := by
  have hR := hG.2.1
  have hs : ∃ q, q ≤ 12 ∧ T 1 j + nI y = nI q := by
    rcases hw with ⟨e, rfl⟩ | ⟨r, hr, e⟩
    · rw [e]; exact ⟨0, by omega, by decide⟩
    · rw [e, nI_add]; exact ⟨r + y, by omega, rfl⟩
  have hn2 : ¬ T 1 j = -2 := by
    rcases hw with ⟨e, _⟩ | ⟨r, hr, e⟩
    · rw [e]; decide
    · rw [e]; exact (neg_cases (by omega)).2.1
  obtain ⟨q, hq, e⟩ := hs
  refine ⟨fun i hi hl => ?_, ?_, fun i hi => by rw [goV_5]; exact h.2.2 i hi⟩
  · have := h.1 i hi hl
    by_cases z : i = j
    · subst z; exact absurd this hn2
    · rw [goV_1 i z]; exact this
  · have hW0 : ¬ W0 1 j = -2 := fun z => hn2 (h.1 j hj z)
    unfold goV
    by_cases z : nI (gRn G) ≤ T 1 j + nI y
    · rw [if_pos z]
      have e1 : up (up T 1 j (-2)) 0 1 (T 0 1 + 1) 0 1 = T 0 1 + 1 := by rw [up_s, upd_s]
      have e2 : up (up T 1 j (-2)) 0 1 (T 0 1 + 1) 1 = upd (T 1) j (-2) := by rw [up_o (by decide), up_s]
      rw [e1, e2, h.2.1, nI_1]
      congr 1
      refine (cnt_one (j := j) ?_ ?_ hj fun i hi => ?_).symm
      · simp only [hn2, decide_false, Bool.false_and]
      · simp only [upd, if_true, decide_true, hW0, decide_false, Bool.not_false, Bool.and_self]
      · simp only [upd, hi, if_false]
    · rw [if_neg z]
      have e1 : up T 1 j (T 1 j + nI y) 0 1 = T 0 1 := by rw [up_o (by decide)]
      have e2 : up T 1 j (T 1 j + nI y) 1 = upd (T 1) j (T 1 j + nI y) := by rw [up_s]
      rw [e1, e2, h.2.1]
      congr 1
      refine cnt_congr fun i hi => ?_
      unfold upd
      by_cases y2 : i = j
      · subst y2
        rw [if_pos rfl, e]
        simp only [hn2, (neg_cases (show q < 10000 by omega)).2.1]
      · rw [if_neg y2]
theorem LD_drift {j : Nat} {fd : Int32} (hG : okG G) (ok : okW G T) (h : LD G W0 T) (hj : j < gJ G) (h0 : 0 ≤ T 1 j) : LD G W0 (driftV G fd T j) := by
  unfold driftV
  obtain ⟨t, ht, e⟩ := wayV_r (G := G) (W := turnA G (seeV T j) j) (j := j) (fd := fd)
  rw [e]
  refine LD_go hG (LD_congr h (by rw [turnA_1, seeV_1]) ?_ fun i hi => ?_) hj ht ?_
  · unfold turnA faceV seeV
    rw [up_o (by decide), up_o (by decide), up_o (by decide)]
  · unfold turnA faceV seeV
    rw [up_s, up_o (by decide), up_o (by decide), upd_o (by omega)]
  · rw [turnA_1, seeV_1]
    rcases (ok.1 j hj).1 with q | q | q
    · rw [q] at h0; exact absurd h0 (by decide)
    · rw [q] at h0; exact absurd h0 (by decide)
    · exact .inr q
theorem LD_letA (hG : okG G) (h : LD G W0 T) : ∀ k, k ≤ gJ G → LD G W0 (letA G T k)
  | 0 => fun _ => h
  | k + 1 => fun hk => by
    have ih := LD_letA hG h k (by omega)
    unfold letA
    split
    · rename_i q
      exact LD_go (y := 1) hG ih (by omega) (by decide) (.inl ⟨q.1, rfl⟩)
    · exact ih
theorem LD_drfA {fd : Int32} (hG : okG G) (ok : okW G T) (h : LD G W0 T) : ∀ k, k ≤ gJ G → LD G W0 (drfA G fd T k)
  | 0 => fun _ => h
  | k + 1 => fun hk => by
    have ih := LD_drfA (fd := fd) hG ok h k (by omega)
    have ok' := okW_drfA (fd := fd) hG ok k (by omega)
    unfold drfA
    split
    · rename_i q
      exact LD_drift hG ok' ih (by omega) q
    · exact ih
theorem LD_pass {fd : Int32} (hG : okG G) (ok : okW G T) (h : LD G W0 T) : LD G W0 (passV G fd T) := by
  have q := LD_drfA (fd := fd) hG (okW_letA hG ok _ (Nat.le_refl _)) (LD_letA hG h _ (Nat.le_refl _)) _ (Nat.le_refl _)
  refine LD_congr q ?_ ?_ fun j _ => ?_
  · unfold passV tickV; rw [up_o (by decide)]
  · unfold passV tickV; rw [up_s, upd_o (by decide)]
  · unfold passV tickV; rw [up_o (by decide)]
theorem LD_clr : LD G W (clr W) := by
  refine ⟨fun _ _ h => h, ?_, fun _ _ => rfl⟩
  have e : cnt (fun j => decide (clr W 1 j = -2) && !decide (W 1 j = -2)) (gJ G) = cnt (fun _ => false) (gJ G) := by
    refine cnt_congr fun i hi => ?_
    show (decide (W 1 i = -2) && !decide (W 1 i = -2)) = false
    cases decide (W 1 i = -2) <;> rfl
  rw [e]
  have z : ∀ n, cnt (fun _ => false) n = 0 := by
    intro n
    induction n with
    | zero => rfl
    | succ k ih => rw [cnt, if_neg (by decide)]; exact ih
  rw [z]
  rfl
theorem LD_bits (hG : okG G) (h : LD G W T) : bc (setAt G T (-2) &&& (setAt G W (-2) ^^^ (-1))) = T 0 1 := by
  have hJ := hG.2.2.1
  unfold setAt
  rw [ones_N _ hJ, ones_N _ hJ, andnot, nI_and, nI_xor, onesN_diff, bc_cnt _ hJ, h.2.1]
def sumT (T : ST) : Nat → Int32
  | 0 => 0
  | k + 1 => sumT T k + T 5 k
theorem sumT_8 (hG : okG G) (h : LD G W0 T) : sumT T 8 = sumT T (gJ G) := by
  have hJ := hG.2.2.1
  have go : ∀ m, sumT T (gJ G + m) = sumT T (gJ G) := by
    intro m
    induction m with
    | zero => rfl
    | succ m ih => rw [← Nat.add_assoc, sumT, ih, h.2.2 _ (by omega), Int32.add_zero]
  have := go (8 - gJ G)
  rwa [show gJ G + (8 - gJ G) = 8 by omega] at this
end S54
