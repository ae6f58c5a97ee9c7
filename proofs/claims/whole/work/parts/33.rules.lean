/-! rules: a list of instructions; the class's code and the reference's signs of it; how it is worked out -/
abbrev RI : Type := Nat ⊕ Nat ⊕ Unit ⊕ Int32
def bin2 (s c : Int32) : Prop := (s = -20 ∧ c = 2) ∨ (s = -21 ∧ c = 3) ∨ (s = -22 ∧ c = 4) ∨ (s = -23 ∧ c = 5) ∨ (s = -24 ∧ c = 6) ∨ (s = -25 ∧ c = 7) ∨ (s = -26 ∧ c = 8) ∨ (s = -27 ∧ c = 9)
def ccode : RI → Int32
  | .inl v => nI (16 * v)
  | .inr (.inl i) => nI (16 * i + 1)
  | .inr (.inr (.inl _)) => 10
  | .inr (.inr (.inr o)) => o
def mcode : RI → Int32
  | .inl v => nI v
  | .inr (.inl i) => -1 - nI i
  | .inr (.inr (.inl _)) => -28
  | .inr (.inr (.inr o)) => -18 - o
def dep (F : Nat → RI) : Nat → Nat
  | 0 => 0
  | k + 1 => match F k with
    | .inl _ => dep F k + 1
    | .inr (.inl _) => dep F k + 1
    | .inr (.inr (.inl _)) => dep F k
    | .inr (.inr (.inr _)) => dep F k - 1
def wfi (r : RI) (d : Nat) : Prop := match r with
  | .inl v => v ≤ 9999 ∧ d < 48
  | .inr (.inl i) => i < 6 ∧ d < 48
  | .inr (.inr (.inl _)) => 1 ≤ d ∧ d ≤ 48
  | .inr (.inr (.inr o)) => bin2 (-18 - o) o ∧ 2 ≤ d ∧ d ≤ 48
def WFr (F : Nat → RI) (n : Nat) : Prop := n ≤ 700 ∧ (0 < n → dep F n = 1) ∧ ∀ k, k < n → wfi (F k) (dep F k)
def cmb (o a b : Int32) : Int32 :=
  if o = 2 then a + b else if o = 3 then a - b else if o = 4 then a * b else if o = 5 then (if b = 0 then 0 else a / b) else if o = 6 then (if b ≤ a then 0 else 1) else if o = 7 then (if a = b then 1 else 0) else if o = 8 then (if a = 0 then 0 else if b = 0 then 0 else 1) else (if a = 0 then (if b = 0 then 0 else 1) else 1)
def evs (F : Nat → RI) (v : Nat → Int32) : Nat → Nat → Int32
  | 0 => fun _ => 0
  | k + 1 => match F k with
    | .inl c => upd (evs F v k) (dep F k) (nI c)
    | .inr (.inl i) => upd (evs F v k) (dep F k) (v i)
    | .inr (.inr (.inl _)) => upd (evs F v k) (dep F k - 1) (if evs F v k (dep F k - 1) = 0 then 1 else 0)
    | .inr (.inr (.inr o)) => upd (evs F v k) (dep F k - 2) (cmb o (evs F v k (dep F k - 2)) (evs F v k (dep F k - 1)))
def RUc (c : Nat → Int32) (fr to : Int32) (F : Nat → RI) (n : Nat) : Prop := ∃ f, fr = nI f ∧ to = nI (f + n) ∧ f + n ≤ 700 ∧ ∀ k, k < n → c (f + k) = ccode (F k)
def RUm (s : Nat → Int32) (sz : Int32) (F : Nat → RI) (n : Nat) : Prop := sz = nI n ∧ ∀ k, k < n → s k = mcode (F k)
theorem combine_c {N : Nat} {h : AH} {s o : Int32} (hb : bin2 s o) (a b : Int32) : f_X2_combine N h o a b = some (cmb o a b, h) := by
  rcases hb with ⟨rfl, rfl⟩ | ⟨rfl, rfl⟩ | ⟨rfl, rfl⟩ | ⟨rfl, rfl⟩ | ⟨rfl, rfl⟩ | ⟨rfl, rfl⟩ | ⟨rfl, rfl⟩ | ⟨rfl, rfl⟩ <;>
    simp (decide := true) only [f_X2_combine, f_X2_combine_b102, f_X2_combine_b112, cmb, if_true, if_false] <;>
    (repeat' split) <;> first | rfl | contradiction
theorem reckon_m {N : Nat} {h : AH} {s o : Int32} (hb : bin2 s o) (a b : Int32) : f_X7_reckon N h s a b = some (cmb o a b, h) := by
  rcases hb with ⟨rfl, rfl⟩ | ⟨rfl, rfl⟩ | ⟨rfl, rfl⟩ | ⟨rfl, rfl⟩ | ⟨rfl, rfl⟩ | ⟨rfl, rfl⟩ | ⟨rfl, rfl⟩ | ⟨rfl, rfl⟩ <;>
    simp (decide := true) only [f_X7_reckon, f_X7_reckon_b102, f_X7_reckon_b112, cmb, if_true, if_false] <;>
    (repeat' split) <;> first | rfl | contradiction
theorem div16 {v r : Nat} (hv : v ≤ 20000) (hr : r < 16) : nI (16 * v + r) / 16 = nI v := by
  apply Int32.toInt_inj.mp
  rw [Int32.toInt_div_of_ne_right _ _ (by decide), nI_toInt (by omega), nI_toInt (by omega), show (16 : Int32).toInt = 16 by decide]
  rw [Int.tdiv_eq_ediv_of_nonneg (by omega)]
  omega
theorem rem16 {v r : Nat} (hv : v ≤ 20000) (hr : r < 16) : nI (16 * v + r) - nI (16 * v + r) / 16 * 16 = nI r := by
  rw [div16 hv hr, show nI v * 16 = nI (16 * v) by rw [show (16 : Int32) = nI 16 from rfl]; unfold nI; rw [← Int32.ofNat_mul, Nat.mul_comm], ← nI_add]
  rw [Int32.add_comm, Int32.add_sub_cancel]
section S33
variable {C M : ST} {K : KT} {O : Nat → Int64} {N wa g : Nat}
theorem bin2_rem {s o : Int32} (hb : bin2 s o) : (o - o / 16 * 16) = o ∧ ¬ o = 0 ∧ ¬ o = 1 ∧ ¬ o = 10 ∧ s ≤ -20 ∧ ¬ s = -28 := by
  rcases hb with ⟨rfl, rfl⟩ | ⟨rfl, rfl⟩ | ⟨rfl, rfl⟩ | ⟨rfl, rfl⟩ | ⟨rfl, rfl⟩ | ⟨rfl, rfl⟩ | ⟨rfl, rfl⟩ | ⟨rfl, rfl⟩ <;> decide
set_option maxHeartbeats 8000000 in
theorem result_c {fr to : Int32} {F : Nat → RI} {n : Nat} {v : Nat → Int32} (hg : gok g) (hw : wok wa) (hR : RUc (C (g + 7)) fr to F n) (hF : WFr F n) (hn : 0 < n) (hv : ∀ i, i < 6 → C (wa + 9) i = v i) (hN : 1000 ≤ N) :
    ∃ C', f_X2_result N (HP C M K O) (wa + 8) (g + 7) fr to = some (evs F v n 0, HP C' M K O) ∧ ∀ a, a ≠ wa + 10 → C' a = C a := by
  obtain ⟨f, rfl, rfl, hf, hc⟩ := hR
  obtain ⟨h7, hd, hi⟩ := hF
  have hne : g + 7 ≠ wa + 10 := by rcases hg with rfl | rfl <;> rcases hw with rfl | rfl | rfl <;> decide
  have h2 := itr_inv (body := fun s : Int32 × Int32 × AH => f_X2_result_l10 N (wa + 8) (g + 7) (nI (f + n)) s.1 s.2.1 s.2.2)
    (fun k s => ∃ C', s = (nI (dep F k), nI (f + k), HP C' M K O) ∧ (∀ i, i < dep F k → C' (wa + 10) i = evs F v k i) ∧ ∀ a, a ≠ wa + 10 → C' a = C a)
    (P := fun r => ∃ C', r = Sum.inr (Sum.inr (Sum.inr (nI (dep F n), HP C' M K O))) ∧ C' (wa + 10) 0 = evs F v n 0 ∧ ∀ a, a ≠ wa + 10 → C' a = C a) (n := n) ?_ ?_ (s := (nI 0, nI f, HP C M K O)) ⟨C, rfl, fun i hi => absurd hi (Nat.not_lt_zero i), fun _ _ => rfl⟩ (N := N) (by omega)
  · obtain ⟨r, h3, C', rfl, h5, h6⟩ := h2
    refine ⟨C', ?_, h6⟩
    unfold f_X2_result f_X2_result_b10
    rw [show jmx (nI f) 0 = nI f by unfold jmx; rw [if_neg (nI_pos (by omega))]]
    rw [show (0 : Int32) = nI 0 from rfl, h3]
    simp only [Option.bind_some, Sum.elim_inr, f_X2_result_b184, hd hn, show ¬ nI 1 ≤ 0 by decide, if_false, rW hw, rWa hw, h5]
  · rintro k s hk ⟨C1, rfl, hst, hC⟩
    left
    have hcode : C1 (g + 7) (f + k) = ccode (F k) := by rw [hC _ hne]; exact hc k hk
    have hval : C1 (wa + 9) = C (wa + 9) := hC _ (by omega)
    have hF7 : f + k < 700 := by omega
    have g1 := nle (show f + k < f + n by omega) (by omega)
    have g2 := nle (show f + k < 700 by omega) (by omega)
    have hik := hi k hk
    rcases hr : F k with c | c | ⟨⟨⟩⟩ | o
    · rw [hr] at hik hcode
      simp only [ccode, wfi] at hik hcode
      have q1 := rem16 (v := c) (r := 0) (by omega) (by omega)
      have q2 := div16 (v := c) (r := 0) (by omega) (by omega)
      simp only [Nat.add_zero] at q1 q2
      rw [q2] at q1
      have q3 : nI (dep F k) < nI 48 := nI_lt hik.2 (by omega)
      have q4 := hik.2
      refine ⟨(nI (dep F (k + 1)), nI (f + (k + 1)), HP (up C1 (wa + 10) (dep F k) (nI c)) M K O), ?_, _, rfl, ?_, ?_⟩
      · simp only [dep, hr]
        simp only [f_X2_result_l10, f_X2_result_b52, f_X2_result_b86, f_X2_result_b178, ↓b_rW hw, ↓b_rWa hw, ↓b_wWa hw, ↓b_rGa hg, g1, g2, hF7, ↓reduceIte, Option.bind_some, hcode, q1, q2, q3, q4, show nI 0 = 0 from rfl, ← Nat.add_assoc, nI_1]
      · simp only [dep, hr, evs, up_s, upd]
        intro i hi'
        split
        · rfl
        · exact hst i (by omega)
      · intro a ha
        rw [up_o ha, hC a ha]
    · rw [hr] at hik hcode
      simp only [ccode, wfi] at hik hcode
      have q1 := rem16 (v := c) (r := 1) (by omega) (by omega)
      have q2 := div16 (v := c) (r := 1) (by omega) (by omega)
      rw [q2] at q1
      have q3 : nI (dep F k) < nI 48 := nI_lt hik.2 (by omega)
      have q4 := hik.2
      have q5 := hik.1
      have q6 := nI_pos (n := c) (by omega)
      have q7 := nle q5 (by omega)
      refine ⟨(nI (dep F (k + 1)), nI (f + (k + 1)), HP (up C1 (wa + 10) (dep F k) (v c)) M K O), ?_, _, rfl, ?_, ?_⟩
      · simp only [dep, hr]
        simp only [f_X2_result_l10, f_X2_result_b52, f_X2_result_b86, f_X2_result_b178, f_X2_valueOf, ↓b_rW hw, ↓b_rWa hw, ↓b_wWa hw, ↓b_rGa hg, g1, g2, hF7, ↓reduceIte, Option.bind_some, hcode, q1, q2, q3, q4, q5, q6, q7, show ¬ (1 : Int32) = 0 by decide, show nI 1 = 1 from rfl, ← Nat.add_assoc, nI_1, hval, hv c q5]
      · simp only [dep, hr, evs, up_s, upd]
        intro i hi'
        split
        · rfl
        · exact hst i (by omega)
      · intro a ha
        rw [up_o ha, hC a ha]
    · rw [hr] at hik hcode
      simp only [ccode, wfi] at hik hcode
      obtain ⟨d, hd'⟩ : ∃ d, dep F k = d + 1 := ⟨dep F k - 1, by omega⟩
      have q3 : (1 : Int32) ≤ nI (d + 1) := nI_le (a := 1) (by omega) (by omega)
      have q4 : d < 48 := by omega
      refine ⟨(nI (dep F (k + 1)), nI (f + (k + 1)), HP (up C1 (wa + 10) d (if evs F v k d = 0 then 1 else 0)) M K O), ?_, _, rfl, ?_, ?_⟩
      · simp only [dep, hr, hd']
        simp only [f_X2_result_l10, f_X2_result_b133, f_X2_result_b178, ↓b_rW hw, ↓b_rWa hw, ↓b_wWa hw, ↓b_rGa hg, g1, g2, hF7, ↓reduceIte, Option.bind_some, hcode, q3, q4, show ¬ ((10 : Int32) - 10 / 16 * 16) = 0 by decide, show ¬ ((10 : Int32) - 10 / 16 * 16) = 1 by decide, show ((10 : Int32) - 10 / 16 * 16) = 10 by decide, show ¬ (10 : Int32) = 0 by decide, show ¬ (10 : Int32) = 1 by decide, ← Nat.add_assoc, nI_1, nI_pred, hst d (by omega)]
        split <;> simp only [Option.bind_some]
      · simp only [dep, hr, evs, up_s, upd, hd', Nat.add_sub_cancel]
        intro i hi'
        split
        · rfl
        · exact hst i (by omega)
      · intro a ha
        rw [up_o ha, hC a ha]
    · rw [hr] at hik hcode
      simp only [ccode, wfi] at hik hcode
      obtain ⟨d, hd'⟩ : ∃ d, dep F k = d + 2 := ⟨dep F k - 2, by omega⟩
      have q3 : (2 : Int32) ≤ nI (d + 2) := nI_le (a := 2) (by omega) (by omega)
      have q4 : d < 48 := by omega
      have q5 : d + 1 < 48 := by omega
      obtain ⟨q6, q7, q8, q9, _⟩ := bin2_rem hik.1
      refine ⟨(nI (dep F (k + 1)), nI (f + (k + 1)), HP (up C1 (wa + 10) d (cmb o (evs F v k d) (evs F v k (d + 1)))) M K O), ?_, _, rfl, ?_, ?_⟩
      · simp only [dep, hr, hd']
        simp only [f_X2_result_l10, f_X2_result_b178, ↓b_rW hw, ↓b_rWa hw, ↓b_wWa hw, ↓b_rGa hg, g1, g2, hF7, ↓reduceIte, Option.bind_some, hcode, q3, q4, q5, q6, q7, q8, q9, ← Nat.add_assoc, nI_1, nI_m1, nI_pred, hst d (by omega), hst (d + 1) (by omega), ↓bnd (combine_c hik.1 _ _), show d + 2 - 1 = d + 1 from rfl]
      · simp only [dep, hr, evs, up_s, upd, hd', Nat.add_sub_cancel]
        intro i hi'
        split
        · rfl
        · exact hst i (by omega)
      · intro a ha
        rw [up_o ha, hC a ha]
  · rintro s ⟨C1, rfl, hst, hC⟩
    refine ⟨_, ?_, C1, rfl, hst 0 (by have := hd hn; omega), hC⟩
    simp only [f_X2_result_l10, yle (Nat.le_refl (f + n)) (by omega), if_true]
set_option maxHeartbeats 8000000 in
theorem valueNow_m {sz : Int32} {F : Nat → RI} {n sa : Nat} {v : Nat → Int32} (hsa : sa = 82 ∨ sa = 83) (hR : RUm (M sa) sz F n) (hF : WFr F n) (hn : 0 < n) (hv : ∀ i, i < 6 → M 93 i = v i) (hN : 1000 ≤ N) :
    ∃ M', f_X7_valueNow N (HP C M K O) 71 sa sz = some (evs F v n 0, HP C M' K O) ∧ ∀ a, a ≠ 94 → M' a = M a := by
  obtain ⟨rfl, hc⟩ := hR
  obtain ⟨h7, hd, hi⟩ := hF
  have hsr : ∀ (M : ST) j, j < 1400 → jal 0 (HP C M K O) sa (nI j) = some (M sa j) := by
    intro M j hj
    rcases hsa with rfl | rfl <;> simp only [raM, hj]
  have hsb : ∀ (M : ST) j, j < 1400 → ∀ (β : Type) (k : Int32 → Option β), Option.bind (jal 0 (HP C M K O) sa (nI j)) k = k (M sa j) := fun M j h => bnd (hsr M j h)
  have h2 := itr_inv (body := fun s : Int32 × Int32 × AH => f_X7_valueNow_l5 N 71 sa (nI n) s.1 s.2.1 s.2.2)
    (fun k s => ∃ M', s = (nI (dep F k), nI k, HP C M' K O) ∧ (∀ i, i < dep F k → M' 94 i = evs F v k i) ∧ ∀ a, a ≠ 94 → M' a = M a)
    (P := fun r => ∃ M', r = HP C M' K O ∧ M' 94 0 = evs F v n 0 ∧ ∀ a, a ≠ 94 → M' a = M a) (n := n) ?_ ?_ (s := (nI 0, nI 0, HP C M K O)) ⟨M, rfl, fun i hi => absurd hi (Nat.not_lt_zero i), fun _ _ => rfl⟩ (N := N) (by omega)
  · obtain ⟨r, h3, M', e, h5, h6⟩ := h2
    rw [e] at h3
    refine ⟨M', ?_, h6⟩
    unfold f_X7_valueNow f_X7_valueNow_b5
    simp only [show nI 0 = 0 from rfl] at h3
    simp only [h3, Option.bind_some, rdM, rlM, h5]
  · rintro k s hk ⟨M1, rfl, hst, hC⟩
    left
    have hcode : M1 sa k = mcode (F k) := by rw [hC _ (by omega)]; exact hc k hk
    have hval : M1 93 = M 93 := hC _ (by omega)
    have hk14 : k < 1400 := by omega
    have g1 := nle hk (by omega)
    have hik := hi k hk
    rcases hr : F k with c | c | ⟨⟨⟩⟩ | o
    · rw [hr] at hik hcode
      simp only [mcode, wfi] at hik hcode
      have q4 : dep F k < 64 := by omega
      have q1 : ¬ nI c ≤ -20 := by
        rw [Int32.le_iff_toInt_le, nI_toInt (by omega), show (-20 : Int32).toInt = -20 by decide]; omega
      have q2 : ¬ nI c < 0 := nI_pos (by omega)
      refine ⟨(nI (dep F (k + 1)), nI (k + 1), HP C (up M1 94 (dep F k) (nI c)) K O), ?_, _, rfl, ?_, ?_⟩
      · simp only [dep, hr]
        simp only [f_X7_valueNow_l5, f_X7_valueNow_b48, f_X7_valueNow_b119, ↓b_rdM, ↓b_raM, ↓b_waM, ↓hsb, g1, ↓reduceIte, hcode, q1, q2, q4, hk14, nI_1]
      · simp only [dep, hr, evs, up_s, upd]
        intro i hi'
        split
        · rfl
        · exact hst i (by omega)
      · intro a ha
        rw [up_o ha, hC a ha]
    · rw [hr] at hik hcode
      simp only [mcode, wfi] at hik hcode
      have q4 : dep F k < 64 := by omega
      have q5 : c < 6 := hik.1
      have q : ∀ c, c < 6 → ¬ (-1 - nI c ≤ -20) ∧ (-1 - nI c < 0) ∧ (-1 : Int32) - (-1 - nI c) = nI c := by decide
      obtain ⟨q1, q2, q3⟩ := q c q5
      refine ⟨(nI (dep F (k + 1)), nI (k + 1), HP C (up M1 94 (dep F k) (v c)) K O), ?_, _, rfl, ?_, ?_⟩
      · simp only [dep, hr]
        simp only [f_X7_valueNow_l5, f_X7_valueNow_b48, f_X7_valueNow_b119, ↓b_rdM, ↓b_raM, ↓b_waM, ↓hsb, g1, ↓reduceIte, hcode, q1, q2, q3, q4, q5, hk14, nI_1, hval, hv c q5]
      · simp only [dep, hr, evs, up_s, upd]
        intro i hi'
        split
        · rfl
        · exact hst i (by omega)
      · intro a ha
        rw [up_o ha, hC a ha]
    · rw [hr] at hik hcode
      simp only [mcode, wfi] at hik hcode
      obtain ⟨d, hd'⟩ : ∃ d, dep F k = d + 1 := ⟨dep F k - 1, by omega⟩
      have q4 : d < 64 := by omega
      refine ⟨(nI (dep F (k + 1)), nI (k + 1), HP C (up M1 94 d (if evs F v k d = 0 then 1 else 0)) K O), ?_, _, rfl, ?_, ?_⟩
      · simp only [dep, hr, hd']
        simp only [f_X7_valueNow_l5, f_X7_valueNow_b85, f_X7_valueNow_b119, ↓b_rdM, ↓b_raM, ↓b_waM, ↓hsb, g1, ↓reduceIte, hcode, q4, hk14, show (-28 : Int32) ≤ -20 by decide, nI_1, nI_pred, hst d (by omega)]
        split <;> simp only [Option.bind_some]
      · simp only [dep, hr, evs, up_s, upd, hd', Nat.add_sub_cancel]
        intro i hi'
        split
        · rfl
        · exact hst i (by omega)
      · intro a ha
        rw [up_o ha, hC a ha]
    · rw [hr] at hik hcode
      simp only [mcode, wfi] at hik hcode
      obtain ⟨d, hd'⟩ : ∃ d, dep F k = d + 2 := ⟨dep F k - 2, by omega⟩
      have q4 : d < 64 := by omega
      have q5 : d + 1 < 64 := by omega
      obtain ⟨_, _, _, _, q8, q9⟩ := bin2_rem hik.1
      refine ⟨(nI (dep F (k + 1)), nI (k + 1), HP C (up M1 94 d (cmb o (evs F v k d) (evs F v k (d + 1)))) K O), ?_, _, rfl, ?_, ?_⟩
      · simp only [dep, hr, hd']
        simp only [f_X7_valueNow_l5, f_X7_valueNow_b119, ↓b_rdM, ↓b_raM, ↓b_waM, ↓hsb, g1, ↓reduceIte, hcode, q4, q5, q8, q9, hk14, nI_1, nI_m1, nI_pred, hst d (by omega), hst (d + 1) (by omega), ↓bnd (reckon_m hik.1 _ _), show d + 2 - 1 = d + 1 from rfl]
      · simp only [dep, hr, evs, up_s, upd, hd', Nat.add_sub_cancel]
        intro i hi'
        split
        · rfl
        · exact hst i (by omega)
      · intro a ha
        rw [up_o ha, hC a ha]
  · rintro s ⟨M1, rfl, hst, hC⟩
    refine ⟨_, ?_, M1, rfl, hst 0 (by have := hd hn; omega), hC⟩
    simp only [f_X7_valueNow_l5, yle (Nat.le_refl n) (by omega), if_true]
end S33
