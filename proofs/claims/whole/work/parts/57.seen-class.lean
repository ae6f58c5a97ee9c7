/-! what was seen -/
def b2i (b : Bool) : Int32 := if b = true then 1 else 0
def lst (st : Nat → Nat) : Nat → Nat
  | 0 => 0
  | k + 1 => if lst st k < st k then st k else lst st k
def atS (sj st : Nat → Nat) (sv : Nat → Int32) (T : ST) (t : Nat) : Nat → Bool
  | 0 => true
  | i + 1 => atS sj st sv T t i && (decide (¬ st i = t) || decide (T 2 (sj i) = sv i))
def thr (G : GT) (q : Nat) (sj st : Nat → Nat) (sv : Nat → Int32) (D : ST) : Nat → Bool
  | 0 => true
  | t + 1 => thr G q sj st sv D t && atS sj st sv (passN G t D) t q
def SC (G : GT) (C : ST) (q : Nat) (sj st : Nat → Nat) (sv : Nat → Int32) : Prop := q ≤ 8 ∧ C 20 3 = nI q ∧ ∀ i, i < q → C 33 i = nI (sj i) ∧ C 34 i = nI (st i) ∧ C 35 i = sv i ∧ sj i < gJ G ∧ st i ≤ 20
def SM (M : ST) (q : Nat) (sj st : Nat → Nat) (sv : Nat → Int32) : Prop := M 71 36 = nI q ∧ ∀ i, i < q → M 98 i = nI (sj i) ∧ M 99 i = nI (st i) ∧ M 100 i = sv i
section S57
variable {C C0 B M M1 W T D : ST} {K : KT} {O : Nat → Int64} {N : Nat} {G : GT} {b : Bool} {q : Nat} {sj st : Nat → Nat} {sv : Nat → Int32}
theorem lst_le (h : ∀ i, i < q → st i ≤ 20) : ∀ k, k ≤ q → lst st k ≤ 20
  | 0 => fun _ => Nat.zero_le _
  | k + 1 => fun hk => by
    have := lst_le h k (by omega)
    have := h k (by omega)
    unfold lst
    split <;> omega
theorem jmx_n {a b : Nat} (ha : a < 1000) (hb : b < 1000) : jmx (nI a) (nI b) = nI (if a < b then b else a) := by
  unfold jmx
  by_cases h : a < b
  · rw [if_pos (nI_lt h (by omega)), if_pos h]
  · rw [if_neg (nI_nlt (by omega) (by omega)), if_neg h]
theorem atS_f {t k : Nat} (h : atS sj st sv T t k = false) : ∀ m, atS sj st sv T t (k + m) = false
  | 0 => h
  | m + 1 => by rw [← Nat.add_assoc, atS, atS_f h m, Bool.false_and]
theorem thr_f {t : Nat} (h : thr G q sj st sv D t = false) : ∀ m, thr G q sj st sv D (t + m) = false
  | 0 => h
  | m + 1 => by rw [← Nat.add_assoc, thr, thr_f h m, Bool.false_and]
theorem SC_of (h : SC G C0 q sj st sv) (hf : ∀ a, a < 54 → C a = C0 a) : SC G C q sj st sv := by
  unfold SC
  rw [hf 20 (by omega), hf 33 (by omega), hf 34 (by omega), hf 35 (by omega)]
  exact h
set_option maxHeartbeats 4000000 in
theorem inS_c (hS : SC G C q sj st sv) (hW : RW G 54 C T) (hG : okG G) {t : Nat} {v1 : Int32} (ht : t ≤ 100) (hN : 1000 ≤ N) : itr (fun s : Int32 × AH => f_X6_sightingsHold_l33 N 0 v1 (nI t) s.1 s.2) N (0, HP C M K O) = some (if atS sj st sv T t q = true then Sum.inr (HP C M K O) else Sum.inl (HP C M K O)) := by
  obtain ⟨h8, hq, hs⟩ := hS
  have A := itr_inv (body := fun s : Int32 × AH => f_X6_sightingsHold_l33 N 0 v1 (nI t) s.1 s.2)
    (fun k s => s = (nI k, HP C M K O) ∧ atS sj st sv T t k = true)
    (P := fun r => r = (if atS sj st sv T t q = true then Sum.inr (HP C M K O) else Sum.inl (HP C M K O))) (n := q) ?_ ?_ (s := (0, HP C M K O)) ⟨rfl, rfl⟩ (N := N) (by omega)
  · obtain ⟨r, a1, a2⟩ := A
    rw [a1, a2]
  · rintro k s hk ⟨rfl, h1⟩
    obtain ⟨e1, e2, e3, e4, e5⟩ := hs k hk
    have k8 : k < 8 := by omega
    have j8 : sj k < 8 := by have := hG.2.2.1; omega
    have ef := hW.2.1 2 (sj k) (by omega) (by omega) e4
    by_cases z : st k = t
    · by_cases y : T 2 (sj k) = sv k
      · left
        refine ⟨(nI (k + 1), HP C M K O), ?_, rfl, ?_⟩
        · simp only [f_X6_sightingsHold_l33, f_X6_sightingsHold_b88, ↓b_rdC, ↓b_raC, hq, nle hk (by omega), ↓reduceIte, k8, e2, z, ↓b_rW w54, e1, ↓b_rWa w54, j8, ef, e3, y, nI_1]
        · rw [atS, h1, y]; simp
      · right
        refine ⟨_, ?_, rfl⟩
        have ef2 : atS sj st sv T t (k + 1) = false := by rw [atS, h1]; simp [z, y]
        have := atS_f ef2 (q - (k + 1))
        rw [show k + 1 + (q - (k + 1)) = q by omega] at this
        rw [this]
        simp only [f_X6_sightingsHold_l33, f_X6_sightingsHold_b88, ↓b_rdC, ↓b_raC, hq, nle hk (by omega), ↓reduceIte, k8, e2, z, ↓b_rW w54, e1, ↓b_rWa w54, j8, ef, e3, y, Bool.false_eq_true]
    · left
      have z' : ¬ nI (st k) = nI t := by rw [eq_nI (by omega) (by omega)]; exact z
      refine ⟨(nI (k + 1), HP C M K O), ?_, rfl, ?_⟩
      · simp only [f_X6_sightingsHold_l33, f_X6_sightingsHold_b88, ↓b_rdC, ↓b_raC, hq, nle hk (by omega), ↓reduceIte, k8, e2, z', nI_1]
      · rw [atS, h1]; simp [z]
  · rintro s ⟨rfl, h1⟩
    refine ⟨_, ?_, rfl⟩
    simp only [f_X6_sightingsHold_l33, ↓b_rdC, hq, yle (Nat.le_refl q) (by omega), ↓reduceIte, h1]
set_option maxHeartbeats 4000000 in
theorem last_c (hS : SC G C q sj st sv) (hN : 1000 ≤ N) : f_X0_lastSightingStep N (HP C M K O) 20 = some (nI (lst st q), HP C M K O) := by
  obtain ⟨h8, hq, hs⟩ := hS
  have hl := lst_le (fun i hi => (hs i hi).2.2.2.2)
  have A := itr_seq (body := fun s : Int32 × Int32 × AH => f_X0_lastSightingStep_l4 N 20 s.1 s.2.1 s.2.2) (fun k => (nI (lst st k), nI k, HP C M K O)) (n := q) (r := (nI (lst st q), HP C M K O)) ?_ ?_ (N := N) (by omega)
  · simp only [show nI 0 = 0 from rfl, lst] at A
    simp only [f_X0_lastSightingStep, f_X0_lastSightingStep_b4, A, Option.bind_some]
  · intro k hk
    obtain ⟨_, e2, _, _, e5⟩ := hs k hk
    have k8 : k < 8 := by omega
    have := hl k (by omega)
    simp only [f_X0_lastSightingStep_l4, ↓b_rdC, ↓b_raC, hq, nle hk (by omega), ↓reduceIte, k8, e2, nI_1, jmx_n (show lst st k < 1000 by omega) (show st k < 1000 by omega), lst]
  · simp only [f_X0_lastSightingStep_l4, ↓b_rdC, hq, yle (Nat.le_refl q) (by omega), ↓reduceIte]
set_option maxHeartbeats 4000000 in
theorem holds_c (hc : CI K C0 G W) (hS : SC G C0 q sj st sv) (hT : TX G C0 B C D) (hN : 1000 ≤ N) : ∃ C', f_X6_sightingsHold N (HP C M K O) 0 = some (b2i (thr G q sj st sv D (lst st q + 1)), HP C' M K O) ∧ (∀ a, a < 54 → C' a = C0 a) ∧ ∀ a, 64 < a → C' a = B a := by
  have hS1 := SC_of hS hT.1.1
  have hl : lst st q ≤ 20 := lst_le (fun i hi => (hS.2.2 i hi).2.2.2.2) q (Nat.le_refl _)
  have A := itr_inv (body := fun s : Int32 × AH => f_X6_sightingsHold_l10 N 0 (nI (lst st q)) s.1 s.2)
    (fun t s => ∃ C', s = (nI t, HP C' M K O) ∧ TX G C0 B C' (passN G (t - 1) D) ∧ thr G q sj st sv D t = true)
    (P := fun r => ∃ C', r = (if thr G q sj st sv D (lst st q + 1) = true then Sum.inr (HP C' M K O) else Sum.inl (HP C' M K O)) ∧ (∀ a, a < 54 → C' a = C0 a) ∧ ∀ a, 64 < a → C' a = B a) (n := lst st q + 1) ?_ ?_ (s := (0, HP C M K O)) ⟨C, rfl, hT, rfl⟩ (N := N) (by omega)
  · obtain ⟨r, a1, C', e, a2, a3⟩ := A
    rw [e] at a1
    refine ⟨C', ?_, a2, a3⟩
    simp only [f_X6_sightingsHold, f_X6_sightingsHold_b10, ↓b_rdC, ↓bnd (last_c hS1 hN), a1, Option.bind_some]
    unfold b2i
    by_cases z : thr G q sj st sv D (lst st q + 1) = true
    · rw [if_pos z, if_pos z, Sum.elim_inr]
    · rw [if_neg z, if_neg z, Sum.elim_inl]
  · rintro t s ht ⟨C1, rfl, h1, h2⟩
    have n1 : ¬ nI (lst st q) < nI t := nI_nlt (by omega) (by omega)
    have step : ∃ C2, f_X6_sightingsHold_l10 N 0 (nI (lst st q)) (nI t) (HP C1 M K O) = f_X6_sightingsHold_b33 N 0 (nI (lst st q)) (nI t) 0 (HP C2 M K O) ∧ TX G C0 B C2 (passN G t D) := by
      by_cases t0 : t = 0
      · subst t0
        refine ⟨C1, ?_, h1⟩
        simp only [f_X6_sightingsHold_l10, f_X6_sightingsHold_b31, n1, ↓reduceIte, show nI 0 ≤ 0 by decide]
      · obtain ⟨C2, p1, p2⟩ := TX_pass (M := M) (O := O) hc h1 0 hN
        refine ⟨C2, ?_, ?_⟩
        · have n2 : ¬ nI t ≤ 0 := nI_ge (a := 0) (by omega) (by omega)
          simp only [f_X6_sightingsHold_l10, f_X6_sightingsHold_b31, n1, n2, ↓reduceIte, ↓b_rdC, ↓bnd p1]
        · have e : passN G t D = passV G 0 (passN G (t - 1) D) := by
            conv => lhs; rw [show t = t - 1 + 1 by omega]
            rfl
          rw [e]; exact p2
    obtain ⟨C2, e1, T2⟩ := step
    have inn := inS_c (N := N) (M := M) (K := K) (O := O) (t := t) (v1 := nI (lst st q)) (SC_of hS T2.1.1) T2.1.2.1 hc.2.1 (by omega) hN
    by_cases z : atS sj st sv (passN G t D) t q = true
    · left
      refine ⟨(nI (t + 1), HP C2 M K O), ?_, C2, rfl, T2, ?_⟩
      · rw [if_pos z] at inn
        simp only [e1, f_X6_sightingsHold_b33, inn, Option.bind_some, Sum.elim_inr, nI_1]
      · rw [thr, h2, z]; rfl
    · right
      have ef : thr G q sj st sv D (t + 1) = false := by rw [thr, h2]; simpa using z
      have := thr_f ef (lst st q - t)
      rw [show t + 1 + (lst st q - t) = lst st q + 1 by omega] at this
      refine ⟨Sum.inl (HP C2 M K O), ?_, C2, by rw [this]; rfl, T2.1.1, T2.2⟩
      rw [if_neg z] at inn
      simp only [e1, f_X6_sightingsHold_b33, inn, Option.bind_some, Sum.elim_inl]
  · rintro s ⟨C1, rfl, h1, h2⟩
    refine ⟨Sum.inr (HP C1 M K O), ?_, C1, by rw [if_pos h2], h1.1.1, h1.2⟩
    simp only [f_X6_sightingsHold_l10, lte (show lst st q ≤ 1000 by omega), ↓reduceIte]
end S57
