/-! what was seen, the reference -/
section S58
variable {C C0 B M M0 M1 W T D : ST} {K : KT} {O : Nat → Int64} {N : Nat} {G : GT} {b : Bool} {q : Nat} {sj st : Nat → Nat} {sv : Nat → Int32}
theorem SM_Fz (h : SM M q sj st sv) (hf : Fz M M1) : SM M1 q sj st sv := by
  unfold SM
  rw [hf.2 36 (by decide) (by decide) (by decide) (by decide) (by decide), hf.1 98 (by simp [scr]), hf.1 99 (by simp [scr]), hf.1 100 (by simp [scr])]
  exact h
theorem b2i_ne : ¬ b2i true = 0 := by decide
set_option maxHeartbeats 4000000 in
theorem inS_m (hS : SM M1 q sj st sv) (h8 : q ≤ 8) (hr : ∀ i, i < q → sj i < gJ G ∧ st i ≤ 20) (hW : RWm G b M1 T) (hG : okG G) {t : Nat} {v1 : Int32} (ht : t ≤ 100) (hN : 1000 ≤ N) : itr (fun s : Int32 × Int32 × AH => f_X7_isAsSeen_l54 N 71 v1 (nI t) s.1 s.2.1 s.2.2) N (1, 0, HP C M1 K O) = some (b2i (atS sj st sv T t q), HP C M1 K O) := by
  obtain ⟨hq, hs⟩ := hS
  have A := itr_seq (body := fun s : Int32 × Int32 × AH => f_X7_isAsSeen_l54 N 71 v1 (nI t) s.1 s.2.1 s.2.2) (fun k => (b2i (atS sj st sv T t k), nI k, HP C M1 K O)) (n := q) (r := (b2i (atS sj st sv T t q), HP C M1 K O)) ?_ ?_ (N := N) (by omega)
  · exact A
  · intro k hk
    obtain ⟨e1, e2, e3⟩ := hs k hk
    have k8 : k < 8 := by omega
    obtain ⟨r1, r2⟩ := hr k hk
    have j8 : sj k < 8 := by have := hG.2.2.1; omega
    have ef := (hW.2.2.1 (sj k) r1).2.1
    by_cases h1 : atS sj st sv T t k = true
    · by_cases z : st k = t
      · by_cases y : T 2 (sj k) = sv k
        · have en : atS sj st sv T t (k + 1) = true := by rw [atS, h1]; simp [z, y]
          simp only [f_X7_isAsSeen_l54, f_X7_isAsSeen_b100, f_X7_isAsSeen_b104, f_X7_isAsSeen_b105, ↓b_rdM, ↓b_raM, hq, nle hk (by omega), ↓reduceIte, h1, en, b2i_ne, k8, e1, e2, e3, z, j8, ef, y, nI_1]
          rfl
        · have en : atS sj st sv T t (k + 1) = false := by rw [atS, h1]; simp [z, y]
          simp only [f_X7_isAsSeen_l54, f_X7_isAsSeen_b100, f_X7_isAsSeen_b104, f_X7_isAsSeen_b105, ↓b_rdM, ↓b_raM, hq, nle hk (by omega), ↓reduceIte, h1, en, b2i_ne, k8, e1, e2, e3, z, j8, ef, y, nI_1]
          rfl
      · have z' : ¬ nI (st k) = nI t := by rw [eq_nI (by omega) (by omega)]; exact z
        have en : atS sj st sv T t (k + 1) = true := by rw [atS, h1]; simp [z]
        simp only [f_X7_isAsSeen_l54, f_X7_isAsSeen_b100, f_X7_isAsSeen_b104, f_X7_isAsSeen_b105, ↓b_rdM, ↓b_raM, hq, nle hk (by omega), ↓reduceIte, h1, en, b2i_ne, k8, e2, z', nI_1]
        rfl
    · have h1' : atS sj st sv T t k = false := by simpa using h1
      have en : atS sj st sv T t (k + 1) = false := by rw [atS, h1', Bool.false_and]
      simp only [f_X7_isAsSeen_l54, f_X7_isAsSeen_b100, f_X7_isAsSeen_b104, f_X7_isAsSeen_b105, ↓b_rdM, hq, nle hk (by omega), ↓reduceIte, h1', en, show b2i false = 0 from rfl, nI_1]
  · simp only [f_X7_isAsSeen_l54, ↓b_rdM, hq, yle (Nat.le_refl q) (by omega), ↓reduceIte]
set_option maxHeartbeats 4000000 in
theorem last_m (hS : SM M1 q sj st sv) (h8 : q ≤ 8) (hr : ∀ i, i < q → sj i < gJ G ∧ st i ≤ 20) (hN : 1000 ≤ N) : itr (fun s : Int32 × Int32 × AH => f_X7_isAsSeen_l13 N 71 s.1 s.2.1 s.2.2) N (0, 0, HP C M1 K O) = some (nI (lst st q), HP C M1 K O) := by
  obtain ⟨hq, hs⟩ := hS
  have hl := lst_le (fun i hi => (hr i hi).2)
  have A := itr_seq (body := fun s : Int32 × Int32 × AH => f_X7_isAsSeen_l13 N 71 s.1 s.2.1 s.2.2) (fun k => (nI (lst st k), nI k, HP C M1 K O)) (n := q) (r := (nI (lst st q), HP C M1 K O)) ?_ ?_ (N := N) (by omega)
  · exact A
  · intro k hk
    obtain ⟨_, e2, _⟩ := hs k hk
    have k8 : k < 8 := by omega
    have := hl k (by omega)
    have := (hr k hk).2
    simp only [f_X7_isAsSeen_l13, ↓b_rdM, ↓b_raM, hq, nle hk (by omega), ↓reduceIte, k8, e2, nI_1, jmx_n (show lst st k < 1000 by omega) (show st k < 1000 by omega), lst]
  · simp only [f_X7_isAsSeen_l13, ↓b_rdM, hq, yle (Nat.le_refl q) (by omega), ↓reduceIte]
theorem nb_b2i (x : Bool) : narrow .boolean (.int (b2i x)) = .int (b2i x) := by cases x <;> decide
set_option maxHeartbeats 4000000 in
/-- the reference's waters hold what was seen; all but its working cells stays -/
theorem asSeen_m (hm : MI M G W) (hS : SM M q sj st sv) (h8 : q ≤ 8) (hr : ∀ i, i < q → sj i < gJ G ∧ st i ≤ 20) (hN : 1000 ≤ N) : ∃ M', f_X7_isAsSeen N (HP C M K O) 71 = some (b2i (thr G q sj st sv (clr W) (lst st q + 1)), HP C M' K O) ∧ EQm M M' ∧ (∀ k, k ≠ 40 → M' 71 k = M 71 k) ∧ ∀ a, ¬ stC a → a ≠ 90 → a ≠ 101 → M' a = M a := by
  have hl : lst st q ≤ 20 := lst_le (fun i hi => (hr i hi).2) q (Nat.le_refl _)
  obtain ⟨M1, p1, p2, p3⟩ := TM_pack (C := C) (K := K) (O := O) (pa := 101) (.inr rfl) hm hN
  have A := itr_inv (body := fun s : Int32 × Int32 × AH => f_X7_isAsSeen_l42 N 71 (nI (lst st q)) s.1 s.2.1 s.2.2)
    (fun t s => ∃ M', s = (b2i (thr G q sj st sv (clr W) t), nI t, HP C M' K O) ∧ TM G false 101 M M' (passN G t (clr W)) ∧ FM M1 M')
    (P := fun r => ∃ M' X, r = (b2i (thr G q sj st sv (clr W) (lst st q + 1)), HP C M' K O) ∧ TM G false 101 M M' X ∧ FM M1 M') (n := lst st q + 1) ?_ ?_ (s := (1, 0, HP C M1 K O)) ⟨M1, rfl, p2, FM_refl⟩ (N := N) (by omega)
  · obtain ⟨r, a1, M2, X, e, T2, f2⟩ := A
    rw [e] at a1
    obtain ⟨M3, u1, u2, u3, u4, u5⟩ := TM_back (C := C) (K := K) (O := O) (pa := 101) (.inr rfl) ⟨T2.1, T2.2.1⟩ hN
    refine ⟨M3, ?_, u2, fun k hk => ?_, fun a x y z => ?_⟩
    · simp only [f_X7_isAsSeen, f_X7_isAsSeen_b13, f_X7_isAsSeen_b42, f_X7_isAsSeen_b123, ↓b_rdM, ↓bnd p1, last_m (SM_Fz hS p2.1) h8 hr hN, a1, Option.bind_some, ↓bnd u1, nb_b2i, ↓reduceIte]
    · by_cases k34 : k = 34
      · subst k34; exact u2.2.1
      · rw [u4 k k34, f2.2 k k34 hk, p3 71 (by decide)]
    · rw [u5 a (by rintro rfl; exact x (by simp [stC])) (by rintro rfl; exact x (by simp [stC])) (by rintro rfl; exact x (by simp [stC])) (by rintro rfl; exact x (by simp [stC])) y (by rintro rfl; exact x (by simp [stC])), f2.1 a x, p3 a z]
  · rintro t s ht ⟨M2, rfl, T2, f2⟩
    have n1 : ¬ nI (lst st q) < nI t := nI_nlt (by omega) (by omega)
    by_cases z : thr G q sj st sv (clr W) t = true
    · left
      have inn := inS_m (N := N) (C := C) (K := K) (O := O) (G := G) (t := t) (v1 := nI (lst st q)) (SM_Fz hS T2.1) h8 hr T2.2.2.1 hm.1 (by omega) hN
      obtain ⟨M3, g1, g2, g3, g4⟩ := TM_goOn (C := C) (K := K) (O := O) (pa := 101) (n := 1) (.inr rfl) hm T2 (by decide) hN
      rw [show nI 1 = 1 from rfl] at g1
      refine ⟨(b2i (thr G q sj st sv (clr W) (t + 1)), nI (t + 1), HP C M3 K O), ?_, M3, rfl, g2, FM_trans f2 g4⟩
      have et : thr G q sj st sv (clr W) (t + 1) = atS sj st sv (passN G t (clr W)) t q := by rw [thr, z, Bool.true_and]
      simp only [f_X7_isAsSeen_l42, f_X7_isAsSeen_b54, n1, ↓reduceIte, z, et, b2i_ne, show b2i true = 1 from rfl, show ¬ (1 : Int32) = 0 by decide, inn, Option.bind_some, ↓b_rdM, ↓bnd g1, nI_1]
    · right
      have z' : thr G q sj st sv (clr W) t = false := by simpa using z
      have := thr_f z' (lst st q + 1 - t)
      rw [show t + (lst st q + 1 - t) = lst st q + 1 by omega] at this
      refine ⟨(b2i (thr G q sj st sv (clr W) (lst st q + 1)), HP C M2 K O), ?_, M2, _, rfl, T2, f2⟩
      rw [this]
      simp only [f_X7_isAsSeen_l42, n1, ↓reduceIte, z', show b2i false = 0 from rfl]
  · rintro s ⟨M2, rfl, T2, f2⟩
    refine ⟨(b2i (thr G q sj st sv (clr W) (lst st q + 1)), HP C M2 K O), ?_, M2, _, rfl, T2, f2⟩
    simp only [f_X7_isAsSeen_l42, lte (show lst st q ≤ 1000 by omega), ↓reduceIte]
end S58
