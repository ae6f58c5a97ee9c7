/-! queries with steps: when, beside, agree, still, stay -/
def fi (G : GT) (p : ST → Bool) (T : ST) : Nat → Int32
  | 0 => -1
  | k + 1 => if fi G p T k = -1 then (if p (passN G k T) = true then nI k else -1) else fi G p T k
theorem fi_stay {G : GT} {p : ST → Bool} {T : ST} {k : Nat} (h : ¬ fi G p T k = -1) : ∀ m, fi G p T (k + m) = fi G p T k
  | 0 => rfl
  | m + 1 => by
    have := fi_stay h m
    rw [← Nat.add_assoc, fi, this, if_neg h]
theorem fi_end {G : GT} {p : ST → Bool} {T : ST} {k n : Nat} (h : ¬ fi G p T k = -1) (hk : k ≤ n) : fi G p T n = fi G p T k := by
  have := fi_stay h (n - k)
  rwa [show k + (n - k) = n by omega] at this
theorem fi_hit {G : GT} {p : ST → Bool} {T : ST} {k n : Nat} (h : fi G p T k = -1) (hp : p (passN G k T) = true) (hk : k < n) (h6 : n ≤ 100) : fi G p T n = nI k := by
  have e : fi G p T (k + 1) = nI k := by rw [fi, if_pos h, if_pos hp]
  rw [fi_end (k := k + 1) (by rw [e]; exact (neg_cases (by omega)).1) (by omega), e]
section S44
variable {C C0 M M1 W T : ST} {K : KT} {O : Nat → Int64} {N : Nat} {G : GT} {b : Bool}
theorem tryFor0 (h : CI K C0 G W) (hf : ∀ a, a < 54 → C a = C0 a) (hN : 1000 ≤ N) : ∃ C', f_X6_tryFromNow N (HP C M K O) 0 = some (HP C' M K O) ∧ TC G C0 C' (clr W) := now_c h hf hN
theorem gt60 {k : Nat} (h : k < 61) : ¬ (60 : Int32) < nI k := nI_nlt (b := k) (a := 60) (by omega) (by omega)
theorem ge60 {k : Nat} (h : k < 60) : ¬ (60 : Int32) ≤ nI k := nI_ge (b := 60) h (by omega)
set_option maxHeartbeats 4000000 in
theorem tillFair_c (hc : CI K C0 G W) (hT : TC G C0 C T) {j : Nat} (hj : j < gJ G) (hN : 1000 ≤ N) : ∃ C', f_X6_stepsTillFair N (HP C M K O) 0 (nI j) = some (fi G (fun X => decide (X 3 j = allS G)) T 61, HP C' M K O) ∧ ∀ a, a < 54 → C' a = C0 a := by
  have j8 : j < 8 := by have := hc.2.1.2.2.1; omega
  have q := itr_inv (body := fun s : Int32 × AH => f_X6_stepsTillFair_l2 N 0 (nI j) s.1 s.2)
    (fun k s => ∃ C', s = (nI k, HP C' M K O) ∧ TC G C0 C' (passN G k T) ∧ fi G (fun X => decide (X 3 j = allS G)) T k = -1)
    (P := fun r => ∃ C', r = (if fi G (fun X => decide (X 3 j = allS G)) T 61 = -1 then Sum.inr (HP C' M K O) else Sum.inl (fi G (fun X => decide (X 3 j = allS G)) T 61, HP C' M K O)) ∧ ∀ a, a < 54 → C' a = C0 a) (n := 61) ?_ ?_ (s := (0, HP C M K O)) ⟨C, rfl, hT, rfl⟩ (N := N) (by omega)
  · obtain ⟨r, q1, C', e, q2⟩ := q
    rw [e] at q1
    refine ⟨C', ?_, q2⟩
    simp only [f_X6_stepsTillFair, f_X6_stepsTillFair_b2, q1, Option.bind_some]
    by_cases z : fi G (fun X => decide (X 3 j = allS G)) T 61 = -1
    · rw [if_pos z, Sum.elim_inr, z]
    · rw [if_neg z, Sum.elim_inl]
  · rintro k s hk ⟨C1, rfl, h1, h2⟩
    have hc1 := CI_of hc h1.1
    skip
    by_cases z : passN G k T 3 j = allS G
    · right
      refine ⟨_, ?_, C1, rfl, h1.1⟩
      have ez := fi_hit (n := 61) h2 (by simp only [z, decide_true]) hk (by decide)
      simp only [f_X6_stepsTillFair_l2, gt60 hk, ↓reduceIte, ↓b_rdC, ↓b_rW w54, ↓bnd (isFair_c (N := N) (M := M) (K := K) (O := O) hc1.1 w54 hc1.2.1 hc1.2.2.1 h1.2.1 hj), z, show ¬ (1 : Int32) = 0 by decide, ez, (neg_cases (show k < 10000 by omega)).1]
    · left
      obtain ⟨C2, t1, t2⟩ := TC_pass (M := M) (O := O) hc h1 0 hN
      refine ⟨(nI (k + 1), HP C2 M K O), ?_, C2, rfl, t2, ?_⟩
      · simp only [f_X6_stepsTillFair_l2, gt60 hk, ↓reduceIte, ↓b_rdC, ↓b_rW w54, ↓bnd (isFair_c (N := N) (M := M) (K := K) (O := O) hc1.1 w54 hc1.2.1 hc1.2.2.1 h1.2.1 hj), z, ↓bnd t1, nI_1]
      · rw [fi, if_pos h2, if_neg (by simp only [z, decide_false]; decide)]
  · rintro s ⟨C1, rfl, h1, h2⟩
    refine ⟨_, ?_, C1, rfl, h1.1⟩
    simp only [f_X6_stepsTillFair_l2, show (60 : Int32) < nI 61 by decide, ↓reduceIte, h2]
set_option maxHeartbeats 4000000 in
theorem firstInFair_m (hm : MI M G W) (hT : TQ G b M M1 T) {j : Nat} (hj : j < gJ G) (hN : 1000 ≤ N) : ∃ M', f_X7_firstIn N (HP C M1 K O) 71 (nI j) 0 = some (fi G (fun X => decide (X 3 j = allS G)) T 61, HP C M' K O) ∧ RQ M M' := by
  have j8 : j < 8 := by have := hm.1.2.2.1; omega
  have q := itr_inv (body := fun s : Int32 × Int32 × AH => f_X7_firstIn_l5 N 71 (nI j) 0 s.1 s.2.1 s.2.2)
    (fun k s => ∃ M', s = (fi G (fun X => decide (X 3 j = allS G)) T k, nI k, HP C M' K O) ∧ TQ G b M M' (passN G k T))
    (P := fun r => ∃ M' X, r = (fi G (fun X => decide (X 3 j = allS G)) T 61, HP C M' K O) ∧ TQ G b M M' X) (n := 61) ?_ ?_ (s := (-1, 0, HP C M1 K O)) ⟨M1, rfl, hT⟩ (N := N) (by omega)
  · obtain ⟨r, q1, M2, X, e, q2⟩ := q
    rw [e] at q1
    obtain ⟨M3, u1, u2, _, _⟩ := TQ_back (C := C) (K := K) (O := O) q2 hN
    refine ⟨M3, ?_, u2⟩
    simp only [f_X7_firstIn, f_X7_firstIn_b5, f_X7_firstIn_b57, q1, Option.bind_some, ↓b_rdM, ↓bnd u1]
  · rintro k s hk ⟨M2, rfl, h1⟩
    by_cases f0 : fi G (fun X => decide (X 3 j = allS G)) T k = -1
    · left
      skip
      obtain ⟨M3, t1, t2⟩ := TQ_one (C := C) (K := K) (O := O) hm h1 hN
      refine ⟨(fi G (fun X => decide (X 3 j = allS G)) T (k + 1), nI (k + 1), HP C M3 K O), ?_, M3, rfl, t2⟩
      by_cases z : passN G k T 3 j = allS G
      · simp only [f_X7_firstIn_l5, f_X7_firstIn_b43, f_X7_firstIn_b46, gt60 hk, ↓reduceIte, f0, ↓b_rdM, ↓bnd (isFair_m (N := N) (C := C) (K := K) (O := O) hm.1 (TQ_g hm h1) (TQ_w h1) hj), z, show ¬ (1 : Int32) = 0 by decide, ↓bnd t1, nI_1, fi, decide_true]
      · simp only [f_X7_firstIn_l5, f_X7_firstIn_b43, f_X7_firstIn_b46, gt60 hk, ↓reduceIte, f0, ↓b_rdM, ↓bnd (isFair_m (N := N) (C := C) (K := K) (O := O) hm.1 (TQ_g hm h1) (TQ_w h1) hj), z, show ¬ (1 : Int32) = 0 by decide, ↓bnd t1, nI_1, fi, decide_false, Bool.false_eq_true]
    · right
      refine ⟨_, ?_, M2, _, rfl, h1⟩
      simp only [f_X7_firstIn_l5, gt60 hk, ↓reduceIte, f0, fi_end f0 (show k ≤ 61 by omega)]
  · rintro s ⟨M2, rfl, h1⟩
    refine ⟨_, ?_, M2, _, rfl, h1⟩
    simp only [f_X7_firstIn_l5, show (60 : Int32) < nI 61 by decide, ↓reduceIte]
set_option maxHeartbeats 4000000 in
theorem tillLanded_c (hc : CI K C0 G W) (hT : TC G C0 C T) {j : Nat} (hj : j < gJ G) (hN : 1000 ≤ N) : ∃ C', f_X6_stepsTillLanded N (HP C M K O) 0 (nI j) = some (fi G (fun X => decide (X 1 j = -2)) T 61, HP C' M K O) ∧ ∀ a, a < 54 → C' a = C0 a := by
  have j8 : j < 8 := by have := hc.2.1.2.2.1; omega
  have q := itr_inv (body := fun s : Int32 × AH => f_X6_stepsTillLanded_l2 N 0 (nI j) s.1 s.2)
    (fun k s => ∃ C', s = (nI k, HP C' M K O) ∧ TC G C0 C' (passN G k T) ∧ fi G (fun X => decide (X 1 j = -2)) T k = -1)
    (P := fun r => ∃ C', r = (if fi G (fun X => decide (X 1 j = -2)) T 61 = -1 then Sum.inr (HP C' M K O) else Sum.inl (fi G (fun X => decide (X 1 j = -2)) T 61, HP C' M K O)) ∧ ∀ a, a < 54 → C' a = C0 a) (n := 61) ?_ ?_ (s := (0, HP C M K O)) ⟨C, rfl, hT, rfl⟩ (N := N) (by omega)
  · obtain ⟨r, q1, C', e, q2⟩ := q
    rw [e] at q1
    refine ⟨C', ?_, q2⟩
    simp only [f_X6_stepsTillLanded, f_X6_stepsTillLanded_b2, q1, Option.bind_some]
    by_cases z : fi G (fun X => decide (X 1 j = -2)) T 61 = -1
    · rw [if_pos z, Sum.elim_inr, z]
    · rw [if_neg z, Sum.elim_inl]
  · rintro k s hk ⟨C1, rfl, h1, h2⟩
    have hc1 := CI_of hc h1.1
    have e1 := h1.2.1.2.1 1 j (by omega) (by omega) hj
    by_cases z : passN G k T 1 j = -2
    · right
      refine ⟨_, ?_, C1, rfl, h1.1⟩
      have ez := fi_hit (n := 61) h2 (by simp only [z, decide_true]) hk (by decide)
      simp only [f_X6_stepsTillLanded_l2, gt60 hk, ↓reduceIte, ↓b_rdC, ↓b_rW w54, ↓b_rWa w54, j8, e1, z, show ¬ (1 : Int32) = 0 by decide, ez, (neg_cases (show k < 10000 by omega)).1]
    · left
      obtain ⟨C2, t1, t2⟩ := TC_pass (M := M) (O := O) hc h1 0 hN
      refine ⟨(nI (k + 1), HP C2 M K O), ?_, C2, rfl, t2, ?_⟩
      · simp only [f_X6_stepsTillLanded_l2, gt60 hk, ↓reduceIte, ↓b_rdC, ↓b_rW w54, ↓b_rWa w54, j8, e1, z, ↓bnd t1, nI_1]
      · rw [fi, if_pos h2, if_neg (by simp only [z, decide_false]; decide)]
  · rintro s ⟨C1, rfl, h1, h2⟩
    refine ⟨_, ?_, C1, rfl, h1.1⟩
    simp only [f_X6_stepsTillLanded_l2, show (60 : Int32) < nI 61 by decide, ↓reduceIte, h2]
set_option maxHeartbeats 4000000 in
theorem firstInLanded_m (hm : MI M G W) (hT : TQ G b M M1 T) {j : Nat} (hj : j < gJ G) (hN : 1000 ≤ N) : ∃ M', f_X7_firstIn N (HP C M1 K O) 71 (nI j) 1 = some (fi G (fun X => decide (X 1 j = -2)) T 61, HP C M' K O) ∧ RQ M M' := by
  have j8 : j < 8 := by have := hm.1.2.2.1; omega
  have q := itr_inv (body := fun s : Int32 × Int32 × AH => f_X7_firstIn_l5 N 71 (nI j) 1 s.1 s.2.1 s.2.2)
    (fun k s => ∃ M', s = (fi G (fun X => decide (X 1 j = -2)) T k, nI k, HP C M' K O) ∧ TQ G b M M' (passN G k T))
    (P := fun r => ∃ M' X, r = (fi G (fun X => decide (X 1 j = -2)) T 61, HP C M' K O) ∧ TQ G b M M' X) (n := 61) ?_ ?_ (s := (-1, 0, HP C M1 K O)) ⟨M1, rfl, hT⟩ (N := N) (by omega)
  · obtain ⟨r, q1, M2, X, e, q2⟩ := q
    rw [e] at q1
    obtain ⟨M3, u1, u2, _, _⟩ := TQ_back (C := C) (K := K) (O := O) q2 hN
    refine ⟨M3, ?_, u2⟩
    simp only [f_X7_firstIn, f_X7_firstIn_b5, f_X7_firstIn_b57, q1, Option.bind_some, ↓b_rdM, ↓bnd u1]
  · rintro k s hk ⟨M2, rfl, h1⟩
    by_cases f0 : fi G (fun X => decide (X 1 j = -2)) T k = -1
    · left
      have e1 := ((TQ_w h1).2.2.1 j hj).1
      obtain ⟨M3, t1, t2⟩ := TQ_one (C := C) (K := K) (O := O) hm h1 hN
      refine ⟨(fi G (fun X => decide (X 1 j = -2)) T (k + 1), nI (k + 1), HP C M3 K O), ?_, M3, rfl, t2⟩
      by_cases z : passN G k T 1 j = -2
      · simp only [f_X7_firstIn_l5, f_X7_firstIn_b43, f_X7_firstIn_b46, gt60 hk, ↓reduceIte, f0, ↓b_rdM, ↓b_raM, j8, e1, show ¬ (1 : Int32) = 0 by decide, z, show ¬ (1 : Int32) = 0 by decide, ↓bnd t1, nI_1, fi, decide_true]
      · simp only [f_X7_firstIn_l5, f_X7_firstIn_b43, f_X7_firstIn_b46, gt60 hk, ↓reduceIte, f0, ↓b_rdM, ↓b_raM, j8, e1, show ¬ (1 : Int32) = 0 by decide, z, show ¬ (1 : Int32) = 0 by decide, ↓bnd t1, nI_1, fi, decide_false, Bool.false_eq_true]
    · right
      refine ⟨_, ?_, M2, _, rfl, h1⟩
      simp only [f_X7_firstIn_l5, gt60 hk, ↓reduceIte, f0, fi_end f0 (show k ≤ 61 by omega)]
  · rintro s ⟨M2, rfl, h1⟩
    refine ⟨_, ?_, M2, _, rfl, h1⟩
    simp only [f_X7_firstIn_l5, show (60 : Int32) < nI 61 by decide, ↓reduceIte]
set_option maxHeartbeats 4000000 in
theorem g_when {a c : Int32} (hc : CI K C G W) (hm : MI M G W) (hN : 1000 ≤ N) (hj : inR a (gJ G)) (hw : btw c 0 1) : ∃ r, QC K C M O (f_X6_when N (HP C M K O) 0 a c) r ∧ ∀ C' O', QM C' M K O' (f_X7_when N (HP C' M K O') 71 a c) r := by
  have m0 := m0_of hm
  have hj' := hj
  obtain ⟨j, hj1, rfl⟩ := hj'
  obtain ⟨C1, t1, T1⟩ := tryFor0 (M := M) (O := O) hc (fun _ _ => rfl) hN
  obtain ⟨w, _, hw1, rfl⟩ := hw
  rcases (show w = 0 ∨ w = 1 by omega) with rfl | rfl
  · obtain ⟨C2, s1, s2⟩ := tillFair_c (M := M) (O := O) hc T1 hj1 hN
    refine ⟨.inr (fi G (fun X => decide (X 3 j = allS G)) (clr W) 61), ⟨C2, ?_, s2⟩, fun C' O' => ?_⟩
    · simp only [f_X6_when, ↓b_rdC, ↓Sum.elim_inr, ↓bnd (needJ_y hc hj), ↓bnd (nW1_y (show btw (nI 0) 0 1 from ⟨0, by decide, by decide, rfl⟩)), ↓bnd t1, ↓bnd s1, show nI 0 = 0 from rfl, ↓reduceIte]
    · obtain ⟨M1, p1, p2⟩ := TQ_pack (C := C') (K := K) (O := O') hm hN
      obtain ⟨M2, u1, u2⟩ := firstInFair_m (C := C') (K := K) (O := O') hm p2 hj1 hN
      refine ⟨_, M2, ?_, u2.1, u2.2.2, rfl⟩
      simp only [f_X7_when, ↓b_wrM, ↓b_rdM, ↓reduceIte, show ¬ (1 : Int32) = 0 by decide, ↓bnd (isJ_y m0.2.1 hm.1 hj), ↓bnd (bW1_y (show btw (nI 0) 0 1 from ⟨0, by decide, by decide, rfl⟩)), ↓bnd p1, ↓bnd u1, show ¬ nI 0 = 1 by decide]
  · obtain ⟨C2, s1, s2⟩ := tillLanded_c (M := M) (O := O) hc T1 hj1 hN
    refine ⟨.inr (fi G (fun X => decide (X 1 j = -2)) (clr W) 61), ⟨C2, ?_, s2⟩, fun C' O' => ?_⟩
    · simp only [f_X6_when, ↓b_rdC, ↓Sum.elim_inr, ↓bnd (needJ_y hc hj), ↓bnd (nW1_y (show btw (nI 1) 0 1 from ⟨1, by decide, by decide, rfl⟩)), ↓bnd t1, ↓bnd s1, show ¬ nI 1 = 0 by decide, ↓reduceIte]
    · obtain ⟨M1, p1, p2⟩ := TQ_pack (C := C') (K := K) (O := O') hm hN
      obtain ⟨M2, u1, u2⟩ := firstInLanded_m (C := C') (K := K) (O := O') hm p2 hj1 hN
      refine ⟨_, M2, ?_, u2.1, u2.2.2, rfl⟩
      simp only [f_X7_when, ↓b_wrM, ↓b_rdM, ↓reduceIte, show ¬ (1 : Int32) = 0 by decide, ↓bnd (isJ_y m0.2.1 hm.1 hj), ↓bnd (bW1_y (show btw (nI 1) 0 1 from ⟨1, by decide, by decide, rfl⟩)), ↓bnd p1, ↓bnd u1, show nI 1 = 1 from rfl]
set_option maxHeartbeats 4000000 in
theorem q_when {a c : Int32} (hc : CI K C G W) (hm : MI M G W) (hN : 1000 ≤ N) : ∃ r, QC K C M O (f_X6_when N (HP C M K O) 0 a c) r ∧ ∀ C' O', QM C' M K O' (f_X7_when N (HP C' M K O') 71 a c) r := by
  have m0 := MI_EQ hm (EQ_code M 0)
  by_cases h0 : inR a (gJ G)
  ·
    by_cases h1 : btw c 0 1
    · exact g_when hc hm hN h0 h1
    · refine ⟨.inl 1, ⟨C, ?_, fun _ _ => rfl⟩, fun C' O' => ?_⟩
      · simp only [f_X6_when, ↓b_rdC, ↓Sum.elim_inr, ↓Sum.elim_inl, ↓bnd (needJ_y hc h0), ↓bnd (nW1_n h1)]
      · obtain ⟨M', f1, f2, f3⟩ := QM_fail (N := N) (C := C') (M := M) (K := K) (O := O') (k := 1) (kv := 1) rfl
        refine ⟨0, M', ?_, f2, f3⟩
        simp only [f_X7_when_b23, f_X7_when, ↓b_wrM, ↓b_rdM, ↓reduceIte, show ¬ (1 : Int32) = 0 by decide, ↓bnd (isJ_y m0.2.1 hm.1 h0), ↓bnd (bW1_n h1), ↓bnd f1]
  · refine ⟨.inl 1, ⟨C, ?_, fun _ _ => rfl⟩, fun C' O' => ?_⟩
    · simp only [f_X6_when, ↓b_rdC, ↓Sum.elim_inr, ↓Sum.elim_inl, ↓bnd (needJ_n hc h0)]
    · obtain ⟨M', f1, f2, f3⟩ := QM_fail (N := N) (C := C') (M := M) (K := K) (O := O') (k := 1) (kv := 1) rfl
      refine ⟨0, M', ?_, f2, f3⟩
      simp only [f_X7_when_b23, f_X7_when, ↓b_wrM, ↓b_rdM, ↓reduceIte, show ¬ (1 : Int32) = 0 by decide, ↓bnd (isJ_n m0.2.1 hm.1 h0), ↓bnd f1]
end S44
