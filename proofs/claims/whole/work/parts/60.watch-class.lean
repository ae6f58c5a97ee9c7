/-! leans; watch -/
def plc (G : GT) (W : ST) (p : Nat → Bool) (j : Nat) : Nat → Int32
  | 0 => 0
  | k + 1 => if p k = true then plc G W p j k ||| ((1 : Int32) <<< ((passN G 6 (GW W k) 1 j + 2) &&& 31)) else plc G W p j k
def wb (f : Nat → Int32) : Nat → Int32 × Int32
  | 0 => (-1, 0)
  | j + 1 => if bc (f j) ≤ (wb f j).2 then wb f j else (nI j, bc (f j))
theorem wb_congr {f g : Nat → Int32} : ∀ {n : Nat}, (∀ j, j < n → f j = g j) → wb f n = wb g n := by
  intro n
  induction n with
  | zero => intro _; rfl
  | succ k ih =>
    intro h
    rw [wb, wb, ih (fun j hj => h j (by omega)), h k (by omega)]
theorem sub_m2 (x : Int32) : x - (-2) = x + 2 := by
  rw [Int32.sub_eq_add_neg, show -(-2 : Int32) = 2 by decide]
theorem sh_11 : ∀ m, m < 11 → (1 : Int32) <<< (nI m &&& 31) = nI (2 ^ m) := by decide +kernel
theorem nI_or2 (a b : Nat) : nI a ||| nI b = nI (a ||| b) := nI_or a b
section S60
variable {C C0 B M M0 M1 M' W T D : ST} {K : KT} {O : Nat → Int64} {N : Nat} {G : GT} {b : Bool} {q : Nat} {sj st : Nat → Nat} {sv : Nat → Int32} {c : Int32} {p : Nat → Bool}
set_option maxHeartbeats 4000000 in
theorem g_leans (hl : ∀ j, j < gJ G → W 4 j = gln G j) (hS : SC G C q sj st sv) (hM : SM M q sj st sv) (hc : CI K C G W) (hm : MI M G W) (hN : 1000 ≤ N) (hw : btw c 0 2) : ∃ r, QC K C M O (f_X6_leans N (HP C M K O) 0 c) r ∧ ∀ C' O', QM C' M K O' (f_X7_leans N (HP C' M K O') 71 c) r := by
  have m0 := m0_of hm
  have S0 : SM (up M 71 4 0) q sj st sv := SM_Fz hM (EQ_code M 0).1
  have hr : ∀ i, i < q → sj i < gJ G ∧ st i ≤ 20 := fun i hi => (hS.2.2 i hi).2.2.2
  have t1 : ¬ (1 : Int32) = 0 := by decide
  by_cases c2 : c = 2
  · subst c2
    obtain ⟨C1, t1', T1⟩ := TX_try (M := M) (O := O) hc (fun _ _ => rfl) hN
    obtain ⟨C2, s1, s2, _⟩ := holds_c (M := M) (O := O) hc hS T1 hN
    refine ⟨.inr (b2i (thr G q sj st sv (clr W) (lst st q + 1))), ⟨C2, ?_, s2⟩, fun C' O' => ?_⟩
    · simp only [f_X6_leans, ↓bnd (nW2_y hw), ↓Sum.elim_inr, ↓reduceIte, ↓b_rdC, ↓bnd t1', ↓bnd s1]
      cases thr G q sj st sv (clr W) (lst st q + 1)
      · simp only [show b2i false = 0 from rfl, ↓reduceIte]
      · simp only [show b2i true = 1 from rfl, t1, ↓reduceIte]
    · obtain ⟨M1, p1, p2, p3, p4⟩ := asSeen_m (C := C') (K := K) (O := O') m0 S0 hS.1 hr hN
      refine ⟨b2i (thr G q sj st sv (clr W) (lst st q + 1)), M1, ?_, EQm_trans (EQ_code M 0) p2, ?_, rfl⟩
      · simp only [f_X7_leans, ↓b_wrM, ↓b_rdM, ↓bnd (bW2_y hw), ↓reduceIte, t1, ↓bnd p1]
        cases thr G q sj st sv (clr W) (lst st q + 1)
        · simp only [show b2i false = 0 from rfl, ↓reduceIte]
        · simp only [show b2i true = 1 from rfl, t1, ↓reduceIte]
      · rw [p3 4 (by decide)]; exact code_s M 0
  · obtain ⟨r, C1, a1, a2, a3⟩ := leansL_c (M := M) (O := O) (c := c) hc hS hN
    have ref : ∀ C' O', ∃ M1, f_X7_tellFits N (HP C' (up M 71 4 0) K O') 71 = some (HP C' M1 K O') ∧ FI (fit G W q sj st sv) (up M 71 4 0) M1 (10 * gJ G) := fun C' O' => tellFits_m m0 hl S0 hS.1 hr hN
    have hJ := hm.1.2.2.1
    rcases a3 with ⟨c1, k, hk, y, z, e⟩ | ⟨z, e⟩
    · rw [e] at a1
      subst c1
      refine ⟨.inr (nI k), ⟨C1, ?_, a2⟩, fun C' O' => ?_⟩
      · simp only [f_X6_leans, ↓bnd (nW2_y hw), ↓Sum.elim_inr, c2, ↓reduceIte, f_X6_leans_b31, a1, Option.bind_some, Sum.elim_inl]
      · obtain ⟨M1, p1, F1⟩ := ref C' O'
        have e0 := F1.2.2.2 k hk y
        rw [z] at e0
        have n49 : ¬ M1 71 49 = 0 := by
          rw [F1.2.2.1]
          have h1 := cnt_mono (p := fit G W q sj st sv) (k := k + 1) (10 * gJ G - (k + 1))
          rw [show k + 1 + (10 * gJ G - (k + 1)) = 10 * gJ G by omega, cnt_y y, z] at h1
          have h2 := cnt_le (p := fit G W q sj st sv) (10 * gJ G)
          exact nI_ne0 (by omega) (by omega)
        refine ⟨nI k, M1, ?_, EQm_trans (EQ_code M 0) F1.1, F1.2.1.trans (code_s M 0), rfl⟩
        simp only [f_X7_leans, ↓b_wrM, ↓b_rdM, ↓bnd (bW2_y hw), ↓reduceIte, t1, c2, ↓bnd p1, n49, ↓b_rlM, e0]
    · rw [e] at a1
      by_cases c1 : c = 1
      · subst c1
        refine ⟨.inr (-1), ⟨C1, ?_, a2⟩, fun C' O' => ?_⟩
        · simp only [f_X6_leans, ↓bnd (nW2_y hw), ↓Sum.elim_inr, c2, ↓reduceIte, f_X6_leans_b31, a1, Option.bind_some, Sum.elim_inr]
        · obtain ⟨M1, p1, F1⟩ := ref C' O'
          have n49 : M1 71 49 = 0 := by rw [F1.2.2.1, z rfl]; rfl
          refine ⟨-1, M1, ?_, EQm_trans (EQ_code M 0) F1.1, F1.2.1.trans (code_s M 0), rfl⟩
          simp only [f_X7_leans, ↓b_wrM, ↓b_rdM, ↓bnd (bW2_y hw), ↓reduceIte, t1, c2, ↓bnd p1, n49]
      · have c0 : c = 0 := by
          obtain ⟨i, _, hi, rfl⟩ := hw
          rcases (show i = 0 ∨ i = 1 ∨ i = 2 by omega) with rfl | rfl | rfl
          · rfl
          · exact absurd rfl c1
          · exact absurd rfl c2
        subst c0
        refine ⟨.inr (nI (cnt (fit G W q sj st sv) (10 * gJ G))), ⟨C1, ?_, a2⟩, fun C' O' => ?_⟩
        · simp only [f_X6_leans, ↓bnd (nW2_y hw), ↓Sum.elim_inr, c2, ↓reduceIte, f_X6_leans_b31, a1, Option.bind_some, Sum.elim_inr, c1]
        · obtain ⟨M1, p1, F1⟩ := ref C' O'
          refine ⟨nI (cnt (fit G W q sj st sv) (10 * gJ G)), M1, ?_, EQm_trans (EQ_code M 0) F1.1, F1.2.1.trans (code_s M 0), rfl⟩
          simp only [f_X7_leans, ↓b_wrM, ↓b_rdM, ↓bnd (bW2_y hw), ↓reduceIte, t1, c2, ↓bnd p1, F1.2.2.1]
set_option maxHeartbeats 4000000 in
theorem q_leans (hl : ∀ j, j < gJ G → W 4 j = gln G j) (hS : SC G C q sj st sv) (hM : SM M q sj st sv) (hc : CI K C G W) (hm : MI M G W) (hN : 1000 ≤ N) : ∃ r, QC K C M O (f_X6_leans N (HP C M K O) 0 c) r ∧ ∀ C' O', QM C' M K O' (f_X7_leans N (HP C' M K O') 71 c) r := by
  by_cases h0 : btw c 0 2
  · exact g_leans hl hS hM hc hm hN h0
  · refine ⟨.inl 1, ⟨C, ?_, fun _ _ => rfl⟩, fun C' O' => ?_⟩
    · simp only [f_X6_leans, ↓b_rdC, ↓Sum.elim_inr, ↓Sum.elim_inl, ↓bnd (nW2_n h0)]
    · obtain ⟨M', f1, f2, f3⟩ := QM_fail (N := N) (C := C') (M := M) (K := K) (O := O') (k := 1) (kv := 1) rfl
      refine ⟨0, M', ?_, f2, f3⟩
      simp only [f_X7_leans, ↓b_wrM, ↓b_rdM, ↓reduceIte, ↓bnd (bW2_n h0), ↓bnd f1]
/-! watch: the class -/
theorem plc_y {j k : Nat} (h : p k = true) : plc G W p j (k + 1) = plc G W p j k ||| ((1 : Int32) <<< ((passN G 6 (GW W k) 1 j + 2) &&& 31)) := by rw [plc, if_pos h]
theorem plc_n {j k : Nat} (h : p k = false) : plc G W p j (k + 1) = plc G W p j k := by rw [plc, if_neg (by rw [h]; decide)]
theorem plc_stay {j k : Nat} : ∀ m, cnt p (k + m) = cnt p k → plc G W p j (k + m) = plc G W p j k
  | 0 => fun _ => rfl
  | m + 1 => fun h => by
    have h1 := cnt_mono (p := p) (k := k) m
    have h2 : cnt p (k + m + 1) = cnt p k := h
    by_cases y : p (k + m) = true
    · rw [cnt_y y] at h2
      omega
    · have y' : p (k + m) = false := by simpa using y
      rw [cnt_n y'] at h2
      show plc G W p j (k + m + 1) = _
      rw [plc_n y']
      exact plc_stay m h2
theorem cnt_next {n : Nat} : ∀ m k, k + m = n → cnt p k < cnt p n → ∃ k', k ≤ k' ∧ k' < n ∧ p k' = true ∧ cnt p k' = cnt p k
  | 0 => fun k h1 h2 => by rw [← h1, Nat.add_zero] at h2; exact absurd h2 (Nat.lt_irrefl _)
  | m + 1 => fun k h1 h2 => by
    by_cases y : p k = true
    · exact ⟨k, Nat.le_refl _, by omega, y, rfl⟩
    · have e := cnt_n (p := p) (k := k) (by simpa using y)
      obtain ⟨k', a1, a2, a3, a4⟩ := cnt_next (n := n) m (k + 1) (by omega) (by rw [e]; exact h2)
      exact ⟨k', by omega, a2, a3, a4.trans e⟩
theorem okW_GW (hW : okW G W) (k : Nat) : okW G (GW W k) := okW_clr (okW_ln hW (Nat.mod_lt _ (by decide)))
theorem plc_lt (hG : okG G) (hW : okW G W) {j : Nat} (hj : j < gJ G) : ∀ k, ∃ s, s < 2048 ∧ plc G W p j k = nI s
  | 0 => ⟨0, by decide, rfl⟩
  | k + 1 => by
    obtain ⟨s, hs, e⟩ := plc_lt hG hW hj k
    by_cases y : p k = true
    · rw [plc_y y, e]
      have hR := hG.2.1
      have hm : ∃ m, m < 11 ∧ passN G 6 (GW W k) 1 j + 2 = nI m := by
        rcases ((okW_passN hG (okW_GW hW k) 6).1 j hj).1 with z | z | ⟨r, hr, z⟩
        · exact ⟨0, by decide, by rw [z]; decide⟩
        · exact ⟨1, by decide, by rw [z]; decide⟩
        · exact ⟨r + 2, by omega, by rw [z]; exact nI_add r 2⟩
      obtain ⟨m, hm1, hm2⟩ := hm
      rw [hm2, sh_11 m hm1, nI_or]
      refine ⟨_, Nat.or_lt_two_pow (n := 11) hs ?_, rfl⟩
      exact Nat.pow_lt_pow_right (by decide) hm1
    · rw [plc_n (by simpa using y)]
      exact ⟨s, hs, e⟩
set_option maxHeartbeats 4000000 in
theorem addPlaces_c (hc : CI K C0 G W) (hf : ∀ a, a < 54 → C a = C0 a) {k : Nat} (hk : k < 10 * gJ G) (hN : 1000 ≤ N) : ∃ C', f_X6_addPlaces N (HP C M K O) 0 (nI k) = some (HP C' M K O) ∧ (∀ a, a < 54 → C' a = C0 a) ∧ ∀ j, j < gJ G → C' 68 j = C 68 j ||| ((1 : Int32) <<< ((passN G 6 (GW W k) 1 j + 2) &&& 31)) := by
  have hJ := hc.2.1.2.2.1
  obtain ⟨C1, ⟨g1, g2⟩, T1⟩ := guess_c (M := M) (O := O) hc hf hk hN
  obtain ⟨C2, p1, T2⟩ := TX_goOn (M := M) (O := O) (n := 6) hc T1 (by decide) hN
  rw [show nI 6 = 6 from rfl] at p1
  have e68 : C2 68 = C 68 := T2.2 68 (by decide)
  have A := itr_inv (body := fun s : Int32 × AH => f_X6_addPlaces_l14 N 0 s.1 s.2)
    (fun j s => ∃ C', s = (nI j, HP C' M K O) ∧ (∀ a, a ≠ 68 → C' a = C2 a) ∧ (∀ i, i < j → C' 68 i = C 68 i ||| ((1 : Int32) <<< ((passN G 6 (GW W k) 1 i + 2) &&& 31))) ∧ ∀ i, j ≤ i → C' 68 i = C 68 i)
    (P := fun r => ∃ C', r = HP C' M K O ∧ (∀ a, a ≠ 68 → C' a = C2 a) ∧ ∀ j, j < gJ G → C' 68 j = C 68 j ||| ((1 : Int32) <<< ((passN G 6 (GW W k) 1 j + 2) &&& 31))) (n := gJ G) ?_ ?_ (s := (0, HP C2 M K O)) ⟨C2, rfl, fun _ _ => rfl, fun i hi => absurd hi (Nat.not_lt_zero i), fun i _ => by rw [e68]⟩ (N := N) (by omega)
  · obtain ⟨r, a1, C3, e, a2, a3⟩ := A
    rw [e] at a1
    refine ⟨C3, ?_, fun a ha => (a2 a (by omega)).trans (T2.1.1 a ha), a3⟩
    by_cases y : gln G (k / 10) = nI (k % 10)
    · simp only [f_X6_addPlaces, f_X6_addPlaces_b14, ↓b_rdC, ↓bnd (g1 y), ↓bnd p1, a1, Option.bind_some]
    · simp only [f_X6_addPlaces, f_X6_addPlaces_b14, ↓b_rdC, ↓bnd (g2 y), ↓bnd p1, a1, Option.bind_some]
  · rintro j s hj ⟨C3, rfl, h1, h2, h3⟩
    left
    have j8 : j < 8 := by omega
    have f3 : ∀ a, a < 54 → C3 a = C0 a := fun a ha => (h1 a (by omega)).trans (T2.1.1 a ha)
    have eJ := (CI_of hc f3).2.2.1.2.2.1
    have e1 : C3 (54 + 1) j = passN G 6 (GW W k) 1 j := by rw [h1 _ (by decide)]; exact T2.1.2.1.2.1 1 j (by decide) (by decide) hj
    refine ⟨(nI (j + 1), HP (up C3 68 j (C 68 j ||| ((1 : Int32) <<< ((passN G 6 (GW W k) 1 j + 2) &&& 31)))) M K O), ?_, _, rfl, fun a ha => (up_o ha).trans (h1 a ha), fun i hi => ?_, fun i hi => ?_⟩
    · simp only [f_X6_addPlaces_l14, ↓b_rdC, ↓b_rG hc.1, eJ, nle hj (by omega), ↓reduceIte, ↓b_raC, j8, ↓b_rW w54, ↓b_rWa w54, e1, h3 j (Nat.le_refl j), sub_m2, ↓b_waC, nI_1]
    · rw [up_s]
      unfold upd
      split
      · rename_i z; rw [z]
      · exact h2 i (by omega)
    · rw [up_s, upd_o (by omega)]
      exact h3 i (by omega)
  · rintro s ⟨C3, rfl, h1, h2, h3⟩
    have f3 : ∀ a, a < 54 → C3 a = C0 a := fun a ha => (h1 a (by omega)).trans (T2.1.1 a ha)
    have eJ := (CI_of hc f3).2.2.1.2.2.1
    refine ⟨_, ?_, C3, rfl, h1, h2⟩
    simp only [f_X6_addPlaces_l14, ↓b_rdC, ↓b_rG hc.1, eJ, yle (Nat.le_refl (gJ G)) (by omega), ↓reduceIte]
set_option maxHeartbeats 4000000 in
theorem watchL_c (hc : CI K C0 G W) (hS : SC G C0 q sj st sv) (hf : ∀ a, a < 54 → C a = C0 a) (hz : ∀ j, j < gJ G → C 68 j = 0) (hN : 1000 ≤ N) : ∃ C', itr (fun s : Int32 × AH => f_X6_watch_l15 N 0 c s.1 s.2) N (0, HP C M K O) = some (HP C' M K O) ∧ (∀ a, a < 54 → C' a = C0 a) ∧ ∀ j, j < gJ G → C' 68 j = plc G W (fit G W q sj st sv) j (10 * gJ G) := by
  have hJ := hc.2.1.2.2.1
  have A := itr_inv (body := fun s : Int32 × AH => f_X6_watch_l15 N 0 c s.1 s.2)
    (fun k s => ∃ C', s = (nI k, HP C' M K O) ∧ (∀ a, a < 54 → C' a = C0 a) ∧ ∀ j, j < gJ G → C' 68 j = plc G W (fit G W q sj st sv) j k)
    (P := fun r => ∃ C', r = HP C' M K O ∧ (∀ a, a < 54 → C' a = C0 a) ∧ ∀ j, j < gJ G → C' 68 j = plc G W (fit G W q sj st sv) j (10 * gJ G)) (n := 10 * gJ G) ?_ ?_ (s := (0, HP C M K O)) ⟨C, rfl, hf, hz⟩ (N := N) (by omega)
  · obtain ⟨r, a1, C1, e, a2⟩ := A
    rw [e] at a1
    exact ⟨C1, a1, a2⟩
  · rintro k s hk ⟨C1, rfl, f1, z1⟩
    left
    obtain ⟨C2, ⟨g1, g2⟩, T2⟩ := guess_c (M := M) (O := O) hc f1 hk hN
    obtain ⟨C3, s1, s2, s3⟩ := holds_c (M := M) (O := O) hc hS T2 hN
    have eJ := (CI_of hc f1).2.2.1.2.2.1
    have nl := nle hk (by omega)
    by_cases y : gln G (k / 10) = nI (k % 10)
    · have ef : fit G W q sj st sv k = false := by simp [fit, y]
      refine ⟨(nI (k + 1), HP C2 M K O), ?_, C2, rfl, T2.1.1, fun j hj => by rw [plc_n ef, T2.2 68 (by decide)]; exact z1 j hj⟩
      simp only [f_X6_watch_l15, f_X6_watch_b49, ↓b_rdC, ↓b_rG hc.1, eJ, m10, nl, ↓reduceIte, ↓bnd (g1 y), nI_1]
    · by_cases x : thr G q sj st sv (GW W k) (lst st q + 1) = true
      · have ef : fit G W q sj st sv k = true := by simp [fit, y, x]
        rw [x] at s1
        obtain ⟨C4, a1, a2, a3⟩ := addPlaces_c (M := M) (O := O) hc s2 hk hN
        refine ⟨(nI (k + 1), HP C4 M K O), ?_, C4, rfl, a2, fun j hj => by rw [plc_y ef, a3 j hj, s3 68 (by decide), z1 j hj]⟩
        simp only [f_X6_watch_l15, f_X6_watch_b49, ↓b_rdC, ↓b_rG hc.1, eJ, m10, nl, ↓reduceIte, ↓bnd (g2 y), show ¬ (1 : Int32) = 0 by decide, ↓bnd s1, show b2i true = 1 from rfl, ↓bnd a1, nI_1]
      · have x' : thr G q sj st sv (GW W k) (lst st q + 1) = false := by simpa using x
        have ef : fit G W q sj st sv k = false := by simp [fit, x']
        rw [x'] at s1
        refine ⟨(nI (k + 1), HP C3 M K O), ?_, C3, rfl, s2, fun j hj => by rw [plc_n ef, s3 68 (by decide)]; exact z1 j hj⟩
        simp only [f_X6_watch_l15, f_X6_watch_b49, ↓b_rdC, ↓b_rG hc.1, eJ, m10, nl, ↓reduceIte, ↓bnd (g2 y), show ¬ (1 : Int32) = 0 by decide, ↓bnd s1, show b2i false = 0 from rfl, nI_1]
  · rintro s ⟨C1, rfl, f1, z1⟩
    have eJ := (CI_of hc f1).2.2.1.2.2.1
    refine ⟨_, ?_, C1, rfl, f1, z1⟩
    simp only [f_X6_watch_l15, ↓b_rdC, ↓b_rG hc.1, eJ, m10, yle (Nat.le_refl (10 * gJ G)) (by omega), ↓reduceIte]
set_option maxHeartbeats 4000000 in
theorem watchB_c (hc : CI K C G W) (hN : 1000 ≤ N) : itr (fun s : Int32 × Int32 × Int32 × AH => f_X6_watch_l62 N 0 c s.1 s.2.1 s.2.2.1 s.2.2.2) N (-1, 0, 0, HP C M K O) = some ((wb (C 68) (gJ G)).1, (wb (C 68) (gJ G)).2, HP C M K O) := by
  have hJ := hc.2.1.2.2.1
  have eJ := hc.2.2.1.2.2.1
  refine itr_seq (body := fun s : Int32 × Int32 × Int32 × AH => f_X6_watch_l62 N 0 c s.1 s.2.1 s.2.2.1 s.2.2.2) (fun k => ((wb (C 68) k).1, (wb (C 68) k).2, nI k, HP C M K O)) (n := gJ G) ?_ ?_ (N := N) (by omega)
  · intro k hk
    have k8 : k < 8 := by omega
    simp only [f_X6_watch_l62, f_X6_watch_b98, ↓b_rdC, ↓b_rG hc.1, eJ, nle hk (by omega), ↓reduceIte, ↓b_raC, k8, ↓bnd (bitCount_c _ _ _), nI_1, wb]
    split <;> rfl
  · simp only [f_X6_watch_l62, ↓b_rdC, ↓b_rG hc.1, eJ, yle (Nat.le_refl (gJ G)) (by omega), ↓reduceIte]
end S60
