/-! floods -/
def fdk (s : Int32) (k : Nat) : Int32 := if ((s >>> (nI k &&& 31)) &&& 1) = 1 then 1 else 0
def fw (s c : Int32) : Nat → Int32
  | 0 => 1
  | k + 1 => fw s c k * (if fdk s k = 0 then 10 - c else c)
def fT (G : GT) (s : Int32) (T : ST) : Nat → ST
  | 0 => T
  | k + 1 => passV G (fdk s k) (fT G s T k)
def fo (G : GT) (W : ST) (j n : Nat) (c : Int32) : Nat → Int32
  | 0 => 0
  | k + 1 => if fT G (nI k) (clr W) n 3 j = allS G then fo G W j n c k + fw (nI k) c n else fo G W j n c k
theorem sh_n : ∀ n, n < 6 → (1 : Int32) <<< (nI n &&& 31) = nI (2 ^ n) := by decide
section S49
variable {C C0 M M1 W T : ST} {K : KT} {O : Nat → Int64} {N : Nat} {G : GT} {b : Bool}
theorem isOf_m {h : AH} {s : Int32} {k : Nat} : f_X7_isOf N h s (nI k) = some (fdk s k, h) := by
  unfold f_X7_isOf fdk
  split <;> rfl
theorem fdk_01 (s : Int32) (k : Nat) : fdk s k = 0 ∨ fdk s k = 1 := by
  unfold fdk
  split
  · exact .inr rfl
  · exact .inl rfl
set_option maxHeartbeats 4000000 in
theorem flIn_c (hc : CI K C0 G W) (hT : TC G C0 C T) {n : Nat} (hn : n ≤ 5) {s c x v4 : Int32} (hN : 1000 ≤ N) : ∃ C', itr (fun q : Int32 × Int32 × AH => f_X6_floods_l56 N 0 x (nI n) c v4 s q.1 q.2.1 q.2.2) N (1, 0, HP C M K O) = some (fw s c n, HP C' M K O) ∧ TC G C0 C' (fT G s T n) := by
  have q := itr_inv (body := fun q : Int32 × Int32 × AH => f_X6_floods_l56 N 0 x (nI n) c v4 s q.1 q.2.1 q.2.2)
    (fun k z => ∃ C', z = (fw s c k, nI k, HP C' M K O) ∧ TC G C0 C' (fT G s T k))
    (P := fun r => ∃ C', r = (fw s c n, HP C' M K O) ∧ TC G C0 C' (fT G s T n)) (n := n) ?_ ?_ (s := (1, 0, HP C M K O)) ⟨C, rfl, hT⟩ (N := N) (by omega)
  · obtain ⟨r, q1, C', e, q2⟩ := q
    rw [e] at q1
    exact ⟨C', q1, q2⟩
  · rintro k z hk ⟨C1, rfl, h1⟩
    left
    obtain ⟨C2, t1, t2⟩ := TC_pass (M := M) (O := O) hc h1 (fdk s k) hN
    refine ⟨(fw s c (k + 1), nI (k + 1), HP C2 M K O), ?_, C2, rfl, t2⟩
    have e : f_X6_floods_l56 N 0 x (nI n) c v4 s (fw s c k) (nI k) (HP C1 M K O) = f_X6_floods_b78 N 0 x (nI n) c v4 s (fw s c k) (nI k) (fdk s k) (HP C1 M K O) := by
      simp only [f_X6_floods_l56, nle hk (by omega), ↓reduceIte, fdk]
      split <;> rfl
    simp only [e, f_X6_floods_b78, f_X6_floods_b95, fw]
    by_cases z : fdk s k = 0
    · simp only [z, ↓reduceIte, ↓b_rdC] at t1 ⊢
      simp only [↓bnd t1, nI_1]
    · simp only [z, ↓reduceIte, ↓b_rdC, ↓bnd t1, nI_1]
  · rintro z ⟨C1, rfl, h1⟩
    refine ⟨_, ?_, C1, rfl, h1⟩
    simp only [f_X6_floods_l56, yle (Nat.le_refl n) (by omega), ↓reduceIte]
set_option maxHeartbeats 4000000 in
theorem flIn_m (hm : MI M G W) (hT : TQ G b M M1 T) {n : Nat} (hn : n ≤ 5) {s c x v4 : Int32} (hN : 1000 ≤ N) : ∃ M', itr (fun q : Int32 × Int32 × AH => f_X7_floods_l78 N 71 x (nI n) c v4 s q.1 q.2.1 q.2.2) N (1, 0, HP C M1 K O) = some (fw s c n, HP C M' K O) ∧ TQ G b M M' (fT G s T n) := by
  have q := itr_inv (body := fun q : Int32 × Int32 × AH => f_X7_floods_l78 N 71 x (nI n) c v4 s q.1 q.2.1 q.2.2)
    (fun k z => ∃ M', z = (fw s c k, nI k, HP C M' K O) ∧ TQ G b M M' (fT G s T k))
    (P := fun r => ∃ M', r = (fw s c n, HP C M' K O) ∧ TQ G b M M' (fT G s T n)) (n := n) ?_ ?_ (s := (1, 0, HP C M1 K O)) ⟨M1, rfl, hT⟩ (N := N) (by omega)
  · obtain ⟨r, q1, M', e, q2⟩ := q
    rw [e] at q1
    exact ⟨M', q1, q2⟩
  · rintro k z hk ⟨M2, rfl, h1⟩
    left
    obtain ⟨M3, t1, t2⟩ := TQ_step (C := C) (K := K) (O := O) hm h1 (fdk s k) hN
    refine ⟨(fw s c (k + 1), nI (k + 1), HP C M3 K O), ?_, M3, rfl, t2⟩
    by_cases z : fdk s k = 0
    · rw [z] at t1
      simp only [f_X7_floods_l78, f_X7_floods_b104, nle hk (by omega), ↓reduceIte, ↓bnd isOf_m, z, ↓b_rdM, ↓bnd t1, nI_1, fw]
    · simp only [f_X7_floods_l78, f_X7_floods_b104, nle hk (by omega), ↓reduceIte, ↓bnd isOf_m, z, ↓b_rdM, ↓bnd t1, nI_1, fw]
  · rintro z ⟨M2, rfl, h1⟩
    refine ⟨_, ?_, M2, rfl, h1⟩
    simp only [f_X7_floods_l78, yle (Nat.le_refl n) (by omega), ↓reduceIte]
set_option maxHeartbeats 4000000 in
theorem g_floods {a d c : Int32} (hc : CI K C G W) (hm : MI M G W) (hN : 1000 ≤ N) (hj : inR a (gJ G)) (hs : btw d 1 5) (ht : btw c 0 10) : ∃ r, QC K C M O (f_X6_floods N (HP C M K O) 0 a d c) r ∧ ∀ C' O', QM C' M K O' (f_X7_floods N (HP C' M K O') 71 a d c) r := by
  have m0 := m0_of hm
  have hj' := hj
  obtain ⟨j, hj1, rfl⟩ := hj'
  have hs' := hs
  obtain ⟨n, _, hn, rfl⟩ := hs'
  have hp : 2 ^ n ≤ 2 ^ 5 := Nat.pow_le_pow_right (by decide) hn
  have esh := sh_n n (by omega)
  refine ⟨.inr (fo G W j n c (2 ^ n)), ?_, fun C' O' => ?_⟩
  · have q := itr_inv (body := fun q : Int32 × Int32 × AH => f_X6_floods_l38 N 0 (nI j) (nI n) c q.1 q.2.1 q.2.2)
      (fun k s => ∃ C', s = (fo G W j n c k, nI k, HP C' M K O) ∧ ∀ a, a < 54 → C' a = C a)
      (P := fun r => ∃ C', r = (fo G W j n c (2 ^ n), HP C' M K O) ∧ ∀ a, a < 54 → C' a = C a) (n := 2 ^ n) ?_ ?_ (s := (0, 0, HP C M K O)) ⟨C, rfl, fun _ _ => rfl⟩ (N := N) (by omega)
    · obtain ⟨r, q1, C2, e, q2⟩ := q
      rw [e] at q1
      refine ⟨C2, ?_, q2⟩
      obtain ⟨t, _, ht1, rfl⟩ := ht
      have c1 : ¬ nI t < 0 := nI_pos (by omega)
      have c2 : nI t ≤ 10 := nI_le (b := 10) ht1 (by decide)
      simp only [f_X6_floods, f_X6_floods_b38, ↓b_rdC, ↓Sum.elim_inr, ↓bnd (needJ_y hc hj), ↓bnd (nT15_y hs), c1, c2, ↓reduceIte, q1, Option.bind_some]
    · rintro k s hk ⟨C2, rfl, h1⟩
      left
      obtain ⟨C3, t1, T3⟩ := tryFor0 (M := M) (O := O) hc h1 hN
      obtain ⟨C4, s1, T4⟩ := flIn_c (M := M) (O := O) (s := nI k) (c := c) (x := nI j) (v4 := fo G W j n c k) hc T3 hn hN
      have hc4 := CI_of hc T4.1
      refine ⟨(fo G W j n c (k + 1), nI (k + 1), HP C4 M K O), ?_, C4, rfl, T4.1⟩
      simp only [f_X6_floods_l38, f_X6_floods_b56, f_X6_floods_b139, esh, nle hk (by omega), ↓reduceIte, ↓b_rdC, ↓bnd t1, s1, Option.bind_some, ↓b_rW w54, ↓bnd (isFair_c (N := N) (M := M) (K := K) (O := O) hc4.1 w54 hc4.2.1 hc4.2.2.1 T4.2.1 hj1), nI_1, fo]
      by_cases z : fT G (nI k) (clr W) n 3 j = allS G
      · simp only [z, ↓reduceIte, show ¬ (1 : Int32) = 0 by decide]
      · simp only [z, ↓reduceIte]
    · rintro s ⟨C2, rfl, h1⟩
      refine ⟨_, ?_, C2, rfl, h1⟩
      simp only [f_X6_floods_l38, esh, yle (Nat.le_refl (2 ^ n)) (by omega), ↓reduceIte]
  · obtain ⟨M1, p1, p2⟩ := TQ_pack (C := C') (K := K) (O := O') hm hN
    have hp1 := Nat.two_pow_pos n
    have q := itr_inv (body := fun q : Int32 × Int32 × AH => f_X7_floods_l64 N 71 (nI j) (nI n) c q.1 q.2.1 q.2.2)
      (fun k s => ∃ M', s = (fo G W j n c k, nI k, HP C' M' K O') ∧ TQ G false M M' (clr W) ∧ (0 < k → RQ M M'))
      (P := fun r => ∃ M', r = (fo G W j n c (2 ^ n), HP C' M' K O') ∧ RQ M M') (n := 2 ^ n) ?_ ?_ (s := (0, 0, HP C' M1 K O')) ⟨M1, rfl, p2, fun h => absurd h (by decide)⟩ (N := N) (by omega)
    · obtain ⟨r, q1, M2, e, q2⟩ := q
      rw [e] at q1
      refine ⟨_, M2, ?_, q2.1, q2.2.2, rfl⟩
      simp only [f_X7_floods, f_X7_floods_b64, ↓b_wrM, ↓b_rdM, ↓reduceIte, show ¬ (1 : Int32) = 0 by decide, ↓bnd (isJ_y m0.2.1 hm.1 hj), ↓bnd (bT15_y hs), ↓bnd (bT010_y ht), ↓bnd p1, q1, Option.bind_some]
    · rintro k s hk ⟨M2, rfl, h1, _⟩
      left
      obtain ⟨M3, s1, T3⟩ := flIn_m (C := C') (K := K) (O := O') (s := nI k) (c := c) (x := nI j) (v4 := fo G W j n c k) hm h1 hn hN
      obtain ⟨M4, u1, u2, _, _⟩ := TQ_back (C := C') (K := K) (O := O') T3 hN
      refine ⟨(fo G W j n c (k + 1), nI (k + 1), HP C' M4 K O'), ?_, M4, rfl, TQ_again hm u2, fun _ => u2⟩
      simp only [f_X7_floods_l64, f_X7_floods_b78, f_X7_floods_b140, esh, nle hk (by omega), ↓reduceIte, ↓b_rdM, s1, Option.bind_some, ↓bnd (isFair_m (N := N) (C := C') (K := K) (O := O') hm.1 (TQ_g hm T3) (TQ_w T3) hj1), nI_1, fo]
      by_cases z : fT G (nI k) (clr W) n 3 j = allS G
      · simp only [z, ↓reduceIte, show ¬ (1 : Int32) = 0 by decide, ↓b_rdM, ↓bnd u1]
      · simp only [z, ↓reduceIte, ↓b_rdM, ↓bnd u1, Int32.add_zero]
    · rintro s ⟨M2, rfl, h1, h2⟩
      refine ⟨_, ?_, M2, rfl, h2 hp1⟩
      simp only [f_X7_floods_l64, esh, yle (Nat.le_refl (2 ^ n)) (by omega), ↓reduceIte]
set_option maxHeartbeats 4000000 in
theorem q_floods {a d c : Int32} (hc : CI K C G W) (hm : MI M G W) (hN : 1000 ≤ N) : ∃ r, QC K C M O (f_X6_floods N (HP C M K O) 0 a d c) r ∧ ∀ C' O', QM C' M K O' (f_X7_floods N (HP C' M K O') 71 a d c) r := by
  have m0 := MI_EQ hm (EQ_code M 0)
  by_cases h0 : inR a (gJ G)
  ·
    by_cases h1 : btw d 1 5
    · by_cases h2 : btw c 0 10
      · exact g_floods hc hm hN h0 h1 h2
      · refine ⟨.inl 2, ⟨C, ?_, fun _ _ => rfl⟩, fun C' O' => ?_⟩
        · have h2' := h2
          rw [btw_i (by decide)] at h2'
          by_cases z : c < 0
          · simp only [f_X6_floods, f_X6_floods_b21, ↓b_rdC, ↓Sum.elim_inr, ↓Sum.elim_inl, ↓bnd (needJ_y hc h0), ↓bnd (nT15_y h1), z, ↓reduceIte]
          · have z2 : ¬ c ≤ 10 := by
              rw [Int32.le_iff_toInt_le, show (10 : Int32).toInt = 10 by decide]
              rw [lt0_i] at z
              omega
            simp only [f_X6_floods, f_X6_floods_b21, ↓b_rdC, ↓Sum.elim_inr, ↓Sum.elim_inl, ↓bnd (needJ_y hc h0), ↓bnd (nT15_y h1), z, z2, ↓reduceIte]
        · obtain ⟨M', f1, f2, f3⟩ := QM_fail (N := N) (C := C') (M := M) (K := K) (O := O') (k := 2) (kv := 2) rfl
          refine ⟨0, M', ?_, f2, f3⟩
          simp only [f_X7_floods_b43, f_X7_floods, ↓b_wrM, ↓b_rdM, ↓reduceIte, show ¬ (1 : Int32) = 0 by decide, ↓bnd (isJ_y m0.2.1 hm.1 h0), ↓bnd (bT15_y h1), ↓bnd (bT010_n h2), ↓bnd f1]
    · refine ⟨.inl 2, ⟨C, ?_, fun _ _ => rfl⟩, fun C' O' => ?_⟩
      · simp only [f_X6_floods_b21, f_X6_floods_b139, f_X6_floods_b95, f_X6_floods_b78, f_X6_floods_b56, f_X6_floods_b38, f_X6_floods, ↓b_rdC, ↓Sum.elim_inr, ↓Sum.elim_inl, ↓bnd (needJ_y hc h0), ↓bnd (nT15_n h1)]
      · obtain ⟨M', f1, f2, f3⟩ := QM_fail (N := N) (C := C') (M := M) (K := K) (O := O') (k := 2) (kv := 2) rfl
        refine ⟨0, M', ?_, f2, f3⟩
        simp only [f_X7_floods_b43, f_X7_floods_b140, f_X7_floods_b104, f_X7_floods_b78, f_X7_floods_b64, f_X7_floods, ↓b_wrM, ↓b_rdM, ↓reduceIte, show ¬ (1 : Int32) = 0 by decide, ↓bnd (isJ_y m0.2.1 hm.1 h0), ↓bnd (bT15_n h1), ↓bnd f1]
  · refine ⟨.inl 1, ⟨C, ?_, fun _ _ => rfl⟩, fun C' O' => ?_⟩
    · simp only [f_X6_floods_b21, f_X6_floods_b139, f_X6_floods_b95, f_X6_floods_b78, f_X6_floods_b56, f_X6_floods_b38, f_X6_floods, ↓b_rdC, ↓Sum.elim_inr, ↓Sum.elim_inl, ↓bnd (needJ_n hc h0)]
    · obtain ⟨M', f1, f2, f3⟩ := QM_fail (N := N) (C := C') (M := M) (K := K) (O := O') (k := 1) (kv := 1) rfl
      refine ⟨0, M', ?_, f2, f3⟩
      simp only [f_X7_floods_b43, f_X7_floods_b140, f_X7_floods_b104, f_X7_floods_b78, f_X7_floods_b64, f_X7_floods, ↓b_wrM, ↓b_rdM, ↓reduceIte, show ¬ (1 : Int32) = 0 by decide, ↓bnd (isJ_n m0.2.1 hm.1 h0), ↓bnd f1]
end S49
