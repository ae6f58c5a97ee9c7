/-! the panel: the reference; panel, seat -/
def MT (G : GT) (W : ST) (s0 : Nat) (M : ST) : Prop := ∀ s u, s0 ≤ s → s ≤ gsd G → u < 2 ^ gJ G → M 97 (s * 256 + u) = nI (lv (gsd G - s) (PG W (ljG G) (gsd G) (gJ G) (gsd G - s) u))
def pvo (W : ST) (lj : Nat → Nat) (n J : Nat) : Nat → Int32
  | 0 => -1
  | k + 1 => ow W lj n J k
theorem divI {a b : Nat} (ha : a < 100000) (hb : 0 < b) (hb2 : b < 100000) : nI a / nI b = nI (a / b) := by
  apply Int32.toInt_inj.mp
  have : a / b ≤ a := Nat.div_le_self a b
  rw [Int32.toInt_div_of_ne_left _ _ (by intro q; have := congrArg Int32.toInt q; rw [nI_toInt (by omega)] at this; revert this; simp), nI_toInt (by omega), nI_toInt (by omega), nI_toInt (by omega)]
  rw [Int.tdiv_eq_ediv_of_nonneg (by omega)]
  omega
theorem subI {a b : Nat} (h : a ≤ b) : nI b - nI a = nI (b - a) := by
  have e : nI b = nI (b - a) + nI a := by rw [nI_add]; exact congrArg nI (by omega)
  rw [e, Int32.add_sub_cancel]
section S64
variable {C C' M M0 M1 W : ST} {K : KT} {O : Nat → Int64} {N : Nat} {G : GT} {s u j : Nat} {c v1 : Int32}
theorem EQ_97 (h : ∀ a, a ≠ 97 → M1 a = M a) : EQm M M1 := by
  refine ⟨⟨fun a ha => h a (by rintro rfl; exact ha (by simp [scr])), fun k _ _ _ _ _ => by rw [h 71 (by decide)]⟩, by rw [h 71 (by decide)], fun j _ => ⟨by rw [h 87 (by decide)], by rw [h 88 (by decide)], by rw [h 89 (by decide)]⟩, fun r _ => ⟨by rw [h 90 (by decide)], by rw [h 91 (by decide)]⟩⟩
theorem fdk_1 {s : Int32} {k : Nat} : (fdk s k = 0) ↔ ¬ ((s >>> (nI k &&& 31)) &&& 1) = 1 := by
  unfold fdk
  by_cases h : ((s >>> (nI k &&& 31)) &&& 1) = 1
  · rw [if_pos h]
    exact ⟨fun z => absurd z (by decide), fun z => absurd h z⟩
  · rw [if_neg h]
    exact ⟨fun _ => h, fun _ => rfl⟩
set_option maxHeartbeats 4000000 in
theorem may_m (hG : okG G) (hW : RWm G false M W) (hj : j < gJ G) : f_X7_may N (HP C M K O) 71 (nI s) (nI j) (nI u) = some (b2i (mayB W s j u), HP C M K O) := by
  have j8 : j < 8 := by have := hG.2.2.1; omega
  have e3 := (hW.2.2.1 j hj).2.2.1
  unfold mayB
  by_cases h1 : ((nI u >>> (nI j &&& 31)) &&& 1) = 1
  · have h0 : ¬ fdk (nI u) j = 0 := fun z => fdk_1.mp z h1
    simp only [f_X7_may, f_X7_may_b25, ↓bnd isOf_m, h0, h1, ↓reduceIte, not_true_eq_false, decide_false, Bool.false_and, show b2i false = 0 from rfl]
  · have h0 : fdk (nI u) j = 0 := fdk_1.mpr h1
    by_cases h2 : ((W 3 j >>> (nI s &&& 31)) &&& 1) = 1
    · have h3 : ¬ fdk (W 3 j) s = 0 := fun z => fdk_1.mp z h2
      simp only [f_X7_may, f_X7_may_b25, ↓bnd isOf_m, h0, ↓reduceIte, ↓b_rdM, ↓b_raM, j8, e3, h1, h2, h3, not_false_eq_true, decide_true, Bool.and_self, show b2i true = 1 from rfl]
    · have h3 : fdk (W 3 j) s = 0 := fdk_1.mpr h2
      simp only [f_X7_may, f_X7_may_b25, ↓bnd isOf_m, h0, ↓reduceIte, ↓b_rdM, ↓b_raM, j8, e3, h2, h3, decide_false, Bool.and_false, show b2i false = 0 from rfl]
set_option maxHeartbeats 4000000 in
theorem goesOn_m (hG : okG G) (hs : s < gsd G) (hu : u < 2 ^ gJ G) (hT : MT G W (s + 1) M) : f_X7_goesOn N (HP C M K O) 71 (nI s) (nI u) = some (nI (lv (gsd G - (s + 1)) (PG W (ljG G) (gsd G) (gJ G) (gsd G - (s + 1)) u)), HP C M K O) := by
  have hJ := hG.2.2.1
  have hn := hG.1.2
  have p8 := p2_8 hJ
  have e97 := hT (s + 1) u (Nat.le_refl _) (by omega) hu
  have l97 : (s + 1) * 256 + u < 2304 := by omega
  have ei : ((nI s + 1) <<< ((8 : Int32) &&& 31)) + nI u = nI ((s + 1) * 256 + u) := by rw [nI_1, ix8 (by omega)]
  unfold f_X7_goesOn
  rw [ei]
  simp only [↓b_rdM, ↓b_raM, l97, e97]
set_option maxHeartbeats 4000000 in
theorem least_m (hm : MI M0 G W) (hl : ∀ j, j < gJ G → W 4 j = gln G j) (hf : ∀ a, a ≠ 97 → M a = M0 a) (hs : s < gsd G) (hu : u < 2 ^ gJ G) (hT : MT G W (s + 1) M) (hN : 1000 ≤ N) : itr (fun q : Int32 × Int32 × AH => f_X7_tellPanel_l76 N 71 (nI s) (nI u) q.1 q.2.1 q.2.2) N (1000 + nI (lv (gsd G - (s + 1)) (PG W (ljG G) (gsd G) (gJ G) (gsd G - (s + 1)) u)), 0, HP C M K O) = some (nI (lv (gsd G - s) (PG W (ljG G) (gsd G) (gJ G) (gsd G - s) u)), HP C M K O) := by
  have mM := MI_EQ hm (EQ_97 hf)
  have hJ := hm.1.2.2.1
  have hn := hm.1.1.2
  have p8 := p2_8 hJ
  have eJ := mM.2.1.2.2.1
  have hle := ljG_le (G := G)
  have em : gsd G - s = gsd G - (s + 1) + 1 := by omega
  have ek : gsd G - (gsd G - (s + 1) + 1) = s := by omega
  have A := itr_seq (body := fun q : Int32 × Int32 × AH => f_X7_tellPanel_l76 N 71 (nI s) (nI u) q.1 q.2.1 q.2.2) (fun j => (nI (lv (gsd G - (s + 1) + 1) (fob (PG W (ljG G) (gsd G) (gJ G) (gsd G - (s + 1))) (ljG G) u (fun j => mayB W s j u) j)), nI j, HP C M K O)) (n := gJ G) (r := (nI (lv (gsd G - (s + 1) + 1) (fob (PG W (ljG G) (gsd G) (gJ G) (gsd G - (s + 1))) (ljG G) u (fun j => mayB W s j u) (gJ G))), HP C M K O)) ?_ ?_ (N := N) (by omega)
  · have A' : itr (fun q : Int32 × Int32 × AH => f_X7_tellPanel_l76 N 71 (nI s) (nI u) q.1 q.2.1 q.2.2) N (nI (lv (gsd G - (s + 1) + 1) (PG W (ljG G) (gsd G) (gJ G) (gsd G - (s + 1)) u)), 0, HP C M K O) = some (nI (lv (gsd G - (s + 1) + 1) (fob (PG W (ljG G) (gsd G) (gJ G) (gsd G - (s + 1))) (ljG G) u (fun j => mayB W s j u) (gJ G))), HP C M K O) := A
    rw [lv_base (okP_PG hle _ _), A', em]
    simp only [PG, ek]
  · intro j hj
    have j8 : j < 8 := by omega
    have hmy := may_m (N := N) (C := C) (K := K) (O := O) (s := s) (u := u) hm.1 mM.2.2.1 hj
    have e85 : M 85 j = nI (ljG G j) := ((mM.2.2.1.2.2.1 j hj).2.2.2.1).trans ((hl j hj).trans (ljG_e hm.1 hj))
    have eo := (orbit j j8 u (by omega)).1
    have hg := goesOn_m (N := N) (C := C) (K := K) (O := O) hm.1 hs (or_lt hu hj) hT
    by_cases y : mayB W s j u = true
    · rw [y] at hmy
      simp only [f_X7_tellPanel_l76, f_X7_tellPanel_b124, ↓b_rdM, ↓b_rlM, eJ, nle hj (by omega), ↓reduceIte, ↓bnd hmy, show b2i true = 1 from rfl, show ¬ (1 : Int32) = 0 by decide, ↓b_raM, j8, e85, eo, ↓bnd hg, fob, y, nI_1, lv_cnd (okP_PG hle _), jmn_lv (show gsd G - (s + 1) + 1 ≤ 9 by omega) (okP_fob (okP_PG hle _) hle j) (okP_cnd (okP_PG hle _) hle)]
    · have y' : mayB W s j u = false := by simpa using y
      rw [y'] at hmy
      simp only [f_X7_tellPanel_l76, f_X7_tellPanel_b124, ↓b_rdM, ↓b_rlM, eJ, nle hj (by omega), ↓reduceIte, ↓bnd hmy, show b2i false = 0 from rfl, fob, y', Bool.false_eq_true, nI_1]
  · simp only [f_X7_tellPanel_l76, ↓b_rdM, ↓b_rlM, eJ, yle (Nat.le_refl (gJ G)) (by omega), ↓reduceIte]
set_option maxHeartbeats 4000000 in
theorem tellA_m (hm : MI M G W) (hN : 1000 ≤ N) : ∃ M', itr (fun q : Int32 × AH => f_X7_tellPanel_l9 N 71 (nI (gsd G)) q.1 q.2) N (0, HP C M K O) = some (HP C M' K O) ∧ (∀ a, a ≠ 97 → M' a = M a) ∧ MT G W (gsd G) M' := by
  have hJ := hm.1.2.2.1
  have hn := hm.1.1.2
  have p8 := p2_8 hJ
  have A := itr_inv (body := fun q : Int32 × AH => f_X7_tellPanel_l9 N 71 (nI (gsd G)) q.1 q.2)
    (fun u q => ∃ M', q = (nI u, HP C M' K O) ∧ (∀ a, a ≠ 97 → M' a = M a) ∧ ∀ i, i < u → M' 97 (gsd G * 256 + i) = 0)
    (P := fun r => ∃ M', r = HP C M' K O ∧ (∀ a, a ≠ 97 → M' a = M a) ∧ ∀ i, i < 2 ^ gJ G → M' 97 (gsd G * 256 + i) = 0) (n := 2 ^ gJ G) ?_ ?_ (s := (0, HP C M K O)) ⟨M, rfl, fun _ _ => rfl, fun i hi => absurd hi (Nat.not_lt_zero i)⟩ (N := N) (by omega)
  · obtain ⟨r, a1, M1, e, a2, a3⟩ := A
    rw [e] at a1
    refine ⟨M1, a1, a2, fun s u h1 h2 h3 => ?_⟩
    have : s = gsd G := by omega
    subst this
    rw [a3 u h3, Nat.sub_self]
    rfl
  · rintro u q hu ⟨M1, rfl, h1, h2⟩
    left
    have eJ : M1 75 2 = nI (gJ G) := by rw [h1 75 (by decide)]; exact hm.2.1.2.2.1
    have l97 : gsd G * 256 + u < 2304 := by omega
    refine ⟨(nI (u + 1), HP C (up M1 97 (gsd G * 256 + u) 0) K O), ?_, _, rfl, fun a ha => (up_o ha).trans (h1 a ha), fun i hi => ?_⟩
    · simp only [f_X7_tellPanel_l9, ↓b_rdM, ↓b_rlM, eJ, sh_11 _ (show gJ G < 11 by omega), nle hu (by omega), ↓reduceIte, ix8 (show gsd G < 10 by omega), ↓b_waM, l97, nI_1]
    · rw [up_s]; unfold upd; split
      · rfl
      · exact h2 i (by omega)
  · rintro q ⟨M1, rfl, h1, h2⟩
    have eJ : M1 75 2 = nI (gJ G) := by rw [h1 75 (by decide)]; exact hm.2.1.2.2.1
    refine ⟨_, ?_, M1, rfl, h1, h2⟩
    simp only [f_X7_tellPanel_l9, ↓b_rdM, ↓b_rlM, eJ, sh_11 _ (show gJ G < 11 by omega), yle (Nat.le_refl (2 ^ gJ G)) (by omega), ↓reduceIte]
set_option maxHeartbeats 4000000 in
theorem tellB_m (hm : MI M0 G W) (hl : ∀ j, j < gJ G → W 4 j = gln G j) (hf : ∀ a, a ≠ 97 → M a = M0 a) (hs : s < gsd G) (hT : MT G W (s + 1) M) (hN : 1000 ≤ N) : ∃ M', itr (fun q : Int32 × AH => f_X7_tellPanel_l49 N 71 (nI s) q.1 q.2) N (0, HP C M K O) = some (HP C M' K O) ∧ (∀ a, a ≠ 97 → M' a = M0 a) ∧ MT G W s M' := by
  have hJ := hm.1.2.2.1
  have hn := hm.1.1.2
  have p8 := p2_8 hJ
  have A := itr_inv (body := fun q : Int32 × AH => f_X7_tellPanel_l49 N 71 (nI s) q.1 q.2)
    (fun u q => ∃ M', q = (nI u, HP C M' K O) ∧ (∀ a, a ≠ 97 → M' a = M0 a) ∧ MT G W (s + 1) M' ∧ ∀ i, i < u → M' 97 (s * 256 + i) = nI (lv (gsd G - s) (PG W (ljG G) (gsd G) (gJ G) (gsd G - s) i)))
    (P := fun r => ∃ M', r = HP C M' K O ∧ (∀ a, a ≠ 97 → M' a = M0 a) ∧ MT G W s M') (n := 2 ^ gJ G) ?_ ?_ (s := (0, HP C M K O)) ⟨M, rfl, hf, hT, fun i hi => absurd hi (Nat.not_lt_zero i)⟩ (N := N) (by omega)
  · obtain ⟨r, a1, M1, e, a2, a3⟩ := A
    rw [e] at a1
    exact ⟨M1, a1, a2, a3⟩
  · rintro u q hu ⟨M1, rfl, h1, h2, h3⟩
    left
    have eJ : M1 75 2 = nI (gJ G) := by rw [h1 75 (by decide)]; exact hm.2.1.2.2.1
    have l97 : s * 256 + u < 2304 := by omega
    have hb := least_m (N := N) (C := C) (K := K) (O := O) hm hl h1 hs hu h2 hN
    have hg := goesOn_m (N := N) (C := C) (K := K) (O := O) hm.1 hs hu h2
    refine ⟨(nI (u + 1), HP C (up M1 97 (s * 256 + u) (nI (lv (gsd G - s) (PG W (ljG G) (gsd G) (gJ G) (gsd G - s) u)))) K O), ?_, _, rfl, fun a ha => (up_o ha).trans (h1 a ha), fun s' u' x y z => ?_, fun i hi => ?_⟩
    · simp only [f_X7_tellPanel_l49, f_X7_tellPanel_b76, ↓b_rdM, ↓b_rlM, eJ, sh_11 _ (show gJ G < 11 by omega), nle hu (by omega), ↓reduceIte, ↓bnd hg, hb, Option.bind_some, ix8 (show s < 10 by omega), ↓b_waM, l97, nI_1]
    · rw [up_s, upd_o (by omega)]
      exact h2 s' u' x y z
    · rw [up_s]; unfold upd; split
      · rename_i z
        rw [show i = u by omega]
      · exact h3 i (by omega)
  · rintro q ⟨M1, rfl, h1, h2, h3⟩
    have eJ : M1 75 2 = nI (gJ G) := by rw [h1 75 (by decide)]; exact hm.2.1.2.2.1
    refine ⟨_, ?_, M1, rfl, h1, fun s' u' x y z => ?_⟩
    · simp only [f_X7_tellPanel_l49, ↓b_rdM, ↓b_rlM, eJ, sh_11 _ (show gJ G < 11 by omega), yle (Nat.le_refl (2 ^ gJ G)) (by omega), ↓reduceIte]
    · rcases Nat.lt_or_ge s s' with w | w
      · exact h2 s' u' w y z
      · rw [show s' = s by omega]
        exact h3 u' z
set_option maxHeartbeats 4000000 in
theorem tellPanel_m (hm : MI M G W) (hl : ∀ j, j < gJ G → W 4 j = gln G j) (hN : 1000 ≤ N) : ∃ M', f_X7_tellPanel N (HP C M K O) 71 = some (HP C M' K O) ∧ (∀ a, a ≠ 97 → M' a = M a) ∧ MT G W 0 M' := by
  have hn := hm.1.1.2
  have eS := hm.2.1.1
  obtain ⟨M1, a1, a2, a3⟩ := tellA_m (C := C) (K := K) (O := O) hm hN
  have A := itr_inv (body := fun q : Int32 × AH => f_X7_tellPanel_l43 N 71 q.1 q.2)
    (fun t q => ∃ M', q = (nI (gsd G - t) - 1, HP C M' K O) ∧ (∀ a, a ≠ 97 → M' a = M a) ∧ MT G W (gsd G - t) M')
    (P := fun r => ∃ M', r = HP C M' K O ∧ (∀ a, a ≠ 97 → M' a = M a) ∧ MT G W 0 M') (n := gsd G) ?_ ?_ (s := (nI (gsd G) - 1, HP C M1 K O)) ⟨M1, rfl, a2, a3⟩ (N := N) (by omega)
  · obtain ⟨r, b1, M2, e, b2⟩ := A
    rw [e] at b1
    refine ⟨M2, ?_, b2⟩
    simp only [f_X7_tellPanel, f_X7_tellPanel_b9, f_X7_tellPanel_b43, ↓b_rdM, ↓b_rlM, eS, a1, Option.bind_some, b1]
  · rintro t q ht ⟨M2, rfl, h1, h2⟩
    left
    have e1 : gsd G - t = gsd G - (t + 1) + 1 := by omega
    rw [e1] at h2
    obtain ⟨M3, b1, b2, b3⟩ := tellB_m (C := C) (K := K) (O := O) hm hl h1 (show gsd G - (t + 1) < gsd G by omega) h2 hN
    refine ⟨(nI (gsd G - (t + 1)) - 1, HP C M3 K O), ?_, M3, rfl, b2, b3⟩
    rw [e1, nI_pred]
    simp only [f_X7_tellPanel_l43, f_X7_tellPanel_b49, nI_pos (n := gsd G - (t + 1)) (by omega), ↓reduceIte, b1, Option.bind_some, sub1]
  · rintro q ⟨M2, rfl, h1, h2⟩
    rw [Nat.sub_self] at h2
    refine ⟨_, ?_, M2, rfl, h1, h2⟩
    rw [Nat.sub_self]
    simp only [f_X7_tellPanel_l43, show nI 0 - 1 < 0 by decide, ↓reduceIte]
set_option maxHeartbeats 4000000 in
theorem own_m (hm : MI M0 G W) (hl : ∀ j, j < gJ G → W 4 j = gln G j) (hf : ∀ a, a ≠ 97 → M a = M0 a) (hs : s < gsd G) (hu : u < 2 ^ gJ G) (hT : MT G W 0 M) (hN : 1000 ≤ N) : itr (fun q : Int32 × Int32 × AH => f_X7_seat_l48 N 71 v1 (nI u) (nI s) q.1 q.2.1 q.2.2) N (-1, nI (gJ G) - 1, HP C M K O) = some (lo (hit W (ljG G) (gsd G) (gJ G) (gsd G - (s + 1)) u) (gJ G) (gJ G), HP C M K O) := by
  have mM := MI_EQ hm (EQ_97 hf)
  have hJ := hm.1.2.2.1
  have hn := hm.1.1.2
  have p8 := p2_8 hJ
  have hle := ljG_le (G := G)
  have em : gsd G - s = gsd G - (s + 1) + 1 := by omega
  have ek : gsd G - (gsd G - (s + 1) + 1) = s := by omega
  have e97 := hT s u (Nat.zero_le _) (by omega) hu
  rw [em] at e97
  have l97 : s * 256 + u < 2304 := by omega
  have hT1 : MT G W (s + 1) M := fun s' u' x y z => hT s' u' (Nat.zero_le _) y z
  refine itr_seq (body := fun q : Int32 × Int32 × AH => f_X7_seat_l48 N 71 v1 (nI u) (nI s) q.1 q.2.1 q.2.2) (fun t => (lo (hit W (ljG G) (gsd G) (gJ G) (gsd G - (s + 1)) u) (gJ G) t, nI (gJ G - t) - 1, HP C M K O)) (n := gJ G) ?_ ?_ (N := N) (by omega)
  · intro t ht
    have e1 : gJ G - t = gJ G - (t + 1) + 1 := by omega
    obtain ⟨j, ej⟩ : ∃ j, j = gJ G - (t + 1) := ⟨_, rfl⟩
    have hj : j < gJ G := by omega
    have j8 : j < 8 := by omega
    rw [lo, e1, nI_pred, ← ej]
    have hmy := may_m (N := N) (C := C) (K := K) (O := O) (s := s) (u := u) hm.1 mM.2.2.1 hj
    have e85 : M 85 j = nI (ljG G j) := ((mM.2.2.1.2.2.1 j hj).2.2.2.1).trans ((hl j hj).trans (ljG_e hm.1 hj))
    have eo := (orbit j j8 u (by omega)).1
    have hg := goesOn_m (N := N) (C := C) (K := K) (O := O) hm.1 hs (or_lt hu hj) hT1
    have np := nI_pos (n := j) (by omega)
    have hh : hit W (ljG G) (gsd G) (gJ G) (gsd G - (s + 1)) u j = (mayB W s j u && decide (cnd (PG W (ljG G) (gsd G) (gJ G) (gsd G - (s + 1))) (ljG G) u j = PG W (ljG G) (gsd G) (gJ G) (gsd G - (s + 1) + 1) u)) := by unfold hit; rw [ek]
    by_cases y : mayB W s j u = true
    · rw [y] at hmy
      rw [y, Bool.true_and] at hh
      have hw9 := lv_eq (show gsd G - (s + 1) + 1 ≤ 9 by omega) (okP_cnd (u := u) (j := j) (okP_PG (W := W) (n := gsd G) (J := gJ G) hle (gsd G - (s + 1))) hle) (okP_PG (W := W) (n := gsd G) (J := gJ G) hle (gsd G - (s + 1) + 1) u)
      by_cases z : cnd (PG W (ljG G) (gsd G) (gJ G) (gsd G - (s + 1))) (ljG G) u j = PG W (ljG G) (gsd G) (gJ G) (gsd G - (s + 1) + 1) u
      · have hh' : hit W (ljG G) (gsd G) (gJ G) (gsd G - (s + 1)) u j = true := by rw [hh]; exact decide_eq_true z
        rw [if_pos hh']
        simp only [f_X7_seat_l48, f_X7_seat_b103, np, ↓reduceIte, ↓b_rdM, ↓bnd hmy, show b2i true = 1 from rfl, show ¬ (1 : Int32) = 0 by decide, ↓b_raM, j8, e85, eo, ↓bnd hg, ix8 (show s < 10 by omega), l97, e97, lv_cnd (okP_PG hle _), hw9.mpr z, sub1]
      · have hh' : ¬ hit W (ljG G) (gsd G) (gJ G) (gsd G - (s + 1)) u j = true := by rw [hh]; simpa using z
        rw [if_neg hh']
        have z' : ¬ nI (lv (gsd G - (s + 1) + 1) (cnd (PG W (ljG G) (gsd G) (gJ G) (gsd G - (s + 1))) (ljG G) u j)) = nI (lv (gsd G - (s + 1) + 1) (PG W (ljG G) (gsd G) (gJ G) (gsd G - (s + 1) + 1) u)) := fun q => z (hw9.mp q)
        simp only [f_X7_seat_l48, f_X7_seat_b103, np, ↓reduceIte, ↓b_rdM, ↓bnd hmy, show b2i true = 1 from rfl, show ¬ (1 : Int32) = 0 by decide, ↓b_raM, j8, e85, eo, ↓bnd hg, ix8 (show s < 10 by omega), l97, e97, lv_cnd (okP_PG hle _), z', sub1]
    · have y' : mayB W s j u = false := by simpa using y
      rw [y'] at hmy
      rw [y', Bool.false_and] at hh
      rw [if_neg (by rw [hh]; decide)]
      simp only [f_X7_seat_l48, f_X7_seat_b103, np, ↓reduceIte, ↓b_rdM, ↓bnd hmy, show b2i false = 0 from rfl, sub1]
  · rw [Nat.sub_self]
    simp only [f_X7_seat_l48, show nI 0 - 1 < 0 by decide, ↓reduceIte]
set_option maxHeartbeats 4000000 in
theorem g_panel (hl : ∀ j, j < gJ G → W 4 j = gln G j) (hc : CI K C G W) (hm : MI M G W) (hN : 1000 ≤ N) (hw : btw c 0 1) : ∃ r, QC K C M O (f_X6_panel N (HP C M K O) 0 c) r ∧ ∀ C' O', QM C' M K O' (f_X7_panel N (HP C' M K O') 71 c) r := by
  have m0 := m0_of hm
  have hn := hm.1.1.2
  obtain ⟨C1, a1, a2, a3, a4, a5⟩ := fill_p (M := M) (O := O) hc hN
  obtain ⟨p, ep⟩ : ∃ p, p = PG W (ljG G) (gsd G) (gJ G) (gsd G) 0 := ⟨_, rfl⟩
  have hp : okP (gsd G) p := by rw [ep]; exact okP_PG (ljG_le (G := G)) _ _
  rw [← ep] at a3 a4
  refine ⟨.inr (if c = 0 then nI p.1 else nI p.2), ⟨C1, ?_, a2⟩, fun C' O' => ?_⟩
  · simp only [f_X6_panel, ↓bnd (nW1_y hw), ↓Sum.elim_inr, ↓b_rdC, ↓bnd a1, a3, a4]
    split <;> rfl
  · obtain ⟨M1, b1, b2, b3⟩ := tellPanel_m (C := C') (K := K) (O := O') m0 hl hN
    have e0 := b3 0 0 (Nat.le_refl _) (Nat.zero_le _) (Nat.two_pow_pos _)
    rw [Nat.sub_zero, ← ep] at e0
    have e0' : M1 97 0 = nI (lv (gsd G) p) := e0
    have eS : M1 75 0 = nI (gsd G) := by rw [b2 75 (by decide)]; exact m0.2.1.1
    obtain ⟨h1, h2⟩ := hp
    have lt : lv (gsd G) p < 100000 := by unfold lv; omega
    have x1 : nI (lv (gsd G) p) / 1000 = nI (gsd G - p.1) := by
      have := divI (a := lv (gsd G) p) (b := 1000) lt (by decide) (by decide)
      rw [show nI 1000 = 1000 from rfl] at this
      rw [this]
      unfold lv
      exact congrArg nI (by omega)
    have x2 : nI (gsd G) - nI (gsd G - p.1) = nI p.1 := by
      rw [subI (by omega)]
      exact congrArg nI (by omega)
    have x3 : nI (lv (gsd G) p) - nI (gsd G - p.1) * 1000 = nI p.2 := by
      have e : nI (gsd G - p.1) * 1000 = nI ((gsd G - p.1) * 1000) := by
        show nI (gsd G - p.1) * nI 1000 = _
        unfold nI; rw [← Int32.ofNat_mul]
      rw [e, subI (by unfold lv; omega)]
      unfold lv
      exact congrArg nI (by omega)
    refine ⟨_, M1, ?_, EQm_trans (EQ_code M 0) (EQ_97 b2), ?_, rfl⟩
    · simp only [f_X7_panel, ↓b_wrM, ↓b_rdM, ↓bnd (bW1_y hw), ↓reduceIte, show ¬ (1 : Int32) = 0 by decide, ↓bnd b1, ↓b_rlM, e0', eS, x1, x2, x3]
      split <;> rfl
    · rw [b2 71 (by decide)]; exact code_s M 0
set_option maxHeartbeats 4000000 in
theorem q_panel (hl : ∀ j, j < gJ G → W 4 j = gln G j) (hc : CI K C G W) (hm : MI M G W) (hN : 1000 ≤ N) : ∃ r, QC K C M O (f_X6_panel N (HP C M K O) 0 c) r ∧ ∀ C' O', QM C' M K O' (f_X7_panel N (HP C' M K O') 71 c) r := by
  by_cases h0 : btw c 0 1
  · exact g_panel hl hc hm hN h0
  · refine ⟨.inl 1, ⟨C, ?_, fun _ _ => rfl⟩, fun C' O' => ?_⟩
    · simp only [f_X6_panel, ↓b_rdC, ↓Sum.elim_inr, ↓Sum.elim_inl, ↓bnd (nW1_n h0)]
    · obtain ⟨M', f1, f2, f3⟩ := QM_fail (N := N) (C := C') (M := M) (K := K) (O := O') (k := 1) (kv := 1) rfl
      refine ⟨0, M', ?_, f2, f3⟩
      simp only [f_X7_panel, ↓b_wrM, ↓b_rdM, ↓reduceIte, ↓bnd (bW1_n h0), ↓bnd f1]
set_option maxHeartbeats 4000000 in
theorem g_seat (hl : ∀ j, j < gJ G → W 4 j = gln G j) (hc : CI K C G W) (hm : MI M G W) (hN : 1000 ≤ N) (hw : inR c (gsd G)) : ∃ r, QC K C M O (f_X6_seat N (HP C M K O) 0 c) r ∧ ∀ C' O', QM C' M K O' (f_X7_seat N (HP C' M K O') 71 c) r := by
  have m0 := m0_of hm
  have hn := hm.1.1.2
  have hJ := hm.1.2.2.1
  have p8 := p2_8 hJ
  have hul := us_lt (W := W) (lj := ljG G) (n := gsd G) hJ
  have hw' := hw
  obtain ⟨t, ht, rfl⟩ := hw'
  have t8 : t < 8 := by omega
  obtain ⟨C1, a1, a2, a3, a4, a5⟩ := fill_p (M := M) (O := O) hc hN
  refine ⟨.inr (ow W (ljG G) (gsd G) (gJ G) t), ⟨C1, ?_, a2⟩, fun C' O' => ?_⟩
  · simp only [f_X6_seat, ↓b_rdC, ↓bnd (needS_y hc hw), ↓Sum.elim_inr, ↓bnd a1, ↓b_raC, t8, a5 t ht]
  · obtain ⟨M1, b1, b2, b3⟩ := tellPanel_m (C := C') (K := K) (O := O') m0 hl hN
    have eJ : M1 75 2 = nI (gJ G) := by rw [b2 75 (by decide)]; exact m0.2.1.2.2.1
    have A := itr_seq (body := fun q : Int32 × Int32 × Int32 × AH => f_X7_seat_l30 N 71 (nI t) q.1 q.2.1 q.2.2.1 q.2.2.2) (fun k => (nI (us W (ljG G) (gsd G) (gJ G) k), pvo W (ljG G) (gsd G) (gJ G) k, nI k, HP C' M1 K O')) (n := t + 1) (r := (ow W (ljG G) (gsd G) (gJ G) t, HP C' M1 K O')) ?_ ?_ (N := N) (by omega)
    · have A' : itr (fun q : Int32 × Int32 × Int32 × AH => f_X7_seat_l30 N 71 (nI t) q.1 q.2.1 q.2.2.1 q.2.2.2) N (0, -1, 0, HP C' M1 K O') = some (ow W (ljG G) (gsd G) (gJ G) t, HP C' M1 K O') := A
      refine ⟨ow W (ljG G) (gsd G) (gJ G) t, M1, ?_, EQm_trans (EQ_code M 0) (EQ_97 b2), ?_, rfl⟩
      · simp only [f_X7_seat, f_X7_seat_b30, ↓b_wrM, ↓b_rdM, ↓bnd (isS_y m0.2.1 hm.1 hw), ↓reduceIte, show ¬ (1 : Int32) = 0 by decide, ↓bnd b1, A', Option.bind_some]
      · rw [b2 71 (by decide)]; exact code_s M 0
    · intro k hk
      have n1 : ¬ nI t < nI k := nI_nlt (by omega) (by omega)
      have ho : itr (fun q : Int32 × Int32 × AH => f_X7_seat_l48 N 71 (nI t) (nI (us W (ljG G) (gsd G) (gJ G) k)) (nI k) q.1 q.2.1 q.2.2) N (-1, nI (gJ G) - 1, HP C' M1 K O') = some (ow W (ljG G) (gsd G) (gJ G) k, HP C' M1 K O') := own_m (v1 := nI t) m0 hl b2 (show k < gsd G by omega) (hul k) b3 hN
      rcases ow_cases (W := W) (lj := ljG G) (n := gsd G) (J := gJ G) k with ⟨o1, o2, o3⟩ | ⟨j, o1, o2, o3, o4⟩
      · rw [o1] at ho
        simp only [f_X7_seat_l30, f_X7_seat_b48, f_X7_seat_b122, n1, ↓reduceIte, ↓b_rdM, ↓b_rlM, eJ, ho, Option.bind_some, Int32.or_zero, nI_1, pvo, o1, o2]
      · have j8 : j < 8 := by omega
        rw [o3] at ho
        have nj : ¬ nI j = -1 := (neg_cases (by omega)).1
        have eo := (orbit j j8 (us W (ljG G) (gsd G) (gJ G) k) (by have := hul k; omega)).1
        simp only [f_X7_seat_l30, f_X7_seat_b48, f_X7_seat_b122, n1, ↓reduceIte, ↓b_rdM, ↓b_rlM, eJ, ho, Option.bind_some, nj, eo, nI_1, pvo, o3, o4 hJ]
    · simp only [f_X7_seat_l30, lte (show t ≤ 1000 by omega), ↓reduceIte, pvo]
set_option maxHeartbeats 4000000 in
theorem q_seat (hl : ∀ j, j < gJ G → W 4 j = gln G j) (hc : CI K C G W) (hm : MI M G W) (hN : 1000 ≤ N) : ∃ r, QC K C M O (f_X6_seat N (HP C M K O) 0 c) r ∧ ∀ C' O', QM C' M K O' (f_X7_seat N (HP C' M K O') 71 c) r := by
  have m0 := m0_of hm
  by_cases h0 : inR c (gsd G)
  · exact g_seat hl hc hm hN h0
  · refine ⟨.inl 1, ⟨C, ?_, fun _ _ => rfl⟩, fun C' O' => ?_⟩
    · simp only [f_X6_seat, ↓b_rdC, ↓Sum.elim_inr, ↓Sum.elim_inl, ↓bnd (needS_n hc h0)]
    · obtain ⟨M', f1, f2, f3⟩ := QM_fail (N := N) (C := C') (M := M) (K := K) (O := O') (k := 1) (kv := 1) rfl
      refine ⟨0, M', ?_, f2, f3⟩
      simp only [f_X7_seat, ↓b_wrM, ↓b_rdM, ↓reduceIte, ↓bnd (isS_n m0.2.1 hm.1 h0), ↓bnd f1]
end S64
