/-! toSet, toSpin, toCall -/
theorem okW_fc {G : GT} {W : ST} {j s : Nat} (h : okW G W) (hs : s < gsd G) : okW G (up W 2 j (nI s)) := by
  obtain ⟨h1, h2⟩ := h
  refine ⟨fun i hi => ?_, fun r hr => ?_⟩
  · have := h1 i hi
    simp only [up, upd, show ¬ 1 = 2 by decide, show ¬ 3 = 2 by decide, show ¬ 4 = 2 by decide, if_false, if_true]
    refine ⟨this.1, ?_, this.2.2⟩
    split
    · exact ⟨s, hs, rfl⟩
    · exact this.2.1
  · have := h2 r hr
    simpa only [up, show ¬ 6 = 2 by decide, show ¬ 7 = 2 by decide, if_false]
theorem okW_sp {G : GT} {W : ST} {j s : Nat} (h : okW G W) (hs : s < 8) : okW G (up W 7 j (nI s)) := by
  obtain ⟨h1, h2⟩ := h
  refine ⟨fun i hi => ?_, fun r hr => ?_⟩
  · have := h1 i hi
    simpa only [up, show ¬ 1 = 7 by decide, show ¬ 2 = 7 by decide, show ¬ 3 = 7 by decide, show ¬ 4 = 7 by decide, if_false]
  · have := h2 r hr
    simp only [up, upd, show ¬ 6 = 7 by decide, if_false, if_true]
    refine ⟨this.1, ?_⟩
    split
    · exact ⟨s, hs, rfl⟩
    · exact this.2
theorem fi_r {G : GT} {p : ST → Bool} {T : ST} : ∀ k, fi G p T k = -1 ∨ ∃ t, t < k ∧ fi G p T k = nI t
  | 0 => .inl rfl
  | k + 1 => by
    unfold fi
    split
    · split
      · right; exact ⟨k, by omega, rfl⟩
      · left; rfl
    · rcases fi_r (G := G) (p := p) (T := T) k with h | ⟨t, ht, h⟩
      · left; exact h
      · right; exact ⟨t, by omega, h⟩
def sooner (w o : Int32) : Prop := ¬ w = -1 ∧ (o = -1 ∨ ¬ o ≤ w)
theorem sooner_c {N : Nat} {h : AH} {w o : Int32} : (sooner w o → f_X6_isSooner N h w o = some (1, h)) ∧ (¬ sooner w o → f_X6_isSooner N h w o = some (0, h)) := by
  unfold sooner f_X6_isSooner f_X6_isSooner_b15 f_X6_isSooner_b19
  by_cases h1 : w = -1
  · exact ⟨fun q => absurd h1 q.1, fun _ => by rw [if_pos h1]⟩
  · rw [if_neg h1]
    by_cases h2 : o = -1
    · exact ⟨fun _ => by rw [if_pos h2], fun q => absurd ⟨h1, .inl h2⟩ q⟩
    · rw [if_neg h2]
      by_cases h3 : o ≤ w
      · exact ⟨fun q => by rcases q.2 with z | z; exact absurd z h2; exact absurd h3 z, fun _ => by rw [if_pos h3]⟩
      · exact ⟨fun _ => by rw [if_neg h3], fun q => absurd ⟨h1, .inr h3⟩ q⟩
theorem nle_lt {a b : Int32} : ¬ a ≤ b ↔ b < a := by rw [Int32.le_iff_toInt_le, Int32.lt_iff_toInt_lt]; omega
theorem bc_k : ∀ s, s < 256 → ¬ bc (nI s) ≤ -1 := by decide +kernel
section S48
variable {C C0 M M1 W T : ST} {K : KT} {O : Nat → Int64} {N : Nat} {G : GT} {b : Bool}
theorem TC_up {i j : Nat} {v : Int32} (hT : TC G C0 C T) (h1 : 1 ≤ i) (h7 : i ≤ 7) (ok : okW G (up T i j v)) : TC G C0 (up C (54 + i) j v) (up T i j v) := ⟨fun a ha => by rw [up_o (by omega)]; exact hT.1 a ha, RW_up h1 h7 hT.2.1, ok⟩
theorem RWm_sp {j : Nat} {v : Int32} (h : RWm G b M W) : RWm G b (up M 91 j v) (up W 7 j v) := by
  unfold RWm at h ⊢
  simp only [up, upd, show ¬ 71 = 91 by decide, show ¬ 87 = 91 by decide, show ¬ 88 = 91 by decide, show ¬ 85 = 91 by decide, show ¬ 89 = 91 by decide, show ¬ 90 = 91 by decide, show ¬ 95 = 91 by decide, show ¬ 0 = 7 by decide, show ¬ 1 = 7 by decide, show ¬ 2 = 7 by decide, show ¬ 4 = 7 by decide, show ¬ 3 = 7 by decide, show ¬ 6 = 7 by decide, show ¬ 5 = 7 by decide, if_false, if_true]
  refine ⟨h.1, h.2.1, h.2.2.1, fun r hr => ⟨(h.2.2.2 r hr).1, ?_⟩⟩
  split
  · rfl
  · exact (h.2.2.2 r hr).2
theorem TQ_up {c i j : Nat} {v : Int32} (h : TQ G b M M1 T) (hc : c = 88 ∨ c = 91) (hw : RWm G b (up M1 c j v) (up T i j v)) (ok : okW G (up T i j v)) : TQ G b M (up M1 c j v) (up T i j v) := by
  refine ⟨⟨⟨fun a ha => ?_, fun k a1 a2 a3 a4 a5 => ?_⟩, fun q hq => ?_, hw, ok⟩, ?_⟩
  · rw [up_o (by rintro rfl; exact ha (by rcases hc with rfl | rfl <;> simp [scr]))]; exact h.1.1.1 a ha
  · rw [up_o (by omega)]; exact h.1.1.2 k a1 a2 a3 a4 a5
  · rw [up_o (by omega)]; exact h.1.2.1 q hq
  · rw [up_o (by omega)]; exact h.2
theorem TQ_go {j : Nat} {y : Nat} (hm : MI M G W) (h : TQ G b M M1 T) (hj : j < gJ G) (hy : y ≤ 3) (hw : T 1 j = -1 ∧ y = 1 ∨ ∃ r, r < gRn G ∧ T 1 j = nI r) : ∃ M', f_X7_goBy N (HP C M1 K O) 71 (nI j) (nI y) = some (HP C M' K O) ∧ TQ G b M M' (goV G T j (nI y)) := by
  obtain ⟨M', q1, q2, q3⟩ := goBy_m (N := N) (C := C) (K := K) (O := O) hm.1 (TQ_g hm h) (TQ_w h) hj (nI y)
  refine ⟨M', q1, ⟨⟨Fz_trans h.1.1 (Fz_FM q3), fun i hi => ?_, q2, okW_go hm.1 (TQ_o h) hj hy hw⟩, (q3.2 4 (by decide) (by decide)).trans h.2⟩⟩
  rw [q3.1 96 (by simp [stC])]
  exact h.1.2.1 i hi
theorem TC_go {j : Nat} {y : Nat} (hc : CI K C0 G W) (h : TC G C0 C T) (hj : j < gJ G) (hy : y ≤ 3) (hw : ∃ r, r < gRn G ∧ T 1 j = nI r) : ∃ C', f_X5_goOn N (HP C M K O) 54 K.1 (nI j) (nI y) = some (HP C' M K O) ∧ TC G C0 C' (goV G T j (nI y)) := by
  have hc1 := CI_of hc h.1
  have h0 : ¬ T 1 j < 0 := by obtain ⟨r, hr, e⟩ := hw; rw [e]; exact nI_pos (by have := hc.2.1.2.1; omega)
  obtain ⟨C', q1, q2, q3⟩ := goOn_c (M := M) (K := K) (O := O) (N := N) hc1.1 w54 hc1.2.1 hc1.2.2.1 h.2.1 hj h0 (nI y)
  exact ⟨C', q1, fun a ha => (q3 a (by omega)).trans (h.1 a ha), q2, okW_go hc.2.1 h.2.2 hj hy (.inr hw)⟩
def tsW (G : GT) (W : ST) (j k : Nat) : Int32 := fi G (fun X => decide (X 3 j = allS G)) (up (clr W) 2 j (nI k)) 61
def ts (G : GT) (W : ST) (j : Nat) : Nat → Int32 × Int32
  | 0 => (-1, -1)
  | k + 1 => if tsW G W j k = -1 then ts G W j k else if (ts G W j k).2 = -1 then (nI k, tsW G W j k) else if (ts G W j k).2 ≤ tsW G W j k then ts G W j k else (nI k, tsW G W j k)
theorem ts_i (G : GT) (W : ST) (j : Nat) : ∀ k, k ≤ 100 → ((ts G W j k).1 = -1 ∧ (ts G W j k).2 = -1) ∨ (¬ (ts G W j k).1 = -1 ∧ ¬ (ts G W j k).2 = -1)
  | 0 => fun _ => .inl ⟨rfl, rfl⟩
  | k + 1 => fun hk => by
    unfold ts
    split
    · exact ts_i G W j k (by omega)
    · rename_i z
      split
      · refine .inr ⟨?_, ?_⟩
        · exact (neg_cases (n := k) (by omega)).1
        · simpa only using z
      · split
        · exact ts_i G W j k (by omega)
        · refine .inr ⟨?_, ?_⟩
          · exact (neg_cases (n := k) (by omega)).1
          · simpa only using z
theorem tsW_lt (G : GT) (W : ST) (j k : Nat) : tsW G W j k < 1000000 := by
  unfold tsW
  rcases fi_r (G := G) (p := (fun X => decide (X 3 j = allS G))) (T := up (clr W) 2 j (nI k)) 61 with h | ⟨t, ht, h⟩
  · rw [h]; decide
  · rw [h]
    exact nI_lt (a := t) (b := 1000000) (by omega) (by decide)
set_option maxHeartbeats 4000000 in
theorem g_toSet {a c : Int32} (hc : CI K C G W) (hm : MI M G W) (hN : 1000 ≤ N) (hj : inR a (gJ G)) (hw : btw c 0 1) : ∃ r, QC K C M O (f_X6_toSet N (HP C M K O) 0 a c) r ∧ ∀ C' O', QM C' M K O' (f_X7_toSet N (HP C' M K O') 71 a c) r := by
  have m0 := m0_of hm
  have hs8 := hm.1.1
  have hj' := hj
  obtain ⟨j, hj1, rfl⟩ := hj'
  have j8 : j < 8 := by have := hm.1.2.2.1; omega
  refine ⟨.inr (if c = 0 then (ts G W j (gsd G)).1 else (ts G W j (gsd G)).2), ?_, fun C' O' => ?_⟩
  · have q := itr_inv (body := fun s : Int32 × Int32 × Int32 × AH => f_X6_toSet_l18 N 0 (nI j) c s.1 s.2.1 s.2.2.1 s.2.2.2)
      (fun k s => ∃ C', s = ((ts G W j k).1, (ts G W j k).2, nI k, HP C' M K O) ∧ ∀ a, a < 54 → C' a = C a)
      (P := fun r => ∃ C', r = ((ts G W j (gsd G)).1, (ts G W j (gsd G)).2, HP C' M K O) ∧ ∀ a, a < 54 → C' a = C a) (n := gsd G) ?_ ?_ (s := (-1, -1, 0, HP C M K O)) ⟨C, rfl, fun _ _ => rfl⟩ (N := N) (by omega)
    · obtain ⟨r, q1, C2, e, q2⟩ := q
      rw [e] at q1
      refine ⟨C2, ?_, q2⟩
      simp only [f_X6_toSet, f_X6_toSet_b18, ↓b_rdC, ↓Sum.elim_inr, ↓bnd (needJ_y hc hj), ↓bnd (nW1_y hw), q1, Option.bind_some]
      split <;> rfl
    · rintro k s hk ⟨C2, rfl, h1⟩
      left
      have hc2 := CI_of hc h1
      obtain ⟨C3, t1, T3⟩ := tryFor0 (M := M) (O := O) hc h1 hN
      have T4 := TC_up (i := 2) (j := j) (v := nI k) T3 (by omega) (by omega) (okW_fc T3.2.2 hk)
      obtain ⟨C5, s1, s2⟩ := tillFair_c (M := M) (O := O) hc T4 hj1 hN
      refine ⟨((ts G W j (k + 1)).1, (ts G W j (k + 1)).2, nI (k + 1), HP C5 M K O), ?_, C5, rfl, s2⟩
      have ew : fi G (fun X => decide (X 3 j = allS G)) (up (clr W) 2 j (nI k)) 61 = tsW G W j k := rfl
      rw [ew] at s1
      by_cases z : sooner (tsW G W j k) (ts G W j k).2
      · have ez : ts G W j (k + 1) = (nI k, tsW G W j k) := by
          unfold ts
          rw [if_neg z.1]
          rcases z.2 with y | y
          · rw [if_pos y]
          · by_cases y2 : (ts G W j k).2 = -1
            · rw [if_pos y2]
            · rw [if_neg y2, if_neg y]
        simp only [f_X6_toSet_l18, f_X6_toSet_b69, ↓b_rdC, ↓b_rG hc.1, hc2.2.2.1.1, nle hk (by omega), ↓reduceIte, ↓bnd t1, ↓b_rW w54, ↓b_wWa w54, j8, ↓bnd s1, ↓bnd (sooner_c.1 z), show ¬ (1 : Int32) = 0 by decide, nI_1, ez]
      · have ez : ts G W j (k + 1) = ts G W j k := by
          conv => lhs; unfold ts
          by_cases y : tsW G W j k = -1
          · rw [if_pos y]
          · rw [if_neg y]
            by_cases y2 : (ts G W j k).2 = -1
            · exact absurd ⟨y, .inl y2⟩ z
            · rw [if_neg y2]
              by_cases y3 : (ts G W j k).2 ≤ tsW G W j k
              · rw [if_pos y3]
              · exact absurd ⟨y, .inr y3⟩ z
        simp only [f_X6_toSet_l18, f_X6_toSet_b69, ↓b_rdC, ↓b_rG hc.1, hc2.2.2.1.1, nle hk (by omega), ↓reduceIte, ↓bnd t1, ↓b_rW w54, ↓b_wWa w54, j8, ↓bnd s1, ↓bnd (sooner_c.2 z), nI_1, ez]
    · rintro s ⟨C2, rfl, h1⟩
      refine ⟨_, ?_, C2, rfl, h1⟩
      simp only [f_X6_toSet_l18, ↓b_rdC, ↓b_rG hc.1, (CI_of hc h1).2.2.1.1, yle (Nat.le_refl (gsd G)) (by omega), ↓reduceIte]
  · obtain ⟨M1, p1, p2⟩ := TQ_pack (C := C') (K := K) (O := O') hm hN
    have q := itr_inv (body := fun s : Int32 × Int32 × Int32 × AH => f_X7_toSet_l48 N 71 (nI j) c s.1 s.2.1 s.2.2.1 s.2.2.2)
      (fun k s => ∃ M', s = ((ts G W j k).1, (if (ts G W j k).2 = -1 then 1000000 else (ts G W j k).2), nI k, HP C' M' K O') ∧ TQ G false M M' (clr W) ∧ (0 < k → RQ M M'))
      (P := fun r => ∃ M', r = ((ts G W j (gsd G)).1, (if (ts G W j (gsd G)).2 = -1 then 1000000 else (ts G W j (gsd G)).2), HP C' M' K O') ∧ RQ M M') (n := gsd G) ?_ ?_ (s := (-1, 1000000, 0, HP C' M1 K O')) ⟨M1, rfl, p2, fun h => absurd h (by decide)⟩ (N := N) (by omega)
    · obtain ⟨r, q1, M2, e, q2⟩ := q
      rw [e] at q1
      refine ⟨_, M2, ?_, q2.1, q2.2.2, rfl⟩
      simp only [f_X7_toSet, f_X7_toSet_b48, f_X7_toSet_b113, ↓b_wrM, ↓b_rdM, ↓reduceIte, show ¬ (1 : Int32) = 0 by decide, ↓bnd (isJ_y m0.2.1 hm.1 hj), ↓bnd (bW1_y hw), ↓bnd p1, q1, Option.bind_some]
      by_cases z0 : c = 0
      · simp only [z0, ↓reduceIte]
      · rcases ts_i G W j (gsd G) (by omega) with ⟨y1, y2⟩ | ⟨y1, y2⟩
        · simp only [z0, y1, y2, ↓reduceIte]
        · simp only [z0, y1, y2, ↓reduceIte]
    · rintro k s hk ⟨M2, rfl, h1, _⟩
      left
      have hg := TQ_g hm h1
      have h2 := TQ_up (c := 88) (i := 2) (j := j) (v := nI k) h1 (.inl rfl) (RWm_fc (TQ_w h1)) (okW_fc (TQ_o h1) hk)
      obtain ⟨M3, u1, u2⟩ := firstInFair_m (C := C') (K := K) (O := O') hm h2 hj1 hN
      refine ⟨((ts G W j (k + 1)).1, (if (ts G W j (k + 1)).2 = -1 then 1000000 else (ts G W j (k + 1)).2), nI (k + 1), HP C' M3 K O'), ?_, M3, rfl, TQ_again hm u2, fun _ => u2⟩
      have ew : fi G (fun X => decide (X 3 j = allS G)) (up (clr W) 2 j (nI k)) 61 = tsW G W j k := rfl
      rw [ew] at u1
      simp only [f_X7_toSet_l48, f_X7_toSet_b98, ↓b_rdM, ↓b_rlM, hg.1, nle hk (by omega), ↓reduceIte, ↓b_waM, j8, ↓bnd u1, nI_1, ts]
      by_cases z : tsW G W j k = -1
      · simp only [z, ↓reduceIte]
      · by_cases z2 : (ts G W j k).2 = -1
        · simp only [z, z2, ↓reduceIte, tsW_lt G W j k]
        · by_cases z3 : (ts G W j k).2 ≤ tsW G W j k
          · have z4 : ¬ tsW G W j k < (ts G W j k).2 := fun q => (nle_lt.mpr q) z3
            simp only [z, z2, z3, z4, ↓reduceIte]
          · have z4 : tsW G W j k < (ts G W j k).2 := nle_lt.mp z3
            simp only [z, z2, z3, z4, ↓reduceIte]
    · rintro s ⟨M2, rfl, h1, h2⟩
      refine ⟨_, ?_, M2, rfl, h2 (by omega)⟩
      simp only [f_X7_toSet_l48, ↓b_rdM, ↓b_rlM, (TQ_g hm h1).1, yle (Nat.le_refl (gsd G)) (by omega), ↓reduceIte]
set_option maxHeartbeats 4000000 in
theorem q_toSet {a c : Int32} (hc : CI K C G W) (hm : MI M G W) (hN : 1000 ≤ N) : ∃ r, QC K C M O (f_X6_toSet N (HP C M K O) 0 a c) r ∧ ∀ C' O', QM C' M K O' (f_X7_toSet N (HP C' M K O') 71 a c) r := by
  have m0 := MI_EQ hm (EQ_code M 0)
  by_cases h0 : inR a (gJ G)
  ·
    by_cases h1 : btw c 0 1
    · exact g_toSet hc hm hN h0 h1
    · refine ⟨.inl 1, ⟨C, ?_, fun _ _ => rfl⟩, fun C' O' => ?_⟩
      · simp only [f_X6_toSet_b69, f_X6_toSet_b18, f_X6_toSet, ↓b_rdC, ↓Sum.elim_inr, ↓Sum.elim_inl, ↓bnd (needJ_y hc h0), ↓bnd (nW1_n h1)]
      · obtain ⟨M', f1, f2, f3⟩ := QM_fail (N := N) (C := C') (M := M) (K := K) (O := O') (k := 1) (kv := 1) rfl
        refine ⟨0, M', ?_, f2, f3⟩
        simp only [f_X7_toSet_b23, f_X7_toSet_b113, f_X7_toSet_b98, f_X7_toSet_b48, f_X7_toSet, ↓b_wrM, ↓b_rdM, ↓reduceIte, show ¬ (1 : Int32) = 0 by decide, ↓bnd (isJ_y m0.2.1 hm.1 h0), ↓bnd (bW1_n h1), ↓bnd f1]
  · refine ⟨.inl 1, ⟨C, ?_, fun _ _ => rfl⟩, fun C' O' => ?_⟩
    · simp only [f_X6_toSet_b69, f_X6_toSet_b18, f_X6_toSet, ↓b_rdC, ↓Sum.elim_inr, ↓Sum.elim_inl, ↓bnd (needJ_n hc h0)]
    · obtain ⟨M', f1, f2, f3⟩ := QM_fail (N := N) (C := C') (M := M) (K := K) (O := O') (k := 1) (kv := 1) rfl
      refine ⟨0, M', ?_, f2, f3⟩
      simp only [f_X7_toSet_b23, f_X7_toSet_b113, f_X7_toSet_b98, f_X7_toSet_b48, f_X7_toSet, ↓b_wrM, ↓b_rdM, ↓reduceIte, show ¬ (1 : Int32) = 0 by decide, ↓bnd (isJ_n m0.2.1 hm.1 h0), ↓bnd f1]
def spV (G : GT) (W : ST) (r n k : Nat) : Int32 := bc (setFa G (passN G n (up (clr W) 7 r (nI k))))
def sp (G : GT) (W : ST) (r n : Nat) : Nat → Int32 × Int32
  | 0 => (0, -1)
  | k + 1 => if spV G W r n k ≤ (sp G W r n k).2 then sp G W r n k else (nI k, spV G W r n k)
theorem setFa_lt (hG : okG G) : ∃ s, s < 256 ∧ setFa G W = nI s := ones_lt _ hG.2.2.1
theorem lt7 {k : Nat} (h : k < 8) : ¬ (7 : Int32) < nI k := nI_nlt (b := k) (a := 7) (by omega) (by omega)
set_option maxHeartbeats 4000000 in
theorem g_toSpin {a d c : Int32} (hc : CI K C G W) (hm : MI M G W) (hN : 1000 ≤ N) (hj : inR a (gRn G)) (hw : btw c 0 1) (hs : btw d 1 60) : ∃ r, QC K C M O (f_X6_toSpin N (HP C M K O) 0 a d c) r ∧ ∀ C' O', QM C' M K O' (f_X7_toSpin N (HP C' M K O') 71 a d c) r := by
  have m0 := m0_of hm
  have hj' := hj
  obtain ⟨j, hj1, rfl⟩ := hj'
  have hs' := hs
  obtain ⟨n, _, hn, rfl⟩ := hs'
  have j8 : j < 9 := by have := hm.1.2.1; omega
  refine ⟨.inr (if c = 0 then (sp G W j n 8).1 else (sp G W j n 8).2), ?_, fun C' O' => ?_⟩
  · have q := itr_inv (body := fun s : Int32 × Int32 × Int32 × AH => f_X6_toSpin_l26 N 0 (nI j) (nI n) c s.1 s.2.1 s.2.2.1 s.2.2.2)
      (fun k s => ∃ C', s = ((sp G W j n k).1, (sp G W j n k).2, nI k, HP C' M K O) ∧ ∀ a, a < 54 → C' a = C a)
      (P := fun r => ∃ C', r = ((sp G W j n 8).1, (sp G W j n 8).2, HP C' M K O) ∧ ∀ a, a < 54 → C' a = C a) (n := 8) ?_ ?_ (s := (0, -1, 0, HP C M K O)) ⟨C, rfl, fun _ _ => rfl⟩ (N := N) (by omega)
    · obtain ⟨r, q1, C2, e, q2⟩ := q
      rw [e] at q1
      refine ⟨C2, ?_, q2⟩
      simp only [f_X6_toSpin, f_X6_toSpin_b26, ↓b_rdC, ↓Sum.elim_inr, ↓bnd (needR_y hc hj), ↓bnd (nW1_y hw), ↓bnd (nT160_y hs), q1, Option.bind_some]
      split <;> rfl
    · rintro k s hk ⟨C2, rfl, h1⟩
      left
      obtain ⟨C3, t1, T3⟩ := tryFor0 (M := M) (O := O) hc h1 hN
      have T4 := TC_up (i := 7) (j := j) (v := nI k) T3 (by omega) (by omega) (okW_sp T3.2.2 hk)
      obtain ⟨C5, s1, T5⟩ := TC_goOn (M := M) (O := O) hc T4 hn hN
      have hc5 := CI_of hc T5.1
      refine ⟨((sp G W j n (k + 1)).1, (sp G W j n (k + 1)).2, nI (k + 1), HP C5 M K O), ?_, C5, rfl, T5.1⟩
      have ew : bc (setFa G (passN G n (up (clr W) 7 j (nI k)))) = spV G W j n k := rfl
      simp only [f_X6_toSpin_l26, f_X6_toSpin_b84, lt7 hk, ↓reduceIte, ↓b_rdC, ↓bnd t1, ↓b_rW w54, ↓b_wWa w54, j8, ↓bnd s1, ↓bnd (fairOnes_w hc5.1 w54 hc5.2.1 hc5.2.2.1 T5.2.1 hN), ↓bnd (bitCount_c _ _ _), nI_1, sp, ew]
      split <;> rfl
    · rintro s ⟨C2, rfl, h1⟩
      refine ⟨_, ?_, C2, rfl, h1⟩
      simp only [f_X6_toSpin_l26, show (7 : Int32) < nI 8 by decide, ↓reduceIte]
  · obtain ⟨M1, p1, p2⟩ := TQ_pack (C := C') (K := K) (O := O') hm hN
    have q := itr_inv (body := fun s : Int32 × Int32 × Int32 × AH => f_X7_toSpin_l65 N 71 (nI j) (nI n) c s.1 s.2.1 s.2.2.1 s.2.2.2)
      (fun k s => ∃ M', s = ((if k = 0 then -1 else (sp G W j n k).1), (sp G W j n k).2, nI k, HP C' M' K O') ∧ TQ G false M M' (clr W) ∧ (0 < k → RQ M M'))
      (P := fun r => ∃ M', r = ((sp G W j n 8).1, (sp G W j n 8).2, HP C' M' K O') ∧ RQ M M') (n := 8) ?_ ?_ (s := (-1, -1, 0, HP C' M1 K O')) ⟨M1, rfl, p2, fun h => absurd h (by decide)⟩ (N := N) (by omega)
    · obtain ⟨r, q1, M2, e, q2⟩ := q
      rw [e] at q1
      refine ⟨_, M2, ?_, q2.1, q2.2.2, rfl⟩
      simp only [f_X7_toSpin, f_X7_toSpin_b65, ↓b_wrM, ↓b_rdM, ↓reduceIte, show ¬ (1 : Int32) = 0 by decide, ↓bnd (isR_y m0.2.1 hm.1 hj), ↓bnd (bW1_y hw), ↓bnd (bT160_y hs), ↓bnd p1, q1, Option.bind_some]
      split <;> rfl
    · rintro k s hk ⟨M2, rfl, h1, _⟩
      left
      have h2 := TQ_up (c := 91) (i := 7) (j := j) (v := nI k) h1 (.inr rfl) (RWm_sp (TQ_w h1)) (okW_sp (TQ_o h1) hk)
      obtain ⟨M3, g1, g2⟩ := TQ_goOn (C := C') (K := K) (O := O') hm h2 hn hN
      obtain ⟨M4, u1, u2, _, _⟩ := TQ_back (C := C') (K := K) (O := O') g2 hN
      refine ⟨((if k + 1 = 0 then -1 else (sp G W j n (k + 1)).1), (sp G W j n (k + 1)).2, nI (k + 1), HP C' M4 K O'), ?_, M4, rfl, TQ_again hm u2, fun _ => u2⟩
      have ew : bc (setFa G (passN G n (up (clr W) 7 j (nI k)))) = spV G W j n k := rfl
      simp only [f_X7_toSpin_l65, f_X7_toSpin_b121, lt7 hk, ↓reduceIte, ↓b_rdM, ↓b_waM, j8, ↓bnd g1, ↓bnd (fairOnes_v hm.1 (TQ_g hm g2) (TQ_w g2) hN), ↓bnd (bits2 (setFa_lt hm.1) hN), ↓bnd u1, nI_1, sp, ew, show ¬ k + 1 = 0 by omega]
      by_cases z : spV G W j n k ≤ (sp G W j n k).2
      · have z2 : ¬ (sp G W j n k).2 < spV G W j n k := fun q => (nle_lt.mpr q) z
        have hk0 : ¬ k = 0 := by
          rintro rfl
          have e0 : (sp G W j n 0).2 = -1 := rfl
          rw [e0] at z
          unfold spV at z
          obtain ⟨s, hs, es⟩ := setFa_lt (W := passN G n (up (clr W) 7 j (nI 0))) hm.1
          rw [es] at z
          exact bc_k s hs z
        simp only [z, z2, hk0, ↓reduceIte]
      · have z2 : (sp G W j n k).2 < spV G W j n k := nle_lt.mp z
        simp only [z, z2, ↓reduceIte]
    · rintro s ⟨M2, rfl, h1, h2⟩
      refine ⟨_, ?_, M2, rfl, h2 (by omega)⟩
      simp only [f_X7_toSpin_l65, show (7 : Int32) < nI 8 by decide, ↓reduceIte, show ¬ 8 = 0 by decide]
set_option maxHeartbeats 4000000 in
theorem q_toSpin {a d c : Int32} (hc : CI K C G W) (hm : MI M G W) (hN : 1000 ≤ N) : ∃ r, QC K C M O (f_X6_toSpin N (HP C M K O) 0 a d c) r ∧ ∀ C' O', QM C' M K O' (f_X7_toSpin N (HP C' M K O') 71 a d c) r := by
  have m0 := MI_EQ hm (EQ_code M 0)
  by_cases h0 : inR a (gRn G)
  ·
    by_cases h1 : btw c 0 1
    ·
      by_cases h2 : btw d 1 60
      · exact g_toSpin hc hm hN h0 h1 h2
      · refine ⟨.inl 2, ⟨C, ?_, fun _ _ => rfl⟩, fun C' O' => ?_⟩
        · simp only [f_X6_toSpin_b84, f_X6_toSpin_b26, f_X6_toSpin, ↓b_rdC, ↓Sum.elim_inr, ↓Sum.elim_inl, ↓bnd (needR_y hc h0), ↓bnd (nW1_y h1), ↓bnd (nT160_n h2)]
        · obtain ⟨M', f1, f2, f3⟩ := QM_fail (N := N) (C := C') (M := M) (K := K) (O := O') (k := 2) (kv := 2) rfl
          refine ⟨0, M', ?_, f2, f3⟩
          simp only [f_X7_toSpin_b23, f_X7_toSpin_b121, f_X7_toSpin_b65, f_X7_toSpin, ↓b_wrM, ↓b_rdM, ↓reduceIte, show ¬ (1 : Int32) = 0 by decide, ↓bnd (isR_y m0.2.1 hm.1 h0), ↓bnd (bW1_y h1), ↓bnd (bT160_n h2), ↓bnd f1]
    · refine ⟨.inl 1, ⟨C, ?_, fun _ _ => rfl⟩, fun C' O' => ?_⟩
      · simp only [f_X6_toSpin_b84, f_X6_toSpin_b26, f_X6_toSpin, ↓b_rdC, ↓Sum.elim_inr, ↓Sum.elim_inl, ↓bnd (needR_y hc h0), ↓bnd (nW1_n h1)]
      · obtain ⟨M', f1, f2, f3⟩ := QM_fail (N := N) (C := C') (M := M) (K := K) (O := O') (k := 1) (kv := 1) rfl
        refine ⟨0, M', ?_, f2, f3⟩
        simp only [f_X7_toSpin_b23, f_X7_toSpin_b121, f_X7_toSpin_b65, f_X7_toSpin, ↓b_wrM, ↓b_rdM, ↓reduceIte, show ¬ (1 : Int32) = 0 by decide, ↓bnd (isR_y m0.2.1 hm.1 h0), ↓bnd (bW1_n h1), ↓bnd f1]
  · refine ⟨.inl 1, ⟨C, ?_, fun _ _ => rfl⟩, fun C' O' => ?_⟩
    · simp only [f_X6_toSpin_b84, f_X6_toSpin_b26, f_X6_toSpin, ↓b_rdC, ↓Sum.elim_inr, ↓Sum.elim_inl, ↓bnd (needR_n hc h0)]
    · obtain ⟨M', f1, f2, f3⟩ := QM_fail (N := N) (C := C') (M := M) (K := K) (O := O') (k := 1) (kv := 1) rfl
      refine ⟨0, M', ?_, f2, f3⟩
      simp only [f_X7_toSpin_b23, f_X7_toSpin_b121, f_X7_toSpin_b65, f_X7_toSpin, ↓b_wrM, ↓b_rdM, ↓reduceIte, show ¬ (1 : Int32) = 0 by decide, ↓bnd (isR_n m0.2.1 hm.1 h0), ↓bnd f1]
def tcW (G : GT) (W : ST) (j k : Nat) : Int32 := fi G (fun X => decide (X 3 j = allS G)) (goV G (clr W) k (nI 1)) 61
def tc (G : GT) (W : ST) (j : Nat) : Nat → Int32 × Int32
  | 0 => (fi G (fun X => decide (X 3 j = allS G)) (clr W) 61, -1)
  | k + 1 => if W 1 k < 0 then tc G W j k else if tcW G W j k = -1 then tc G W j k else if (tc G W j k).1 = -1 then (tcW G W j k, nI k) else if (tc G W j k).1 ≤ tcW G W j k then tc G W j k else (tcW G W j k, nI k)
set_option maxHeartbeats 4000000 in
theorem g_toCall {a : Int32} (hc : CI K C G W) (hm : MI M G W) (hN : 1000 ≤ N) (hj : inR a (gJ G)) : ∃ r, QC K C M O (f_X6_toCall N (HP C M K O) 0 a) r ∧ ∀ C' O', QM C' M K O' (f_X7_toCall N (HP C' M K O') 71 a) r := by
  have m0 := m0_of hm
  have hJ := hm.1.2.2.1
  have hj' := hj
  obtain ⟨j, hj1, rfl⟩ := hj'
  have pos : ∀ k, k < gJ G → ¬ W 1 k < 0 → ∃ r, r < gRn G ∧ clr W 1 k = nI r := by
    intro k hk z
    rcases (hm.2.2.2.1 k hk).1 with q | q | q
    · rw [q] at z; exact absurd (by decide) z
    · rw [q] at z; exact absurd (by decide) z
    · exact q
  obtain ⟨C1, t1, T1⟩ := tryFor0 (M := M) (O := O) hc (fun _ _ => rfl) hN
  obtain ⟨C2, s1, s2⟩ := tillFair_c (M := M) (O := O) hc T1 hj1 hN
  refine ⟨.inr (tc G W j (gJ G)).2, ?_, fun C' O' => ?_⟩
  · have q := itr_inv (body := fun s : Int32 × Int32 × Int32 × AH => f_X6_toCall_l20 N 0 (nI j) s.1 s.2.1 s.2.2.1 s.2.2.2)
      (fun k s => ∃ C', s = ((tc G W j k).1, (tc G W j k).2, nI k, HP C' M K O) ∧ ∀ a, a < 54 → C' a = C a)
      (P := fun r => ∃ C', r = ((tc G W j (gJ G)).2, HP C' M K O) ∧ ∀ a, a < 54 → C' a = C a) (n := gJ G) ?_ ?_ (s := (fi G (fun X => decide (X 3 j = allS G)) (clr W) 61, -1, 0, HP C2 M K O)) ⟨C2, by simp only [tc, show nI 0 = 0 from rfl], s2⟩ (N := N) (by omega)
    · obtain ⟨r, q1, C3, e, q2⟩ := q
      rw [e] at q1
      refine ⟨C3, ?_, q2⟩
      simp only [f_X6_toCall, f_X6_toCall_b20, ↓b_rdC, ↓Sum.elim_inr, ↓bnd (needJ_y hc hj), ↓bnd t1, ↓bnd s1, q1, Option.bind_some]
    · rintro k s hk ⟨C3, rfl, h1⟩
      left
      have k8 : k < 8 := by omega
      have hc3 := CI_of hc h1
      have ew1 := hc3.2.2.2.1.2.1 1 k (by omega) (by omega) hk
      by_cases z0 : W 1 k < 0
      · refine ⟨((tc G W j (k + 1)).1, (tc G W j (k + 1)).2, nI (k + 1), HP C3 M K O), ?_, C3, rfl, h1⟩
        simp only [f_X6_toCall_l20, f_X6_toCall_b88, ↓b_rdC, ↓b_rG hc.1, hc3.2.2.1.2.2.1, nle hk (by omega), ↓reduceIte, ↓b_rW w21, ↓b_rWa w21, k8, ew1, z0, nI_1, tc]
      · obtain ⟨C4, t1, T4⟩ := tryFor0 (M := M) (O := O) hc h1 hN
        obtain ⟨C5, g1, T5⟩ := TC_go (N := N) (M := M) (O := O) (y := 1) hc T4 hk (by omega) (pos k hk z0)
        obtain ⟨C6, s1, s2⟩ := tillFair_c (M := M) (O := O) hc T5 hj1 hN
        refine ⟨((tc G W j (k + 1)).1, (tc G W j (k + 1)).2, nI (k + 1), HP C6 M K O), ?_, C6, rfl, s2⟩
        have ew : fi G (fun X => decide (X 3 j = allS G)) (goV G (clr W) k (nI 1)) 61 = tcW G W j k := rfl
        rw [ew] at s1
        rw [show nI 1 = 1 from rfl] at g1
        by_cases z : sooner (tcW G W j k) (tc G W j k).1
        · have ez : tc G W j (k + 1) = (tcW G W j k, nI k) := by
            unfold tc
            rw [if_neg z0, if_neg z.1]
            rcases z.2 with y | y
            · rw [if_pos y]
            · by_cases y2 : (tc G W j k).1 = -1
              · rw [if_pos y2]
              · rw [if_neg y2, if_neg y]
          simp only [f_X6_toCall_l20, f_X6_toCall_b88, ↓b_rdC, ↓b_rG hc.1, hc3.2.2.1.2.2.1, nle hk (by omega), ↓reduceIte, ↓b_rW w21, ↓b_rWa w21, ↓b_rW w54, k8, ew1, z0, ↓bnd t1, ↓bnd g1, ↓bnd s1, ↓bnd (sooner_c.1 z), show ¬ (1 : Int32) = 0 by decide, nI_1, ez]
        · have ez : tc G W j (k + 1) = tc G W j k := by
            conv => lhs; unfold tc
            rw [if_neg z0]
            by_cases y : tcW G W j k = -1
            · rw [if_pos y]
            · rw [if_neg y]
              by_cases y2 : (tc G W j k).1 = -1
              · exact absurd ⟨y, .inl y2⟩ z
              · rw [if_neg y2]
                by_cases y3 : (tc G W j k).1 ≤ tcW G W j k
                · rw [if_pos y3]
                · exact absurd ⟨y, .inr y3⟩ z
          simp only [f_X6_toCall_l20, f_X6_toCall_b88, ↓b_rdC, ↓b_rG hc.1, hc3.2.2.1.2.2.1, nle hk (by omega), ↓reduceIte, ↓b_rW w21, ↓b_rWa w21, ↓b_rW w54, k8, ew1, z0, ↓bnd t1, ↓bnd g1, ↓bnd s1, ↓bnd (sooner_c.2 z), nI_1, ez]
    · rintro s ⟨C3, rfl, h1⟩
      refine ⟨_, ?_, C3, rfl, h1⟩
      simp only [f_X6_toCall_l20, ↓b_rdC, ↓b_rG hc.1, (CI_of hc h1).2.2.1.2.2.1, yle (Nat.le_refl (gJ G)) (by omega), ↓reduceIte]
  · obtain ⟨M1, p1, p2⟩ := TQ_pack (C := C') (K := K) (O := O') hm hN
    obtain ⟨M2, u1, u2⟩ := firstInFair_m (C := C') (K := K) (O := O') hm p2 hj1 hN
    have q := itr_inv (body := fun s : Int32 × Int32 × Int32 × AH => f_X7_toCall_l40 N 71 (nI j) s.1 s.2.1 s.2.2.1 s.2.2.2)
      (fun k s => ∃ M', s = ((tc G W j k).1, (tc G W j k).2, nI k, HP C' M' K O') ∧ RQ M M')
      (P := fun r => ∃ M', r = ((tc G W j (gJ G)).2, HP C' M' K O') ∧ RQ M M') (n := gJ G) ?_ ?_ (s := (fi G (fun X => decide (X 3 j = allS G)) (clr W) 61, -1, 0, HP C' M2 K O')) ⟨M2, by simp only [tc, show nI 0 = 0 from rfl], u2⟩ (N := N) (by omega)
    · obtain ⟨r, q1, M3, e, q2⟩ := q
      rw [e] at q1
      refine ⟨_, M3, ?_, q2.1, q2.2.2, rfl⟩
      simp only [f_X7_toCall, f_X7_toCall_b40, ↓b_wrM, ↓b_rdM, ↓reduceIte, show ¬ (1 : Int32) = 0 by decide, ↓bnd (isJ_y m0.2.1 hm.1 hj), ↓bnd p1, ↓bnd u1, q1, Option.bind_some]
    · rintro k s hk ⟨M3, rfl, h3⟩
      left
      have k8 : k < 8 := by omega
      have h1 := TQ_again hm h3
      have hg := TQ_g hm h1
      have e1 : M3 87 k = W 1 k := ((TQ_w h1).2.2.1 k hk).1
      by_cases z0 : W 1 k < 0
      · have z0' : ¬ 0 ≤ W 1 k := fun q => (nle_lt.mpr z0) q
        refine ⟨((tc G W j (k + 1)).1, (tc G W j (k + 1)).2, nI (k + 1), HP C' M3 K O'), ?_, M3, rfl, h3⟩
        simp only [f_X7_toCall_l40, f_X7_toCall_b105, ↓b_rdM, ↓b_rlM, ↓b_raM, hg.2.2.1, nle hk (by omega), ↓reduceIte, k8, e1, z0', z0, nI_1, tc]
      · have z0' : 0 ≤ W 1 k := by rw [Int32.le_iff_toInt_le]; rw [Int32.lt_iff_toInt_lt] at z0; omega
        obtain ⟨M4, g1, g2⟩ := TQ_go (N := N) (C := C') (K := K) (O := O') (y := 1) hm h1 hk (by omega) (.inr (pos k hk z0))
        obtain ⟨M5, v1, v2⟩ := firstInFair_m (C := C') (K := K) (O := O') hm g2 hj1 hN
        refine ⟨((tc G W j (k + 1)).1, (tc G W j (k + 1)).2, nI (k + 1), HP C' M5 K O'), ?_, M5, rfl, v2⟩
        have ew : fi G (fun X => decide (X 3 j = allS G)) (goV G (clr W) k (nI 1)) 61 = tcW G W j k := rfl
        rw [ew] at v1
        rw [show nI 1 = 1 from rfl] at g1
        simp only [f_X7_toCall_l40, f_X7_toCall_b105, f_X7_toCall_b99, ↓b_rdM, ↓b_rlM, ↓b_raM, hg.2.2.1, nle hk (by omega), ↓reduceIte, k8, e1, z0', z0, ↓bnd g1, ↓bnd v1, nI_1, tc]
        by_cases z : tcW G W j k = -1
        · simp only [z, ↓reduceIte]
        · by_cases z2 : (tc G W j k).1 = -1
          · simp only [z, z2, ↓reduceIte]
          · by_cases z3 : (tc G W j k).1 ≤ tcW G W j k
            · have z4 : ¬ tcW G W j k < (tc G W j k).1 := fun q => (nle_lt.mpr q) z3
              simp only [z, z2, z3, z4, ↓reduceIte]
            · have z4 : tcW G W j k < (tc G W j k).1 := nle_lt.mp z3
              simp only [z, z2, z3, z4, ↓reduceIte]
    · rintro s ⟨M3, rfl, h3⟩
      refine ⟨_, ?_, M3, rfl, h3⟩
      simp only [f_X7_toCall_l40, ↓b_rdM, ↓b_rlM, (TQ_g hm (TQ_again hm h3)).2.2.1, yle (Nat.le_refl (gJ G)) (by omega), ↓reduceIte]
set_option maxHeartbeats 4000000 in
theorem q_toCall {a : Int32} (hc : CI K C G W) (hm : MI M G W) (hN : 1000 ≤ N) : ∃ r, QC K C M O (f_X6_toCall N (HP C M K O) 0 a) r ∧ ∀ C' O', QM C' M K O' (f_X7_toCall N (HP C' M K O') 71 a) r := by
  have m0 := MI_EQ hm (EQ_code M 0)
  by_cases h0 : inR a (gJ G)
  · exact g_toCall hc hm hN h0
  · refine ⟨.inl 1, ⟨C, ?_, fun _ _ => rfl⟩, fun C' O' => ?_⟩
    · simp only [f_X6_toCall_b88, f_X6_toCall_b20, f_X6_toCall, ↓b_rdC, ↓Sum.elim_inr, ↓Sum.elim_inl, ↓bnd (needJ_n hc h0)]
    · obtain ⟨M', f1, f2, f3⟩ := QM_fail (N := N) (C := C') (M := M) (K := K) (O := O') (k := 1) (kv := 1) rfl
      refine ⟨0, M', ?_, f2, f3⟩
      simp only [f_X7_toCall_b105, f_X7_toCall_b99, f_X7_toCall_b40, f_X7_toCall, ↓b_wrM, ↓b_rdM, ↓reduceIte, show ¬ (1 : Int32) = 0 by decide, ↓bnd (isJ_n m0.2.1 hm.1 h0), ↓bnd f1]
end S48
