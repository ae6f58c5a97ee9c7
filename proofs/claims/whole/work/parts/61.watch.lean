/-! watch: the reference -/
def WI (G : GT) (W : ST) (p : Nat → Bool) (n : Nat) (Mf M' : ST) (i : Nat) : Prop := EQm Mf M' ∧ (∀ x, x < 43 → M' 96 x = rowM Mf x) ∧ M' 71 4 = Mf 71 4 ∧ M' 71 49 = Mf 71 49 ∧ M' 102 = Mf 102 ∧ ∃ k, k ≤ n ∧ cnt p k = i ∧ ∀ j, j < gJ G → M' 103 j = plc G W p j k
section S61
variable {C C0 B M M0 M1 M2 Mf M' W T D : ST} {K : KT} {O : Nat → Int64} {N : Nat} {G : GT} {b : Bool} {q : Nat} {sj st : Nat → Nat} {sv : Nat → Int32} {c : Int32} {p : Nat → Bool}
theorem EQ_of (h : ∀ a, a ≠ 96 → a ≠ 103 → M' a = M a) : EQm M M' := by
  refine ⟨⟨fun a ha => h a (by rintro rfl; exact ha (by simp [scr])) (by rintro rfl; exact ha (by simp [scr])), fun k _ _ _ _ _ => by rw [h 71 (by decide) (by decide)]⟩, by rw [h 71 (by decide) (by decide)], fun j _ => ⟨by rw [h 87 (by decide) (by decide)], by rw [h 88 (by decide) (by decide)], by rw [h 89 (by decide) (by decide)]⟩, fun r _ => ⟨by rw [h 90 (by decide) (by decide)], by rw [h 91 (by decide) (by decide)]⟩⟩
theorem rowM_EQ (h : EQm M M') : ∀ i, i < 43 → rowM M' i = rowM M i := by
  obtain ⟨_, h3, h4, h5⟩ := h
  intro i hi
  unfold rowM
  split
  · exact h3
  · split
    · exact (h4 _ (by omega)).1
    · split
      · exact (h4 _ (by omega)).2.1
      · split
        · exact (h4 _ (by omega)).2.2
        · split
          · exact (h5 _ (by omega)).1
          · exact (h5 _ (by omega)).2
theorem rowM_85 {j : Nat} {v : Int32} : rowM (up M 85 j v) = rowM M := by
  unfold rowM
  rw [up_o (show (71 : Nat) ≠ 85 by decide), up_o (show (87 : Nat) ≠ 85 by decide), up_o (show (88 : Nat) ≠ 85 by decide), up_o (show (89 : Nat) ≠ 85 by decide), up_o (show (90 : Nat) ≠ 85 by decide), up_o (show (91 : Nat) ≠ 85 by decide)]
set_option maxHeartbeats 4000000 in
theorem zero103_m (hN : 1000 ≤ N) : ∃ M', itr (fun s : Int32 × AH => f_X7_watch_l36 N 71 c s.1 s.2) N (0, HP C M K O) = some (HP C M' K O) ∧ (∀ a, a ≠ 103 → M' a = M a) ∧ ∀ j, j < 8 → M' 103 j = 0 := by
  have A := itr_inv (body := fun s : Int32 × AH => f_X7_watch_l36 N 71 c s.1 s.2)
    (fun k s => ∃ M', s = (nI k, HP C M' K O) ∧ (∀ a, a ≠ 103 → M' a = M a) ∧ ∀ j, j < k → M' 103 j = 0)
    (P := fun r => ∃ M', r = HP C M' K O ∧ (∀ a, a ≠ 103 → M' a = M a) ∧ ∀ j, j < 8 → M' 103 j = 0) (n := 8) ?_ ?_ (s := (0, HP C M K O)) ⟨M, rfl, fun _ _ => rfl, fun j hj => absurd hj (Nat.not_lt_zero j)⟩ (N := N) (by omega)
  · obtain ⟨r, a1, M2, e, a2⟩ := A
    rw [e] at a1
    exact ⟨M2, a1, a2⟩
  · rintro k s hk ⟨M2, rfl, h1, h2⟩
    left
    refine ⟨(nI (k + 1), HP C (up M2 103 k 0) K O), ?_, _, rfl, fun x hx => (up_o hx).trans (h1 x hx), fun j hj => ?_⟩
    · simp only [f_X7_watch_l36, show ¬ (8 : Int32) ≤ nI k from nI_ge (b := 8) hk (by omega), ↓reduceIte, ↓b_rdM, ↓b_waM, hk, nI_1]
    · rw [up_s]; unfold upd; split
      · rfl
      · exact h2 j (by omega)
  · rintro s ⟨M2, rfl, h1, h2⟩
    refine ⟨_, ?_, M2, rfl, h1, h2⟩
    simp only [f_X7_watch_l36, show (8 : Int32) ≤ nI 8 by decide, ↓reduceIte]
set_option maxHeartbeats 4000000 in
theorem places_m {v2 v3 v4 : Int32} {D : ST} (hG : okG G) (hg : RGm M G) (hW : RWm G false M D) (hN : 1000 ≤ N) : ∃ M', itr (fun s : Int32 × AH => f_X7_watch_l107 N 71 c v2 v3 v4 s.1 s.2) N (0, HP C M K O) = some (HP C M' K O) ∧ (∀ a, a ≠ 103 → M' a = M a) ∧ ∀ j, j < gJ G → M' 103 j = M 103 j ||| ((1 : Int32) <<< ((D 1 j + 2) &&& 31)) := by
  have hJ := hG.2.2.1
  have A := itr_inv (body := fun s : Int32 × AH => f_X7_watch_l107 N 71 c v2 v3 v4 s.1 s.2)
    (fun j s => ∃ M', s = (nI j, HP C M' K O) ∧ (∀ a, a ≠ 103 → M' a = M a) ∧ (∀ i, i < j → M' 103 i = M 103 i ||| ((1 : Int32) <<< ((D 1 i + 2) &&& 31))) ∧ ∀ i, j ≤ i → M' 103 i = M 103 i)
    (P := fun r => ∃ M', r = HP C M' K O ∧ (∀ a, a ≠ 103 → M' a = M a) ∧ ∀ j, j < gJ G → M' 103 j = M 103 j ||| ((1 : Int32) <<< ((D 1 j + 2) &&& 31))) (n := gJ G) ?_ ?_ (s := (0, HP C M K O)) ⟨M, rfl, fun _ _ => rfl, fun i hi => absurd hi (Nat.not_lt_zero i), fun i _ => rfl⟩ (N := N) (by omega)
  · obtain ⟨r, a1, M2, e, a2⟩ := A
    rw [e] at a1
    exact ⟨M2, a1, a2⟩
  · rintro j s hj ⟨M3, rfl, h1, h2, h3⟩
    left
    have j8 : j < 8 := by omega
    have eJ : M3 75 2 = nI (gJ G) := by rw [h1 75 (by decide)]; exact hg.2.2.1
    have e1 : M3 87 j = D 1 j := by rw [h1 87 (by decide)]; exact (hW.2.2.1 j hj).1
    refine ⟨(nI (j + 1), HP C (up M3 103 j (M 103 j ||| ((1 : Int32) <<< ((D 1 j + 2) &&& 31)))) K O), ?_, _, rfl, fun a ha => (up_o ha).trans (h1 a ha), fun i hi => ?_, fun i hi => ?_⟩
    · simp only [f_X7_watch_l107, ↓b_rdM, ↓b_rlM, eJ, nle hj (by omega), ↓reduceIte, ↓b_raM, j8, e1, h3 j (Nat.le_refl j), ↓b_waM, nI_1]
    · rw [up_s]
      unfold upd
      split
      · rename_i z; rw [z]
      · exact h2 i (by omega)
    · rw [up_s, upd_o (by omega)]
      exact h3 i (by omega)
  · rintro s ⟨M3, rfl, h1, h2, h3⟩
    have eJ : M3 75 2 = nI (gJ G) := by rw [h1 75 (by decide)]; exact hg.2.2.1
    refine ⟨_, ?_, M3, rfl, h1, h2⟩
    simp only [f_X7_watch_l107, ↓b_rdM, ↓b_rlM, eJ, yle (Nat.le_refl (gJ G)) (by omega), ↓reduceIte]
set_option maxHeartbeats 4000000 in
theorem watchL_m (hm : MI Mf G W) (F : FI p M Mf (10 * gJ G)) (h0 : WI G W p (10 * gJ G) Mf M1 0) (hN : 1000 ≤ N) : ∃ M', itr (fun s : Int32 × AH => f_X7_watch_l57 N 71 c s.1 s.2) N (0, HP C M1 K O) = some (HP C M' K O) ∧ WI G W p (10 * gJ G) Mf M' (cnt p (10 * gJ G)) := by
  have hJ := hm.1.2.2.1
  have hn := cnt_le (p := p) (10 * gJ G)
  have A := itr_inv (body := fun s : Int32 × AH => f_X7_watch_l57 N 71 c s.1 s.2)
    (fun i s => ∃ M', s = (nI i, HP C M' K O) ∧ WI G W p (10 * gJ G) Mf M' i)
    (P := fun r => ∃ M', r = HP C M' K O ∧ WI G W p (10 * gJ G) Mf M' (cnt p (10 * gJ G))) (n := cnt p (10 * gJ G)) ?_ ?_ (s := (0, HP C M1 K O)) ⟨M1, rfl, h0⟩ (N := N) (by omega)
  · obtain ⟨r, a1, M2, e, a2⟩ := A
    rw [e] at a1
    exact ⟨M2, a1, a2⟩
  · rintro i s hi ⟨M2, rfl, w1, w2, w3, w4, w5, k0, w6, w7, w8⟩
    left
    have i80 : i < 80 := by omega
    obtain ⟨k, b1, b2, b3, b4⟩ := cnt_next (p := p) (n := 10 * gJ G) (10 * gJ G - k0) k0 (by omega) (by omega)
    have ek : ∀ j, plc G W p j k = plc G W p j k0 := fun j => by
      have := plc_stay (G := G) (W := W) (p := p) (j := j) (k := k0) (k - k0) (by rw [show k0 + (k - k0) = k by omega]; exact b4)
      rw [show k0 + (k - k0) = k by omega] at this
      exact this
    have e102 : M2 102 i = nI k := by rw [w5, ← w7, ← b4]; exact F.2.2.2 k b2 b3
    have e49 : M2 71 49 = nI (cnt p (10 * gJ G)) := w4.trans F.2.2.1
    obtain ⟨d1, d2⟩ := d10 k (by omega)
    have kJ : k / 10 < gJ G := by omega
    have k8 : k / 10 < 8 := by omega
    have mb : MI (up M2 85 (k / 10) (nI (k % 10))) G (up W 4 (k / 10) (nI (k % 10))) := MI_ln (MI_EQ hm w1) (by omega)
    have tb : TM G false 96 (up M2 85 (k / 10) (nI (k % 10))) (up M2 85 (k / 10) (nI (k % 10))) (clr (up W 4 (k / 10) (nI (k % 10)))) := by
      refine ⟨Fz_refl, fun x hx => ?_, RWm_clr mb.2.2.1, okW_clr mb.2.2.2⟩
      rw [up_o (show (96 : Nat) ≠ 85 by decide), rowM_85, w2 x hx, rowM_EQ w1 x hx]
    obtain ⟨M3, g1, g2, g3, g4⟩ := TM_goOn (C := C) (K := K) (O := O) (pa := 96) (n := 6) (.inl rfl) mb tb (by decide) hN
    rw [show nI 6 = 6 from rfl] at g1
    obtain ⟨M4, l1, l2, l3⟩ := places_m (C := C) (K := K) (O := O) (N := N) (c := c) (v2 := nI i) (v3 := nI (k / 10)) (v4 := M2 85 (k / 10)) hm.1 (RGm_Fz mb.2.1 g2.1) g2.2.2.1 hN
    have n103 : ¬ stC 103 := by simp [stC]
    have n85 : ¬ stC 85 := by simp [stC]
    have n96 : ¬ stC 96 := by simp [stC]
    have n102 : ¬ stC 102 := by simp [stC]
    have e3 : M3 103 = M2 103 := by rw [g4.1 103 n103, up_o (show (103 : Nat) ≠ 85 by decide)]
    have zX : Fz Mf (up M4 85 (k / 10) (M2 85 (k / 10))) := by
      refine ⟨fun a ha => ?_, fun x a1 a2 a3 a4 a5 => ?_⟩
      · have na : ¬ stC a := fun q => ha (by unfold stC at q; unfold scr; omega)
        have n3 : a ≠ 103 := by rintro rfl; exact ha (by simp [scr])
        rw [← w1.1.1 a ha]
        by_cases z : a = 85
        · subst z
          have e4 : M4 85 = upd (M2 85) (k / 10) (nI (k % 10)) := by rw [l2 85 (by decide), g4.1 85 n85, up_s]
          rw [up_s, e4]
          funext y
          unfold upd
          split
          · rename_i u; rw [u]
          · rfl
        · rw [up_o z, l2 a n3, g4.1 a na, up_o z]
      · rw [up_o (show (71 : Nat) ≠ 85 by decide), l2 71 (by decide), g4.2 x a2 a3, up_o (show (71 : Nat) ≠ 85 by decide)]
        exact w1.1.2 x a1 a2 a3 a4 a5
    have rX : ∀ x, x < 43 → up M4 85 (k / 10) (M2 85 (k / 10)) 96 x = rowM Mf x := by
      intro x hx
      rw [up_o (show (96 : Nat) ≠ 85 by decide), l2 96 (by decide), g4.1 96 n96, up_o (show (96 : Nat) ≠ 85 by decide)]
      exact w2 x hx
    obtain ⟨M5, u1, u2, u3, u4, u5⟩ := TM_back (C := C) (K := K) (O := O) (pa := 96) (.inl rfl) ⟨zX, rX⟩ hN
    refine ⟨(nI (i + 1), HP C M5 K O), ?_, M5, rfl, u2, u3, ?_, ?_, ?_, k + 1, by omega, by rw [cnt_y b3, b4, w7], fun j hj => ?_⟩
    · simp only [f_X7_watch_l57, f_X7_watch_b107, ↓b_rdM, e49, nle hi (by omega), ↓reduceIte, ↓b_raM, i80, e102, d1, d2, k8, ↓b_waM, ↓bnd g1, l1, Option.bind_some, ↓bnd u1, nI_1]
    · rw [u4 4 (by decide), up_o (show (71 : Nat) ≠ 85 by decide), l2 71 (by decide), g4.2 4 (by decide) (by decide), up_o (show (71 : Nat) ≠ 85 by decide)]
      exact w3
    · rw [u4 49 (by decide), up_o (show (71 : Nat) ≠ 85 by decide), l2 71 (by decide), g4.2 49 (by decide) (by decide), up_o (show (71 : Nat) ≠ 85 by decide)]
      exact w4
    · rw [u5 102 (by decide) (by decide) (by decide) (by decide) (by decide) (by decide), up_o (show (102 : Nat) ≠ 85 by decide), l2 102 (by decide), g4.1 102 n102, up_o (show (102 : Nat) ≠ 85 by decide)]
      exact w5
    · rw [u5 103 (by decide) (by decide) (by decide) (by decide) (by decide) (by decide), up_o (show (103 : Nat) ≠ 85 by decide), l3 j hj, e3, w8 j hj, plc_y b3, ek j]
      rfl
  · rintro s ⟨M2, rfl, w⟩
    have e49 : M2 71 49 = nI (cnt p (10 * gJ G)) := w.2.2.2.1.trans F.2.2.1
    refine ⟨_, ?_, M2, rfl, w⟩
    simp only [f_X7_watch_l57, ↓b_rdM, e49, yle (Nat.le_refl (cnt p (10 * gJ G))) (by omega), ↓reduceIte]
set_option maxHeartbeats 4000000 in
theorem watchB_m (hG : okG G) (hg : RGm M G) (hb : ∀ j, j < gJ G → ∃ s, s < 2048 ∧ M 103 j = nI s) (hN : 1000 ≤ N) : itr (fun s : Int32 × Int32 × Int32 × AH => f_X7_watch_l175 N 71 c s.1 s.2.1 s.2.2.1 s.2.2.2) N (-1, 0, 0, HP C M K O) = some ((wb (M 103) (gJ G)).1, (wb (M 103) (gJ G)).2, HP C M K O) := by
  have hJ := hG.2.2.1
  have eJ := hg.2.2.1
  refine itr_seq (body := fun s : Int32 × Int32 × Int32 × AH => f_X7_watch_l175 N 71 c s.1 s.2.1 s.2.2.1 s.2.2.2) (fun k => ((wb (M 103) k).1, (wb (M 103) k).2, nI k, HP C M K O)) (n := gJ G) ?_ ?_ (N := N) (by omega)
  · intro k hk
    have k8 : k < 8 := by omega
    have hb1 : ∀ h : AH, f_X7_bitsOf N h (M 103 k) = some (bc (M 103 k), h) := by
      intro h
      obtain ⟨s, hs, e⟩ := hb k hk
      rw [e]
      exact bitsOf_m hs hN
    by_cases z : bc (M 103 k) ≤ (wb (M 103) k).2
    · have z' : ¬ (wb (M 103) k).2 < bc (M 103 k) := fun w => nle_lt.mpr w z
      simp only [f_X7_watch_l175, f_X7_watch_b217, ↓b_rdM, ↓b_rlM, eJ, nle hk (by omega), ↓reduceIte, ↓b_raM, k8, ↓bnd (hb1 _), z', nI_1, wb, z]
    · have z' : (wb (M 103) k).2 < bc (M 103 k) := nle_lt.mp z
      simp only [f_X7_watch_l175, f_X7_watch_b217, ↓b_rdM, ↓b_rlM, eJ, nle hk (by omega), ↓reduceIte, ↓b_raM, k8, ↓bnd (hb1 _), z', nI_1, wb, z]
  · simp only [f_X7_watch_l175, ↓b_rdM, ↓b_rlM, eJ, yle (Nat.le_refl (gJ G)) (by omega), ↓reduceIte]
set_option maxHeartbeats 4000000 in
theorem g_watch (hl : ∀ j, j < gJ G → W 4 j = gln G j) (hS : SC G C q sj st sv) (hM : SM M q sj st sv) (hc : CI K C G W) (hm : MI M G W) (hN : 1000 ≤ N) (hw : btw c 0 1) : ∃ r, QC K C M O (f_X6_watch N (HP C M K O) 0 c) r ∧ ∀ C' O', QM C' M K O' (f_X7_watch N (HP C' M K O') 71 c) r := by
  have m0 := m0_of hm
  have S0 : SM (up M 71 4 0) q sj st sv := SM_Fz hM (EQ_code M 0).1
  have hr : ∀ i, i < q → sj i < gJ G ∧ st i ≤ 20 := fun i hi => (hS.2.2 i hi).2.2.2
  have hJ := hm.1.2.2.1
  have t1 : ¬ (1 : Int32) = 0 := by decide
  obtain ⟨C1, f1, f2, f3⟩ := fill_c (K := K) (O := O) (M := M) (N := N) (C := C) (a := 68) (n := 8) (v := 0) (fun C => by simp only [lnH]) (fun C j v hj => by simp only [waC, hj]) (by omega) hN
  obtain ⟨C2, a1, a2, a3⟩ := watchL_c (M := M) (O := O) (c := c) (C := C1) hc hS (fun a ha => f2 a (by omega)) (fun j hj => f3 j (by omega)) hN
  have hB := watchB_c (M := M) (O := O) (N := N) (c := c) (CI_of hc a2) hN
  have eC : wb (C2 68) (gJ G) = wb (fun j => plc G W (fit G W q sj st sv) j (10 * gJ G)) (gJ G) := wb_congr a3
  rw [eC] at hB
  refine ⟨.inr (if c = 0 then (wb (fun j => plc G W (fit G W q sj st sv) j (10 * gJ G)) (gJ G)).1 else (wb (fun j => plc G W (fit G W q sj st sv) j (10 * gJ G)) (gJ G)).2), ⟨C2, ?_, a2⟩, fun C' O' => ?_⟩
  · simp only [f_X6_watch, f_X6_watch_b15, f_X6_watch_b62, ↓bnd (nW1_y hw), ↓Sum.elim_inr, ↓b_rdC, ↓bnd f1, a1, hB, Option.bind_some]
    split <;> rfl
  · obtain ⟨Mf, p1, F1⟩ := tellFits_m (C := C') (K := K) (O := O') m0 hl S0 hS.1 hr hN
    have mf := MI_EQ m0 F1.1
    obtain ⟨M1, k1, k2, k3⟩ := TM_pack (C := C') (K := K) (O := O') (pa := 96) (.inl rfl) mf hN
    obtain ⟨M2, z1, z2, z3⟩ := zero103_m (C := C') (M := M1) (K := K) (O := O') (c := c) hN
    have w0 : WI G W (fit G W q sj st sv) (10 * gJ G) Mf M2 0 := by
      refine ⟨EQ_of (fun a x y => (z2 a y).trans (k3 a x)), fun x hx => ?_, ?_, ?_, ?_, 0, by omega, rfl, fun j hj => z3 j (by omega)⟩
      · rw [z2 96 (by decide)]; exact k2.2.1 x hx
      · rw [z2 71 (by decide), k3 71 (by decide)]
      · rw [z2 71 (by decide), k3 71 (by decide)]
      · rw [z2 102 (by decide), k3 102 (by decide)]
    obtain ⟨M3, l1, w1, w2, w3, w4, w5, k, w6, w7, w8⟩ := watchL_m (C := C') (K := K) (O := O') (c := c) mf F1 w0 hN
    have ek : ∀ j, plc G W (fit G W q sj st sv) j (10 * gJ G) = plc G W (fit G W q sj st sv) j k := fun j => by
      have := plc_stay (G := G) (W := W) (p := fit G W q sj st sv) (j := j) (k := k) (10 * gJ G - k) (by rw [show k + (10 * gJ G - k) = 10 * gJ G by omega]; exact w7.symm)
      rw [show k + (10 * gJ G - k) = 10 * gJ G by omega] at this
      exact this
    have hB2 := watchB_m (C := C') (M := M3) (K := K) (O := O') (c := c) hm.1 (MI_EQ mf w1).2.1 (fun j hj => by rw [w8 j hj]; exact plc_lt hm.1 hm.2.2.2 hj k) hN
    have eM : wb (M3 103) (gJ G) = wb (fun j => plc G W (fit G W q sj st sv) j (10 * gJ G)) (gJ G) := wb_congr (fun j hj => by rw [w8 j hj, ek j])
    rw [eM] at hB2
    refine ⟨_, M3, ?_, EQm_trans (EQm_trans (EQ_code M 0) F1.1) w1, ?_, rfl⟩
    · simp only [f_X7_watch, f_X7_watch_b36, f_X7_watch_b57, f_X7_watch_b175, ↓b_wrM, ↓b_rdM, ↓bnd (bW1_y hw), ↓reduceIte, t1, ↓bnd p1, ↓bnd k1, z1, l1, hB2, Option.bind_some]
      split <;> rfl
    · rw [w3, F1.2.1]; exact code_s M 0
set_option maxHeartbeats 4000000 in
theorem q_watch (hl : ∀ j, j < gJ G → W 4 j = gln G j) (hS : SC G C q sj st sv) (hM : SM M q sj st sv) (hc : CI K C G W) (hm : MI M G W) (hN : 1000 ≤ N) : ∃ r, QC K C M O (f_X6_watch N (HP C M K O) 0 c) r ∧ ∀ C' O', QM C' M K O' (f_X7_watch N (HP C' M K O') 71 c) r := by
  by_cases h0 : btw c 0 1
  · exact g_watch hl hS hM hc hm hN h0
  · refine ⟨.inl 1, ⟨C, ?_, fun _ _ => rfl⟩, fun C' O' => ?_⟩
    · simp only [f_X6_watch, ↓b_rdC, ↓Sum.elim_inr, ↓Sum.elim_inl, ↓bnd (nW1_n h0)]
    · obtain ⟨M', f1, f2, f3⟩ := QM_fail (N := N) (C := C') (M := M) (K := K) (O := O') (k := 1) (kv := 1) rfl
      refine ⟨0, M', ?_, f2, f3⟩
      simp only [f_X7_watch, ↓b_wrM, ↓b_rdM, ↓reduceIte, ↓bnd (bW1_n h0), ↓bnd f1]
end S61
