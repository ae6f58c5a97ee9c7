/-! one call of the script, on both sides -/
section S90
variable {C C' M M' W W' : ST} {K K2 : KT} {O O' : Nat → Int64} {N L : Nat} {G : GT} {xs : Nat → Int32} {i x1 x2 x3 x4 x5 : Int32}
theorem cmp_0 (x : Int64) : lg_cmp x x = 0 := by
  unfold lg_cmp
  rw [if_neg (fun h => by have := Int64.lt_iff_toInt_lt.mp h; omega), if_pos rfl]
theorem cel_3 {S : Nat → Int32} : cel S K O (3, 1, []) = .inl (3, 1, .inr (.inl O)) := by
  unfold cel
  rw [if_neg (by decide), if_pos rfl]
theorem ll_H : jll 3 (HP C M K O) 111 0 = some (O 0) := by
  unfold jll
  rw [hp_get (a := 111) (q := (3, 1, [])) rfl, cel_3]
  rfl
def ckO3 : Bool := (shp.mapIdx (fun i q => decide (q.1 = 3 → i = 111))).all (fun b => b)
theorem ckO3_y : ckO3 = true := by decide +kernel
theorem ckO3_inv {i : Nat} {q : Nat × Nat × List Nat} (hq : shp[i]? = some q) (hi : i ≠ 111) : q.1 ≠ 3 := by
  have h := ckO3_y
  unfold ckO3 at h
  rw [List.all_eq_true] at h
  have h1 : (shp.mapIdx (fun i q => decide (q.1 = 3 → i = 111)))[i]? = some (decide (q.1 = 3 → i = 111)) := by
    rw [List.getElem?_mapIdx, hq]; rfl
  have h2 := of_decide_eq_true (h _ (List.mem_of_getElem? h1))
  exact fun z => hi (h2 z)
theorem ls_H {v : Int64} : jls 3 (HP C M K O) 111 0 v = some (HP C M K (vp_updL O 0 v)) := by
  have e : (HP C M K O).set 111 (.inl (3, 1, .inr (.inl (vp_updL O 0 v)))) = HP C M K (vp_updL O 0 v) := by
    apply List.ext_getElem?
    intro i
    rw [List.getElem?_set]
    by_cases hi : 111 = i
    · subst hi
      rw [if_pos rfl, if_pos (by unfold HP; rw [List.length_mapIdx]; decide), hp_get (a := 111) (q := (3, 1, [])) rfl, cel_3]
    · rw [if_neg hi]
      cases hq : shp[i]? with
      | none => unfold HP; rw [List.getElem?_mapIdx, List.getElem?_mapIdx, hq]; rfl
      | some q =>
        rw [hp_get hq, hp_get hq]
        have n3 := ckO3_inv hq (fun z => hi z.symm)
        unfold cel
        rw [if_neg n3, if_neg n3]
  unfold jls
  rw [hp_get (a := 111) (q := (3, 1, [])) rfl, cel_3]
  simp only []
  rw [if_pos ⟨trivial, by decide⟩]
  exact congrArg some e
theorem updL0 {v : Int64} : vp_updL O 0 v 0 = v := by unfold vp_updL; rw [if_pos rfl]
theorem L1 {x6 : Option ((Nat ⊕ Int32) × AH)} {x7 : ST → KT → (Nat → Int64) → Option (Int32 × AH)} {P : Nat → Prop} {B : Nat → AH → Option (Int32 × AH)} (hq : AQ K M O x6 x7) (hn : NT P x6) (hB : ∀ k h, P k → B k h = some (nI k, h)) (hz : ∀ k, P k → nI k ≠ 0) : ∃ w C' K' O', (x6.bind fun r => Sum.elim (fun k9 => B k9 r.2) (fun y => (jls 3 r.2 111 0 (Int32.toInt64 y)).bind fun h9 => some (0, h9)) r.1) = some (w, HP C' M K' O') ∧ ∃ v M' K2 G' W', x7 C' K' O' = some (v, HP C' M' K2 O') ∧ M' 71 4 = w ∧ (w = 0 → O' 0 = Int32.toInt64 v) ∧ REL K2 C' M' G' W' := by
  obtain ⟨r, C1, K1, e, q⟩ := hq
  cases r with
  | inl k =>
    have pk := hn k _ e
    obtain ⟨v, M1, K2, G1, W1, a1, a2, a3⟩ := q O
    refine ⟨nI k, C1, K1, O, ?_, v, M1, K2, G1, W1, a1, a2, fun z => absurd z (hz k pk), a3⟩
    rw [bnd e]
    simp only [Sum.elim_inl, hB k _ pk]
  | inr y =>
    obtain ⟨v, M1, K2, G1, W1, a1, a2, a3⟩ := q (vp_updL O 0 (Int32.toInt64 y))
    refine ⟨0, C1, K1, _, ?_, v, M1, K2, G1, W1, a1, a2.1, fun _ => by rw [updL0, a2.2], a3⟩
    rw [bnd e]
    simp only [Sum.elim_inr, ↓bnd ls_H]
theorem L1g {x6 : Option ((Nat ⊕ Int32) × AH)} {x7 : ST → KT → (Nat → Int64) → Option (Int32 × AH)} (hq : AG K M O x6 x7) : ∃ w C' K' O', (x6.bind fun r => Sum.elim (fun k9 => if k9 = 2 then some ((1 : Int32), r.2) else none) (fun y => (jls 3 r.2 111 0 (Int32.toInt64 y)).bind fun h9 => some (0, h9)) r.1) = some (w, HP C' M K' O') ∧ ∃ v M' K2 G' W', x7 C' K' O' = some (v, HP C' M' K2 O') ∧ M' 71 4 = w ∧ (w = 0 → O' 0 = Int32.toInt64 v) ∧ REL K2 C' M' G' W' := by
  obtain ⟨r, C1, K1, e, q⟩ := hq
  cases r with
  | inl k =>
    obtain ⟨v, M1, K2, G1, W1, a1, a2, a3⟩ := q O
    refine ⟨1, C1, K1, O, ?_, v, M1, K2, G1, W1, a1, a2.2, fun z => absurd z (by decide), a3⟩
    rw [bnd e]
    simp only [Sum.elim_inl, a2.1, if_true]
  | inr y =>
    obtain ⟨v, M1, K2, G1, W1, a1, a2, a3⟩ := q (vp_updL O 0 (Int32.toInt64 y))
    refine ⟨0, C1, K1, _, ?_, v, M1, K2, G1, W1, a1, a2.1, fun _ => by rw [updL0, a2.2], a3⟩
    rw [bnd e]
    simp only [Sum.elim_inr, ↓bnd ls_H]
theorem fin_q {w v : Int32} (e3 : M 71 4 = w) (e4 : w = 0 → O 0 = Int32.toInt64 v) : ((f_X7_thrown N (HP C M K O) 71).bind fun r11 => if ¬ r11.1 = w then none else if ¬ w = 0 then some r11.2 else (jll 3 r11.2 111 0).bind fun x17 => if ¬ (lg_cmp x17 (Int32.toInt64 v)) = 0 then none else some r11.2) = some (HP C M K O) := by
  have T : f_X7_thrown N (HP C M K O) 71 = some (w, HP C M K O) := by simp only [f_X7_thrown, ↓b_rdM, e3]
  rw [bnd T]
  simp only [not_true_eq_false, if_false]
  by_cases hw : w = 0
  · rw [if_neg (fun z => z hw), bnd ll_H, e4 hw, cmp_0, if_neg (fun z => z rfl)]
  · rw [if_pos hw]
theorem b1_y (k : Nat) (h : AH) (hk : k = 1) : (if k = 1 then some ((1 : Int32), h) else none) = some (nI k, h) := by subst hk; rfl
theorem b2_y (k : Nat) (h : AH) (hk : k = 1 ∨ k = 2) : (if k = 1 then some ((1 : Int32), h) else if k = 2 then some ((2 : Int32), h) else none) = some (nI k, h) := by rcases hk with rfl | rfl <;> rfl
theorem n1_z (k : Nat) (hk : k = 1) : nI k ≠ 0 := by subst hk; decide
theorem n2_z (k : Nat) (hk : k = 1 ∨ k = 2) : nI k ≠ 0 := by rcases hk with rfl | rfl <;> decide
theorem AD_of {x6 : Option (Int32 × AH)} {x7 : ST → KT → (Nat → Int64) → Option (Int32 × AH)} (h : REL K C M G W) (q : ∃ v, QD K C M O x6 v ∧ ∀ C' O', QM C' M K O' (x7 C' K O') (.inr v)) : AD K M O x6 x7 := by
  obtain ⟨v, ⟨C1, c1, c2⟩, q2⟩ := q
  refine ⟨v, C1, K, c1, fun O' => ?_⟩
  obtain ⟨v', M1, m1, m2, m3⟩ := q2 C1 O'
  have m3' : M1 71 4 = 0 ∧ v' = v := m3
  rw [m3'.2] at m1
  exact ⟨M1, K, G, W, m1, REL_q h c2 m2⟩
set_option maxHeartbeats 4000000 in
theorem st_0 (h : REL K C M G W) (h1 : jsx L xs (i + 1) = some x1) (h2 : jsx L xs (i + 2) = some x2) (h3 : jsx L xs (i + 3) = some x3) (h4 : jsx L xs (i + 4) = some x4) (h5 : jsx L xs (i + 5) = some x5) (hN : 10000 ≤ N) : ∃ K' C' M' G' W' O', f_L_c0 N L xs 0 71 111 i (HP C M K O) = some (HP C' M' K' O') ∧ REL K' C' M' G' W' := by
  have hN' : 1000 ≤ N := by omega
  obtain ⟨v, C1, K1, e1, q⟩ := a_feed (a := x1) (b := x2) (c := x3) (d := x4) (e := x5) (O := O) (N := N) h hN'
  obtain ⟨M1, K2, G1, W1, e2, e5⟩ := q O
  refine ⟨K2, C1, M1, G1, W1, O, ?_, e5⟩
  simp only [f_L_c0, ↓bnd h1, ↓bnd h2, ↓bnd h3, ↓bnd h4, ↓bnd h5, ↓b_rdC, ↓bnd e1, ↓b_rdM, ↓bnd e2, not_true_eq_false, if_false]
set_option maxHeartbeats 4000000 in
theorem st_1 (h : REL K C M G W) (h1 : jsx L xs (i + 1) = some x1) (hN : 10000 ≤ N) : ∃ K' C' M' G' W' O', f_L_c1 N L xs 0 71 111 i (HP C M K O) = some (HP C' M' K' O') ∧ REL K' C' M' G' W' := by
  have hN' : 1000 ≤ N := by omega
  obtain ⟨w, C1, K1, O1, e1, v, M1, K2, G1, W1, e2, e3, e4, e5⟩ := L1g (a_gorge (O := O) (x := x1) h hN')
  have e1' : f_L_gorge N (HP C M K O) 0 x1 111 = some (w, HP C1 M K1 O1) := by
    simp only [f_L_gorge, ↓b_rdC]
    exact e1
  refine ⟨K2, C1, M1, G1, W1, O1, ?_, e5⟩
  have f := fin_q (C := C1) (K := K2) (N := N) e3 e4
  simp only [f_L_c1, ↓bnd h1, ↓bnd e1', ↓b_rdM, ↓bnd e2]
  exact f
set_option maxHeartbeats 4000000 in
theorem st_2 (h : REL K C M G W)  (hN : 10000 ≤ N) : ∃ K' C' M' G' W' O', f_L_c2 N L xs 0 71 111 i (HP C M K O) = some (HP C' M' K' O') ∧ REL K' C' M' G' W' := by
  have hN' : 1000 ≤ N := by omega
  obtain ⟨v, C1, K1, e1, q⟩ := a_fault (O := O) (N := N) h
  obtain ⟨M1, K2, G1, W1, e2, e5⟩ := q O
  refine ⟨K2, C1, M1, G1, W1, O, ?_, e5⟩
  simp only [f_L_c2, ↓b_rdC, ↓bnd e1, ↓b_rdM, ↓bnd e2, not_true_eq_false, if_false]
set_option maxHeartbeats 4000000 in
theorem st_3 (h : REL K C M G W) (h1 : jsx L xs (i + 1) = some x1) (hN : 10000 ≤ N) : ∃ K' C' M' G' W' O', f_L_c3 N L xs 0 71 111 i (HP C M K O) = some (HP C' M' K' O') ∧ REL K' C' M' G' W' := by
  have hN' : 1000 ≤ N := by omega
  obtain ⟨w, C1, K1, O1, e1, v, M1, K2, G1, W1, e2, e3, e4, e5⟩ := L1 (x6 := f_X6_count N (HP C M K O) 0 x1) (x7 := fun C' K' O' => f_X7_count N (HP C' M K' O') 71 x1) (P := fun k => k = 1) (B := fun k h => if k = 1 then some ((1 : Int32), h) else none) (a_count (O := O) (N := N) h hN') (nt_count rfl) b1_y n1_z
  have e1' : f_L_count N (HP C M K O) 0 x1 111 = some (w, HP C1 M K1 O1) := by
    simp only [f_L_count, ↓b_rdC]
    exact e1
  refine ⟨K2, C1, M1, G1, W1, O1, ?_, e5⟩
  have f := fin_q (C := C1) (K := K2) (N := N) e3 e4
  simp only [f_L_c3, ↓bnd h1, ↓bnd e1', ↓b_rdM, ↓bnd e2]
  exact f
set_option maxHeartbeats 4000000 in
theorem st_4 (h : REL K C M G W) (h1 : jsx L xs (i + 1) = some x1) (h2 : jsx L xs (i + 2) = some x2) (hN : 10000 ≤ N) : ∃ K' C' M' G' W' O', f_L_c4 N L xs 0 71 111 i (HP C M K O) = some (HP C' M' K' O') ∧ REL K' C' M' G' W' := by
  have hN' : 1000 ≤ N := by omega
  obtain ⟨w, C1, K1, O1, e1, v, M1, K2, G1, W1, e2, e3, e4, e5⟩ := L1 (x6 := f_X6_reach N (HP C M K O) 0 x1 x2) (x7 := fun C' K' O' => f_X7_reach N (HP C' M K' O') 71 x1 x2) (P := fun k => k = 1) (B := fun k h => if k = 1 then some ((1 : Int32), h) else none) (AQ_of (O := O) h (q_reach (N := N) h.1.1 h.1.2.1 hN')) (nt_reach rfl) b1_y n1_z
  have e1' : f_L_reach N (HP C M K O) 0 x1 x2 111 = some (w, HP C1 M K1 O1) := by
    simp only [f_L_reach, ↓b_rdC]
    exact e1
  refine ⟨K2, C1, M1, G1, W1, O1, ?_, e5⟩
  have f := fin_q (C := C1) (K := K2) (N := N) e3 e4
  simp only [f_L_c4, ↓bnd h1, ↓bnd h2, ↓bnd e1', ↓b_rdM, ↓bnd e2]
  exact f
set_option maxHeartbeats 4000000 in
theorem st_5 (h : REL K C M G W) (h1 : jsx L xs (i + 1) = some x1) (h2 : jsx L xs (i + 2) = some x2) (hN : 10000 ≤ N) : ∃ K' C' M' G' W' O', f_L_c5 N L xs 0 71 111 i (HP C M K O) = some (HP C' M' K' O') ∧ REL K' C' M' G' W' := by
  have hN' : 1000 ≤ N := by omega
  obtain ⟨w, C1, K1, O1, e1, v, M1, K2, G1, W1, e2, e3, e4, e5⟩ := L1 (x6 := f_X6_judge N (HP C M K O) 0 x1 x2) (x7 := fun C' K' O' => f_X7_judge N (HP C' M K' O') 71 x1 x2) (P := fun k => k = 1) (B := fun k h => if k = 1 then some ((1 : Int32), h) else none) (AQ_of (O := O) h (q_judge (N := N) h.1.2.2 h.1.1 h.1.2.1 hN')) (nt_judge rfl) b1_y n1_z
  have e1' : f_L_judge N (HP C M K O) 0 x1 x2 111 = some (w, HP C1 M K1 O1) := by
    simp only [f_L_judge, ↓b_rdC]
    exact e1
  refine ⟨K2, C1, M1, G1, W1, O1, ?_, e5⟩
  have f := fin_q (C := C1) (K := K2) (N := N) e3 e4
  simp only [f_L_c5, ↓bnd h1, ↓bnd h2, ↓bnd e1', ↓b_rdM, ↓bnd e2]
  exact f
set_option maxHeartbeats 4000000 in
theorem st_6 (h : REL K C M G W) (h1 : jsx L xs (i + 1) = some x1) (hN : 10000 ≤ N) : ∃ K' C' M' G' W' O', f_L_c6 N L xs 0 71 111 i (HP C M K O) = some (HP C' M' K' O') ∧ REL K' C' M' G' W' := by
  have hN' : 1000 ≤ N := by omega
  obtain ⟨v, C1, K1, e1, q⟩ := a_steps (a := x1) (O := O) (N := N) h hN
  obtain ⟨M1, K2, G1, W1, e2, e5⟩ := q O
  refine ⟨K2, C1, M1, G1, W1, O, ?_, e5⟩
  simp only [f_L_c6, ↓bnd h1, ↓b_rdC, ↓bnd e1, ↓b_rdM, ↓bnd e2, not_true_eq_false, if_false]
set_option maxHeartbeats 4000000 in
theorem st_7 (h : REL K C M G W) (h1 : jsx L xs (i + 1) = some x1) (hN : 10000 ≤ N) : ∃ K' C' M' G' W' O', f_L_c7 N L xs 0 71 111 i (HP C M K O) = some (HP C' M' K' O') ∧ REL K' C' M' G' W' := by
  have hN' : 1000 ≤ N := by omega
  obtain ⟨w, C1, K1, O1, e1, v, M1, K2, G1, W1, e2, e3, e4, e5⟩ := L1 (x6 := f_X6_call N (HP C M K O) 0 x1) (x7 := fun C' K' O' => f_X7_call N (HP C' M K' O') 71 x1) (P := fun k => k = 1) (B := fun k h => if k = 1 then some ((1 : Int32), h) else none) (a_call (O := O) (N := N) h hN) (nt_call rfl) b1_y n1_z
  have e1' : f_L_call N (HP C M K O) 0 x1 111 = some (w, HP C1 M K1 O1) := by
    simp only [f_L_call, ↓b_rdC]
    exact e1
  refine ⟨K2, C1, M1, G1, W1, O1, ?_, e5⟩
  have f := fin_q (C := C1) (K := K2) (N := N) e3 e4
  simp only [f_L_c7, ↓bnd h1, ↓bnd e1', ↓b_rdM, ↓bnd e2]
  exact f
set_option maxHeartbeats 4000000 in
theorem st_8 (h : REL K C M G W) (h1 : jsx L xs (i + 1) = some x1) (h2 : jsx L xs (i + 2) = some x2) (hN : 10000 ≤ N) : ∃ K' C' M' G' W' O', f_L_c8 N L xs 0 71 111 i (HP C M K O) = some (HP C' M' K' O') ∧ REL K' C' M' G' W' := by
  have hN' : 1000 ≤ N := by omega
  obtain ⟨w, C1, K1, O1, e1, v, M1, K2, G1, W1, e2, e3, e4, e5⟩ := L1 (x6 := f_X6_paddle N (HP C M K O) 0 x1 x2) (x7 := fun C' K' O' => f_X7_paddle N (HP C' M K' O') 71 x1 x2) (P := fun k => k = 1) (B := fun k h => if k = 1 then some ((1 : Int32), h) else none) (a_paddle (O := O) (N := N) h hN) (nt_paddle rfl) b1_y n1_z
  have e1' : f_L_paddle N (HP C M K O) 0 x1 x2 111 = some (w, HP C1 M K1 O1) := by
    simp only [f_L_paddle, ↓b_rdC]
    exact e1
  refine ⟨K2, C1, M1, G1, W1, O1, ?_, e5⟩
  have f := fin_q (C := C1) (K := K2) (N := N) e3 e4
  simp only [f_L_c8, ↓bnd h1, ↓bnd h2, ↓bnd e1', ↓b_rdM, ↓bnd e2]
  exact f
set_option maxHeartbeats 4000000 in
theorem st_9 (h : REL K C M G W) (h1 : jsx L xs (i + 1) = some x1) (h2 : jsx L xs (i + 2) = some x2) (hN : 10000 ≤ N) : ∃ K' C' M' G' W' O', f_L_c9 N L xs 0 71 111 i (HP C M K O) = some (HP C' M' K' O') ∧ REL K' C' M' G' W' := by
  have hN' : 1000 ≤ N := by omega
  obtain ⟨w, C1, K1, O1, e1, v, M1, K2, G1, W1, e2, e3, e4, e5⟩ := L1 (x6 := f_X6_carry N (HP C M K O) 0 x1 x2) (x7 := fun C' K' O' => f_X7_carry N (HP C' M K' O') 71 x1 x2) (P := fun k => k = 1) (B := fun k h => if k = 1 then some ((1 : Int32), h) else none) (a_carry (O := O) (N := N) h hN) (nt_carry rfl) b1_y n1_z
  have e1' : f_L_carry N (HP C M K O) 0 x1 x2 111 = some (w, HP C1 M K1 O1) := by
    simp only [f_L_carry, ↓b_rdC]
    exact e1
  refine ⟨K2, C1, M1, G1, W1, O1, ?_, e5⟩
  have f := fin_q (C := C1) (K := K2) (N := N) e3 e4
  simp only [f_L_c9, ↓bnd h1, ↓bnd h2, ↓bnd e1', ↓b_rdM, ↓bnd e2]
  exact f
set_option maxHeartbeats 4000000 in
theorem st_10 (h : REL K C M G W) (h1 : jsx L xs (i + 1) = some x1) (h2 : jsx L xs (i + 2) = some x2) (h3 : jsx L xs (i + 3) = some x3) (hN : 10000 ≤ N) : ∃ K' C' M' G' W' O', f_L_c10 N L xs 0 71 111 i (HP C M K O) = some (HP C' M' K' O') ∧ REL K' C' M' G' W' := by
  have hN' : 1000 ≤ N := by omega
  obtain ⟨w, C1, K1, O1, e1, v, M1, K2, G1, W1, e2, e3, e4, e5⟩ := L1 (x6 := f_X6_dredge N (HP C M K O) 0 x1 x2 x3) (x7 := fun C' K' O' => f_X7_dredge N (HP C' M K' O') 71 x1 x2 x3) (P := fun k => k = 1) (B := fun k h => if k = 1 then some ((1 : Int32), h) else none) (a_dredge (O := O) (N := N) h hN) (nt_dredge rfl) b1_y n1_z
  have e1' : f_L_dredge N (HP C M K O) 0 x1 x2 x3 111 = some (w, HP C1 M K1 O1) := by
    simp only [f_L_dredge, ↓b_rdC]
    exact e1
  refine ⟨K2, C1, M1, G1, W1, O1, ?_, e5⟩
  have f := fin_q (C := C1) (K := K2) (N := N) e3 e4
  simp only [f_L_c10, ↓bnd h1, ↓bnd h2, ↓bnd h3, ↓bnd e1', ↓b_rdM, ↓bnd e2]
  exact f
set_option maxHeartbeats 4000000 in
theorem st_11 (h : REL K C M G W)  (hN : 10000 ≤ N) : ∃ K' C' M' G' W' O', f_L_c11 N L xs 0 71 111 i (HP C M K O) = some (HP C' M' K' O') ∧ REL K' C' M' G' W' := by
  have hN' : 1000 ≤ N := by omega
  obtain ⟨v, C1, K1, e1, q⟩ := a_undo (O := O) (N := N) h hN
  obtain ⟨M1, K2, G1, W1, e2, e5⟩ := q O
  refine ⟨K2, C1, M1, G1, W1, O, ?_, e5⟩
  simp only [f_L_c11, ↓b_rdC, ↓bnd e1, ↓b_rdM, ↓bnd e2, not_true_eq_false, if_false]
set_option maxHeartbeats 4000000 in
theorem st_12 (h : REL K C M G W) (h1 : jsx L xs (i + 1) = some x1) (h2 : jsx L xs (i + 2) = some x2) (h3 : jsx L xs (i + 3) = some x3) (hN : 10000 ≤ N) : ∃ K' C' M' G' W' O', f_L_c12 N L xs 0 71 111 i (HP C M K O) = some (HP C' M' K' O') ∧ REL K' C' M' G' W' := by
  have hN' : 1000 ≤ N := by omega
  obtain ⟨w, C1, K1, O1, e1, v, M1, K2, G1, W1, e2, e3, e4, e5⟩ := L1 (x6 := f_X6_then N (HP C M K O) 0 x1 x2 x3) (x7 := fun C' K' O' => f_X7_then N (HP C' M K' O') 71 x1 x2 x3) (P := fun k => k = 1 ∨ k = 2) (B := fun k h => if k = 1 then some ((1 : Int32), h) else if k = 2 then some ((2 : Int32), h) else none) (AQ_of (O := O) h (q_then (N := N) h.1.1 h.1.2.1 hN')) (nt_then (.inl rfl) (.inr rfl)) b2_y n2_z
  have e1' : f_L_then N (HP C M K O) 0 x1 x2 x3 111 = some (w, HP C1 M K1 O1) := by
    simp only [f_L_then, ↓b_rdC]
    exact e1
  refine ⟨K2, C1, M1, G1, W1, O1, ?_, e5⟩
  have f := fin_q (C := C1) (K := K2) (N := N) e3 e4
  simp only [f_L_c12, ↓bnd h1, ↓bnd h2, ↓bnd h3, ↓bnd e1', ↓b_rdM, ↓bnd e2]
  exact f
set_option maxHeartbeats 4000000 in
theorem st_13 (h : REL K C M G W) (h1 : jsx L xs (i + 1) = some x1) (h2 : jsx L xs (i + 2) = some x2) (hN : 10000 ≤ N) : ∃ K' C' M' G' W' O', f_L_c13 N L xs 0 71 111 i (HP C M K O) = some (HP C' M' K' O') ∧ REL K' C' M' G' W' := by
  have hN' : 1000 ≤ N := by omega
  obtain ⟨w, C1, K1, O1, e1, v, M1, K2, G1, W1, e2, e3, e4, e5⟩ := L1 (x6 := f_X6_when N (HP C M K O) 0 x1 x2) (x7 := fun C' K' O' => f_X7_when N (HP C' M K' O') 71 x1 x2) (P := fun k => k = 1) (B := fun k h => if k = 1 then some ((1 : Int32), h) else none) (AQ_of (O := O) h (q_when (N := N) h.1.1 h.1.2.1 hN')) (nt_when rfl) b1_y n1_z
  have e1' : f_L_when N (HP C M K O) 0 x1 x2 111 = some (w, HP C1 M K1 O1) := by
    simp only [f_L_when, ↓b_rdC]
    exact e1
  refine ⟨K2, C1, M1, G1, W1, O1, ?_, e5⟩
  have f := fin_q (C := C1) (K := K2) (N := N) e3 e4
  simp only [f_L_c13, ↓bnd h1, ↓bnd h2, ↓bnd e1', ↓b_rdM, ↓bnd e2]
  exact f
set_option maxHeartbeats 4000000 in
theorem st_14 (h : REL K C M G W) (h1 : jsx L xs (i + 1) = some x1) (h2 : jsx L xs (i + 2) = some x2) (hN : 10000 ≤ N) : ∃ K' C' M' G' W' O', f_L_c14 N L xs 0 71 111 i (HP C M K O) = some (HP C' M' K' O') ∧ REL K' C' M' G' W' := by
  have hN' : 1000 ≤ N := by omega
  obtain ⟨w, C1, K1, O1, e1, v, M1, K2, G1, W1, e2, e3, e4, e5⟩ := L1 (x6 := f_X6_later N (HP C M K O) 0 x1 x2) (x7 := fun C' K' O' => f_X7_later N (HP C' M K' O') 71 x1 x2) (P := fun k => k = 1 ∨ k = 2) (B := fun k h => if k = 1 then some ((1 : Int32), h) else if k = 2 then some ((2 : Int32), h) else none) (AQ_of (O := O) h (q_later (N := N) h.1.1 h.1.2.1 hN')) (nt_later (.inl rfl) (.inr rfl)) b2_y n2_z
  have e1' : f_L_later N (HP C M K O) 0 x1 x2 111 = some (w, HP C1 M K1 O1) := by
    simp only [f_L_later, ↓b_rdC]
    exact e1
  refine ⟨K2, C1, M1, G1, W1, O1, ?_, e5⟩
  have f := fin_q (C := C1) (K := K2) (N := N) e3 e4
  simp only [f_L_c14, ↓bnd h1, ↓bnd h2, ↓bnd e1', ↓b_rdM, ↓bnd e2]
  exact f
set_option maxHeartbeats 4000000 in
theorem st_15 (h : REL K C M G W) (h1 : jsx L xs (i + 1) = some x1) (h2 : jsx L xs (i + 2) = some x2) (hN : 10000 ≤ N) : ∃ K' C' M' G' W' O', f_L_c15 N L xs 0 71 111 i (HP C M K O) = some (HP C' M' K' O') ∧ REL K' C' M' G' W' := by
  have hN' : 1000 ≤ N := by omega
  obtain ⟨w, C1, K1, O1, e1, v, M1, K2, G1, W1, e2, e3, e4, e5⟩ := L1 (x6 := f_X6_beside N (HP C M K O) 0 x1 x2) (x7 := fun C' K' O' => f_X7_beside N (HP C' M K' O') 71 x1 x2) (P := fun k => k = 1) (B := fun k h => if k = 1 then some ((1 : Int32), h) else none) (AQ_of (O := O) h (q_beside (N := N) h.1.1 h.1.2.1 hN')) (nt_beside rfl) b1_y n1_z
  have e1' : f_L_beside N (HP C M K O) 0 x1 x2 111 = some (w, HP C1 M K1 O1) := by
    simp only [f_L_beside, ↓b_rdC]
    exact e1
  refine ⟨K2, C1, M1, G1, W1, O1, ?_, e5⟩
  have f := fin_q (C := C1) (K := K2) (N := N) e3 e4
  simp only [f_L_c15, ↓bnd h1, ↓bnd h2, ↓bnd e1', ↓b_rdM, ↓bnd e2]
  exact f
set_option maxHeartbeats 4000000 in
theorem st_16 (h : REL K C M G W)  (hN : 10000 ≤ N) : ∃ K' C' M' G' W' O', f_L_c16 N L xs 0 71 111 i (HP C M K O) = some (HP C' M' K' O') ∧ REL K' C' M' G' W' := by
  have hN' : 1000 ≤ N := by omega
  obtain ⟨v, C1, K1, e1, q⟩ := AD_of (O := O) (x6 := f_X6_first N (HP C M K O) 0) (x7 := fun C' K' O' => f_X7_first N (HP C' M K' O') 71) h (q_first (N := N) h.1.1 h.1.2.1 hN')
  obtain ⟨M1, K2, G1, W1, e2, e5⟩ := q O
  refine ⟨K2, C1, M1, G1, W1, O, ?_, e5⟩
  simp only [f_L_c16, ↓b_rdC, ↓bnd e1, ↓b_rdM, ↓bnd e2, not_true_eq_false, if_false]
set_option maxHeartbeats 4000000 in
theorem st_17 (h : REL K C M G W) (h1 : jsx L xs (i + 1) = some x1) (hN : 10000 ≤ N) : ∃ K' C' M' G' W' O', f_L_c17 N L xs 0 71 111 i (HP C M K O) = some (HP C' M' K' O') ∧ REL K' C' M' G' W' := by
  have hN' : 1000 ≤ N := by omega
  obtain ⟨w, C1, K1, O1, e1, v, M1, K2, G1, W1, e2, e3, e4, e5⟩ := L1 (x6 := f_X6_last N (HP C M K O) 0 x1) (x7 := fun C' K' O' => f_X7_last N (HP C' M K' O') 71 x1) (P := fun k => k = 1) (B := fun k h => if k = 1 then some ((1 : Int32), h) else none) (AQ_of (O := O) h (q_last (N := N) h.1.1 h.1.2.1 hN')) (nt_last rfl) b1_y n1_z
  have e1' : f_L_last N (HP C M K O) 0 x1 111 = some (w, HP C1 M K1 O1) := by
    simp only [f_L_last, ↓b_rdC]
    exact e1
  refine ⟨K2, C1, M1, G1, W1, O1, ?_, e5⟩
  have f := fin_q (C := C1) (K := K2) (N := N) e3 e4
  simp only [f_L_c17, ↓bnd h1, ↓bnd e1', ↓b_rdM, ↓bnd e2]
  exact f
set_option maxHeartbeats 4000000 in
theorem st_18 (h : REL K C M G W) (h1 : jsx L xs (i + 1) = some x1) (h2 : jsx L xs (i + 2) = some x2) (h3 : jsx L xs (i + 3) = some x3) (hN : 10000 ≤ N) : ∃ K' C' M' G' W' O', f_L_c18 N L xs 0 71 111 i (HP C M K O) = some (HP C' M' K' O') ∧ REL K' C' M' G' W' := by
  have hN' : 1000 ≤ N := by omega
  obtain ⟨w, C1, K1, O1, e1, v, M1, K2, G1, W1, e2, e3, e4, e5⟩ := L1 (x6 := f_X6_still N (HP C M K O) 0 x1 x2 x3) (x7 := fun C' K' O' => f_X7_still N (HP C' M K' O') 71 x1 x2 x3) (P := fun k => k = 1 ∨ k = 2) (B := fun k h => if k = 1 then some ((1 : Int32), h) else if k = 2 then some ((2 : Int32), h) else none) (AQ_of (O := O) h (q_still (N := N) h.1.1 h.1.2.1 hN')) (nt_still (.inl rfl) (.inr rfl)) b2_y n2_z
  have e1' : f_L_still N (HP C M K O) 0 x1 x2 x3 111 = some (w, HP C1 M K1 O1) := by
    simp only [f_L_still, ↓b_rdC]
    exact e1
  refine ⟨K2, C1, M1, G1, W1, O1, ?_, e5⟩
  have f := fin_q (C := C1) (K := K2) (N := N) e3 e4
  simp only [f_L_c18, ↓bnd h1, ↓bnd h2, ↓bnd h3, ↓bnd e1', ↓b_rdM, ↓bnd e2]
  exact f
set_option maxHeartbeats 4000000 in
theorem st_19 (h : REL K C M G W) (h1 : jsx L xs (i + 1) = some x1) (h2 : jsx L xs (i + 2) = some x2) (hN : 10000 ≤ N) : ∃ K' C' M' G' W' O', f_L_c19 N L xs 0 71 111 i (HP C M K O) = some (HP C' M' K' O') ∧ REL K' C' M' G' W' := by
  have hN' : 1000 ≤ N := by omega
  obtain ⟨w, C1, K1, O1, e1, v, M1, K2, G1, W1, e2, e3, e4, e5⟩ := L1 (x6 := f_X6_turned N (HP C M K O) 0 x1 x2) (x7 := fun C' K' O' => f_X7_turned N (HP C' M K' O') 71 x1 x2) (P := fun k => k = 1 ∨ k = 2) (B := fun k h => if k = 1 then some ((1 : Int32), h) else if k = 2 then some ((2 : Int32), h) else none) (AQ_of (O := O) h (q_turned (N := N) h.1.1 h.1.2.1 hN')) (nt_turned (.inl rfl) (.inr rfl)) b2_y n2_z
  have e1' : f_L_turned N (HP C M K O) 0 x1 x2 111 = some (w, HP C1 M K1 O1) := by
    simp only [f_L_turned, ↓b_rdC]
    exact e1
  refine ⟨K2, C1, M1, G1, W1, O1, ?_, e5⟩
  have f := fin_q (C := C1) (K := K2) (N := N) e3 e4
  simp only [f_L_c19, ↓bnd h1, ↓bnd h2, ↓bnd e1', ↓b_rdM, ↓bnd e2]
  exact f
set_option maxHeartbeats 4000000 in
theorem st_20 (h : REL K C M G W) (h1 : jsx L xs (i + 1) = some x1) (hN : 10000 ≤ N) : ∃ K' C' M' G' W' O', f_L_c20 N L xs 0 71 111 i (HP C M K O) = some (HP C' M' K' O') ∧ REL K' C' M' G' W' := by
  have hN' : 1000 ≤ N := by omega
  obtain ⟨w, C1, K1, O1, e1, v, M1, K2, G1, W1, e2, e3, e4, e5⟩ := L1 (x6 := f_X6_stay N (HP C M K O) 0 x1) (x7 := fun C' K' O' => f_X7_stay N (HP C' M K' O') 71 x1) (P := fun k => k = 1) (B := fun k h => if k = 1 then some ((1 : Int32), h) else none) (AQ_of (O := O) h (q_stay (N := N) h.1.1 h.1.2.1 hN')) (nt_stay rfl) b1_y n1_z
  have e1' : f_L_stay N (HP C M K O) 0 x1 111 = some (w, HP C1 M K1 O1) := by
    simp only [f_L_stay, ↓b_rdC]
    exact e1
  refine ⟨K2, C1, M1, G1, W1, O1, ?_, e5⟩
  have f := fin_q (C := C1) (K := K2) (N := N) e3 e4
  simp only [f_L_c20, ↓bnd h1, ↓bnd e1', ↓b_rdM, ↓bnd e2]
  exact f
set_option maxHeartbeats 4000000 in
theorem st_21 (h : REL K C M G W) (h1 : jsx L xs (i + 1) = some x1) (h2 : jsx L xs (i + 2) = some x2) (hN : 10000 ≤ N) : ∃ K' C' M' G' W' O', f_L_c21 N L xs 0 71 111 i (HP C M K O) = some (HP C' M' K' O') ∧ REL K' C' M' G' W' := by
  have hN' : 1000 ≤ N := by omega
  obtain ⟨w, C1, K1, O1, e1, v, M1, K2, G1, W1, e2, e3, e4, e5⟩ := L1 (x6 := f_X6_toSet N (HP C M K O) 0 x1 x2) (x7 := fun C' K' O' => f_X7_toSet N (HP C' M K' O') 71 x1 x2) (P := fun k => k = 1) (B := fun k h => if k = 1 then some ((1 : Int32), h) else none) (AQ_of (O := O) h (q_toSet (N := N) h.1.1 h.1.2.1 hN')) (nt_toSet rfl) b1_y n1_z
  have e1' : f_L_toSet N (HP C M K O) 0 x1 x2 111 = some (w, HP C1 M K1 O1) := by
    simp only [f_L_toSet, ↓b_rdC]
    exact e1
  refine ⟨K2, C1, M1, G1, W1, O1, ?_, e5⟩
  have f := fin_q (C := C1) (K := K2) (N := N) e3 e4
  simp only [f_L_c21, ↓bnd h1, ↓bnd h2, ↓bnd e1', ↓b_rdM, ↓bnd e2]
  exact f
set_option maxHeartbeats 4000000 in
theorem st_22 (h : REL K C M G W) (h1 : jsx L xs (i + 1) = some x1) (h2 : jsx L xs (i + 2) = some x2) (h3 : jsx L xs (i + 3) = some x3) (hN : 10000 ≤ N) : ∃ K' C' M' G' W' O', f_L_c22 N L xs 0 71 111 i (HP C M K O) = some (HP C' M' K' O') ∧ REL K' C' M' G' W' := by
  have hN' : 1000 ≤ N := by omega
  obtain ⟨w, C1, K1, O1, e1, v, M1, K2, G1, W1, e2, e3, e4, e5⟩ := L1 (x6 := f_X6_toSpin N (HP C M K O) 0 x1 x2 x3) (x7 := fun C' K' O' => f_X7_toSpin N (HP C' M K' O') 71 x1 x2 x3) (P := fun k => k = 1 ∨ k = 2) (B := fun k h => if k = 1 then some ((1 : Int32), h) else if k = 2 then some ((2 : Int32), h) else none) (AQ_of (O := O) h (q_toSpin (N := N) h.1.1 h.1.2.1 hN')) (nt_toSpin (.inl rfl) (.inr rfl)) b2_y n2_z
  have e1' : f_L_toSpin N (HP C M K O) 0 x1 x2 x3 111 = some (w, HP C1 M K1 O1) := by
    simp only [f_L_toSpin, ↓b_rdC]
    exact e1
  refine ⟨K2, C1, M1, G1, W1, O1, ?_, e5⟩
  have f := fin_q (C := C1) (K := K2) (N := N) e3 e4
  simp only [f_L_c22, ↓bnd h1, ↓bnd h2, ↓bnd h3, ↓bnd e1', ↓b_rdM, ↓bnd e2]
  exact f
set_option maxHeartbeats 4000000 in
theorem st_23 (h : REL K C M G W) (h1 : jsx L xs (i + 1) = some x1) (hN : 10000 ≤ N) : ∃ K' C' M' G' W' O', f_L_c23 N L xs 0 71 111 i (HP C M K O) = some (HP C' M' K' O') ∧ REL K' C' M' G' W' := by
  have hN' : 1000 ≤ N := by omega
  obtain ⟨w, C1, K1, O1, e1, v, M1, K2, G1, W1, e2, e3, e4, e5⟩ := L1 (x6 := f_X6_toCall N (HP C M K O) 0 x1) (x7 := fun C' K' O' => f_X7_toCall N (HP C' M K' O') 71 x1) (P := fun k => k = 1) (B := fun k h => if k = 1 then some ((1 : Int32), h) else none) (AQ_of (O := O) h (q_toCall (N := N) h.1.1 h.1.2.1 hN')) (nt_toCall rfl) b1_y n1_z
  have e1' : f_L_toCall N (HP C M K O) 0 x1 111 = some (w, HP C1 M K1 O1) := by
    simp only [f_L_toCall, ↓b_rdC]
    exact e1
  refine ⟨K2, C1, M1, G1, W1, O1, ?_, e5⟩
  have f := fin_q (C := C1) (K := K2) (N := N) e3 e4
  simp only [f_L_c23, ↓bnd h1, ↓bnd e1', ↓b_rdM, ↓bnd e2]
  exact f
set_option maxHeartbeats 4000000 in
theorem st_24 (h : REL K C M G W) (h1 : jsx L xs (i + 1) = some x1) (hN : 10000 ≤ N) : ∃ K' C' M' G' W' O', f_L_c24 N L xs 0 71 111 i (HP C M K O) = some (HP C' M' K' O') ∧ REL K' C' M' G' W' := by
  have hN' : 1000 ≤ N := by omega
  obtain ⟨w, C1, K1, O1, e1, v, M1, K2, G1, W1, e2, e3, e4, e5⟩ := L1 (x6 := f_X6_panel N (HP C M K O) 0 x1) (x7 := fun C' K' O' => f_X7_panel N (HP C' M K' O') 71 x1) (P := fun k => k = 1) (B := fun k h => if k = 1 then some ((1 : Int32), h) else none) (AQ_of (O := O) h (q_panel (N := N) h.1.2.2 h.1.1 h.1.2.1 hN')) (nt_panel rfl) b1_y n1_z
  have e1' : f_L_panel N (HP C M K O) 0 x1 111 = some (w, HP C1 M K1 O1) := by
    simp only [f_L_panel, ↓b_rdC]
    exact e1
  refine ⟨K2, C1, M1, G1, W1, O1, ?_, e5⟩
  have f := fin_q (C := C1) (K := K2) (N := N) e3 e4
  simp only [f_L_c24, ↓bnd h1, ↓bnd e1', ↓b_rdM, ↓bnd e2]
  exact f
set_option maxHeartbeats 4000000 in
theorem st_25 (h : REL K C M G W) (h1 : jsx L xs (i + 1) = some x1) (hN : 10000 ≤ N) : ∃ K' C' M' G' W' O', f_L_c25 N L xs 0 71 111 i (HP C M K O) = some (HP C' M' K' O') ∧ REL K' C' M' G' W' := by
  have hN' : 1000 ≤ N := by omega
  obtain ⟨w, C1, K1, O1, e1, v, M1, K2, G1, W1, e2, e3, e4, e5⟩ := L1 (x6 := f_X6_seat N (HP C M K O) 0 x1) (x7 := fun C' K' O' => f_X7_seat N (HP C' M K' O') 71 x1) (P := fun k => k = 1) (B := fun k h => if k = 1 then some ((1 : Int32), h) else none) (AQ_of (O := O) h (q_seat (N := N) h.1.2.2 h.1.1 h.1.2.1 hN')) (nt_seat rfl) b1_y n1_z
  have e1' : f_L_seat N (HP C M K O) 0 x1 111 = some (w, HP C1 M K1 O1) := by
    simp only [f_L_seat, ↓b_rdC]
    exact e1
  refine ⟨K2, C1, M1, G1, W1, O1, ?_, e5⟩
  have f := fin_q (C := C1) (K := K2) (N := N) e3 e4
  simp only [f_L_c25, ↓bnd h1, ↓bnd e1', ↓b_rdM, ↓bnd e2]
  exact f
set_option maxHeartbeats 4000000 in
theorem st_26 (h : REL K C M G W) (h1 : jsx L xs (i + 1) = some x1) (h2 : jsx L xs (i + 2) = some x2) (hN : 10000 ≤ N) : ∃ K' C' M' G' W' O', f_L_c26 N L xs 0 71 111 i (HP C M K O) = some (HP C' M' K' O') ∧ REL K' C' M' G' W' := by
  have hN' : 1000 ≤ N := by omega
  obtain ⟨w, C1, K1, O1, e1, v, M1, K2, G1, W1, e2, e3, e4, e5⟩ := L1 (x6 := f_X6_unlike N (HP C M K O) 0 x1 x2) (x7 := fun C' K' O' => f_X7_unlike N (HP C' M K' O') 71 x1 x2) (P := fun k => k = 1) (B := fun k h => if k = 1 then some ((1 : Int32), h) else none) (AQ_of (O := O) h (q_unlike (N := N) h.1.1 h.1.2.1 hN')) (nt_unlike rfl) b1_y n1_z
  have e1' : f_L_unlike N (HP C M K O) 0 x1 x2 111 = some (w, HP C1 M K1 O1) := by
    simp only [f_L_unlike, ↓b_rdC]
    exact e1
  refine ⟨K2, C1, M1, G1, W1, O1, ?_, e5⟩
  have f := fin_q (C := C1) (K := K2) (N := N) e3 e4
  simp only [f_L_c26, ↓bnd h1, ↓bnd h2, ↓bnd e1', ↓b_rdM, ↓bnd e2]
  exact f
set_option maxHeartbeats 4000000 in
theorem st_27 (h : REL K C M G W) (h1 : jsx L xs (i + 1) = some x1) (h2 : jsx L xs (i + 2) = some x2) (hN : 10000 ≤ N) : ∃ K' C' M' G' W' O', f_L_c27 N L xs 0 71 111 i (HP C M K O) = some (HP C' M' K' O') ∧ REL K' C' M' G' W' := by
  have hN' : 1000 ≤ N := by omega
  obtain ⟨w, C1, K1, O1, e1, v, M1, K2, G1, W1, e2, e3, e4, e5⟩ := L1 (x6 := f_X6_sides N (HP C M K O) 0 x1 x2) (x7 := fun C' K' O' => f_X7_sides N (HP C' M K' O') 71 x1 x2) (P := fun k => k = 1 ∨ k = 2) (B := fun k h => if k = 1 then some ((1 : Int32), h) else if k = 2 then some ((2 : Int32), h) else none) (AQ_of (O := O) h (q_sides (N := N) h.1.1 h.1.2.1 hN')) (nt_sides (.inl rfl) (.inr rfl)) b2_y n2_z
  have e1' : f_L_sides N (HP C M K O) 0 x1 x2 111 = some (w, HP C1 M K1 O1) := by
    simp only [f_L_sides, ↓b_rdC]
    exact e1
  refine ⟨K2, C1, M1, G1, W1, O1, ?_, e5⟩
  have f := fin_q (C := C1) (K := K2) (N := N) e3 e4
  simp only [f_L_c27, ↓bnd h1, ↓bnd h2, ↓bnd e1', ↓b_rdM, ↓bnd e2]
  exact f
set_option maxHeartbeats 4000000 in
theorem st_28 (h : REL K C M G W) (h1 : jsx L xs (i + 1) = some x1) (h2 : jsx L xs (i + 2) = some x2) (hN : 10000 ≤ N) : ∃ K' C' M' G' W' O', f_L_c28 N L xs 0 71 111 i (HP C M K O) = some (HP C' M' K' O') ∧ REL K' C' M' G' W' := by
  have hN' : 1000 ≤ N := by omega
  obtain ⟨w, C1, K1, O1, e1, v, M1, K2, G1, W1, e2, e3, e4, e5⟩ := L1 (x6 := f_X6_facing N (HP C M K O) 0 x1 x2) (x7 := fun C' K' O' => f_X7_facing N (HP C' M K' O') 71 x1 x2) (P := fun k => k = 1 ∨ k = 2) (B := fun k h => if k = 1 then some ((1 : Int32), h) else if k = 2 then some ((2 : Int32), h) else none) (AQ_of (O := O) h (q_facing (N := N) h.1.1 h.1.2.1 hN')) (nt_facing (.inl rfl) (.inr rfl)) b2_y n2_z
  have e1' : f_L_facing N (HP C M K O) 0 x1 x2 111 = some (w, HP C1 M K1 O1) := by
    simp only [f_L_facing, ↓b_rdC]
    exact e1
  refine ⟨K2, C1, M1, G1, W1, O1, ?_, e5⟩
  have f := fin_q (C := C1) (K := K2) (N := N) e3 e4
  simp only [f_L_c28, ↓bnd h1, ↓bnd h2, ↓bnd e1', ↓b_rdM, ↓bnd e2]
  exact f
set_option maxHeartbeats 4000000 in
theorem st_29 (h : REL K C M G W) (h1 : jsx L xs (i + 1) = some x1) (h2 : jsx L xs (i + 2) = some x2) (h3 : jsx L xs (i + 3) = some x3) (hN : 10000 ≤ N) : ∃ K' C' M' G' W' O', f_L_c29 N L xs 0 71 111 i (HP C M K O) = some (HP C' M' K' O') ∧ REL K' C' M' G' W' := by
  have hN' : 1000 ≤ N := by omega
  obtain ⟨w, C1, K1, O1, e1, v, M1, K2, G1, W1, e2, e3, e4, e5⟩ := L1 (x6 := f_X6_agree N (HP C M K O) 0 x1 x2 x3) (x7 := fun C' K' O' => f_X7_agree N (HP C' M K' O') 71 x1 x2 x3) (P := fun k => k = 1 ∨ k = 2) (B := fun k h => if k = 1 then some ((1 : Int32), h) else if k = 2 then some ((2 : Int32), h) else none) (AQ_of (O := O) h (q_agree (N := N) h.1.1 h.1.2.1 hN')) (nt_agree (.inl rfl) (.inr rfl)) b2_y n2_z
  have e1' : f_L_agree N (HP C M K O) 0 x1 x2 x3 111 = some (w, HP C1 M K1 O1) := by
    simp only [f_L_agree, ↓b_rdC]
    exact e1
  refine ⟨K2, C1, M1, G1, W1, O1, ?_, e5⟩
  have f := fin_q (C := C1) (K := K2) (N := N) e3 e4
  simp only [f_L_c29, ↓bnd h1, ↓bnd h2, ↓bnd h3, ↓bnd e1', ↓b_rdM, ↓bnd e2]
  exact f
set_option maxHeartbeats 4000000 in
theorem st_30 (h : REL K C M G W) (h1 : jsx L xs (i + 1) = some x1) (h2 : jsx L xs (i + 2) = some x2) (h3 : jsx L xs (i + 3) = some x3) (hN : 10000 ≤ N) : ∃ K' C' M' G' W' O', f_L_c30 N L xs 0 71 111 i (HP C M K O) = some (HP C' M' K' O') ∧ REL K' C' M' G' W' := by
  have hN' : 1000 ≤ N := by omega
  obtain ⟨w, C1, K1, O1, e1, v, M1, K2, G1, W1, e2, e3, e4, e5⟩ := L1 (x6 := f_X6_see N (HP C M K O) 0 x1 x2 x3) (x7 := fun C' K' O' => f_X7_see N (HP C' M K' O') 71 x1 x2 x3) (P := fun k => k = 1) (B := fun k h => if k = 1 then some ((1 : Int32), h) else none) (a_see (O := O) (N := N) h) (nt_see rfl) b1_y n1_z
  have e1' : f_L_see N (HP C M K O) 0 x1 x2 x3 111 = some (w, HP C1 M K1 O1) := by
    simp only [f_L_see, ↓b_rdC]
    exact e1
  refine ⟨K2, C1, M1, G1, W1, O1, ?_, e5⟩
  have f := fin_q (C := C1) (K := K2) (N := N) e3 e4
  simp only [f_L_c30, ↓bnd h1, ↓bnd h2, ↓bnd h3, ↓bnd e1', ↓b_rdM, ↓bnd e2]
  exact f
set_option maxHeartbeats 4000000 in
theorem st_31 (h : REL K C M G W) (h1 : jsx L xs (i + 1) = some x1) (hN : 10000 ≤ N) : ∃ K' C' M' G' W' O', f_L_c31 N L xs 0 71 111 i (HP C M K O) = some (HP C' M' K' O') ∧ REL K' C' M' G' W' := by
  have hN' : 1000 ≤ N := by omega
  obtain ⟨q, sj, st, s1, s2, s3, s4⟩ := RS_split h.1.1.2.1.2.2.1 h.2.2.2.2.1
  have hS : SC G C q sj st (fun i => C 35 i) := ⟨s1, s2, fun i hi => by
    obtain ⟨a1, a2, a3, a4, a5, a6, a7⟩ := s4 i hi
    exact ⟨a3, a5, rfl, a1, a2⟩⟩
  have hM : SM M q sj st (fun i => C 35 i) := ⟨s3, fun i hi => by
    obtain ⟨a1, a2, a3, a4, a5, a6, a7⟩ := s4 i hi
    exact ⟨a4, a6, a7.symm⟩⟩
  obtain ⟨w, C1, K1, O1, e1, v, M1, K2, G1, W1, e2, e3, e4, e5⟩ := L1 (x6 := f_X6_leans N (HP C M K O) 0 x1) (x7 := fun C' K' O' => f_X7_leans N (HP C' M K' O') 71 x1) (P := fun k => k = 1) (B := fun k h => if k = 1 then some ((1 : Int32), h) else none) (AQ_of (O := O) h (q_leans (N := N) h.1.2.2 hS hM h.1.1 h.1.2.1 hN')) (nt_leans rfl) b1_y n1_z
  have e1' : f_L_leans N (HP C M K O) 0 x1 111 = some (w, HP C1 M K1 O1) := by
    simp only [f_L_leans, ↓b_rdC]
    exact e1
  refine ⟨K2, C1, M1, G1, W1, O1, ?_, e5⟩
  have f := fin_q (C := C1) (K := K2) (N := N) e3 e4
  simp only [f_L_c31, ↓bnd h1, ↓bnd e1', ↓b_rdM, ↓bnd e2]
  exact f
set_option maxHeartbeats 4000000 in
theorem st_32 (h : REL K C M G W) (h1 : jsx L xs (i + 1) = some x1) (hN : 10000 ≤ N) : ∃ K' C' M' G' W' O', f_L_c32 N L xs 0 71 111 i (HP C M K O) = some (HP C' M' K' O') ∧ REL K' C' M' G' W' := by
  have hN' : 1000 ≤ N := by omega
  obtain ⟨q, sj, st, s1, s2, s3, s4⟩ := RS_split h.1.1.2.1.2.2.1 h.2.2.2.2.1
  have hS : SC G C q sj st (fun i => C 35 i) := ⟨s1, s2, fun i hi => by
    obtain ⟨a1, a2, a3, a4, a5, a6, a7⟩ := s4 i hi
    exact ⟨a3, a5, rfl, a1, a2⟩⟩
  have hM : SM M q sj st (fun i => C 35 i) := ⟨s3, fun i hi => by
    obtain ⟨a1, a2, a3, a4, a5, a6, a7⟩ := s4 i hi
    exact ⟨a4, a6, a7.symm⟩⟩
  obtain ⟨w, C1, K1, O1, e1, v, M1, K2, G1, W1, e2, e3, e4, e5⟩ := L1 (x6 := f_X6_watch N (HP C M K O) 0 x1) (x7 := fun C' K' O' => f_X7_watch N (HP C' M K' O') 71 x1) (P := fun k => k = 1) (B := fun k h => if k = 1 then some ((1 : Int32), h) else none) (AQ_of (O := O) h (q_watch (N := N) h.1.2.2 hS hM h.1.1 h.1.2.1 hN')) (nt_watch rfl) b1_y n1_z
  have e1' : f_L_watch N (HP C M K O) 0 x1 111 = some (w, HP C1 M K1 O1) := by
    simp only [f_L_watch, ↓b_rdC]
    exact e1
  refine ⟨K2, C1, M1, G1, W1, O1, ?_, e5⟩
  have f := fin_q (C := C1) (K := K2) (N := N) e3 e4
  simp only [f_L_c32, ↓bnd h1, ↓bnd e1', ↓b_rdM, ↓bnd e2]
  exact f
set_option maxHeartbeats 4000000 in
theorem st_33 (h : REL K C M G W)  (hN : 10000 ≤ N) : ∃ K' C' M' G' W' O', f_L_c33 N L xs 0 71 111 i (HP C M K O) = some (HP C' M' K' O') ∧ REL K' C' M' G' W' := by
  have hN' : 1000 ≤ N := by omega
  obtain ⟨C1, K1, e1, q⟩ := a_forget (O := O) (N := N) h
  obtain ⟨M1, K2, G1, W1, e2, e5⟩ := q O
  refine ⟨K2, C1, M1, G1, W1, O, ?_, e5⟩
  simp only [f_L_c33, ↓b_rdC, ↓bnd e1, ↓b_rdM, ↓bnd e2]
set_option maxHeartbeats 4000000 in
theorem st_34 (h : REL K C M G W) (h1 : jsx L xs (i + 1) = some x1) (h2 : jsx L xs (i + 2) = some x2) (h3 : jsx L xs (i + 3) = some x3) (hN : 10000 ≤ N) : ∃ K' C' M' G' W' O', f_L_c34 N L xs 0 71 111 i (HP C M K O) = some (HP C' M' K' O') ∧ REL K' C' M' G' W' := by
  have hN' : 1000 ≤ N := by omega
  obtain ⟨w, C1, K1, O1, e1, v, M1, K2, G1, W1, e2, e3, e4, e5⟩ := L1 (x6 := f_X6_floods N (HP C M K O) 0 x1 x2 x3) (x7 := fun C' K' O' => f_X7_floods N (HP C' M K' O') 71 x1 x2 x3) (P := fun k => k = 1 ∨ k = 2) (B := fun k h => if k = 1 then some ((1 : Int32), h) else if k = 2 then some ((2 : Int32), h) else none) (AQ_of (O := O) h (q_floods (N := N) h.1.1 h.1.2.1 hN')) (nt_floods (.inl rfl) (.inr rfl)) b2_y n2_z
  have e1' : f_L_floods N (HP C M K O) 0 x1 x2 x3 111 = some (w, HP C1 M K1 O1) := by
    simp only [f_L_floods, ↓b_rdC]
    exact e1
  refine ⟨K2, C1, M1, G1, W1, O1, ?_, e5⟩
  have f := fin_q (C := C1) (K := K2) (N := N) e3 e4
  simp only [f_L_c34, ↓bnd h1, ↓bnd h2, ↓bnd h3, ↓bnd e1', ↓b_rdM, ↓bnd e2]
  exact f
set_option maxHeartbeats 4000000 in
theorem st_35 (h : REL K C M G W) (h1 : jsx L xs (i + 1) = some x1) (h2 : jsx L xs (i + 2) = some x2) (h3 : jsx L xs (i + 3) = some x3) (hN : 10000 ≤ N) : ∃ K' C' M' G' W' O', f_L_c35 N L xs 0 71 111 i (HP C M K O) = some (HP C' M' K' O') ∧ REL K' C' M' G' W' := by
  have hN' : 1000 ≤ N := by omega
  obtain ⟨w, C1, K1, O1, e1, v, M1, K2, G1, W1, e2, e3, e4, e5⟩ := L1 (x6 := f_X6_game N (HP C M K O) 0 x1 x2 x3) (x7 := fun C' K' O' => f_X7_game N (HP C' M K' O') 71 x1 x2 x3) (P := fun k => k = 1 ∨ k = 2) (B := fun k h => if k = 1 then some ((1 : Int32), h) else if k = 2 then some ((2 : Int32), h) else none) (AQ_of (O := O) h (q_game (N := N) h.1.1 h.1.2.1 hN')) (nt_game (.inl rfl) (.inr rfl)) b2_y n2_z
  have e1' : f_L_game N (HP C M K O) 0 x1 x2 x3 111 = some (w, HP C1 M K1 O1) := by
    simp only [f_L_game, ↓b_rdC]
    exact e1
  refine ⟨K2, C1, M1, G1, W1, O1, ?_, e5⟩
  have f := fin_q (C := C1) (K := K2) (N := N) e3 e4
  simp only [f_L_c35, ↓bnd h1, ↓bnd h2, ↓bnd h3, ↓bnd e1', ↓b_rdM, ↓bnd e2]
  exact f
set_option maxHeartbeats 4000000 in
theorem st_36 (h : REL K C M G W) (h1 : jsx L xs (i + 1) = some x1) (h2 : jsx L xs (i + 2) = some x2) (h3 : jsx L xs (i + 3) = some x3) (hN : 10000 ≤ N) : ∃ K' C' M' G' W' O', f_L_c36 N L xs 0 71 111 i (HP C M K O) = some (HP C' M' K' O') ∧ REL K' C' M' G' W' := by
  have hN' : 1000 ≤ N := by omega
  obtain ⟨w, C1, K1, O1, e1, v, M1, K2, G1, W1, e2, e3, e4, e5⟩ := L1 (x6 := f_X6_years N (HP C M K O) 0 x1 x2 x3) (x7 := fun C' K' O' => f_X7_years N (HP C' M K' O') 71 x1 x2 x3) (P := fun k => k = 1 ∨ k = 2) (B := fun k h => if k = 1 then some ((1 : Int32), h) else if k = 2 then some ((2 : Int32), h) else none) (AQ_of (O := O) h (q_years (N := N) h.1.1 h.1.2.1 hN')) (nt_years (.inl rfl) (.inr rfl)) b2_y n2_z
  have e1' : f_L_years N (HP C M K O) 0 x1 x2 x3 111 = some (w, HP C1 M K1 O1) := by
    simp only [f_L_years, ↓b_rdC]
    exact e1
  refine ⟨K2, C1, M1, G1, W1, O1, ?_, e5⟩
  have f := fin_q (C := C1) (K := K2) (N := N) e3 e4
  simp only [f_L_c36, ↓bnd h1, ↓bnd h2, ↓bnd h3, ↓bnd e1', ↓b_rdM, ↓bnd e2]
  exact f
set_option maxHeartbeats 4000000 in
theorem st_37 (h : REL K C M G W)  (hN : 10000 ≤ N) : ∃ K' C' M' G' W' O', f_L_c37 N L xs 0 71 111 i (HP C M K O) = some (HP C' M' K' O') ∧ REL K' C' M' G' W' := by
  have hN' : 1000 ≤ N := by omega
  obtain ⟨C1, K1, e1, q⟩ := a_image (O := O) (N := N) h hN
  obtain ⟨M1, K2, G1, W1, e2, e5⟩ := q O
  refine ⟨K2, C1, M1, G1, W1, O, ?_, e5⟩
  simp only [f_L_c37, ↓b_rdC, ↓bnd e1, ↓b_rdM, ↓bnd e2]
set_option maxHeartbeats 4000000 in
theorem st_38 (h : REL K C M G W)  (hN : 10000 ≤ N) : ∃ K' C' M' G' W' O', f_L_c38 N L xs 0 71 111 i (HP C M K O) = some (HP C' M' K' O') ∧ REL K' C' M' G' W' := by
  have hN' : 1000 ≤ N := by omega
  obtain ⟨v, C1, K1, e1, q⟩ := a_restore (O := O) (N := N) h hN
  obtain ⟨M1, K2, G1, W1, e2, e5⟩ := q O
  refine ⟨K2, C1, M1, G1, W1, O, ?_, e5⟩
  simp only [f_L_c38, ↓b_rdC, ↓bnd e1, ↓b_rdM, ↓bnd e2, not_true_eq_false, if_false]
end S90
