theorem dk_L_gorge_0 : jDec cL_gorge [(0, .aload_n 2, 1), (1, .iconst 0, 1), (2, .aload_n 0, 1), (3, .iload_n 1, 1), (4, .invokevirtual 7, 3), (7, .i2l, 1), (8, .lastore, 1), (9, .goto 6, 3), (12, .astore_n 3, 1), (13, .iconst 1, 1), (14, .ireturn, 1), (15, .iconst 0, 1), (16, .ireturn, 1)] := by
  unfold jDec
  decide +kernel
def f_L_gorge (N : Nat) (h : AH) (a0 : Nat) (a1 : Int32) (a2 : Nat) : Option (Int32 × AH) :=
  (jck 6 h a0).bind fun _ =>
  (f_X6_gorge N h a0 a1).bind fun r =>
  Sum.elim (fun k9 => if k9 = 2 then some ((1 : Int32), r.2) else none) (fun y => (jls 3 r.2 a2 0 (Int32.toInt64 y)).bind fun h9 => some (0, h9)) r.1
theorem cal_L_gorge : Cond.codeWith yL_gorge cL_gorge 4 (some .int) [(0, 9, 12, 13)] ∈ jT ∧ Cond.static yL_gorge ∈ jT ∧ Cond.initialized RL ∈ jT ∧ jN yL_gorge 3 := ⟨(jl9_in _ (List.mem_of_getElem? (i := 24) rfl)), (jl9_in _ (List.mem_of_getElem? (i := 23) rfl)), (jl0_in _ (List.mem_of_getElem? (i := 0) rfl)), ⟨by decide, by decide, by decide +kernel⟩⟩
set_option maxRecDepth 100000 in
set_option maxHeartbeats 4000000 in
theorem lk_L_gorge {G : JG} {l : Launch} (hG : jG G) (htr : l.stackTraces = false) (N : Nat) {h : AH} {a0 : Nat} {a1 : Int32} {a2 : Nat} {r : Int32 × AH} (hf : f_L_gorge N h a0 a1 a2 = some r) : jMetW G l yL_gorge cL_gorge 4 (some .int) [(0, 9, 12, 13)] 110 1 6 [.ref a0, .int a1, .ref a2] h (jpi r) := by
  unfold f_L_gorge at hf
  refine jMetW_of hG htr (by decide) (Nat.le_of_ble_eq_true rfl) ?_
  intro X E hl9 hr hX ht
  show JW G X (RL, cL_gorge, 4) h [(0, .ref a0), (1, .int a1), (2, .ref a2)] [] 0 0 0 (jEnd G X (jpi r) 1 6)
  refine J_aload_n E (jd dk_L_gorge_0 0 rfl) rfl 2 rfl ?_
  refine J_iconst (v := 0) E (jd dk_L_gorge_0 1 rfl) rfl ?_
  refine J_aload_n E (jd dk_L_gorge_0 2 rfl) rfl 0 rfl ?_
  refine J_iload_n E (jd dk_L_gorge_0 3 rfl) rfl 1 rfl ?_
  obtain ⟨u1, e0, hf⟩ := jbind hf
  obtain ⟨⟨ra, rb⟩, e1, hf⟩ := jbind hf
  refine J_callVX E (jd dk_L_gorge_0 4 rfl) ml_RL_7 cal_X6_gorge e0 rfl (lk_X6_gorge (jE_g E) (jE_tr E) N e1) rfl (Nat.le_of_ble_eq_true rfl) (jR_le hX (by decide) (by decide)) (jFx hX (by decide) (by decide)) rfl ?_ ?_
  rotate_left
  · rintro _ hb9 ⟨k9, rfl, rfl, rfl⟩
    replace hf : (if k9 = 2 then some ((1 : Int32), hb9) else none) = some r := hf
    by_cases c0 : k9 = 2
    · replace hf := jif_t c0 hf
      cases hf
      subst c0
      exact J_caught (name := "java/lang/IllegalArgumentException") (i := 3) (n := 1) (v := 1) (q1 := 13) E [] ⟨0, 9, 12, 13⟩ [] ht (Or.inl rfl) (by decide) (by decide) (jl9_in _ (List.mem_of_getElem? (i := 25) rfl)) (by decide +kernel) (by decide) rfl (Or.inr ⟨3, rfl, (jd dk_L_gorge_0 8 rfl)⟩) rfl ⟨fun _ => by decide, fun _ => ⟨3, rfl, (jd dk_L_gorge_0 8 rfl)⟩⟩ (jd dk_L_gorge_0 9 rfl) (jd dk_L_gorge_0 10 rfl) hr (by decide) (by decide) ⟨rfl, rfl⟩
    replace hf := jif_f c0 hf
    cases hf
  rintro _ hb9 ⟨y9, rfl, rfl, rfl⟩
  replace hf : (jls 3 hb9 a2 0 (Int32.toInt64 y9)).bind (fun h9 => some ((0 : Int32), h9)) = some r := hf
  refine J_i2l E (jd dk_L_gorge_0 5 rfl) ?_
  obtain ⟨h9, e9, hf⟩ := jbind hf
  refine J_last E (jd dk_L_gorge_0 6 rfl) e9 ?_
  refine J_goto (tgt := 15) E (jd dk_L_gorge_0 7 rfl) (by decide) ?_
  refine J_iconst (v := 0) E (jd dk_L_gorge_0 11 rfl) rfl ?_
  cases hf
  exact J_iret E hr rfl (jd dk_L_gorge_0 12 rfl) (by decide) (by decide) ⟨rfl, rfl⟩
theorem dk_L_count_0 : jDec cL_count [(0, .aload_n 2, 1), (1, .iconst 0, 1), (2, .aload_n 0, 1), (3, .iload_n 1, 1), (4, .invokevirtual 15, 3), (7, .i2l, 1), (8, .lastore, 1), (9, .goto 6, 3), (12, .astore_n 3, 1), (13, .iconst 1, 1), (14, .ireturn, 1), (15, .iconst 0, 1), (16, .ireturn, 1)] := by
  unfold jDec
  decide +kernel
def f_L_count (N : Nat) (h : AH) (a0 : Nat) (a1 : Int32) (a2 : Nat) : Option (Int32 × AH) :=
  (jck 6 h a0).bind fun _ =>
  (f_X6_count N h a0 a1).bind fun r =>
  Sum.elim (fun k9 => if k9 = 1 then some ((1 : Int32), r.2) else none) (fun y => (jls 3 r.2 a2 0 (Int32.toInt64 y)).bind fun h9 => some (0, h9)) r.1
theorem cal_L_count : Cond.codeWith yL_count cL_count 4 (some .int) [(0, 9, 12, 18)] ∈ jT ∧ Cond.static yL_count ∈ jT ∧ Cond.initialized RL ∈ jT ∧ jN yL_count 3 := ⟨(jl14_in _ (List.mem_of_getElem? (i := 20) rfl)), (jl14_in _ (List.mem_of_getElem? (i := 19) rfl)), (jl0_in _ (List.mem_of_getElem? (i := 0) rfl)), ⟨by decide, by decide, by decide +kernel⟩⟩
set_option maxRecDepth 100000 in
set_option maxHeartbeats 4000000 in
theorem lk_L_count {G : JG} {l : Launch} (hG : jG G) (htr : l.stackTraces = false) (N : Nat) {h : AH} {a0 : Nat} {a1 : Int32} {a2 : Nat} {r : Int32 × AH} (hf : f_L_count N h a0 a1 a2 = some r) : jMetW G l yL_count cL_count 4 (some .int) [(0, 9, 12, 18)] 4 1 6 [.ref a0, .int a1, .ref a2] h (jpi r) := by
  unfold f_L_count at hf
  refine jMetW_of hG htr (by decide) (Nat.le_of_ble_eq_true rfl) ?_
  intro X E hl9 hr hX ht
  show JW G X (RL, cL_count, 4) h [(0, .ref a0), (1, .int a1), (2, .ref a2)] [] 0 0 0 (jEnd G X (jpi r) 1 6)
  refine J_aload_n E (jd dk_L_count_0 0 rfl) rfl 2 rfl ?_
  refine J_iconst (v := 0) E (jd dk_L_count_0 1 rfl) rfl ?_
  refine J_aload_n E (jd dk_L_count_0 2 rfl) rfl 0 rfl ?_
  refine J_iload_n E (jd dk_L_count_0 3 rfl) rfl 1 rfl ?_
  obtain ⟨u1, e0, hf⟩ := jbind hf
  obtain ⟨⟨ra, rb⟩, e1, hf⟩ := jbind hf
  refine J_callVX E (jd dk_L_count_0 4 rfl) ml_RL_15 cal_X6_count e0 rfl (lk_X6_count (jE_g E) (jE_tr E) N e1) rfl (Nat.le_of_ble_eq_true rfl) (jR_le hX (by decide) (by decide)) (jFx hX (by decide) (by decide)) rfl ?_ ?_
  rotate_left
  · rintro _ hb9 ⟨k9, rfl, rfl, rfl⟩
    replace hf : (if k9 = 1 then some ((1 : Int32), hb9) else none) = some r := hf
    by_cases c0 : k9 = 1
    · replace hf := jif_t c0 hf
      cases hf
      subst c0
      exact J_caught (name := "java/util/NoSuchElementException") (i := 3) (n := 1) (v := 1) (q1 := 13) E [] ⟨0, 9, 12, 18⟩ [] ht (Or.inl rfl) (by decide) (by decide) (jl14_in _ (List.mem_of_getElem? (i := 21) rfl)) (by decide +kernel) (by decide) rfl (Or.inr ⟨3, rfl, (jd dk_L_count_0 8 rfl)⟩) rfl ⟨fun _ => by decide, fun _ => ⟨3, rfl, (jd dk_L_count_0 8 rfl)⟩⟩ (jd dk_L_count_0 9 rfl) (jd dk_L_count_0 10 rfl) hr (by decide) (by decide) ⟨rfl, rfl⟩
    replace hf := jif_f c0 hf
    cases hf
  rintro _ hb9 ⟨y9, rfl, rfl, rfl⟩
  replace hf : (jls 3 hb9 a2 0 (Int32.toInt64 y9)).bind (fun h9 => some ((0 : Int32), h9)) = some r := hf
  refine J_i2l E (jd dk_L_count_0 5 rfl) ?_
  obtain ⟨h9, e9, hf⟩ := jbind hf
  refine J_last E (jd dk_L_count_0 6 rfl) e9 ?_
  refine J_goto (tgt := 15) E (jd dk_L_count_0 7 rfl) (by decide) ?_
  refine J_iconst (v := 0) E (jd dk_L_count_0 11 rfl) rfl ?_
  cases hf
  exact J_iret E hr rfl (jd dk_L_count_0 12 rfl) (by decide) (by decide) ⟨rfl, rfl⟩
theorem dk_L_reach_0 : jDec cL_reach [(0, .aload_n 3, 1), (1, .iconst 0, 1), (2, .aload_n 0, 1), (3, .iload_n 1, 1), (4, .iload_n 2, 1), (5, .invokevirtual 20, 3), (8, .i2l, 1), (9, .lastore, 1), (10, .goto 7, 3), (13, .astore 4, 2), (15, .iconst 1, 1), (16, .ireturn, 1), (17, .iconst 0, 1), (18, .ireturn, 1)] := by
  unfold jDec
  decide +kernel
def f_L_reach (N : Nat) (h : AH) (a0 : Nat) (a1 : Int32) (a2 : Int32) (a3 : Nat) : Option (Int32 × AH) :=
  (jck 6 h a0).bind fun _ =>
  (f_X6_reach N h a0 a1 a2).bind fun r =>
  Sum.elim (fun k9 => if k9 = 1 then some ((1 : Int32), r.2) else none) (fun y => (jls 3 r.2 a3 0 (Int32.toInt64 y)).bind fun h9 => some (0, h9)) r.1
theorem cal_L_reach : Cond.codeWith yL_reach cL_reach 5 (some .int) [(0, 10, 13, 18)] ∈ jT ∧ Cond.static yL_reach ∈ jT ∧ Cond.initialized RL ∈ jT ∧ jN yL_reach 4 := ⟨(jl15_in _ (List.mem_of_getElem? (i := 12) rfl)), (jl15_in _ (List.mem_of_getElem? (i := 11) rfl)), (jl0_in _ (List.mem_of_getElem? (i := 0) rfl)), ⟨by decide, by decide, by decide +kernel⟩⟩
set_option maxRecDepth 100000 in
set_option maxHeartbeats 4000000 in
theorem lk_L_reach {G : JG} {l : Launch} (hG : jG G) (htr : l.stackTraces = false) (N : Nat) {h : AH} {a0 : Nat} {a1 : Int32} {a2 : Int32} {a3 : Nat} {r : Int32 × AH} (hf : f_L_reach N h a0 a1 a2 a3 = some r) : jMetW G l yL_reach cL_reach 5 (some .int) [(0, 10, 13, 18)] 3 2 12 [.ref a0, .int a1, .int a2, .ref a3] h (jpi r) := by
  unfold f_L_reach at hf
  refine jMetW_of hG htr (by decide) (Nat.le_of_ble_eq_true rfl) ?_
  intro X E hl9 hr hX ht
  show JW G X (RL, cL_reach, 5) h [(0, .ref a0), (1, .int a1), (2, .int a2), (3, .ref a3)] [] 0 0 0 (jEnd G X (jpi r) 2 12)
  refine J_aload_n E (jd dk_L_reach_0 0 rfl) rfl 3 rfl ?_
  refine J_iconst (v := 0) E (jd dk_L_reach_0 1 rfl) rfl ?_
  refine J_aload_n E (jd dk_L_reach_0 2 rfl) rfl 0 rfl ?_
  refine J_iload_n E (jd dk_L_reach_0 3 rfl) rfl 1 rfl ?_
  refine J_iload_n E (jd dk_L_reach_0 4 rfl) rfl 2 rfl ?_
  obtain ⟨u1, e0, hf⟩ := jbind hf
  obtain ⟨⟨ra, rb⟩, e1, hf⟩ := jbind hf
  refine J_callVX E (jd dk_L_reach_0 5 rfl) ml_RL_20 cal_X6_reach e0 rfl (lk_X6_reach (jE_g E) (jE_tr E) N e1) rfl (Nat.le_of_ble_eq_true rfl) (jR_le hX (by decide) (by decide)) (jFx hX (by decide) (by decide)) rfl ?_ ?_
  rotate_left
  · rintro _ hb9 ⟨k9, rfl, rfl, rfl⟩
    replace hf : (if k9 = 1 then some ((1 : Int32), hb9) else none) = some r := hf
    by_cases c0 : k9 = 1
    · replace hf := jif_t c0 hf
      cases hf
      subst c0
      exact J_caught (name := "java/util/NoSuchElementException") (i := 4) (n := 1) (v := 1) (q1 := 15) E [] ⟨0, 10, 13, 18⟩ [] ht (Or.inl rfl) (by decide) (by decide) (jl14_in _ (List.mem_of_getElem? (i := 21) rfl)) (by decide +kernel) (by decide) rfl (Or.inl (jd dk_L_reach_0 9 rfl)) rfl ⟨fun ⟨j, hj, _⟩ => by have := j.isLt; omega, fun z => absurd z (by decide)⟩ (jd dk_L_reach_0 10 rfl) (jd dk_L_reach_0 11 rfl) hr (by decide) (by decide) ⟨rfl, rfl⟩
    replace hf := jif_f c0 hf
    cases hf
  rintro _ hb9 ⟨y9, rfl, rfl, rfl⟩
  replace hf : (jls 3 hb9 a3 0 (Int32.toInt64 y9)).bind (fun h9 => some ((0 : Int32), h9)) = some r := hf
  refine J_i2l E (jd dk_L_reach_0 6 rfl) ?_
  obtain ⟨h9, e9, hf⟩ := jbind hf
  refine J_last E (jd dk_L_reach_0 7 rfl) e9 ?_
  refine J_goto (tgt := 17) E (jd dk_L_reach_0 8 rfl) (by decide) ?_
  refine J_iconst (v := 0) E (jd dk_L_reach_0 12 rfl) rfl ?_
  cases hf
  exact J_iret E hr rfl (jd dk_L_reach_0 13 rfl) (by decide) (by decide) ⟨rfl, rfl⟩
theorem dk_L_judge_0 : jDec cL_judge [(0, .aload_n 3, 1), (1, .iconst 0, 1), (2, .aload_n 0, 1), (3, .iload_n 1, 1), (4, .iload_n 2, 1), (5, .invokevirtual 24, 3), (8, .i2l, 1), (9, .lastore, 1), (10, .goto 7, 3), (13, .astore 4, 2), (15, .iconst 1, 1), (16, .ireturn, 1), (17, .iconst 0, 1), (18, .ireturn, 1)] := by
  unfold jDec
  decide +kernel
def f_L_judge (N : Nat) (h : AH) (a0 : Nat) (a1 : Int32) (a2 : Int32) (a3 : Nat) : Option (Int32 × AH) :=
  (jck 6 h a0).bind fun _ =>
  (f_X6_judge N h a0 a1 a2).bind fun r =>
  Sum.elim (fun k9 => if k9 = 1 then some ((1 : Int32), r.2) else none) (fun y => (jls 3 r.2 a3 0 (Int32.toInt64 y)).bind fun h9 => some (0, h9)) r.1
theorem cal_L_judge : Cond.codeWith yL_judge cL_judge 5 (some .int) [(0, 10, 13, 18)] ∈ jT ∧ Cond.static yL_judge ∈ jT ∧ Cond.initialized RL ∈ jT ∧ jN yL_judge 4 := ⟨(jl15_in _ (List.mem_of_getElem? (i := 26) rfl)), (jl15_in _ (List.mem_of_getElem? (i := 25) rfl)), (jl0_in _ (List.mem_of_getElem? (i := 0) rfl)), ⟨by decide, by decide, by decide +kernel⟩⟩
set_option maxRecDepth 100000 in
set_option maxHeartbeats 4000000 in
theorem lk_L_judge {G : JG} {l : Launch} (hG : jG G) (htr : l.stackTraces = false) (N : Nat) {h : AH} {a0 : Nat} {a1 : Int32} {a2 : Int32} {a3 : Nat} {r : Int32 × AH} (hf : f_L_judge N h a0 a1 a2 a3 = some r) : jMetW G l yL_judge cL_judge 5 (some .int) [(0, 10, 13, 18)] 3 2 12 [.ref a0, .int a1, .int a2, .ref a3] h (jpi r) := by
  unfold f_L_judge at hf
  refine jMetW_of hG htr (by decide) (Nat.le_of_ble_eq_true rfl) ?_
  intro X E hl9 hr hX ht
  show JW G X (RL, cL_judge, 5) h [(0, .ref a0), (1, .int a1), (2, .int a2), (3, .ref a3)] [] 0 0 0 (jEnd G X (jpi r) 2 12)
  refine J_aload_n E (jd dk_L_judge_0 0 rfl) rfl 3 rfl ?_
  refine J_iconst (v := 0) E (jd dk_L_judge_0 1 rfl) rfl ?_
  refine J_aload_n E (jd dk_L_judge_0 2 rfl) rfl 0 rfl ?_
  refine J_iload_n E (jd dk_L_judge_0 3 rfl) rfl 1 rfl ?_
  refine J_iload_n E (jd dk_L_judge_0 4 rfl) rfl 2 rfl ?_
  obtain ⟨u1, e0, hf⟩ := jbind hf
  obtain ⟨⟨ra, rb⟩, e1, hf⟩ := jbind hf
  refine J_callVX E (jd dk_L_judge_0 5 rfl) ml_RL_24 cal_X6_judge e0 rfl (lk_X6_judge (jE_g E) (jE_tr E) N e1) rfl (Nat.le_of_ble_eq_true rfl) (jR_le hX (by decide) (by decide)) (jFx hX (by decide) (by decide)) rfl ?_ ?_
  rotate_left
  · rintro _ hb9 ⟨k9, rfl, rfl, rfl⟩
    replace hf : (if k9 = 1 then some ((1 : Int32), hb9) else none) = some r := hf
    by_cases c0 : k9 = 1
    · replace hf := jif_t c0 hf
      cases hf
      subst c0
      exact J_caught (name := "java/util/NoSuchElementException") (i := 4) (n := 1) (v := 1) (q1 := 15) E [] ⟨0, 10, 13, 18⟩ [] ht (Or.inl rfl) (by decide) (by decide) (jl14_in _ (List.mem_of_getElem? (i := 21) rfl)) (by decide +kernel) (by decide) rfl (Or.inl (jd dk_L_judge_0 9 rfl)) rfl ⟨fun ⟨j, hj, _⟩ => by have := j.isLt; omega, fun z => absurd z (by decide)⟩ (jd dk_L_judge_0 10 rfl) (jd dk_L_judge_0 11 rfl) hr (by decide) (by decide) ⟨rfl, rfl⟩
    replace hf := jif_f c0 hf
    cases hf
  rintro _ hb9 ⟨y9, rfl, rfl, rfl⟩
  replace hf : (jls 3 hb9 a3 0 (Int32.toInt64 y9)).bind (fun h9 => some ((0 : Int32), h9)) = some r := hf
  refine J_i2l E (jd dk_L_judge_0 6 rfl) ?_
  obtain ⟨h9, e9, hf⟩ := jbind hf
  refine J_last E (jd dk_L_judge_0 7 rfl) e9 ?_
  refine J_goto (tgt := 17) E (jd dk_L_judge_0 8 rfl) (by decide) ?_
  refine J_iconst (v := 0) E (jd dk_L_judge_0 12 rfl) rfl ?_
  cases hf
  exact J_iret E hr rfl (jd dk_L_judge_0 13 rfl) (by decide) (by decide) ⟨rfl, rfl⟩
theorem dk_L_call_0 : jDec cL_call [(0, .aload_n 2, 1), (1, .iconst 0, 1), (2, .aload_n 0, 1), (3, .iload_n 1, 1), (4, .invokevirtual 27, 3), (7, .i2l, 1), (8, .lastore, 1), (9, .goto 6, 3), (12, .astore_n 3, 1), (13, .iconst 1, 1), (14, .ireturn, 1), (15, .iconst 0, 1), (16, .ireturn, 1)] := by
  unfold jDec
  decide +kernel
def f_L_call (N : Nat) (h : AH) (a0 : Nat) (a1 : Int32) (a2 : Nat) : Option (Int32 × AH) :=
  (jck 6 h a0).bind fun _ =>
  (f_X6_call N h a0 a1).bind fun r =>
  Sum.elim (fun k9 => if k9 = 1 then some ((1 : Int32), r.2) else none) (fun y => (jls 3 r.2 a2 0 (Int32.toInt64 y)).bind fun h9 => some (0, h9)) r.1
theorem cal_L_call : Cond.codeWith yL_call cL_call 4 (some .int) [(0, 9, 12, 18)] ∈ jT ∧ Cond.static yL_call ∈ jT ∧ Cond.initialized RL ∈ jT ∧ jN yL_call 3 := ⟨(jl15_in _ (List.mem_of_getElem? (i := 36) rfl)), (jl15_in _ (List.mem_of_getElem? (i := 35) rfl)), (jl0_in _ (List.mem_of_getElem? (i := 0) rfl)), ⟨by decide, by decide, by decide +kernel⟩⟩
set_option maxRecDepth 100000 in
set_option maxHeartbeats 4000000 in
theorem lk_L_call {G : JG} {l : Launch} (hG : jG G) (htr : l.stackTraces = false) (N : Nat) {h : AH} {a0 : Nat} {a1 : Int32} {a2 : Nat} {r : Int32 × AH} (hf : f_L_call N h a0 a1 a2 = some r) : jMetW G l yL_call cL_call 4 (some .int) [(0, 9, 12, 18)] 4 1 6 [.ref a0, .int a1, .ref a2] h (jpi r) := by
  unfold f_L_call at hf
  refine jMetW_of hG htr (by decide) (Nat.le_of_ble_eq_true rfl) ?_
  intro X E hl9 hr hX ht
  show JW G X (RL, cL_call, 4) h [(0, .ref a0), (1, .int a1), (2, .ref a2)] [] 0 0 0 (jEnd G X (jpi r) 1 6)
  refine J_aload_n E (jd dk_L_call_0 0 rfl) rfl 2 rfl ?_
  refine J_iconst (v := 0) E (jd dk_L_call_0 1 rfl) rfl ?_
  refine J_aload_n E (jd dk_L_call_0 2 rfl) rfl 0 rfl ?_
  refine J_iload_n E (jd dk_L_call_0 3 rfl) rfl 1 rfl ?_
  obtain ⟨u1, e0, hf⟩ := jbind hf
  obtain ⟨⟨ra, rb⟩, e1, hf⟩ := jbind hf
  refine J_callVX E (jd dk_L_call_0 4 rfl) ml_RL_27 cal_X6_call e0 rfl (lk_X6_call (jE_g E) (jE_tr E) N e1) rfl (Nat.le_of_ble_eq_true rfl) (jR_le hX (by decide) (by decide)) (jFx hX (by decide) (by decide)) rfl ?_ ?_
  rotate_left
  · rintro _ hb9 ⟨k9, rfl, rfl, rfl⟩
    replace hf : (if k9 = 1 then some ((1 : Int32), hb9) else none) = some r := hf
    by_cases c0 : k9 = 1
    · replace hf := jif_t c0 hf
      cases hf
      subst c0
      exact J_caught (name := "java/util/NoSuchElementException") (i := 3) (n := 1) (v := 1) (q1 := 13) E [] ⟨0, 9, 12, 18⟩ [] ht (Or.inl rfl) (by decide) (by decide) (jl14_in _ (List.mem_of_getElem? (i := 21) rfl)) (by decide +kernel) (by decide) rfl (Or.inr ⟨3, rfl, (jd dk_L_call_0 8 rfl)⟩) rfl ⟨fun _ => by decide, fun _ => ⟨3, rfl, (jd dk_L_call_0 8 rfl)⟩⟩ (jd dk_L_call_0 9 rfl) (jd dk_L_call_0 10 rfl) hr (by decide) (by decide) ⟨rfl, rfl⟩
    replace hf := jif_f c0 hf
    cases hf
  rintro _ hb9 ⟨y9, rfl, rfl, rfl⟩
  replace hf : (jls 3 hb9 a2 0 (Int32.toInt64 y9)).bind (fun h9 => some ((0 : Int32), h9)) = some r := hf
  refine J_i2l E (jd dk_L_call_0 5 rfl) ?_
  obtain ⟨h9, e9, hf⟩ := jbind hf
  refine J_last E (jd dk_L_call_0 6 rfl) e9 ?_
  refine J_goto (tgt := 15) E (jd dk_L_call_0 7 rfl) (by decide) ?_
  refine J_iconst (v := 0) E (jd dk_L_call_0 11 rfl) rfl ?_
  cases hf
  exact J_iret E hr rfl (jd dk_L_call_0 12 rfl) (by decide) (by decide) ⟨rfl, rfl⟩
theorem dk_L_paddle_0 : jDec cL_paddle [(0, .aload_n 3, 1), (1, .iconst 0, 1), (2, .aload_n 0, 1), (3, .iload_n 1, 1), (4, .iload_n 2, 1), (5, .invokevirtual 30, 3), (8, .i2l, 1), (9, .lastore, 1), (10, .goto 7, 3), (13, .astore 4, 2), (15, .iconst 1, 1), (16, .ireturn, 1), (17, .iconst 0, 1), (18, .ireturn, 1)] := by
  unfold jDec
  decide +kernel
def f_L_paddle (N : Nat) (h : AH) (a0 : Nat) (a1 : Int32) (a2 : Int32) (a3 : Nat) : Option (Int32 × AH) :=
  (jck 6 h a0).bind fun _ =>
  (f_X6_paddle N h a0 a1 a2).bind fun r =>
  Sum.elim (fun k9 => if k9 = 1 then some ((1 : Int32), r.2) else none) (fun y => (jls 3 r.2 a3 0 (Int32.toInt64 y)).bind fun h9 => some (0, h9)) r.1
theorem cal_L_paddle : Cond.codeWith yL_paddle cL_paddle 5 (some .int) [(0, 10, 13, 18)] ∈ jT ∧ Cond.static yL_paddle ∈ jT ∧ Cond.initialized RL ∈ jT ∧ jN yL_paddle 4 := ⟨(jl16_in _ (List.mem_of_getElem? (i := 4) rfl)), (jl16_in _ (List.mem_of_getElem? (i := 3) rfl)), (jl0_in _ (List.mem_of_getElem? (i := 0) rfl)), ⟨by decide, by decide, by decide +kernel⟩⟩
set_option maxRecDepth 100000 in
set_option maxHeartbeats 4000000 in
theorem lk_L_paddle {G : JG} {l : Launch} (hG : jG G) (htr : l.stackTraces = false) (N : Nat) {h : AH} {a0 : Nat} {a1 : Int32} {a2 : Int32} {a3 : Nat} {r : Int32 × AH} (hf : f_L_paddle N h a0 a1 a2 a3 = some r) : jMetW G l yL_paddle cL_paddle 5 (some .int) [(0, 10, 13, 18)] 4 2 12 [.ref a0, .int a1, .int a2, .ref a3] h (jpi r) := by
  unfold f_L_paddle at hf
  refine jMetW_of hG htr (by decide) (Nat.le_of_ble_eq_true rfl) ?_
  intro X E hl9 hr hX ht
  show JW G X (RL, cL_paddle, 5) h [(0, .ref a0), (1, .int a1), (2, .int a2), (3, .ref a3)] [] 0 0 0 (jEnd G X (jpi r) 2 12)
  refine J_aload_n E (jd dk_L_paddle_0 0 rfl) rfl 3 rfl ?_
  refine J_iconst (v := 0) E (jd dk_L_paddle_0 1 rfl) rfl ?_
  refine J_aload_n E (jd dk_L_paddle_0 2 rfl) rfl 0 rfl ?_
  refine J_iload_n E (jd dk_L_paddle_0 3 rfl) rfl 1 rfl ?_
  refine J_iload_n E (jd dk_L_paddle_0 4 rfl) rfl 2 rfl ?_
  obtain ⟨u1, e0, hf⟩ := jbind hf
  obtain ⟨⟨ra, rb⟩, e1, hf⟩ := jbind hf
  refine J_callVX E (jd dk_L_paddle_0 5 rfl) ml_RL_30 cal_X6_paddle e0 rfl (lk_X6_paddle (jE_g E) (jE_tr E) N e1) rfl (Nat.le_of_ble_eq_true rfl) (jR_le hX (by decide) (by decide)) (jFx hX (by decide) (by decide)) rfl ?_ ?_
  rotate_left
  · rintro _ hb9 ⟨k9, rfl, rfl, rfl⟩
    replace hf : (if k9 = 1 then some ((1 : Int32), hb9) else none) = some r := hf
    by_cases c0 : k9 = 1
    · replace hf := jif_t c0 hf
      cases hf
      subst c0
      exact J_caught (name := "java/util/NoSuchElementException") (i := 4) (n := 1) (v := 1) (q1 := 15) E [] ⟨0, 10, 13, 18⟩ [] ht (Or.inl rfl) (by decide) (by decide) (jl14_in _ (List.mem_of_getElem? (i := 21) rfl)) (by decide +kernel) (by decide) rfl (Or.inl (jd dk_L_paddle_0 9 rfl)) rfl ⟨fun ⟨j, hj, _⟩ => by have := j.isLt; omega, fun z => absurd z (by decide)⟩ (jd dk_L_paddle_0 10 rfl) (jd dk_L_paddle_0 11 rfl) hr (by decide) (by decide) ⟨rfl, rfl⟩
    replace hf := jif_f c0 hf
    cases hf
  rintro _ hb9 ⟨y9, rfl, rfl, rfl⟩
  replace hf : (jls 3 hb9 a3 0 (Int32.toInt64 y9)).bind (fun h9 => some ((0 : Int32), h9)) = some r := hf
  refine J_i2l E (jd dk_L_paddle_0 6 rfl) ?_
  obtain ⟨h9, e9, hf⟩ := jbind hf
  refine J_last E (jd dk_L_paddle_0 7 rfl) e9 ?_
  refine J_goto (tgt := 17) E (jd dk_L_paddle_0 8 rfl) (by decide) ?_
  refine J_iconst (v := 0) E (jd dk_L_paddle_0 12 rfl) rfl ?_
  cases hf
  exact J_iret E hr rfl (jd dk_L_paddle_0 13 rfl) (by decide) (by decide) ⟨rfl, rfl⟩
theorem dk_L_carry_0 : jDec cL_carry [(0, .aload_n 3, 1), (1, .iconst 0, 1), (2, .aload_n 0, 1), (3, .iload_n 1, 1), (4, .iload_n 2, 1), (5, .invokevirtual 33, 3), (8, .i2l, 1), (9, .lastore, 1), (10, .goto 7, 3), (13, .astore 4, 2), (15, .iconst 1, 1), (16, .ireturn, 1), (17, .iconst 0, 1), (18, .ireturn, 1)] := by
  unfold jDec
  decide +kernel
def f_L_carry (N : Nat) (h : AH) (a0 : Nat) (a1 : Int32) (a2 : Int32) (a3 : Nat) : Option (Int32 × AH) :=
  (jck 6 h a0).bind fun _ =>
  (f_X6_carry N h a0 a1 a2).bind fun r =>
  Sum.elim (fun k9 => if k9 = 1 then some ((1 : Int32), r.2) else none) (fun y => (jls 3 r.2 a3 0 (Int32.toInt64 y)).bind fun h9 => some (0, h9)) r.1
theorem cal_L_carry : Cond.codeWith yL_carry cL_carry 5 (some .int) [(0, 10, 13, 18)] ∈ jT ∧ Cond.static yL_carry ∈ jT ∧ Cond.initialized RL ∈ jT ∧ jN yL_carry 4 := ⟨(jl16_in _ (List.mem_of_getElem? (i := 14) rfl)), (jl16_in _ (List.mem_of_getElem? (i := 13) rfl)), (jl0_in _ (List.mem_of_getElem? (i := 0) rfl)), ⟨by decide, by decide, by decide +kernel⟩⟩
set_option maxRecDepth 100000 in
set_option maxHeartbeats 4000000 in
theorem lk_L_carry {G : JG} {l : Launch} (hG : jG G) (htr : l.stackTraces = false) (N : Nat) {h : AH} {a0 : Nat} {a1 : Int32} {a2 : Int32} {a3 : Nat} {r : Int32 × AH} (hf : f_L_carry N h a0 a1 a2 a3 = some r) : jMetW G l yL_carry cL_carry 5 (some .int) [(0, 10, 13, 18)] 4 2 12 [.ref a0, .int a1, .int a2, .ref a3] h (jpi r) := by
  unfold f_L_carry at hf
  refine jMetW_of hG htr (by decide) (Nat.le_of_ble_eq_true rfl) ?_
  intro X E hl9 hr hX ht
  show JW G X (RL, cL_carry, 5) h [(0, .ref a0), (1, .int a1), (2, .int a2), (3, .ref a3)] [] 0 0 0 (jEnd G X (jpi r) 2 12)
  refine J_aload_n E (jd dk_L_carry_0 0 rfl) rfl 3 rfl ?_
  refine J_iconst (v := 0) E (jd dk_L_carry_0 1 rfl) rfl ?_
  refine J_aload_n E (jd dk_L_carry_0 2 rfl) rfl 0 rfl ?_
  refine J_iload_n E (jd dk_L_carry_0 3 rfl) rfl 1 rfl ?_
  refine J_iload_n E (jd dk_L_carry_0 4 rfl) rfl 2 rfl ?_
  obtain ⟨u1, e0, hf⟩ := jbind hf
  obtain ⟨⟨ra, rb⟩, e1, hf⟩ := jbind hf
  refine J_callVX E (jd dk_L_carry_0 5 rfl) ml_RL_33 cal_X6_carry e0 rfl (lk_X6_carry (jE_g E) (jE_tr E) N e1) rfl (Nat.le_of_ble_eq_true rfl) (jR_le hX (by decide) (by decide)) (jFx hX (by decide) (by decide)) rfl ?_ ?_
  rotate_left
  · rintro _ hb9 ⟨k9, rfl, rfl, rfl⟩
    replace hf : (if k9 = 1 then some ((1 : Int32), hb9) else none) = some r := hf
    by_cases c0 : k9 = 1
    · replace hf := jif_t c0 hf
      cases hf
      subst c0
      exact J_caught (name := "java/util/NoSuchElementException") (i := 4) (n := 1) (v := 1) (q1 := 15) E [] ⟨0, 10, 13, 18⟩ [] ht (Or.inl rfl) (by decide) (by decide) (jl14_in _ (List.mem_of_getElem? (i := 21) rfl)) (by decide +kernel) (by decide) rfl (Or.inl (jd dk_L_carry_0 9 rfl)) rfl ⟨fun ⟨j, hj, _⟩ => by have := j.isLt; omega, fun z => absurd z (by decide)⟩ (jd dk_L_carry_0 10 rfl) (jd dk_L_carry_0 11 rfl) hr (by decide) (by decide) ⟨rfl, rfl⟩
    replace hf := jif_f c0 hf
    cases hf
  rintro _ hb9 ⟨y9, rfl, rfl, rfl⟩
  replace hf : (jls 3 hb9 a3 0 (Int32.toInt64 y9)).bind (fun h9 => some ((0 : Int32), h9)) = some r := hf
  refine J_i2l E (jd dk_L_carry_0 6 rfl) ?_
  obtain ⟨h9, e9, hf⟩ := jbind hf
  refine J_last E (jd dk_L_carry_0 7 rfl) e9 ?_
  refine J_goto (tgt := 17) E (jd dk_L_carry_0 8 rfl) (by decide) ?_
  refine J_iconst (v := 0) E (jd dk_L_carry_0 12 rfl) rfl ?_
  cases hf
  exact J_iret E hr rfl (jd dk_L_carry_0 13 rfl) (by decide) (by decide) ⟨rfl, rfl⟩
theorem dk_L_dredge_0 : jDec cL_dredge [(0, .aload 4, 2), (2, .iconst 0, 1), (3, .aload_n 0, 1), (4, .iload_n 1, 1), (5, .iload_n 2, 1), (6, .iload_n 3, 1), (7, .invokevirtual 36, 3), (10, .i2l, 1), (11, .lastore, 1), (12, .goto 7, 3), (15, .astore 5, 2), (17, .iconst 1, 1), (18, .ireturn, 1), (19, .iconst 0, 1), (20, .ireturn, 1)] := by
  unfold jDec
  decide +kernel
def f_L_dredge (N : Nat) (h : AH) (a0 : Nat) (a1 : Int32) (a2 : Int32) (a3 : Int32) (a4 : Nat) : Option (Int32 × AH) :=
  (jck 6 h a0).bind fun _ =>
  (f_X6_dredge N h a0 a1 a2 a3).bind fun r =>
  Sum.elim (fun k9 => if k9 = 1 then some ((1 : Int32), r.2) else none) (fun y => (jls 3 r.2 a4 0 (Int32.toInt64 y)).bind fun h9 => some (0, h9)) r.1
theorem cal_L_dredge : Cond.codeWith yL_dredge cL_dredge 6 (some .int) [(0, 12, 15, 18)] ∈ jT ∧ Cond.static yL_dredge ∈ jT ∧ Cond.initialized RL ∈ jT ∧ jN yL_dredge 5 := ⟨(jl16_in _ (List.mem_of_getElem? (i := 21) rfl)), (jl16_in _ (List.mem_of_getElem? (i := 20) rfl)), (jl0_in _ (List.mem_of_getElem? (i := 0) rfl)), ⟨by decide, by decide, by decide +kernel⟩⟩
set_option maxRecDepth 100000 in
set_option maxHeartbeats 4000000 in
theorem lk_L_dredge {G : JG} {l : Launch} (hG : jG G) (htr : l.stackTraces = false) (N : Nat) {h : AH} {a0 : Nat} {a1 : Int32} {a2 : Int32} {a3 : Int32} {a4 : Nat} {r : Int32 × AH} (hf : f_L_dredge N h a0 a1 a2 a3 a4 = some r) : jMetW G l yL_dredge cL_dredge 6 (some .int) [(0, 12, 15, 18)] 4 1 6 [.ref a0, .int a1, .int a2, .int a3, .ref a4] h (jpi r) := by
  unfold f_L_dredge at hf
  refine jMetW_of hG htr (by decide) (Nat.le_of_ble_eq_true rfl) ?_
  intro X E hl9 hr hX ht
  show JW G X (RL, cL_dredge, 6) h [(0, .ref a0), (1, .int a1), (2, .int a2), (3, .int a3), (4, .ref a4)] [] 0 0 0 (jEnd G X (jpi r) 1 6)
  refine J_aload E (jd dk_L_dredge_0 0 rfl) 4 rfl ?_
  refine J_iconst (v := 0) E (jd dk_L_dredge_0 1 rfl) rfl ?_
  refine J_aload_n E (jd dk_L_dredge_0 2 rfl) rfl 0 rfl ?_
  refine J_iload_n E (jd dk_L_dredge_0 3 rfl) rfl 1 rfl ?_
  refine J_iload_n E (jd dk_L_dredge_0 4 rfl) rfl 2 rfl ?_
  refine J_iload_n E (jd dk_L_dredge_0 5 rfl) rfl 3 rfl ?_
  obtain ⟨u1, e0, hf⟩ := jbind hf
  obtain ⟨⟨ra, rb⟩, e1, hf⟩ := jbind hf
  refine J_callVX E (jd dk_L_dredge_0 6 rfl) ml_RL_36 cal_X6_dredge e0 rfl (lk_X6_dredge (jE_g E) (jE_tr E) N e1) rfl (Nat.le_of_ble_eq_true rfl) (jR_le hX (by decide) (by decide)) (jFx hX (by decide) (by decide)) rfl ?_ ?_
  rotate_left
  · rintro _ hb9 ⟨k9, rfl, rfl, rfl⟩
    replace hf : (if k9 = 1 then some ((1 : Int32), hb9) else none) = some r := hf
    by_cases c0 : k9 = 1
    · replace hf := jif_t c0 hf
      cases hf
      subst c0
      exact J_caught (name := "java/util/NoSuchElementException") (i := 5) (n := 1) (v := 1) (q1 := 17) E [] ⟨0, 12, 15, 18⟩ [] ht (Or.inl rfl) (by decide) (by decide) (jl14_in _ (List.mem_of_getElem? (i := 21) rfl)) (by decide +kernel) (by decide) rfl (Or.inl (jd dk_L_dredge_0 10 rfl)) rfl ⟨fun ⟨j, hj, _⟩ => by have := j.isLt; omega, fun z => absurd z (by decide)⟩ (jd dk_L_dredge_0 11 rfl) (jd dk_L_dredge_0 12 rfl) hr (by decide) (by decide) ⟨rfl, rfl⟩
    replace hf := jif_f c0 hf
    cases hf
  rintro _ hb9 ⟨y9, rfl, rfl, rfl⟩
  replace hf : (jls 3 hb9 a4 0 (Int32.toInt64 y9)).bind (fun h9 => some ((0 : Int32), h9)) = some r := hf
  refine J_i2l E (jd dk_L_dredge_0 7 rfl) ?_
  obtain ⟨h9, e9, hf⟩ := jbind hf
  refine J_last E (jd dk_L_dredge_0 8 rfl) e9 ?_
  refine J_goto (tgt := 19) E (jd dk_L_dredge_0 9 rfl) (by decide) ?_
  refine J_iconst (v := 0) E (jd dk_L_dredge_0 13 rfl) rfl ?_
  cases hf
  exact J_iret E hr rfl (jd dk_L_dredge_0 14 rfl) (by decide) (by decide) ⟨rfl, rfl⟩
theorem dk_L_then_0 : jDec cL_then [(0, .aload 4, 2), (2, .iconst 0, 1), (3, .aload_n 0, 1), (4, .iload_n 1, 1), (5, .iload_n 2, 1), (6, .iload_n 3, 1), (7, .invokevirtual 40, 3), (10, .i2l, 1), (11, .lastore, 1), (12, .goto 11, 3), (15, .astore 5, 2), (17, .iconst 1, 1), (18, .ireturn, 1), (19, .astore 5, 2), (21, .iconst 2, 1), (22, .ireturn, 1), (23, .iconst 0, 1), (24, .ireturn, 1)] := by
  unfold jDec
  decide +kernel
def f_L_then (N : Nat) (h : AH) (a0 : Nat) (a1 : Int32) (a2 : Int32) (a3 : Int32) (a4 : Nat) : Option (Int32 × AH) :=
  (jck 6 h a0).bind fun _ =>
  (f_X6_then N h a0 a1 a2 a3).bind fun r =>
  Sum.elim (fun k9 => if k9 = 1 then some ((1 : Int32), r.2) else if k9 = 2 then some ((2 : Int32), r.2) else none) (fun y => (jls 3 r.2 a4 0 (Int32.toInt64 y)).bind fun h9 => some (0, h9)) r.1
theorem cal_L_then : Cond.codeWith yL_then cL_then 6 (some .int) [(0, 12, 15, 18), (0, 12, 19, 13)] ∈ jT ∧ Cond.static yL_then ∈ jT ∧ Cond.initialized RL ∈ jT ∧ jN yL_then 5 := ⟨(jl16_in _ (List.mem_of_getElem? (i := 28) rfl)), (jl16_in _ (List.mem_of_getElem? (i := 27) rfl)), (jl0_in _ (List.mem_of_getElem? (i := 0) rfl)), ⟨by decide, by decide, by decide +kernel⟩⟩
set_option maxRecDepth 100000 in
set_option maxHeartbeats 4000000 in
theorem lk_L_then {G : JG} {l : Launch} (hG : jG G) (htr : l.stackTraces = false) (N : Nat) {h : AH} {a0 : Nat} {a1 : Int32} {a2 : Int32} {a3 : Int32} {a4 : Nat} {r : Int32 × AH} (hf : f_L_then N h a0 a1 a2 a3 a4 = some r) : jMetW G l yL_then cL_then 6 (some .int) [(0, 12, 15, 18), (0, 12, 19, 13)] 8 3 18 [.ref a0, .int a1, .int a2, .int a3, .ref a4] h (jpi r) := by
  unfold f_L_then at hf
  refine jMetW_of hG htr (by decide) (Nat.le_of_ble_eq_true rfl) ?_
  intro X E hl9 hr hX ht
  show JW G X (RL, cL_then, 6) h [(0, .ref a0), (1, .int a1), (2, .int a2), (3, .int a3), (4, .ref a4)] [] 0 0 0 (jEnd G X (jpi r) 3 18)
  refine J_aload E (jd dk_L_then_0 0 rfl) 4 rfl ?_
  refine J_iconst (v := 0) E (jd dk_L_then_0 1 rfl) rfl ?_
  refine J_aload_n E (jd dk_L_then_0 2 rfl) rfl 0 rfl ?_
  refine J_iload_n E (jd dk_L_then_0 3 rfl) rfl 1 rfl ?_
  refine J_iload_n E (jd dk_L_then_0 4 rfl) rfl 2 rfl ?_
  refine J_iload_n E (jd dk_L_then_0 5 rfl) rfl 3 rfl ?_
  obtain ⟨u1, e0, hf⟩ := jbind hf
  obtain ⟨⟨ra, rb⟩, e1, hf⟩ := jbind hf
  refine J_callVX E (jd dk_L_then_0 6 rfl) ml_RL_40 cal_X6_then e0 rfl (lk_X6_then (jE_g E) (jE_tr E) N e1) rfl (Nat.le_of_ble_eq_true rfl) (jR_le hX (by decide) (by decide)) (jFx hX (by decide) (by decide)) rfl ?_ ?_
  rotate_left
  · rintro _ hb9 ⟨k9, rfl, rfl, rfl⟩
    replace hf : (if k9 = 1 then some ((1 : Int32), hb9) else if k9 = 2 then some ((2 : Int32), hb9) else none) = some r := hf
    by_cases c0 : k9 = 1
    · replace hf := jif_t c0 hf
      cases hf
      subst c0
      exact J_caught (name := "java/util/NoSuchElementException") (i := 5) (n := 1) (v := 1) (q1 := 17) E [] ⟨0, 12, 15, 18⟩ [⟨0, 12, 19, 13⟩] ht (Or.inl rfl) (by decide) (by decide) (jl14_in _ (List.mem_of_getElem? (i := 21) rfl)) (by decide +kernel) (by decide) rfl (Or.inl (jd dk_L_then_0 10 rfl)) rfl ⟨fun ⟨j, hj, _⟩ => by have := j.isLt; omega, fun z => absurd z (by decide)⟩ (jd dk_L_then_0 11 rfl) (jd dk_L_then_0 12 rfl) hr (by decide) (by decide) ⟨rfl, rfl⟩
    replace hf := jif_f c0 hf
    by_cases c1 : k9 = 2
    · replace hf := jif_t c1 hf
      cases hf
      subst c1
      exact J_caught (name := "java/lang/IllegalArgumentException") (i := 5) (n := 2) (v := 2) (q1 := 21) E [⟨0, 12, 15, 18⟩] ⟨0, 12, 19, 13⟩ [] ht (Or.inr ⟨rfl, fun z hz => by cases hz with
          | head => exact ⟨by decide, (jl14_in _ (List.mem_of_getElem? (i := 21) rfl))⟩
          | tail _ hz => cases hz⟩) (by decide) (by decide) (jl9_in _ (List.mem_of_getElem? (i := 25) rfl)) (by decide +kernel) (by decide) rfl (Or.inl (jd dk_L_then_0 13 rfl)) rfl ⟨fun ⟨j, hj, _⟩ => by have := j.isLt; omega, fun z => absurd z (by decide)⟩ (jd dk_L_then_0 14 rfl) (jd dk_L_then_0 15 rfl) hr (by decide) (by decide) ⟨rfl, rfl⟩
    replace hf := jif_f c1 hf
    cases hf
  rintro _ hb9 ⟨y9, rfl, rfl, rfl⟩
  replace hf : (jls 3 hb9 a4 0 (Int32.toInt64 y9)).bind (fun h9 => some ((0 : Int32), h9)) = some r := hf
  refine J_i2l E (jd dk_L_then_0 7 rfl) ?_
  obtain ⟨h9, e9, hf⟩ := jbind hf
  refine J_last E (jd dk_L_then_0 8 rfl) e9 ?_
  refine J_goto (tgt := 23) E (jd dk_L_then_0 9 rfl) (by decide) ?_
  refine J_iconst (v := 0) E (jd dk_L_then_0 16 rfl) rfl ?_
  cases hf
  exact J_iret E hr rfl (jd dk_L_then_0 17 rfl) (by decide) (by decide) ⟨rfl, rfl⟩
theorem dk_L_when_0 : jDec cL_when [(0, .aload_n 3, 1), (1, .iconst 0, 1), (2, .aload_n 0, 1), (3, .iload_n 1, 1), (4, .iload_n 2, 1), (5, .invokevirtual 43, 3), (8, .i2l, 1), (9, .lastore, 1), (10, .goto 7, 3), (13, .astore 4, 2), (15, .iconst 1, 1), (16, .ireturn, 1), (17, .iconst 0, 1), (18, .ireturn, 1)] := by
  unfold jDec
  decide +kernel
def f_L_when (N : Nat) (h : AH) (a0 : Nat) (a1 : Int32) (a2 : Int32) (a3 : Nat) : Option (Int32 × AH) :=
  (jck 6 h a0).bind fun _ =>
  (f_X6_when N h a0 a1 a2).bind fun r =>
  Sum.elim (fun k9 => if k9 = 1 then some ((1 : Int32), r.2) else none) (fun y => (jls 3 r.2 a3 0 (Int32.toInt64 y)).bind fun h9 => some (0, h9)) r.1
theorem cal_L_when : Cond.codeWith yL_when cL_when 5 (some .int) [(0, 10, 13, 18)] ∈ jT ∧ Cond.static yL_when ∈ jT ∧ Cond.initialized RL ∈ jT ∧ jN yL_when 4 := ⟨(jl17_in _ (List.mem_of_getElem? (i := 4) rfl)), (jl17_in _ (List.mem_of_getElem? (i := 3) rfl)), (jl0_in _ (List.mem_of_getElem? (i := 0) rfl)), ⟨by decide, by decide, by decide +kernel⟩⟩
set_option maxRecDepth 100000 in
set_option maxHeartbeats 4000000 in
theorem lk_L_when {G : JG} {l : Launch} (hG : jG G) (htr : l.stackTraces = false) (N : Nat) {h : AH} {a0 : Nat} {a1 : Int32} {a2 : Int32} {a3 : Nat} {r : Int32 × AH} (hf : f_L_when N h a0 a1 a2 a3 = some r) : jMetW G l yL_when cL_when 5 (some .int) [(0, 10, 13, 18)] 7 2 12 [.ref a0, .int a1, .int a2, .ref a3] h (jpi r) := by
  unfold f_L_when at hf
  refine jMetW_of hG htr (by decide) (Nat.le_of_ble_eq_true rfl) ?_
  intro X E hl9 hr hX ht
  show JW G X (RL, cL_when, 5) h [(0, .ref a0), (1, .int a1), (2, .int a2), (3, .ref a3)] [] 0 0 0 (jEnd G X (jpi r) 2 12)
  refine J_aload_n E (jd dk_L_when_0 0 rfl) rfl 3 rfl ?_
  refine J_iconst (v := 0) E (jd dk_L_when_0 1 rfl) rfl ?_
  refine J_aload_n E (jd dk_L_when_0 2 rfl) rfl 0 rfl ?_
  refine J_iload_n E (jd dk_L_when_0 3 rfl) rfl 1 rfl ?_
  refine J_iload_n E (jd dk_L_when_0 4 rfl) rfl 2 rfl ?_
  obtain ⟨u1, e0, hf⟩ := jbind hf
  obtain ⟨⟨ra, rb⟩, e1, hf⟩ := jbind hf
  refine J_callVX E (jd dk_L_when_0 5 rfl) ml_RL_43 cal_X6_when e0 rfl (lk_X6_when (jE_g E) (jE_tr E) N e1) rfl (Nat.le_of_ble_eq_true rfl) (jR_le hX (by decide) (by decide)) (jFx hX (by decide) (by decide)) rfl ?_ ?_
  rotate_left
  · rintro _ hb9 ⟨k9, rfl, rfl, rfl⟩
    replace hf : (if k9 = 1 then some ((1 : Int32), hb9) else none) = some r := hf
    by_cases c0 : k9 = 1
    · replace hf := jif_t c0 hf
      cases hf
      subst c0
      exact J_caught (name := "java/util/NoSuchElementException") (i := 4) (n := 1) (v := 1) (q1 := 15) E [] ⟨0, 10, 13, 18⟩ [] ht (Or.inl rfl) (by decide) (by decide) (jl14_in _ (List.mem_of_getElem? (i := 21) rfl)) (by decide +kernel) (by decide) rfl (Or.inl (jd dk_L_when_0 9 rfl)) rfl ⟨fun ⟨j, hj, _⟩ => by have := j.isLt; omega, fun z => absurd z (by decide)⟩ (jd dk_L_when_0 10 rfl) (jd dk_L_when_0 11 rfl) hr (by decide) (by decide) ⟨rfl, rfl⟩
    replace hf := jif_f c0 hf
    cases hf
  rintro _ hb9 ⟨y9, rfl, rfl, rfl⟩
  replace hf : (jls 3 hb9 a3 0 (Int32.toInt64 y9)).bind (fun h9 => some ((0 : Int32), h9)) = some r := hf
  refine J_i2l E (jd dk_L_when_0 6 rfl) ?_
  obtain ⟨h9, e9, hf⟩ := jbind hf
  refine J_last E (jd dk_L_when_0 7 rfl) e9 ?_
  refine J_goto (tgt := 17) E (jd dk_L_when_0 8 rfl) (by decide) ?_
  refine J_iconst (v := 0) E (jd dk_L_when_0 12 rfl) rfl ?_
  cases hf
  exact J_iret E hr rfl (jd dk_L_when_0 13 rfl) (by decide) (by decide) ⟨rfl, rfl⟩
theorem dk_L_later_0 : jDec cL_later [(0, .aload_n 3, 1), (1, .iconst 0, 1), (2, .aload_n 0, 1), (3, .iload_n 1, 1), (4, .iload_n 2, 1), (5, .invokevirtual 46, 3), (8, .i2l, 1), (9, .lastore, 1), (10, .goto 11, 3), (13, .astore 4, 2), (15, .iconst 1, 1), (16, .ireturn, 1), (17, .astore 4, 2), (19, .iconst 2, 1), (20, .ireturn, 1), (21, .iconst 0, 1), (22, .ireturn, 1)] := by
  unfold jDec
  decide +kernel
def f_L_later (N : Nat) (h : AH) (a0 : Nat) (a1 : Int32) (a2 : Int32) (a3 : Nat) : Option (Int32 × AH) :=
  (jck 6 h a0).bind fun _ =>
  (f_X6_later N h a0 a1 a2).bind fun r =>
  Sum.elim (fun k9 => if k9 = 1 then some ((1 : Int32), r.2) else if k9 = 2 then some ((2 : Int32), r.2) else none) (fun y => (jls 3 r.2 a3 0 (Int32.toInt64 y)).bind fun h9 => some (0, h9)) r.1
theorem cal_L_later : Cond.codeWith yL_later cL_later 5 (some .int) [(0, 10, 13, 18), (0, 10, 17, 13)] ∈ jT ∧ Cond.static yL_later ∈ jT ∧ Cond.initialized RL ∈ jT ∧ jN yL_later 4 := ⟨(jl17_in _ (List.mem_of_getElem? (i := 18) rfl)), (jl17_in _ (List.mem_of_getElem? (i := 17) rfl)), (jl0_in _ (List.mem_of_getElem? (i := 0) rfl)), ⟨by decide, by decide, by decide +kernel⟩⟩
set_option maxRecDepth 100000 in
set_option maxHeartbeats 4000000 in
theorem lk_L_later {G : JG} {l : Launch} (hG : jG G) (htr : l.stackTraces = false) (N : Nat) {h : AH} {a0 : Nat} {a1 : Int32} {a2 : Int32} {a3 : Nat} {r : Int32 × AH} (hf : f_L_later N h a0 a1 a2 a3 = some r) : jMetW G l yL_later cL_later 5 (some .int) [(0, 10, 13, 18), (0, 10, 17, 13)] 8 2 12 [.ref a0, .int a1, .int a2, .ref a3] h (jpi r) := by
  unfold f_L_later at hf
  refine jMetW_of hG htr (by decide) (Nat.le_of_ble_eq_true rfl) ?_
  intro X E hl9 hr hX ht
  show JW G X (RL, cL_later, 5) h [(0, .ref a0), (1, .int a1), (2, .int a2), (3, .ref a3)] [] 0 0 0 (jEnd G X (jpi r) 2 12)
  refine J_aload_n E (jd dk_L_later_0 0 rfl) rfl 3 rfl ?_
  refine J_iconst (v := 0) E (jd dk_L_later_0 1 rfl) rfl ?_
  refine J_aload_n E (jd dk_L_later_0 2 rfl) rfl 0 rfl ?_
  refine J_iload_n E (jd dk_L_later_0 3 rfl) rfl 1 rfl ?_
  refine J_iload_n E (jd dk_L_later_0 4 rfl) rfl 2 rfl ?_
  obtain ⟨u1, e0, hf⟩ := jbind hf
  obtain ⟨⟨ra, rb⟩, e1, hf⟩ := jbind hf
  refine J_callVX E (jd dk_L_later_0 5 rfl) ml_RL_46 cal_X6_later e0 rfl (lk_X6_later (jE_g E) (jE_tr E) N e1) rfl (Nat.le_of_ble_eq_true rfl) (jR_le hX (by decide) (by decide)) (jFx hX (by decide) (by decide)) rfl ?_ ?_
  rotate_left
  · rintro _ hb9 ⟨k9, rfl, rfl, rfl⟩
    replace hf : (if k9 = 1 then some ((1 : Int32), hb9) else if k9 = 2 then some ((2 : Int32), hb9) else none) = some r := hf
    by_cases c0 : k9 = 1
    · replace hf := jif_t c0 hf
      cases hf
      subst c0
      exact J_caught (name := "java/util/NoSuchElementException") (i := 4) (n := 1) (v := 1) (q1 := 15) E [] ⟨0, 10, 13, 18⟩ [⟨0, 10, 17, 13⟩] ht (Or.inl rfl) (by decide) (by decide) (jl14_in _ (List.mem_of_getElem? (i := 21) rfl)) (by decide +kernel) (by decide) rfl (Or.inl (jd dk_L_later_0 9 rfl)) rfl ⟨fun ⟨j, hj, _⟩ => by have := j.isLt; omega, fun z => absurd z (by decide)⟩ (jd dk_L_later_0 10 rfl) (jd dk_L_later_0 11 rfl) hr (by decide) (by decide) ⟨rfl, rfl⟩
    replace hf := jif_f c0 hf
    by_cases c1 : k9 = 2
    · replace hf := jif_t c1 hf
      cases hf
      subst c1
      exact J_caught (name := "java/lang/IllegalArgumentException") (i := 4) (n := 2) (v := 2) (q1 := 19) E [⟨0, 10, 13, 18⟩] ⟨0, 10, 17, 13⟩ [] ht (Or.inr ⟨rfl, fun z hz => by cases hz with
          | head => exact ⟨by decide, (jl14_in _ (List.mem_of_getElem? (i := 21) rfl))⟩
          | tail _ hz => cases hz⟩) (by decide) (by decide) (jl9_in _ (List.mem_of_getElem? (i := 25) rfl)) (by decide +kernel) (by decide) rfl (Or.inl (jd dk_L_later_0 12 rfl)) rfl ⟨fun ⟨j, hj, _⟩ => by have := j.isLt; omega, fun z => absurd z (by decide)⟩ (jd dk_L_later_0 13 rfl) (jd dk_L_later_0 14 rfl) hr (by decide) (by decide) ⟨rfl, rfl⟩
    replace hf := jif_f c1 hf
    cases hf
  rintro _ hb9 ⟨y9, rfl, rfl, rfl⟩
  replace hf : (jls 3 hb9 a3 0 (Int32.toInt64 y9)).bind (fun h9 => some ((0 : Int32), h9)) = some r := hf
  refine J_i2l E (jd dk_L_later_0 6 rfl) ?_
  obtain ⟨h9, e9, hf⟩ := jbind hf
  refine J_last E (jd dk_L_later_0 7 rfl) e9 ?_
  refine J_goto (tgt := 21) E (jd dk_L_later_0 8 rfl) (by decide) ?_
  refine J_iconst (v := 0) E (jd dk_L_later_0 15 rfl) rfl ?_
  cases hf
  exact J_iret E hr rfl (jd dk_L_later_0 16 rfl) (by decide) (by decide) ⟨rfl, rfl⟩
theorem dk_L_beside_0 : jDec cL_beside [(0, .aload_n 3, 1), (1, .iconst 0, 1), (2, .aload_n 0, 1), (3, .iload_n 1, 1), (4, .iload_n 2, 1), (5, .invokevirtual 49, 3), (8, .i2l, 1), (9, .lastore, 1), (10, .goto 7, 3), (13, .astore 4, 2), (15, .iconst 1, 1), (16, .ireturn, 1), (17, .iconst 0, 1), (18, .ireturn, 1)] := by
  unfold jDec
  decide +kernel
def f_L_beside (N : Nat) (h : AH) (a0 : Nat) (a1 : Int32) (a2 : Int32) (a3 : Nat) : Option (Int32 × AH) :=
  (jck 6 h a0).bind fun _ =>
  (f_X6_beside N h a0 a1 a2).bind fun r =>
  Sum.elim (fun k9 => if k9 = 1 then some ((1 : Int32), r.2) else none) (fun y => (jls 3 r.2 a3 0 (Int32.toInt64 y)).bind fun h9 => some (0, h9)) r.1
theorem cal_L_beside : Cond.codeWith yL_beside cL_beside 5 (some .int) [(0, 10, 13, 18)] ∈ jT ∧ Cond.static yL_beside ∈ jT ∧ Cond.initialized RL ∈ jT ∧ jN yL_beside 4 := ⟨(jl17_in _ (List.mem_of_getElem? (i := 29) rfl)), (jl17_in _ (List.mem_of_getElem? (i := 28) rfl)), (jl0_in _ (List.mem_of_getElem? (i := 0) rfl)), ⟨by decide, by decide, by decide +kernel⟩⟩
set_option maxRecDepth 100000 in
set_option maxHeartbeats 4000000 in
theorem lk_L_beside {G : JG} {l : Launch} (hG : jG G) (htr : l.stackTraces = false) (N : Nat) {h : AH} {a0 : Nat} {a1 : Int32} {a2 : Int32} {a3 : Nat} {r : Int32 × AH} (hf : f_L_beside N h a0 a1 a2 a3 = some r) : jMetW G l yL_beside cL_beside 5 (some .int) [(0, 10, 13, 18)] 6 2 12 [.ref a0, .int a1, .int a2, .ref a3] h (jpi r) := by
  unfold f_L_beside at hf
  refine jMetW_of hG htr (by decide) (Nat.le_of_ble_eq_true rfl) ?_
  intro X E hl9 hr hX ht
  show JW G X (RL, cL_beside, 5) h [(0, .ref a0), (1, .int a1), (2, .int a2), (3, .ref a3)] [] 0 0 0 (jEnd G X (jpi r) 2 12)
  refine J_aload_n E (jd dk_L_beside_0 0 rfl) rfl 3 rfl ?_
  refine J_iconst (v := 0) E (jd dk_L_beside_0 1 rfl) rfl ?_
  refine J_aload_n E (jd dk_L_beside_0 2 rfl) rfl 0 rfl ?_
  refine J_iload_n E (jd dk_L_beside_0 3 rfl) rfl 1 rfl ?_
  refine J_iload_n E (jd dk_L_beside_0 4 rfl) rfl 2 rfl ?_
  obtain ⟨u1, e0, hf⟩ := jbind hf
  obtain ⟨⟨ra, rb⟩, e1, hf⟩ := jbind hf
  refine J_callVX E (jd dk_L_beside_0 5 rfl) ml_RL_49 cal_X6_beside e0 rfl (lk_X6_beside (jE_g E) (jE_tr E) N e1) rfl (Nat.le_of_ble_eq_true rfl) (jR_le hX (by decide) (by decide)) (jFx hX (by decide) (by decide)) rfl ?_ ?_
  rotate_left
  · rintro _ hb9 ⟨k9, rfl, rfl, rfl⟩
    replace hf : (if k9 = 1 then some ((1 : Int32), hb9) else none) = some r := hf
    by_cases c0 : k9 = 1
    · replace hf := jif_t c0 hf
      cases hf
      subst c0
      exact J_caught (name := "java/util/NoSuchElementException") (i := 4) (n := 1) (v := 1) (q1 := 15) E [] ⟨0, 10, 13, 18⟩ [] ht (Or.inl rfl) (by decide) (by decide) (jl14_in _ (List.mem_of_getElem? (i := 21) rfl)) (by decide +kernel) (by decide) rfl (Or.inl (jd dk_L_beside_0 9 rfl)) rfl ⟨fun ⟨j, hj, _⟩ => by have := j.isLt; omega, fun z => absurd z (by decide)⟩ (jd dk_L_beside_0 10 rfl) (jd dk_L_beside_0 11 rfl) hr (by decide) (by decide) ⟨rfl, rfl⟩
    replace hf := jif_f c0 hf
    cases hf
  rintro _ hb9 ⟨y9, rfl, rfl, rfl⟩
  replace hf : (jls 3 hb9 a3 0 (Int32.toInt64 y9)).bind (fun h9 => some ((0 : Int32), h9)) = some r := hf
  refine J_i2l E (jd dk_L_beside_0 6 rfl) ?_
  obtain ⟨h9, e9, hf⟩ := jbind hf
  refine J_last E (jd dk_L_beside_0 7 rfl) e9 ?_
  refine J_goto (tgt := 17) E (jd dk_L_beside_0 8 rfl) (by decide) ?_
  refine J_iconst (v := 0) E (jd dk_L_beside_0 12 rfl) rfl ?_
  cases hf
  exact J_iret E hr rfl (jd dk_L_beside_0 13 rfl) (by decide) (by decide) ⟨rfl, rfl⟩
theorem dk_L_last_0 : jDec cL_last [(0, .aload_n 2, 1), (1, .iconst 0, 1), (2, .aload_n 0, 1), (3, .iload_n 1, 1), (4, .invokevirtual 52, 3), (7, .i2l, 1), (8, .lastore, 1), (9, .goto 6, 3), (12, .astore_n 3, 1), (13, .iconst 1, 1), (14, .ireturn, 1), (15, .iconst 0, 1), (16, .ireturn, 1)] := by
  unfold jDec
  decide +kernel
def f_L_last (N : Nat) (h : AH) (a0 : Nat) (a1 : Int32) (a2 : Nat) : Option (Int32 × AH) :=
  (jck 6 h a0).bind fun _ =>
  (f_X6_last N h a0 a1).bind fun r =>
  Sum.elim (fun k9 => if k9 = 1 then some ((1 : Int32), r.2) else none) (fun y => (jls 3 r.2 a2 0 (Int32.toInt64 y)).bind fun h9 => some (0, h9)) r.1
theorem cal_L_last : Cond.codeWith yL_last cL_last 4 (some .int) [(0, 9, 12, 18)] ∈ jT ∧ Cond.static yL_last ∈ jT ∧ Cond.initialized RL ∈ jT ∧ jN yL_last 3 := ⟨(jl17_in _ (List.mem_of_getElem? (i := 36) rfl)), (jl17_in _ (List.mem_of_getElem? (i := 35) rfl)), (jl0_in _ (List.mem_of_getElem? (i := 0) rfl)), ⟨by decide, by decide, by decide +kernel⟩⟩
set_option maxRecDepth 100000 in
set_option maxHeartbeats 4000000 in
theorem lk_L_last {G : JG} {l : Launch} (hG : jG G) (htr : l.stackTraces = false) (N : Nat) {h : AH} {a0 : Nat} {a1 : Int32} {a2 : Nat} {r : Int32 × AH} (hf : f_L_last N h a0 a1 a2 = some r) : jMetW G l yL_last cL_last 4 (some .int) [(0, 9, 12, 18)] 6 1 6 [.ref a0, .int a1, .ref a2] h (jpi r) := by
  unfold f_L_last at hf
  refine jMetW_of hG htr (by decide) (Nat.le_of_ble_eq_true rfl) ?_
  intro X E hl9 hr hX ht
  show JW G X (RL, cL_last, 4) h [(0, .ref a0), (1, .int a1), (2, .ref a2)] [] 0 0 0 (jEnd G X (jpi r) 1 6)
  refine J_aload_n E (jd dk_L_last_0 0 rfl) rfl 2 rfl ?_
  refine J_iconst (v := 0) E (jd dk_L_last_0 1 rfl) rfl ?_
  refine J_aload_n E (jd dk_L_last_0 2 rfl) rfl 0 rfl ?_
  refine J_iload_n E (jd dk_L_last_0 3 rfl) rfl 1 rfl ?_
  obtain ⟨u1, e0, hf⟩ := jbind hf
  obtain ⟨⟨ra, rb⟩, e1, hf⟩ := jbind hf
  refine J_callVX E (jd dk_L_last_0 4 rfl) ml_RL_52 cal_X6_last e0 rfl (lk_X6_last (jE_g E) (jE_tr E) N e1) rfl (Nat.le_of_ble_eq_true rfl) (jR_le hX (by decide) (by decide)) (jFx hX (by decide) (by decide)) rfl ?_ ?_
  rotate_left
  · rintro _ hb9 ⟨k9, rfl, rfl, rfl⟩
    replace hf : (if k9 = 1 then some ((1 : Int32), hb9) else none) = some r := hf
    by_cases c0 : k9 = 1
    · replace hf := jif_t c0 hf
      cases hf
      subst c0
      exact J_caught (name := "java/util/NoSuchElementException") (i := 3) (n := 1) (v := 1) (q1 := 13) E [] ⟨0, 9, 12, 18⟩ [] ht (Or.inl rfl) (by decide) (by decide) (jl14_in _ (List.mem_of_getElem? (i := 21) rfl)) (by decide +kernel) (by decide) rfl (Or.inr ⟨3, rfl, (jd dk_L_last_0 8 rfl)⟩) rfl ⟨fun _ => by decide, fun _ => ⟨3, rfl, (jd dk_L_last_0 8 rfl)⟩⟩ (jd dk_L_last_0 9 rfl) (jd dk_L_last_0 10 rfl) hr (by decide) (by decide) ⟨rfl, rfl⟩
    replace hf := jif_f c0 hf
    cases hf
  rintro _ hb9 ⟨y9, rfl, rfl, rfl⟩
  replace hf : (jls 3 hb9 a2 0 (Int32.toInt64 y9)).bind (fun h9 => some ((0 : Int32), h9)) = some r := hf
  refine J_i2l E (jd dk_L_last_0 5 rfl) ?_
  obtain ⟨h9, e9, hf⟩ := jbind hf
  refine J_last E (jd dk_L_last_0 6 rfl) e9 ?_
  refine J_goto (tgt := 15) E (jd dk_L_last_0 7 rfl) (by decide) ?_
  refine J_iconst (v := 0) E (jd dk_L_last_0 11 rfl) rfl ?_
  cases hf
  exact J_iret E hr rfl (jd dk_L_last_0 12 rfl) (by decide) (by decide) ⟨rfl, rfl⟩
theorem dk_L_still_0 : jDec cL_still [(0, .aload 4, 2), (2, .iconst 0, 1), (3, .aload_n 0, 1), (4, .iload_n 1, 1), (5, .iload_n 2, 1), (6, .iload_n 3, 1), (7, .invokevirtual 55, 3), (10, .i2l, 1), (11, .lastore, 1), (12, .goto 11, 3), (15, .astore 5, 2), (17, .iconst 1, 1), (18, .ireturn, 1), (19, .astore 5, 2), (21, .iconst 2, 1), (22, .ireturn, 1), (23, .iconst 0, 1), (24, .ireturn, 1)] := by
  unfold jDec
  decide +kernel
def f_L_still (N : Nat) (h : AH) (a0 : Nat) (a1 : Int32) (a2 : Int32) (a3 : Int32) (a4 : Nat) : Option (Int32 × AH) :=
  (jck 6 h a0).bind fun _ =>
  (f_X6_still N h a0 a1 a2 a3).bind fun r =>
  Sum.elim (fun k9 => if k9 = 1 then some ((1 : Int32), r.2) else if k9 = 2 then some ((2 : Int32), r.2) else none) (fun y => (jls 3 r.2 a4 0 (Int32.toInt64 y)).bind fun h9 => some (0, h9)) r.1
theorem cal_L_still : Cond.codeWith yL_still cL_still 6 (some .int) [(0, 12, 15, 18), (0, 12, 19, 13)] ∈ jT ∧ Cond.static yL_still ∈ jT ∧ Cond.initialized RL ∈ jT ∧ jN yL_still 5 := ⟨(jl18_in _ (List.mem_of_getElem? (i := 3) rfl)), (jl18_in _ (List.mem_of_getElem? (i := 2) rfl)), (jl0_in _ (List.mem_of_getElem? (i := 0) rfl)), ⟨by decide, by decide, by decide +kernel⟩⟩
set_option maxRecDepth 100000 in
set_option maxHeartbeats 4000000 in
theorem lk_L_still {G : JG} {l : Launch} (hG : jG G) (htr : l.stackTraces = false) (N : Nat) {h : AH} {a0 : Nat} {a1 : Int32} {a2 : Int32} {a3 : Int32} {a4 : Nat} {r : Int32 × AH} (hf : f_L_still N h a0 a1 a2 a3 a4 = some r) : jMetW G l yL_still cL_still 6 (some .int) [(0, 12, 15, 18), (0, 12, 19, 13)] 6 3 18 [.ref a0, .int a1, .int a2, .int a3, .ref a4] h (jpi r) := by
  unfold f_L_still at hf
  refine jMetW_of hG htr (by decide) (Nat.le_of_ble_eq_true rfl) ?_
  intro X E hl9 hr hX ht
  show JW G X (RL, cL_still, 6) h [(0, .ref a0), (1, .int a1), (2, .int a2), (3, .int a3), (4, .ref a4)] [] 0 0 0 (jEnd G X (jpi r) 3 18)
  refine J_aload E (jd dk_L_still_0 0 rfl) 4 rfl ?_
  refine J_iconst (v := 0) E (jd dk_L_still_0 1 rfl) rfl ?_
  refine J_aload_n E (jd dk_L_still_0 2 rfl) rfl 0 rfl ?_
  refine J_iload_n E (jd dk_L_still_0 3 rfl) rfl 1 rfl ?_
  refine J_iload_n E (jd dk_L_still_0 4 rfl) rfl 2 rfl ?_
  refine J_iload_n E (jd dk_L_still_0 5 rfl) rfl 3 rfl ?_
  obtain ⟨u1, e0, hf⟩ := jbind hf
  obtain ⟨⟨ra, rb⟩, e1, hf⟩ := jbind hf
  refine J_callVX E (jd dk_L_still_0 6 rfl) ml_RL_55 cal_X6_still e0 rfl (lk_X6_still (jE_g E) (jE_tr E) N e1) rfl (Nat.le_of_ble_eq_true rfl) (jR_le hX (by decide) (by decide)) (jFx hX (by decide) (by decide)) rfl ?_ ?_
  rotate_left
  · rintro _ hb9 ⟨k9, rfl, rfl, rfl⟩
    replace hf : (if k9 = 1 then some ((1 : Int32), hb9) else if k9 = 2 then some ((2 : Int32), hb9) else none) = some r := hf
    by_cases c0 : k9 = 1
    · replace hf := jif_t c0 hf
      cases hf
      subst c0
      exact J_caught (name := "java/util/NoSuchElementException") (i := 5) (n := 1) (v := 1) (q1 := 17) E [] ⟨0, 12, 15, 18⟩ [⟨0, 12, 19, 13⟩] ht (Or.inl rfl) (by decide) (by decide) (jl14_in _ (List.mem_of_getElem? (i := 21) rfl)) (by decide +kernel) (by decide) rfl (Or.inl (jd dk_L_still_0 10 rfl)) rfl ⟨fun ⟨j, hj, _⟩ => by have := j.isLt; omega, fun z => absurd z (by decide)⟩ (jd dk_L_still_0 11 rfl) (jd dk_L_still_0 12 rfl) hr (by decide) (by decide) ⟨rfl, rfl⟩
    replace hf := jif_f c0 hf
    by_cases c1 : k9 = 2
    · replace hf := jif_t c1 hf
      cases hf
      subst c1
      exact J_caught (name := "java/lang/IllegalArgumentException") (i := 5) (n := 2) (v := 2) (q1 := 21) E [⟨0, 12, 15, 18⟩] ⟨0, 12, 19, 13⟩ [] ht (Or.inr ⟨rfl, fun z hz => by cases hz with
          | head => exact ⟨by decide, (jl14_in _ (List.mem_of_getElem? (i := 21) rfl))⟩
          | tail _ hz => cases hz⟩) (by decide) (by decide) (jl9_in _ (List.mem_of_getElem? (i := 25) rfl)) (by decide +kernel) (by decide) rfl (Or.inl (jd dk_L_still_0 13 rfl)) rfl ⟨fun ⟨j, hj, _⟩ => by have := j.isLt; omega, fun z => absurd z (by decide)⟩ (jd dk_L_still_0 14 rfl) (jd dk_L_still_0 15 rfl) hr (by decide) (by decide) ⟨rfl, rfl⟩
    replace hf := jif_f c1 hf
    cases hf
  rintro _ hb9 ⟨y9, rfl, rfl, rfl⟩
  replace hf : (jls 3 hb9 a4 0 (Int32.toInt64 y9)).bind (fun h9 => some ((0 : Int32), h9)) = some r := hf
  refine J_i2l E (jd dk_L_still_0 7 rfl) ?_
  obtain ⟨h9, e9, hf⟩ := jbind hf
  refine J_last E (jd dk_L_still_0 8 rfl) e9 ?_
  refine J_goto (tgt := 23) E (jd dk_L_still_0 9 rfl) (by decide) ?_
  refine J_iconst (v := 0) E (jd dk_L_still_0 16 rfl) rfl ?_
  cases hf
  exact J_iret E hr rfl (jd dk_L_still_0 17 rfl) (by decide) (by decide) ⟨rfl, rfl⟩
theorem dk_L_turned_0 : jDec cL_turned [(0, .aload_n 3, 1), (1, .iconst 0, 1), (2, .aload_n 0, 1), (3, .iload_n 1, 1), (4, .iload_n 2, 1), (5, .invokevirtual 58, 3), (8, .i2l, 1), (9, .lastore, 1), (10, .goto 11, 3), (13, .astore 4, 2), (15, .iconst 1, 1), (16, .ireturn, 1), (17, .astore 4, 2), (19, .iconst 2, 1), (20, .ireturn, 1), (21, .iconst 0, 1), (22, .ireturn, 1)] := by
  unfold jDec
  decide +kernel
def f_L_turned (N : Nat) (h : AH) (a0 : Nat) (a1 : Int32) (a2 : Int32) (a3 : Nat) : Option (Int32 × AH) :=
  (jck 6 h a0).bind fun _ =>
  (f_X6_turned N h a0 a1 a2).bind fun r =>
  Sum.elim (fun k9 => if k9 = 1 then some ((1 : Int32), r.2) else if k9 = 2 then some ((2 : Int32), r.2) else none) (fun y => (jls 3 r.2 a3 0 (Int32.toInt64 y)).bind fun h9 => some (0, h9)) r.1
theorem cal_L_turned : Cond.codeWith yL_turned cL_turned 5 (some .int) [(0, 10, 13, 18), (0, 10, 17, 13)] ∈ jT ∧ Cond.static yL_turned ∈ jT ∧ Cond.initialized RL ∈ jT ∧ jN yL_turned 4 := ⟨(jl18_in _ (List.mem_of_getElem? (i := 18) rfl)), (jl18_in _ (List.mem_of_getElem? (i := 17) rfl)), (jl0_in _ (List.mem_of_getElem? (i := 0) rfl)), ⟨by decide, by decide, by decide +kernel⟩⟩
set_option maxRecDepth 100000 in
set_option maxHeartbeats 4000000 in
theorem lk_L_turned {G : JG} {l : Launch} (hG : jG G) (htr : l.stackTraces = false) (N : Nat) {h : AH} {a0 : Nat} {a1 : Int32} {a2 : Int32} {a3 : Nat} {r : Int32 × AH} (hf : f_L_turned N h a0 a1 a2 a3 = some r) : jMetW G l yL_turned cL_turned 5 (some .int) [(0, 10, 13, 18), (0, 10, 17, 13)] 8 2 12 [.ref a0, .int a1, .int a2, .ref a3] h (jpi r) := by
  unfold f_L_turned at hf
  refine jMetW_of hG htr (by decide) (Nat.le_of_ble_eq_true rfl) ?_
  intro X E hl9 hr hX ht
  show JW G X (RL, cL_turned, 5) h [(0, .ref a0), (1, .int a1), (2, .int a2), (3, .ref a3)] [] 0 0 0 (jEnd G X (jpi r) 2 12)
  refine J_aload_n E (jd dk_L_turned_0 0 rfl) rfl 3 rfl ?_
  refine J_iconst (v := 0) E (jd dk_L_turned_0 1 rfl) rfl ?_
  refine J_aload_n E (jd dk_L_turned_0 2 rfl) rfl 0 rfl ?_
  refine J_iload_n E (jd dk_L_turned_0 3 rfl) rfl 1 rfl ?_
  refine J_iload_n E (jd dk_L_turned_0 4 rfl) rfl 2 rfl ?_
  obtain ⟨u1, e0, hf⟩ := jbind hf
  obtain ⟨⟨ra, rb⟩, e1, hf⟩ := jbind hf
  refine J_callVX E (jd dk_L_turned_0 5 rfl) ml_RL_58 cal_X6_turned e0 rfl (lk_X6_turned (jE_g E) (jE_tr E) N e1) rfl (Nat.le_of_ble_eq_true rfl) (jR_le hX (by decide) (by decide)) (jFx hX (by decide) (by decide)) rfl ?_ ?_
  rotate_left
  · rintro _ hb9 ⟨k9, rfl, rfl, rfl⟩
    replace hf : (if k9 = 1 then some ((1 : Int32), hb9) else if k9 = 2 then some ((2 : Int32), hb9) else none) = some r := hf
    by_cases c0 : k9 = 1
    · replace hf := jif_t c0 hf
      cases hf
      subst c0
      exact J_caught (name := "java/util/NoSuchElementException") (i := 4) (n := 1) (v := 1) (q1 := 15) E [] ⟨0, 10, 13, 18⟩ [⟨0, 10, 17, 13⟩] ht (Or.inl rfl) (by decide) (by decide) (jl14_in _ (List.mem_of_getElem? (i := 21) rfl)) (by decide +kernel) (by decide) rfl (Or.inl (jd dk_L_turned_0 9 rfl)) rfl ⟨fun ⟨j, hj, _⟩ => by have := j.isLt; omega, fun z => absurd z (by decide)⟩ (jd dk_L_turned_0 10 rfl) (jd dk_L_turned_0 11 rfl) hr (by decide) (by decide) ⟨rfl, rfl⟩
    replace hf := jif_f c0 hf
    by_cases c1 : k9 = 2
    · replace hf := jif_t c1 hf
      cases hf
      subst c1
      exact J_caught (name := "java/lang/IllegalArgumentException") (i := 4) (n := 2) (v := 2) (q1 := 19) E [⟨0, 10, 13, 18⟩] ⟨0, 10, 17, 13⟩ [] ht (Or.inr ⟨rfl, fun z hz => by cases hz with
          | head => exact ⟨by decide, (jl14_in _ (List.mem_of_getElem? (i := 21) rfl))⟩
          | tail _ hz => cases hz⟩) (by decide) (by decide) (jl9_in _ (List.mem_of_getElem? (i := 25) rfl)) (by decide +kernel) (by decide) rfl (Or.inl (jd dk_L_turned_0 12 rfl)) rfl ⟨fun ⟨j, hj, _⟩ => by have := j.isLt; omega, fun z => absurd z (by decide)⟩ (jd dk_L_turned_0 13 rfl) (jd dk_L_turned_0 14 rfl) hr (by decide) (by decide) ⟨rfl, rfl⟩
    replace hf := jif_f c1 hf
    cases hf
  rintro _ hb9 ⟨y9, rfl, rfl, rfl⟩
  replace hf : (jls 3 hb9 a3 0 (Int32.toInt64 y9)).bind (fun h9 => some ((0 : Int32), h9)) = some r := hf
  refine J_i2l E (jd dk_L_turned_0 6 rfl) ?_
  obtain ⟨h9, e9, hf⟩ := jbind hf
  refine J_last E (jd dk_L_turned_0 7 rfl) e9 ?_
  refine J_goto (tgt := 21) E (jd dk_L_turned_0 8 rfl) (by decide) ?_
  refine J_iconst (v := 0) E (jd dk_L_turned_0 15 rfl) rfl ?_
  cases hf
  exact J_iret E hr rfl (jd dk_L_turned_0 16 rfl) (by decide) (by decide) ⟨rfl, rfl⟩
theorem dk_L_stay_0 : jDec cL_stay [(0, .aload_n 2, 1), (1, .iconst 0, 1), (2, .aload_n 0, 1), (3, .iload_n 1, 1), (4, .invokevirtual 61, 3), (7, .i2l, 1), (8, .lastore, 1), (9, .goto 6, 3), (12, .astore_n 3, 1), (13, .iconst 1, 1), (14, .ireturn, 1), (15, .iconst 0, 1), (16, .ireturn, 1)] := by
  unfold jDec
  decide +kernel
def f_L_stay (N : Nat) (h : AH) (a0 : Nat) (a1 : Int32) (a2 : Nat) : Option (Int32 × AH) :=
  (jck 6 h a0).bind fun _ =>
  (f_X6_stay N h a0 a1).bind fun r =>
  Sum.elim (fun k9 => if k9 = 1 then some ((1 : Int32), r.2) else none) (fun y => (jls 3 r.2 a2 0 (Int32.toInt64 y)).bind fun h9 => some (0, h9)) r.1
theorem cal_L_stay : Cond.codeWith yL_stay cL_stay 4 (some .int) [(0, 9, 12, 18)] ∈ jT ∧ Cond.static yL_stay ∈ jT ∧ Cond.initialized RL ∈ jT ∧ jN yL_stay 3 := ⟨(jl18_in _ (List.mem_of_getElem? (i := 25) rfl)), (jl18_in _ (List.mem_of_getElem? (i := 24) rfl)), (jl0_in _ (List.mem_of_getElem? (i := 0) rfl)), ⟨by decide, by decide, by decide +kernel⟩⟩
set_option maxRecDepth 100000 in
set_option maxHeartbeats 4000000 in
theorem lk_L_stay {G : JG} {l : Launch} (hG : jG G) (htr : l.stackTraces = false) (N : Nat) {h : AH} {a0 : Nat} {a1 : Int32} {a2 : Nat} {r : Int32 × AH} (hf : f_L_stay N h a0 a1 a2 = some r) : jMetW G l yL_stay cL_stay 4 (some .int) [(0, 9, 12, 18)] 6 1 6 [.ref a0, .int a1, .ref a2] h (jpi r) := by
  unfold f_L_stay at hf
  refine jMetW_of hG htr (by decide) (Nat.le_of_ble_eq_true rfl) ?_
  intro X E hl9 hr hX ht
  show JW G X (RL, cL_stay, 4) h [(0, .ref a0), (1, .int a1), (2, .ref a2)] [] 0 0 0 (jEnd G X (jpi r) 1 6)
  refine J_aload_n E (jd dk_L_stay_0 0 rfl) rfl 2 rfl ?_
  refine J_iconst (v := 0) E (jd dk_L_stay_0 1 rfl) rfl ?_
  refine J_aload_n E (jd dk_L_stay_0 2 rfl) rfl 0 rfl ?_
  refine J_iload_n E (jd dk_L_stay_0 3 rfl) rfl 1 rfl ?_
  obtain ⟨u1, e0, hf⟩ := jbind hf
  obtain ⟨⟨ra, rb⟩, e1, hf⟩ := jbind hf
  refine J_callVX E (jd dk_L_stay_0 4 rfl) ml_RL_61 cal_X6_stay e0 rfl (lk_X6_stay (jE_g E) (jE_tr E) N e1) rfl (Nat.le_of_ble_eq_true rfl) (jR_le hX (by decide) (by decide)) (jFx hX (by decide) (by decide)) rfl ?_ ?_
  rotate_left
  · rintro _ hb9 ⟨k9, rfl, rfl, rfl⟩
    replace hf : (if k9 = 1 then some ((1 : Int32), hb9) else none) = some r := hf
    by_cases c0 : k9 = 1
    · replace hf := jif_t c0 hf
      cases hf
      subst c0
      exact J_caught (name := "java/util/NoSuchElementException") (i := 3) (n := 1) (v := 1) (q1 := 13) E [] ⟨0, 9, 12, 18⟩ [] ht (Or.inl rfl) (by decide) (by decide) (jl14_in _ (List.mem_of_getElem? (i := 21) rfl)) (by decide +kernel) (by decide) rfl (Or.inr ⟨3, rfl, (jd dk_L_stay_0 8 rfl)⟩) rfl ⟨fun _ => by decide, fun _ => ⟨3, rfl, (jd dk_L_stay_0 8 rfl)⟩⟩ (jd dk_L_stay_0 9 rfl) (jd dk_L_stay_0 10 rfl) hr (by decide) (by decide) ⟨rfl, rfl⟩
    replace hf := jif_f c0 hf
    cases hf
  rintro _ hb9 ⟨y9, rfl, rfl, rfl⟩
  replace hf : (jls 3 hb9 a2 0 (Int32.toInt64 y9)).bind (fun h9 => some ((0 : Int32), h9)) = some r := hf
  refine J_i2l E (jd dk_L_stay_0 5 rfl) ?_
  obtain ⟨h9, e9, hf⟩ := jbind hf
  refine J_last E (jd dk_L_stay_0 6 rfl) e9 ?_
  refine J_goto (tgt := 15) E (jd dk_L_stay_0 7 rfl) (by decide) ?_
  refine J_iconst (v := 0) E (jd dk_L_stay_0 11 rfl) rfl ?_
  cases hf
  exact J_iret E hr rfl (jd dk_L_stay_0 12 rfl) (by decide) (by decide) ⟨rfl, rfl⟩
theorem dk_L_toSet_0 : jDec cL_toSet [(0, .aload_n 3, 1), (1, .iconst 0, 1), (2, .aload_n 0, 1), (3, .iload_n 1, 1), (4, .iload_n 2, 1), (5, .invokevirtual 64, 3), (8, .i2l, 1), (9, .lastore, 1), (10, .goto 7, 3), (13, .astore 4, 2), (15, .iconst 1, 1), (16, .ireturn, 1), (17, .iconst 0, 1), (18, .ireturn, 1)] := by
  unfold jDec
  decide +kernel
def f_L_toSet (N : Nat) (h : AH) (a0 : Nat) (a1 : Int32) (a2 : Int32) (a3 : Nat) : Option (Int32 × AH) :=
  (jck 6 h a0).bind fun _ =>
  (f_X6_toSet N h a0 a1 a2).bind fun r =>
  Sum.elim (fun k9 => if k9 = 1 then some ((1 : Int32), r.2) else none) (fun y => (jls 3 r.2 a3 0 (Int32.toInt64 y)).bind fun h9 => some (0, h9)) r.1
theorem cal_L_toSet : Cond.codeWith yL_toSet cL_toSet 5 (some .int) [(0, 10, 13, 18)] ∈ jT ∧ Cond.static yL_toSet ∈ jT ∧ Cond.initialized RL ∈ jT ∧ jN yL_toSet 4 := ⟨(jl18_in _ (List.mem_of_getElem? (i := 32) rfl)), (jl18_in _ (List.mem_of_getElem? (i := 31) rfl)), (jl0_in _ (List.mem_of_getElem? (i := 0) rfl)), ⟨by decide, by decide, by decide +kernel⟩⟩
set_option maxRecDepth 100000 in
set_option maxHeartbeats 4000000 in
theorem lk_L_toSet {G : JG} {l : Launch} (hG : jG G) (htr : l.stackTraces = false) (N : Nat) {h : AH} {a0 : Nat} {a1 : Int32} {a2 : Int32} {a3 : Nat} {r : Int32 × AH} (hf : f_L_toSet N h a0 a1 a2 a3 = some r) : jMetW G l yL_toSet cL_toSet 5 (some .int) [(0, 10, 13, 18)] 7 2 12 [.ref a0, .int a1, .int a2, .ref a3] h (jpi r) := by
  unfold f_L_toSet at hf
  refine jMetW_of hG htr (by decide) (Nat.le_of_ble_eq_true rfl) ?_
  intro X E hl9 hr hX ht
  show JW G X (RL, cL_toSet, 5) h [(0, .ref a0), (1, .int a1), (2, .int a2), (3, .ref a3)] [] 0 0 0 (jEnd G X (jpi r) 2 12)
  refine J_aload_n E (jd dk_L_toSet_0 0 rfl) rfl 3 rfl ?_
  refine J_iconst (v := 0) E (jd dk_L_toSet_0 1 rfl) rfl ?_
  refine J_aload_n E (jd dk_L_toSet_0 2 rfl) rfl 0 rfl ?_
  refine J_iload_n E (jd dk_L_toSet_0 3 rfl) rfl 1 rfl ?_
  refine J_iload_n E (jd dk_L_toSet_0 4 rfl) rfl 2 rfl ?_
  obtain ⟨u1, e0, hf⟩ := jbind hf
  obtain ⟨⟨ra, rb⟩, e1, hf⟩ := jbind hf
  refine J_callVX E (jd dk_L_toSet_0 5 rfl) ml_RL_64 cal_X6_toSet e0 rfl (lk_X6_toSet (jE_g E) (jE_tr E) N e1) rfl (Nat.le_of_ble_eq_true rfl) (jR_le hX (by decide) (by decide)) (jFx hX (by decide) (by decide)) rfl ?_ ?_
  rotate_left
  · rintro _ hb9 ⟨k9, rfl, rfl, rfl⟩
    replace hf : (if k9 = 1 then some ((1 : Int32), hb9) else none) = some r := hf
    by_cases c0 : k9 = 1
    · replace hf := jif_t c0 hf
      cases hf
      subst c0
      exact J_caught (name := "java/util/NoSuchElementException") (i := 4) (n := 1) (v := 1) (q1 := 15) E [] ⟨0, 10, 13, 18⟩ [] ht (Or.inl rfl) (by decide) (by decide) (jl14_in _ (List.mem_of_getElem? (i := 21) rfl)) (by decide +kernel) (by decide) rfl (Or.inl (jd dk_L_toSet_0 9 rfl)) rfl ⟨fun ⟨j, hj, _⟩ => by have := j.isLt; omega, fun z => absurd z (by decide)⟩ (jd dk_L_toSet_0 10 rfl) (jd dk_L_toSet_0 11 rfl) hr (by decide) (by decide) ⟨rfl, rfl⟩
    replace hf := jif_f c0 hf
    cases hf
  rintro _ hb9 ⟨y9, rfl, rfl, rfl⟩
  replace hf : (jls 3 hb9 a3 0 (Int32.toInt64 y9)).bind (fun h9 => some ((0 : Int32), h9)) = some r := hf
  refine J_i2l E (jd dk_L_toSet_0 6 rfl) ?_
  obtain ⟨h9, e9, hf⟩ := jbind hf
  refine J_last E (jd dk_L_toSet_0 7 rfl) e9 ?_
  refine J_goto (tgt := 17) E (jd dk_L_toSet_0 8 rfl) (by decide) ?_
  refine J_iconst (v := 0) E (jd dk_L_toSet_0 12 rfl) rfl ?_
  cases hf
  exact J_iret E hr rfl (jd dk_L_toSet_0 13 rfl) (by decide) (by decide) ⟨rfl, rfl⟩
theorem dk_L_toSpin_0 : jDec cL_toSpin [(0, .aload 4, 2), (2, .iconst 0, 1), (3, .aload_n 0, 1), (4, .iload_n 1, 1), (5, .iload_n 2, 1), (6, .iload_n 3, 1), (7, .invokevirtual 67, 3), (10, .i2l, 1), (11, .lastore, 1), (12, .goto 11, 3), (15, .astore 5, 2), (17, .iconst 1, 1), (18, .ireturn, 1), (19, .astore 5, 2), (21, .iconst 2, 1), (22, .ireturn, 1), (23, .iconst 0, 1), (24, .ireturn, 1)] := by
  unfold jDec
  decide +kernel
def f_L_toSpin (N : Nat) (h : AH) (a0 : Nat) (a1 : Int32) (a2 : Int32) (a3 : Int32) (a4 : Nat) : Option (Int32 × AH) :=
  (jck 6 h a0).bind fun _ =>
  (f_X6_toSpin N h a0 a1 a2 a3).bind fun r =>
  Sum.elim (fun k9 => if k9 = 1 then some ((1 : Int32), r.2) else if k9 = 2 then some ((2 : Int32), r.2) else none) (fun y => (jls 3 r.2 a4 0 (Int32.toInt64 y)).bind fun h9 => some (0, h9)) r.1
theorem cal_L_toSpin : Cond.codeWith yL_toSpin cL_toSpin 6 (some .int) [(0, 12, 15, 18), (0, 12, 19, 13)] ∈ jT ∧ Cond.static yL_toSpin ∈ jT ∧ Cond.initialized RL ∈ jT ∧ jN yL_toSpin 5 := ⟨(jl19_in _ (List.mem_of_getElem? (i := 2) rfl)), (jl19_in _ (List.mem_of_getElem? (i := 1) rfl)), (jl0_in _ (List.mem_of_getElem? (i := 0) rfl)), ⟨by decide, by decide, by decide +kernel⟩⟩
set_option maxRecDepth 100000 in
set_option maxHeartbeats 4000000 in
theorem lk_L_toSpin {G : JG} {l : Launch} (hG : jG G) (htr : l.stackTraces = false) (N : Nat) {h : AH} {a0 : Nat} {a1 : Int32} {a2 : Int32} {a3 : Int32} {a4 : Nat} {r : Int32 × AH} (hf : f_L_toSpin N h a0 a1 a2 a3 a4 = some r) : jMetW G l yL_toSpin cL_toSpin 6 (some .int) [(0, 12, 15, 18), (0, 12, 19, 13)] 7 3 18 [.ref a0, .int a1, .int a2, .int a3, .ref a4] h (jpi r) := by
  unfold f_L_toSpin at hf
  refine jMetW_of hG htr (by decide) (Nat.le_of_ble_eq_true rfl) ?_
  intro X E hl9 hr hX ht
  show JW G X (RL, cL_toSpin, 6) h [(0, .ref a0), (1, .int a1), (2, .int a2), (3, .int a3), (4, .ref a4)] [] 0 0 0 (jEnd G X (jpi r) 3 18)
  refine J_aload E (jd dk_L_toSpin_0 0 rfl) 4 rfl ?_
  refine J_iconst (v := 0) E (jd dk_L_toSpin_0 1 rfl) rfl ?_
  refine J_aload_n E (jd dk_L_toSpin_0 2 rfl) rfl 0 rfl ?_
  refine J_iload_n E (jd dk_L_toSpin_0 3 rfl) rfl 1 rfl ?_
  refine J_iload_n E (jd dk_L_toSpin_0 4 rfl) rfl 2 rfl ?_
  refine J_iload_n E (jd dk_L_toSpin_0 5 rfl) rfl 3 rfl ?_
  obtain ⟨u1, e0, hf⟩ := jbind hf
  obtain ⟨⟨ra, rb⟩, e1, hf⟩ := jbind hf
  refine J_callVX E (jd dk_L_toSpin_0 6 rfl) ml_RL_67 cal_X6_toSpin e0 rfl (lk_X6_toSpin (jE_g E) (jE_tr E) N e1) rfl (Nat.le_of_ble_eq_true rfl) (jR_le hX (by decide) (by decide)) (jFx hX (by decide) (by decide)) rfl ?_ ?_
  rotate_left
  · rintro _ hb9 ⟨k9, rfl, rfl, rfl⟩
    replace hf : (if k9 = 1 then some ((1 : Int32), hb9) else if k9 = 2 then some ((2 : Int32), hb9) else none) = some r := hf
    by_cases c0 : k9 = 1
    · replace hf := jif_t c0 hf
      cases hf
      subst c0
      exact J_caught (name := "java/util/NoSuchElementException") (i := 5) (n := 1) (v := 1) (q1 := 17) E [] ⟨0, 12, 15, 18⟩ [⟨0, 12, 19, 13⟩] ht (Or.inl rfl) (by decide) (by decide) (jl14_in _ (List.mem_of_getElem? (i := 21) rfl)) (by decide +kernel) (by decide) rfl (Or.inl (jd dk_L_toSpin_0 10 rfl)) rfl ⟨fun ⟨j, hj, _⟩ => by have := j.isLt; omega, fun z => absurd z (by decide)⟩ (jd dk_L_toSpin_0 11 rfl) (jd dk_L_toSpin_0 12 rfl) hr (by decide) (by decide) ⟨rfl, rfl⟩
    replace hf := jif_f c0 hf
    by_cases c1 : k9 = 2
    · replace hf := jif_t c1 hf
      cases hf
      subst c1
      exact J_caught (name := "java/lang/IllegalArgumentException") (i := 5) (n := 2) (v := 2) (q1 := 21) E [⟨0, 12, 15, 18⟩] ⟨0, 12, 19, 13⟩ [] ht (Or.inr ⟨rfl, fun z hz => by cases hz with
          | head => exact ⟨by decide, (jl14_in _ (List.mem_of_getElem? (i := 21) rfl))⟩
          | tail _ hz => cases hz⟩) (by decide) (by decide) (jl9_in _ (List.mem_of_getElem? (i := 25) rfl)) (by decide +kernel) (by decide) rfl (Or.inl (jd dk_L_toSpin_0 13 rfl)) rfl ⟨fun ⟨j, hj, _⟩ => by have := j.isLt; omega, fun z => absurd z (by decide)⟩ (jd dk_L_toSpin_0 14 rfl) (jd dk_L_toSpin_0 15 rfl) hr (by decide) (by decide) ⟨rfl, rfl⟩
    replace hf := jif_f c1 hf
    cases hf
  rintro _ hb9 ⟨y9, rfl, rfl, rfl⟩
  replace hf : (jls 3 hb9 a4 0 (Int32.toInt64 y9)).bind (fun h9 => some ((0 : Int32), h9)) = some r := hf
  refine J_i2l E (jd dk_L_toSpin_0 7 rfl) ?_
  obtain ⟨h9, e9, hf⟩ := jbind hf
  refine J_last E (jd dk_L_toSpin_0 8 rfl) e9 ?_
  refine J_goto (tgt := 23) E (jd dk_L_toSpin_0 9 rfl) (by decide) ?_
  refine J_iconst (v := 0) E (jd dk_L_toSpin_0 16 rfl) rfl ?_
  cases hf
  exact J_iret E hr rfl (jd dk_L_toSpin_0 17 rfl) (by decide) (by decide) ⟨rfl, rfl⟩
theorem dk_L_toCall_0 : jDec cL_toCall [(0, .aload_n 2, 1), (1, .iconst 0, 1), (2, .aload_n 0, 1), (3, .iload_n 1, 1), (4, .invokevirtual 70, 3), (7, .i2l, 1), (8, .lastore, 1), (9, .goto 6, 3), (12, .astore_n 3, 1), (13, .iconst 1, 1), (14, .ireturn, 1), (15, .iconst 0, 1), (16, .ireturn, 1)] := by
  unfold jDec
  decide +kernel
def f_L_toCall (N : Nat) (h : AH) (a0 : Nat) (a1 : Int32) (a2 : Nat) : Option (Int32 × AH) :=
  (jck 6 h a0).bind fun _ =>
  (f_X6_toCall N h a0 a1).bind fun r =>
  Sum.elim (fun k9 => if k9 = 1 then some ((1 : Int32), r.2) else none) (fun y => (jls 3 r.2 a2 0 (Int32.toInt64 y)).bind fun h9 => some (0, h9)) r.1
theorem cal_L_toCall : Cond.codeWith yL_toCall cL_toCall 4 (some .int) [(0, 9, 12, 18)] ∈ jT ∧ Cond.static yL_toCall ∈ jT ∧ Cond.initialized RL ∈ jT ∧ jN yL_toCall 3 := ⟨(jl20_in _ (List.mem_of_getElem? (i := 3) rfl)), (jl20_in _ (List.mem_of_getElem? (i := 2) rfl)), (jl0_in _ (List.mem_of_getElem? (i := 0) rfl)), ⟨by decide, by decide, by decide +kernel⟩⟩
set_option maxRecDepth 100000 in
set_option maxHeartbeats 4000000 in
theorem lk_L_toCall {G : JG} {l : Launch} (hG : jG G) (htr : l.stackTraces = false) (N : Nat) {h : AH} {a0 : Nat} {a1 : Int32} {a2 : Nat} {r : Int32 × AH} (hf : f_L_toCall N h a0 a1 a2 = some r) : jMetW G l yL_toCall cL_toCall 4 (some .int) [(0, 9, 12, 18)] 7 1 6 [.ref a0, .int a1, .ref a2] h (jpi r) := by
  unfold f_L_toCall at hf
  refine jMetW_of hG htr (by decide) (Nat.le_of_ble_eq_true rfl) ?_
  intro X E hl9 hr hX ht
  show JW G X (RL, cL_toCall, 4) h [(0, .ref a0), (1, .int a1), (2, .ref a2)] [] 0 0 0 (jEnd G X (jpi r) 1 6)
  refine J_aload_n E (jd dk_L_toCall_0 0 rfl) rfl 2 rfl ?_
  refine J_iconst (v := 0) E (jd dk_L_toCall_0 1 rfl) rfl ?_
  refine J_aload_n E (jd dk_L_toCall_0 2 rfl) rfl 0 rfl ?_
  refine J_iload_n E (jd dk_L_toCall_0 3 rfl) rfl 1 rfl ?_
  obtain ⟨u1, e0, hf⟩ := jbind hf
  obtain ⟨⟨ra, rb⟩, e1, hf⟩ := jbind hf
  refine J_callVX E (jd dk_L_toCall_0 4 rfl) ml_RL_70 cal_X6_toCall e0 rfl (lk_X6_toCall (jE_g E) (jE_tr E) N e1) rfl (Nat.le_of_ble_eq_true rfl) (jR_le hX (by decide) (by decide)) (jFx hX (by decide) (by decide)) rfl ?_ ?_
  rotate_left
  · rintro _ hb9 ⟨k9, rfl, rfl, rfl⟩
    replace hf : (if k9 = 1 then some ((1 : Int32), hb9) else none) = some r := hf
    by_cases c0 : k9 = 1
    · replace hf := jif_t c0 hf
      cases hf
      subst c0
      exact J_caught (name := "java/util/NoSuchElementException") (i := 3) (n := 1) (v := 1) (q1 := 13) E [] ⟨0, 9, 12, 18⟩ [] ht (Or.inl rfl) (by decide) (by decide) (jl14_in _ (List.mem_of_getElem? (i := 21) rfl)) (by decide +kernel) (by decide) rfl (Or.inr ⟨3, rfl, (jd dk_L_toCall_0 8 rfl)⟩) rfl ⟨fun _ => by decide, fun _ => ⟨3, rfl, (jd dk_L_toCall_0 8 rfl)⟩⟩ (jd dk_L_toCall_0 9 rfl) (jd dk_L_toCall_0 10 rfl) hr (by decide) (by decide) ⟨rfl, rfl⟩
    replace hf := jif_f c0 hf
    cases hf
  rintro _ hb9 ⟨y9, rfl, rfl, rfl⟩
  replace hf : (jls 3 hb9 a2 0 (Int32.toInt64 y9)).bind (fun h9 => some ((0 : Int32), h9)) = some r := hf
  refine J_i2l E (jd dk_L_toCall_0 5 rfl) ?_
  obtain ⟨h9, e9, hf⟩ := jbind hf
  refine J_last E (jd dk_L_toCall_0 6 rfl) e9 ?_
  refine J_goto (tgt := 15) E (jd dk_L_toCall_0 7 rfl) (by decide) ?_
  refine J_iconst (v := 0) E (jd dk_L_toCall_0 11 rfl) rfl ?_
  cases hf
  exact J_iret E hr rfl (jd dk_L_toCall_0 12 rfl) (by decide) (by decide) ⟨rfl, rfl⟩
theorem dk_L_panel_0 : jDec cL_panel [(0, .aload_n 2, 1), (1, .iconst 0, 1), (2, .aload_n 0, 1), (3, .iload_n 1, 1), (4, .invokevirtual 73, 3), (7, .i2l, 1), (8, .lastore, 1), (9, .goto 6, 3), (12, .astore_n 3, 1), (13, .iconst 1, 1), (14, .ireturn, 1), (15, .iconst 0, 1), (16, .ireturn, 1)] := by
  unfold jDec
  decide +kernel
def f_L_panel (N : Nat) (h : AH) (a0 : Nat) (a1 : Int32) (a2 : Nat) : Option (Int32 × AH) :=
  (jck 6 h a0).bind fun _ =>
  (f_X6_panel N h a0 a1).bind fun r =>
  Sum.elim (fun k9 => if k9 = 1 then some ((1 : Int32), r.2) else none) (fun y => (jls 3 r.2 a2 0 (Int32.toInt64 y)).bind fun h9 => some (0, h9)) r.1
theorem cal_L_panel : Cond.codeWith yL_panel cL_panel 4 (some .int) [(0, 9, 12, 18)] ∈ jT ∧ Cond.static yL_panel ∈ jT ∧ Cond.initialized RL ∈ jT ∧ jN yL_panel 3 := ⟨(jl20_in _ (List.mem_of_getElem? (i := 10) rfl)), (jl20_in _ (List.mem_of_getElem? (i := 9) rfl)), (jl0_in _ (List.mem_of_getElem? (i := 0) rfl)), ⟨by decide, by decide, by decide +kernel⟩⟩
set_option maxRecDepth 100000 in
set_option maxHeartbeats 4000000 in
theorem lk_L_panel {G : JG} {l : Launch} (hG : jG G) (htr : l.stackTraces = false) (N : Nat) {h : AH} {a0 : Nat} {a1 : Int32} {a2 : Nat} {r : Int32 × AH} (hf : f_L_panel N h a0 a1 a2 = some r) : jMetW G l yL_panel cL_panel 4 (some .int) [(0, 9, 12, 18)] 4 1 6 [.ref a0, .int a1, .ref a2] h (jpi r) := by
  unfold f_L_panel at hf
  refine jMetW_of hG htr (by decide) (Nat.le_of_ble_eq_true rfl) ?_
  intro X E hl9 hr hX ht
  show JW G X (RL, cL_panel, 4) h [(0, .ref a0), (1, .int a1), (2, .ref a2)] [] 0 0 0 (jEnd G X (jpi r) 1 6)
  refine J_aload_n E (jd dk_L_panel_0 0 rfl) rfl 2 rfl ?_
  refine J_iconst (v := 0) E (jd dk_L_panel_0 1 rfl) rfl ?_
  refine J_aload_n E (jd dk_L_panel_0 2 rfl) rfl 0 rfl ?_
  refine J_iload_n E (jd dk_L_panel_0 3 rfl) rfl 1 rfl ?_
  obtain ⟨u1, e0, hf⟩ := jbind hf
  obtain ⟨⟨ra, rb⟩, e1, hf⟩ := jbind hf
  refine J_callVX E (jd dk_L_panel_0 4 rfl) ml_RL_73 cal_X6_panel e0 rfl (lk_X6_panel (jE_g E) (jE_tr E) N e1) rfl (Nat.le_of_ble_eq_true rfl) (jR_le hX (by decide) (by decide)) (jFx hX (by decide) (by decide)) rfl ?_ ?_
  rotate_left
  · rintro _ hb9 ⟨k9, rfl, rfl, rfl⟩
    replace hf : (if k9 = 1 then some ((1 : Int32), hb9) else none) = some r := hf
    by_cases c0 : k9 = 1
    · replace hf := jif_t c0 hf
      cases hf
      subst c0
      exact J_caught (name := "java/util/NoSuchElementException") (i := 3) (n := 1) (v := 1) (q1 := 13) E [] ⟨0, 9, 12, 18⟩ [] ht (Or.inl rfl) (by decide) (by decide) (jl14_in _ (List.mem_of_getElem? (i := 21) rfl)) (by decide +kernel) (by decide) rfl (Or.inr ⟨3, rfl, (jd dk_L_panel_0 8 rfl)⟩) rfl ⟨fun _ => by decide, fun _ => ⟨3, rfl, (jd dk_L_panel_0 8 rfl)⟩⟩ (jd dk_L_panel_0 9 rfl) (jd dk_L_panel_0 10 rfl) hr (by decide) (by decide) ⟨rfl, rfl⟩
    replace hf := jif_f c0 hf
    cases hf
  rintro _ hb9 ⟨y9, rfl, rfl, rfl⟩
  replace hf : (jls 3 hb9 a2 0 (Int32.toInt64 y9)).bind (fun h9 => some ((0 : Int32), h9)) = some r := hf
  refine J_i2l E (jd dk_L_panel_0 5 rfl) ?_
  obtain ⟨h9, e9, hf⟩ := jbind hf
  refine J_last E (jd dk_L_panel_0 6 rfl) e9 ?_
  refine J_goto (tgt := 15) E (jd dk_L_panel_0 7 rfl) (by decide) ?_
  refine J_iconst (v := 0) E (jd dk_L_panel_0 11 rfl) rfl ?_
  cases hf
  exact J_iret E hr rfl (jd dk_L_panel_0 12 rfl) (by decide) (by decide) ⟨rfl, rfl⟩
theorem dk_L_seat_0 : jDec cL_seat [(0, .aload_n 2, 1), (1, .iconst 0, 1), (2, .aload_n 0, 1), (3, .iload_n 1, 1), (4, .invokevirtual 76, 3), (7, .i2l, 1), (8, .lastore, 1), (9, .goto 6, 3), (12, .astore_n 3, 1), (13, .iconst 1, 1), (14, .ireturn, 1), (15, .iconst 0, 1), (16, .ireturn, 1)] := by
  unfold jDec
  decide +kernel
def f_L_seat (N : Nat) (h : AH) (a0 : Nat) (a1 : Int32) (a2 : Nat) : Option (Int32 × AH) :=
  (jck 6 h a0).bind fun _ =>
  (f_X6_seat N h a0 a1).bind fun r =>
  Sum.elim (fun k9 => if k9 = 1 then some ((1 : Int32), r.2) else none) (fun y => (jls 3 r.2 a2 0 (Int32.toInt64 y)).bind fun h9 => some (0, h9)) r.1
theorem cal_L_seat : Cond.codeWith yL_seat cL_seat 4 (some .int) [(0, 9, 12, 18)] ∈ jT ∧ Cond.static yL_seat ∈ jT ∧ Cond.initialized RL ∈ jT ∧ jN yL_seat 3 := ⟨(jl20_in _ (List.mem_of_getElem? (i := 34) rfl)), (jl20_in _ (List.mem_of_getElem? (i := 33) rfl)), (jl0_in _ (List.mem_of_getElem? (i := 0) rfl)), ⟨by decide, by decide, by decide +kernel⟩⟩
set_option maxRecDepth 100000 in
set_option maxHeartbeats 4000000 in
theorem lk_L_seat {G : JG} {l : Launch} (hG : jG G) (htr : l.stackTraces = false) (N : Nat) {h : AH} {a0 : Nat} {a1 : Int32} {a2 : Nat} {r : Int32 × AH} (hf : f_L_seat N h a0 a1 a2 = some r) : jMetW G l yL_seat cL_seat 4 (some .int) [(0, 9, 12, 18)] 4 1 6 [.ref a0, .int a1, .ref a2] h (jpi r) := by
  unfold f_L_seat at hf
  refine jMetW_of hG htr (by decide) (Nat.le_of_ble_eq_true rfl) ?_
  intro X E hl9 hr hX ht
  show JW G X (RL, cL_seat, 4) h [(0, .ref a0), (1, .int a1), (2, .ref a2)] [] 0 0 0 (jEnd G X (jpi r) 1 6)
  refine J_aload_n E (jd dk_L_seat_0 0 rfl) rfl 2 rfl ?_
  refine J_iconst (v := 0) E (jd dk_L_seat_0 1 rfl) rfl ?_
  refine J_aload_n E (jd dk_L_seat_0 2 rfl) rfl 0 rfl ?_
  refine J_iload_n E (jd dk_L_seat_0 3 rfl) rfl 1 rfl ?_
  obtain ⟨u1, e0, hf⟩ := jbind hf
  obtain ⟨⟨ra, rb⟩, e1, hf⟩ := jbind hf
  refine J_callVX E (jd dk_L_seat_0 4 rfl) ml_RL_76 cal_X6_seat e0 rfl (lk_X6_seat (jE_g E) (jE_tr E) N e1) rfl (Nat.le_of_ble_eq_true rfl) (jR_le hX (by decide) (by decide)) (jFx hX (by decide) (by decide)) rfl ?_ ?_
  rotate_left
  · rintro _ hb9 ⟨k9, rfl, rfl, rfl⟩
    replace hf : (if k9 = 1 then some ((1 : Int32), hb9) else none) = some r := hf
    by_cases c0 : k9 = 1
    · replace hf := jif_t c0 hf
      cases hf
      subst c0
      exact J_caught (name := "java/util/NoSuchElementException") (i := 3) (n := 1) (v := 1) (q1 := 13) E [] ⟨0, 9, 12, 18⟩ [] ht (Or.inl rfl) (by decide) (by decide) (jl14_in _ (List.mem_of_getElem? (i := 21) rfl)) (by decide +kernel) (by decide) rfl (Or.inr ⟨3, rfl, (jd dk_L_seat_0 8 rfl)⟩) rfl ⟨fun _ => by decide, fun _ => ⟨3, rfl, (jd dk_L_seat_0 8 rfl)⟩⟩ (jd dk_L_seat_0 9 rfl) (jd dk_L_seat_0 10 rfl) hr (by decide) (by decide) ⟨rfl, rfl⟩
    replace hf := jif_f c0 hf
    cases hf
  rintro _ hb9 ⟨y9, rfl, rfl, rfl⟩
  replace hf : (jls 3 hb9 a2 0 (Int32.toInt64 y9)).bind (fun h9 => some ((0 : Int32), h9)) = some r := hf
  refine J_i2l E (jd dk_L_seat_0 5 rfl) ?_
  obtain ⟨h9, e9, hf⟩ := jbind hf
  refine J_last E (jd dk_L_seat_0 6 rfl) e9 ?_
  refine J_goto (tgt := 15) E (jd dk_L_seat_0 7 rfl) (by decide) ?_
  refine J_iconst (v := 0) E (jd dk_L_seat_0 11 rfl) rfl ?_
  cases hf
  exact J_iret E hr rfl (jd dk_L_seat_0 12 rfl) (by decide) (by decide) ⟨rfl, rfl⟩
theorem dk_L_unlike_0 : jDec cL_unlike [(0, .aload_n 3, 1), (1, .iconst 0, 1), (2, .aload_n 0, 1), (3, .iload_n 1, 1), (4, .iload_n 2, 1), (5, .invokevirtual 79, 3), (8, .i2l, 1), (9, .lastore, 1), (10, .goto 7, 3), (13, .astore 4, 2), (15, .iconst 1, 1), (16, .ireturn, 1), (17, .iconst 0, 1), (18, .ireturn, 1)] := by
  unfold jDec
  decide +kernel
def f_L_unlike (N : Nat) (h : AH) (a0 : Nat) (a1 : Int32) (a2 : Int32) (a3 : Nat) : Option (Int32 × AH) :=
  (jck 6 h a0).bind fun _ =>
  (f_X6_unlike N h a0 a1 a2).bind fun r =>
  Sum.elim (fun k9 => if k9 = 1 then some ((1 : Int32), r.2) else none) (fun y => (jls 3 r.2 a3 0 (Int32.toInt64 y)).bind fun h9 => some (0, h9)) r.1
theorem cal_L_unlike : Cond.codeWith yL_unlike cL_unlike 5 (some .int) [(0, 10, 13, 18)] ∈ jT ∧ Cond.static yL_unlike ∈ jT ∧ Cond.initialized RL ∈ jT ∧ jN yL_unlike 4 := ⟨(jl21_in _ (List.mem_of_getElem? (i := 1) rfl)), (jl21_in _ (List.mem_of_getElem? (i := 0) rfl)), (jl0_in _ (List.mem_of_getElem? (i := 0) rfl)), ⟨by decide, by decide, by decide +kernel⟩⟩
set_option maxRecDepth 100000 in
set_option maxHeartbeats 4000000 in
theorem lk_L_unlike {G : JG} {l : Launch} (hG : jG G) (htr : l.stackTraces = false) (N : Nat) {h : AH} {a0 : Nat} {a1 : Int32} {a2 : Int32} {a3 : Nat} {r : Int32 × AH} (hf : f_L_unlike N h a0 a1 a2 a3 = some r) : jMetW G l yL_unlike cL_unlike 5 (some .int) [(0, 10, 13, 18)] 3 2 12 [.ref a0, .int a1, .int a2, .ref a3] h (jpi r) := by
  unfold f_L_unlike at hf
  refine jMetW_of hG htr (by decide) (Nat.le_of_ble_eq_true rfl) ?_
  intro X E hl9 hr hX ht
  show JW G X (RL, cL_unlike, 5) h [(0, .ref a0), (1, .int a1), (2, .int a2), (3, .ref a3)] [] 0 0 0 (jEnd G X (jpi r) 2 12)
  refine J_aload_n E (jd dk_L_unlike_0 0 rfl) rfl 3 rfl ?_
  refine J_iconst (v := 0) E (jd dk_L_unlike_0 1 rfl) rfl ?_
  refine J_aload_n E (jd dk_L_unlike_0 2 rfl) rfl 0 rfl ?_
  refine J_iload_n E (jd dk_L_unlike_0 3 rfl) rfl 1 rfl ?_
  refine J_iload_n E (jd dk_L_unlike_0 4 rfl) rfl 2 rfl ?_
  obtain ⟨u1, e0, hf⟩ := jbind hf
  obtain ⟨⟨ra, rb⟩, e1, hf⟩ := jbind hf
  refine J_callVX E (jd dk_L_unlike_0 5 rfl) ml_RL_79 cal_X6_unlike e0 rfl (lk_X6_unlike (jE_g E) (jE_tr E) N e1) rfl (Nat.le_of_ble_eq_true rfl) (jR_le hX (by decide) (by decide)) (jFx hX (by decide) (by decide)) rfl ?_ ?_
  rotate_left
  · rintro _ hb9 ⟨k9, rfl, rfl, rfl⟩
    replace hf : (if k9 = 1 then some ((1 : Int32), hb9) else none) = some r := hf
    by_cases c0 : k9 = 1
    · replace hf := jif_t c0 hf
      cases hf
      subst c0
      exact J_caught (name := "java/util/NoSuchElementException") (i := 4) (n := 1) (v := 1) (q1 := 15) E [] ⟨0, 10, 13, 18⟩ [] ht (Or.inl rfl) (by decide) (by decide) (jl14_in _ (List.mem_of_getElem? (i := 21) rfl)) (by decide +kernel) (by decide) rfl (Or.inl (jd dk_L_unlike_0 9 rfl)) rfl ⟨fun ⟨j, hj, _⟩ => by have := j.isLt; omega, fun z => absurd z (by decide)⟩ (jd dk_L_unlike_0 10 rfl) (jd dk_L_unlike_0 11 rfl) hr (by decide) (by decide) ⟨rfl, rfl⟩
    replace hf := jif_f c0 hf
    cases hf
  rintro _ hb9 ⟨y9, rfl, rfl, rfl⟩
  replace hf : (jls 3 hb9 a3 0 (Int32.toInt64 y9)).bind (fun h9 => some ((0 : Int32), h9)) = some r := hf
  refine J_i2l E (jd dk_L_unlike_0 6 rfl) ?_
  obtain ⟨h9, e9, hf⟩ := jbind hf
  refine J_last E (jd dk_L_unlike_0 7 rfl) e9 ?_
  refine J_goto (tgt := 17) E (jd dk_L_unlike_0 8 rfl) (by decide) ?_
  refine J_iconst (v := 0) E (jd dk_L_unlike_0 12 rfl) rfl ?_
  cases hf
  exact J_iret E hr rfl (jd dk_L_unlike_0 13 rfl) (by decide) (by decide) ⟨rfl, rfl⟩
theorem dk_L_sides_0 : jDec cL_sides [(0, .aload_n 3, 1), (1, .iconst 0, 1), (2, .aload_n 0, 1), (3, .iload_n 1, 1), (4, .iload_n 2, 1), (5, .invokevirtual 82, 3), (8, .i2l, 1), (9, .lastore, 1), (10, .goto 11, 3), (13, .astore 4, 2), (15, .iconst 1, 1), (16, .ireturn, 1), (17, .astore 4, 2), (19, .iconst 2, 1), (20, .ireturn, 1), (21, .iconst 0, 1), (22, .ireturn, 1)] := by
  unfold jDec
  decide +kernel
def f_L_sides (N : Nat) (h : AH) (a0 : Nat) (a1 : Int32) (a2 : Int32) (a3 : Nat) : Option (Int32 × AH) :=
  (jck 6 h a0).bind fun _ =>
  (f_X6_sides N h a0 a1 a2).bind fun r =>
  Sum.elim (fun k9 => if k9 = 1 then some ((1 : Int32), r.2) else if k9 = 2 then some ((2 : Int32), r.2) else none) (fun y => (jls 3 r.2 a3 0 (Int32.toInt64 y)).bind fun h9 => some (0, h9)) r.1
theorem cal_L_sides : Cond.codeWith yL_sides cL_sides 5 (some .int) [(0, 10, 13, 18), (0, 10, 17, 13)] ∈ jT ∧ Cond.static yL_sides ∈ jT ∧ Cond.initialized RL ∈ jT ∧ jN yL_sides 4 := ⟨(jl21_in _ (List.mem_of_getElem? (i := 8) rfl)), (jl21_in _ (List.mem_of_getElem? (i := 7) rfl)), (jl0_in _ (List.mem_of_getElem? (i := 0) rfl)), ⟨by decide, by decide, by decide +kernel⟩⟩
set_option maxRecDepth 100000 in
set_option maxHeartbeats 4000000 in
theorem lk_L_sides {G : JG} {l : Launch} (hG : jG G) (htr : l.stackTraces = false) (N : Nat) {h : AH} {a0 : Nat} {a1 : Int32} {a2 : Int32} {a3 : Nat} {r : Int32 × AH} (hf : f_L_sides N h a0 a1 a2 a3 = some r) : jMetW G l yL_sides cL_sides 5 (some .int) [(0, 10, 13, 18), (0, 10, 17, 13)] 8 2 12 [.ref a0, .int a1, .int a2, .ref a3] h (jpi r) := by
  unfold f_L_sides at hf
  refine jMetW_of hG htr (by decide) (Nat.le_of_ble_eq_true rfl) ?_
  intro X E hl9 hr hX ht
  show JW G X (RL, cL_sides, 5) h [(0, .ref a0), (1, .int a1), (2, .int a2), (3, .ref a3)] [] 0 0 0 (jEnd G X (jpi r) 2 12)
  refine J_aload_n E (jd dk_L_sides_0 0 rfl) rfl 3 rfl ?_
  refine J_iconst (v := 0) E (jd dk_L_sides_0 1 rfl) rfl ?_
  refine J_aload_n E (jd dk_L_sides_0 2 rfl) rfl 0 rfl ?_
  refine J_iload_n E (jd dk_L_sides_0 3 rfl) rfl 1 rfl ?_
  refine J_iload_n E (jd dk_L_sides_0 4 rfl) rfl 2 rfl ?_
  obtain ⟨u1, e0, hf⟩ := jbind hf
  obtain ⟨⟨ra, rb⟩, e1, hf⟩ := jbind hf
  refine J_callVX E (jd dk_L_sides_0 5 rfl) ml_RL_82 cal_X6_sides e0 rfl (lk_X6_sides (jE_g E) (jE_tr E) N e1) rfl (Nat.le_of_ble_eq_true rfl) (jR_le hX (by decide) (by decide)) (jFx hX (by decide) (by decide)) rfl ?_ ?_
  rotate_left
  · rintro _ hb9 ⟨k9, rfl, rfl, rfl⟩
    replace hf : (if k9 = 1 then some ((1 : Int32), hb9) else if k9 = 2 then some ((2 : Int32), hb9) else none) = some r := hf
    by_cases c0 : k9 = 1
    · replace hf := jif_t c0 hf
      cases hf
      subst c0
      exact J_caught (name := "java/util/NoSuchElementException") (i := 4) (n := 1) (v := 1) (q1 := 15) E [] ⟨0, 10, 13, 18⟩ [⟨0, 10, 17, 13⟩] ht (Or.inl rfl) (by decide) (by decide) (jl14_in _ (List.mem_of_getElem? (i := 21) rfl)) (by decide +kernel) (by decide) rfl (Or.inl (jd dk_L_sides_0 9 rfl)) rfl ⟨fun ⟨j, hj, _⟩ => by have := j.isLt; omega, fun z => absurd z (by decide)⟩ (jd dk_L_sides_0 10 rfl) (jd dk_L_sides_0 11 rfl) hr (by decide) (by decide) ⟨rfl, rfl⟩
    replace hf := jif_f c0 hf
    by_cases c1 : k9 = 2
    · replace hf := jif_t c1 hf
      cases hf
      subst c1
      exact J_caught (name := "java/lang/IllegalArgumentException") (i := 4) (n := 2) (v := 2) (q1 := 19) E [⟨0, 10, 13, 18⟩] ⟨0, 10, 17, 13⟩ [] ht (Or.inr ⟨rfl, fun z hz => by cases hz with
          | head => exact ⟨by decide, (jl14_in _ (List.mem_of_getElem? (i := 21) rfl))⟩
          | tail _ hz => cases hz⟩) (by decide) (by decide) (jl9_in _ (List.mem_of_getElem? (i := 25) rfl)) (by decide +kernel) (by decide) rfl (Or.inl (jd dk_L_sides_0 12 rfl)) rfl ⟨fun ⟨j, hj, _⟩ => by have := j.isLt; omega, fun z => absurd z (by decide)⟩ (jd dk_L_sides_0 13 rfl) (jd dk_L_sides_0 14 rfl) hr (by decide) (by decide) ⟨rfl, rfl⟩
    replace hf := jif_f c1 hf
    cases hf
  rintro _ hb9 ⟨y9, rfl, rfl, rfl⟩
  replace hf : (jls 3 hb9 a3 0 (Int32.toInt64 y9)).bind (fun h9 => some ((0 : Int32), h9)) = some r := hf
  refine J_i2l E (jd dk_L_sides_0 6 rfl) ?_
  obtain ⟨h9, e9, hf⟩ := jbind hf
  refine J_last E (jd dk_L_sides_0 7 rfl) e9 ?_
  refine J_goto (tgt := 21) E (jd dk_L_sides_0 8 rfl) (by decide) ?_
  refine J_iconst (v := 0) E (jd dk_L_sides_0 15 rfl) rfl ?_
  cases hf
  exact J_iret E hr rfl (jd dk_L_sides_0 16 rfl) (by decide) (by decide) ⟨rfl, rfl⟩
theorem dk_L_facing_0 : jDec cL_facing [(0, .aload_n 3, 1), (1, .iconst 0, 1), (2, .aload_n 0, 1), (3, .iload_n 1, 1), (4, .iload_n 2, 1), (5, .invokevirtual 85, 3), (8, .i2l, 1), (9, .lastore, 1), (10, .goto 11, 3), (13, .astore 4, 2), (15, .iconst 1, 1), (16, .ireturn, 1), (17, .astore 4, 2), (19, .iconst 2, 1), (20, .ireturn, 1), (21, .iconst 0, 1), (22, .ireturn, 1)] := by
  unfold jDec
  decide +kernel
def f_L_facing (N : Nat) (h : AH) (a0 : Nat) (a1 : Int32) (a2 : Int32) (a3 : Nat) : Option (Int32 × AH) :=
  (jck 6 h a0).bind fun _ =>
  (f_X6_facing N h a0 a1 a2).bind fun r =>
  Sum.elim (fun k9 => if k9 = 1 then some ((1 : Int32), r.2) else if k9 = 2 then some ((2 : Int32), r.2) else none) (fun y => (jls 3 r.2 a3 0 (Int32.toInt64 y)).bind fun h9 => some (0, h9)) r.1
theorem cal_L_facing : Cond.codeWith yL_facing cL_facing 5 (some .int) [(0, 10, 13, 18), (0, 10, 17, 13)] ∈ jT ∧ Cond.static yL_facing ∈ jT ∧ Cond.initialized RL ∈ jT ∧ jN yL_facing 4 := ⟨(jl21_in _ (List.mem_of_getElem? (i := 15) rfl)), (jl21_in _ (List.mem_of_getElem? (i := 14) rfl)), (jl0_in _ (List.mem_of_getElem? (i := 0) rfl)), ⟨by decide, by decide, by decide +kernel⟩⟩
set_option maxRecDepth 100000 in
set_option maxHeartbeats 4000000 in
theorem lk_L_facing {G : JG} {l : Launch} (hG : jG G) (htr : l.stackTraces = false) (N : Nat) {h : AH} {a0 : Nat} {a1 : Int32} {a2 : Int32} {a3 : Nat} {r : Int32 × AH} (hf : f_L_facing N h a0 a1 a2 a3 = some r) : jMetW G l yL_facing cL_facing 5 (some .int) [(0, 10, 13, 18), (0, 10, 17, 13)] 8 2 12 [.ref a0, .int a1, .int a2, .ref a3] h (jpi r) := by
  unfold f_L_facing at hf
  refine jMetW_of hG htr (by decide) (Nat.le_of_ble_eq_true rfl) ?_
  intro X E hl9 hr hX ht
  show JW G X (RL, cL_facing, 5) h [(0, .ref a0), (1, .int a1), (2, .int a2), (3, .ref a3)] [] 0 0 0 (jEnd G X (jpi r) 2 12)
  refine J_aload_n E (jd dk_L_facing_0 0 rfl) rfl 3 rfl ?_
  refine J_iconst (v := 0) E (jd dk_L_facing_0 1 rfl) rfl ?_
  refine J_aload_n E (jd dk_L_facing_0 2 rfl) rfl 0 rfl ?_
  refine J_iload_n E (jd dk_L_facing_0 3 rfl) rfl 1 rfl ?_
  refine J_iload_n E (jd dk_L_facing_0 4 rfl) rfl 2 rfl ?_
  obtain ⟨u1, e0, hf⟩ := jbind hf
  obtain ⟨⟨ra, rb⟩, e1, hf⟩ := jbind hf
  refine J_callVX E (jd dk_L_facing_0 5 rfl) ml_RL_85 cal_X6_facing e0 rfl (lk_X6_facing (jE_g E) (jE_tr E) N e1) rfl (Nat.le_of_ble_eq_true rfl) (jR_le hX (by decide) (by decide)) (jFx hX (by decide) (by decide)) rfl ?_ ?_
  rotate_left
  · rintro _ hb9 ⟨k9, rfl, rfl, rfl⟩
    replace hf : (if k9 = 1 then some ((1 : Int32), hb9) else if k9 = 2 then some ((2 : Int32), hb9) else none) = some r := hf
    by_cases c0 : k9 = 1
    · replace hf := jif_t c0 hf
      cases hf
      subst c0
      exact J_caught (name := "java/util/NoSuchElementException") (i := 4) (n := 1) (v := 1) (q1 := 15) E [] ⟨0, 10, 13, 18⟩ [⟨0, 10, 17, 13⟩] ht (Or.inl rfl) (by decide) (by decide) (jl14_in _ (List.mem_of_getElem? (i := 21) rfl)) (by decide +kernel) (by decide) rfl (Or.inl (jd dk_L_facing_0 9 rfl)) rfl ⟨fun ⟨j, hj, _⟩ => by have := j.isLt; omega, fun z => absurd z (by decide)⟩ (jd dk_L_facing_0 10 rfl) (jd dk_L_facing_0 11 rfl) hr (by decide) (by decide) ⟨rfl, rfl⟩
    replace hf := jif_f c0 hf
    by_cases c1 : k9 = 2
    · replace hf := jif_t c1 hf
      cases hf
      subst c1
      exact J_caught (name := "java/lang/IllegalArgumentException") (i := 4) (n := 2) (v := 2) (q1 := 19) E [⟨0, 10, 13, 18⟩] ⟨0, 10, 17, 13⟩ [] ht (Or.inr ⟨rfl, fun z hz => by cases hz with
          | head => exact ⟨by decide, (jl14_in _ (List.mem_of_getElem? (i := 21) rfl))⟩
          | tail _ hz => cases hz⟩) (by decide) (by decide) (jl9_in _ (List.mem_of_getElem? (i := 25) rfl)) (by decide +kernel) (by decide) rfl (Or.inl (jd dk_L_facing_0 12 rfl)) rfl ⟨fun ⟨j, hj, _⟩ => by have := j.isLt; omega, fun z => absurd z (by decide)⟩ (jd dk_L_facing_0 13 rfl) (jd dk_L_facing_0 14 rfl) hr (by decide) (by decide) ⟨rfl, rfl⟩
    replace hf := jif_f c1 hf
    cases hf
  rintro _ hb9 ⟨y9, rfl, rfl, rfl⟩
  replace hf : (jls 3 hb9 a3 0 (Int32.toInt64 y9)).bind (fun h9 => some ((0 : Int32), h9)) = some r := hf
  refine J_i2l E (jd dk_L_facing_0 6 rfl) ?_
  obtain ⟨h9, e9, hf⟩ := jbind hf
  refine J_last E (jd dk_L_facing_0 7 rfl) e9 ?_
  refine J_goto (tgt := 21) E (jd dk_L_facing_0 8 rfl) (by decide) ?_
  refine J_iconst (v := 0) E (jd dk_L_facing_0 15 rfl) rfl ?_
  cases hf
  exact J_iret E hr rfl (jd dk_L_facing_0 16 rfl) (by decide) (by decide) ⟨rfl, rfl⟩
theorem dk_L_agree_0 : jDec cL_agree [(0, .aload 4, 2), (2, .iconst 0, 1), (3, .aload_n 0, 1), (4, .iload_n 1, 1), (5, .iload_n 2, 1), (6, .iload_n 3, 1), (7, .invokevirtual 88, 3), (10, .i2l, 1), (11, .lastore, 1), (12, .goto 11, 3), (15, .astore 5, 2), (17, .iconst 1, 1), (18, .ireturn, 1), (19, .astore 5, 2), (21, .iconst 2, 1), (22, .ireturn, 1), (23, .iconst 0, 1), (24, .ireturn, 1)] := by
  unfold jDec
  decide +kernel
def f_L_agree (N : Nat) (h : AH) (a0 : Nat) (a1 : Int32) (a2 : Int32) (a3 : Int32) (a4 : Nat) : Option (Int32 × AH) :=
  (jck 6 h a0).bind fun _ =>
  (f_X6_agree N h a0 a1 a2 a3).bind fun r =>
  Sum.elim (fun k9 => if k9 = 1 then some ((1 : Int32), r.2) else if k9 = 2 then some ((2 : Int32), r.2) else none) (fun y => (jls 3 r.2 a4 0 (Int32.toInt64 y)).bind fun h9 => some (0, h9)) r.1
theorem cal_L_agree : Cond.codeWith yL_agree cL_agree 6 (some .int) [(0, 12, 15, 18), (0, 12, 19, 13)] ∈ jT ∧ Cond.static yL_agree ∈ jT ∧ Cond.initialized RL ∈ jT ∧ jN yL_agree 5 := ⟨(jl21_in _ (List.mem_of_getElem? (i := 22) rfl)), (jl21_in _ (List.mem_of_getElem? (i := 21) rfl)), (jl0_in _ (List.mem_of_getElem? (i := 0) rfl)), ⟨by decide, by decide, by decide +kernel⟩⟩
set_option maxRecDepth 100000 in
set_option maxHeartbeats 4000000 in
theorem lk_L_agree {G : JG} {l : Launch} (hG : jG G) (htr : l.stackTraces = false) (N : Nat) {h : AH} {a0 : Nat} {a1 : Int32} {a2 : Int32} {a3 : Int32} {a4 : Nat} {r : Int32 × AH} (hf : f_L_agree N h a0 a1 a2 a3 a4 = some r) : jMetW G l yL_agree cL_agree 6 (some .int) [(0, 12, 15, 18), (0, 12, 19, 13)] 6 3 18 [.ref a0, .int a1, .int a2, .int a3, .ref a4] h (jpi r) := by
  unfold f_L_agree at hf
  refine jMetW_of hG htr (by decide) (Nat.le_of_ble_eq_true rfl) ?_
  intro X E hl9 hr hX ht
  show JW G X (RL, cL_agree, 6) h [(0, .ref a0), (1, .int a1), (2, .int a2), (3, .int a3), (4, .ref a4)] [] 0 0 0 (jEnd G X (jpi r) 3 18)
  refine J_aload E (jd dk_L_agree_0 0 rfl) 4 rfl ?_
  refine J_iconst (v := 0) E (jd dk_L_agree_0 1 rfl) rfl ?_
  refine J_aload_n E (jd dk_L_agree_0 2 rfl) rfl 0 rfl ?_
  refine J_iload_n E (jd dk_L_agree_0 3 rfl) rfl 1 rfl ?_
  refine J_iload_n E (jd dk_L_agree_0 4 rfl) rfl 2 rfl ?_
  refine J_iload_n E (jd dk_L_agree_0 5 rfl) rfl 3 rfl ?_
  obtain ⟨u1, e0, hf⟩ := jbind hf
  obtain ⟨⟨ra, rb⟩, e1, hf⟩ := jbind hf
  refine J_callVX E (jd dk_L_agree_0 6 rfl) ml_RL_88 cal_X6_agree e0 rfl (lk_X6_agree (jE_g E) (jE_tr E) N e1) rfl (Nat.le_of_ble_eq_true rfl) (jR_le hX (by decide) (by decide)) (jFx hX (by decide) (by decide)) rfl ?_ ?_
  rotate_left
  · rintro _ hb9 ⟨k9, rfl, rfl, rfl⟩
    replace hf : (if k9 = 1 then some ((1 : Int32), hb9) else if k9 = 2 then some ((2 : Int32), hb9) else none) = some r := hf
    by_cases c0 : k9 = 1
    · replace hf := jif_t c0 hf
      cases hf
      subst c0
      exact J_caught (name := "java/util/NoSuchElementException") (i := 5) (n := 1) (v := 1) (q1 := 17) E [] ⟨0, 12, 15, 18⟩ [⟨0, 12, 19, 13⟩] ht (Or.inl rfl) (by decide) (by decide) (jl14_in _ (List.mem_of_getElem? (i := 21) rfl)) (by decide +kernel) (by decide) rfl (Or.inl (jd dk_L_agree_0 10 rfl)) rfl ⟨fun ⟨j, hj, _⟩ => by have := j.isLt; omega, fun z => absurd z (by decide)⟩ (jd dk_L_agree_0 11 rfl) (jd dk_L_agree_0 12 rfl) hr (by decide) (by decide) ⟨rfl, rfl⟩
    replace hf := jif_f c0 hf
    by_cases c1 : k9 = 2
    · replace hf := jif_t c1 hf
      cases hf
      subst c1
      exact J_caught (name := "java/lang/IllegalArgumentException") (i := 5) (n := 2) (v := 2) (q1 := 21) E [⟨0, 12, 15, 18⟩] ⟨0, 12, 19, 13⟩ [] ht (Or.inr ⟨rfl, fun z hz => by cases hz with
          | head => exact ⟨by decide, (jl14_in _ (List.mem_of_getElem? (i := 21) rfl))⟩
          | tail _ hz => cases hz⟩) (by decide) (by decide) (jl9_in _ (List.mem_of_getElem? (i := 25) rfl)) (by decide +kernel) (by decide) rfl (Or.inl (jd dk_L_agree_0 13 rfl)) rfl ⟨fun ⟨j, hj, _⟩ => by have := j.isLt; omega, fun z => absurd z (by decide)⟩ (jd dk_L_agree_0 14 rfl) (jd dk_L_agree_0 15 rfl) hr (by decide) (by decide) ⟨rfl, rfl⟩
    replace hf := jif_f c1 hf
    cases hf
  rintro _ hb9 ⟨y9, rfl, rfl, rfl⟩
  replace hf : (jls 3 hb9 a4 0 (Int32.toInt64 y9)).bind (fun h9 => some ((0 : Int32), h9)) = some r := hf
  refine J_i2l E (jd dk_L_agree_0 7 rfl) ?_
  obtain ⟨h9, e9, hf⟩ := jbind hf
  refine J_last E (jd dk_L_agree_0 8 rfl) e9 ?_
  refine J_goto (tgt := 23) E (jd dk_L_agree_0 9 rfl) (by decide) ?_
  refine J_iconst (v := 0) E (jd dk_L_agree_0 16 rfl) rfl ?_
  cases hf
  exact J_iret E hr rfl (jd dk_L_agree_0 17 rfl) (by decide) (by decide) ⟨rfl, rfl⟩
theorem dk_L_see_0 : jDec cL_see [(0, .aload 4, 2), (2, .iconst 0, 1), (3, .aload_n 0, 1), (4, .iload_n 1, 1), (5, .iload_n 2, 1), (6, .iload_n 3, 1), (7, .invokevirtual 91, 3), (10, .i2l, 1), (11, .lastore, 1), (12, .goto 7, 3), (15, .astore 5, 2), (17, .iconst 1, 1), (18, .ireturn, 1), (19, .iconst 0, 1), (20, .ireturn, 1)] := by
  unfold jDec
  decide +kernel
def f_L_see (N : Nat) (h : AH) (a0 : Nat) (a1 : Int32) (a2 : Int32) (a3 : Int32) (a4 : Nat) : Option (Int32 × AH) :=
  (jck 6 h a0).bind fun _ =>
  (f_X6_see N h a0 a1 a2 a3).bind fun r =>
  Sum.elim (fun k9 => if k9 = 1 then some ((1 : Int32), r.2) else none) (fun y => (jls 3 r.2 a4 0 (Int32.toInt64 y)).bind fun h9 => some (0, h9)) r.1
theorem cal_L_see : Cond.codeWith yL_see cL_see 6 (some .int) [(0, 12, 15, 18)] ∈ jT ∧ Cond.static yL_see ∈ jT ∧ Cond.initialized RL ∈ jT ∧ jN yL_see 5 := ⟨(jl21_in _ (List.mem_of_getElem? (i := 29) rfl)), (jl21_in _ (List.mem_of_getElem? (i := 28) rfl)), (jl0_in _ (List.mem_of_getElem? (i := 0) rfl)), ⟨by decide, by decide, by decide +kernel⟩⟩
set_option maxRecDepth 100000 in
set_option maxHeartbeats 4000000 in
theorem lk_L_see {G : JG} {l : Launch} (hG : jG G) (htr : l.stackTraces = false) (N : Nat) {h : AH} {a0 : Nat} {a1 : Int32} {a2 : Int32} {a3 : Int32} {a4 : Nat} {r : Int32 × AH} (hf : f_L_see N h a0 a1 a2 a3 a4 = some r) : jMetW G l yL_see cL_see 6 (some .int) [(0, 12, 15, 18)] 3 1 6 [.ref a0, .int a1, .int a2, .int a3, .ref a4] h (jpi r) := by
  unfold f_L_see at hf
  refine jMetW_of hG htr (by decide) (Nat.le_of_ble_eq_true rfl) ?_
  intro X E hl9 hr hX ht
  show JW G X (RL, cL_see, 6) h [(0, .ref a0), (1, .int a1), (2, .int a2), (3, .int a3), (4, .ref a4)] [] 0 0 0 (jEnd G X (jpi r) 1 6)
  refine J_aload E (jd dk_L_see_0 0 rfl) 4 rfl ?_
  refine J_iconst (v := 0) E (jd dk_L_see_0 1 rfl) rfl ?_
  refine J_aload_n E (jd dk_L_see_0 2 rfl) rfl 0 rfl ?_
  refine J_iload_n E (jd dk_L_see_0 3 rfl) rfl 1 rfl ?_
  refine J_iload_n E (jd dk_L_see_0 4 rfl) rfl 2 rfl ?_
  refine J_iload_n E (jd dk_L_see_0 5 rfl) rfl 3 rfl ?_
  obtain ⟨u1, e0, hf⟩ := jbind hf
  obtain ⟨⟨ra, rb⟩, e1, hf⟩ := jbind hf
  refine J_callVX E (jd dk_L_see_0 6 rfl) ml_RL_91 cal_X6_see e0 rfl (lk_X6_see (jE_g E) (jE_tr E) N e1) rfl (Nat.le_of_ble_eq_true rfl) (jR_le hX (by decide) (by decide)) (jFx hX (by decide) (by decide)) rfl ?_ ?_
  rotate_left
  · rintro _ hb9 ⟨k9, rfl, rfl, rfl⟩
    replace hf : (if k9 = 1 then some ((1 : Int32), hb9) else none) = some r := hf
    by_cases c0 : k9 = 1
    · replace hf := jif_t c0 hf
      cases hf
      subst c0
      exact J_caught (name := "java/util/NoSuchElementException") (i := 5) (n := 1) (v := 1) (q1 := 17) E [] ⟨0, 12, 15, 18⟩ [] ht (Or.inl rfl) (by decide) (by decide) (jl14_in _ (List.mem_of_getElem? (i := 21) rfl)) (by decide +kernel) (by decide) rfl (Or.inl (jd dk_L_see_0 10 rfl)) rfl ⟨fun ⟨j, hj, _⟩ => by have := j.isLt; omega, fun z => absurd z (by decide)⟩ (jd dk_L_see_0 11 rfl) (jd dk_L_see_0 12 rfl) hr (by decide) (by decide) ⟨rfl, rfl⟩
    replace hf := jif_f c0 hf
    cases hf
  rintro _ hb9 ⟨y9, rfl, rfl, rfl⟩
  replace hf : (jls 3 hb9 a4 0 (Int32.toInt64 y9)).bind (fun h9 => some ((0 : Int32), h9)) = some r := hf
  refine J_i2l E (jd dk_L_see_0 7 rfl) ?_
  obtain ⟨h9, e9, hf⟩ := jbind hf
  refine J_last E (jd dk_L_see_0 8 rfl) e9 ?_
  refine J_goto (tgt := 19) E (jd dk_L_see_0 9 rfl) (by decide) ?_
  refine J_iconst (v := 0) E (jd dk_L_see_0 13 rfl) rfl ?_
  cases hf
  exact J_iret E hr rfl (jd dk_L_see_0 14 rfl) (by decide) (by decide) ⟨rfl, rfl⟩
theorem dk_L_leans_0 : jDec cL_leans [(0, .aload_n 2, 1), (1, .iconst 0, 1), (2, .aload_n 0, 1), (3, .iload_n 1, 1), (4, .invokevirtual 94, 3), (7, .i2l, 1), (8, .lastore, 1), (9, .goto 6, 3), (12, .astore_n 3, 1), (13, .iconst 1, 1), (14, .ireturn, 1), (15, .iconst 0, 1), (16, .ireturn, 1)] := by
  unfold jDec
  decide +kernel
def f_L_leans (N : Nat) (h : AH) (a0 : Nat) (a1 : Int32) (a2 : Nat) : Option (Int32 × AH) :=
  (jck 6 h a0).bind fun _ =>
  (f_X6_leans N h a0 a1).bind fun r =>
  Sum.elim (fun k9 => if k9 = 1 then some ((1 : Int32), r.2) else none) (fun y => (jls 3 r.2 a2 0 (Int32.toInt64 y)).bind fun h9 => some (0, h9)) r.1
theorem cal_L_leans : Cond.codeWith yL_leans cL_leans 4 (some .int) [(0, 9, 12, 18)] ∈ jT ∧ Cond.static yL_leans ∈ jT ∧ Cond.initialized RL ∈ jT ∧ jN yL_leans 3 := ⟨(jl22_in _ (List.mem_of_getElem? (i := 0) rfl)), (jl21_in _ (List.mem_of_getElem? (i := 39) rfl)), (jl0_in _ (List.mem_of_getElem? (i := 0) rfl)), ⟨by decide, by decide, by decide +kernel⟩⟩
set_option maxRecDepth 100000 in
set_option maxHeartbeats 4000000 in
theorem lk_L_leans {G : JG} {l : Launch} (hG : jG G) (htr : l.stackTraces = false) (N : Nat) {h : AH} {a0 : Nat} {a1 : Int32} {a2 : Nat} {r : Int32 × AH} (hf : f_L_leans N h a0 a1 a2 = some r) : jMetW G l yL_leans cL_leans 4 (some .int) [(0, 9, 12, 18)] 7 1 6 [.ref a0, .int a1, .ref a2] h (jpi r) := by
  unfold f_L_leans at hf
  refine jMetW_of hG htr (by decide) (Nat.le_of_ble_eq_true rfl) ?_
  intro X E hl9 hr hX ht
  show JW G X (RL, cL_leans, 4) h [(0, .ref a0), (1, .int a1), (2, .ref a2)] [] 0 0 0 (jEnd G X (jpi r) 1 6)
  refine J_aload_n E (jd dk_L_leans_0 0 rfl) rfl 2 rfl ?_
  refine J_iconst (v := 0) E (jd dk_L_leans_0 1 rfl) rfl ?_
  refine J_aload_n E (jd dk_L_leans_0 2 rfl) rfl 0 rfl ?_
  refine J_iload_n E (jd dk_L_leans_0 3 rfl) rfl 1 rfl ?_
  obtain ⟨u1, e0, hf⟩ := jbind hf
  obtain ⟨⟨ra, rb⟩, e1, hf⟩ := jbind hf
  refine J_callVX E (jd dk_L_leans_0 4 rfl) ml_RL_94 cal_X6_leans e0 rfl (lk_X6_leans (jE_g E) (jE_tr E) N e1) rfl (Nat.le_of_ble_eq_true rfl) (jR_le hX (by decide) (by decide)) (jFx hX (by decide) (by decide)) rfl ?_ ?_
  rotate_left
  · rintro _ hb9 ⟨k9, rfl, rfl, rfl⟩
    replace hf : (if k9 = 1 then some ((1 : Int32), hb9) else none) = some r := hf
    by_cases c0 : k9 = 1
    · replace hf := jif_t c0 hf
      cases hf
      subst c0
      exact J_caught (name := "java/util/NoSuchElementException") (i := 3) (n := 1) (v := 1) (q1 := 13) E [] ⟨0, 9, 12, 18⟩ [] ht (Or.inl rfl) (by decide) (by decide) (jl14_in _ (List.mem_of_getElem? (i := 21) rfl)) (by decide +kernel) (by decide) rfl (Or.inr ⟨3, rfl, (jd dk_L_leans_0 8 rfl)⟩) rfl ⟨fun _ => by decide, fun _ => ⟨3, rfl, (jd dk_L_leans_0 8 rfl)⟩⟩ (jd dk_L_leans_0 9 rfl) (jd dk_L_leans_0 10 rfl) hr (by decide) (by decide) ⟨rfl, rfl⟩
    replace hf := jif_f c0 hf
    cases hf
  rintro _ hb9 ⟨y9, rfl, rfl, rfl⟩
  replace hf : (jls 3 hb9 a2 0 (Int32.toInt64 y9)).bind (fun h9 => some ((0 : Int32), h9)) = some r := hf
  refine J_i2l E (jd dk_L_leans_0 5 rfl) ?_
  obtain ⟨h9, e9, hf⟩ := jbind hf
  refine J_last E (jd dk_L_leans_0 6 rfl) e9 ?_
  refine J_goto (tgt := 15) E (jd dk_L_leans_0 7 rfl) (by decide) ?_
  refine J_iconst (v := 0) E (jd dk_L_leans_0 11 rfl) rfl ?_
  cases hf
  exact J_iret E hr rfl (jd dk_L_leans_0 12 rfl) (by decide) (by decide) ⟨rfl, rfl⟩
theorem dk_L_watch_0 : jDec cL_watch [(0, .aload_n 2, 1), (1, .iconst 0, 1), (2, .aload_n 0, 1), (3, .iload_n 1, 1), (4, .invokevirtual 97, 3), (7, .i2l, 1), (8, .lastore, 1), (9, .goto 6, 3), (12, .astore_n 3, 1), (13, .iconst 1, 1), (14, .ireturn, 1), (15, .iconst 0, 1), (16, .ireturn, 1)] := by
  unfold jDec
  decide +kernel
def f_L_watch (N : Nat) (h : AH) (a0 : Nat) (a1 : Int32) (a2 : Nat) : Option (Int32 × AH) :=
  (jck 6 h a0).bind fun _ =>
  (f_X6_watch N h a0 a1).bind fun r =>
  Sum.elim (fun k9 => if k9 = 1 then some ((1 : Int32), r.2) else none) (fun y => (jls 3 r.2 a2 0 (Int32.toInt64 y)).bind fun h9 => some (0, h9)) r.1
theorem cal_L_watch : Cond.codeWith yL_watch cL_watch 4 (some .int) [(0, 9, 12, 18)] ∈ jT ∧ Cond.static yL_watch ∈ jT ∧ Cond.initialized RL ∈ jT ∧ jN yL_watch 3 := ⟨(jl22_in _ (List.mem_of_getElem? (i := 18) rfl)), (jl22_in _ (List.mem_of_getElem? (i := 17) rfl)), (jl0_in _ (List.mem_of_getElem? (i := 0) rfl)), ⟨by decide, by decide, by decide +kernel⟩⟩
set_option maxRecDepth 100000 in
set_option maxHeartbeats 4000000 in
theorem lk_L_watch {G : JG} {l : Launch} (hG : jG G) (htr : l.stackTraces = false) (N : Nat) {h : AH} {a0 : Nat} {a1 : Int32} {a2 : Nat} {r : Int32 × AH} (hf : f_L_watch N h a0 a1 a2 = some r) : jMetW G l yL_watch cL_watch 4 (some .int) [(0, 9, 12, 18)] 8 1 6 [.ref a0, .int a1, .ref a2] h (jpi r) := by
  unfold f_L_watch at hf
  refine jMetW_of hG htr (by decide) (Nat.le_of_ble_eq_true rfl) ?_
  intro X E hl9 hr hX ht
  show JW G X (RL, cL_watch, 4) h [(0, .ref a0), (1, .int a1), (2, .ref a2)] [] 0 0 0 (jEnd G X (jpi r) 1 6)
  refine J_aload_n E (jd dk_L_watch_0 0 rfl) rfl 2 rfl ?_
  refine J_iconst (v := 0) E (jd dk_L_watch_0 1 rfl) rfl ?_
  refine J_aload_n E (jd dk_L_watch_0 2 rfl) rfl 0 rfl ?_
  refine J_iload_n E (jd dk_L_watch_0 3 rfl) rfl 1 rfl ?_
  obtain ⟨u1, e0, hf⟩ := jbind hf
  obtain ⟨⟨ra, rb⟩, e1, hf⟩ := jbind hf
  refine J_callVX E (jd dk_L_watch_0 4 rfl) ml_RL_97 cal_X6_watch e0 rfl (lk_X6_watch (jE_g E) (jE_tr E) N e1) rfl (Nat.le_of_ble_eq_true rfl) (jR_le hX (by decide) (by decide)) (jFx hX (by decide) (by decide)) rfl ?_ ?_
  rotate_left
  · rintro _ hb9 ⟨k9, rfl, rfl, rfl⟩
    replace hf : (if k9 = 1 then some ((1 : Int32), hb9) else none) = some r := hf
    by_cases c0 : k9 = 1
    · replace hf := jif_t c0 hf
      cases hf
      subst c0
      exact J_caught (name := "java/util/NoSuchElementException") (i := 3) (n := 1) (v := 1) (q1 := 13) E [] ⟨0, 9, 12, 18⟩ [] ht (Or.inl rfl) (by decide) (by decide) (jl14_in _ (List.mem_of_getElem? (i := 21) rfl)) (by decide +kernel) (by decide) rfl (Or.inr ⟨3, rfl, (jd dk_L_watch_0 8 rfl)⟩) rfl ⟨fun _ => by decide, fun _ => ⟨3, rfl, (jd dk_L_watch_0 8 rfl)⟩⟩ (jd dk_L_watch_0 9 rfl) (jd dk_L_watch_0 10 rfl) hr (by decide) (by decide) ⟨rfl, rfl⟩
    replace hf := jif_f c0 hf
    cases hf
  rintro _ hb9 ⟨y9, rfl, rfl, rfl⟩
  replace hf : (jls 3 hb9 a2 0 (Int32.toInt64 y9)).bind (fun h9 => some ((0 : Int32), h9)) = some r := hf
  refine J_i2l E (jd dk_L_watch_0 5 rfl) ?_
  obtain ⟨h9, e9, hf⟩ := jbind hf
  refine J_last E (jd dk_L_watch_0 6 rfl) e9 ?_
  refine J_goto (tgt := 15) E (jd dk_L_watch_0 7 rfl) (by decide) ?_
  refine J_iconst (v := 0) E (jd dk_L_watch_0 11 rfl) rfl ?_
  cases hf
  exact J_iret E hr rfl (jd dk_L_watch_0 12 rfl) (by decide) (by decide) ⟨rfl, rfl⟩
theorem dk_L_floods_0 : jDec cL_floods [(0, .aload 4, 2), (2, .iconst 0, 1), (3, .aload_n 0, 1), (4, .iload_n 1, 1), (5, .iload_n 2, 1), (6, .iload_n 3, 1), (7, .invokevirtual 100, 3), (10, .i2l, 1), (11, .lastore, 1), (12, .goto 11, 3), (15, .astore 5, 2), (17, .iconst 1, 1), (18, .ireturn, 1), (19, .astore 5, 2), (21, .iconst 2, 1), (22, .ireturn, 1), (23, .iconst 0, 1), (24, .ireturn, 1)] := by
  unfold jDec
  decide +kernel
def f_L_floods (N : Nat) (h : AH) (a0 : Nat) (a1 : Int32) (a2 : Int32) (a3 : Int32) (a4 : Nat) : Option (Int32 × AH) :=
  (jck 6 h a0).bind fun _ =>
  (f_X6_floods N h a0 a1 a2 a3).bind fun r =>
  Sum.elim (fun k9 => if k9 = 1 then some ((1 : Int32), r.2) else if k9 = 2 then some ((2 : Int32), r.2) else none) (fun y => (jls 3 r.2 a4 0 (Int32.toInt64 y)).bind fun h9 => some (0, h9)) r.1
theorem cal_L_floods : Cond.codeWith yL_floods cL_floods 6 (some .int) [(0, 12, 15, 18), (0, 12, 19, 13)] ∈ jT ∧ Cond.static yL_floods ∈ jT ∧ Cond.initialized RL ∈ jT ∧ jN yL_floods 5 := ⟨(jl22_in _ (List.mem_of_getElem? (i := 29) rfl)), (jl22_in _ (List.mem_of_getElem? (i := 28) rfl)), (jl0_in _ (List.mem_of_getElem? (i := 0) rfl)), ⟨by decide, by decide, by decide +kernel⟩⟩
set_option maxRecDepth 100000 in
set_option maxHeartbeats 4000000 in
theorem lk_L_floods {G : JG} {l : Launch} (hG : jG G) (htr : l.stackTraces = false) (N : Nat) {h : AH} {a0 : Nat} {a1 : Int32} {a2 : Int32} {a3 : Int32} {a4 : Nat} {r : Int32 × AH} (hf : f_L_floods N h a0 a1 a2 a3 a4 = some r) : jMetW G l yL_floods cL_floods 6 (some .int) [(0, 12, 15, 18), (0, 12, 19, 13)] 6 3 18 [.ref a0, .int a1, .int a2, .int a3, .ref a4] h (jpi r) := by
  unfold f_L_floods at hf
  refine jMetW_of hG htr (by decide) (Nat.le_of_ble_eq_true rfl) ?_
  intro X E hl9 hr hX ht
  show JW G X (RL, cL_floods, 6) h [(0, .ref a0), (1, .int a1), (2, .int a2), (3, .int a3), (4, .ref a4)] [] 0 0 0 (jEnd G X (jpi r) 3 18)
  refine J_aload E (jd dk_L_floods_0 0 rfl) 4 rfl ?_
  refine J_iconst (v := 0) E (jd dk_L_floods_0 1 rfl) rfl ?_
  refine J_aload_n E (jd dk_L_floods_0 2 rfl) rfl 0 rfl ?_
  refine J_iload_n E (jd dk_L_floods_0 3 rfl) rfl 1 rfl ?_
  refine J_iload_n E (jd dk_L_floods_0 4 rfl) rfl 2 rfl ?_
  refine J_iload_n E (jd dk_L_floods_0 5 rfl) rfl 3 rfl ?_
  obtain ⟨u1, e0, hf⟩ := jbind hf
  obtain ⟨⟨ra, rb⟩, e1, hf⟩ := jbind hf
  refine J_callVX E (jd dk_L_floods_0 6 rfl) ml_RL_100 cal_X6_floods e0 rfl (lk_X6_floods (jE_g E) (jE_tr E) N e1) rfl (Nat.le_of_ble_eq_true rfl) (jR_le hX (by decide) (by decide)) (jFx hX (by decide) (by decide)) rfl ?_ ?_
  rotate_left
  · rintro _ hb9 ⟨k9, rfl, rfl, rfl⟩
    replace hf : (if k9 = 1 then some ((1 : Int32), hb9) else if k9 = 2 then some ((2 : Int32), hb9) else none) = some r := hf
    by_cases c0 : k9 = 1
    · replace hf := jif_t c0 hf
      cases hf
      subst c0
      exact J_caught (name := "java/util/NoSuchElementException") (i := 5) (n := 1) (v := 1) (q1 := 17) E [] ⟨0, 12, 15, 18⟩ [⟨0, 12, 19, 13⟩] ht (Or.inl rfl) (by decide) (by decide) (jl14_in _ (List.mem_of_getElem? (i := 21) rfl)) (by decide +kernel) (by decide) rfl (Or.inl (jd dk_L_floods_0 10 rfl)) rfl ⟨fun ⟨j, hj, _⟩ => by have := j.isLt; omega, fun z => absurd z (by decide)⟩ (jd dk_L_floods_0 11 rfl) (jd dk_L_floods_0 12 rfl) hr (by decide) (by decide) ⟨rfl, rfl⟩
    replace hf := jif_f c0 hf
    by_cases c1 : k9 = 2
    · replace hf := jif_t c1 hf
      cases hf
      subst c1
      exact J_caught (name := "java/lang/IllegalArgumentException") (i := 5) (n := 2) (v := 2) (q1 := 21) E [⟨0, 12, 15, 18⟩] ⟨0, 12, 19, 13⟩ [] ht (Or.inr ⟨rfl, fun z hz => by cases hz with
          | head => exact ⟨by decide, (jl14_in _ (List.mem_of_getElem? (i := 21) rfl))⟩
          | tail _ hz => cases hz⟩) (by decide) (by decide) (jl9_in _ (List.mem_of_getElem? (i := 25) rfl)) (by decide +kernel) (by decide) rfl (Or.inl (jd dk_L_floods_0 13 rfl)) rfl ⟨fun ⟨j, hj, _⟩ => by have := j.isLt; omega, fun z => absurd z (by decide)⟩ (jd dk_L_floods_0 14 rfl) (jd dk_L_floods_0 15 rfl) hr (by decide) (by decide) ⟨rfl, rfl⟩
    replace hf := jif_f c1 hf
    cases hf
  rintro _ hb9 ⟨y9, rfl, rfl, rfl⟩
  replace hf : (jls 3 hb9 a4 0 (Int32.toInt64 y9)).bind (fun h9 => some ((0 : Int32), h9)) = some r := hf
  refine J_i2l E (jd dk_L_floods_0 7 rfl) ?_
  obtain ⟨h9, e9, hf⟩ := jbind hf
  refine J_last E (jd dk_L_floods_0 8 rfl) e9 ?_
  refine J_goto (tgt := 23) E (jd dk_L_floods_0 9 rfl) (by decide) ?_
  refine J_iconst (v := 0) E (jd dk_L_floods_0 16 rfl) rfl ?_
  cases hf
  exact J_iret E hr rfl (jd dk_L_floods_0 17 rfl) (by decide) (by decide) ⟨rfl, rfl⟩
theorem dk_L_game_0 : jDec cL_game [(0, .aload 4, 2), (2, .iconst 0, 1), (3, .aload_n 0, 1), (4, .iload_n 1, 1), (5, .iload_n 2, 1), (6, .iload_n 3, 1), (7, .invokevirtual 103, 3), (10, .i2l, 1), (11, .lastore, 1), (12, .goto 11, 3), (15, .astore 5, 2), (17, .iconst 1, 1), (18, .ireturn, 1), (19, .astore 5, 2), (21, .iconst 2, 1), (22, .ireturn, 1), (23, .iconst 0, 1), (24, .ireturn, 1)] := by
  unfold jDec
  decide +kernel
def f_L_game (N : Nat) (h : AH) (a0 : Nat) (a1 : Int32) (a2 : Int32) (a3 : Int32) (a4 : Nat) : Option (Int32 × AH) :=
  (jck 6 h a0).bind fun _ =>
  (f_X6_game N h a0 a1 a2 a3).bind fun r =>
  Sum.elim (fun k9 => if k9 = 1 then some ((1 : Int32), r.2) else if k9 = 2 then some ((2 : Int32), r.2) else none) (fun y => (jls 3 r.2 a4 0 (Int32.toInt64 y)).bind fun h9 => some (0, h9)) r.1
theorem cal_L_game : Cond.codeWith yL_game cL_game 6 (some .int) [(0, 12, 15, 18), (0, 12, 19, 13)] ∈ jT ∧ Cond.static yL_game ∈ jT ∧ Cond.initialized RL ∈ jT ∧ jN yL_game 5 := ⟨(jl22_in _ (List.mem_of_getElem? (i := 36) rfl)), (jl22_in _ (List.mem_of_getElem? (i := 35) rfl)), (jl0_in _ (List.mem_of_getElem? (i := 0) rfl)), ⟨by decide, by decide, by decide +kernel⟩⟩
set_option maxRecDepth 100000 in
set_option maxHeartbeats 4000000 in
theorem lk_L_game {G : JG} {l : Launch} (hG : jG G) (htr : l.stackTraces = false) (N : Nat) {h : AH} {a0 : Nat} {a1 : Int32} {a2 : Int32} {a3 : Int32} {a4 : Nat} {r : Int32 × AH} (hf : f_L_game N h a0 a1 a2 a3 a4 = some r) : jMetW G l yL_game cL_game 6 (some .int) [(0, 12, 15, 18), (0, 12, 19, 13)] 8 4 24 [.ref a0, .int a1, .int a2, .int a3, .ref a4] h (jpi r) := by
  unfold f_L_game at hf
  refine jMetW_of hG htr (by decide) (Nat.le_of_ble_eq_true rfl) ?_
  intro X E hl9 hr hX ht
  show JW G X (RL, cL_game, 6) h [(0, .ref a0), (1, .int a1), (2, .int a2), (3, .int a3), (4, .ref a4)] [] 0 0 0 (jEnd G X (jpi r) 4 24)
  refine J_aload E (jd dk_L_game_0 0 rfl) 4 rfl ?_
  refine J_iconst (v := 0) E (jd dk_L_game_0 1 rfl) rfl ?_
  refine J_aload_n E (jd dk_L_game_0 2 rfl) rfl 0 rfl ?_
  refine J_iload_n E (jd dk_L_game_0 3 rfl) rfl 1 rfl ?_
  refine J_iload_n E (jd dk_L_game_0 4 rfl) rfl 2 rfl ?_
  refine J_iload_n E (jd dk_L_game_0 5 rfl) rfl 3 rfl ?_
  obtain ⟨u1, e0, hf⟩ := jbind hf
  obtain ⟨⟨ra, rb⟩, e1, hf⟩ := jbind hf
  refine J_callVX E (jd dk_L_game_0 6 rfl) ml_RL_103 cal_X6_game e0 rfl (lk_X6_game (jE_g E) (jE_tr E) N e1) rfl (Nat.le_of_ble_eq_true rfl) (jR_le hX (by decide) (by decide)) (jFx hX (by decide) (by decide)) rfl ?_ ?_
  rotate_left
  · rintro _ hb9 ⟨k9, rfl, rfl, rfl⟩
    replace hf : (if k9 = 1 then some ((1 : Int32), hb9) else if k9 = 2 then some ((2 : Int32), hb9) else none) = some r := hf
    by_cases c0 : k9 = 1
    · replace hf := jif_t c0 hf
      cases hf
      subst c0
      exact J_caught (name := "java/util/NoSuchElementException") (i := 5) (n := 1) (v := 1) (q1 := 17) E [] ⟨0, 12, 15, 18⟩ [⟨0, 12, 19, 13⟩] ht (Or.inl rfl) (by decide) (by decide) (jl14_in _ (List.mem_of_getElem? (i := 21) rfl)) (by decide +kernel) (by decide) rfl (Or.inl (jd dk_L_game_0 10 rfl)) rfl ⟨fun ⟨j, hj, _⟩ => by have := j.isLt; omega, fun z => absurd z (by decide)⟩ (jd dk_L_game_0 11 rfl) (jd dk_L_game_0 12 rfl) hr (by decide) (by decide) ⟨rfl, rfl⟩
    replace hf := jif_f c0 hf
    by_cases c1 : k9 = 2
    · replace hf := jif_t c1 hf
      cases hf
      subst c1
      exact J_caught (name := "java/lang/IllegalArgumentException") (i := 5) (n := 2) (v := 2) (q1 := 21) E [⟨0, 12, 15, 18⟩] ⟨0, 12, 19, 13⟩ [] ht (Or.inr ⟨rfl, fun z hz => by cases hz with
          | head => exact ⟨by decide, (jl14_in _ (List.mem_of_getElem? (i := 21) rfl))⟩
          | tail _ hz => cases hz⟩) (by decide) (by decide) (jl9_in _ (List.mem_of_getElem? (i := 25) rfl)) (by decide +kernel) (by decide) rfl (Or.inl (jd dk_L_game_0 13 rfl)) rfl ⟨fun ⟨j, hj, _⟩ => by have := j.isLt; omega, fun z => absurd z (by decide)⟩ (jd dk_L_game_0 14 rfl) (jd dk_L_game_0 15 rfl) hr (by decide) (by decide) ⟨rfl, rfl⟩
    replace hf := jif_f c1 hf
    cases hf
  rintro _ hb9 ⟨y9, rfl, rfl, rfl⟩
  replace hf : (jls 3 hb9 a4 0 (Int32.toInt64 y9)).bind (fun h9 => some ((0 : Int32), h9)) = some r := hf
  refine J_i2l E (jd dk_L_game_0 7 rfl) ?_
  obtain ⟨h9, e9, hf⟩ := jbind hf
  refine J_last E (jd dk_L_game_0 8 rfl) e9 ?_
  refine J_goto (tgt := 23) E (jd dk_L_game_0 9 rfl) (by decide) ?_
  refine J_iconst (v := 0) E (jd dk_L_game_0 16 rfl) rfl ?_
  cases hf
  exact J_iret E hr rfl (jd dk_L_game_0 17 rfl) (by decide) (by decide) ⟨rfl, rfl⟩
theorem dk_L_years_0 : jDec cL_years [(0, .aload 4, 2), (2, .iconst 0, 1), (3, .aload_n 0, 1), (4, .iload_n 1, 1), (5, .iload_n 2, 1), (6, .iload_n 3, 1), (7, .invokevirtual 106, 3), (10, .i2l, 1), (11, .lastore, 1), (12, .goto 11, 3), (15, .astore 5, 2), (17, .iconst 1, 1), (18, .ireturn, 1), (19, .astore 5, 2), (21, .iconst 2, 1), (22, .ireturn, 1), (23, .iconst 0, 1), (24, .ireturn, 1)] := by
  unfold jDec
  decide +kernel
def f_L_years (N : Nat) (h : AH) (a0 : Nat) (a1 : Int32) (a2 : Int32) (a3 : Int32) (a4 : Nat) : Option (Int32 × AH) :=
  (jck 6 h a0).bind fun _ =>
  (f_X6_years N h a0 a1 a2 a3).bind fun r =>
  Sum.elim (fun k9 => if k9 = 1 then some ((1 : Int32), r.2) else if k9 = 2 then some ((2 : Int32), r.2) else none) (fun y => (jls 3 r.2 a4 0 (Int32.toInt64 y)).bind fun h9 => some (0, h9)) r.1
theorem cal_L_years : Cond.codeWith yL_years cL_years 6 (some .int) [(0, 12, 15, 18), (0, 12, 19, 13)] ∈ jT ∧ Cond.static yL_years ∈ jT ∧ Cond.initialized RL ∈ jT ∧ jN yL_years 5 := ⟨(jl23_in _ (List.mem_of_getElem? (i := 10) rfl)), (jl23_in _ (List.mem_of_getElem? (i := 9) rfl)), (jl0_in _ (List.mem_of_getElem? (i := 0) rfl)), ⟨by decide, by decide, by decide +kernel⟩⟩
set_option maxRecDepth 100000 in
set_option maxHeartbeats 4000000 in
theorem lk_L_years {G : JG} {l : Launch} (hG : jG G) (htr : l.stackTraces = false) (N : Nat) {h : AH} {a0 : Nat} {a1 : Int32} {a2 : Int32} {a3 : Int32} {a4 : Nat} {r : Int32 × AH} (hf : f_L_years N h a0 a1 a2 a3 a4 = some r) : jMetW G l yL_years cL_years 6 (some .int) [(0, 12, 15, 18), (0, 12, 19, 13)] 6 2 12 [.ref a0, .int a1, .int a2, .int a3, .ref a4] h (jpi r) := by
  unfold f_L_years at hf
  refine jMetW_of hG htr (by decide) (Nat.le_of_ble_eq_true rfl) ?_
  intro X E hl9 hr hX ht
  show JW G X (RL, cL_years, 6) h [(0, .ref a0), (1, .int a1), (2, .int a2), (3, .int a3), (4, .ref a4)] [] 0 0 0 (jEnd G X (jpi r) 2 12)
  refine J_aload E (jd dk_L_years_0 0 rfl) 4 rfl ?_
  refine J_iconst (v := 0) E (jd dk_L_years_0 1 rfl) rfl ?_
  refine J_aload_n E (jd dk_L_years_0 2 rfl) rfl 0 rfl ?_
  refine J_iload_n E (jd dk_L_years_0 3 rfl) rfl 1 rfl ?_
  refine J_iload_n E (jd dk_L_years_0 4 rfl) rfl 2 rfl ?_
  refine J_iload_n E (jd dk_L_years_0 5 rfl) rfl 3 rfl ?_
  obtain ⟨u1, e0, hf⟩ := jbind hf
  obtain ⟨⟨ra, rb⟩, e1, hf⟩ := jbind hf
  refine J_callVX E (jd dk_L_years_0 6 rfl) ml_RL_106 cal_X6_years e0 rfl (lk_X6_years (jE_g E) (jE_tr E) N e1) rfl (Nat.le_of_ble_eq_true rfl) (jR_le hX (by decide) (by decide)) (jFx hX (by decide) (by decide)) rfl ?_ ?_
  rotate_left
  · rintro _ hb9 ⟨k9, rfl, rfl, rfl⟩
    replace hf : (if k9 = 1 then some ((1 : Int32), hb9) else if k9 = 2 then some ((2 : Int32), hb9) else none) = some r := hf
    by_cases c0 : k9 = 1
    · replace hf := jif_t c0 hf
      cases hf
      subst c0
      exact J_caught (name := "java/util/NoSuchElementException") (i := 5) (n := 1) (v := 1) (q1 := 17) E [] ⟨0, 12, 15, 18⟩ [⟨0, 12, 19, 13⟩] ht (Or.inl rfl) (by decide) (by decide) (jl14_in _ (List.mem_of_getElem? (i := 21) rfl)) (by decide +kernel) (by decide) rfl (Or.inl (jd dk_L_years_0 10 rfl)) rfl ⟨fun ⟨j, hj, _⟩ => by have := j.isLt; omega, fun z => absurd z (by decide)⟩ (jd dk_L_years_0 11 rfl) (jd dk_L_years_0 12 rfl) hr (by decide) (by decide) ⟨rfl, rfl⟩
    replace hf := jif_f c0 hf
    by_cases c1 : k9 = 2
    · replace hf := jif_t c1 hf
      cases hf
      subst c1
      exact J_caught (name := "java/lang/IllegalArgumentException") (i := 5) (n := 2) (v := 2) (q1 := 21) E [⟨0, 12, 15, 18⟩] ⟨0, 12, 19, 13⟩ [] ht (Or.inr ⟨rfl, fun z hz => by cases hz with
          | head => exact ⟨by decide, (jl14_in _ (List.mem_of_getElem? (i := 21) rfl))⟩
          | tail _ hz => cases hz⟩) (by decide) (by decide) (jl9_in _ (List.mem_of_getElem? (i := 25) rfl)) (by decide +kernel) (by decide) rfl (Or.inl (jd dk_L_years_0 13 rfl)) rfl ⟨fun ⟨j, hj, _⟩ => by have := j.isLt; omega, fun z => absurd z (by decide)⟩ (jd dk_L_years_0 14 rfl) (jd dk_L_years_0 15 rfl) hr (by decide) (by decide) ⟨rfl, rfl⟩
    replace hf := jif_f c1 hf
    cases hf
  rintro _ hb9 ⟨y9, rfl, rfl, rfl⟩
  replace hf : (jls 3 hb9 a4 0 (Int32.toInt64 y9)).bind (fun h9 => some ((0 : Int32), h9)) = some r := hf
  refine J_i2l E (jd dk_L_years_0 7 rfl) ?_
  obtain ⟨h9, e9, hf⟩ := jbind hf
  refine J_last E (jd dk_L_years_0 8 rfl) e9 ?_
  refine J_goto (tgt := 23) E (jd dk_L_years_0 9 rfl) (by decide) ?_
  refine J_iconst (v := 0) E (jd dk_L_years_0 16 rfl) rfl ?_
  cases hf
  exact J_iret E hr rfl (jd dk_L_years_0 17 rfl) (by decide) (by decide) ⟨rfl, rfl⟩
