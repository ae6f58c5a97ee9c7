def f_X7_judge (N : Nat) (h : AH) (a0 : Nat) (a1 : Int32) (a2 : Int32) : Option (Int32 × AH) :=
  (jwi 7 h a0 4 0).bind fun h1 =>
  (jck 7 h1 a0).bind fun _ =>
  (f_X7_isJudge N h1 a0 a1).bind fun r3 =>
  if r3.1 = 0 then (jck 7 r3.2 a0).bind fun _ =>
  (f_X7_fail N r3.2 a0 1).bind fun r36 =>
  some (r36.1, r36.2)
  else if a2 = 0 then (jgr 7 r3.2 a0 28).bind fun x8 =>
  (jal 0 r3.2 x8 a1).bind fun x10 =>
  some (x10, r3.2)
  else if a2 = 1 then (jgr 7 r3.2 a0 29).bind fun x12 =>
  (jal 0 r3.2 x12 a1).bind fun x14 =>
  some (x14, r3.2)
  else if a2 = 2 then (jgr 7 r3.2 a0 30).bind fun x16 =>
  (jal 0 r3.2 x16 a1).bind fun x18 =>
  some (x18, r3.2)
  else if a2 = 3 then (jgr 7 r3.2 a0 15).bind fun x20 =>
  (jal 0 r3.2 x20 a1).bind fun x22 =>
  some (x22, r3.2)
  else if a2 = 4 then (jgr 7 r3.2 a0 11).bind fun x24 =>
  (jal 0 r3.2 x24 a1).bind fun x26 =>
  some (x26, r3.2)
  else if a2 = 5 then (jgr 7 r3.2 a0 8).bind fun x28 =>
  (jal 0 r3.2 x28 a1).bind fun x30 =>
  some (x30, r3.2)
  else (jck 7 r3.2 a0).bind fun _ =>
  (f_X7_fail N r3.2 a0 1).bind fun r32 =>
  some (r32.1, r32.2)
set_option maxRecDepth 100000 in
set_option maxHeartbeats 4000000 in
theorem lk_X7_judge {G : JG} {l : Launch} (hG : jG G) (htr : l.stackTraces = false) (N : Nat) {h : AH} {a0 : Nat} {a1 : Int32} {a2 : Int32} {r : (Int32 × AH)} (hf : f_X7_judge N h a0 a1 a2 = some r) : jMet G l yX7_judge cX7_judge 3 (some .int) 2 0 0 [.ref a0, .int a1, .int a2] h (jpi r) := by
  unfold f_X7_judge at hf
  refine jMet_of hG htr (by decide) (Nat.le_of_ble_eq_true rfl) ?_
  intro X E hl9 hr hX _ _
  show JW G X (RX7, cX7_judge, 3) h [(0, .ref a0), (1, .int a1), (2, .int a2)] [] 0 0 0 (jEnd G X (jpi r) 0 0)
  refine J_aload_n E (jd dk_X7_judge_0 0 rfl) rfl 0 rfl ?_
  refine J_iconst (v := 0) E (jd dk_X7_judge_0 1 rfl) rfl ?_
  obtain ⟨h1, e2, hf⟩ := jbind hf
  refine J_put E (jd dk_X7_judge_0 2 rfl) fl_RX7_151 e2 (fun _ => rfl) (fun _ => rfl) ?_
  refine J_aload_n E (jd dk_X7_judge_0 3 rfl) rfl 0 rfl ?_
  refine J_iload_n E (jd dk_X7_judge_0 4 rfl) rfl 1 rfl ?_
  obtain ⟨u5, e6, hf⟩ := jbind hf
  obtain ⟨r3, e4, hf⟩ := jbind hf
  refine J_callV E (jd dk_X7_judge_0 5 rfl) ml_RX7_382 cal_X7_isJudge e6 rfl (lk_X7_isJudge (jE_g E) (jE_tr E) N e4) rfl (Nat.le_of_ble_eq_true rfl) (jR_le hX (by decide) (by decide)) (jF0 hX) rfl ?_
  rintro _ _ ⟨rfl, rfl⟩
  refine J_if_ne (tgt := 19) E (jd dk_X7_judge_0 6 rfl) (by decide) (fun c7 => ?_) (fun c7 => ?_)
  · replace hf := jif_f c7 hf
    refine J_iload_n E (jd dk_X7_judge_0 11 rfl) rfl 2 rfl ?_
    by_cases c20_0 : a2 = 0
    · replace hf := jif_t c20_0 hf
      refine J_tableIn (off := 40) (tgt := 60) E (jd dk_X7_judge_0 12 rfl) (by rw [c20_0]; decide) (by rw [c20_0]; decide) (by rw [c20_0]; decide) (by decide) ?_
      refine J_aload_n E (jd dk_X7_judge_0 13 rfl) rfl 0 rfl ?_
      obtain ⟨x8, e9, hf⟩ := jbind hf
      refine J_getr E (jd dk_X7_judge_0 14 rfl) fl_RX7_81 e9 ?_
      refine J_iload_n E (jd dk_X7_judge_0 15 rfl) rfl 1 rfl ?_
      obtain ⟨x10, e11, hf⟩ := jbind hf
      refine J_iald E (jd dk_X7_judge_0 16 rfl) e11 ?_
      cases hf
      exact J_iret E hr rfl (jd dk_X7_judge_0 17 rfl) (Nat.le_refl _) (Nat.le_refl _) ⟨rfl, rfl⟩
    replace hf := jif_f c20_0 hf
    by_cases c20_1 : a2 = 1
    · replace hf := jif_t c20_1 hf
      refine J_tableIn (off := 47) (tgt := 67) E (jd dk_X7_judge_0 12 rfl) (by rw [c20_1]; decide) (by rw [c20_1]; decide) (by rw [c20_1]; decide) (by decide) ?_
      refine J_aload_n E (jd dk_X7_judge_0 18 rfl) rfl 0 rfl ?_
      obtain ⟨x12, e13, hf⟩ := jbind hf
      refine J_getr E (jd dk_X7_judge_0 19 rfl) fl_RX7_84 e13 ?_
      refine J_iload_n E (jd dk_X7_judge_0 20 rfl) rfl 1 rfl ?_
      obtain ⟨x14, e15, hf⟩ := jbind hf
      refine J_iald E (jd dk_X7_judge_0 21 rfl) e15 ?_
      cases hf
      exact J_iret E hr rfl (jd dk_X7_judge_0 22 rfl) (Nat.le_refl _) (Nat.le_refl _) ⟨rfl, rfl⟩
    replace hf := jif_f c20_1 hf
    by_cases c20_2 : a2 = 2
    · replace hf := jif_t c20_2 hf
      refine J_tableIn (off := 54) (tgt := 74) E (jd dk_X7_judge_0 12 rfl) (by rw [c20_2]; decide) (by rw [c20_2]; decide) (by rw [c20_2]; decide) (by decide) ?_
      refine J_aload_n E (jd dk_X7_judge_0 23 rfl) rfl 0 rfl ?_
      obtain ⟨x16, e17, hf⟩ := jbind hf
      refine J_getr E (jd dk_X7_judge_0 24 rfl) fl_RX7_87 e17 ?_
      refine J_iload_n E (jd dk_X7_judge_0 25 rfl) rfl 1 rfl ?_
      obtain ⟨x18, e19, hf⟩ := jbind hf
      refine J_iald E (jd dk_X7_judge_0 26 rfl) e19 ?_
      cases hf
      exact J_iret E hr rfl (jd dk_X7_judge_0 27 rfl) (Nat.le_refl _) (Nat.le_refl _) ⟨rfl, rfl⟩
    replace hf := jif_f c20_2 hf
    by_cases c20_3 : a2 = 3
    · replace hf := jif_t c20_3 hf
      refine J_tableIn (off := 61) (tgt := 81) E (jd dk_X7_judge_0 12 rfl) (by rw [c20_3]; decide) (by rw [c20_3]; decide) (by rw [c20_3]; decide) (by decide) ?_
      refine J_aload_n E (jd dk_X7_judge_0 28 rfl) rfl 0 rfl ?_
      obtain ⟨x20, e21, hf⟩ := jbind hf
      refine J_getr E (jd dk_X7_judge_0 29 rfl) fl_RX7_72 e21 ?_
      refine J_iload_n E (jd dk_X7_judge_0 30 rfl) rfl 1 rfl ?_
      obtain ⟨x22, e23, hf⟩ := jbind hf
      refine J_iald E (jd dk_X7_judge_0 31 rfl) e23 ?_
      cases hf
      exact J_iret E hr rfl (jd dk_X7_judge_0 32 rfl) (Nat.le_refl _) (Nat.le_refl _) ⟨rfl, rfl⟩
    replace hf := jif_f c20_3 hf
    by_cases c20_4 : a2 = 4
    · replace hf := jif_t c20_4 hf
      refine J_tableIn (off := 68) (tgt := 88) E (jd dk_X7_judge_0 12 rfl) (by rw [c20_4]; decide) (by rw [c20_4]; decide) (by rw [c20_4]; decide) (by decide) ?_
      refine J_aload_n E (jd dk_X7_judge_0 33 rfl) rfl 0 rfl ?_
      obtain ⟨x24, e25, hf⟩ := jbind hf
      refine J_getr E (jd dk_X7_judge_0 34 rfl) fl_RX7_60 e25 ?_
      refine J_iload_n E (jd dk_X7_judge_0 35 rfl) rfl 1 rfl ?_
      obtain ⟨x26, e27, hf⟩ := jbind hf
      refine J_iald E (jd dk_X7_judge_0 36 rfl) e27 ?_
      cases hf
      exact J_iret E hr rfl (jd dk_X7_judge_0 37 rfl) (Nat.le_refl _) (Nat.le_refl _) ⟨rfl, rfl⟩
    replace hf := jif_f c20_4 hf
    by_cases c20_5 : a2 = 5
    · replace hf := jif_t c20_5 hf
      refine J_tableIn (off := 75) (tgt := 95) E (jd dk_X7_judge_0 12 rfl) (by rw [c20_5]; decide) (by rw [c20_5]; decide) (by rw [c20_5]; decide) (by decide) ?_
      refine J_aload_n E (jd dk_X7_judge_0 38 rfl) rfl 0 rfl ?_
      obtain ⟨x28, e29, hf⟩ := jbind hf
      refine J_getr E (jd dk_X7_judge_0 39 rfl) fl_RX7_52 e29 ?_
      refine J_iload_n E (jd dk_X7_judge_0 40 rfl) rfl 1 rfl ?_
      obtain ⟨x30, e31, hf⟩ := jbind hf
      refine J_iald E (jd dk_X7_judge_0 41 rfl) e31 ?_
      cases hf
      exact J_iret E hr rfl (jd dk_X7_judge_0 42 rfl) (Nat.le_refl _) (Nat.le_refl _) ⟨rfl, rfl⟩
    replace hf := jif_f c20_5 hf
    refine J_tableOut (tgt := 102) E (jd dk_X7_judge_0 12 rfl) (jsw (v := 5) (jsw (v := 4) (jsw (v := 3) (jsw (v := 2) (jsw (v := 1) (jsw (v := 0) (jsw0 (x := a2) (0)) (by decide) c20_0) (by decide) c20_1) (by decide) c20_2) (by decide) c20_3) (by decide) c20_4) (by decide) c20_5) (by decide) ?_
    refine J_aload_n E (jd dk_X7_judge_0 43 rfl) rfl 0 rfl ?_
    refine J_iconst (v := 1) E (jd dk_X7_judge_0 44 rfl) rfl ?_
    obtain ⟨u34, e35, hf⟩ := jbind hf
    obtain ⟨r32, e33, hf⟩ := jbind hf
    refine J_callV E (jd dk_X7_judge_0 45 rfl) ml_RX7_293 cal_X7_fail e35 rfl (lk_X7_fail (jE_g E) (jE_tr E) N e33) rfl (Nat.le_of_ble_eq_true rfl) (jR_le hX (by decide) (by decide)) (jF0 hX) rfl ?_
    rintro _ _ ⟨rfl, rfl⟩
    cases hf
    exact J_iret E hr rfl (jd dk_X7_judge_0 46 rfl) (Nat.le_refl _) (Nat.le_refl _) ⟨rfl, rfl⟩
  · replace hf := jif_t c7 hf
    refine J_aload_n E (jd dk_X7_judge_0 7 rfl) rfl 0 rfl ?_
    refine J_iconst (v := 1) E (jd dk_X7_judge_0 8 rfl) rfl ?_
    obtain ⟨u38, e39, hf⟩ := jbind hf
    obtain ⟨r36, e37, hf⟩ := jbind hf
    refine J_callV E (jd dk_X7_judge_0 9 rfl) ml_RX7_293 cal_X7_fail e39 rfl (lk_X7_fail (jE_g E) (jE_tr E) N e37) rfl (Nat.le_of_ble_eq_true rfl) (jR_le hX (by decide) (by decide)) (jF0 hX) rfl ?_
    rintro _ _ ⟨rfl, rfl⟩
    cases hf
    exact J_iret E hr rfl (jd dk_X7_judge_0 10 rfl) (Nat.le_refl _) (Nat.le_refl _) ⟨rfl, rfl⟩
def f_X7_refuse (N : Nat) (h : AH) (a0 : Nat) (a1 : Int32) : Option (Int32 × AH) :=
  (jgr 7 h a0 14).bind fun x1 =>
  (jal 0 h x1 a1).bind fun x3 =>
  (jas 0 h x1 a1 (x3 + 1)).bind fun h5 =>
  some ((-1), h5)
set_option maxRecDepth 100000 in
set_option maxHeartbeats 4000000 in
theorem lk_X7_refuse {G : JG} {l : Launch} (hG : jG G) (htr : l.stackTraces = false) (N : Nat) {h : AH} {a0 : Nat} {a1 : Int32} {r : (Int32 × AH)} (hf : f_X7_refuse N h a0 a1 = some r) : jMet G l yX7_refuse cX7_refuse 2 (some .int) 0 0 0 [.ref a0, .int a1] h (jpi r) := by
  unfold f_X7_refuse at hf
  refine jMet_of hG htr (by decide) (Nat.le_of_ble_eq_true rfl) ?_
  intro X E hl9 hr hX _ _
  show JW G X (RX7, cX7_refuse, 2) h [(0, .ref a0), (1, .int a1)] [] 0 0 0 (jEnd G X (jpi r) 0 0)
  refine J_aload_n E (jd dk_X7_refuse_0 0 rfl) rfl 0 rfl ?_
  obtain ⟨x1, e2, hf⟩ := jbind hf
  refine J_getr E (jd dk_X7_refuse_0 1 rfl) fl_RX7_69 e2 ?_
  refine J_iload_n E (jd dk_X7_refuse_0 2 rfl) rfl 1 rfl ?_
  refine J_dup2 E (jd dk_X7_refuse_0 3 rfl) rfl rfl ?_
  obtain ⟨x3, e4, hf⟩ := jbind hf
  refine J_iald E (jd dk_X7_refuse_0 4 rfl) e4 ?_
  refine J_iconst (v := 1) E (jd dk_X7_refuse_0 5 rfl) rfl ?_
  refine J_iadd E (jd dk_X7_refuse_0 6 rfl) ?_
  obtain ⟨h5, e6, hf⟩ := jbind hf
  refine J_iast E (jd dk_X7_refuse_0 7 rfl) e6 ?_
  refine J_iconst (v := (-1)) E (jd dk_X7_refuse_0 8 rfl) rfl ?_
  cases hf
  exact J_iret E hr rfl (jd dk_X7_refuse_0 9 rfl) (Nat.le_refl _) (Nat.le_refl _) ⟨rfl, rfl⟩
def f_X7_keep_b52 (N : Nat) (v0 : Nat) (h : AH) : Option AH :=
  (jgr 7 h v0 33).bind fun x1 =>
  (jgi 7 h v0 35).bind fun x3 =>
  (jck 7 h v0).bind fun _ =>
  (f_X7_pack N h v0 x1 ((43 : Int32) * x3)).bind fun r5 =>
  (jgi 7 r5 v0 35).bind fun x9 =>
  (jwi 7 r5 v0 35 (x9 + 1)).bind fun h11 =>
  some h11
def f_X7_keep_l12 (N : Nat) (v0 : Nat) (v1 : Int32) (h : AH) : Option ((Int32 × AH) ⊕ ((AH))) :=
  (jgr 7 h v0 33).bind fun x13 =>
  (jln 0 h x13).bind fun x15 =>
  if x15 ≤ v1 then some (.inr h)
  else (jgr 7 h v0 33).bind fun x18 =>
  (jgr 7 h v0 33).bind fun x20 =>
  (jal 0 h x20 v1).bind fun x22 =>
  (jas 0 h x18 (v1 - 43) x22).bind fun h24 =>
  some (.inl ((v1 + 1, h24)))
def f_X7_keep_b12 (N : Nat) (v0 : Nat) (v1 : Int32) (h : AH) : Option AH :=
  (itr (fun s => f_X7_keep_l12 N v0 s.1 s.2) N (v1, h)).bind (fun e => (jgi 7 e v0 35).bind fun x26 =>
  (jwi 7 e v0 35 (x26 - 1)).bind fun h28 =>
  f_X7_keep_b52 N v0 h28)
def f_X7_keep (N : Nat) (h : AH) (a0 : Nat) : Option AH :=
  (jgi 7 h a0 35).bind fun x30 =>
  if x30 = 40 then f_X7_keep_b12 N a0 43 h
  else f_X7_keep_b52 N a0 h
set_option maxRecDepth 100000 in
set_option maxHeartbeats 4000000 in
theorem lk_X7_keep_b52 {G : JG} {X : JX} (E : jE G X (RX7, cX7_keep, 2)) (hX : X.2.2.2.1 = jRm 1 0 0) (hr : X.2.2.2.2.2.2.2.2.1.sig.returnType = none) (N : Nat) {v0 : Nat} {h : AH}  {r : AH} (hf : f_X7_keep_b52 N v0 h = some r) : JW G X (RX7, cX7_keep, 2) h [(0, .ref v0)] [] 52 0 0 (jEnd G X (jpv r) 0 0) := by
  unfold f_X7_keep_b52 at hf
  refine J_aload_n E (jd dk_X7_keep_0 29 rfl) rfl 0 rfl ?_
  refine J_aload_n E (jd dk_X7_keep_0 30 rfl) rfl 0 rfl ?_
  obtain ⟨x1, e2, hf⟩ := jbind hf
  refine J_getr E (jd dk_X7_keep_0 31 rfl) fl_RX7_94 e2 ?_
  refine J_bipush (v := 43) E (jd dk_X7_keep_0 32 rfl) (by decide) ?_
  refine J_aload_n E (jd dk_X7_keep_0 33 rfl) rfl 0 rfl ?_
  obtain ⟨x3, e4, hf⟩ := jbind hf
  refine J_geti E (jd dk_X7_keep_0 34 rfl) fl_RX7_309 e4 ?_
  refine J_imul E (jd dk_X7_keep_0 35 rfl) ?_
  obtain ⟨u7, e8, hf⟩ := jbind hf
  obtain ⟨r5, e6, hf⟩ := jbind hf
  refine J_callV E (jd dk_X7_keep_0 36 rfl) ml_RX7_385 cal_X7_pack e8 rfl (lk_X7_pack (jE_g E) (jE_tr E) N e6) rfl (Nat.le_of_ble_eq_true rfl) (jR_le hX (by decide) (by decide)) (jF0 hX) rfl ?_
  rintro _ _ ⟨rfl, rfl⟩
  refine J_aload_n E (jd dk_X7_keep_0 37 rfl) rfl 0 rfl ?_
  refine J_dup E (jd dk_X7_keep_0 38 rfl) rfl ?_
  obtain ⟨x9, e10, hf⟩ := jbind hf
  refine J_geti E (jd dk_X7_keep_0 39 rfl) fl_RX7_309 e10 ?_
  refine J_iconst (v := 1) E (jd dk_X7_keep_0 40 rfl) rfl ?_
  refine J_iadd E (jd dk_X7_keep_0 41 rfl) ?_
  obtain ⟨h11, e12, hf⟩ := jbind hf
  refine J_put E (jd dk_X7_keep_0 42 rfl) fl_RX7_309 e12 (fun _ => rfl) (fun _ => rfl) ?_
  cases hf
  exact J_vret E hr (jd dk_X7_keep_0 43 rfl) (Nat.le_refl _) (Nat.le_refl _) ⟨rfl, rfl⟩
set_option maxRecDepth 100000 in
set_option maxHeartbeats 4000000 in
theorem lk_X7_keep_l12 {G : JG} {X : JX} (E : jE G X (RX7, cX7_keep, 2)) (hX : X.2.2.2.1 = jRm 1 0 0) (hr : X.2.2.2.2.2.2.2.2.1.sig.returnType = none) (N : Nat) {Q : State → Prop} {v0 : Nat} {v1 : Int32}  {h : AH} {q : ((Int32 × AH) ⊕ ((AH)))} (hf : f_X7_keep_l12 N v0 v1 h = some q) (kb : ∀ s' : Int32 × AH, q = .inl s' → JW G X (RX7, cX7_keep, 2) s'.2 [(0, .ref v0), (1, .int s'.1)] [] 12 0 0 Q) (ke0 : ∀ e : AH, q = .inr e → JW G X (RX7, cX7_keep, 2) e [(0, .ref v0)] [] 42 0 0 Q) : JW G X (RX7, cX7_keep, 2) h [(0, .ref v0), (1, .int v1)] [] 12 0 0 Q := by
  unfold f_X7_keep_l12 at hf
  refine J_iload_n E (jd dk_X7_keep_0 6 rfl) rfl 1 rfl ?_
  refine J_aload_n E (jd dk_X7_keep_0 7 rfl) rfl 0 rfl ?_
  obtain ⟨x13, e14, hf⟩ := jbind hf
  refine J_getr E (jd dk_X7_keep_0 8 rfl) fl_RX7_94 e14 ?_
  obtain ⟨x15, e16, hf⟩ := jbind hf
  refine J_alen E (by decide) (jd dk_X7_keep_0 9 rfl) e16 ?_
  refine J_icmp_ge (tgt := 42) E (jd dk_X7_keep_0 10 rfl) (by decide) (fun c17 => ?_) (fun c17 => ?_)
  · replace hf := jif_t c17 hf
    refine J_sub [0] rfl ?_
    exact ke0 _ (Option.some.inj hf).symm
  · replace hf := jif_f c17 hf
    refine J_aload_n E (jd dk_X7_keep_0 11 rfl) rfl 0 rfl ?_
    obtain ⟨x18, e19, hf⟩ := jbind hf
    refine J_getr E (jd dk_X7_keep_0 12 rfl) fl_RX7_94 e19 ?_
    refine J_iload_n E (jd dk_X7_keep_0 13 rfl) rfl 1 rfl ?_
    refine J_bipush (v := 43) E (jd dk_X7_keep_0 14 rfl) (by decide) ?_
    refine J_isub E (jd dk_X7_keep_0 15 rfl) ?_
    refine J_aload_n E (jd dk_X7_keep_0 16 rfl) rfl 0 rfl ?_
    obtain ⟨x20, e21, hf⟩ := jbind hf
    refine J_getr E (jd dk_X7_keep_0 17 rfl) fl_RX7_94 e21 ?_
    refine J_iload_n E (jd dk_X7_keep_0 18 rfl) rfl 1 rfl ?_
    obtain ⟨x22, e23, hf⟩ := jbind hf
    refine J_iald E (jd dk_X7_keep_0 19 rfl) e23 ?_
    obtain ⟨h24, e25, hf⟩ := jbind hf
    refine J_iast E (jd dk_X7_keep_0 20 rfl) e25 ?_
    refine J_iinc (v := v1 + 1) (lv' := [(1, .int (v1 + 1)), (0, .ref v0)]) E (jd dk_X7_keep_0 21 rfl) 1 rfl rfl (by decide) rfl ?_
    refine J_goto (tgt := 12) E (jd dk_X7_keep_0 22 rfl) (by decide) ?_
    refine J_sub [1, 0] rfl ?_
    exact kb _ (Option.some.inj hf).symm
set_option maxRecDepth 100000 in
set_option maxHeartbeats 4000000 in
theorem lk_X7_keep_b12 {G : JG} {X : JX} (E : jE G X (RX7, cX7_keep, 2)) (hX : X.2.2.2.1 = jRm 1 0 0) (hr : X.2.2.2.2.2.2.2.2.1.sig.returnType = none) (N : Nat) {v0 : Nat} {v1 : Int32} {h : AH}  {r : AH} (hf : f_X7_keep_b12 N v0 v1 h = some r) : JW G X (RX7, cX7_keep, 2) h [(0, .ref v0), (1, .int v1)] [] 12 0 0 (jEnd G X (jpv r) 0 0) := by
  unfold f_X7_keep_b12 at hf
  obtain ⟨q1, h1, hf⟩ := jbind hf
  refine jloop (P := fun s => JW G X (RX7, cX7_keep, 2) s.2 [(0, .ref v0), (1, .int s.1)] [] 12 0 0 (jEnd G X (jpv r) 0 0)) (Ex := fun (e : AH) => JW G X (RX7, cX7_keep, 2) e [(0, .ref v0)] [] 42 0 0 (jEnd G X (jpv r) 0 0)) (fun s q hs hb hx => lk_X7_keep_l12 E hX hr N hs (fun s' hs => hb s' hs) (fun e he => hx e he)) N _ q1 h1 ?_
  generalize q1 = e at hf ⊢
  refine J_aload_n E (jd dk_X7_keep_0 23 rfl) rfl 0 rfl ?_
  refine J_dup E (jd dk_X7_keep_0 24 rfl) rfl ?_
  obtain ⟨x26, e27, hf⟩ := jbind hf
  refine J_geti E (jd dk_X7_keep_0 25 rfl) fl_RX7_309 e27 ?_
  refine J_iconst (v := 1) E (jd dk_X7_keep_0 26 rfl) rfl ?_
  refine J_isub E (jd dk_X7_keep_0 27 rfl) ?_
  obtain ⟨h28, e29, hf⟩ := jbind hf
  refine J_put E (jd dk_X7_keep_0 28 rfl) fl_RX7_309 e29 (fun _ => rfl) (fun _ => rfl) ?_
  exact lk_X7_keep_b52 E hX hr N hf
set_option maxRecDepth 100000 in
set_option maxHeartbeats 4000000 in
theorem lk_X7_keep {G : JG} {l : Launch} (hG : jG G) (htr : l.stackTraces = false) (N : Nat) {h : AH} {a0 : Nat} {r : AH} (hf : f_X7_keep N h a0 = some r) : jMet G l yX7_keep cX7_keep 2 none 1 0 0 [.ref a0] h (jpv r) := by
  unfold f_X7_keep at hf
  refine jMet_of hG htr (by decide) (Nat.le_of_ble_eq_true rfl) ?_
  intro X E hl9 hr hX _ _
  show JW G X (RX7, cX7_keep, 2) h [(0, .ref a0)] [] 0 0 0 (jEnd G X (jpv r) 0 0)
  refine J_aload_n E (jd dk_X7_keep_0 0 rfl) rfl 0 rfl ?_
  obtain ⟨x30, e31, hf⟩ := jbind hf
  refine J_geti E (jd dk_X7_keep_0 1 rfl) fl_RX7_309 e31 ?_
  refine J_bipush (v := 40) E (jd dk_X7_keep_0 2 rfl) (by decide) ?_
  refine J_icmp_ne (tgt := 52) E (jd dk_X7_keep_0 3 rfl) (by decide) (fun c32 => ?_) (fun c32 => ?_)
  · replace hf := jif_f c32 hf
    exact lk_X7_keep_b52 E hX hr N hf
  · replace hf := jif_t c32 hf
    refine J_bipush (v := 43) E (jd dk_X7_keep_0 4 rfl) (by decide) ?_
    refine J_istore_n (lv' := [(1, .int 43), (0, .ref a0)]) E (jd dk_X7_keep_0 5 rfl) rfl (by decide) rfl ?_
    refine J_sub [1, 0] rfl ?_
    exact lk_X7_keep_b12 E hX hr N hf
def f_X7_steps_b29 (N : Nat) (v0 : Nat) (h : AH) : Option (Int32 × AH) :=
  (jck 7 h v0).bind fun _ =>
  (f_X7_refuse N h v0 1).bind fun r1 =>
  some (r1.1, r1.2)
def f_X7_steps (N : Nat) (h : AH) (a0 : Nat) (a1 : Int32) : Option (Int32 × AH) :=
  (jwi 7 h a0 4 0).bind fun h5 =>
  (f_X7_isIn N h5 (Int32.toInt64 a1) 1 20).bind fun r7 =>
  if r7.1 = 0 then f_X7_steps_b29 N a0 r7.2
  else (jgi 7 r7.2 a0 34).bind fun x10 =>
  if (x10 + a1) ≤ 999 then (jck 7 r7.2 a0).bind fun _ =>
  (f_X7_keep N r7.2 a0).bind fun r13 =>
  (jck 7 r13 a0).bind fun _ =>
  (f_X7_goOn N r13 a0 a1).bind fun r17 =>
  (jgi 7 r17 a0 34).bind fun x21 =>
  some (x21, r17)
  else f_X7_steps_b29 N a0 r7.2
set_option maxRecDepth 100000 in
set_option maxHeartbeats 4000000 in
theorem lk_X7_steps_b29 {G : JG} {X : JX} (E : jE G X (RX7, cX7_steps, 2)) (hX : X.2.2.2.1 = jRm 6 0 0) (hr : X.2.2.2.2.2.2.2.2.1.sig.returnType = (some .int)) (N : Nat) {v0 : Nat} {h : AH}  {r : (Int32 × AH)} (hf : f_X7_steps_b29 N v0 h = some r) : JW G X (RX7, cX7_steps, 2) h [(0, .ref v0)] [] 29 0 0 (jEnd G X (jpi r) 0 0) := by
  unfold f_X7_steps_b29 at hf
  refine J_aload_n E (jd dk_X7_steps_0 15 rfl) rfl 0 rfl ?_
  refine J_iconst (v := 1) E (jd dk_X7_steps_0 16 rfl) rfl ?_
  obtain ⟨u3, e4, hf⟩ := jbind hf
  obtain ⟨r1, e2, hf⟩ := jbind hf
  refine J_callV E (jd dk_X7_steps_0 17 rfl) ml_RX7_391 cal_X7_refuse e4 rfl (lk_X7_refuse (jE_g E) (jE_tr E) N e2) rfl (Nat.le_of_ble_eq_true rfl) (jR_le hX (by decide) (by decide)) (jF0 hX) rfl ?_
  rintro _ _ ⟨rfl, rfl⟩
  cases hf
  exact J_iret E hr rfl (jd dk_X7_steps_0 18 rfl) (Nat.le_refl _) (Nat.le_refl _) ⟨rfl, rfl⟩
set_option maxRecDepth 100000 in
set_option maxHeartbeats 4000000 in
theorem lk_X7_steps {G : JG} {l : Launch} (hG : jG G) (htr : l.stackTraces = false) (N : Nat) {h : AH} {a0 : Nat} {a1 : Int32} {r : (Int32 × AH)} (hf : f_X7_steps N h a0 a1 = some r) : jMet G l yX7_steps cX7_steps 2 (some .int) 6 0 0 [.ref a0, .int a1] h (jpi r) := by
  unfold f_X7_steps at hf
  refine jMet_of hG htr (by decide) (Nat.le_of_ble_eq_true rfl) ?_
  intro X E hl9 hr hX _ _
  show JW G X (RX7, cX7_steps, 2) h [(0, .ref a0), (1, .int a1)] [] 0 0 0 (jEnd G X (jpi r) 0 0)
  refine J_aload_n E (jd dk_X7_steps_0 0 rfl) rfl 0 rfl ?_
  refine J_iconst (v := 0) E (jd dk_X7_steps_0 1 rfl) rfl ?_
  obtain ⟨h5, e6, hf⟩ := jbind hf
  refine J_put E (jd dk_X7_steps_0 2 rfl) fl_RX7_151 e6 (fun _ => rfl) (fun _ => rfl) ?_
  refine J_iload_n E (jd dk_X7_steps_0 3 rfl) rfl 1 rfl ?_
  refine J_i2l E (jd dk_X7_steps_0 4 rfl) ?_
  refine J_lconst (v := 1) E (jd dk_X7_steps_0 5 rfl) (by decide) ?_
  refine J_ldc2 (v := 20) E (jd dk_X7_steps_0 6 rfl) (jl30_in _ (List.mem_of_getElem? (i := 25) rfl)) ?_
  obtain ⟨r7, e8, hf⟩ := jbind hf
  refine J_callS E (jd dk_X7_steps_0 7 rfl) ml_RX7_154 cal_X7_isIn (lk_X7_isIn (jE_g E) (jE_tr E) N e8) rfl (Nat.le_of_ble_eq_true rfl) (jR_le hX (by decide) (by decide)) (jF0 hX) rfl ?_
  rintro _ _ ⟨rfl, rfl⟩
  refine J_if_eq (tgt := 29) E (jd dk_X7_steps_0 8 rfl) (by decide) (fun c9 => ?_) (fun c9 => ?_)
  · replace hf := jif_t c9 hf
    refine J_sub [0] rfl ?_
    exact lk_X7_steps_b29 E hX hr N hf
  · replace hf := jif_f c9 hf
    refine J_aload_n E (jd dk_X7_steps_0 9 rfl) rfl 0 rfl ?_
    obtain ⟨x10, e11, hf⟩ := jbind hf
    refine J_geti E (jd dk_X7_steps_0 10 rfl) fl_RX7_306 e11 ?_
    refine J_iload_n E (jd dk_X7_steps_0 11 rfl) rfl 1 rfl ?_
    refine J_iadd E (jd dk_X7_steps_0 12 rfl) ?_
    refine J_sipush (v := 999) E (jd dk_X7_steps_0 13 rfl) (by decide) ?_
    refine J_icmp_le (tgt := 35) E (jd dk_X7_steps_0 14 rfl) (by decide) (fun c12 => ?_) (fun c12 => ?_)
    · replace hf := jif_t c12 hf
      refine J_aload_n E (jd dk_X7_steps_0 19 rfl) rfl 0 rfl ?_
      obtain ⟨u15, e16, hf⟩ := jbind hf
      obtain ⟨r13, e14, hf⟩ := jbind hf
      refine J_callV E (jd dk_X7_steps_0 20 rfl) ml_RX7_394 cal_X7_keep e16 rfl (lk_X7_keep (jE_g E) (jE_tr E) N e14) rfl (Nat.le_of_ble_eq_true rfl) (jR_le hX (by decide) (by decide)) (jF0 hX) rfl ?_
      rintro _ _ ⟨rfl, rfl⟩
      refine J_aload_n E (jd dk_X7_steps_0 21 rfl) rfl 0 rfl ?_
      refine J_iload_n E (jd dk_X7_steps_0 22 rfl) rfl 1 rfl ?_
      obtain ⟨u19, e20, hf⟩ := jbind hf
      obtain ⟨r17, e18, hf⟩ := jbind hf
      refine J_callV E (jd dk_X7_steps_0 23 rfl) ml_RX7_397 cal_X7_goOn e20 rfl (lk_X7_goOn (jE_g E) (jE_tr E) N e18) rfl (Nat.le_of_ble_eq_true rfl) (jR_le hX (by decide) (by decide)) (jF0 hX) rfl ?_
      rintro _ _ ⟨rfl, rfl⟩
      refine J_aload_n E (jd dk_X7_steps_0 24 rfl) rfl 0 rfl ?_
      obtain ⟨x21, e22, hf⟩ := jbind hf
      refine J_geti E (jd dk_X7_steps_0 25 rfl) fl_RX7_306 e22 ?_
      cases hf
      exact J_iret E hr rfl (jd dk_X7_steps_0 26 rfl) (Nat.le_refl _) (Nat.le_refl _) ⟨rfl, rfl⟩
    · replace hf := jif_f c12 hf
      refine J_sub [0] rfl ?_
      exact lk_X7_steps_b29 E hX hr N hf
def f_X7_call (N : Nat) (h : AH) (a0 : Nat) (a1 : Int32) : Option (Int32 × AH) :=
  (jwi 7 h a0 4 0).bind fun h1 =>
  (jck 7 h1 a0).bind fun _ =>
  (f_X7_isJudge N h1 a0 a1).bind fun r3 =>
  if r3.1 = 0 then (jck 7 r3.2 a0).bind fun _ =>
  (f_X7_fail N r3.2 a0 1).bind fun r29 =>
  some (r29.1, r29.2)
  else (jgr 7 r3.2 a0 28).bind fun x8 =>
  (jal 0 r3.2 x8 a1).bind fun x10 =>
  if 0 ≤ x10 then (jck 7 r3.2 a0).bind fun _ =>
  (f_X7_keep N r3.2 a0).bind fun r13 =>
  (jck 7 r13 a0).bind fun _ =>
  (f_X7_goBy N r13 a0 a1 1).bind fun r17 =>
  (jgr 7 r17 a0 28).bind fun x21 =>
  (jal 0 r17 x21 a1).bind fun x23 =>
  some (x23, r17)
  else (jck 7 r3.2 a0).bind fun _ =>
  (f_X7_refuse N r3.2 a0 1).bind fun r25 =>
  some (r25.1, r25.2)
set_option maxRecDepth 100000 in
set_option maxHeartbeats 4000000 in
theorem lk_X7_call {G : JG} {l : Launch} (hG : jG G) (htr : l.stackTraces = false) (N : Nat) {h : AH} {a0 : Nat} {a1 : Int32} {r : (Int32 × AH)} (hf : f_X7_call N h a0 a1 = some r) : jMet G l yX7_call cX7_call 2 (some .int) 2 0 0 [.ref a0, .int a1] h (jpi r) := by
  unfold f_X7_call at hf
  refine jMet_of hG htr (by decide) (Nat.le_of_ble_eq_true rfl) ?_
  intro X E hl9 hr hX _ _
  show JW G X (RX7, cX7_call, 2) h [(0, .ref a0), (1, .int a1)] [] 0 0 0 (jEnd G X (jpi r) 0 0)
  refine J_aload_n E (jd dk_X7_call_0 0 rfl) rfl 0 rfl ?_
  refine J_iconst (v := 0) E (jd dk_X7_call_0 1 rfl) rfl ?_
  obtain ⟨h1, e2, hf⟩ := jbind hf
  refine J_put E (jd dk_X7_call_0 2 rfl) fl_RX7_151 e2 (fun _ => rfl) (fun _ => rfl) ?_
  refine J_aload_n E (jd dk_X7_call_0 3 rfl) rfl 0 rfl ?_
  refine J_iload_n E (jd dk_X7_call_0 4 rfl) rfl 1 rfl ?_
  obtain ⟨u5, e6, hf⟩ := jbind hf
  obtain ⟨r3, e4, hf⟩ := jbind hf
  refine J_callV E (jd dk_X7_call_0 5 rfl) ml_RX7_382 cal_X7_isJudge e6 rfl (lk_X7_isJudge (jE_g E) (jE_tr E) N e4) rfl (Nat.le_of_ble_eq_true rfl) (jR_le hX (by decide) (by decide)) (jF0 hX) rfl ?_
  rintro _ _ ⟨rfl, rfl⟩
  refine J_if_ne (tgt := 19) E (jd dk_X7_call_0 6 rfl) (by decide) (fun c7 => ?_) (fun c7 => ?_)
  · replace hf := jif_f c7 hf
    refine J_aload_n E (jd dk_X7_call_0 11 rfl) rfl 0 rfl ?_
    obtain ⟨x8, e9, hf⟩ := jbind hf
    refine J_getr E (jd dk_X7_call_0 12 rfl) fl_RX7_81 e9 ?_
    refine J_iload_n E (jd dk_X7_call_0 13 rfl) rfl 1 rfl ?_
    obtain ⟨x10, e11, hf⟩ := jbind hf
    refine J_iald E (jd dk_X7_call_0 14 rfl) e11 ?_
    refine J_if_ge (tgt := 34) E (jd dk_X7_call_0 15 rfl) (by decide) (fun c12 => ?_) (fun c12 => ?_)
    · replace hf := jif_t c12 hf
      refine J_aload_n E (jd dk_X7_call_0 20 rfl) rfl 0 rfl ?_
      obtain ⟨u15, e16, hf⟩ := jbind hf
      obtain ⟨r13, e14, hf⟩ := jbind hf
      refine J_callV E (jd dk_X7_call_0 21 rfl) ml_RX7_394 cal_X7_keep e16 rfl (lk_X7_keep (jE_g E) (jE_tr E) N e14) rfl (Nat.le_of_ble_eq_true rfl) (jR_le hX (by decide) (by decide)) (jF0 hX) rfl ?_
      rintro _ _ ⟨rfl, rfl⟩
      refine J_aload_n E (jd dk_X7_call_0 22 rfl) rfl 0 rfl ?_
      refine J_iload_n E (jd dk_X7_call_0 23 rfl) rfl 1 rfl ?_
      refine J_iconst (v := 1) E (jd dk_X7_call_0 24 rfl) rfl ?_
      obtain ⟨u19, e20, hf⟩ := jbind hf
      obtain ⟨r17, e18, hf⟩ := jbind hf
      refine J_callV E (jd dk_X7_call_0 25 rfl) ml_RX7_347 cal_X7_goBy e20 rfl (lk_X7_goBy (jE_g E) (jE_tr E) N e18) rfl (Nat.le_of_ble_eq_true rfl) (jR_le hX (by decide) (by decide)) (jF0 hX) rfl ?_
      rintro _ _ ⟨rfl, rfl⟩
      refine J_aload_n E (jd dk_X7_call_0 26 rfl) rfl 0 rfl ?_
      obtain ⟨x21, e22, hf⟩ := jbind hf
      refine J_getr E (jd dk_X7_call_0 27 rfl) fl_RX7_81 e22 ?_
      refine J_iload_n E (jd dk_X7_call_0 28 rfl) rfl 1 rfl ?_
      obtain ⟨x23, e24, hf⟩ := jbind hf
      refine J_iald E (jd dk_X7_call_0 29 rfl) e24 ?_
      cases hf
      exact J_iret E hr rfl (jd dk_X7_call_0 30 rfl) (Nat.le_refl _) (Nat.le_refl _) ⟨rfl, rfl⟩
    · replace hf := jif_f c12 hf
      refine J_aload_n E (jd dk_X7_call_0 16 rfl) rfl 0 rfl ?_
      refine J_iconst (v := 1) E (jd dk_X7_call_0 17 rfl) rfl ?_
      obtain ⟨u27, e28, hf⟩ := jbind hf
      obtain ⟨r25, e26, hf⟩ := jbind hf
      refine J_callV E (jd dk_X7_call_0 18 rfl) ml_RX7_391 cal_X7_refuse e28 rfl (lk_X7_refuse (jE_g E) (jE_tr E) N e26) rfl (Nat.le_of_ble_eq_true rfl) (jR_le hX (by decide) (by decide)) (jF0 hX) rfl ?_
      rintro _ _ ⟨rfl, rfl⟩
      cases hf
      exact J_iret E hr rfl (jd dk_X7_call_0 19 rfl) (Nat.le_refl _) (Nat.le_refl _) ⟨rfl, rfl⟩
  · replace hf := jif_t c7 hf
    refine J_aload_n E (jd dk_X7_call_0 7 rfl) rfl 0 rfl ?_
    refine J_iconst (v := 1) E (jd dk_X7_call_0 8 rfl) rfl ?_
    obtain ⟨u31, e32, hf⟩ := jbind hf
    obtain ⟨r29, e30, hf⟩ := jbind hf
    refine J_callV E (jd dk_X7_call_0 9 rfl) ml_RX7_293 cal_X7_fail e32 rfl (lk_X7_fail (jE_g E) (jE_tr E) N e30) rfl (Nat.le_of_ble_eq_true rfl) (jR_le hX (by decide) (by decide)) (jF0 hX) rfl ?_
    rintro _ _ ⟨rfl, rfl⟩
    cases hf
    exact J_iret E hr rfl (jd dk_X7_call_0 10 rfl) (Nat.le_refl _) (Nat.le_refl _) ⟨rfl, rfl⟩
def f_X7_paddle_b21 (N : Nat) (v0 : Nat) (h : AH) : Option (Int32 × AH) :=
  (jck 7 h v0).bind fun _ =>
  (f_X7_fail N h v0 1).bind fun r1 =>
  some (r1.1, r1.2)
def f_X7_paddle_b50 (N : Nat) (v0 : Nat) (h : AH) : Option (Int32 × AH) :=
  (jck 7 h v0).bind fun _ =>
  (f_X7_refuse N h v0 1).bind fun r5 =>
  some (r5.1, r5.2)
def f_X7_paddle (N : Nat) (h : AH) (a0 : Nat) (a1 : Int32) (a2 : Int32) : Option (Int32 × AH) :=
  (jwi 7 h a0 4 0).bind fun h9 =>
  (jck 7 h9 a0).bind fun _ =>
  (f_X7_isJudge N h9 a0 a1).bind fun r11 =>
  if r11.1 = 0 then f_X7_paddle_b21 N a0 r11.2
  else (jck 7 r11.2 a0).bind fun _ =>
  (f_X7_isSide N r11.2 a0 a2).bind fun r16 =>
  if r16.1 = 0 then f_X7_paddle_b21 N a0 r16.2
  else (jgr 7 r16.2 a0 29).bind fun x21 =>
  (jal 0 r16.2 x21 a1).bind fun x23 =>
  (jgr 7 r16.2 a0 28).bind fun x25 =>
  (jal 0 r16.2 x25 a1).bind fun x27 =>
  if x27 = ((-2)) then f_X7_paddle_b50 N a0 r16.2
  else if x23 = a2 then f_X7_paddle_b50 N a0 r16.2
  else (jck 7 r16.2 a0).bind fun _ =>
  (f_X7_keep N r16.2 a0).bind fun r31 =>
  (jgr 7 r31 a0 29).bind fun x35 =>
  (jas 0 r31 x35 a1 a2).bind fun h37 =>
  some (x23, h37)
set_option maxRecDepth 100000 in
set_option maxHeartbeats 4000000 in
theorem lk_X7_paddle_b21 {G : JG} {X : JX} (E : jE G X (RX7, cX7_paddle, 4)) (hX : X.2.2.2.1 = jRm 2 0 0) (hr : X.2.2.2.2.2.2.2.2.1.sig.returnType = (some .int)) (N : Nat) {v0 : Nat} {h : AH}  {r : (Int32 × AH)} (hf : f_X7_paddle_b21 N v0 h = some r) : JW G X (RX7, cX7_paddle, 4) h [(0, .ref v0)] [] 21 0 0 (jEnd G X (jpi r) 0 0) := by
  unfold f_X7_paddle_b21 at hf
  refine J_aload_n E (jd dk_X7_paddle_0 11 rfl) rfl 0 rfl ?_
  refine J_iconst (v := 1) E (jd dk_X7_paddle_0 12 rfl) rfl ?_
  obtain ⟨u3, e4, hf⟩ := jbind hf
  obtain ⟨r1, e2, hf⟩ := jbind hf
  refine J_callV E (jd dk_X7_paddle_0 13 rfl) ml_RX7_293 cal_X7_fail e4 rfl (lk_X7_fail (jE_g E) (jE_tr E) N e2) rfl (Nat.le_of_ble_eq_true rfl) (jR_le hX (by decide) (by decide)) (jF0 hX) rfl ?_
  rintro _ _ ⟨rfl, rfl⟩
  cases hf
  exact J_iret E hr rfl (jd dk_X7_paddle_0 14 rfl) (Nat.le_refl _) (Nat.le_refl _) ⟨rfl, rfl⟩
set_option maxRecDepth 100000 in
set_option maxHeartbeats 4000000 in
theorem lk_X7_paddle_b50 {G : JG} {X : JX} (E : jE G X (RX7, cX7_paddle, 4)) (hX : X.2.2.2.1 = jRm 2 0 0) (hr : X.2.2.2.2.2.2.2.2.1.sig.returnType = (some .int)) (N : Nat) {v0 : Nat} {h : AH}  {r : (Int32 × AH)} (hf : f_X7_paddle_b50 N v0 h = some r) : JW G X (RX7, cX7_paddle, 4) h [(0, .ref v0)] [] 50 0 0 (jEnd G X (jpi r) 0 0) := by
  unfold f_X7_paddle_b50 at hf
  refine J_aload_n E (jd dk_X7_paddle_0 29 rfl) rfl 0 rfl ?_
  refine J_iconst (v := 1) E (jd dk_X7_paddle_0 30 rfl) rfl ?_
  obtain ⟨u7, e8, hf⟩ := jbind hf
  obtain ⟨r5, e6, hf⟩ := jbind hf
  refine J_callV E (jd dk_X7_paddle_0 31 rfl) ml_RX7_391 cal_X7_refuse e8 rfl (lk_X7_refuse (jE_g E) (jE_tr E) N e6) rfl (Nat.le_of_ble_eq_true rfl) (jR_le hX (by decide) (by decide)) (jF0 hX) rfl ?_
  rintro _ _ ⟨rfl, rfl⟩
  cases hf
  exact J_iret E hr rfl (jd dk_X7_paddle_0 32 rfl) (Nat.le_refl _) (Nat.le_refl _) ⟨rfl, rfl⟩
set_option maxRecDepth 100000 in
set_option maxHeartbeats 4000000 in
theorem lk_X7_paddle {G : JG} {l : Launch} (hG : jG G) (htr : l.stackTraces = false) (N : Nat) {h : AH} {a0 : Nat} {a1 : Int32} {a2 : Int32} {r : (Int32 × AH)} (hf : f_X7_paddle N h a0 a1 a2 = some r) : jMet G l yX7_paddle cX7_paddle 4 (some .int) 2 0 0 [.ref a0, .int a1, .int a2] h (jpi r) := by
  unfold f_X7_paddle at hf
  refine jMet_of hG htr (by decide) (Nat.le_of_ble_eq_true rfl) ?_
  intro X E hl9 hr hX _ _
  show JW G X (RX7, cX7_paddle, 4) h [(0, .ref a0), (1, .int a1), (2, .int a2)] [] 0 0 0 (jEnd G X (jpi r) 0 0)
  refine J_aload_n E (jd dk_X7_paddle_0 0 rfl) rfl 0 rfl ?_
  refine J_iconst (v := 0) E (jd dk_X7_paddle_0 1 rfl) rfl ?_
  obtain ⟨h9, e10, hf⟩ := jbind hf
  refine J_put E (jd dk_X7_paddle_0 2 rfl) fl_RX7_151 e10 (fun _ => rfl) (fun _ => rfl) ?_
  refine J_aload_n E (jd dk_X7_paddle_0 3 rfl) rfl 0 rfl ?_
  refine J_iload_n E (jd dk_X7_paddle_0 4 rfl) rfl 1 rfl ?_
  obtain ⟨u13, e14, hf⟩ := jbind hf
  obtain ⟨r11, e12, hf⟩ := jbind hf
  refine J_callV E (jd dk_X7_paddle_0 5 rfl) ml_RX7_382 cal_X7_isJudge e14 rfl (lk_X7_isJudge (jE_g E) (jE_tr E) N e12) rfl (Nat.le_of_ble_eq_true rfl) (jR_le hX (by decide) (by decide)) (jF0 hX) rfl ?_
  rintro _ _ ⟨rfl, rfl⟩
  refine J_if_eq (tgt := 21) E (jd dk_X7_paddle_0 6 rfl) (by decide) (fun c15 => ?_) (fun c15 => ?_)
  · replace hf := jif_t c15 hf
    refine J_sub [0] rfl ?_
    exact lk_X7_paddle_b21 E hX hr N hf
  · replace hf := jif_f c15 hf
    refine J_aload_n E (jd dk_X7_paddle_0 7 rfl) rfl 0 rfl ?_
    refine J_iload_n E (jd dk_X7_paddle_0 8 rfl) rfl 2 rfl ?_
    obtain ⟨u18, e19, hf⟩ := jbind hf
    obtain ⟨r16, e17, hf⟩ := jbind hf
    refine J_callV E (jd dk_X7_paddle_0 9 rfl) ml_RX7_400 cal_X7_isSide e19 rfl (lk_X7_isSide (jE_g E) (jE_tr E) N e17) rfl (Nat.le_of_ble_eq_true rfl) (jR_le hX (by decide) (by decide)) (jF0 hX) rfl ?_
    rintro _ _ ⟨rfl, rfl⟩
    refine J_if_ne (tgt := 27) E (jd dk_X7_paddle_0 10 rfl) (by decide) (fun c20 => ?_) (fun c20 => ?_)
    · replace hf := jif_f c20 hf
      refine J_aload_n E (jd dk_X7_paddle_0 15 rfl) rfl 0 rfl ?_
      obtain ⟨x21, e22, hf⟩ := jbind hf
      refine J_getr E (jd dk_X7_paddle_0 16 rfl) fl_RX7_84 e22 ?_
      refine J_iload_n E (jd dk_X7_paddle_0 17 rfl) rfl 1 rfl ?_
      obtain ⟨x23, e24, hf⟩ := jbind hf
      refine J_iald E (jd dk_X7_paddle_0 18 rfl) e24 ?_
      refine J_istore_n (lv' := [(3, .int x23), (0, .ref a0), (1, .int a1), (2, .int a2)]) E (jd dk_X7_paddle_0 19 rfl) rfl (by decide) rfl ?_
      refine J_aload_n E (jd dk_X7_paddle_0 20 rfl) rfl 1 rfl ?_
      obtain ⟨x25, e26, hf⟩ := jbind hf
      refine J_getr E (jd dk_X7_paddle_0 21 rfl) fl_RX7_81 e26 ?_
      refine J_iload_n E (jd dk_X7_paddle_0 22 rfl) rfl 2 rfl ?_
      obtain ⟨x27, e28, hf⟩ := jbind hf
      refine J_iald E (jd dk_X7_paddle_0 23 rfl) e28 ?_
      refine J_bipush (v := (-2)) E (jd dk_X7_paddle_0 24 rfl) (by decide) ?_
      refine J_icmp_eq (tgt := 50) E (jd dk_X7_paddle_0 25 rfl) (by decide) (fun c29 => ?_) (fun c29 => ?_)
      · replace hf := jif_t c29 hf
        refine J_sub [1] rfl ?_
        exact lk_X7_paddle_b50 E hX hr N hf
      · replace hf := jif_f c29 hf
        refine J_iload_n E (jd dk_X7_paddle_0 26 rfl) rfl 0 rfl ?_
        refine J_iload_n E (jd dk_X7_paddle_0 27 rfl) rfl 3 rfl ?_
        refine J_icmp_ne (tgt := 56) E (jd dk_X7_paddle_0 28 rfl) (by decide) (fun c30 => ?_) (fun c30 => ?_)
        · replace hf := jif_f c30 hf
          refine J_aload_n E (jd dk_X7_paddle_0 33 rfl) rfl 1 rfl ?_
          obtain ⟨u33, e34, hf⟩ := jbind hf
          obtain ⟨r31, e32, hf⟩ := jbind hf
          refine J_callV E (jd dk_X7_paddle_0 34 rfl) ml_RX7_394 cal_X7_keep e34 rfl (lk_X7_keep (jE_g E) (jE_tr E) N e32) rfl (Nat.le_of_ble_eq_true rfl) (jR_le hX (by decide) (by decide)) (jF0 hX) rfl ?_
          rintro _ _ ⟨rfl, rfl⟩
          refine J_aload_n E (jd dk_X7_paddle_0 35 rfl) rfl 1 rfl ?_
          obtain ⟨x35, e36, hf⟩ := jbind hf
          refine J_getr E (jd dk_X7_paddle_0 36 rfl) fl_RX7_84 e36 ?_
          refine J_iload_n E (jd dk_X7_paddle_0 37 rfl) rfl 2 rfl ?_
          refine J_iload_n E (jd dk_X7_paddle_0 38 rfl) rfl 3 rfl ?_
          obtain ⟨h37, e38, hf⟩ := jbind hf
          refine J_iast E (jd dk_X7_paddle_0 39 rfl) e38 ?_
          refine J_iload_n E (jd dk_X7_paddle_0 40 rfl) rfl 0 rfl ?_
          cases hf
          exact J_iret E hr rfl (jd dk_X7_paddle_0 41 rfl) (Nat.le_refl _) (Nat.le_refl _) ⟨rfl, rfl⟩
        · replace hf := jif_t c30 hf
          refine J_sub [1] rfl ?_
          exact lk_X7_paddle_b50 E hX hr N hf
    · replace hf := jif_t c20 hf
      refine J_sub [0] rfl ?_
      exact lk_X7_paddle_b21 E hX hr N hf
def f_X7_carry_b21 (N : Nat) (v0 : Nat) (h : AH) : Option (Int32 × AH) :=
  (jck 7 h v0).bind fun _ =>
  (f_X7_fail N h v0 1).bind fun r1 =>
  some (r1.1, r1.2)
def f_X7_carry_b44 (N : Nat) (v0 : Nat) (h : AH) : Option (Int32 × AH) :=
  (jck 7 h v0).bind fun _ =>
  (f_X7_refuse N h v0 1).bind fun r5 =>
  some (r5.1, r5.2)
def f_X7_carry (N : Nat) (h : AH) (a0 : Nat) (a1 : Int32) (a2 : Int32) : Option (Int32 × AH) :=
  (jwi 7 h a0 4 0).bind fun h9 =>
  (jck 7 h9 a0).bind fun _ =>
  (f_X7_isJudge N h9 a0 a1).bind fun r11 =>
  if r11.1 = 0 then f_X7_carry_b21 N a0 r11.2
  else (jck 7 r11.2 a0).bind fun _ =>
  (f_X7_isReach N r11.2 a0 a2).bind fun r16 =>
  if r16.1 = 0 then f_X7_carry_b21 N a0 r16.2
  else (jgr 7 r16.2 a0 28).bind fun x21 =>
  (jal 0 r16.2 x21 a1).bind fun x23 =>
  if x23 = ((-1)) then f_X7_carry_b44 N a0 r16.2
  else if x23 = a2 then f_X7_carry_b44 N a0 r16.2
  else (jck 7 r16.2 a0).bind fun _ =>
  (f_X7_keep N r16.2 a0).bind fun r27 =>
  (jgr 7 r27 a0 28).bind fun x31 =>
  (jas 0 r27 x31 a1 a2).bind fun h33 =>
  some (x23, h33)
set_option maxRecDepth 100000 in
set_option maxHeartbeats 4000000 in
theorem lk_X7_carry_b21 {G : JG} {X : JX} (E : jE G X (RX7, cX7_carry, 4)) (hX : X.2.2.2.1 = jRm 2 0 0) (hr : X.2.2.2.2.2.2.2.2.1.sig.returnType = (some .int)) (N : Nat) {v0 : Nat} {h : AH}  {r : (Int32 × AH)} (hf : f_X7_carry_b21 N v0 h = some r) : JW G X (RX7, cX7_carry, 4) h [(0, .ref v0)] [] 21 0 0 (jEnd G X (jpi r) 0 0) := by
  unfold f_X7_carry_b21 at hf
  refine J_aload_n E (jd dk_X7_carry_0 11 rfl) rfl 0 rfl ?_
  refine J_iconst (v := 1) E (jd dk_X7_carry_0 12 rfl) rfl ?_
  obtain ⟨u3, e4, hf⟩ := jbind hf
  obtain ⟨r1, e2, hf⟩ := jbind hf
  refine J_callV E (jd dk_X7_carry_0 13 rfl) ml_RX7_293 cal_X7_fail e4 rfl (lk_X7_fail (jE_g E) (jE_tr E) N e2) rfl (Nat.le_of_ble_eq_true rfl) (jR_le hX (by decide) (by decide)) (jF0 hX) rfl ?_
  rintro _ _ ⟨rfl, rfl⟩
  cases hf
  exact J_iret E hr rfl (jd dk_X7_carry_0 14 rfl) (Nat.le_refl _) (Nat.le_refl _) ⟨rfl, rfl⟩
set_option maxRecDepth 100000 in
set_option maxHeartbeats 4000000 in
theorem lk_X7_carry_b44 {G : JG} {X : JX} (E : jE G X (RX7, cX7_carry, 4)) (hX : X.2.2.2.1 = jRm 2 0 0) (hr : X.2.2.2.2.2.2.2.2.1.sig.returnType = (some .int)) (N : Nat) {v0 : Nat} {h : AH}  {r : (Int32 × AH)} (hf : f_X7_carry_b44 N v0 h = some r) : JW G X (RX7, cX7_carry, 4) h [(0, .ref v0)] [] 44 0 0 (jEnd G X (jpi r) 0 0) := by
  unfold f_X7_carry_b44 at hf
  refine J_aload_n E (jd dk_X7_carry_0 26 rfl) rfl 0 rfl ?_
  refine J_iconst (v := 1) E (jd dk_X7_carry_0 27 rfl) rfl ?_
  obtain ⟨u7, e8, hf⟩ := jbind hf
  obtain ⟨r5, e6, hf⟩ := jbind hf
  refine J_callV E (jd dk_X7_carry_0 28 rfl) ml_RX7_391 cal_X7_refuse e8 rfl (lk_X7_refuse (jE_g E) (jE_tr E) N e6) rfl (Nat.le_of_ble_eq_true rfl) (jR_le hX (by decide) (by decide)) (jF0 hX) rfl ?_
  rintro _ _ ⟨rfl, rfl⟩
  cases hf
  exact J_iret E hr rfl (jd dk_X7_carry_0 29 rfl) (Nat.le_refl _) (Nat.le_refl _) ⟨rfl, rfl⟩
set_option maxRecDepth 100000 in
set_option maxHeartbeats 4000000 in
theorem lk_X7_carry {G : JG} {l : Launch} (hG : jG G) (htr : l.stackTraces = false) (N : Nat) {h : AH} {a0 : Nat} {a1 : Int32} {a2 : Int32} {r : (Int32 × AH)} (hf : f_X7_carry N h a0 a1 a2 = some r) : jMet G l yX7_carry cX7_carry 4 (some .int) 2 0 0 [.ref a0, .int a1, .int a2] h (jpi r) := by
  unfold f_X7_carry at hf
  refine jMet_of hG htr (by decide) (Nat.le_of_ble_eq_true rfl) ?_
  intro X E hl9 hr hX _ _
  show JW G X (RX7, cX7_carry, 4) h [(0, .ref a0), (1, .int a1), (2, .int a2)] [] 0 0 0 (jEnd G X (jpi r) 0 0)
  refine J_aload_n E (jd dk_X7_carry_0 0 rfl) rfl 0 rfl ?_
  refine J_iconst (v := 0) E (jd dk_X7_carry_0 1 rfl) rfl ?_
  obtain ⟨h9, e10, hf⟩ := jbind hf
  refine J_put E (jd dk_X7_carry_0 2 rfl) fl_RX7_151 e10 (fun _ => rfl) (fun _ => rfl) ?_
  refine J_aload_n E (jd dk_X7_carry_0 3 rfl) rfl 0 rfl ?_
  refine J_iload_n E (jd dk_X7_carry_0 4 rfl) rfl 1 rfl ?_
  obtain ⟨u13, e14, hf⟩ := jbind hf
  obtain ⟨r11, e12, hf⟩ := jbind hf
  refine J_callV E (jd dk_X7_carry_0 5 rfl) ml_RX7_382 cal_X7_isJudge e14 rfl (lk_X7_isJudge (jE_g E) (jE_tr E) N e12) rfl (Nat.le_of_ble_eq_true rfl) (jR_le hX (by decide) (by decide)) (jF0 hX) rfl ?_
  rintro _ _ ⟨rfl, rfl⟩
  refine J_if_eq (tgt := 21) E (jd dk_X7_carry_0 6 rfl) (by decide) (fun c15 => ?_) (fun c15 => ?_)
  · replace hf := jif_t c15 hf
    refine J_sub [0] rfl ?_
    exact lk_X7_carry_b21 E hX hr N hf
  · replace hf := jif_f c15 hf
    refine J_aload_n E (jd dk_X7_carry_0 7 rfl) rfl 0 rfl ?_
    refine J_iload_n E (jd dk_X7_carry_0 8 rfl) rfl 2 rfl ?_
    obtain ⟨u18, e19, hf⟩ := jbind hf
    obtain ⟨r16, e17, hf⟩ := jbind hf
    refine J_callV E (jd dk_X7_carry_0 9 rfl) ml_RX7_377 cal_X7_isReach e19 rfl (lk_X7_isReach (jE_g E) (jE_tr E) N e17) rfl (Nat.le_of_ble_eq_true rfl) (jR_le hX (by decide) (by decide)) (jF0 hX) rfl ?_
    rintro _ _ ⟨rfl, rfl⟩
    refine J_if_ne (tgt := 27) E (jd dk_X7_carry_0 10 rfl) (by decide) (fun c20 => ?_) (fun c20 => ?_)
    · replace hf := jif_f c20 hf
      refine J_aload_n E (jd dk_X7_carry_0 15 rfl) rfl 0 rfl ?_
      obtain ⟨x21, e22, hf⟩ := jbind hf
      refine J_getr E (jd dk_X7_carry_0 16 rfl) fl_RX7_81 e22 ?_
      refine J_iload_n E (jd dk_X7_carry_0 17 rfl) rfl 1 rfl ?_
      obtain ⟨x23, e24, hf⟩ := jbind hf
      refine J_iald E (jd dk_X7_carry_0 18 rfl) e24 ?_
      refine J_istore_n (lv' := [(3, .int x23), (0, .ref a0), (1, .int a1), (2, .int a2)]) E (jd dk_X7_carry_0 19 rfl) rfl (by decide) rfl ?_
      refine J_iload_n E (jd dk_X7_carry_0 20 rfl) rfl 0 rfl ?_
      refine J_iconst (v := (-1)) E (jd dk_X7_carry_0 21 rfl) rfl ?_
      refine J_icmp_eq (tgt := 44) E (jd dk_X7_carry_0 22 rfl) (by decide) (fun c25 => ?_) (fun c25 => ?_)
      · replace hf := jif_t c25 hf
        refine J_sub [1] rfl ?_
        exact lk_X7_carry_b44 E hX hr N hf
      · replace hf := jif_f c25 hf
        refine J_iload_n E (jd dk_X7_carry_0 23 rfl) rfl 0 rfl ?_
        refine J_iload_n E (jd dk_X7_carry_0 24 rfl) rfl 3 rfl ?_
        refine J_icmp_ne (tgt := 50) E (jd dk_X7_carry_0 25 rfl) (by decide) (fun c26 => ?_) (fun c26 => ?_)
        · replace hf := jif_f c26 hf
          refine J_aload_n E (jd dk_X7_carry_0 30 rfl) rfl 1 rfl ?_
          obtain ⟨u29, e30, hf⟩ := jbind hf
          obtain ⟨r27, e28, hf⟩ := jbind hf
          refine J_callV E (jd dk_X7_carry_0 31 rfl) ml_RX7_394 cal_X7_keep e30 rfl (lk_X7_keep (jE_g E) (jE_tr E) N e28) rfl (Nat.le_of_ble_eq_true rfl) (jR_le hX (by decide) (by decide)) (jF0 hX) rfl ?_
          rintro _ _ ⟨rfl, rfl⟩
          refine J_aload_n E (jd dk_X7_carry_0 32 rfl) rfl 1 rfl ?_
          obtain ⟨x31, e32, hf⟩ := jbind hf
          refine J_getr E (jd dk_X7_carry_0 33 rfl) fl_RX7_81 e32 ?_
          refine J_iload_n E (jd dk_X7_carry_0 34 rfl) rfl 2 rfl ?_
          refine J_iload_n E (jd dk_X7_carry_0 35 rfl) rfl 3 rfl ?_
          obtain ⟨h33, e34, hf⟩ := jbind hf
          refine J_iast E (jd dk_X7_carry_0 36 rfl) e34 ?_
          refine J_iload_n E (jd dk_X7_carry_0 37 rfl) rfl 0 rfl ?_
          cases hf
          exact J_iret E hr rfl (jd dk_X7_carry_0 38 rfl) (Nat.le_refl _) (Nat.le_refl _) ⟨rfl, rfl⟩
        · replace hf := jif_t c26 hf
          refine J_sub [1] rfl ?_
          exact lk_X7_carry_b44 E hX hr N hf
    · replace hf := jif_t c20 hf
      refine J_sub [0] rfl ?_
      exact lk_X7_carry_b21 E hX hr N hf
def f_X7_dredge_b43 (N : Nat) (v0 : Nat) (h : AH) : Option (Int32 × AH) :=
  (jck 7 h v0).bind fun _ =>
  (f_X7_refuse N h v0 1).bind fun r1 =>
  some (r1.1, r1.2)
def f_X7_dredge (N : Nat) (h : AH) (a0 : Nat) (a1 : Int32) (a2 : Int32) (a3 : Int32) : Option (Int32 × AH) :=
  (jwi 7 h a0 4 0).bind fun h5 =>
  (jck 7 h5 a0).bind fun _ =>
  (f_X7_isReach N h5 a0 a1).bind fun r7 =>
  if r7.1 = 0 then (jck 7 r7.2 a0).bind fun _ =>
  (f_X7_fail N r7.2 a0 1).bind fun r38 =>
  some (r38.1, r38.2)
  else (f_X7_isIn N r7.2 (Int32.toInt64 a2) 0 3).bind fun r12 =>
  if r12.1 = 0 then f_X7_dredge_b43 N a0 r12.2
  else (f_X7_isIn N r12.2 (Int32.toInt64 a3) 0 7).bind fun r15 =>
  if r15.1 = 0 then f_X7_dredge_b43 N a0 r15.2
  else (jck 7 r15.2 a0).bind fun _ =>
  (f_X7_keep N r15.2 a0).bind fun r18 =>
  (jgr 7 r18 a0 31).bind fun x22 =>
  (jal 0 r18 x22 a1).bind fun x24 =>
  (jgr 7 r18 a0 32).bind fun x26 =>
  (jal 0 r18 x26 a1).bind fun x28 =>
  (jgr 7 r18 a0 31).bind fun x30 =>
  (jas 0 r18 x30 a1 a2).bind fun h32 =>
  (jgr 7 h32 a0 32).bind fun x34 =>
  (jas 0 h32 x34 a1 a3).bind fun h36 =>
  some (((10 : Int32) * x24) + x28, h36)
set_option maxRecDepth 100000 in
set_option maxHeartbeats 4000000 in
theorem lk_X7_dredge_b43 {G : JG} {X : JX} (E : jE G X (RX7, cX7_dredge, 5)) (hX : X.2.2.2.1 = jRm 2 0 0) (hr : X.2.2.2.2.2.2.2.2.1.sig.returnType = (some .int)) (N : Nat) {v0 : Nat} {h : AH}  {r : (Int32 × AH)} (hf : f_X7_dredge_b43 N v0 h = some r) : JW G X (RX7, cX7_dredge, 5) h [(0, .ref v0)] [] 43 0 0 (jEnd G X (jpi r) 0 0) := by
  unfold f_X7_dredge_b43 at hf
  refine J_aload_n E (jd dk_X7_dredge_0 23 rfl) rfl 0 rfl ?_
  refine J_iconst (v := 1) E (jd dk_X7_dredge_0 24 rfl) rfl ?_
  obtain ⟨u3, e4, hf⟩ := jbind hf
  obtain ⟨r1, e2, hf⟩ := jbind hf
  refine J_callV E (jd dk_X7_dredge_0 25 rfl) ml_RX7_391 cal_X7_refuse e4 rfl (lk_X7_refuse (jE_g E) (jE_tr E) N e2) rfl (Nat.le_of_ble_eq_true rfl) (jR_le hX (by decide) (by decide)) (jF0 hX) rfl ?_
  rintro _ _ ⟨rfl, rfl⟩
  cases hf
  exact J_iret E hr rfl (jd dk_X7_dredge_0 26 rfl) (Nat.le_refl _) (Nat.le_refl _) ⟨rfl, rfl⟩
set_option maxRecDepth 100000 in
set_option maxHeartbeats 4000000 in
theorem lk_X7_dredge {G : JG} {l : Launch} (hG : jG G) (htr : l.stackTraces = false) (N : Nat) {h : AH} {a0 : Nat} {a1 : Int32} {a2 : Int32} {a3 : Int32} {r : (Int32 × AH)} (hf : f_X7_dredge N h a0 a1 a2 a3 = some r) : jMet G l yX7_dredge cX7_dredge 5 (some .int) 2 0 0 [.ref a0, .int a1, .int a2, .int a3] h (jpi r) := by
  unfold f_X7_dredge at hf
  refine jMet_of hG htr (by decide) (Nat.le_of_ble_eq_true rfl) ?_
  intro X E hl9 hr hX _ _
  show JW G X (RX7, cX7_dredge, 5) h [(0, .ref a0), (1, .int a1), (2, .int a2), (3, .int a3)] [] 0 0 0 (jEnd G X (jpi r) 0 0)
  refine J_aload_n E (jd dk_X7_dredge_0 0 rfl) rfl 0 rfl ?_
  refine J_iconst (v := 0) E (jd dk_X7_dredge_0 1 rfl) rfl ?_
  obtain ⟨h5, e6, hf⟩ := jbind hf
  refine J_put E (jd dk_X7_dredge_0 2 rfl) fl_RX7_151 e6 (fun _ => rfl) (fun _ => rfl) ?_
  refine J_aload_n E (jd dk_X7_dredge_0 3 rfl) rfl 0 rfl ?_
  refine J_iload_n E (jd dk_X7_dredge_0 4 rfl) rfl 1 rfl ?_
  obtain ⟨u9, e10, hf⟩ := jbind hf
  obtain ⟨r7, e8, hf⟩ := jbind hf
  refine J_callV E (jd dk_X7_dredge_0 5 rfl) ml_RX7_377 cal_X7_isReach e10 rfl (lk_X7_isReach (jE_g E) (jE_tr E) N e8) rfl (Nat.le_of_ble_eq_true rfl) (jR_le hX (by decide) (by decide)) (jF0 hX) rfl ?_
  rintro _ _ ⟨rfl, rfl⟩
  refine J_if_ne (tgt := 19) E (jd dk_X7_dredge_0 6 rfl) (by decide) (fun c11 => ?_) (fun c11 => ?_)
  · replace hf := jif_f c11 hf
    refine J_iload_n E (jd dk_X7_dredge_0 11 rfl) rfl 2 rfl ?_
    refine J_i2l E (jd dk_X7_dredge_0 12 rfl) ?_
    refine J_lconst (v := 0) E (jd dk_X7_dredge_0 13 rfl) (by decide) ?_
    refine J_ldc2 (v := 3) E (jd dk_X7_dredge_0 14 rfl) (jl31_in _ (List.mem_of_getElem? (i := 39) rfl)) ?_
    obtain ⟨r12, e13, hf⟩ := jbind hf
    refine J_callS E (jd dk_X7_dredge_0 15 rfl) ml_RX7_154 cal_X7_isIn (lk_X7_isIn (jE_g E) (jE_tr E) N e13) rfl (Nat.le_of_ble_eq_true rfl) (jR_le hX (by decide) (by decide)) (jF0 hX) rfl ?_
    rintro _ _ ⟨rfl, rfl⟩
    refine J_if_eq (tgt := 43) E (jd dk_X7_dredge_0 16 rfl) (by decide) (fun c14 => ?_) (fun c14 => ?_)
    · replace hf := jif_t c14 hf
      refine J_sub [0] rfl ?_
      exact lk_X7_dredge_b43 E hX hr N hf
    · replace hf := jif_f c14 hf
      refine J_iload_n E (jd dk_X7_dredge_0 17 rfl) rfl 3 rfl ?_
      refine J_i2l E (jd dk_X7_dredge_0 18 rfl) ?_
      refine J_lconst (v := 0) E (jd dk_X7_dredge_0 19 rfl) (by decide) ?_
      refine J_ldc2 (v := 7) E (jd dk_X7_dredge_0 20 rfl) (jl32_in _ (List.mem_of_getElem? (i := 0) rfl)) ?_
      obtain ⟨r15, e16, hf⟩ := jbind hf
      refine J_callS E (jd dk_X7_dredge_0 21 rfl) ml_RX7_154 cal_X7_isIn (lk_X7_isIn (jE_g E) (jE_tr E) N e16) rfl (Nat.le_of_ble_eq_true rfl) (jR_le hX (by decide) (by decide)) (jF0 hX) rfl ?_
      rintro _ _ ⟨rfl, rfl⟩
      refine J_if_ne (tgt := 49) E (jd dk_X7_dredge_0 22 rfl) (by decide) (fun c17 => ?_) (fun c17 => ?_)
      · replace hf := jif_f c17 hf
        refine J_aload_n E (jd dk_X7_dredge_0 27 rfl) rfl 0 rfl ?_
        obtain ⟨u20, e21, hf⟩ := jbind hf
        obtain ⟨r18, e19, hf⟩ := jbind hf
        refine J_callV E (jd dk_X7_dredge_0 28 rfl) ml_RX7_394 cal_X7_keep e21 rfl (lk_X7_keep (jE_g E) (jE_tr E) N e19) rfl (Nat.le_of_ble_eq_true rfl) (jR_le hX (by decide) (by decide)) (jF0 hX) rfl ?_
        rintro _ _ ⟨rfl, rfl⟩
        refine J_bipush (v := 10) E (jd dk_X7_dredge_0 29 rfl) (by decide) ?_
        refine J_aload_n E (jd dk_X7_dredge_0 30 rfl) rfl 0 rfl ?_
        obtain ⟨x22, e23, hf⟩ := jbind hf
        refine J_getr E (jd dk_X7_dredge_0 31 rfl) fl_RX7_90 e23 ?_
        refine J_iload_n E (jd dk_X7_dredge_0 32 rfl) rfl 1 rfl ?_
        obtain ⟨x24, e25, hf⟩ := jbind hf
        refine J_iald E (jd dk_X7_dredge_0 33 rfl) e25 ?_
        refine J_imul E (jd dk_X7_dredge_0 34 rfl) ?_
        refine J_aload_n E (jd dk_X7_dredge_0 35 rfl) rfl 0 rfl ?_
        obtain ⟨x26, e27, hf⟩ := jbind hf
        refine J_getr E (jd dk_X7_dredge_0 36 rfl) fl_RX7_92 e27 ?_
        refine J_iload_n E (jd dk_X7_dredge_0 37 rfl) rfl 1 rfl ?_
        obtain ⟨x28, e29, hf⟩ := jbind hf
        refine J_iald E (jd dk_X7_dredge_0 38 rfl) e29 ?_
        refine J_iadd E (jd dk_X7_dredge_0 39 rfl) ?_
        refine J_istore (lv' := [(4, .int (((10 : Int32) * x24) + x28)), (0, .ref a0), (1, .int a1), (2, .int a2), (3, .int a3)]) E (jd dk_X7_dredge_0 40 rfl) (by decide) rfl ?_
        refine J_aload_n E (jd dk_X7_dredge_0 41 rfl) rfl 1 rfl ?_
        obtain ⟨x30, e31, hf⟩ := jbind hf
        refine J_getr E (jd dk_X7_dredge_0 42 rfl) fl_RX7_90 e31 ?_
        refine J_iload_n E (jd dk_X7_dredge_0 43 rfl) rfl 2 rfl ?_
        refine J_iload_n E (jd dk_X7_dredge_0 44 rfl) rfl 3 rfl ?_
        obtain ⟨h32, e33, hf⟩ := jbind hf
        refine J_iast E (jd dk_X7_dredge_0 45 rfl) e33 ?_
        refine J_aload_n E (jd dk_X7_dredge_0 46 rfl) rfl 1 rfl ?_
        obtain ⟨x34, e35, hf⟩ := jbind hf
        refine J_getr E (jd dk_X7_dredge_0 47 rfl) fl_RX7_92 e35 ?_
        refine J_iload_n E (jd dk_X7_dredge_0 48 rfl) rfl 2 rfl ?_
        refine J_iload_n E (jd dk_X7_dredge_0 49 rfl) rfl 4 rfl ?_
        obtain ⟨h36, e37, hf⟩ := jbind hf
        refine J_iast E (jd dk_X7_dredge_1 0 rfl) e37 ?_
        refine J_iload E (jd dk_X7_dredge_1 1 rfl) 0 rfl ?_
        cases hf
        exact J_iret E hr rfl (jd dk_X7_dredge_1 2 rfl) (Nat.le_refl _) (Nat.le_refl _) ⟨rfl, rfl⟩
      · replace hf := jif_t c17 hf
        refine J_sub [0] rfl ?_
        exact lk_X7_dredge_b43 E hX hr N hf
  · replace hf := jif_t c11 hf
    refine J_aload_n E (jd dk_X7_dredge_0 7 rfl) rfl 0 rfl ?_
    refine J_iconst (v := 1) E (jd dk_X7_dredge_0 8 rfl) rfl ?_
    obtain ⟨u40, e41, hf⟩ := jbind hf
    obtain ⟨r38, e39, hf⟩ := jbind hf
    refine J_callV E (jd dk_X7_dredge_0 9 rfl) ml_RX7_293 cal_X7_fail e41 rfl (lk_X7_fail (jE_g E) (jE_tr E) N e39) rfl (Nat.le_of_ble_eq_true rfl) (jR_le hX (by decide) (by decide)) (jF0 hX) rfl ?_
    rintro _ _ ⟨rfl, rfl⟩
    cases hf
    exact J_iret E hr rfl (jd dk_X7_dredge_0 10 rfl) (Nat.le_refl _) (Nat.le_refl _) ⟨rfl, rfl⟩
def f_X7_undo (N : Nat) (h : AH) (a0 : Nat) : Option (Int32 × AH) :=
  (jwi 7 h a0 4 0).bind fun h1 =>
  (jgi 7 h1 a0 35).bind fun x3 =>
  if x3 = 0 then some ((-1), h1)
  else (jgi 7 h1 a0 35).bind fun x6 =>
  (jwi 7 h1 a0 35 (x6 - 1)).bind fun h8 =>
  (jgr 7 h8 a0 33).bind fun x10 =>
  (jgi 7 h8 a0 35).bind fun x12 =>
  (jck 7 h8 a0).bind fun _ =>
  (f_X7_unpack N h8 a0 x10 ((43 : Int32) * x12)).bind fun r14 =>
  (jgi 7 r14 a0 35).bind fun x18 =>
  some (x18, r14)
set_option maxRecDepth 100000 in
set_option maxHeartbeats 4000000 in
theorem lk_X7_undo {G : JG} {l : Launch} (hG : jG G) (htr : l.stackTraces = false) (N : Nat) {h : AH} {a0 : Nat} {r : (Int32 × AH)} (hf : f_X7_undo N h a0 = some r) : jMet G l yX7_undo cX7_undo 1 (some .int) 1 0 0 [.ref a0] h (jpi r) := by
  unfold f_X7_undo at hf
  refine jMet_of hG htr (by decide) (Nat.le_of_ble_eq_true rfl) ?_
  intro X E hl9 hr hX _ _
  show JW G X (RX7, cX7_undo, 1) h [(0, .ref a0)] [] 0 0 0 (jEnd G X (jpi r) 0 0)
  refine J_aload_n E (jd dk_X7_undo_0 0 rfl) rfl 0 rfl ?_
  refine J_iconst (v := 0) E (jd dk_X7_undo_0 1 rfl) rfl ?_
  obtain ⟨h1, e2, hf⟩ := jbind hf
  refine J_put E (jd dk_X7_undo_0 2 rfl) fl_RX7_151 e2 (fun _ => rfl) (fun _ => rfl) ?_
  refine J_aload_n E (jd dk_X7_undo_0 3 rfl) rfl 0 rfl ?_
  obtain ⟨x3, e4, hf⟩ := jbind hf
  refine J_geti E (jd dk_X7_undo_0 4 rfl) fl_RX7_309 e4 ?_
  refine J_if_ne (tgt := 14) E (jd dk_X7_undo_0 5 rfl) (by decide) (fun c5 => ?_) (fun c5 => ?_)
  · replace hf := jif_f c5 hf
    refine J_aload_n E (jd dk_X7_undo_0 8 rfl) rfl 0 rfl ?_
    refine J_dup E (jd dk_X7_undo_0 9 rfl) rfl ?_
    obtain ⟨x6, e7, hf⟩ := jbind hf
    refine J_geti E (jd dk_X7_undo_0 10 rfl) fl_RX7_309 e7 ?_
    refine J_iconst (v := 1) E (jd dk_X7_undo_0 11 rfl) rfl ?_
    refine J_isub E (jd dk_X7_undo_0 12 rfl) ?_
    obtain ⟨h8, e9, hf⟩ := jbind hf
    refine J_put E (jd dk_X7_undo_0 13 rfl) fl_RX7_309 e9 (fun _ => rfl) (fun _ => rfl) ?_
    refine J_aload_n E (jd dk_X7_undo_0 14 rfl) rfl 0 rfl ?_
    refine J_aload_n E (jd dk_X7_undo_0 15 rfl) rfl 0 rfl ?_
    obtain ⟨x10, e11, hf⟩ := jbind hf
    refine J_getr E (jd dk_X7_undo_0 16 rfl) fl_RX7_94 e11 ?_
    refine J_bipush (v := 43) E (jd dk_X7_undo_0 17 rfl) (by decide) ?_
    refine J_aload_n E (jd dk_X7_undo_0 18 rfl) rfl 0 rfl ?_
    obtain ⟨x12, e13, hf⟩ := jbind hf
    refine J_geti E (jd dk_X7_undo_0 19 rfl) fl_RX7_309 e13 ?_
    refine J_imul E (jd dk_X7_undo_0 20 rfl) ?_
    obtain ⟨u16, e17, hf⟩ := jbind hf
    obtain ⟨r14, e15, hf⟩ := jbind hf
    refine J_callV E (jd dk_X7_undo_0 21 rfl) ml_RX7_407 cal_X7_unpack e17 rfl (lk_X7_unpack (jE_g E) (jE_tr E) N e15) rfl (Nat.le_of_ble_eq_true rfl) (jR_le hX (by decide) (by decide)) (jF0 hX) rfl ?_
    rintro _ _ ⟨rfl, rfl⟩
    refine J_aload_n E (jd dk_X7_undo_0 22 rfl) rfl 0 rfl ?_
    obtain ⟨x18, e19, hf⟩ := jbind hf
    refine J_geti E (jd dk_X7_undo_0 23 rfl) fl_RX7_309 e19 ?_
    cases hf
    exact J_iret E hr rfl (jd dk_X7_undo_0 24 rfl) (Nat.le_refl _) (Nat.le_refl _) ⟨rfl, rfl⟩
  · replace hf := jif_t c5 hf
    refine J_iconst (v := (-1)) E (jd dk_X7_undo_0 6 rfl) rfl ?_
    cases hf
    exact J_iret E hr rfl (jd dk_X7_undo_0 7 rfl) (Nat.le_refl _) (Nat.le_refl _) ⟨rfl, rfl⟩
def f_X7_then_b25 (N : Nat) (v0 : Nat) (h : AH) : Option (Int32 × AH) :=
  (jck 7 h v0).bind fun _ =>
  (f_X7_fail N h v0 1).bind fun r1 =>
  some (r1.1, r1.2)
def f_X7_then_b96 (N : Nat) (v0 : Nat) (w0 : Int32) (h : AH) : Option (Int32 × AH) :=
  (jgr 7 h v0 41).bind fun x5 =>
  (jck 7 h v0).bind fun _ =>
  (f_X7_unpack N h v0 x5 0).bind fun r7 =>
  some (w0, r7)
def f_X7_then (N : Nat) (h : AH) (a0 : Nat) (a1 : Int32) (a2 : Int32) (a3 : Int32) : Option (Int32 × AH) :=
  (jwi 7 h a0 4 0).bind fun h11 =>
  (jck 7 h11 a0).bind fun _ =>
  (f_X7_isJudge N h11 a0 a1).bind fun r13 =>
  if r13.1 = 0 then f_X7_then_b25 N a0 r13.2
  else (f_X7_isIn N r13.2 (Int32.toInt64 a3) 0 2).bind fun r18 =>
  if r18.1 = 0 then f_X7_then_b25 N a0 r18.2
  else (f_X7_isIn N r18.2 (Int32.toInt64 a2) 0 60).bind fun r21 =>
  if r21.1 = 0 then (jck 7 r21.2 a0).bind fun _ =>
  (f_X7_fail N r21.2 a0 2).bind fun r48 =>
  some (r48.1, r48.2)
  else (jgr 7 r21.2 a0 41).bind fun x24 =>
  (jck 7 r21.2 a0).bind fun _ =>
  (f_X7_pack N r21.2 a0 x24 0).bind fun r26 =>
  (jck 7 r26 a0).bind fun _ =>
  (f_X7_goOn N r26 a0 a2).bind fun r30 =>
  if a3 = 0 then (jgr 7 r30 a0 28).bind fun x44 =>
  (jal 0 r30 x44 a1).bind fun x46 =>
  f_X7_then_b96 N a0 x46 r30
  else if a3 = 1 then (jgr 7 r30 a0 29).bind fun x40 =>
  (jal 0 r30 x40 a1).bind fun x42 =>
  f_X7_then_b96 N a0 x42 r30
  else (jgr 7 r30 a0 30).bind fun x36 =>
  (jal 0 r30 x36 a1).bind fun x38 =>
  f_X7_then_b96 N a0 x38 r30
set_option maxRecDepth 100000 in
set_option maxHeartbeats 4000000 in
theorem lk_X7_then_b25 {G : JG} {X : JX} (E : jE G X (RX7, cX7_then, 5)) (hX : X.2.2.2.1 = jRm 6 0 0) (hr : X.2.2.2.2.2.2.2.2.1.sig.returnType = (some .int)) (N : Nat) {v0 : Nat} {h : AH}  {r : (Int32 × AH)} (hf : f_X7_then_b25 N v0 h = some r) : JW G X (RX7, cX7_then, 5) h [(0, .ref v0)] [] 25 0 0 (jEnd G X (jpi r) 0 0) := by
  unfold f_X7_then_b25 at hf
  refine J_aload_n E (jd dk_X7_then_0 13 rfl) rfl 0 rfl ?_
  refine J_iconst (v := 1) E (jd dk_X7_then_0 14 rfl) rfl ?_
  obtain ⟨u3, e4, hf⟩ := jbind hf
  obtain ⟨r1, e2, hf⟩ := jbind hf
  refine J_callV E (jd dk_X7_then_0 15 rfl) ml_RX7_293 cal_X7_fail e4 rfl (lk_X7_fail (jE_g E) (jE_tr E) N e2) rfl (Nat.le_of_ble_eq_true rfl) (jR_le hX (by decide) (by decide)) (jF0 hX) rfl ?_
  rintro _ _ ⟨rfl, rfl⟩
  cases hf
  exact J_iret E hr rfl (jd dk_X7_then_0 16 rfl) (Nat.le_refl _) (Nat.le_refl _) ⟨rfl, rfl⟩
set_option maxRecDepth 100000 in
set_option maxHeartbeats 4000000 in
theorem lk_X7_then_b96 {G : JG} {X : JX} (E : jE G X (RX7, cX7_then, 5)) (hX : X.2.2.2.1 = jRm 6 0 0) (hr : X.2.2.2.2.2.2.2.2.1.sig.returnType = (some .int)) (N : Nat) {v0 : Nat} {w0 : Int32} {h : AH}  {r : (Int32 × AH)} (hf : f_X7_then_b96 N v0 w0 h = some r) : JW G X (RX7, cX7_then, 5) h [(0, .ref v0)] [.int w0] 96 0 0 (jEnd G X (jpi r) 0 0) := by
  unfold f_X7_then_b96 at hf
  refine J_istore (lv' := [(4, .int w0), (0, .ref v0)]) E (jd dk_X7_then_1 4 rfl) (by decide) rfl ?_
  refine J_aload_n E (jd dk_X7_then_1 5 rfl) rfl 1 rfl ?_
  refine J_aload_n E (jd dk_X7_then_1 6 rfl) rfl 1 rfl ?_
  obtain ⟨x5, e6, hf⟩ := jbind hf
  refine J_getr E (jd dk_X7_then_1 7 rfl) fl_RX7_106 e6 ?_
  refine J_iconst (v := 0) E (jd dk_X7_then_1 8 rfl) rfl ?_
  obtain ⟨u9, e10, hf⟩ := jbind hf
  obtain ⟨r7, e8, hf⟩ := jbind hf
  refine J_callV E (jd dk_X7_then_1 9 rfl) ml_RX7_407 cal_X7_unpack e10 rfl (lk_X7_unpack (jE_g E) (jE_tr E) N e8) rfl (Nat.le_of_ble_eq_true rfl) (jR_le hX (by decide) (by decide)) (jF0 hX) rfl ?_
  rintro _ _ ⟨rfl, rfl⟩
  refine J_iload E (jd dk_X7_then_1 10 rfl) 0 rfl ?_
  cases hf
  exact J_iret E hr rfl (jd dk_X7_then_1 11 rfl) (Nat.le_refl _) (Nat.le_refl _) ⟨rfl, rfl⟩
set_option maxRecDepth 100000 in
set_option maxHeartbeats 4000000 in
theorem lk_X7_then {G : JG} {l : Launch} (hG : jG G) (htr : l.stackTraces = false) (N : Nat) {h : AH} {a0 : Nat} {a1 : Int32} {a2 : Int32} {a3 : Int32} {r : (Int32 × AH)} (hf : f_X7_then N h a0 a1 a2 a3 = some r) : jMet G l yX7_then cX7_then 5 (some .int) 6 0 0 [.ref a0, .int a1, .int a2, .int a3] h (jpi r) := by
  unfold f_X7_then at hf
  refine jMet_of hG htr (by decide) (Nat.le_of_ble_eq_true rfl) ?_
  intro X E hl9 hr hX _ _
  show JW G X (RX7, cX7_then, 5) h [(0, .ref a0), (1, .int a1), (2, .int a2), (3, .int a3)] [] 0 0 0 (jEnd G X (jpi r) 0 0)
  refine J_aload_n E (jd dk_X7_then_0 0 rfl) rfl 0 rfl ?_
  refine J_iconst (v := 0) E (jd dk_X7_then_0 1 rfl) rfl ?_
  obtain ⟨h11, e12, hf⟩ := jbind hf
  refine J_put E (jd dk_X7_then_0 2 rfl) fl_RX7_151 e12 (fun _ => rfl) (fun _ => rfl) ?_
  refine J_aload_n E (jd dk_X7_then_0 3 rfl) rfl 0 rfl ?_
  refine J_iload_n E (jd dk_X7_then_0 4 rfl) rfl 1 rfl ?_
  obtain ⟨u15, e16, hf⟩ := jbind hf
  obtain ⟨r13, e14, hf⟩ := jbind hf
  refine J_callV E (jd dk_X7_then_0 5 rfl) ml_RX7_382 cal_X7_isJudge e16 rfl (lk_X7_isJudge (jE_g E) (jE_tr E) N e14) rfl (Nat.le_of_ble_eq_true rfl) (jR_le hX (by decide) (by decide)) (jF0 hX) rfl ?_
  rintro _ _ ⟨rfl, rfl⟩
  refine J_if_eq (tgt := 25) E (jd dk_X7_then_0 6 rfl) (by decide) (fun c17 => ?_) (fun c17 => ?_)
  · replace hf := jif_t c17 hf
    refine J_sub [0] rfl ?_
    exact lk_X7_then_b25 E hX hr N hf
  · replace hf := jif_f c17 hf
    refine J_iload_n E (jd dk_X7_then_0 7 rfl) rfl 3 rfl ?_
    refine J_i2l E (jd dk_X7_then_0 8 rfl) ?_
    refine J_lconst (v := 0) E (jd dk_X7_then_0 9 rfl) (by decide) ?_
    refine J_ldc2 (v := 2) E (jd dk_X7_then_0 10 rfl) (jl30_in _ (List.mem_of_getElem? (i := 13) rfl)) ?_
    obtain ⟨r18, e19, hf⟩ := jbind hf
    refine J_callS E (jd dk_X7_then_0 11 rfl) ml_RX7_154 cal_X7_isIn (lk_X7_isIn (jE_g E) (jE_tr E) N e19) rfl (Nat.le_of_ble_eq_true rfl) (jR_le hX (by decide) (by decide)) (jF0 hX) rfl ?_
    rintro _ _ ⟨rfl, rfl⟩
    refine J_if_ne (tgt := 31) E (jd dk_X7_then_0 12 rfl) (by decide) (fun c20 => ?_) (fun c20 => ?_)
    · replace hf := jif_f c20 hf
      refine J_iload_n E (jd dk_X7_then_0 17 rfl) rfl 2 rfl ?_
      refine J_i2l E (jd dk_X7_then_0 18 rfl) ?_
      refine J_lconst (v := 0) E (jd dk_X7_then_0 19 rfl) (by decide) ?_
      refine J_ldc2 (v := 60) E (jd dk_X7_then_0 20 rfl) (jl32_in _ (List.mem_of_getElem? (i := 12) rfl)) ?_
      obtain ⟨r21, e22, hf⟩ := jbind hf
      refine J_callS E (jd dk_X7_then_0 21 rfl) ml_RX7_154 cal_X7_isIn (lk_X7_isIn (jE_g E) (jE_tr E) N e22) rfl (Nat.le_of_ble_eq_true rfl) (jR_le hX (by decide) (by decide)) (jF0 hX) rfl ?_
      rintro _ _ ⟨rfl, rfl⟩
      refine J_if_ne (tgt := 49) E (jd dk_X7_then_0 22 rfl) (by decide) (fun c23 => ?_) (fun c23 => ?_)
      · replace hf := jif_f c23 hf
        refine J_aload_n E (jd dk_X7_then_0 27 rfl) rfl 0 rfl ?_
        refine J_aload_n E (jd dk_X7_then_0 28 rfl) rfl 0 rfl ?_
        obtain ⟨x24, e25, hf⟩ := jbind hf
        refine J_getr E (jd dk_X7_then_0 29 rfl) fl_RX7_106 e25 ?_
        refine J_iconst (v := 0) E (jd dk_X7_then_0 30 rfl) rfl ?_
        obtain ⟨u28, e29, hf⟩ := jbind hf
        obtain ⟨r26, e27, hf⟩ := jbind hf
        refine J_callV E (jd dk_X7_then_0 31 rfl) ml_RX7_385 cal_X7_pack e29 rfl (lk_X7_pack (jE_g E) (jE_tr E) N e27) rfl (Nat.le_of_ble_eq_true rfl) (jR_le hX (by decide) (by decide)) (jF0 hX) rfl ?_
        rintro _ _ ⟨rfl, rfl⟩
        refine J_aload_n E (jd dk_X7_then_0 32 rfl) rfl 0 rfl ?_
        refine J_iload_n E (jd dk_X7_then_0 33 rfl) rfl 2 rfl ?_
        obtain ⟨u32, e33, hf⟩ := jbind hf
        obtain ⟨r30, e31, hf⟩ := jbind hf
        refine J_callV E (jd dk_X7_then_0 34 rfl) ml_RX7_397 cal_X7_goOn e33 rfl (lk_X7_goOn (jE_g E) (jE_tr E) N e31) rfl (Nat.le_of_ble_eq_true rfl) (jR_le hX (by decide) (by decide)) (jF0 hX) rfl ?_
        rintro _ _ ⟨rfl, rfl⟩
        refine J_iload_n E (jd dk_X7_then_0 35 rfl) rfl 3 rfl ?_
        refine J_if_ne (tgt := 76) E (jd dk_X7_then_0 36 rfl) (by decide) (fun c34 => ?_) (fun c34 => ?_)
        · replace hf := jif_f c34 hf
          refine J_iload_n E (jd dk_X7_then_0 42 rfl) rfl 3 rfl ?_
          refine J_iconst (v := 1) E (jd dk_X7_then_0 43 rfl) rfl ?_
          refine J_icmp_ne (tgt := 90) E (jd dk_X7_then_0 44 rfl) (by decide) (fun c35 => ?_) (fun c35 => ?_)
          · replace hf := jif_f c35 hf
            refine J_aload_n E (jd dk_X7_then_1 0 rfl) rfl 0 rfl ?_
            obtain ⟨x36, e37, hf⟩ := jbind hf
            refine J_getr E (jd dk_X7_then_1 1 rfl) fl_RX7_87 e37 ?_
            refine J_iload_n E (jd dk_X7_then_1 2 rfl) rfl 1 rfl ?_
            obtain ⟨x38, e39, hf⟩ := jbind hf
            refine J_iald E (jd dk_X7_then_1 3 rfl) e39 ?_
            refine J_sub [0] rfl ?_
            exact lk_X7_then_b96 E hX hr N hf
          · replace hf := jif_t c35 hf
            refine J_aload_n E (jd dk_X7_then_0 45 rfl) rfl 0 rfl ?_
            obtain ⟨x40, e41, hf⟩ := jbind hf
            refine J_getr E (jd dk_X7_then_0 46 rfl) fl_RX7_84 e41 ?_
            refine J_iload_n E (jd dk_X7_then_0 47 rfl) rfl 1 rfl ?_
            obtain ⟨x42, e43, hf⟩ := jbind hf
            refine J_iald E (jd dk_X7_then_0 48 rfl) e43 ?_
            refine J_goto (tgt := 96) E (jd dk_X7_then_0 49 rfl) (by decide) ?_
            refine J_sub [0] rfl ?_
            exact lk_X7_then_b96 E hX hr N hf
        · replace hf := jif_t c34 hf
          refine J_aload_n E (jd dk_X7_then_0 37 rfl) rfl 0 rfl ?_
          obtain ⟨x44, e45, hf⟩ := jbind hf
          refine J_getr E (jd dk_X7_then_0 38 rfl) fl_RX7_81 e45 ?_
          refine J_iload_n E (jd dk_X7_then_0 39 rfl) rfl 1 rfl ?_
          obtain ⟨x46, e47, hf⟩ := jbind hf
          refine J_iald E (jd dk_X7_then_0 40 rfl) e47 ?_
          refine J_goto (tgt := 96) E (jd dk_X7_then_0 41 rfl) (by decide) ?_
          refine J_sub [0] rfl ?_
          exact lk_X7_then_b96 E hX hr N hf
      · replace hf := jif_t c23 hf
        refine J_aload_n E (jd dk_X7_then_0 23 rfl) rfl 0 rfl ?_
        refine J_iconst (v := 2) E (jd dk_X7_then_0 24 rfl) rfl ?_
        obtain ⟨u50, e51, hf⟩ := jbind hf
        obtain ⟨r48, e49, hf⟩ := jbind hf
        refine J_callV E (jd dk_X7_then_0 25 rfl) ml_RX7_293 cal_X7_fail e51 rfl (lk_X7_fail (jE_g E) (jE_tr E) N e49) rfl (Nat.le_of_ble_eq_true rfl) (jR_le hX (by decide) (by decide)) (jF0 hX) rfl ?_
        rintro _ _ ⟨rfl, rfl⟩
        cases hf
        exact J_iret E hr rfl (jd dk_X7_then_0 26 rfl) (Nat.le_refl _) (Nat.le_refl _) ⟨rfl, rfl⟩
    · replace hf := jif_t c20 hf
      refine J_sub [0] rfl ?_
      exact lk_X7_then_b25 E hX hr N hf
def f_X7_firstIn_b57 (N : Nat) (v0 : Nat) (v3 : Int32) (h : AH) : Option (Int32 × AH) :=
  (jgr 7 h v0 41).bind fun x1 =>
  (jck 7 h v0).bind fun _ =>
  (f_X7_unpack N h v0 x1 0).bind fun r3 =>
  some (v3, r3)
def f_X7_firstIn_b46 (N : Nat) (v0 : Nat) (v1 : Int32) (v2 : Int32) (v3 : Int32) (v4 : Int32) (h : AH) : Option ((Int32 × Int32 × AH) ⊕ ((Int32 × AH))) :=
  (jck 7 h v0).bind fun _ =>
  (f_X7_goOn N h v0 1).bind fun r7 =>
  some (.inl ((v3, v4 + 1, r7)))
def f_X7_firstIn_b43 (N : Nat) (v0 : Nat) (v1 : Int32) (v2 : Int32) (v4 : Int32) (h : AH) : Option ((Int32 × Int32 × AH) ⊕ ((Int32 × AH))) :=
  f_X7_firstIn_b46 N v0 v1 v2 v4 v4 h
def f_X7_firstIn_l5 (N : Nat) (v0 : Nat) (v1 : Int32) (v2 : Int32) (v3 : Int32) (v4 : Int32) (h : AH) : Option ((Int32 × Int32 × AH) ⊕ ((Int32 × AH))) :=
  if 60 < v4 then some (.inr ((v3, h)))
  else if v3 = ((-1)) then if v2 = 0 then (jck 7 h v0).bind fun _ =>
  (f_X7_isFair N h v0 v1).bind fun r14 =>
  if r14.1 = 0 then f_X7_firstIn_b46 N v0 v1 v2 v3 v4 r14.2
  else f_X7_firstIn_b43 N v0 v1 v2 v4 r14.2
  else (jgr 7 h v0 28).bind fun x19 =>
  (jal 0 h x19 v1).bind fun x21 =>
  if x21 = ((-2)) then f_X7_firstIn_b43 N v0 v1 v2 v4 h
  else f_X7_firstIn_b46 N v0 v1 v2 v3 v4 h
  else some (.inr ((v3, h)))
def f_X7_firstIn_b5 (N : Nat) (v0 : Nat) (v1 : Int32) (v2 : Int32) (v3 : Int32) (v4 : Int32) (h : AH) : Option (Int32 × AH) :=
  (itr (fun s => f_X7_firstIn_l5 N v0 v1 v2 s.1 s.2.1 s.2.2) N (v3, v4, h)).bind (fun e => f_X7_firstIn_b57 N v0 e.1 e.2)
def f_X7_firstIn (N : Nat) (h : AH) (a0 : Nat) (a1 : Int32) (a2 : Int32) : Option (Int32 × AH) :=
  f_X7_firstIn_b5 N a0 a1 a2 ((-1)) 0 h
set_option maxRecDepth 100000 in
set_option maxHeartbeats 4000000 in
theorem lk_X7_firstIn_b57 {G : JG} {X : JX} (E : jE G X (RX7, cX7_firstIn, 5)) (hX : X.2.2.2.1 = jRm 6 0 0) (hr : X.2.2.2.2.2.2.2.2.1.sig.returnType = (some .int)) (N : Nat) {v0 : Nat} {v3 : Int32} {h : AH}  {r : (Int32 × AH)} (hf : f_X7_firstIn_b57 N v0 v3 h = some r) : JW G X (RX7, cX7_firstIn, 5) h [(0, .ref v0), (3, .int v3)] [] 57 0 0 (jEnd G X (jpi r) 0 0) := by
  unfold f_X7_firstIn_b57 at hf
  refine J_aload_n E (jd dk_X7_firstIn_0 30 rfl) rfl 0 rfl ?_
  refine J_aload_n E (jd dk_X7_firstIn_0 31 rfl) rfl 0 rfl ?_
  obtain ⟨x1, e2, hf⟩ := jbind hf
  refine J_getr E (jd dk_X7_firstIn_0 32 rfl) fl_RX7_106 e2 ?_
  refine J_iconst (v := 0) E (jd dk_X7_firstIn_0 33 rfl) rfl ?_
  obtain ⟨u5, e6, hf⟩ := jbind hf
  obtain ⟨r3, e4, hf⟩ := jbind hf
  refine J_callV E (jd dk_X7_firstIn_0 34 rfl) ml_RX7_407 cal_X7_unpack e6 rfl (lk_X7_unpack (jE_g E) (jE_tr E) N e4) rfl (Nat.le_of_ble_eq_true rfl) (jR_le hX (by decide) (by decide)) (jF0 hX) rfl ?_
  rintro _ _ ⟨rfl, rfl⟩
  refine J_iload_n E (jd dk_X7_firstIn_0 35 rfl) rfl 1 rfl ?_
  cases hf
  exact J_iret E hr rfl (jd dk_X7_firstIn_0 36 rfl) (Nat.le_refl _) (Nat.le_refl _) ⟨rfl, rfl⟩
set_option maxRecDepth 100000 in
set_option maxHeartbeats 4000000 in
theorem lk_X7_firstIn_b46 {G : JG} {X : JX} (E : jE G X (RX7, cX7_firstIn, 5)) (hX : X.2.2.2.1 = jRm 6 0 0) (hr : X.2.2.2.2.2.2.2.2.1.sig.returnType = (some .int)) (N : Nat) {Q : State → Prop} {v0 : Nat} {v1 : Int32} {v2 : Int32} {v3 : Int32} {v4 : Int32} {h : AH}  {q : ((Int32 × Int32 × AH) ⊕ ((Int32 × AH)))} (hf : f_X7_firstIn_b46 N v0 v1 v2 v3 v4 h = some q) (kb : ∀ s' : Int32 × Int32 × AH, q = .inl s' → JW G X (RX7, cX7_firstIn, 5) s'.2.2 [(0, .ref v0), (1, .int v1), (2, .int v2), (3, .int s'.1), (4, .int s'.2.1)] [] 5 0 0 Q) (ke0 : ∀ e : Int32 × AH, q = .inr e → JW G X (RX7, cX7_firstIn, 5) e.2 [(0, .ref v0), (3, .int e.1)] [] 57 0 0 Q) : JW G X (RX7, cX7_firstIn, 5) h [(0, .ref v0), (1, .int v1), (2, .int v2), (3, .int v3), (4, .int v4)] [] 46 0 0 Q := by
  unfold f_X7_firstIn_b46 at hf
  refine J_aload_n E (jd dk_X7_firstIn_0 25 rfl) rfl 0 rfl ?_
  refine J_iconst (v := 1) E (jd dk_X7_firstIn_0 26 rfl) rfl ?_
  obtain ⟨u9, e10, hf⟩ := jbind hf
  obtain ⟨r7, e8, hf⟩ := jbind hf
  refine J_callV E (jd dk_X7_firstIn_0 27 rfl) ml_RX7_397 cal_X7_goOn e10 rfl (lk_X7_goOn (jE_g E) (jE_tr E) N e8) rfl (Nat.le_of_ble_eq_true rfl) (jR_le hX (by decide) (by decide)) (jF0 hX) rfl ?_
  rintro _ _ ⟨rfl, rfl⟩
  refine J_iinc (v := v4 + 1) (lv' := [(4, .int (v4 + 1)), (0, .ref v0), (1, .int v1), (2, .int v2), (3, .int v3)]) E (jd dk_X7_firstIn_0 28 rfl) 4 rfl rfl (by decide) rfl ?_
  refine J_goto (tgt := 5) E (jd dk_X7_firstIn_0 29 rfl) (by decide) ?_
  refine J_sub [1, 2, 3, 4, 0] rfl ?_
  exact kb _ (Option.some.inj hf).symm
set_option maxRecDepth 100000 in
set_option maxHeartbeats 4000000 in
theorem lk_X7_firstIn_b43 {G : JG} {X : JX} (E : jE G X (RX7, cX7_firstIn, 5)) (hX : X.2.2.2.1 = jRm 6 0 0) (hr : X.2.2.2.2.2.2.2.2.1.sig.returnType = (some .int)) (N : Nat) {Q : State → Prop} {v0 : Nat} {v1 : Int32} {v2 : Int32} {v4 : Int32} {h : AH}  {q : ((Int32 × Int32 × AH) ⊕ ((Int32 × AH)))} (hf : f_X7_firstIn_b43 N v0 v1 v2 v4 h = some q) (kb : ∀ s' : Int32 × Int32 × AH, q = .inl s' → JW G X (RX7, cX7_firstIn, 5) s'.2.2 [(0, .ref v0), (1, .int v1), (2, .int v2), (3, .int s'.1), (4, .int s'.2.1)] [] 5 0 0 Q) (ke0 : ∀ e : Int32 × AH, q = .inr e → JW G X (RX7, cX7_firstIn, 5) e.2 [(0, .ref v0), (3, .int e.1)] [] 57 0 0 Q) : JW G X (RX7, cX7_firstIn, 5) h [(0, .ref v0), (1, .int v1), (2, .int v2), (4, .int v4)] [] 43 0 0 Q := by
  unfold f_X7_firstIn_b43 at hf
  refine J_iload E (jd dk_X7_firstIn_0 23 rfl) 3 rfl ?_
  refine J_istore_n (lv' := [(3, .int v4), (0, .ref v0), (1, .int v1), (2, .int v2), (4, .int v4)]) E (jd dk_X7_firstIn_0 24 rfl) rfl (by decide) rfl ?_
  refine J_sub [1, 2, 3, 0, 4] rfl ?_
  exact lk_X7_firstIn_b46 E hX hr N hf kb ke0
set_option maxRecDepth 100000 in
set_option maxHeartbeats 4000000 in
theorem lk_X7_firstIn_l5 {G : JG} {X : JX} (E : jE G X (RX7, cX7_firstIn, 5)) (hX : X.2.2.2.1 = jRm 6 0 0) (hr : X.2.2.2.2.2.2.2.2.1.sig.returnType = (some .int)) (N : Nat) {Q : State → Prop} {v0 : Nat} {v1 : Int32} {v2 : Int32} {v3 : Int32} {v4 : Int32}  {h : AH} {q : ((Int32 × Int32 × AH) ⊕ ((Int32 × AH)))} (hf : f_X7_firstIn_l5 N v0 v1 v2 v3 v4 h = some q) (kb : ∀ s' : Int32 × Int32 × AH, q = .inl s' → JW G X (RX7, cX7_firstIn, 5) s'.2.2 [(0, .ref v0), (1, .int v1), (2, .int v2), (3, .int s'.1), (4, .int s'.2.1)] [] 5 0 0 Q) (ke0 : ∀ e : Int32 × AH, q = .inr e → JW G X (RX7, cX7_firstIn, 5) e.2 [(0, .ref v0), (3, .int e.1)] [] 57 0 0 Q) : JW G X (RX7, cX7_firstIn, 5) h [(0, .ref v0), (1, .int v1), (2, .int v2), (3, .int v3), (4, .int v4)] [] 5 0 0 Q := by
  unfold f_X7_firstIn_l5 at hf
  refine J_iload E (jd dk_X7_firstIn_0 4 rfl) 4 rfl ?_
  refine J_bipush (v := 60) E (jd dk_X7_firstIn_0 5 rfl) (by decide) ?_
  refine J_icmp_gt (tgt := 57) E (jd dk_X7_firstIn_0 6 rfl) (by decide) (fun c11 => ?_) (fun c11 => ?_)
  · replace hf := jif_t c11 hf
    refine J_sub [0, 3] rfl ?_
    exact ke0 _ (Option.some.inj hf).symm
  · replace hf := jif_f c11 hf
    refine J_iload_n E (jd dk_X7_firstIn_0 7 rfl) rfl 3 rfl ?_
    refine J_iconst (v := (-1)) E (jd dk_X7_firstIn_0 8 rfl) rfl ?_
    refine J_icmp_ne (tgt := 57) E (jd dk_X7_firstIn_0 9 rfl) (by decide) (fun c12 => ?_) (fun c12 => ?_)
    · replace hf := jif_f c12 hf
      refine J_sub [0, 3] rfl ?_
      exact ke0 _ (Option.some.inj hf).symm
    · replace hf := jif_t c12 hf
      refine J_iload_n E (jd dk_X7_firstIn_0 10 rfl) rfl 2 rfl ?_
      refine J_if_eq (tgt := 35) E (jd dk_X7_firstIn_0 11 rfl) (by decide) (fun c13 => ?_) (fun c13 => ?_)
      · replace hf := jif_t c13 hf
        refine J_aload_n E (jd dk_X7_firstIn_0 19 rfl) rfl 0 rfl ?_
        refine J_iload_n E (jd dk_X7_firstIn_0 20 rfl) rfl 1 rfl ?_
        obtain ⟨u16, e17, hf⟩ := jbind hf
        obtain ⟨r14, e15, hf⟩ := jbind hf
        refine J_callV E (jd dk_X7_firstIn_0 21 rfl) ml_RX7_324 cal_X7_isFair e17 rfl (lk_X7_isFair (jE_g E) (jE_tr E) N e15) rfl (Nat.le_of_ble_eq_true rfl) (jR_le hX (by decide) (by decide)) (jF0 hX) rfl ?_
        rintro _ _ ⟨rfl, rfl⟩
        refine J_if_eq (tgt := 46) E (jd dk_X7_firstIn_0 22 rfl) (by decide) (fun c18 => ?_) (fun c18 => ?_)
        · replace hf := jif_t c18 hf
          exact lk_X7_firstIn_b46 E hX hr N hf kb ke0
        · replace hf := jif_f c18 hf
          refine J_sub [0, 1, 2, 4] rfl ?_
          exact lk_X7_firstIn_b43 E hX hr N hf kb ke0
      · replace hf := jif_f c13 hf
        refine J_aload_n E (jd dk_X7_firstIn_0 12 rfl) rfl 0 rfl ?_
        obtain ⟨x19, e20, hf⟩ := jbind hf
        refine J_getr E (jd dk_X7_firstIn_0 13 rfl) fl_RX7_81 e20 ?_
        refine J_iload_n E (jd dk_X7_firstIn_0 14 rfl) rfl 1 rfl ?_
        obtain ⟨x21, e22, hf⟩ := jbind hf
        refine J_iald E (jd dk_X7_firstIn_0 15 rfl) e22 ?_
        refine J_bipush (v := (-2)) E (jd dk_X7_firstIn_0 16 rfl) (by decide) ?_
        refine J_icmp_ne (tgt := 46) E (jd dk_X7_firstIn_0 17 rfl) (by decide) (fun c23 => ?_) (fun c23 => ?_)
        · replace hf := jif_f c23 hf
          exact lk_X7_firstIn_b46 E hX hr N hf kb ke0
        · replace hf := jif_t c23 hf
          refine J_goto (tgt := 43) E (jd dk_X7_firstIn_0 18 rfl) (by decide) ?_
          refine J_sub [0, 1, 2, 4] rfl ?_
          exact lk_X7_firstIn_b43 E hX hr N hf kb ke0
set_option maxRecDepth 100000 in
set_option maxHeartbeats 4000000 in
theorem lk_X7_firstIn_b5 {G : JG} {X : JX} (E : jE G X (RX7, cX7_firstIn, 5)) (hX : X.2.2.2.1 = jRm 6 0 0) (hr : X.2.2.2.2.2.2.2.2.1.sig.returnType = (some .int)) (N : Nat) {v0 : Nat} {v1 : Int32} {v2 : Int32} {v3 : Int32} {v4 : Int32} {h : AH}  {r : (Int32 × AH)} (hf : f_X7_firstIn_b5 N v0 v1 v2 v3 v4 h = some r) : JW G X (RX7, cX7_firstIn, 5) h [(0, .ref v0), (1, .int v1), (2, .int v2), (3, .int v3), (4, .int v4)] [] 5 0 0 (jEnd G X (jpi r) 0 0) := by
  unfold f_X7_firstIn_b5 at hf
  obtain ⟨q1, h1, hf⟩ := jbind hf
  refine jloop (P := fun s => JW G X (RX7, cX7_firstIn, 5) s.2.2 [(0, .ref v0), (1, .int v1), (2, .int v2), (3, .int s.1), (4, .int s.2.1)] [] 5 0 0 (jEnd G X (jpi r) 0 0)) (Ex := fun (e : Int32 × AH) => JW G X (RX7, cX7_firstIn, 5) e.2 [(0, .ref v0), (3, .int e.1)] [] 57 0 0 (jEnd G X (jpi r) 0 0)) (fun s q hs hb hx => lk_X7_firstIn_l5 E hX hr N hs (fun s' hs => hb s' hs) (fun e he => hx e he)) N _ q1 h1 ?_
  generalize q1 = e at hf ⊢
  exact lk_X7_firstIn_b57 E hX hr N hf
set_option maxRecDepth 100000 in
set_option maxHeartbeats 4000000 in
theorem lk_X7_firstIn {G : JG} {l : Launch} (hG : jG G) (htr : l.stackTraces = false) (N : Nat) {h : AH} {a0 : Nat} {a1 : Int32} {a2 : Int32} {r : (Int32 × AH)} (hf : f_X7_firstIn N h a0 a1 a2 = some r) : jMet G l yX7_firstIn cX7_firstIn 5 (some .int) 6 0 0 [.ref a0, .int a1, .int a2] h (jpi r) := by
  unfold f_X7_firstIn at hf
  refine jMet_of hG htr (by decide) (Nat.le_of_ble_eq_true rfl) ?_
  intro X E hl9 hr hX _ _
  show JW G X (RX7, cX7_firstIn, 5) h [(0, .ref a0), (1, .int a1), (2, .int a2)] [] 0 0 0 (jEnd G X (jpi r) 0 0)
  refine J_iconst (v := (-1)) E (jd dk_X7_firstIn_0 0 rfl) rfl ?_
  refine J_istore_n (lv' := [(3, .int ((-1))), (0, .ref a0), (1, .int a1), (2, .int a2)]) E (jd dk_X7_firstIn_0 1 rfl) rfl (by decide) rfl ?_
  refine J_iconst (v := 0) E (jd dk_X7_firstIn_0 2 rfl) rfl ?_
  refine J_istore (lv' := [(4, .int 0), (3, .int ((-1))), (0, .ref a0), (1, .int a1), (2, .int a2)]) E (jd dk_X7_firstIn_0 3 rfl) (by decide) rfl ?_
  refine J_sub [2, 3, 4, 1, 0] rfl ?_
  exact lk_X7_firstIn_b5 E hX hr N hf
def f_X7_when_b23 (N : Nat) (v0 : Nat) (h : AH) : Option (Int32 × AH) :=
  (jck 7 h v0).bind fun _ =>
  (f_X7_fail N h v0 1).bind fun r1 =>
  some (r1.1, r1.2)
def f_X7_when (N : Nat) (h : AH) (a0 : Nat) (a1 : Int32) (a2 : Int32) : Option (Int32 × AH) :=
  (jwi 7 h a0 4 0).bind fun h5 =>
  (jck 7 h5 a0).bind fun _ =>
  (f_X7_isJudge N h5 a0 a1).bind fun r7 =>
  if r7.1 = 0 then f_X7_when_b23 N a0 r7.2
  else (f_X7_isIn N r7.2 (Int32.toInt64 a2) 0 1).bind fun r12 =>
  if r12.1 = 0 then f_X7_when_b23 N a0 r12.2
  else (jgr 7 r12.2 a0 41).bind fun x15 =>
  (jck 7 r12.2 a0).bind fun _ =>
  (f_X7_pack N r12.2 a0 x15 0).bind fun r17 =>
  if a2 = 1 then (jck 7 r17 a0).bind fun _ =>
  (f_X7_firstIn N r17 a0 a1 1).bind fun r26 =>
  some (r26.1, r26.2)
  else (jck 7 r17 a0).bind fun _ =>
  (f_X7_firstIn N r17 a0 a1 0).bind fun r22 =>
  some (r22.1, r22.2)
set_option maxRecDepth 100000 in
set_option maxHeartbeats 4000000 in
theorem lk_X7_when_b23 {G : JG} {X : JX} (E : jE G X (RX7, cX7_when, 3)) (hX : X.2.2.2.1 = jRm 7 0 0) (hr : X.2.2.2.2.2.2.2.2.1.sig.returnType = (some .int)) (N : Nat) {v0 : Nat} {h : AH}  {r : (Int32 × AH)} (hf : f_X7_when_b23 N v0 h = some r) : JW G X (RX7, cX7_when, 3) h [(0, .ref v0)] [] 23 0 0 (jEnd G X (jpi r) 0 0) := by
  unfold f_X7_when_b23 at hf
  refine J_aload_n E (jd dk_X7_when_0 13 rfl) rfl 0 rfl ?_
  refine J_iconst (v := 1) E (jd dk_X7_when_0 14 rfl) rfl ?_
  obtain ⟨u3, e4, hf⟩ := jbind hf
  obtain ⟨r1, e2, hf⟩ := jbind hf
  refine J_callV E (jd dk_X7_when_0 15 rfl) ml_RX7_293 cal_X7_fail e4 rfl (lk_X7_fail (jE_g E) (jE_tr E) N e2) rfl (Nat.le_of_ble_eq_true rfl) (jR_le hX (by decide) (by decide)) (jF0 hX) rfl ?_
  rintro _ _ ⟨rfl, rfl⟩
  cases hf
  exact J_iret E hr rfl (jd dk_X7_when_0 16 rfl) (Nat.le_refl _) (Nat.le_refl _) ⟨rfl, rfl⟩
set_option maxRecDepth 100000 in
set_option maxHeartbeats 4000000 in
theorem lk_X7_when {G : JG} {l : Launch} (hG : jG G) (htr : l.stackTraces = false) (N : Nat) {h : AH} {a0 : Nat} {a1 : Int32} {a2 : Int32} {r : (Int32 × AH)} (hf : f_X7_when N h a0 a1 a2 = some r) : jMet G l yX7_when cX7_when 3 (some .int) 7 0 0 [.ref a0, .int a1, .int a2] h (jpi r) := by
  unfold f_X7_when at hf
  refine jMet_of hG htr (by decide) (Nat.le_of_ble_eq_true rfl) ?_
  intro X E hl9 hr hX _ _
  show JW G X (RX7, cX7_when, 3) h [(0, .ref a0), (1, .int a1), (2, .int a2)] [] 0 0 0 (jEnd G X (jpi r) 0 0)
  refine J_aload_n E (jd dk_X7_when_0 0 rfl) rfl 0 rfl ?_
  refine J_iconst (v := 0) E (jd dk_X7_when_0 1 rfl) rfl ?_
  obtain ⟨h5, e6, hf⟩ := jbind hf
  refine J_put E (jd dk_X7_when_0 2 rfl) fl_RX7_151 e6 (fun _ => rfl) (fun _ => rfl) ?_
  refine J_aload_n E (jd dk_X7_when_0 3 rfl) rfl 0 rfl ?_
  refine J_iload_n E (jd dk_X7_when_0 4 rfl) rfl 1 rfl ?_
  obtain ⟨u9, e10, hf⟩ := jbind hf
  obtain ⟨r7, e8, hf⟩ := jbind hf
  refine J_callV E (jd dk_X7_when_0 5 rfl) ml_RX7_382 cal_X7_isJudge e10 rfl (lk_X7_isJudge (jE_g E) (jE_tr E) N e8) rfl (Nat.le_of_ble_eq_true rfl) (jR_le hX (by decide) (by decide)) (jF0 hX) rfl ?_
  rintro _ _ ⟨rfl, rfl⟩
  refine J_if_eq (tgt := 23) E (jd dk_X7_when_0 6 rfl) (by decide) (fun c11 => ?_) (fun c11 => ?_)
  · replace hf := jif_t c11 hf
    refine J_sub [0] rfl ?_
    exact lk_X7_when_b23 E hX hr N hf
  · replace hf := jif_f c11 hf
    refine J_iload_n E (jd dk_X7_when_0 7 rfl) rfl 2 rfl ?_
    refine J_i2l E (jd dk_X7_when_0 8 rfl) ?_
    refine J_lconst (v := 0) E (jd dk_X7_when_0 9 rfl) (by decide) ?_
    refine J_lconst (v := 1) E (jd dk_X7_when_0 10 rfl) (by decide) ?_
    obtain ⟨r12, e13, hf⟩ := jbind hf
    refine J_callS E (jd dk_X7_when_0 11 rfl) ml_RX7_154 cal_X7_isIn (lk_X7_isIn (jE_g E) (jE_tr E) N e13) rfl (Nat.le_of_ble_eq_true rfl) (jR_le hX (by decide) (by decide)) (jF0 hX) rfl ?_
    rintro _ _ ⟨rfl, rfl⟩
    refine J_if_ne (tgt := 29) E (jd dk_X7_when_0 12 rfl) (by decide) (fun c14 => ?_) (fun c14 => ?_)
    · replace hf := jif_f c14 hf
      refine J_aload_n E (jd dk_X7_when_0 17 rfl) rfl 0 rfl ?_
      refine J_aload_n E (jd dk_X7_when_0 18 rfl) rfl 0 rfl ?_
      obtain ⟨x15, e16, hf⟩ := jbind hf
      refine J_getr E (jd dk_X7_when_0 19 rfl) fl_RX7_106 e16 ?_
      refine J_iconst (v := 0) E (jd dk_X7_when_0 20 rfl) rfl ?_
      obtain ⟨u19, e20, hf⟩ := jbind hf
      obtain ⟨r17, e18, hf⟩ := jbind hf
      refine J_callV E (jd dk_X7_when_0 21 rfl) ml_RX7_385 cal_X7_pack e20 rfl (lk_X7_pack (jE_g E) (jE_tr E) N e18) rfl (Nat.le_of_ble_eq_true rfl) (jR_le hX (by decide) (by decide)) (jF0 hX) rfl ?_
      rintro _ _ ⟨rfl, rfl⟩
      refine J_aload_n E (jd dk_X7_when_0 22 rfl) rfl 0 rfl ?_
      refine J_iload_n E (jd dk_X7_when_0 23 rfl) rfl 1 rfl ?_
      refine J_iload_n E (jd dk_X7_when_0 24 rfl) rfl 2 rfl ?_
      refine J_iconst (v := 1) E (jd dk_X7_when_0 25 rfl) rfl ?_
      refine J_icmp_ne (tgt := 49) E (jd dk_X7_when_0 26 rfl) (by decide) (fun c21 => ?_) (fun c21 => ?_)
      · replace hf := jif_f c21 hf
        refine J_iconst (v := 0) E (jd dk_X7_when_0 29 rfl) rfl ?_
        obtain ⟨u24, e25, hf⟩ := jbind hf
        obtain ⟨r22, e23, hf⟩ := jbind hf
        refine J_callV E (jd dk_X7_when_0 30 rfl) ml_RX7_412 cal_X7_firstIn e25 rfl (lk_X7_firstIn (jE_g E) (jE_tr E) N e23) rfl (Nat.le_of_ble_eq_true rfl) (jR_le hX (by decide) (by decide)) (jF0 hX) rfl ?_
        rintro _ _ ⟨rfl, rfl⟩
        cases hf
        exact J_iret E hr rfl (jd dk_X7_when_0 31 rfl) (Nat.le_refl _) (Nat.le_refl _) ⟨rfl, rfl⟩
      · replace hf := jif_t c21 hf
        refine J_iconst (v := 1) E (jd dk_X7_when_0 27 rfl) rfl ?_
        refine J_goto (tgt := 50) E (jd dk_X7_when_0 28 rfl) (by decide) ?_
        obtain ⟨u28, e29, hf⟩ := jbind hf
        obtain ⟨r26, e27, hf⟩ := jbind hf
        refine J_callV E (jd dk_X7_when_0 30 rfl) ml_RX7_412 cal_X7_firstIn e29 rfl (lk_X7_firstIn (jE_g E) (jE_tr E) N e27) rfl (Nat.le_of_ble_eq_true rfl) (jR_le hX (by decide) (by decide)) (jF0 hX) rfl ?_
        rintro _ _ ⟨rfl, rfl⟩
        cases hf
        exact J_iret E hr rfl (jd dk_X7_when_0 31 rfl) (Nat.le_refl _) (Nat.le_refl _) ⟨rfl, rfl⟩
    · replace hf := jif_t c14 hf
      refine J_sub [0] rfl ?_
      exact lk_X7_when_b23 E hX hr N hf
def f_X7_crowdNow_b44 (N : Nat) (v0 : Nat) (v1 : Int32) (v2 : Int32) (h : AH) : Option ((Int32 × Int32 × AH) ⊕ ((Int32 × AH))) :=
  some (.inl ((v1, v2 + 1, h)))
def f_X7_crowdNow_b39 (N : Nat) (v0 : Nat) (v1 : Int32) (v2 : Int32) (w0 : Int32) (w1 : Int32) (h : AH) : Option ((Int32 × Int32 × AH) ⊕ ((Int32 × AH))) :=
  if w0 ≤ w1 then f_X7_crowdNow_b44 N v0 v1 v2 h
  else f_X7_crowdNow_b44 N v0 v2 v2 h
def f_X7_crowdNow_l4 (N : Nat) (v0 : Nat) (v1 : Int32) (v2 : Int32) (h : AH) : Option ((Int32 × Int32 × AH) ⊕ ((Int32 × AH))) :=
  (jgr 7 h v0 5).bind fun x2 =>
  (jal 0 h x2 1).bind fun x4 =>
  if x4 ≤ v2 then some (.inr ((v1, h)))
  else (jck 7 h v0).bind fun _ =>
  (f_X7_whoIs N h v0 v2).bind fun r7 =>
  (f_X7_bitsOf N r7.2 r7.1).bind fun r11 =>
  if v1 = ((-1)) then f_X7_crowdNow_b39 N v0 v1 v2 r11.1 0 r11.2
  else (jck 7 r11.2 v0).bind fun _ =>
  (f_X7_whoIs N r11.2 v0 v1).bind fun r14 =>
  (f_X7_bitsOf N r14.2 r14.1).bind fun r18 =>
  f_X7_crowdNow_b39 N v0 v1 v2 r11.1 r18.1 r18.2
def f_X7_crowdNow_b4 (N : Nat) (v0 : Nat) (v1 : Int32) (v2 : Int32) (h : AH) : Option (Int32 × AH) :=
  (itr (fun s => f_X7_crowdNow_l4 N v0 s.1 s.2.1 s.2.2) N (v1, v2, h)).bind (fun e => some (e.1, e.2))
def f_X7_crowdNow (N : Nat) (h : AH) (a0 : Nat) : Option (Int32 × AH) :=
  f_X7_crowdNow_b4 N a0 ((-1)) 0 h
set_option maxRecDepth 100000 in
set_option maxHeartbeats 4000000 in
theorem lk_X7_crowdNow_b44 {G : JG} {X : JX} (E : jE G X (RX7, cX7_crowdNow, 3)) (hX : X.2.2.2.1 = jRm 1 0 0) (hr : X.2.2.2.2.2.2.2.2.1.sig.returnType = (some .int)) (N : Nat) {Q : State → Prop} {v0 : Nat} {v1 : Int32} {v2 : Int32} {h : AH}  {q : ((Int32 × Int32 × AH) ⊕ ((Int32 × AH)))} (hf : f_X7_crowdNow_b44 N v0 v1 v2 h = some q) (kb : ∀ s' : Int32 × Int32 × AH, q = .inl s' → JW G X (RX7, cX7_crowdNow, 3) s'.2.2 [(0, .ref v0), (1, .int s'.1), (2, .int s'.2.1)] [] 4 0 0 Q) (ke0 : ∀ e : Int32 × AH, q = .inr e → JW G X (RX7, cX7_crowdNow, 3) e.2 [(1, .int e.1)] [] 50 0 0 Q) : JW G X (RX7, cX7_crowdNow, 3) h [(0, .ref v0), (1, .int v1), (2, .int v2)] [] 44 0 0 Q := by
  unfold f_X7_crowdNow_b44 at hf
  refine J_iinc (v := v2 + 1) (lv' := [(2, .int (v2 + 1)), (0, .ref v0), (1, .int v1)]) E (jd dk_X7_crowdNow_0 26 rfl) 2 rfl rfl (by decide) rfl ?_
  refine J_goto (tgt := 4) E (jd dk_X7_crowdNow_0 27 rfl) (by decide) ?_
  refine J_sub [1, 2, 0] rfl ?_
  exact kb _ (Option.some.inj hf).symm
set_option maxRecDepth 100000 in
set_option maxHeartbeats 4000000 in
theorem lk_X7_crowdNow_b39 {G : JG} {X : JX} (E : jE G X (RX7, cX7_crowdNow, 3)) (hX : X.2.2.2.1 = jRm 1 0 0) (hr : X.2.2.2.2.2.2.2.2.1.sig.returnType = (some .int)) (N : Nat) {Q : State → Prop} {v0 : Nat} {v1 : Int32} {v2 : Int32} {w0 : Int32} {w1 : Int32} {h : AH}  {q : ((Int32 × Int32 × AH) ⊕ ((Int32 × AH)))} (hf : f_X7_crowdNow_b39 N v0 v1 v2 w0 w1 h = some q) (kb : ∀ s' : Int32 × Int32 × AH, q = .inl s' → JW G X (RX7, cX7_crowdNow, 3) s'.2.2 [(0, .ref v0), (1, .int s'.1), (2, .int s'.2.1)] [] 4 0 0 Q) (ke0 : ∀ e : Int32 × AH, q = .inr e → JW G X (RX7, cX7_crowdNow, 3) e.2 [(1, .int e.1)] [] 50 0 0 Q) : JW G X (RX7, cX7_crowdNow, 3) h [(0, .ref v0), (1, .int v1), (2, .int v2)] [.int w1, .int w0] 39 0 0 Q := by
  unfold f_X7_crowdNow_b39 at hf
  refine J_icmp_le (tgt := 44) E (jd dk_X7_crowdNow_0 23 rfl) (by decide) (fun c1 => ?_) (fun c1 => ?_)
  · replace hf := jif_t c1 hf
    exact lk_X7_crowdNow_b44 E hX hr N hf kb ke0
  · replace hf := jif_f c1 hf
    refine J_iload_n E (jd dk_X7_crowdNow_0 24 rfl) rfl 2 rfl ?_
    refine J_istore_n (lv' := [(1, .int v2), (0, .ref v0), (2, .int v2)]) E (jd dk_X7_crowdNow_0 25 rfl) rfl (by decide) rfl ?_
    refine J_sub [1, 0, 2] rfl ?_
    exact lk_X7_crowdNow_b44 E hX hr N hf kb ke0
set_option maxRecDepth 100000 in
set_option maxHeartbeats 4000000 in
theorem lk_X7_crowdNow_l4 {G : JG} {X : JX} (E : jE G X (RX7, cX7_crowdNow, 3)) (hX : X.2.2.2.1 = jRm 1 0 0) (hr : X.2.2.2.2.2.2.2.2.1.sig.returnType = (some .int)) (N : Nat) {Q : State → Prop} {v0 : Nat} {v1 : Int32} {v2 : Int32}  {h : AH} {q : ((Int32 × Int32 × AH) ⊕ ((Int32 × AH)))} (hf : f_X7_crowdNow_l4 N v0 v1 v2 h = some q) (kb : ∀ s' : Int32 × Int32 × AH, q = .inl s' → JW G X (RX7, cX7_crowdNow, 3) s'.2.2 [(0, .ref v0), (1, .int s'.1), (2, .int s'.2.1)] [] 4 0 0 Q) (ke0 : ∀ e : Int32 × AH, q = .inr e → JW G X (RX7, cX7_crowdNow, 3) e.2 [(1, .int e.1)] [] 50 0 0 Q) : JW G X (RX7, cX7_crowdNow, 3) h [(0, .ref v0), (1, .int v1), (2, .int v2)] [] 4 0 0 Q := by
  unfold f_X7_crowdNow_l4 at hf
  refine J_iload_n E (jd dk_X7_crowdNow_0 4 rfl) rfl 2 rfl ?_
  refine J_aload_n E (jd dk_X7_crowdNow_0 5 rfl) rfl 0 rfl ?_
  obtain ⟨x2, e3, hf⟩ := jbind hf
  refine J_getr E (jd dk_X7_crowdNow_0 6 rfl) fl_RX7_42 e3 ?_
  refine J_iconst (v := 1) E (jd dk_X7_crowdNow_0 7 rfl) rfl ?_
  obtain ⟨x4, e5, hf⟩ := jbind hf
  refine J_iald E (jd dk_X7_crowdNow_0 8 rfl) e5 ?_
  refine J_icmp_ge (tgt := 50) E (jd dk_X7_crowdNow_0 9 rfl) (by decide) (fun c6 => ?_) (fun c6 => ?_)
  · replace hf := jif_t c6 hf
    refine J_sub [1] rfl ?_
    exact ke0 _ (Option.some.inj hf).symm
  · replace hf := jif_f c6 hf
    refine J_aload_n E (jd dk_X7_crowdNow_0 10 rfl) rfl 0 rfl ?_
    refine J_iload_n E (jd dk_X7_crowdNow_0 11 rfl) rfl 2 rfl ?_
    obtain ⟨u9, e10, hf⟩ := jbind hf
    obtain ⟨r7, e8, hf⟩ := jbind hf
    refine J_callV E (jd dk_X7_crowdNow_0 12 rfl) ml_RX7_330 cal_X7_whoIs e10 rfl (lk_X7_whoIs (jE_g E) (jE_tr E) N e8) rfl (Nat.le_of_ble_eq_true rfl) (jR_le hX (by decide) (by decide)) (jF0 hX) rfl ?_
    rintro _ _ ⟨rfl, rfl⟩
    obtain ⟨r11, e12, hf⟩ := jbind hf
    refine J_callS E (jd dk_X7_crowdNow_0 13 rfl) ml_RX7_327 cal_X7_bitsOf (lk_X7_bitsOf (jE_g E) (jE_tr E) N e12) rfl (Nat.le_of_ble_eq_true rfl) (jR_le hX (by decide) (by decide)) (jF0 hX) rfl ?_
    rintro _ _ ⟨rfl, rfl⟩
    refine J_iload_n E (jd dk_X7_crowdNow_0 14 rfl) rfl 1 rfl ?_
    refine J_iconst (v := (-1)) E (jd dk_X7_crowdNow_0 15 rfl) rfl ?_
    refine J_icmp_ne (tgt := 31) E (jd dk_X7_crowdNow_0 16 rfl) (by decide) (fun c13 => ?_) (fun c13 => ?_)
    · replace hf := jif_f c13 hf
      refine J_aload_n E (jd dk_X7_crowdNow_0 19 rfl) rfl 0 rfl ?_
      refine J_iload_n E (jd dk_X7_crowdNow_0 20 rfl) rfl 1 rfl ?_
      obtain ⟨u16, e17, hf⟩ := jbind hf
      obtain ⟨r14, e15, hf⟩ := jbind hf
      refine J_callV E (jd dk_X7_crowdNow_0 21 rfl) ml_RX7_330 cal_X7_whoIs e17 rfl (lk_X7_whoIs (jE_g E) (jE_tr E) N e15) rfl (Nat.le_of_ble_eq_true rfl) (jR_le hX (by decide) (by decide)) (jF0 hX) rfl ?_
      rintro _ _ ⟨rfl, rfl⟩
      obtain ⟨r18, e19, hf⟩ := jbind hf
      refine J_callS E (jd dk_X7_crowdNow_0 22 rfl) ml_RX7_327 cal_X7_bitsOf (lk_X7_bitsOf (jE_g E) (jE_tr E) N e19) rfl (Nat.le_of_ble_eq_true rfl) (jR_le hX (by decide) (by decide)) (jF0 hX) rfl ?_
      rintro _ _ ⟨rfl, rfl⟩
      exact lk_X7_crowdNow_b39 E hX hr N hf kb ke0
    · replace hf := jif_t c13 hf
      refine J_iconst (v := 0) E (jd dk_X7_crowdNow_0 17 rfl) rfl ?_
      refine J_goto (tgt := 39) E (jd dk_X7_crowdNow_0 18 rfl) (by decide) ?_
      exact lk_X7_crowdNow_b39 E hX hr N hf kb ke0
set_option maxRecDepth 100000 in
set_option maxHeartbeats 4000000 in
theorem lk_X7_crowdNow_b4 {G : JG} {X : JX} (E : jE G X (RX7, cX7_crowdNow, 3)) (hX : X.2.2.2.1 = jRm 1 0 0) (hr : X.2.2.2.2.2.2.2.2.1.sig.returnType = (some .int)) (N : Nat) {v0 : Nat} {v1 : Int32} {v2 : Int32} {h : AH}  {r : (Int32 × AH)} (hf : f_X7_crowdNow_b4 N v0 v1 v2 h = some r) : JW G X (RX7, cX7_crowdNow, 3) h [(0, .ref v0), (1, .int v1), (2, .int v2)] [] 4 0 0 (jEnd G X (jpi r) 0 0) := by
  unfold f_X7_crowdNow_b4 at hf
  obtain ⟨q1, h1, hf⟩ := jbind hf
  refine jloop (P := fun s => JW G X (RX7, cX7_crowdNow, 3) s.2.2 [(0, .ref v0), (1, .int s.1), (2, .int s.2.1)] [] 4 0 0 (jEnd G X (jpi r) 0 0)) (Ex := fun (e : Int32 × AH) => JW G X (RX7, cX7_crowdNow, 3) e.2 [(1, .int e.1)] [] 50 0 0 (jEnd G X (jpi r) 0 0)) (fun s q hs hb hx => lk_X7_crowdNow_l4 E hX hr N hs (fun s' hs => hb s' hs) (fun e he => hx e he)) N _ q1 h1 ?_
  generalize q1 = e at hf ⊢
  refine J_iload_n E (jd dk_X7_crowdNow_0 28 rfl) rfl 0 rfl ?_
  cases hf
  exact J_iret E hr rfl (jd dk_X7_crowdNow_0 29 rfl) (Nat.le_refl _) (Nat.le_refl _) ⟨rfl, rfl⟩
set_option maxRecDepth 100000 in
set_option maxHeartbeats 4000000 in
theorem lk_X7_crowdNow {G : JG} {l : Launch} (hG : jG G) (htr : l.stackTraces = false) (N : Nat) {h : AH} {a0 : Nat} {r : (Int32 × AH)} (hf : f_X7_crowdNow N h a0 = some r) : jMet G l yX7_crowdNow cX7_crowdNow 3 (some .int) 1 0 0 [.ref a0] h (jpi r) := by
  unfold f_X7_crowdNow at hf
  refine jMet_of hG htr (by decide) (Nat.le_of_ble_eq_true rfl) ?_
  intro X E hl9 hr hX _ _
  show JW G X (RX7, cX7_crowdNow, 3) h [(0, .ref a0)] [] 0 0 0 (jEnd G X (jpi r) 0 0)
  refine J_iconst (v := (-1)) E (jd dk_X7_crowdNow_0 0 rfl) rfl ?_
  refine J_istore_n (lv' := [(1, .int ((-1))), (0, .ref a0)]) E (jd dk_X7_crowdNow_0 1 rfl) rfl (by decide) rfl ?_
  refine J_iconst (v := 0) E (jd dk_X7_crowdNow_0 2 rfl) rfl ?_
  refine J_istore_n (lv' := [(2, .int 0), (1, .int ((-1))), (0, .ref a0)]) E (jd dk_X7_crowdNow_0 3 rfl) rfl (by decide) rfl ?_
  refine J_sub [2, 1, 0] rfl ?_
  exact lk_X7_crowdNow_b4 E hX hr N hf
def f_X7_later_b96 (N : Nat) (v0 : Nat) (w0 : Int32) (h : AH) : Option (Int32 × AH) :=
  (jgr 7 h v0 41).bind fun x1 =>
  (jck 7 h v0).bind fun _ =>
  (f_X7_unpack N h v0 x1 0).bind fun r3 =>
  some (w0, r3)
def f_X7_later (N : Nat) (h : AH) (a0 : Nat) (a1 : Int32) (a2 : Int32) : Option (Int32 × AH) :=
  (jwi 7 h a0 4 0).bind fun h7 =>
  (f_X7_isIn N h7 (Int32.toInt64 a2) 0 3).bind fun r9 =>
  if r9.1 = 0 then (jck 7 r9.2 a0).bind fun _ =>
  (f_X7_fail N r9.2 a0 1).bind fun r48 =>
  some (r48.1, r48.2)
  else (f_X7_isIn N r9.2 (Int32.toInt64 a1) 0 60).bind fun r12 =>
  if r12.1 = 0 then (jck 7 r12.2 a0).bind fun _ =>
  (f_X7_fail N r12.2 a0 2).bind fun r44 =>
  some (r44.1, r44.2)
  else (jgr 7 r12.2 a0 41).bind fun x15 =>
  (jck 7 r12.2 a0).bind fun _ =>
  (f_X7_pack N r12.2 a0 x15 0).bind fun r17 =>
  (jck 7 r17 a0).bind fun _ =>
  (f_X7_goOn N r17 a0 a1).bind fun r21 =>
  if a2 = 0 then (jck 7 r21 a0).bind fun _ =>
  (f_X7_fairOnes N r21 a0).bind fun r40 =>
  f_X7_later_b96 N a0 r40.1 r40.2
  else if a2 = 1 then (jck 7 r21 a0).bind fun _ =>
  (f_X7_whoIs N r21 a0 ((-2))).bind fun r36 =>
  f_X7_later_b96 N a0 r36.1 r36.2
  else if a2 = 2 then (jck 7 r21 a0).bind fun _ =>
  (f_X7_onReaches N r21 a0).bind fun r32 =>
  f_X7_later_b96 N a0 r32.1 r32.2
  else (jck 7 r21 a0).bind fun _ =>
  (f_X7_crowdNow N r21 a0).bind fun r28 =>
  f_X7_later_b96 N a0 r28.1 r28.2
set_option maxRecDepth 100000 in
set_option maxHeartbeats 4000000 in
theorem lk_X7_later_b96 {G : JG} {X : JX} (E : jE G X (RX7, cX7_later, 4)) (hX : X.2.2.2.1 = jRm 6 0 0) (hr : X.2.2.2.2.2.2.2.2.1.sig.returnType = (some .int)) (N : Nat) {v0 : Nat} {w0 : Int32} {h : AH}  {r : (Int32 × AH)} (hf : f_X7_later_b96 N v0 w0 h = some r) : JW G X (RX7, cX7_later, 4) h [(0, .ref v0)] [.int w0] 96 0 0 (jEnd G X (jpi r) 0 0) := by
  unfold f_X7_later_b96 at hf
  refine J_istore_n (lv' := [(3, .int w0), (0, .ref v0)]) E (jd dk_X7_later_1 1 rfl) rfl (by decide) rfl ?_
  refine J_aload_n E (jd dk_X7_later_1 2 rfl) rfl 1 rfl ?_
  refine J_aload_n E (jd dk_X7_later_1 3 rfl) rfl 1 rfl ?_
  obtain ⟨x1, e2, hf⟩ := jbind hf
  refine J_getr E (jd dk_X7_later_1 4 rfl) fl_RX7_106 e2 ?_
  refine J_iconst (v := 0) E (jd dk_X7_later_1 5 rfl) rfl ?_
  obtain ⟨u5, e6, hf⟩ := jbind hf
  obtain ⟨r3, e4, hf⟩ := jbind hf
  refine J_callV E (jd dk_X7_later_1 6 rfl) ml_RX7_407 cal_X7_unpack e6 rfl (lk_X7_unpack (jE_g E) (jE_tr E) N e4) rfl (Nat.le_of_ble_eq_true rfl) (jR_le hX (by decide) (by decide)) (jF0 hX) rfl ?_
  rintro _ _ ⟨rfl, rfl⟩
  refine J_iload_n E (jd dk_X7_later_1 7 rfl) rfl 0 rfl ?_
  cases hf
  exact J_iret E hr rfl (jd dk_X7_later_1 8 rfl) (Nat.le_refl _) (Nat.le_refl _) ⟨rfl, rfl⟩
set_option maxRecDepth 100000 in
set_option maxHeartbeats 4000000 in
theorem lk_X7_later {G : JG} {l : Launch} (hG : jG G) (htr : l.stackTraces = false) (N : Nat) {h : AH} {a0 : Nat} {a1 : Int32} {a2 : Int32} {r : (Int32 × AH)} (hf : f_X7_later N h a0 a1 a2 = some r) : jMet G l yX7_later cX7_later 4 (some .int) 6 0 0 [.ref a0, .int a1, .int a2] h (jpi r) := by
  unfold f_X7_later at hf
  refine jMet_of hG htr (by decide) (Nat.le_of_ble_eq_true rfl) ?_
  intro X E hl9 hr hX _ _
  show JW G X (RX7, cX7_later, 4) h [(0, .ref a0), (1, .int a1), (2, .int a2)] [] 0 0 0 (jEnd G X (jpi r) 0 0)
  refine J_aload_n E (jd dk_X7_later_0 0 rfl) rfl 0 rfl ?_
  refine J_iconst (v := 0) E (jd dk_X7_later_0 1 rfl) rfl ?_
  obtain ⟨h7, e8, hf⟩ := jbind hf
  refine J_put E (jd dk_X7_later_0 2 rfl) fl_RX7_151 e8 (fun _ => rfl) (fun _ => rfl) ?_
  refine J_iload_n E (jd dk_X7_later_0 3 rfl) rfl 2 rfl ?_
  refine J_i2l E (jd dk_X7_later_0 4 rfl) ?_
  refine J_lconst (v := 0) E (jd dk_X7_later_0 5 rfl) (by decide) ?_
  refine J_ldc2 (v := 3) E (jd dk_X7_later_0 6 rfl) (jl31_in _ (List.mem_of_getElem? (i := 39) rfl)) ?_
  obtain ⟨r9, e10, hf⟩ := jbind hf
  refine J_callS E (jd dk_X7_later_0 7 rfl) ml_RX7_154 cal_X7_isIn (lk_X7_isIn (jE_g E) (jE_tr E) N e10) rfl (Nat.le_of_ble_eq_true rfl) (jR_le hX (by decide) (by decide)) (jF0 hX) rfl ?_
  rintro _ _ ⟨rfl, rfl⟩
  refine J_if_ne (tgt := 23) E (jd dk_X7_later_0 8 rfl) (by decide) (fun c11 => ?_) (fun c11 => ?_)
  · replace hf := jif_f c11 hf
    refine J_iload_n E (jd dk_X7_later_0 13 rfl) rfl 1 rfl ?_
    refine J_i2l E (jd dk_X7_later_0 14 rfl) ?_
    refine J_lconst (v := 0) E (jd dk_X7_later_0 15 rfl) (by decide) ?_
    refine J_ldc2 (v := 60) E (jd dk_X7_later_0 16 rfl) (jl32_in _ (List.mem_of_getElem? (i := 12) rfl)) ?_
    obtain ⟨r12, e13, hf⟩ := jbind hf
    refine J_callS E (jd dk_X7_later_0 17 rfl) ml_RX7_154 cal_X7_isIn (lk_X7_isIn (jE_g E) (jE_tr E) N e13) rfl (Nat.le_of_ble_eq_true rfl) (jR_le hX (by decide) (by decide)) (jF0 hX) rfl ?_
    rintro _ _ ⟨rfl, rfl⟩
    refine J_if_ne (tgt := 41) E (jd dk_X7_later_0 18 rfl) (by decide) (fun c14 => ?_) (fun c14 => ?_)
    · replace hf := jif_f c14 hf
      refine J_aload_n E (jd dk_X7_later_0 23 rfl) rfl 0 rfl ?_
      refine J_aload_n E (jd dk_X7_later_0 24 rfl) rfl 0 rfl ?_
      obtain ⟨x15, e16, hf⟩ := jbind hf
      refine J_getr E (jd dk_X7_later_0 25 rfl) fl_RX7_106 e16 ?_
      refine J_iconst (v := 0) E (jd dk_X7_later_0 26 rfl) rfl ?_
      obtain ⟨u19, e20, hf⟩ := jbind hf
      obtain ⟨r17, e18, hf⟩ := jbind hf
      refine J_callV E (jd dk_X7_later_0 27 rfl) ml_RX7_385 cal_X7_pack e20 rfl (lk_X7_pack (jE_g E) (jE_tr E) N e18) rfl (Nat.le_of_ble_eq_true rfl) (jR_le hX (by decide) (by decide)) (jF0 hX) rfl ?_
      rintro _ _ ⟨rfl, rfl⟩
      refine J_aload_n E (jd dk_X7_later_0 28 rfl) rfl 0 rfl ?_
      refine J_iload_n E (jd dk_X7_later_0 29 rfl) rfl 1 rfl ?_
      obtain ⟨u23, e24, hf⟩ := jbind hf
      obtain ⟨r21, e22, hf⟩ := jbind hf
      refine J_callV E (jd dk_X7_later_0 30 rfl) ml_RX7_397 cal_X7_goOn e24 rfl (lk_X7_goOn (jE_g E) (jE_tr E) N e22) rfl (Nat.le_of_ble_eq_true rfl) (jR_le hX (by decide) (by decide)) (jF0 hX) rfl ?_
      rintro _ _ ⟨rfl, rfl⟩
      refine J_iload_n E (jd dk_X7_later_0 31 rfl) rfl 2 rfl ?_
      refine J_if_ne (tgt := 66) E (jd dk_X7_later_0 32 rfl) (by decide) (fun c25 => ?_) (fun c25 => ?_)
      · replace hf := jif_f c25 hf
        refine J_iload_n E (jd dk_X7_later_0 36 rfl) rfl 2 rfl ?_
        refine J_iconst (v := 1) E (jd dk_X7_later_0 37 rfl) rfl ?_
        refine J_icmp_ne (tgt := 80) E (jd dk_X7_later_0 38 rfl) (by decide) (fun c26 => ?_) (fun c26 => ?_)
        · replace hf := jif_f c26 hf
          refine J_iload_n E (jd dk_X7_later_0 43 rfl) rfl 2 rfl ?_
          refine J_iconst (v := 2) E (jd dk_X7_later_0 44 rfl) rfl ?_
          refine J_icmp_ne (tgt := 92) E (jd dk_X7_later_0 45 rfl) (by decide) (fun c27 => ?_) (fun c27 => ?_)
          · replace hf := jif_f c27 hf
            refine J_aload_n E (jd dk_X7_later_0 49 rfl) rfl 0 rfl ?_
            obtain ⟨u30, e31, hf⟩ := jbind hf
            obtain ⟨r28, e29, hf⟩ := jbind hf
            refine J_callV E (jd dk_X7_later_1 0 rfl) ml_RX7_415 cal_X7_crowdNow e31 rfl (lk_X7_crowdNow (jE_g E) (jE_tr E) N e29) rfl (Nat.le_of_ble_eq_true rfl) (jR_le hX (by decide) (by decide)) (jF0 hX) rfl ?_
            rintro _ _ ⟨rfl, rfl⟩
            refine J_sub [0] rfl ?_
            exact lk_X7_later_b96 E hX hr N hf
          · replace hf := jif_t c27 hf
            refine J_aload_n E (jd dk_X7_later_0 46 rfl) rfl 0 rfl ?_
            obtain ⟨u34, e35, hf⟩ := jbind hf
            obtain ⟨r32, e33, hf⟩ := jbind hf
            refine J_callV E (jd dk_X7_later_0 47 rfl) ml_RX7_368 cal_X7_onReaches e35 rfl (lk_X7_onReaches (jE_g E) (jE_tr E) N e33) rfl (Nat.le_of_ble_eq_true rfl) (jR_le hX (by decide) (by decide)) (jF0 hX) rfl ?_
            rintro _ _ ⟨rfl, rfl⟩
            refine J_goto (tgt := 96) E (jd dk_X7_later_0 48 rfl) (by decide) ?_
            refine J_sub [0] rfl ?_
            exact lk_X7_later_b96 E hX hr N hf
        · replace hf := jif_t c26 hf
          refine J_aload_n E (jd dk_X7_later_0 39 rfl) rfl 0 rfl ?_
          refine J_bipush (v := (-2)) E (jd dk_X7_later_0 40 rfl) (by decide) ?_
          obtain ⟨u38, e39, hf⟩ := jbind hf
          obtain ⟨r36, e37, hf⟩ := jbind hf
          refine J_callV E (jd dk_X7_later_0 41 rfl) ml_RX7_330 cal_X7_whoIs e39 rfl (lk_X7_whoIs (jE_g E) (jE_tr E) N e37) rfl (Nat.le_of_ble_eq_true rfl) (jR_le hX (by decide) (by decide)) (jF0 hX) rfl ?_
          rintro _ _ ⟨rfl, rfl⟩
          refine J_goto (tgt := 96) E (jd dk_X7_later_0 42 rfl) (by decide) ?_
          refine J_sub [0] rfl ?_
          exact lk_X7_later_b96 E hX hr N hf
      · replace hf := jif_t c25 hf
        refine J_aload_n E (jd dk_X7_later_0 33 rfl) rfl 0 rfl ?_
        obtain ⟨u42, e43, hf⟩ := jbind hf
        obtain ⟨r40, e41, hf⟩ := jbind hf
        refine J_callV E (jd dk_X7_later_0 34 rfl) ml_RX7_365 cal_X7_fairOnes e43 rfl (lk_X7_fairOnes (jE_g E) (jE_tr E) N e41) rfl (Nat.le_of_ble_eq_true rfl) (jR_le hX (by decide) (by decide)) (jF0 hX) rfl ?_
        rintro _ _ ⟨rfl, rfl⟩
        refine J_goto (tgt := 96) E (jd dk_X7_later_0 35 rfl) (by decide) ?_
        refine J_sub [0] rfl ?_
        exact lk_X7_later_b96 E hX hr N hf
    · replace hf := jif_t c14 hf
      refine J_aload_n E (jd dk_X7_later_0 19 rfl) rfl 0 rfl ?_
      refine J_iconst (v := 2) E (jd dk_X7_later_0 20 rfl) rfl ?_
      obtain ⟨u46, e47, hf⟩ := jbind hf
      obtain ⟨r44, e45, hf⟩ := jbind hf
      refine J_callV E (jd dk_X7_later_0 21 rfl) ml_RX7_293 cal_X7_fail e47 rfl (lk_X7_fail (jE_g E) (jE_tr E) N e45) rfl (Nat.le_of_ble_eq_true rfl) (jR_le hX (by decide) (by decide)) (jF0 hX) rfl ?_
      rintro _ _ ⟨rfl, rfl⟩
      cases hf
      exact J_iret E hr rfl (jd dk_X7_later_0 22 rfl) (Nat.le_refl _) (Nat.le_refl _) ⟨rfl, rfl⟩
  · replace hf := jif_t c11 hf
    refine J_aload_n E (jd dk_X7_later_0 9 rfl) rfl 0 rfl ?_
    refine J_iconst (v := 1) E (jd dk_X7_later_0 10 rfl) rfl ?_
    obtain ⟨u50, e51, hf⟩ := jbind hf
    obtain ⟨r48, e49, hf⟩ := jbind hf
    refine J_callV E (jd dk_X7_later_0 11 rfl) ml_RX7_293 cal_X7_fail e51 rfl (lk_X7_fail (jE_g E) (jE_tr E) N e49) rfl (Nat.le_of_ble_eq_true rfl) (jR_le hX (by decide) (by decide)) (jF0 hX) rfl ?_
    rintro _ _ ⟨rfl, rfl⟩
    cases hf
    exact J_iret E hr rfl (jd dk_X7_later_0 12 rfl) (Nat.le_refl _) (Nat.le_refl _) ⟨rfl, rfl⟩
def f_X7_beside_b21 (N : Nat) (v0 : Nat) (h : AH) : Option (Int32 × AH) :=
  (jck 7 h v0).bind fun _ =>
  (f_X7_fail N h v0 1).bind fun r1 =>
  some (r1.1, r1.2)
def f_X7_beside_b96 (N : Nat) (v0 : Nat) (v3 : Int32) (h : AH) : Option (Int32 × AH) :=
  (jgr 7 h v0 41).bind fun x5 =>
  (jck 7 h v0).bind fun _ =>
  (f_X7_unpack N h v0 x5 0).bind fun r7 =>
  some (v3, r7)
def f_X7_beside_b85 (N : Nat) (v0 : Nat) (v1 : Int32) (v2 : Int32) (v3 : Int32) (v4 : Int32) (h : AH) : Option ((Int32 × Int32 × AH) ⊕ ((Int32 × AH))) :=
  (jck 7 h v0).bind fun _ =>
  (f_X7_goOn N h v0 1).bind fun r11 =>
  some (.inl ((v3, v4 + 1, r11)))
def f_X7_beside_l41 (N : Nat) (v0 : Nat) (v1 : Int32) (v2 : Int32) (v3 : Int32) (v4 : Int32) (h : AH) : Option ((Int32 × Int32 × AH) ⊕ ((Int32 × AH))) :=
  if 60 < v4 then some (.inr ((v3, h)))
  else if v3 = ((-1)) then if v1 = v2 then some (.inr ((v3, h)))
  else (jgr 7 h v0 28).bind fun x18 =>
  (jal 0 h x18 v1).bind fun x20 =>
  if x20 < 0 then f_X7_beside_b85 N v0 v1 v2 v3 v4 h
  else (jgr 7 h v0 28).bind fun x23 =>
  (jal 0 h x23 v1).bind fun x25 =>
  (jgr 7 h v0 28).bind fun x27 =>
  (jal 0 h x27 v2).bind fun x29 =>
  if x25 = x29 then f_X7_beside_b85 N v0 v1 v2 v4 v4 h
  else f_X7_beside_b85 N v0 v1 v2 v3 v4 h
  else some (.inr ((v3, h)))
def f_X7_beside_b41 (N : Nat) (v0 : Nat) (v1 : Int32) (v2 : Int32) (v3 : Int32) (v4 : Int32) (h : AH) : Option (Int32 × AH) :=
  (itr (fun s => f_X7_beside_l41 N v0 v1 v2 s.1 s.2.1 s.2.2) N (v3, v4, h)).bind (fun e => f_X7_beside_b96 N v0 e.1 e.2)
def f_X7_beside (N : Nat) (h : AH) (a0 : Nat) (a1 : Int32) (a2 : Int32) : Option (Int32 × AH) :=
  (jwi 7 h a0 4 0).bind fun h32 =>
  (jck 7 h32 a0).bind fun _ =>
  (f_X7_isJudge N h32 a0 a1).bind fun r34 =>
  if r34.1 = 0 then f_X7_beside_b21 N a0 r34.2
  else (jck 7 r34.2 a0).bind fun _ =>
  (f_X7_isJudge N r34.2 a0 a2).bind fun r39 =>
  if r39.1 = 0 then f_X7_beside_b21 N a0 r39.2
  else (jgr 7 r39.2 a0 41).bind fun x44 =>
  (jck 7 r39.2 a0).bind fun _ =>
  (f_X7_pack N r39.2 a0 x44 0).bind fun r46 =>
  f_X7_beside_b41 N a0 a1 a2 ((-1)) 0 r46
set_option maxRecDepth 100000 in
set_option maxHeartbeats 4000000 in
theorem lk_X7_beside_b21 {G : JG} {X : JX} (E : jE G X (RX7, cX7_beside, 5)) (hX : X.2.2.2.1 = jRm 6 0 0) (hr : X.2.2.2.2.2.2.2.2.1.sig.returnType = (some .int)) (N : Nat) {v0 : Nat} {h : AH}  {r : (Int32 × AH)} (hf : f_X7_beside_b21 N v0 h = some r) : JW G X (RX7, cX7_beside, 5) h [(0, .ref v0)] [] 21 0 0 (jEnd G X (jpi r) 0 0) := by
  unfold f_X7_beside_b21 at hf
  refine J_aload_n E (jd dk_X7_beside_0 11 rfl) rfl 0 rfl ?_
  refine J_iconst (v := 1) E (jd dk_X7_beside_0 12 rfl) rfl ?_
  obtain ⟨u3, e4, hf⟩ := jbind hf
  obtain ⟨r1, e2, hf⟩ := jbind hf
  refine J_callV E (jd dk_X7_beside_0 13 rfl) ml_RX7_293 cal_X7_fail e4 rfl (lk_X7_fail (jE_g E) (jE_tr E) N e2) rfl (Nat.le_of_ble_eq_true rfl) (jR_le hX (by decide) (by decide)) (jF0 hX) rfl ?_
  rintro _ _ ⟨rfl, rfl⟩
  cases hf
  exact J_iret E hr rfl (jd dk_X7_beside_0 14 rfl) (Nat.le_refl _) (Nat.le_refl _) ⟨rfl, rfl⟩
set_option maxRecDepth 100000 in
set_option maxHeartbeats 4000000 in
theorem lk_X7_beside_b96 {G : JG} {X : JX} (E : jE G X (RX7, cX7_beside, 5)) (hX : X.2.2.2.1 = jRm 6 0 0) (hr : X.2.2.2.2.2.2.2.2.1.sig.returnType = (some .int)) (N : Nat) {v0 : Nat} {v3 : Int32} {h : AH}  {r : (Int32 × AH)} (hf : f_X7_beside_b96 N v0 v3 h = some r) : JW G X (RX7, cX7_beside, 5) h [(0, .ref v0), (3, .int v3)] [] 96 0 0 (jEnd G X (jpi r) 0 0) := by
  unfold f_X7_beside_b96 at hf
  refine J_aload_n E (jd dk_X7_beside_1 4 rfl) rfl 0 rfl ?_
  refine J_aload_n E (jd dk_X7_beside_1 5 rfl) rfl 0 rfl ?_
  obtain ⟨x5, e6, hf⟩ := jbind hf
  refine J_getr E (jd dk_X7_beside_1 6 rfl) fl_RX7_106 e6 ?_
  refine J_iconst (v := 0) E (jd dk_X7_beside_1 7 rfl) rfl ?_
  obtain ⟨u9, e10, hf⟩ := jbind hf
  obtain ⟨r7, e8, hf⟩ := jbind hf
  refine J_callV E (jd dk_X7_beside_1 8 rfl) ml_RX7_407 cal_X7_unpack e10 rfl (lk_X7_unpack (jE_g E) (jE_tr E) N e8) rfl (Nat.le_of_ble_eq_true rfl) (jR_le hX (by decide) (by decide)) (jF0 hX) rfl ?_
  rintro _ _ ⟨rfl, rfl⟩
  refine J_iload_n E (jd dk_X7_beside_1 9 rfl) rfl 1 rfl ?_
  cases hf
  exact J_iret E hr rfl (jd dk_X7_beside_1 10 rfl) (Nat.le_refl _) (Nat.le_refl _) ⟨rfl, rfl⟩
set_option maxRecDepth 100000 in
set_option maxHeartbeats 4000000 in
theorem lk_X7_beside_b85 {G : JG} {X : JX} (E : jE G X (RX7, cX7_beside, 5)) (hX : X.2.2.2.1 = jRm 6 0 0) (hr : X.2.2.2.2.2.2.2.2.1.sig.returnType = (some .int)) (N : Nat) {Q : State → Prop} {v0 : Nat} {v1 : Int32} {v2 : Int32} {v3 : Int32} {v4 : Int32} {h : AH}  {q : ((Int32 × Int32 × AH) ⊕ ((Int32 × AH)))} (hf : f_X7_beside_b85 N v0 v1 v2 v3 v4 h = some q) (kb : ∀ s' : Int32 × Int32 × AH, q = .inl s' → JW G X (RX7, cX7_beside, 5) s'.2.2 [(0, .ref v0), (1, .int v1), (2, .int v2), (3, .int s'.1), (4, .int s'.2.1)] [] 41 0 0 Q) (ke0 : ∀ e : Int32 × AH, q = .inr e → JW G X (RX7, cX7_beside, 5) e.2 [(0, .ref v0), (3, .int e.1)] [] 96 0 0 Q) : JW G X (RX7, cX7_beside, 5) h [(0, .ref v0), (1, .int v1), (2, .int v2), (3, .int v3), (4, .int v4)] [] 85 0 0 Q := by
  unfold f_X7_beside_b85 at hf
  refine J_aload_n E (jd dk_X7_beside_0 49 rfl) rfl 0 rfl ?_
  refine J_iconst (v := 1) E (jd dk_X7_beside_1 0 rfl) rfl ?_
  obtain ⟨u13, e14, hf⟩ := jbind hf
  obtain ⟨r11, e12, hf⟩ := jbind hf
  refine J_callV E (jd dk_X7_beside_1 1 rfl) ml_RX7_397 cal_X7_goOn e14 rfl (lk_X7_goOn (jE_g E) (jE_tr E) N e12) rfl (Nat.le_of_ble_eq_true rfl) (jR_le hX (by decide) (by decide)) (jF0 hX) rfl ?_
  rintro _ _ ⟨rfl, rfl⟩
  refine J_iinc (v := v4 + 1) (lv' := [(4, .int (v4 + 1)), (0, .ref v0), (1, .int v1), (2, .int v2), (3, .int v3)]) E (jd dk_X7_beside_1 2 rfl) 4 rfl rfl (by decide) rfl ?_
  refine J_goto (tgt := 41) E (jd dk_X7_beside_1 3 rfl) (by decide) ?_
  refine J_sub [1, 2, 3, 4, 0] rfl ?_
  exact kb _ (Option.some.inj hf).symm
set_option maxRecDepth 100000 in
set_option maxHeartbeats 4000000 in
theorem lk_X7_beside_l41 {G : JG} {X : JX} (E : jE G X (RX7, cX7_beside, 5)) (hX : X.2.2.2.1 = jRm 6 0 0) (hr : X.2.2.2.2.2.2.2.2.1.sig.returnType = (some .int)) (N : Nat) {Q : State → Prop} {v0 : Nat} {v1 : Int32} {v2 : Int32} {v3 : Int32} {v4 : Int32}  {h : AH} {q : ((Int32 × Int32 × AH) ⊕ ((Int32 × AH)))} (hf : f_X7_beside_l41 N v0 v1 v2 v3 v4 h = some q) (kb : ∀ s' : Int32 × Int32 × AH, q = .inl s' → JW G X (RX7, cX7_beside, 5) s'.2.2 [(0, .ref v0), (1, .int v1), (2, .int v2), (3, .int s'.1), (4, .int s'.2.1)] [] 41 0 0 Q) (ke0 : ∀ e : Int32 × AH, q = .inr e → JW G X (RX7, cX7_beside, 5) e.2 [(0, .ref v0), (3, .int e.1)] [] 96 0 0 Q) : JW G X (RX7, cX7_beside, 5) h [(0, .ref v0), (1, .int v1), (2, .int v2), (3, .int v3), (4, .int v4)] [] 41 0 0 Q := by
  unfold f_X7_beside_l41 at hf
  refine J_iload E (jd dk_X7_beside_0 24 rfl) 4 rfl ?_
  refine J_bipush (v := 60) E (jd dk_X7_beside_0 25 rfl) (by decide) ?_
  refine J_icmp_gt (tgt := 96) E (jd dk_X7_beside_0 26 rfl) (by decide) (fun c15 => ?_) (fun c15 => ?_)
  · replace hf := jif_t c15 hf
    refine J_sub [0, 3] rfl ?_
    exact ke0 _ (Option.some.inj hf).symm
  · replace hf := jif_f c15 hf
    refine J_iload_n E (jd dk_X7_beside_0 27 rfl) rfl 3 rfl ?_
    refine J_iconst (v := (-1)) E (jd dk_X7_beside_0 28 rfl) rfl ?_
    refine J_icmp_ne (tgt := 96) E (jd dk_X7_beside_0 29 rfl) (by decide) (fun c16 => ?_) (fun c16 => ?_)
    · replace hf := jif_f c16 hf
      refine J_sub [0, 3] rfl ?_
      exact ke0 _ (Option.some.inj hf).symm
    · replace hf := jif_t c16 hf
      refine J_iload_n E (jd dk_X7_beside_0 30 rfl) rfl 1 rfl ?_
      refine J_iload_n E (jd dk_X7_beside_0 31 rfl) rfl 2 rfl ?_
      refine J_icmp_eq (tgt := 96) E (jd dk_X7_beside_0 32 rfl) (by decide) (fun c17 => ?_) (fun c17 => ?_)
      · replace hf := jif_t c17 hf
        refine J_sub [0, 3] rfl ?_
        exact ke0 _ (Option.some.inj hf).symm
      · replace hf := jif_f c17 hf
        refine J_aload_n E (jd dk_X7_beside_0 33 rfl) rfl 0 rfl ?_
        obtain ⟨x18, e19, hf⟩ := jbind hf
        refine J_getr E (jd dk_X7_beside_0 34 rfl) fl_RX7_81 e19 ?_
        refine J_iload_n E (jd dk_X7_beside_0 35 rfl) rfl 1 rfl ?_
        obtain ⟨x20, e21, hf⟩ := jbind hf
        refine J_iald E (jd dk_X7_beside_0 36 rfl) e21 ?_
        refine J_if_lt (tgt := 85) E (jd dk_X7_beside_0 37 rfl) (by decide) (fun c22 => ?_) (fun c22 => ?_)
        · replace hf := jif_t c22 hf
          exact lk_X7_beside_b85 E hX hr N hf kb ke0
        · replace hf := jif_f c22 hf
          refine J_aload_n E (jd dk_X7_beside_0 38 rfl) rfl 0 rfl ?_
          obtain ⟨x23, e24, hf⟩ := jbind hf
          refine J_getr E (jd dk_X7_beside_0 39 rfl) fl_RX7_81 e24 ?_
          refine J_iload_n E (jd dk_X7_beside_0 40 rfl) rfl 1 rfl ?_
          obtain ⟨x25, e26, hf⟩ := jbind hf
          refine J_iald E (jd dk_X7_beside_0 41 rfl) e26 ?_
          refine J_aload_n E (jd dk_X7_beside_0 42 rfl) rfl 0 rfl ?_
          obtain ⟨x27, e28, hf⟩ := jbind hf
          refine J_getr E (jd dk_X7_beside_0 43 rfl) fl_RX7_81 e28 ?_
          refine J_iload_n E (jd dk_X7_beside_0 44 rfl) rfl 2 rfl ?_
          obtain ⟨x29, e30, hf⟩ := jbind hf
          refine J_iald E (jd dk_X7_beside_0 45 rfl) e30 ?_
          refine J_icmp_ne (tgt := 85) E (jd dk_X7_beside_0 46 rfl) (by decide) (fun c31 => ?_) (fun c31 => ?_)
          · replace hf := jif_f c31 hf
            exact lk_X7_beside_b85 E hX hr N hf kb ke0
          · replace hf := jif_t c31 hf
            refine J_iload E (jd dk_X7_beside_0 47 rfl) 4 rfl ?_
            refine J_istore_n (lv' := [(3, .int v4), (0, .ref v0), (1, .int v1), (2, .int v2), (4, .int v4)]) E (jd dk_X7_beside_0 48 rfl) rfl (by decide) rfl ?_
            refine J_sub [1, 2, 3, 0, 4] rfl ?_
            exact lk_X7_beside_b85 E hX hr N hf kb ke0
set_option maxRecDepth 100000 in
set_option maxHeartbeats 4000000 in
theorem lk_X7_beside_b41 {G : JG} {X : JX} (E : jE G X (RX7, cX7_beside, 5)) (hX : X.2.2.2.1 = jRm 6 0 0) (hr : X.2.2.2.2.2.2.2.2.1.sig.returnType = (some .int)) (N : Nat) {v0 : Nat} {v1 : Int32} {v2 : Int32} {v3 : Int32} {v4 : Int32} {h : AH}  {r : (Int32 × AH)} (hf : f_X7_beside_b41 N v0 v1 v2 v3 v4 h = some r) : JW G X (RX7, cX7_beside, 5) h [(0, .ref v0), (1, .int v1), (2, .int v2), (3, .int v3), (4, .int v4)] [] 41 0 0 (jEnd G X (jpi r) 0 0) := by
  unfold f_X7_beside_b41 at hf
  obtain ⟨q1, h1, hf⟩ := jbind hf
  refine jloop (P := fun s => JW G X (RX7, cX7_beside, 5) s.2.2 [(0, .ref v0), (1, .int v1), (2, .int v2), (3, .int s.1), (4, .int s.2.1)] [] 41 0 0 (jEnd G X (jpi r) 0 0)) (Ex := fun (e : Int32 × AH) => JW G X (RX7, cX7_beside, 5) e.2 [(0, .ref v0), (3, .int e.1)] [] 96 0 0 (jEnd G X (jpi r) 0 0)) (fun s q hs hb hx => lk_X7_beside_l41 E hX hr N hs (fun s' hs => hb s' hs) (fun e he => hx e he)) N _ q1 h1 ?_
  generalize q1 = e at hf ⊢
  exact lk_X7_beside_b96 E hX hr N hf
set_option maxRecDepth 100000 in
set_option maxHeartbeats 4000000 in
theorem lk_X7_beside {G : JG} {l : Launch} (hG : jG G) (htr : l.stackTraces = false) (N : Nat) {h : AH} {a0 : Nat} {a1 : Int32} {a2 : Int32} {r : (Int32 × AH)} (hf : f_X7_beside N h a0 a1 a2 = some r) : jMet G l yX7_beside cX7_beside 5 (some .int) 6 0 0 [.ref a0, .int a1, .int a2] h (jpi r) := by
  unfold f_X7_beside at hf
  refine jMet_of hG htr (by decide) (Nat.le_of_ble_eq_true rfl) ?_
  intro X E hl9 hr hX _ _
  show JW G X (RX7, cX7_beside, 5) h [(0, .ref a0), (1, .int a1), (2, .int a2)] [] 0 0 0 (jEnd G X (jpi r) 0 0)
  refine J_aload_n E (jd dk_X7_beside_0 0 rfl) rfl 0 rfl ?_
  refine J_iconst (v := 0) E (jd dk_X7_beside_0 1 rfl) rfl ?_
  obtain ⟨h32, e33, hf⟩ := jbind hf
  refine J_put E (jd dk_X7_beside_0 2 rfl) fl_RX7_151 e33 (fun _ => rfl) (fun _ => rfl) ?_
  refine J_aload_n E (jd dk_X7_beside_0 3 rfl) rfl 0 rfl ?_
  refine J_iload_n E (jd dk_X7_beside_0 4 rfl) rfl 1 rfl ?_
  obtain ⟨u36, e37, hf⟩ := jbind hf
  obtain ⟨r34, e35, hf⟩ := jbind hf
  refine J_callV E (jd dk_X7_beside_0 5 rfl) ml_RX7_382 cal_X7_isJudge e37 rfl (lk_X7_isJudge (jE_g E) (jE_tr E) N e35) rfl (Nat.le_of_ble_eq_true rfl) (jR_le hX (by decide) (by decide)) (jF0 hX) rfl ?_
  rintro _ _ ⟨rfl, rfl⟩
  refine J_if_eq (tgt := 21) E (jd dk_X7_beside_0 6 rfl) (by decide) (fun c38 => ?_) (fun c38 => ?_)
  · replace hf := jif_t c38 hf
    refine J_sub [0] rfl ?_
    exact lk_X7_beside_b21 E hX hr N hf
  · replace hf := jif_f c38 hf
    refine J_aload_n E (jd dk_X7_beside_0 7 rfl) rfl 0 rfl ?_
    refine J_iload_n E (jd dk_X7_beside_0 8 rfl) rfl 2 rfl ?_
    obtain ⟨u41, e42, hf⟩ := jbind hf
    obtain ⟨r39, e40, hf⟩ := jbind hf
    refine J_callV E (jd dk_X7_beside_0 9 rfl) ml_RX7_382 cal_X7_isJudge e42 rfl (lk_X7_isJudge (jE_g E) (jE_tr E) N e40) rfl (Nat.le_of_ble_eq_true rfl) (jR_le hX (by decide) (by decide)) (jF0 hX) rfl ?_
    rintro _ _ ⟨rfl, rfl⟩
    refine J_if_ne (tgt := 27) E (jd dk_X7_beside_0 10 rfl) (by decide) (fun c43 => ?_) (fun c43 => ?_)
    · replace hf := jif_f c43 hf
      refine J_aload_n E (jd dk_X7_beside_0 15 rfl) rfl 0 rfl ?_
      refine J_aload_n E (jd dk_X7_beside_0 16 rfl) rfl 0 rfl ?_
      obtain ⟨x44, e45, hf⟩ := jbind hf
      refine J_getr E (jd dk_X7_beside_0 17 rfl) fl_RX7_106 e45 ?_
      refine J_iconst (v := 0) E (jd dk_X7_beside_0 18 rfl) rfl ?_
      obtain ⟨u48, e49, hf⟩ := jbind hf
      obtain ⟨r46, e47, hf⟩ := jbind hf
      refine J_callV E (jd dk_X7_beside_0 19 rfl) ml_RX7_385 cal_X7_pack e49 rfl (lk_X7_pack (jE_g E) (jE_tr E) N e47) rfl (Nat.le_of_ble_eq_true rfl) (jR_le hX (by decide) (by decide)) (jF0 hX) rfl ?_
      rintro _ _ ⟨rfl, rfl⟩
      refine J_iconst (v := (-1)) E (jd dk_X7_beside_0 20 rfl) rfl ?_
      refine J_istore_n (lv' := [(3, .int ((-1))), (0, .ref a0), (1, .int a1), (2, .int a2)]) E (jd dk_X7_beside_0 21 rfl) rfl (by decide) rfl ?_
      refine J_iconst (v := 0) E (jd dk_X7_beside_0 22 rfl) rfl ?_
      refine J_istore (lv' := [(4, .int 0), (3, .int ((-1))), (0, .ref a0), (1, .int a1), (2, .int a2)]) E (jd dk_X7_beside_0 23 rfl) (by decide) rfl ?_
      refine J_sub [2, 3, 4, 1, 0] rfl ?_
      exact lk_X7_beside_b41 E hX hr N hf
    · replace hf := jif_t c43 hf
      refine J_sub [0] rfl ?_
      exact lk_X7_beside_b21 E hX hr N hf
def f_X7_first_b95 (N : Nat) (v2 : Int32) (v3 : Int32) (v4 : Int32) (h : AH) : Option ((Int32 × Int32 × AH) ⊕ ((Int32 × AH))) :=
  some (.inl ((v3, v4 + (-1), h)))
def f_X7_first_l78 (N : Nat) (v2 : Int32) (v3 : Int32) (v4 : Int32) (h : AH) : Option ((Int32 × Int32 × AH) ⊕ ((Int32 × AH))) :=
  if v4 < 0 then some (.inr ((v3, h)))
  else (f_X7_isOf N h v2 v4).bind fun r2 =>
  if r2.1 = 0 then f_X7_first_b95 N v2 v3 v4 r2.2
  else f_X7_first_b95 N v2 v4 v4 r2.2
def f_X7_first_b78 (N : Nat) (v2 : Int32) (v3 : Int32) (v4 : Int32) (h : AH) : Option (Int32 × AH) :=
  (itr (fun s => f_X7_first_l78 N v2 s.1 s.2.1 s.2.2) N (v3, v4, h)).bind (fun e => some (e.1, e.2))
def f_X7_first_b57 (N : Nat) (v0 : Nat) (v2 : Int32) (h : AH) : Option (Int32 × AH) :=
  (jgr 7 h v0 41).bind fun x5 =>
  (jck 7 h v0).bind fun _ =>
  (f_X7_unpack N h v0 x5 0).bind fun r7 =>
  (jgr 7 r7 v0 5).bind fun x11 =>
  (jal 0 r7 x11 2).bind fun x13 =>
  f_X7_first_b78 N v2 ((-1)) (x13 - 1) r7
def f_X7_first_l25 (N : Nat) (v0 : Nat) (v1 : Int32) (v2 : Int32) (v3 : Int32) (h : AH) : Option ((Int32 × Int32 × AH) ⊕ ((Int32 × AH))) :=
  if 60 ≤ v3 then some (.inr ((v2, h)))
  else if v2 = 0 then (jck 7 h v0).bind fun _ =>
  (f_X7_goOn N h v0 1).bind fun r17 =>
  (jck 7 r17 v0).bind fun _ =>
  (f_X7_whoIs N r17 v0 ((-2))).bind fun r21 =>
  some (.inl ((r21.1 &&& (v1 ^^^ ((-1))), v3 + 1, r21.2)))
  else some (.inr ((v2, h)))
def f_X7_first_b25 (N : Nat) (v0 : Nat) (v1 : Int32) (v2 : Int32) (v3 : Int32) (h : AH) : Option (Int32 × AH) :=
  (itr (fun s => f_X7_first_l25 N v0 v1 s.1 s.2.1 s.2.2) N (v2, v3, h)).bind (fun e => f_X7_first_b57 N v0 e.1 e.2)
def f_X7_first (N : Nat) (h : AH) (a0 : Nat) : Option (Int32 × AH) :=
  (jwi 7 h a0 4 0).bind fun h25 =>
  (jck 7 h25 a0).bind fun _ =>
  (f_X7_whoIs N h25 a0 ((-2))).bind fun r27 =>
  (jgr 7 r27.2 a0 41).bind fun x31 =>
  (jck 7 r27.2 a0).bind fun _ =>
  (f_X7_pack N r27.2 a0 x31 0).bind fun r33 =>
  f_X7_first_b25 N a0 r27.1 0 0 r33
set_option maxRecDepth 100000 in
set_option maxHeartbeats 4000000 in
theorem lk_X7_first_b95 {G : JG} {X : JX} (E : jE G X (RX7, cX7_first, 5)) (hX : X.2.2.2.1 = jRm 6 0 0) (hr : X.2.2.2.2.2.2.2.2.1.sig.returnType = (some .int)) (N : Nat) {Q : State → Prop} {v2 : Int32} {v3 : Int32} {v4 : Int32} {h : AH}  {q : ((Int32 × Int32 × AH) ⊕ ((Int32 × AH)))} (hf : f_X7_first_b95 N v2 v3 v4 h = some q) (kb : ∀ s' : Int32 × Int32 × AH, q = .inl s' → JW G X (RX7, cX7_first, 5) s'.2.2 [(2, .int v2), (3, .int s'.1), (4, .int s'.2.1)] [] 78 0 0 Q) (ke0 : ∀ e : Int32 × AH, q = .inr e → JW G X (RX7, cX7_first, 5) e.2 [(3, .int e.1)] [] 101 0 0 Q) : JW G X (RX7, cX7_first, 5) h [(2, .int v2), (3, .int v3), (4, .int v4)] [] 95 0 0 Q := by
  unfold f_X7_first_b95 at hf
  refine J_iinc (v := v4 + (-1)) (lv' := [(4, .int (v4 + (-1))), (2, .int v2), (3, .int v3)]) E (jd dk_X7_first_1 6 rfl) 2 rfl rfl (by decide) rfl ?_
  refine J_goto (tgt := 78) E (jd dk_X7_first_1 7 rfl) (by decide) ?_
  refine J_sub [1, 2, 0] rfl ?_
  exact kb _ (Option.some.inj hf).symm
set_option maxRecDepth 100000 in
set_option maxHeartbeats 4000000 in
theorem lk_X7_first_l78 {G : JG} {X : JX} (E : jE G X (RX7, cX7_first, 5)) (hX : X.2.2.2.1 = jRm 6 0 0) (hr : X.2.2.2.2.2.2.2.2.1.sig.returnType = (some .int)) (N : Nat) {Q : State → Prop} {v2 : Int32} {v3 : Int32} {v4 : Int32}  {h : AH} {q : ((Int32 × Int32 × AH) ⊕ ((Int32 × AH)))} (hf : f_X7_first_l78 N v2 v3 v4 h = some q) (kb : ∀ s' : Int32 × Int32 × AH, q = .inl s' → JW G X (RX7, cX7_first, 5) s'.2.2 [(2, .int v2), (3, .int s'.1), (4, .int s'.2.1)] [] 78 0 0 Q) (ke0 : ∀ e : Int32 × AH, q = .inr e → JW G X (RX7, cX7_first, 5) e.2 [(3, .int e.1)] [] 101 0 0 Q) : JW G X (RX7, cX7_first, 5) h [(2, .int v2), (3, .int v3), (4, .int v4)] [] 78 0 0 Q := by
  unfold f_X7_first_l78 at hf
  refine J_iload E (jd dk_X7_first_0 48 rfl) 2 rfl ?_
  refine J_if_lt (tgt := 101) E (jd dk_X7_first_0 49 rfl) (by decide) (fun c1 => ?_) (fun c1 => ?_)
  · replace hf := jif_t c1 hf
    refine J_sub [1] rfl ?_
    exact ke0 _ (Option.some.inj hf).symm
  · replace hf := jif_f c1 hf
    refine J_iload_n E (jd dk_X7_first_1 0 rfl) rfl 0 rfl ?_
    refine J_iload E (jd dk_X7_first_1 1 rfl) 2 rfl ?_
    obtain ⟨r2, e3, hf⟩ := jbind hf
    refine J_callS E (jd dk_X7_first_1 2 rfl) ml_RX7_362 cal_X7_isOf (lk_X7_isOf (jE_g E) (jE_tr E) N e3) rfl (Nat.le_of_ble_eq_true rfl) (jR_le hX (by decide) (by decide)) (jF0 hX) rfl ?_
    rintro _ _ ⟨rfl, rfl⟩
    refine J_if_eq (tgt := 95) E (jd dk_X7_first_1 3 rfl) (by decide) (fun c4 => ?_) (fun c4 => ?_)
    · replace hf := jif_t c4 hf
      exact lk_X7_first_b95 E hX hr N hf kb ke0
    · replace hf := jif_f c4 hf
      refine J_iload E (jd dk_X7_first_1 4 rfl) 2 rfl ?_
      refine J_istore_n (lv' := [(3, .int v4), (2, .int v2), (4, .int v4)]) E (jd dk_X7_first_1 5 rfl) rfl (by decide) rfl ?_
      refine J_sub [1, 0, 2] rfl ?_
      exact lk_X7_first_b95 E hX hr N hf kb ke0
set_option maxRecDepth 100000 in
set_option maxHeartbeats 4000000 in
theorem lk_X7_first_b78 {G : JG} {X : JX} (E : jE G X (RX7, cX7_first, 5)) (hX : X.2.2.2.1 = jRm 6 0 0) (hr : X.2.2.2.2.2.2.2.2.1.sig.returnType = (some .int)) (N : Nat) {v2 : Int32} {v3 : Int32} {v4 : Int32} {h : AH}  {r : (Int32 × AH)} (hf : f_X7_first_b78 N v2 v3 v4 h = some r) : JW G X (RX7, cX7_first, 5) h [(2, .int v2), (3, .int v3), (4, .int v4)] [] 78 0 0 (jEnd G X (jpi r) 0 0) := by
  unfold f_X7_first_b78 at hf
  obtain ⟨q1, h1, hf⟩ := jbind hf
  refine jloop (P := fun s => JW G X (RX7, cX7_first, 5) s.2.2 [(2, .int v2), (3, .int s.1), (4, .int s.2.1)] [] 78 0 0 (jEnd G X (jpi r) 0 0)) (Ex := fun (e : Int32 × AH) => JW G X (RX7, cX7_first, 5) e.2 [(3, .int e.1)] [] 101 0 0 (jEnd G X (jpi r) 0 0)) (fun s q hs hb hx => lk_X7_first_l78 E hX hr N hs (fun s' hs => hb s' hs) (fun e he => hx e he)) N _ q1 h1 ?_
  generalize q1 = e at hf ⊢
  refine J_iload_n E (jd dk_X7_first_1 8 rfl) rfl 0 rfl ?_
  cases hf
  exact J_iret E hr rfl (jd dk_X7_first_1 9 rfl) (Nat.le_refl _) (Nat.le_refl _) ⟨rfl, rfl⟩
set_option maxRecDepth 100000 in
set_option maxHeartbeats 4000000 in
theorem lk_X7_first_b57 {G : JG} {X : JX} (E : jE G X (RX7, cX7_first, 5)) (hX : X.2.2.2.1 = jRm 6 0 0) (hr : X.2.2.2.2.2.2.2.2.1.sig.returnType = (some .int)) (N : Nat) {v0 : Nat} {v2 : Int32} {h : AH}  {r : (Int32 × AH)} (hf : f_X7_first_b57 N v0 v2 h = some r) : JW G X (RX7, cX7_first, 5) h [(0, .ref v0), (2, .int v2)] [] 57 0 0 (jEnd G X (jpi r) 0 0) := by
  unfold f_X7_first_b57 at hf
  refine J_aload_n E (jd dk_X7_first_0 34 rfl) rfl 0 rfl ?_
  refine J_aload_n E (jd dk_X7_first_0 35 rfl) rfl 0 rfl ?_
  obtain ⟨x5, e6, hf⟩ := jbind hf
  refine J_getr E (jd dk_X7_first_0 36 rfl) fl_RX7_106 e6 ?_
  refine J_iconst (v := 0) E (jd dk_X7_first_0 37 rfl) rfl ?_
  obtain ⟨u9, e10, hf⟩ := jbind hf
  obtain ⟨r7, e8, hf⟩ := jbind hf
  refine J_callV E (jd dk_X7_first_0 38 rfl) ml_RX7_407 cal_X7_unpack e10 rfl (lk_X7_unpack (jE_g E) (jE_tr E) N e8) rfl (Nat.le_of_ble_eq_true rfl) (jR_le hX (by decide) (by decide)) (jF0 hX) rfl ?_
  rintro _ _ ⟨rfl, rfl⟩
  refine J_iconst (v := (-1)) E (jd dk_X7_first_0 39 rfl) rfl ?_
  refine J_istore_n (lv' := [(3, .int ((-1))), (0, .ref v0), (2, .int v2)]) E (jd dk_X7_first_0 40 rfl) rfl (by decide) rfl ?_
  refine J_aload_n E (jd dk_X7_first_0 41 rfl) rfl 1 rfl ?_
  obtain ⟨x11, e12, hf⟩ := jbind hf
  refine J_getr E (jd dk_X7_first_0 42 rfl) fl_RX7_42 e12 ?_
  refine J_iconst (v := 2) E (jd dk_X7_first_0 43 rfl) rfl ?_
  obtain ⟨x13, e14, hf⟩ := jbind hf
  refine J_iald E (jd dk_X7_first_0 44 rfl) e14 ?_
  refine J_iconst (v := 1) E (jd dk_X7_first_0 45 rfl) rfl ?_
  refine J_isub E (jd dk_X7_first_0 46 rfl) ?_
  refine J_istore (lv' := [(4, .int (x13 - 1)), (3, .int ((-1))), (0, .ref v0), (2, .int v2)]) E (jd dk_X7_first_0 47 rfl) (by decide) rfl ?_
  refine J_sub [3, 1, 0] rfl ?_
  exact lk_X7_first_b78 E hX hr N hf
set_option maxRecDepth 100000 in
set_option maxHeartbeats 4000000 in
theorem lk_X7_first_l25 {G : JG} {X : JX} (E : jE G X (RX7, cX7_first, 5)) (hX : X.2.2.2.1 = jRm 6 0 0) (hr : X.2.2.2.2.2.2.2.2.1.sig.returnType = (some .int)) (N : Nat) {Q : State → Prop} {v0 : Nat} {v1 : Int32} {v2 : Int32} {v3 : Int32}  {h : AH} {q : ((Int32 × Int32 × AH) ⊕ ((Int32 × AH)))} (hf : f_X7_first_l25 N v0 v1 v2 v3 h = some q) (kb : ∀ s' : Int32 × Int32 × AH, q = .inl s' → JW G X (RX7, cX7_first, 5) s'.2.2 [(0, .ref v0), (1, .int v1), (2, .int s'.1), (3, .int s'.2.1)] [] 25 0 0 Q) (ke0 : ∀ e : Int32 × AH, q = .inr e → JW G X (RX7, cX7_first, 5) e.2 [(0, .ref v0), (2, .int e.1)] [] 57 0 0 Q) : JW G X (RX7, cX7_first, 5) h [(0, .ref v0), (1, .int v1), (2, .int v2), (3, .int v3)] [] 25 0 0 Q := by
  unfold f_X7_first_l25 at hf
  refine J_iload_n E (jd dk_X7_first_0 16 rfl) rfl 3 rfl ?_
  refine J_bipush (v := 60) E (jd dk_X7_first_0 17 rfl) (by decide) ?_
  refine J_icmp_ge (tgt := 57) E (jd dk_X7_first_0 18 rfl) (by decide) (fun c15 => ?_) (fun c15 => ?_)
  · replace hf := jif_t c15 hf
    refine J_sub [0, 2] rfl ?_
    exact ke0 _ (Option.some.inj hf).symm
  · replace hf := jif_f c15 hf
    refine J_iload_n E (jd dk_X7_first_0 19 rfl) rfl 2 rfl ?_
    refine J_if_ne (tgt := 57) E (jd dk_X7_first_0 20 rfl) (by decide) (fun c16 => ?_) (fun c16 => ?_)
    · replace hf := jif_f c16 hf
      refine J_sub [0, 2] rfl ?_
      exact ke0 _ (Option.some.inj hf).symm
    · replace hf := jif_t c16 hf
      refine J_aload_n E (jd dk_X7_first_0 21 rfl) rfl 0 rfl ?_
      refine J_iconst (v := 1) E (jd dk_X7_first_0 22 rfl) rfl ?_
      obtain ⟨u19, e20, hf⟩ := jbind hf
      obtain ⟨r17, e18, hf⟩ := jbind hf
      refine J_callV E (jd dk_X7_first_0 23 rfl) ml_RX7_397 cal_X7_goOn e20 rfl (lk_X7_goOn (jE_g E) (jE_tr E) N e18) rfl (Nat.le_of_ble_eq_true rfl) (jR_le hX (by decide) (by decide)) (jF0 hX) rfl ?_
      rintro _ _ ⟨rfl, rfl⟩
      refine J_aload_n E (jd dk_X7_first_0 24 rfl) rfl 0 rfl ?_
      refine J_bipush (v := (-2)) E (jd dk_X7_first_0 25 rfl) (by decide) ?_
      obtain ⟨u23, e24, hf⟩ := jbind hf
      obtain ⟨r21, e22, hf⟩ := jbind hf
      refine J_callV E (jd dk_X7_first_0 26 rfl) ml_RX7_330 cal_X7_whoIs e24 rfl (lk_X7_whoIs (jE_g E) (jE_tr E) N e22) rfl (Nat.le_of_ble_eq_true rfl) (jR_le hX (by decide) (by decide)) (jF0 hX) rfl ?_
      rintro _ _ ⟨rfl, rfl⟩
      refine J_iload_n E (jd dk_X7_first_0 27 rfl) rfl 1 rfl ?_
      refine J_iconst (v := (-1)) E (jd dk_X7_first_0 28 rfl) rfl ?_
      refine J_ixor E (jd dk_X7_first_0 29 rfl) ?_
      refine J_iand E (jd dk_X7_first_0 30 rfl) ?_
      refine J_istore_n (lv' := [(2, .int (r21.1 &&& (v1 ^^^ ((-1))))), (0, .ref v0), (1, .int v1), (3, .int v3)]) E (jd dk_X7_first_0 31 rfl) rfl (by decide) rfl ?_
      refine J_iinc (v := v3 + 1) (lv' := [(3, .int (v3 + 1)), (2, .int (r21.1 &&& (v1 ^^^ ((-1))))), (0, .ref v0), (1, .int v1)]) E (jd dk_X7_first_0 32 rfl) 3 rfl rfl (by decide) rfl ?_
      refine J_goto (tgt := 25) E (jd dk_X7_first_0 33 rfl) (by decide) ?_
      refine J_sub [2, 3, 1, 0] rfl ?_
      exact kb _ (Option.some.inj hf).symm
set_option maxRecDepth 100000 in
set_option maxHeartbeats 4000000 in
theorem lk_X7_first_b25 {G : JG} {X : JX} (E : jE G X (RX7, cX7_first, 5)) (hX : X.2.2.2.1 = jRm 6 0 0) (hr : X.2.2.2.2.2.2.2.2.1.sig.returnType = (some .int)) (N : Nat) {v0 : Nat} {v1 : Int32} {v2 : Int32} {v3 : Int32} {h : AH}  {r : (Int32 × AH)} (hf : f_X7_first_b25 N v0 v1 v2 v3 h = some r) : JW G X (RX7, cX7_first, 5) h [(0, .ref v0), (1, .int v1), (2, .int v2), (3, .int v3)] [] 25 0 0 (jEnd G X (jpi r) 0 0) := by
  unfold f_X7_first_b25 at hf
  obtain ⟨q1, h1, hf⟩ := jbind hf
  refine jloop (P := fun s => JW G X (RX7, cX7_first, 5) s.2.2 [(0, .ref v0), (1, .int v1), (2, .int s.1), (3, .int s.2.1)] [] 25 0 0 (jEnd G X (jpi r) 0 0)) (Ex := fun (e : Int32 × AH) => JW G X (RX7, cX7_first, 5) e.2 [(0, .ref v0), (2, .int e.1)] [] 57 0 0 (jEnd G X (jpi r) 0 0)) (fun s q hs hb hx => lk_X7_first_l25 E hX hr N hs (fun s' hs => hb s' hs) (fun e he => hx e he)) N _ q1 h1 ?_
  generalize q1 = e at hf ⊢
  exact lk_X7_first_b57 E hX hr N hf
set_option maxRecDepth 100000 in
set_option maxHeartbeats 4000000 in
theorem lk_X7_first {G : JG} {l : Launch} (hG : jG G) (htr : l.stackTraces = false) (N : Nat) {h : AH} {a0 : Nat} {r : (Int32 × AH)} (hf : f_X7_first N h a0 = some r) : jMet G l yX7_first cX7_first 5 (some .int) 6 0 0 [.ref a0] h (jpi r) := by
  unfold f_X7_first at hf
  refine jMet_of hG htr (by decide) (Nat.le_of_ble_eq_true rfl) ?_
  intro X E hl9 hr hX _ _
  show JW G X (RX7, cX7_first, 5) h [(0, .ref a0)] [] 0 0 0 (jEnd G X (jpi r) 0 0)
  refine J_aload_n E (jd dk_X7_first_0 0 rfl) rfl 0 rfl ?_
  refine J_iconst (v := 0) E (jd dk_X7_first_0 1 rfl) rfl ?_
  obtain ⟨h25, e26, hf⟩ := jbind hf
  refine J_put E (jd dk_X7_first_0 2 rfl) fl_RX7_151 e26 (fun _ => rfl) (fun _ => rfl) ?_
  refine J_aload_n E (jd dk_X7_first_0 3 rfl) rfl 0 rfl ?_
  refine J_bipush (v := (-2)) E (jd dk_X7_first_0 4 rfl) (by decide) ?_
  obtain ⟨u29, e30, hf⟩ := jbind hf
  obtain ⟨r27, e28, hf⟩ := jbind hf
  refine J_callV E (jd dk_X7_first_0 5 rfl) ml_RX7_330 cal_X7_whoIs e30 rfl (lk_X7_whoIs (jE_g E) (jE_tr E) N e28) rfl (Nat.le_of_ble_eq_true rfl) (jR_le hX (by decide) (by decide)) (jF0 hX) rfl ?_
  rintro _ _ ⟨rfl, rfl⟩
  refine J_istore_n (lv' := [(1, .int r27.1), (0, .ref a0)]) E (jd dk_X7_first_0 6 rfl) rfl (by decide) rfl ?_
  refine J_aload_n E (jd dk_X7_first_0 7 rfl) rfl 1 rfl ?_
  refine J_aload_n E (jd dk_X7_first_0 8 rfl) rfl 1 rfl ?_
  obtain ⟨x31, e32, hf⟩ := jbind hf
  refine J_getr E (jd dk_X7_first_0 9 rfl) fl_RX7_106 e32 ?_
  refine J_iconst (v := 0) E (jd dk_X7_first_0 10 rfl) rfl ?_
  obtain ⟨u35, e36, hf⟩ := jbind hf
  obtain ⟨r33, e34, hf⟩ := jbind hf
  refine J_callV E (jd dk_X7_first_0 11 rfl) ml_RX7_385 cal_X7_pack e36 rfl (lk_X7_pack (jE_g E) (jE_tr E) N e34) rfl (Nat.le_of_ble_eq_true rfl) (jR_le hX (by decide) (by decide)) (jF0 hX) rfl ?_
  rintro _ _ ⟨rfl, rfl⟩
  refine J_iconst (v := 0) E (jd dk_X7_first_0 12 rfl) rfl ?_
  refine J_istore_n (lv' := [(2, .int 0), (1, .int r27.1), (0, .ref a0)]) E (jd dk_X7_first_0 13 rfl) rfl (by decide) rfl ?_
  refine J_iconst (v := 0) E (jd dk_X7_first_0 14 rfl) rfl ?_
  refine J_istore_n (lv' := [(3, .int 0), (2, .int 0), (1, .int r27.1), (0, .ref a0)]) E (jd dk_X7_first_0 15 rfl) rfl (by decide) rfl ?_
  refine J_sub [3, 2, 1, 0] rfl ?_
  exact lk_X7_first_b25 E hX hr N hf
def f_X7_last_b87 (N : Nat) (v0 : Nat) (v1 : Int32) (v2 : Int32) (v3 : Int32) (v4 : Int32) (v5 : Int32) (h : AH) : Option ((Int32 × Int32 × AH) ⊕ ((Int32 × AH))) :=
  some (.inl ((v2, v5 + 1, h)))
def f_X7_last_l54 (N : Nat) (v0 : Nat) (v1 : Int32) (v3 : Int32) (v4 : Int32) (v2 : Int32) (v5 : Int32) (h : AH) : Option ((Int32 × Int32 × AH) ⊕ ((Int32 × AH))) :=
  (jgr 7 h v0 5).bind fun x1 =>
  (jal 0 h x1 0).bind fun x3 =>
  if x3 ≤ v5 then some (.inr ((v2, h)))
  else (jgr 7 h v0 30).bind fun x6 =>
  (jal 0 h x6 v1).bind fun x8 =>
  (f_X7_isOf N h (x8 &&& (v4 ^^^ ((-1)))) v5).bind fun r10 =>
  if r10.1 = 0 then f_X7_last_b87 N v0 v1 v2 v3 v4 v5 r10.2
  else f_X7_last_b87 N v0 v1 v5 v3 v4 v5 r10.2
def f_X7_last_b54 (N : Nat) (v0 : Nat) (v1 : Int32) (v2 : Int32) (v3 : Int32) (v4 : Int32) (v5 : Int32) (h : AH) : Option ((Int32 × Int32 × AH) ⊕ ((Int32 × AH))) :=
  (itr (fun s => f_X7_last_l54 N v0 v1 v3 v4 s.1 s.2.1 s.2.2) N (v2, v5, h)).bind (fun e => some (.inl ((e.1, v3 + 1, e.2))))
def f_X7_last_l32 (N : Nat) (v0 : Nat) (v1 : Int32) (v2 : Int32) (v3 : Int32) (h : AH) : Option ((Int32 × Int32 × AH) ⊕ ((Int32 × AH))) :=
  if 60 ≤ v3 then some (.inr ((v2, h)))
  else (jgr 7 h v0 30).bind fun x14 =>
  (jal 0 h x14 v1).bind fun x16 =>
  (jck 7 h v0).bind fun _ =>
  (f_X7_goOn N h v0 1).bind fun r18 =>
  f_X7_last_b54 N v0 v1 v2 v3 x16 0 r18
def f_X7_last_b32 (N : Nat) (v0 : Nat) (v1 : Int32) (v2 : Int32) (v3 : Int32) (h : AH) : Option (Int32 × AH) :=
  (itr (fun s => f_X7_last_l32 N v0 v1 s.1 s.2.1 s.2.2) N (v2, v3, h)).bind (fun e => (jgr 7 e.2 v0 41).bind fun x22 =>
  (jck 7 e.2 v0).bind fun _ =>
  (f_X7_unpack N e.2 v0 x22 0).bind fun r24 =>
  some (e.1, r24))
def f_X7_last (N : Nat) (h : AH) (a0 : Nat) (a1 : Int32) : Option (Int32 × AH) :=
  (jwi 7 h a0 4 0).bind fun h28 =>
  (jck 7 h28 a0).bind fun _ =>
  (f_X7_isJudge N h28 a0 a1).bind fun r30 =>
  if r30.1 = 0 then (jck 7 r30.2 a0).bind fun _ =>
  (f_X7_fail N r30.2 a0 1).bind fun r41 =>
  some (r41.1, r41.2)
  else (jgr 7 r30.2 a0 41).bind fun x35 =>
  (jck 7 r30.2 a0).bind fun _ =>
  (f_X7_pack N r30.2 a0 x35 0).bind fun r37 =>
  f_X7_last_b32 N a0 a1 ((-1)) 0 r37
set_option maxRecDepth 100000 in
set_option maxHeartbeats 4000000 in
theorem lk_X7_last_b87 {G : JG} {X : JX} (E : jE G X (RX7, cX7_last, 6)) (hX : X.2.2.2.1 = jRm 6 0 0) (hr : X.2.2.2.2.2.2.2.2.1.sig.returnType = (some .int)) (N : Nat) {Q : State → Prop} {v0 : Nat} {v1 : Int32} {v2 : Int32} {v3 : Int32} {v4 : Int32} {v5 : Int32} {h : AH}  {q : ((Int32 × Int32 × AH) ⊕ ((Int32 × AH)))} (hf : f_X7_last_b87 N v0 v1 v2 v3 v4 v5 h = some q) (kb : ∀ s' : Int32 × Int32 × AH, q = .inl s' → JW G X (RX7, cX7_last, 6) s'.2.2 [(0, .ref v0), (1, .int v1), (2, .int s'.1), (3, .int v3), (4, .int v4), (5, .int s'.2.1)] [] 54 0 0 Q) (ke0 : ∀ e : Int32 × AH, q = .inr e → JW G X (RX7, cX7_last, 6) e.2 [(0, .ref v0), (1, .int v1), (2, .int e.1), (3, .int v3)] [] 93 0 0 Q) : JW G X (RX7, cX7_last, 6) h [(0, .ref v0), (1, .int v1), (2, .int v2), (3, .int v3), (4, .int v4), (5, .int v5)] [] 87 0 0 Q := by
  unfold f_X7_last_b87 at hf
  refine J_iinc (v := v5 + 1) (lv' := [(5, .int (v5 + 1)), (0, .ref v0), (1, .int v1), (2, .int v2), (3, .int v3), (4, .int v4)]) E (jd dk_X7_last_1 2 rfl) 5 rfl rfl (by decide) rfl ?_
  refine J_goto (tgt := 54) E (jd dk_X7_last_1 3 rfl) (by decide) ?_
  refine J_sub [1, 2, 3, 4, 5, 0] rfl ?_
  exact kb _ (Option.some.inj hf).symm
set_option maxRecDepth 100000 in
set_option maxHeartbeats 4000000 in
theorem lk_X7_last_l54 {G : JG} {X : JX} (E : jE G X (RX7, cX7_last, 6)) (hX : X.2.2.2.1 = jRm 6 0 0) (hr : X.2.2.2.2.2.2.2.2.1.sig.returnType = (some .int)) (N : Nat) {Q : State → Prop} {v0 : Nat} {v1 : Int32} {v3 : Int32} {v4 : Int32} {v2 : Int32} {v5 : Int32}  {h : AH} {q : ((Int32 × Int32 × AH) ⊕ ((Int32 × AH)))} (hf : f_X7_last_l54 N v0 v1 v3 v4 v2 v5 h = some q) (kb : ∀ s' : Int32 × Int32 × AH, q = .inl s' → JW G X (RX7, cX7_last, 6) s'.2.2 [(0, .ref v0), (1, .int v1), (2, .int s'.1), (3, .int v3), (4, .int v4), (5, .int s'.2.1)] [] 54 0 0 Q) (ke0 : ∀ e : Int32 × AH, q = .inr e → JW G X (RX7, cX7_last, 6) e.2 [(0, .ref v0), (1, .int v1), (2, .int e.1), (3, .int v3)] [] 93 0 0 Q) : JW G X (RX7, cX7_last, 6) h [(0, .ref v0), (1, .int v1), (2, .int v2), (3, .int v3), (4, .int v4), (5, .int v5)] [] 54 0 0 Q := by
  unfold f_X7_last_l54 at hf
  refine J_iload E (jd dk_X7_last_0 33 rfl) 5 rfl ?_
  refine J_aload_n E (jd dk_X7_last_0 34 rfl) rfl 0 rfl ?_
  obtain ⟨x1, e2, hf⟩ := jbind hf
  refine J_getr E (jd dk_X7_last_0 35 rfl) fl_RX7_42 e2 ?_
  refine J_iconst (v := 0) E (jd dk_X7_last_0 36 rfl) rfl ?_
  obtain ⟨x3, e4, hf⟩ := jbind hf
  refine J_iald E (jd dk_X7_last_0 37 rfl) e4 ?_
  refine J_icmp_ge (tgt := 93) E (jd dk_X7_last_0 38 rfl) (by decide) (fun c5 => ?_) (fun c5 => ?_)
  · replace hf := jif_t c5 hf
    refine J_sub [0, 1, 2, 3] rfl ?_
    exact ke0 _ (Option.some.inj hf).symm
  · replace hf := jif_f c5 hf
    refine J_aload_n E (jd dk_X7_last_0 39 rfl) rfl 0 rfl ?_
    obtain ⟨x6, e7, hf⟩ := jbind hf
    refine J_getr E (jd dk_X7_last_0 40 rfl) fl_RX7_87 e7 ?_
    refine J_iload_n E (jd dk_X7_last_0 41 rfl) rfl 1 rfl ?_
    obtain ⟨x8, e9, hf⟩ := jbind hf
    refine J_iald E (jd dk_X7_last_0 42 rfl) e9 ?_
    refine J_iload E (jd dk_X7_last_0 43 rfl) 4 rfl ?_
    refine J_iconst (v := (-1)) E (jd dk_X7_last_0 44 rfl) rfl ?_
    refine J_ixor E (jd dk_X7_last_0 45 rfl) ?_
    refine J_iand E (jd dk_X7_last_0 46 rfl) ?_
    refine J_iload E (jd dk_X7_last_0 47 rfl) 5 rfl ?_
    obtain ⟨r10, e11, hf⟩ := jbind hf
    refine J_callS E (jd dk_X7_last_0 48 rfl) ml_RX7_362 cal_X7_isOf (lk_X7_isOf (jE_g E) (jE_tr E) N e11) rfl (Nat.le_of_ble_eq_true rfl) (jR_le hX (by decide) (by decide)) (jF0 hX) rfl ?_
    rintro _ _ ⟨rfl, rfl⟩
    refine J_if_eq (tgt := 87) E (jd dk_X7_last_0 49 rfl) (by decide) (fun c12 => ?_) (fun c12 => ?_)
    · replace hf := jif_t c12 hf
      exact lk_X7_last_b87 E hX hr N hf kb ke0
    · replace hf := jif_f c12 hf
      refine J_iload E (jd dk_X7_last_1 0 rfl) 5 rfl ?_
      refine J_istore_n (lv' := [(2, .int v5), (0, .ref v0), (1, .int v1), (3, .int v3), (4, .int v4), (5, .int v5)]) E (jd dk_X7_last_1 1 rfl) rfl (by decide) rfl ?_
      refine J_sub [1, 2, 0, 3, 4, 5] rfl ?_
      exact lk_X7_last_b87 E hX hr N hf kb ke0
set_option maxRecDepth 100000 in
set_option maxHeartbeats 4000000 in
theorem lk_X7_last_b54 {G : JG} {X : JX} (E : jE G X (RX7, cX7_last, 6)) (hX : X.2.2.2.1 = jRm 6 0 0) (hr : X.2.2.2.2.2.2.2.2.1.sig.returnType = (some .int)) (N : Nat) {Q : State → Prop} {v0 : Nat} {v1 : Int32} {v2 : Int32} {v3 : Int32} {v4 : Int32} {v5 : Int32} {h : AH}  {q : ((Int32 × Int32 × AH) ⊕ ((Int32 × AH)))} (hf : f_X7_last_b54 N v0 v1 v2 v3 v4 v5 h = some q) (kb : ∀ s' : Int32 × Int32 × AH, q = .inl s' → JW G X (RX7, cX7_last, 6) s'.2.2 [(0, .ref v0), (1, .int v1), (2, .int s'.1), (3, .int s'.2.1)] [] 32 0 0 Q) (ke0 : ∀ e : Int32 × AH, q = .inr e → JW G X (RX7, cX7_last, 6) e.2 [(0, .ref v0), (2, .int e.1)] [] 99 0 0 Q) : JW G X (RX7, cX7_last, 6) h [(0, .ref v0), (1, .int v1), (2, .int v2), (3, .int v3), (4, .int v4), (5, .int v5)] [] 54 0 0 Q := by
  unfold f_X7_last_b54 at hf
  obtain ⟨q1, h1, hf⟩ := jbind hf
  refine jloop (P := fun s => JW G X (RX7, cX7_last, 6) s.2.2 [(0, .ref v0), (1, .int v1), (2, .int s.1), (3, .int v3), (4, .int v4), (5, .int s.2.1)] [] 54 0 0 Q) (Ex := fun (e : Int32 × AH) => JW G X (RX7, cX7_last, 6) e.2 [(0, .ref v0), (1, .int v1), (2, .int e.1), (3, .int v3)] [] 93 0 0 Q) (fun s q hs hb hx => lk_X7_last_l54 E hX hr N hs (fun s' hs => hb s' hs) (fun e he => hx e he)) N _ q1 h1 ?_
  generalize q1 = e at hf ⊢
  refine J_iinc (v := v3 + 1) (lv' := [(3, .int (v3 + 1)), (0, .ref v0), (1, .int v1), (2, .int e.1)]) E (jd dk_X7_last_1 4 rfl) 3 rfl rfl (by decide) rfl ?_
  refine J_goto (tgt := 32) E (jd dk_X7_last_1 5 rfl) (by decide) ?_
  refine J_sub [1, 2, 3, 0] rfl ?_
  exact kb _ (Option.some.inj hf).symm
set_option maxRecDepth 100000 in
set_option maxHeartbeats 4000000 in
theorem lk_X7_last_l32 {G : JG} {X : JX} (E : jE G X (RX7, cX7_last, 6)) (hX : X.2.2.2.1 = jRm 6 0 0) (hr : X.2.2.2.2.2.2.2.2.1.sig.returnType = (some .int)) (N : Nat) {Q : State → Prop} {v0 : Nat} {v1 : Int32} {v2 : Int32} {v3 : Int32}  {h : AH} {q : ((Int32 × Int32 × AH) ⊕ ((Int32 × AH)))} (hf : f_X7_last_l32 N v0 v1 v2 v3 h = some q) (kb : ∀ s' : Int32 × Int32 × AH, q = .inl s' → JW G X (RX7, cX7_last, 6) s'.2.2 [(0, .ref v0), (1, .int v1), (2, .int s'.1), (3, .int s'.2.1)] [] 32 0 0 Q) (ke0 : ∀ e : Int32 × AH, q = .inr e → JW G X (RX7, cX7_last, 6) e.2 [(0, .ref v0), (2, .int e.1)] [] 99 0 0 Q) : JW G X (RX7, cX7_last, 6) h [(0, .ref v0), (1, .int v1), (2, .int v2), (3, .int v3)] [] 32 0 0 Q := by
  unfold f_X7_last_l32 at hf
  refine J_iload_n E (jd dk_X7_last_0 20 rfl) rfl 3 rfl ?_
  refine J_bipush (v := 60) E (jd dk_X7_last_0 21 rfl) (by decide) ?_
  refine J_icmp_ge (tgt := 99) E (jd dk_X7_last_0 22 rfl) (by decide) (fun c13 => ?_) (fun c13 => ?_)
  · replace hf := jif_t c13 hf
    refine J_sub [0, 2] rfl ?_
    exact ke0 _ (Option.some.inj hf).symm
  · replace hf := jif_f c13 hf
    refine J_aload_n E (jd dk_X7_last_0 23 rfl) rfl 0 rfl ?_
    obtain ⟨x14, e15, hf⟩ := jbind hf
    refine J_getr E (jd dk_X7_last_0 24 rfl) fl_RX7_87 e15 ?_
    refine J_iload_n E (jd dk_X7_last_0 25 rfl) rfl 1 rfl ?_
    obtain ⟨x16, e17, hf⟩ := jbind hf
    refine J_iald E (jd dk_X7_last_0 26 rfl) e17 ?_
    refine J_istore (lv' := [(4, .int x16), (0, .ref v0), (1, .int v1), (2, .int v2), (3, .int v3)]) E (jd dk_X7_last_0 27 rfl) (by decide) rfl ?_
    refine J_aload_n E (jd dk_X7_last_0 28 rfl) rfl 1 rfl ?_
    refine J_iconst (v := 1) E (jd dk_X7_last_0 29 rfl) rfl ?_
    obtain ⟨u20, e21, hf⟩ := jbind hf
    obtain ⟨r18, e19, hf⟩ := jbind hf
    refine J_callV E (jd dk_X7_last_0 30 rfl) ml_RX7_397 cal_X7_goOn e21 rfl (lk_X7_goOn (jE_g E) (jE_tr E) N e19) rfl (Nat.le_of_ble_eq_true rfl) (jR_le hX (by decide) (by decide)) (jF0 hX) rfl ?_
    rintro _ _ ⟨rfl, rfl⟩
    refine J_iconst (v := 0) E (jd dk_X7_last_0 31 rfl) rfl ?_
    refine J_istore (lv' := [(5, .int 0), (4, .int x16), (0, .ref v0), (1, .int v1), (2, .int v2), (3, .int v3)]) E (jd dk_X7_last_0 32 rfl) (by decide) rfl ?_
    refine J_sub [2, 3, 4, 5, 1, 0] rfl ?_
    exact lk_X7_last_b54 E hX hr N hf kb ke0
set_option maxRecDepth 100000 in
set_option maxHeartbeats 4000000 in
theorem lk_X7_last_b32 {G : JG} {X : JX} (E : jE G X (RX7, cX7_last, 6)) (hX : X.2.2.2.1 = jRm 6 0 0) (hr : X.2.2.2.2.2.2.2.2.1.sig.returnType = (some .int)) (N : Nat) {v0 : Nat} {v1 : Int32} {v2 : Int32} {v3 : Int32} {h : AH}  {r : (Int32 × AH)} (hf : f_X7_last_b32 N v0 v1 v2 v3 h = some r) : JW G X (RX7, cX7_last, 6) h [(0, .ref v0), (1, .int v1), (2, .int v2), (3, .int v3)] [] 32 0 0 (jEnd G X (jpi r) 0 0) := by
  unfold f_X7_last_b32 at hf
  obtain ⟨q1, h1, hf⟩ := jbind hf
  refine jloop (P := fun s => JW G X (RX7, cX7_last, 6) s.2.2 [(0, .ref v0), (1, .int v1), (2, .int s.1), (3, .int s.2.1)] [] 32 0 0 (jEnd G X (jpi r) 0 0)) (Ex := fun (e : Int32 × AH) => JW G X (RX7, cX7_last, 6) e.2 [(0, .ref v0), (2, .int e.1)] [] 99 0 0 (jEnd G X (jpi r) 0 0)) (fun s q hs hb hx => lk_X7_last_l32 E hX hr N hs (fun s' hs => hb s' hs) (fun e he => hx e he)) N _ q1 h1 ?_
  generalize q1 = e at hf ⊢
  refine J_aload_n E (jd dk_X7_last_1 6 rfl) rfl 0 rfl ?_
  refine J_aload_n E (jd dk_X7_last_1 7 rfl) rfl 0 rfl ?_
  obtain ⟨x22, e23, hf⟩ := jbind hf
  refine J_getr E (jd dk_X7_last_1 8 rfl) fl_RX7_106 e23 ?_
  refine J_iconst (v := 0) E (jd dk_X7_last_1 9 rfl) rfl ?_
  obtain ⟨u26, e27, hf⟩ := jbind hf
  obtain ⟨r24, e25, hf⟩ := jbind hf
  refine J_callV E (jd dk_X7_last_1 10 rfl) ml_RX7_407 cal_X7_unpack e27 rfl (lk_X7_unpack (jE_g E) (jE_tr E) N e25) rfl (Nat.le_of_ble_eq_true rfl) (jR_le hX (by decide) (by decide)) (jF0 hX) rfl ?_
  rintro _ _ ⟨rfl, rfl⟩
  refine J_iload_n E (jd dk_X7_last_1 11 rfl) rfl 1 rfl ?_
  cases hf
  exact J_iret E hr rfl (jd dk_X7_last_1 12 rfl) (Nat.le_refl _) (Nat.le_refl _) ⟨rfl, rfl⟩
set_option maxRecDepth 100000 in
set_option maxHeartbeats 4000000 in
theorem lk_X7_last {G : JG} {l : Launch} (hG : jG G) (htr : l.stackTraces = false) (N : Nat) {h : AH} {a0 : Nat} {a1 : Int32} {r : (Int32 × AH)} (hf : f_X7_last N h a0 a1 = some r) : jMet G l yX7_last cX7_last 6 (some .int) 6 0 0 [.ref a0, .int a1] h (jpi r) := by
  unfold f_X7_last at hf
  refine jMet_of hG htr (by decide) (Nat.le_of_ble_eq_true rfl) ?_
  intro X E hl9 hr hX _ _
  show JW G X (RX7, cX7_last, 6) h [(0, .ref a0), (1, .int a1)] [] 0 0 0 (jEnd G X (jpi r) 0 0)
  refine J_aload_n E (jd dk_X7_last_0 0 rfl) rfl 0 rfl ?_
  refine J_iconst (v := 0) E (jd dk_X7_last_0 1 rfl) rfl ?_
  obtain ⟨h28, e29, hf⟩ := jbind hf
  refine J_put E (jd dk_X7_last_0 2 rfl) fl_RX7_151 e29 (fun _ => rfl) (fun _ => rfl) ?_
  refine J_aload_n E (jd dk_X7_last_0 3 rfl) rfl 0 rfl ?_
  refine J_iload_n E (jd dk_X7_last_0 4 rfl) rfl 1 rfl ?_
  obtain ⟨u32, e33, hf⟩ := jbind hf
  obtain ⟨r30, e31, hf⟩ := jbind hf
  refine J_callV E (jd dk_X7_last_0 5 rfl) ml_RX7_382 cal_X7_isJudge e33 rfl (lk_X7_isJudge (jE_g E) (jE_tr E) N e31) rfl (Nat.le_of_ble_eq_true rfl) (jR_le hX (by decide) (by decide)) (jF0 hX) rfl ?_
  rintro _ _ ⟨rfl, rfl⟩
  refine J_if_ne (tgt := 19) E (jd dk_X7_last_0 6 rfl) (by decide) (fun c34 => ?_) (fun c34 => ?_)
  · replace hf := jif_f c34 hf
    refine J_aload_n E (jd dk_X7_last_0 11 rfl) rfl 0 rfl ?_
    refine J_aload_n E (jd dk_X7_last_0 12 rfl) rfl 0 rfl ?_
    obtain ⟨x35, e36, hf⟩ := jbind hf
    refine J_getr E (jd dk_X7_last_0 13 rfl) fl_RX7_106 e36 ?_
    refine J_iconst (v := 0) E (jd dk_X7_last_0 14 rfl) rfl ?_
    obtain ⟨u39, e40, hf⟩ := jbind hf
    obtain ⟨r37, e38, hf⟩ := jbind hf
    refine J_callV E (jd dk_X7_last_0 15 rfl) ml_RX7_385 cal_X7_pack e40 rfl (lk_X7_pack (jE_g E) (jE_tr E) N e38) rfl (Nat.le_of_ble_eq_true rfl) (jR_le hX (by decide) (by decide)) (jF0 hX) rfl ?_
    rintro _ _ ⟨rfl, rfl⟩
    refine J_iconst (v := (-1)) E (jd dk_X7_last_0 16 rfl) rfl ?_
    refine J_istore_n (lv' := [(2, .int ((-1))), (0, .ref a0), (1, .int a1)]) E (jd dk_X7_last_0 17 rfl) rfl (by decide) rfl ?_
    refine J_iconst (v := 0) E (jd dk_X7_last_0 18 rfl) rfl ?_
    refine J_istore_n (lv' := [(3, .int 0), (2, .int ((-1))), (0, .ref a0), (1, .int a1)]) E (jd dk_X7_last_0 19 rfl) rfl (by decide) rfl ?_
    refine J_sub [2, 3, 1, 0] rfl ?_
    exact lk_X7_last_b32 E hX hr N hf
  · replace hf := jif_t c34 hf
    refine J_aload_n E (jd dk_X7_last_0 7 rfl) rfl 0 rfl ?_
    refine J_iconst (v := 1) E (jd dk_X7_last_0 8 rfl) rfl ?_
    obtain ⟨u43, e44, hf⟩ := jbind hf
    obtain ⟨r41, e42, hf⟩ := jbind hf
    refine J_callV E (jd dk_X7_last_0 9 rfl) ml_RX7_293 cal_X7_fail e44 rfl (lk_X7_fail (jE_g E) (jE_tr E) N e42) rfl (Nat.le_of_ble_eq_true rfl) (jR_le hX (by decide) (by decide)) (jF0 hX) rfl ?_
    rintro _ _ ⟨rfl, rfl⟩
    cases hf
    exact J_iret E hr rfl (jd dk_X7_last_0 10 rfl) (Nat.le_refl _) (Nat.le_refl _) ⟨rfl, rfl⟩
def f_X7_still_b23 (N : Nat) (v0 : Nat) (h : AH) : Option (Int32 × AH) :=
  (jck 7 h v0).bind fun _ =>
  (f_X7_fail N h v0 1).bind fun r1 =>
  some (r1.1, r1.2)
def f_X7_still_b138 (N : Nat) (v0 : Nat) (v1 : Int32) (v2 : Int32) (v3 : Int32) (v4 : Int32) (v5 : Int32) (h : AH) : Option ((Int32 × Int32 × AH) ⊕ ((Int32 × AH))) :=
  some (.inl ((v4, v5 + 1, h)))
def f_X7_still_b135 (N : Nat) (v0 : Nat) (v1 : Int32) (v2 : Int32) (v3 : Int32) (v5 : Int32) (w0 : Int32) (w1 : Int32) (h : AH) : Option ((Int32 × Int32 × AH) ⊕ ((Int32 × AH))) :=
  f_X7_still_b138 N v0 v1 v2 v3 (w0 + w1) v5 h
def f_X7_still_l62 (N : Nat) (v0 : Nat) (v1 : Int32) (v2 : Int32) (v3 : Int32) (v4 : Int32) (v5 : Int32) (h : AH) : Option ((Int32 × Int32 × AH) ⊕ ((Int32 × AH))) :=
  if v2 ≤ v5 then some (.inr ((v4, h)))
  else (jck 7 h v0).bind fun _ =>
  (f_X7_goOn N h v0 1).bind fun r6 =>
  (jgr 7 r6 v0 28).bind fun x10 =>
  (jal 0 r6 x10 v1).bind fun x12 =>
  if 0 ≤ x12 then if v3 = 0 then (jgr 7 r6 v0 31).bind fun x27 =>
  (jgr 7 r6 v0 28).bind fun x29 =>
  (jal 0 r6 x29 v1).bind fun x31 =>
  (jal 0 r6 x27 x31).bind fun x33 =>
  if x33 = 0 then f_X7_still_b135 N v0 v1 v2 v3 v5 v4 1 r6
  else f_X7_still_b135 N v0 v1 v2 v3 v5 v4 0 r6
  else (jgr 7 r6 v0 28).bind fun x16 =>
  (jal 0 r6 x16 v1).bind fun x18 =>
  (jck 7 r6 v0).bind fun _ =>
  (f_X7_whoIs N r6 v0 x18).bind fun r20 =>
  (f_X7_bitsOf N r20.2 r20.1).bind fun r24 =>
  if r24.1 = 1 then f_X7_still_b135 N v0 v1 v2 v3 v5 v4 1 r24.2
  else f_X7_still_b135 N v0 v1 v2 v3 v5 v4 0 r24.2
  else f_X7_still_b138 N v0 v1 v2 v3 v4 v5 r6
def f_X7_still_b62 (N : Nat) (v0 : Nat) (v1 : Int32) (v2 : Int32) (v3 : Int32) (v4 : Int32) (v5 : Int32) (h : AH) : Option (Int32 × AH) :=
  (itr (fun s => f_X7_still_l62 N v0 v1 v2 v3 s.1 s.2.1 s.2.2) N (v4, v5, h)).bind (fun e => (jgr 7 e.2 v0 41).bind fun x36 =>
  (jck 7 e.2 v0).bind fun _ =>
  (f_X7_unpack N e.2 v0 x36 0).bind fun r38 =>
  some (e.1, r38))
def f_X7_still (N : Nat) (h : AH) (a0 : Nat) (a1 : Int32) (a2 : Int32) (a3 : Int32) : Option (Int32 × AH) :=
  (jwi 7 h a0 4 0).bind fun h42 =>
  (jck 7 h42 a0).bind fun _ =>
  (f_X7_isJudge N h42 a0 a1).bind fun r44 =>
  if r44.1 = 0 then f_X7_still_b23 N a0 r44.2
  else (f_X7_isIn N r44.2 (Int32.toInt64 a3) 0 1).bind fun r49 =>
  if r49.1 = 0 then f_X7_still_b23 N a0 r49.2
  else (f_X7_isIn N r49.2 (Int32.toInt64 a2) 1 60).bind fun r52 =>
  if r52.1 = 0 then (jck 7 r52.2 a0).bind fun _ =>
  (f_X7_fail N r52.2 a0 2).bind fun r61 =>
  some (r61.1, r61.2)
  else (jgr 7 r52.2 a0 41).bind fun x55 =>
  (jck 7 r52.2 a0).bind fun _ =>
  (f_X7_pack N r52.2 a0 x55 0).bind fun r57 =>
  f_X7_still_b62 N a0 a1 a2 a3 0 0 r57
set_option maxRecDepth 100000 in
set_option maxHeartbeats 4000000 in
theorem lk_X7_still_b23 {G : JG} {X : JX} (E : jE G X (RX7, cX7_still, 6)) (hX : X.2.2.2.1 = jRm 6 0 0) (hr : X.2.2.2.2.2.2.2.2.1.sig.returnType = (some .int)) (N : Nat) {v0 : Nat} {h : AH}  {r : (Int32 × AH)} (hf : f_X7_still_b23 N v0 h = some r) : JW G X (RX7, cX7_still, 6) h [(0, .ref v0)] [] 23 0 0 (jEnd G X (jpi r) 0 0) := by
  unfold f_X7_still_b23 at hf
  refine J_aload_n E (jd dk_X7_still_0 13 rfl) rfl 0 rfl ?_
  refine J_iconst (v := 1) E (jd dk_X7_still_0 14 rfl) rfl ?_
  obtain ⟨u3, e4, hf⟩ := jbind hf
  obtain ⟨r1, e2, hf⟩ := jbind hf
  refine J_callV E (jd dk_X7_still_0 15 rfl) ml_RX7_293 cal_X7_fail e4 rfl (lk_X7_fail (jE_g E) (jE_tr E) N e2) rfl (Nat.le_of_ble_eq_true rfl) (jR_le hX (by decide) (by decide)) (jF0 hX) rfl ?_
  rintro _ _ ⟨rfl, rfl⟩
  cases hf
  exact J_iret E hr rfl (jd dk_X7_still_0 16 rfl) (Nat.le_refl _) (Nat.le_refl _) ⟨rfl, rfl⟩
set_option maxRecDepth 100000 in
set_option maxHeartbeats 4000000 in
theorem lk_X7_still_b138 {G : JG} {X : JX} (E : jE G X (RX7, cX7_still, 6)) (hX : X.2.2.2.1 = jRm 6 0 0) (hr : X.2.2.2.2.2.2.2.2.1.sig.returnType = (some .int)) (N : Nat) {Q : State → Prop} {v0 : Nat} {v1 : Int32} {v2 : Int32} {v3 : Int32} {v4 : Int32} {v5 : Int32} {h : AH}  {q : ((Int32 × Int32 × AH) ⊕ ((Int32 × AH)))} (hf : f_X7_still_b138 N v0 v1 v2 v3 v4 v5 h = some q) (kb : ∀ s' : Int32 × Int32 × AH, q = .inl s' → JW G X (RX7, cX7_still, 6) s'.2.2 [(0, .ref v0), (1, .int v1), (2, .int v2), (3, .int v3), (4, .int s'.1), (5, .int s'.2.1)] [] 62 0 0 Q) (ke0 : ∀ e : Int32 × AH, q = .inr e → JW G X (RX7, cX7_still, 6) e.2 [(0, .ref v0), (4, .int e.1)] [] 144 0 0 Q) : JW G X (RX7, cX7_still, 6) h [(0, .ref v0), (1, .int v1), (2, .int v2), (3, .int v3), (4, .int v4), (5, .int v5)] [] 138 0 0 Q := by
  unfold f_X7_still_b138 at hf
  refine J_iinc (v := v5 + 1) (lv' := [(5, .int (v5 + 1)), (0, .ref v0), (1, .int v1), (2, .int v2), (3, .int v3), (4, .int v4)]) E (jd dk_X7_still_1 27 rfl) 5 rfl rfl (by decide) rfl ?_
  refine J_goto (tgt := 62) E (jd dk_X7_still_1 28 rfl) (by decide) ?_
  refine J_sub [1, 2, 3, 4, 5, 0] rfl ?_
  exact kb _ (Option.some.inj hf).symm
set_option maxRecDepth 100000 in
set_option maxHeartbeats 4000000 in
theorem lk_X7_still_b135 {G : JG} {X : JX} (E : jE G X (RX7, cX7_still, 6)) (hX : X.2.2.2.1 = jRm 6 0 0) (hr : X.2.2.2.2.2.2.2.2.1.sig.returnType = (some .int)) (N : Nat) {Q : State → Prop} {v0 : Nat} {v1 : Int32} {v2 : Int32} {v3 : Int32} {v5 : Int32} {w0 : Int32} {w1 : Int32} {h : AH}  {q : ((Int32 × Int32 × AH) ⊕ ((Int32 × AH)))} (hf : f_X7_still_b135 N v0 v1 v2 v3 v5 w0 w1 h = some q) (kb : ∀ s' : Int32 × Int32 × AH, q = .inl s' → JW G X (RX7, cX7_still, 6) s'.2.2 [(0, .ref v0), (1, .int v1), (2, .int v2), (3, .int v3), (4, .int s'.1), (5, .int s'.2.1)] [] 62 0 0 Q) (ke0 : ∀ e : Int32 × AH, q = .inr e → JW G X (RX7, cX7_still, 6) e.2 [(0, .ref v0), (4, .int e.1)] [] 144 0 0 Q) : JW G X (RX7, cX7_still, 6) h [(0, .ref v0), (1, .int v1), (2, .int v2), (3, .int v3), (5, .int v5)] [.int w1, .int w0] 135 0 0 Q := by
  unfold f_X7_still_b135 at hf
  refine J_iadd E (jd dk_X7_still_1 25 rfl) ?_
  refine J_istore (lv' := [(4, .int (w0 + w1)), (0, .ref v0), (1, .int v1), (2, .int v2), (3, .int v3), (5, .int v5)]) E (jd dk_X7_still_1 26 rfl) (by decide) rfl ?_
  refine J_sub [1, 2, 3, 4, 0, 5] rfl ?_
  exact lk_X7_still_b138 E hX hr N hf kb ke0
set_option maxRecDepth 100000 in
set_option maxHeartbeats 4000000 in
theorem lk_X7_still_l62 {G : JG} {X : JX} (E : jE G X (RX7, cX7_still, 6)) (hX : X.2.2.2.1 = jRm 6 0 0) (hr : X.2.2.2.2.2.2.2.2.1.sig.returnType = (some .int)) (N : Nat) {Q : State → Prop} {v0 : Nat} {v1 : Int32} {v2 : Int32} {v3 : Int32} {v4 : Int32} {v5 : Int32}  {h : AH} {q : ((Int32 × Int32 × AH) ⊕ ((Int32 × AH)))} (hf : f_X7_still_l62 N v0 v1 v2 v3 v4 v5 h = some q) (kb : ∀ s' : Int32 × Int32 × AH, q = .inl s' → JW G X (RX7, cX7_still, 6) s'.2.2 [(0, .ref v0), (1, .int v1), (2, .int v2), (3, .int v3), (4, .int s'.1), (5, .int s'.2.1)] [] 62 0 0 Q) (ke0 : ∀ e : Int32 × AH, q = .inr e → JW G X (RX7, cX7_still, 6) e.2 [(0, .ref v0), (4, .int e.1)] [] 144 0 0 Q) : JW G X (RX7, cX7_still, 6) h [(0, .ref v0), (1, .int v1), (2, .int v2), (3, .int v3), (4, .int v4), (5, .int v5)] [] 62 0 0 Q := by
  unfold f_X7_still_l62 at hf
  refine J_iload E (jd dk_X7_still_0 36 rfl) 5 rfl ?_
  refine J_iload_n E (jd dk_X7_still_0 37 rfl) rfl 2 rfl ?_
  refine J_icmp_ge (tgt := 144) E (jd dk_X7_still_0 38 rfl) (by decide) (fun c5 => ?_) (fun c5 => ?_)
  · replace hf := jif_t c5 hf
    refine J_sub [0, 4] rfl ?_
    exact ke0 _ (Option.some.inj hf).symm
  · replace hf := jif_f c5 hf
    refine J_aload_n E (jd dk_X7_still_0 39 rfl) rfl 0 rfl ?_
    refine J_iconst (v := 1) E (jd dk_X7_still_0 40 rfl) rfl ?_
    obtain ⟨u8, e9, hf⟩ := jbind hf
    obtain ⟨r6, e7, hf⟩ := jbind hf
    refine J_callV E (jd dk_X7_still_0 41 rfl) ml_RX7_397 cal_X7_goOn e9 rfl (lk_X7_goOn (jE_g E) (jE_tr E) N e7) rfl (Nat.le_of_ble_eq_true rfl) (jR_le hX (by decide) (by decide)) (jF0 hX) rfl ?_
    rintro _ _ ⟨rfl, rfl⟩
    refine J_aload_n E (jd dk_X7_still_0 42 rfl) rfl 0 rfl ?_
    obtain ⟨x10, e11, hf⟩ := jbind hf
    refine J_getr E (jd dk_X7_still_0 43 rfl) fl_RX7_81 e11 ?_
    refine J_iload_n E (jd dk_X7_still_0 44 rfl) rfl 1 rfl ?_
    obtain ⟨x12, e13, hf⟩ := jbind hf
    refine J_iald E (jd dk_X7_still_0 45 rfl) e13 ?_
    refine J_if_ge (tgt := 85) E (jd dk_X7_still_0 46 rfl) (by decide) (fun c14 => ?_) (fun c14 => ?_)
    · replace hf := jif_t c14 hf
      refine J_iload E (jd dk_X7_still_0 48 rfl) 4 rfl ?_
      refine J_iload_n E (jd dk_X7_still_0 49 rfl) rfl 3 rfl ?_
      refine J_if_ne (tgt := 113) E (jd dk_X7_still_1 0 rfl) (by decide) (fun c15 => ?_) (fun c15 => ?_)
      · replace hf := jif_f c15 hf
        refine J_aload_n E (jd dk_X7_still_1 13 rfl) rfl 0 rfl ?_
        refine J_aload_n E (jd dk_X7_still_1 14 rfl) rfl 0 rfl ?_
        obtain ⟨x16, e17, hf⟩ := jbind hf
        refine J_getr E (jd dk_X7_still_1 15 rfl) fl_RX7_81 e17 ?_
        refine J_iload_n E (jd dk_X7_still_1 16 rfl) rfl 1 rfl ?_
        obtain ⟨x18, e19, hf⟩ := jbind hf
        refine J_iald E (jd dk_X7_still_1 17 rfl) e19 ?_
        obtain ⟨u22, e23, hf⟩ := jbind hf
        obtain ⟨r20, e21, hf⟩ := jbind hf
        refine J_callV E (jd dk_X7_still_1 18 rfl) ml_RX7_330 cal_X7_whoIs e23 rfl (lk_X7_whoIs (jE_g E) (jE_tr E) N e21) rfl (Nat.le_of_ble_eq_true rfl) (jR_le hX (by decide) (by decide)) (jF0 hX) rfl ?_
        rintro _ _ ⟨rfl, rfl⟩
        obtain ⟨r24, e25, hf⟩ := jbind hf
        refine J_callS E (jd dk_X7_still_1 19 rfl) ml_RX7_327 cal_X7_bitsOf (lk_X7_bitsOf (jE_g E) (jE_tr E) N e25) rfl (Nat.le_of_ble_eq_true rfl) (jR_le hX (by decide) (by decide)) (jF0 hX) rfl ?_
        rintro _ _ ⟨rfl, rfl⟩
        refine J_iconst (v := 1) E (jd dk_X7_still_1 20 rfl) rfl ?_
        refine J_icmp_ne (tgt := 134) E (jd dk_X7_still_1 21 rfl) (by decide) (fun c26 => ?_) (fun c26 => ?_)
        · replace hf := jif_f c26 hf
          refine J_iconst (v := 0) E (jd dk_X7_still_1 24 rfl) rfl ?_
          refine J_sub [0, 1, 2, 3, 5] rfl ?_
          exact lk_X7_still_b135 E hX hr N hf kb ke0
        · replace hf := jif_t c26 hf
          refine J_iconst (v := 1) E (jd dk_X7_still_1 22 rfl) rfl ?_
          refine J_goto (tgt := 135) E (jd dk_X7_still_1 23 rfl) (by decide) ?_
          refine J_sub [0, 1, 2, 3, 5] rfl ?_
          exact lk_X7_still_b135 E hX hr N hf kb ke0
      · replace hf := jif_t c15 hf
        refine J_aload_n E (jd dk_X7_still_1 1 rfl) rfl 0 rfl ?_
        obtain ⟨x27, e28, hf⟩ := jbind hf
        refine J_getr E (jd dk_X7_still_1 2 rfl) fl_RX7_90 e28 ?_
        refine J_aload_n E (jd dk_X7_still_1 3 rfl) rfl 0 rfl ?_
        obtain ⟨x29, e30, hf⟩ := jbind hf
        refine J_getr E (jd dk_X7_still_1 4 rfl) fl_RX7_81 e30 ?_
        refine J_iload_n E (jd dk_X7_still_1 5 rfl) rfl 1 rfl ?_
        obtain ⟨x31, e32, hf⟩ := jbind hf
        refine J_iald E (jd dk_X7_still_1 6 rfl) e32 ?_
        obtain ⟨x33, e34, hf⟩ := jbind hf
        refine J_iald E (jd dk_X7_still_1 7 rfl) e34 ?_
        refine J_if_ne (tgt := 109) E (jd dk_X7_still_1 8 rfl) (by decide) (fun c35 => ?_) (fun c35 => ?_)
        · replace hf := jif_f c35 hf
          refine J_iconst (v := 0) E (jd dk_X7_still_1 11 rfl) rfl ?_
          refine J_goto (tgt := 135) E (jd dk_X7_still_1 12 rfl) (by decide) ?_
          refine J_sub [0, 1, 2, 3, 5] rfl ?_
          exact lk_X7_still_b135 E hX hr N hf kb ke0
        · replace hf := jif_t c35 hf
          refine J_iconst (v := 1) E (jd dk_X7_still_1 9 rfl) rfl ?_
          refine J_goto (tgt := 135) E (jd dk_X7_still_1 10 rfl) (by decide) ?_
          refine J_sub [0, 1, 2, 3, 5] rfl ?_
          exact lk_X7_still_b135 E hX hr N hf kb ke0
    · replace hf := jif_f c14 hf
      refine J_goto (tgt := 138) E (jd dk_X7_still_0 47 rfl) (by decide) ?_
      exact lk_X7_still_b138 E hX hr N hf kb ke0
set_option maxRecDepth 100000 in
set_option maxHeartbeats 4000000 in
theorem lk_X7_still_b62 {G : JG} {X : JX} (E : jE G X (RX7, cX7_still, 6)) (hX : X.2.2.2.1 = jRm 6 0 0) (hr : X.2.2.2.2.2.2.2.2.1.sig.returnType = (some .int)) (N : Nat) {v0 : Nat} {v1 : Int32} {v2 : Int32} {v3 : Int32} {v4 : Int32} {v5 : Int32} {h : AH}  {r : (Int32 × AH)} (hf : f_X7_still_b62 N v0 v1 v2 v3 v4 v5 h = some r) : JW G X (RX7, cX7_still, 6) h [(0, .ref v0), (1, .int v1), (2, .int v2), (3, .int v3), (4, .int v4), (5, .int v5)] [] 62 0 0 (jEnd G X (jpi r) 0 0) := by
  unfold f_X7_still_b62 at hf
  obtain ⟨q1, h1, hf⟩ := jbind hf
  refine jloop (P := fun s => JW G X (RX7, cX7_still, 6) s.2.2 [(0, .ref v0), (1, .int v1), (2, .int v2), (3, .int v3), (4, .int s.1), (5, .int s.2.1)] [] 62 0 0 (jEnd G X (jpi r) 0 0)) (Ex := fun (e : Int32 × AH) => JW G X (RX7, cX7_still, 6) e.2 [(0, .ref v0), (4, .int e.1)] [] 144 0 0 (jEnd G X (jpi r) 0 0)) (fun s q hs hb hx => lk_X7_still_l62 E hX hr N hs (fun s' hs => hb s' hs) (fun e he => hx e he)) N _ q1 h1 ?_
  generalize q1 = e at hf ⊢
  refine J_aload_n E (jd dk_X7_still_1 29 rfl) rfl 0 rfl ?_
  refine J_aload_n E (jd dk_X7_still_1 30 rfl) rfl 0 rfl ?_
  obtain ⟨x36, e37, hf⟩ := jbind hf
  refine J_getr E (jd dk_X7_still_1 31 rfl) fl_RX7_106 e37 ?_
  refine J_iconst (v := 0) E (jd dk_X7_still_1 32 rfl) rfl ?_
  obtain ⟨u40, e41, hf⟩ := jbind hf
  obtain ⟨r38, e39, hf⟩ := jbind hf
  refine J_callV E (jd dk_X7_still_1 33 rfl) ml_RX7_407 cal_X7_unpack e41 rfl (lk_X7_unpack (jE_g E) (jE_tr E) N e39) rfl (Nat.le_of_ble_eq_true rfl) (jR_le hX (by decide) (by decide)) (jF0 hX) rfl ?_
  rintro _ _ ⟨rfl, rfl⟩
  refine J_iload E (jd dk_X7_still_1 34 rfl) 1 rfl ?_
  cases hf
  exact J_iret E hr rfl (jd dk_X7_still_1 35 rfl) (Nat.le_refl _) (Nat.le_refl _) ⟨rfl, rfl⟩
set_option maxRecDepth 100000 in
set_option maxHeartbeats 4000000 in
theorem lk_X7_still {G : JG} {l : Launch} (hG : jG G) (htr : l.stackTraces = false) (N : Nat) {h : AH} {a0 : Nat} {a1 : Int32} {a2 : Int32} {a3 : Int32} {r : (Int32 × AH)} (hf : f_X7_still N h a0 a1 a2 a3 = some r) : jMet G l yX7_still cX7_still 6 (some .int) 6 0 0 [.ref a0, .int a1, .int a2, .int a3] h (jpi r) := by
  unfold f_X7_still at hf
  refine jMet_of hG htr (by decide) (Nat.le_of_ble_eq_true rfl) ?_
  intro X E hl9 hr hX _ _
  show JW G X (RX7, cX7_still, 6) h [(0, .ref a0), (1, .int a1), (2, .int a2), (3, .int a3)] [] 0 0 0 (jEnd G X (jpi r) 0 0)
  refine J_aload_n E (jd dk_X7_still_0 0 rfl) rfl 0 rfl ?_
  refine J_iconst (v := 0) E (jd dk_X7_still_0 1 rfl) rfl ?_
  obtain ⟨h42, e43, hf⟩ := jbind hf
  refine J_put E (jd dk_X7_still_0 2 rfl) fl_RX7_151 e43 (fun _ => rfl) (fun _ => rfl) ?_
  refine J_aload_n E (jd dk_X7_still_0 3 rfl) rfl 0 rfl ?_
  refine J_iload_n E (jd dk_X7_still_0 4 rfl) rfl 1 rfl ?_
  obtain ⟨u46, e47, hf⟩ := jbind hf
  obtain ⟨r44, e45, hf⟩ := jbind hf
  refine J_callV E (jd dk_X7_still_0 5 rfl) ml_RX7_382 cal_X7_isJudge e47 rfl (lk_X7_isJudge (jE_g E) (jE_tr E) N e45) rfl (Nat.le_of_ble_eq_true rfl) (jR_le hX (by decide) (by decide)) (jF0 hX) rfl ?_
  rintro _ _ ⟨rfl, rfl⟩
  refine J_if_eq (tgt := 23) E (jd dk_X7_still_0 6 rfl) (by decide) (fun c48 => ?_) (fun c48 => ?_)
  · replace hf := jif_t c48 hf
    refine J_sub [0] rfl ?_
    exact lk_X7_still_b23 E hX hr N hf
  · replace hf := jif_f c48 hf
    refine J_iload_n E (jd dk_X7_still_0 7 rfl) rfl 3 rfl ?_
    refine J_i2l E (jd dk_X7_still_0 8 rfl) ?_
    refine J_lconst (v := 0) E (jd dk_X7_still_0 9 rfl) (by decide) ?_
    refine J_lconst (v := 1) E (jd dk_X7_still_0 10 rfl) (by decide) ?_
    obtain ⟨r49, e50, hf⟩ := jbind hf
    refine J_callS E (jd dk_X7_still_0 11 rfl) ml_RX7_154 cal_X7_isIn (lk_X7_isIn (jE_g E) (jE_tr E) N e50) rfl (Nat.le_of_ble_eq_true rfl) (jR_le hX (by decide) (by decide)) (jF0 hX) rfl ?_
    rintro _ _ ⟨rfl, rfl⟩
    refine J_if_ne (tgt := 29) E (jd dk_X7_still_0 12 rfl) (by decide) (fun c51 => ?_) (fun c51 => ?_)
    · replace hf := jif_f c51 hf
      refine J_iload_n E (jd dk_X7_still_0 17 rfl) rfl 2 rfl ?_
      refine J_i2l E (jd dk_X7_still_0 18 rfl) ?_
      refine J_lconst (v := 1) E (jd dk_X7_still_0 19 rfl) (by decide) ?_
      refine J_ldc2 (v := 60) E (jd dk_X7_still_0 20 rfl) (jl32_in _ (List.mem_of_getElem? (i := 12) rfl)) ?_
      obtain ⟨r52, e53, hf⟩ := jbind hf
      refine J_callS E (jd dk_X7_still_0 21 rfl) ml_RX7_154 cal_X7_isIn (lk_X7_isIn (jE_g E) (jE_tr E) N e53) rfl (Nat.le_of_ble_eq_true rfl) (jR_le hX (by decide) (by decide)) (jF0 hX) rfl ?_
      rintro _ _ ⟨rfl, rfl⟩
      refine J_if_ne (tgt := 47) E (jd dk_X7_still_0 22 rfl) (by decide) (fun c54 => ?_) (fun c54 => ?_)
      · replace hf := jif_f c54 hf
        refine J_aload_n E (jd dk_X7_still_0 27 rfl) rfl 0 rfl ?_
        refine J_aload_n E (jd dk_X7_still_0 28 rfl) rfl 0 rfl ?_
        obtain ⟨x55, e56, hf⟩ := jbind hf
        refine J_getr E (jd dk_X7_still_0 29 rfl) fl_RX7_106 e56 ?_
        refine J_iconst (v := 0) E (jd dk_X7_still_0 30 rfl) rfl ?_
        obtain ⟨u59, e60, hf⟩ := jbind hf
        obtain ⟨r57, e58, hf⟩ := jbind hf
        refine J_callV E (jd dk_X7_still_0 31 rfl) ml_RX7_385 cal_X7_pack e60 rfl (lk_X7_pack (jE_g E) (jE_tr E) N e58) rfl (Nat.le_of_ble_eq_true rfl) (jR_le hX (by decide) (by decide)) (jF0 hX) rfl ?_
        rintro _ _ ⟨rfl, rfl⟩
        refine J_iconst (v := 0) E (jd dk_X7_still_0 32 rfl) rfl ?_
        refine J_istore (lv' := [(4, .int 0), (0, .ref a0), (1, .int a1), (2, .int a2), (3, .int a3)]) E (jd dk_X7_still_0 33 rfl) (by decide) rfl ?_
        refine J_iconst (v := 0) E (jd dk_X7_still_0 34 rfl) rfl ?_
        refine J_istore (lv' := [(5, .int 0), (4, .int 0), (0, .ref a0), (1, .int a1), (2, .int a2), (3, .int a3)]) E (jd dk_X7_still_0 35 rfl) (by decide) rfl ?_
        refine J_sub [2, 3, 4, 5, 1, 0] rfl ?_
        exact lk_X7_still_b62 E hX hr N hf
      · replace hf := jif_t c54 hf
        refine J_aload_n E (jd dk_X7_still_0 23 rfl) rfl 0 rfl ?_
        refine J_iconst (v := 2) E (jd dk_X7_still_0 24 rfl) rfl ?_
        obtain ⟨u63, e64, hf⟩ := jbind hf
        obtain ⟨r61, e62, hf⟩ := jbind hf
        refine J_callV E (jd dk_X7_still_0 25 rfl) ml_RX7_293 cal_X7_fail e64 rfl (lk_X7_fail (jE_g E) (jE_tr E) N e62) rfl (Nat.le_of_ble_eq_true rfl) (jR_le hX (by decide) (by decide)) (jF0 hX) rfl ?_
        rintro _ _ ⟨rfl, rfl⟩
        cases hf
        exact J_iret E hr rfl (jd dk_X7_still_0 26 rfl) (Nat.le_refl _) (Nat.le_refl _) ⟨rfl, rfl⟩
    · replace hf := jif_t c51 hf
      refine J_sub [0] rfl ?_
      exact lk_X7_still_b23 E hX hr N hf
def f_X7_turned (N : Nat) (h : AH) (a0 : Nat) (a1 : Int32) (a2 : Int32) : Option (Int32 × AH) :=
  (jwi 7 h a0 4 0).bind fun h1 =>
  (jck 7 h1 a0).bind fun _ =>
  (f_X7_isJudge N h1 a0 a1).bind fun r3 =>
  if r3.1 = 0 then (jck 7 r3.2 a0).bind fun _ =>
  (f_X7_fail N r3.2 a0 1).bind fun r39 =>
  some (r39.1, r39.2)
  else (f_X7_isIn N r3.2 (Int32.toInt64 a2) 0 60).bind fun r8 =>
  if r8.1 = 0 then (jck 7 r8.2 a0).bind fun _ =>
  (f_X7_fail N r8.2 a0 2).bind fun r35 =>
  some (r35.1, r35.2)
  else (jgr 7 r8.2 a0 41).bind fun x11 =>
  (jck 7 r8.2 a0).bind fun _ =>
  (f_X7_pack N r8.2 a0 x11 0).bind fun r13 =>
  (jck 7 r13 a0).bind fun _ =>
  (f_X7_beginAnew N r13 a0).bind fun r17 =>
  (jck 7 r17 a0).bind fun _ =>
  (f_X7_goOn N r17 a0 a2).bind fun r21 =>
  (jgr 7 r21 a0 41).bind fun x25 =>
  (jck 7 r21 a0).bind fun _ =>
  (f_X7_unpack N r21 a0 x25 0).bind fun r27 =>
  (jgr 7 r27 a0 39).bind fun x31 =>
  (jal 0 r27 x31 a1).bind fun x33 =>
  some (x33, r27)
set_option maxRecDepth 100000 in
set_option maxHeartbeats 4000000 in
theorem lk_X7_turned {G : JG} {l : Launch} (hG : jG G) (htr : l.stackTraces = false) (N : Nat) {h : AH} {a0 : Nat} {a1 : Int32} {a2 : Int32} {r : (Int32 × AH)} (hf : f_X7_turned N h a0 a1 a2 = some r) : jMet G l yX7_turned cX7_turned 3 (some .int) 6 0 0 [.ref a0, .int a1, .int a2] h (jpi r) := by
  unfold f_X7_turned at hf
  refine jMet_of hG htr (by decide) (Nat.le_of_ble_eq_true rfl) ?_
  intro X E hl9 hr hX _ _
  show JW G X (RX7, cX7_turned, 3) h [(0, .ref a0), (1, .int a1), (2, .int a2)] [] 0 0 0 (jEnd G X (jpi r) 0 0)
  refine J_aload_n E (jd dk_X7_turned_0 0 rfl) rfl 0 rfl ?_
  refine J_iconst (v := 0) E (jd dk_X7_turned_0 1 rfl) rfl ?_
  obtain ⟨h1, e2, hf⟩ := jbind hf
  refine J_put E (jd dk_X7_turned_0 2 rfl) fl_RX7_151 e2 (fun _ => rfl) (fun _ => rfl) ?_
  refine J_aload_n E (jd dk_X7_turned_0 3 rfl) rfl 0 rfl ?_
  refine J_iload_n E (jd dk_X7_turned_0 4 rfl) rfl 1 rfl ?_
  obtain ⟨u5, e6, hf⟩ := jbind hf
  obtain ⟨r3, e4, hf⟩ := jbind hf
  refine J_callV E (jd dk_X7_turned_0 5 rfl) ml_RX7_382 cal_X7_isJudge e6 rfl (lk_X7_isJudge (jE_g E) (jE_tr E) N e4) rfl (Nat.le_of_ble_eq_true rfl) (jR_le hX (by decide) (by decide)) (jF0 hX) rfl ?_
  rintro _ _ ⟨rfl, rfl⟩
  refine J_if_ne (tgt := 19) E (jd dk_X7_turned_0 6 rfl) (by decide) (fun c7 => ?_) (fun c7 => ?_)
  · replace hf := jif_f c7 hf
    refine J_iload_n E (jd dk_X7_turned_0 11 rfl) rfl 2 rfl ?_
    refine J_i2l E (jd dk_X7_turned_0 12 rfl) ?_
    refine J_lconst (v := 0) E (jd dk_X7_turned_0 13 rfl) (by decide) ?_
    refine J_ldc2 (v := 60) E (jd dk_X7_turned_0 14 rfl) (jl32_in _ (List.mem_of_getElem? (i := 12) rfl)) ?_
    obtain ⟨r8, e9, hf⟩ := jbind hf
    refine J_callS E (jd dk_X7_turned_0 15 rfl) ml_RX7_154 cal_X7_isIn (lk_X7_isIn (jE_g E) (jE_tr E) N e9) rfl (Nat.le_of_ble_eq_true rfl) (jR_le hX (by decide) (by decide)) (jF0 hX) rfl ?_
    rintro _ _ ⟨rfl, rfl⟩
    refine J_if_ne (tgt := 37) E (jd dk_X7_turned_0 16 rfl) (by decide) (fun c10 => ?_) (fun c10 => ?_)
    · replace hf := jif_f c10 hf
      refine J_aload_n E (jd dk_X7_turned_0 21 rfl) rfl 0 rfl ?_
      refine J_aload_n E (jd dk_X7_turned_0 22 rfl) rfl 0 rfl ?_
      obtain ⟨x11, e12, hf⟩ := jbind hf
      refine J_getr E (jd dk_X7_turned_0 23 rfl) fl_RX7_106 e12 ?_
      refine J_iconst (v := 0) E (jd dk_X7_turned_0 24 rfl) rfl ?_
      obtain ⟨u15, e16, hf⟩ := jbind hf
      obtain ⟨r13, e14, hf⟩ := jbind hf
      refine J_callV E (jd dk_X7_turned_0 25 rfl) ml_RX7_385 cal_X7_pack e16 rfl (lk_X7_pack (jE_g E) (jE_tr E) N e14) rfl (Nat.le_of_ble_eq_true rfl) (jR_le hX (by decide) (by decide)) (jF0 hX) rfl ?_
      rintro _ _ ⟨rfl, rfl⟩
      refine J_aload_n E (jd dk_X7_turned_0 26 rfl) rfl 0 rfl ?_
      obtain ⟨u19, e20, hf⟩ := jbind hf
      obtain ⟨r17, e18, hf⟩ := jbind hf
      refine J_callV E (jd dk_X7_turned_0 27 rfl) ml_RX7_418 cal_X7_beginAnew e20 rfl (lk_X7_beginAnew (jE_g E) (jE_tr E) N e18) rfl (Nat.le_of_ble_eq_true rfl) (jR_le hX (by decide) (by decide)) (jF0 hX) rfl ?_
      rintro _ _ ⟨rfl, rfl⟩
      refine J_aload_n E (jd dk_X7_turned_0 28 rfl) rfl 0 rfl ?_
      refine J_iload_n E (jd dk_X7_turned_0 29 rfl) rfl 2 rfl ?_
      obtain ⟨u23, e24, hf⟩ := jbind hf
      obtain ⟨r21, e22, hf⟩ := jbind hf
      refine J_callV E (jd dk_X7_turned_0 30 rfl) ml_RX7_397 cal_X7_goOn e24 rfl (lk_X7_goOn (jE_g E) (jE_tr E) N e22) rfl (Nat.le_of_ble_eq_true rfl) (jR_le hX (by decide) (by decide)) (jF0 hX) rfl ?_
      rintro _ _ ⟨rfl, rfl⟩
      refine J_aload_n E (jd dk_X7_turned_0 31 rfl) rfl 0 rfl ?_
      refine J_aload_n E (jd dk_X7_turned_0 32 rfl) rfl 0 rfl ?_
      obtain ⟨x25, e26, hf⟩ := jbind hf
      refine J_getr E (jd dk_X7_turned_0 33 rfl) fl_RX7_106 e26 ?_
      refine J_iconst (v := 0) E (jd dk_X7_turned_0 34 rfl) rfl ?_
      obtain ⟨u29, e30, hf⟩ := jbind hf
      obtain ⟨r27, e28, hf⟩ := jbind hf
      refine J_callV E (jd dk_X7_turned_0 35 rfl) ml_RX7_407 cal_X7_unpack e30 rfl (lk_X7_unpack (jE_g E) (jE_tr E) N e28) rfl (Nat.le_of_ble_eq_true rfl) (jR_le hX (by decide) (by decide)) (jF0 hX) rfl ?_
      rintro _ _ ⟨rfl, rfl⟩
      refine J_aload_n E (jd dk_X7_turned_0 36 rfl) rfl 0 rfl ?_
      obtain ⟨x31, e32, hf⟩ := jbind hf
      refine J_getr E (jd dk_X7_turned_0 37 rfl) fl_RX7_103 e32 ?_
      refine J_iload_n E (jd dk_X7_turned_0 38 rfl) rfl 1 rfl ?_
      obtain ⟨x33, e34, hf⟩ := jbind hf
      refine J_iald E (jd dk_X7_turned_0 39 rfl) e34 ?_
      cases hf
      exact J_iret E hr rfl (jd dk_X7_turned_0 40 rfl) (Nat.le_refl _) (Nat.le_refl _) ⟨rfl, rfl⟩
    · replace hf := jif_t c10 hf
      refine J_aload_n E (jd dk_X7_turned_0 17 rfl) rfl 0 rfl ?_
      refine J_iconst (v := 2) E (jd dk_X7_turned_0 18 rfl) rfl ?_
      obtain ⟨u37, e38, hf⟩ := jbind hf
      obtain ⟨r35, e36, hf⟩ := jbind hf
      refine J_callV E (jd dk_X7_turned_0 19 rfl) ml_RX7_293 cal_X7_fail e38 rfl (lk_X7_fail (jE_g E) (jE_tr E) N e36) rfl (Nat.le_of_ble_eq_true rfl) (jR_le hX (by decide) (by decide)) (jF0 hX) rfl ?_
      rintro _ _ ⟨rfl, rfl⟩
      cases hf
      exact J_iret E hr rfl (jd dk_X7_turned_0 20 rfl) (Nat.le_refl _) (Nat.le_refl _) ⟨rfl, rfl⟩
  · replace hf := jif_t c7 hf
    refine J_aload_n E (jd dk_X7_turned_0 7 rfl) rfl 0 rfl ?_
    refine J_iconst (v := 1) E (jd dk_X7_turned_0 8 rfl) rfl ?_
    obtain ⟨u41, e42, hf⟩ := jbind hf
    obtain ⟨r39, e40, hf⟩ := jbind hf
    refine J_callV E (jd dk_X7_turned_0 9 rfl) ml_RX7_293 cal_X7_fail e42 rfl (lk_X7_fail (jE_g E) (jE_tr E) N e40) rfl (Nat.le_of_ble_eq_true rfl) (jR_le hX (by decide) (by decide)) (jF0 hX) rfl ?_
    rintro _ _ ⟨rfl, rfl⟩
    cases hf
    exact J_iret E hr rfl (jd dk_X7_turned_0 10 rfl) (Nat.le_refl _) (Nat.le_refl _) ⟨rfl, rfl⟩
def f_X7_stay_b81 (N : Nat) (v0 : Nat) (v1 : Int32) (v2 : Int32) (v5 : Int32) (w0 : Int32) (h : AH) : Option ((Int32 × Int32 × Int32 × Int32 × AH) ⊕ ((Int32 × AH))) :=
  (jgr 7 h v0 28).bind fun x1 =>
  (jal 0 h x1 v1).bind fun x3 =>
  some (.inl ((jmx v2 w0, w0, x3, v5 + 1, h)))
def f_X7_stay_l38 (N : Nat) (v0 : Nat) (v1 : Int32) (v2 : Int32) (v3 : Int32) (v4 : Int32) (v5 : Int32) (h : AH) : Option ((Int32 × Int32 × Int32 × Int32 × AH) ⊕ ((Int32 × AH))) :=
  if 60 ≤ v5 then some (.inr ((v2, h)))
  else (jck 7 h v0).bind fun _ =>
  (f_X7_goOn N h v0 1).bind fun r6 =>
  (jgr 7 r6 v0 28).bind fun x10 =>
  (jal 0 r6 x10 v1).bind fun x12 =>
  if 0 ≤ x12 then (jgr 7 r6 v0 28).bind fun x15 =>
  (jal 0 r6 x15 v1).bind fun x17 =>
  if x17 = v4 then f_X7_stay_b81 N v0 v1 v2 v5 (v3 + 1) r6
  else f_X7_stay_b81 N v0 v1 v2 v5 1 r6
  else f_X7_stay_b81 N v0 v1 v2 v5 0 r6
def f_X7_stay_b38 (N : Nat) (v0 : Nat) (v1 : Int32) (v2 : Int32) (v3 : Int32) (v4 : Int32) (v5 : Int32) (h : AH) : Option (Int32 × AH) :=
  (itr (fun s => f_X7_stay_l38 N v0 v1 s.1 s.2.1 s.2.2.1 s.2.2.2.1 s.2.2.2.2) N (v2, v3, v4, v5, h)).bind (fun e => (jgr 7 e.2 v0 41).bind fun x20 =>
  (jck 7 e.2 v0).bind fun _ =>
  (f_X7_unpack N e.2 v0 x20 0).bind fun r22 =>
  some (e.1, r22))
def f_X7_stay (N : Nat) (h : AH) (a0 : Nat) (a1 : Int32) : Option (Int32 × AH) :=
  (jwi 7 h a0 4 0).bind fun h26 =>
  (jck 7 h26 a0).bind fun _ =>
  (f_X7_isJudge N h26 a0 a1).bind fun r28 =>
  if r28.1 = 0 then (jck 7 r28.2 a0).bind fun _ =>
  (f_X7_fail N r28.2 a0 1).bind fun r39 =>
  some (r39.1, r39.2)
  else (jgr 7 r28.2 a0 41).bind fun x33 =>
  (jck 7 r28.2 a0).bind fun _ =>
  (f_X7_pack N r28.2 a0 x33 0).bind fun r35 =>
  f_X7_stay_b38 N a0 a1 0 0 ((-1)) 0 r35
set_option maxRecDepth 100000 in
set_option maxHeartbeats 4000000 in
theorem lk_X7_stay_b81 {G : JG} {X : JX} (E : jE G X (RX7, cX7_stay, 6)) (hX : X.2.2.2.1 = jRm 6 0 0) (hr : X.2.2.2.2.2.2.2.2.1.sig.returnType = (some .int)) (N : Nat) {Q : State → Prop} {v0 : Nat} {v1 : Int32} {v2 : Int32} {v5 : Int32} {w0 : Int32} {h : AH}  {q : ((Int32 × Int32 × Int32 × Int32 × AH) ⊕ ((Int32 × AH)))} (hf : f_X7_stay_b81 N v0 v1 v2 v5 w0 h = some q) (kb : ∀ s' : Int32 × Int32 × Int32 × Int32 × AH, q = .inl s' → JW G X (RX7, cX7_stay, 6) s'.2.2.2.2 [(0, .ref v0), (1, .int v1), (2, .int s'.1), (3, .int s'.2.1), (4, .int s'.2.2.1), (5, .int s'.2.2.2.1)] [] 38 0 0 Q) (ke0 : ∀ e : Int32 × AH, q = .inr e → JW G X (RX7, cX7_stay, 6) e.2 [(0, .ref v0), (2, .int e.1)] [] 102 0 0 Q) : JW G X (RX7, cX7_stay, 6) h [(0, .ref v0), (1, .int v1), (2, .int v2), (5, .int v5)] [.int w0] 81 0 0 Q := by
  unfold f_X7_stay_b81 at hf
  refine J_istore_n (lv' := [(3, .int w0), (0, .ref v0), (1, .int v1), (2, .int v2), (5, .int v5)]) E (jd dk_X7_stay_0 48 rfl) rfl (by decide) rfl ?_
  refine J_aload_n E (jd dk_X7_stay_0 49 rfl) rfl 1 rfl ?_
  obtain ⟨x1, e2, hf⟩ := jbind hf
  refine J_getr E (jd dk_X7_stay_1 0 rfl) fl_RX7_81 e2 ?_
  refine J_iload_n E (jd dk_X7_stay_1 1 rfl) rfl 2 rfl ?_
  obtain ⟨x3, e4, hf⟩ := jbind hf
  refine J_iald E (jd dk_X7_stay_1 2 rfl) e4 ?_
  refine J_istore (lv' := [(4, .int x3), (3, .int w0), (0, .ref v0), (1, .int v1), (2, .int v2), (5, .int v5)]) E (jd dk_X7_stay_1 3 rfl) (by decide) rfl ?_
  refine J_iload_n E (jd dk_X7_stay_1 4 rfl) rfl 4 rfl ?_
  refine J_iload_n E (jd dk_X7_stay_1 5 rfl) rfl 1 rfl ?_
  refine J_max E (jd dk_X7_stay_1 6 rfl) ml_RX7_341 (Nat.le_of_ble_eq_true rfl) (by rw [hX]; exact ⟨Nat.zero_le _, Nat.zero_le _⟩) ?_
  refine J_istore_n (lv' := [(2, .int (jmx v2 w0)), (4, .int x3), (3, .int w0), (0, .ref v0), (1, .int v1), (5, .int v5)]) E (jd dk_X7_stay_1 7 rfl) rfl (by decide) rfl ?_
  refine J_iinc (v := v5 + 1) (lv' := [(5, .int (v5 + 1)), (2, .int (jmx v2 w0)), (4, .int x3), (3, .int w0), (0, .ref v0), (1, .int v1)]) E (jd dk_X7_stay_1 8 rfl) 5 rfl rfl (by decide) rfl ?_
  refine J_goto (tgt := 38) E (jd dk_X7_stay_1 9 rfl) (by decide) ?_
  refine J_sub [4, 5, 1, 3, 2, 0] rfl ?_
  exact kb _ (Option.some.inj hf).symm
set_option maxRecDepth 100000 in
set_option maxHeartbeats 4000000 in
theorem lk_X7_stay_l38 {G : JG} {X : JX} (E : jE G X (RX7, cX7_stay, 6)) (hX : X.2.2.2.1 = jRm 6 0 0) (hr : X.2.2.2.2.2.2.2.2.1.sig.returnType = (some .int)) (N : Nat) {Q : State → Prop} {v0 : Nat} {v1 : Int32} {v2 : Int32} {v3 : Int32} {v4 : Int32} {v5 : Int32}  {h : AH} {q : ((Int32 × Int32 × Int32 × Int32 × AH) ⊕ ((Int32 × AH)))} (hf : f_X7_stay_l38 N v0 v1 v2 v3 v4 v5 h = some q) (kb : ∀ s' : Int32 × Int32 × Int32 × Int32 × AH, q = .inl s' → JW G X (RX7, cX7_stay, 6) s'.2.2.2.2 [(0, .ref v0), (1, .int v1), (2, .int s'.1), (3, .int s'.2.1), (4, .int s'.2.2.1), (5, .int s'.2.2.2.1)] [] 38 0 0 Q) (ke0 : ∀ e : Int32 × AH, q = .inr e → JW G X (RX7, cX7_stay, 6) e.2 [(0, .ref v0), (2, .int e.1)] [] 102 0 0 Q) : JW G X (RX7, cX7_stay, 6) h [(0, .ref v0), (1, .int v1), (2, .int v2), (3, .int v3), (4, .int v4), (5, .int v5)] [] 38 0 0 Q := by
  unfold f_X7_stay_l38 at hf
  refine J_iload E (jd dk_X7_stay_0 24 rfl) 5 rfl ?_
  refine J_bipush (v := 60) E (jd dk_X7_stay_0 25 rfl) (by decide) ?_
  refine J_icmp_ge (tgt := 102) E (jd dk_X7_stay_0 26 rfl) (by decide) (fun c5 => ?_) (fun c5 => ?_)
  · replace hf := jif_t c5 hf
    refine J_sub [0, 2] rfl ?_
    exact ke0 _ (Option.some.inj hf).symm
  · replace hf := jif_f c5 hf
    refine J_aload_n E (jd dk_X7_stay_0 27 rfl) rfl 0 rfl ?_
    refine J_iconst (v := 1) E (jd dk_X7_stay_0 28 rfl) rfl ?_
    obtain ⟨u8, e9, hf⟩ := jbind hf
    obtain ⟨r6, e7, hf⟩ := jbind hf
    refine J_callV E (jd dk_X7_stay_0 29 rfl) ml_RX7_397 cal_X7_goOn e9 rfl (lk_X7_goOn (jE_g E) (jE_tr E) N e7) rfl (Nat.le_of_ble_eq_true rfl) (jR_le hX (by decide) (by decide)) (jF0 hX) rfl ?_
    rintro _ _ ⟨rfl, rfl⟩
    refine J_aload_n E (jd dk_X7_stay_0 30 rfl) rfl 0 rfl ?_
    obtain ⟨x10, e11, hf⟩ := jbind hf
    refine J_getr E (jd dk_X7_stay_0 31 rfl) fl_RX7_81 e11 ?_
    refine J_iload_n E (jd dk_X7_stay_0 32 rfl) rfl 1 rfl ?_
    obtain ⟨x12, e13, hf⟩ := jbind hf
    refine J_iald E (jd dk_X7_stay_0 33 rfl) e13 ?_
    refine J_if_ge (tgt := 63) E (jd dk_X7_stay_0 34 rfl) (by decide) (fun c14 => ?_) (fun c14 => ?_)
    · replace hf := jif_t c14 hf
      refine J_aload_n E (jd dk_X7_stay_0 37 rfl) rfl 0 rfl ?_
      obtain ⟨x15, e16, hf⟩ := jbind hf
      refine J_getr E (jd dk_X7_stay_0 38 rfl) fl_RX7_81 e16 ?_
      refine J_iload_n E (jd dk_X7_stay_0 39 rfl) rfl 1 rfl ?_
      obtain ⟨x17, e18, hf⟩ := jbind hf
      refine J_iald E (jd dk_X7_stay_0 40 rfl) e18 ?_
      refine J_iload E (jd dk_X7_stay_0 41 rfl) 4 rfl ?_
      refine J_icmp_ne (tgt := 80) E (jd dk_X7_stay_0 42 rfl) (by decide) (fun c19 => ?_) (fun c19 => ?_)
      · replace hf := jif_f c19 hf
        refine J_iconst (v := 1) E (jd dk_X7_stay_0 47 rfl) rfl ?_
        refine J_sub [0, 1, 2, 5] rfl ?_
        exact lk_X7_stay_b81 E hX hr N hf kb ke0
      · replace hf := jif_t c19 hf
        refine J_iload_n E (jd dk_X7_stay_0 43 rfl) rfl 3 rfl ?_
        refine J_iconst (v := 1) E (jd dk_X7_stay_0 44 rfl) rfl ?_
        refine J_iadd E (jd dk_X7_stay_0 45 rfl) ?_
        refine J_goto (tgt := 81) E (jd dk_X7_stay_0 46 rfl) (by decide) ?_
        refine J_sub [0, 1, 2, 5] rfl ?_
        exact lk_X7_stay_b81 E hX hr N hf kb ke0
    · replace hf := jif_f c14 hf
      refine J_iconst (v := 0) E (jd dk_X7_stay_0 35 rfl) rfl ?_
      refine J_goto (tgt := 81) E (jd dk_X7_stay_0 36 rfl) (by decide) ?_
      refine J_sub [0, 1, 2, 5] rfl ?_
      exact lk_X7_stay_b81 E hX hr N hf kb ke0
set_option maxRecDepth 100000 in
set_option maxHeartbeats 4000000 in
theorem lk_X7_stay_b38 {G : JG} {X : JX} (E : jE G X (RX7, cX7_stay, 6)) (hX : X.2.2.2.1 = jRm 6 0 0) (hr : X.2.2.2.2.2.2.2.2.1.sig.returnType = (some .int)) (N : Nat) {v0 : Nat} {v1 : Int32} {v2 : Int32} {v3 : Int32} {v4 : Int32} {v5 : Int32} {h : AH}  {r : (Int32 × AH)} (hf : f_X7_stay_b38 N v0 v1 v2 v3 v4 v5 h = some r) : JW G X (RX7, cX7_stay, 6) h [(0, .ref v0), (1, .int v1), (2, .int v2), (3, .int v3), (4, .int v4), (5, .int v5)] [] 38 0 0 (jEnd G X (jpi r) 0 0) := by
  unfold f_X7_stay_b38 at hf
  obtain ⟨q1, h1, hf⟩ := jbind hf
  refine jloop (P := fun s => JW G X (RX7, cX7_stay, 6) s.2.2.2.2 [(0, .ref v0), (1, .int v1), (2, .int s.1), (3, .int s.2.1), (4, .int s.2.2.1), (5, .int s.2.2.2.1)] [] 38 0 0 (jEnd G X (jpi r) 0 0)) (Ex := fun (e : Int32 × AH) => JW G X (RX7, cX7_stay, 6) e.2 [(0, .ref v0), (2, .int e.1)] [] 102 0 0 (jEnd G X (jpi r) 0 0)) (fun s q hs hb hx => lk_X7_stay_l38 E hX hr N hs (fun s' hs => hb s' hs) (fun e he => hx e he)) N _ q1 h1 ?_
  generalize q1 = e at hf ⊢
  refine J_aload_n E (jd dk_X7_stay_1 10 rfl) rfl 0 rfl ?_
  refine J_aload_n E (jd dk_X7_stay_1 11 rfl) rfl 0 rfl ?_
  obtain ⟨x20, e21, hf⟩ := jbind hf
  refine J_getr E (jd dk_X7_stay_1 12 rfl) fl_RX7_106 e21 ?_
  refine J_iconst (v := 0) E (jd dk_X7_stay_1 13 rfl) rfl ?_
  obtain ⟨u24, e25, hf⟩ := jbind hf
  obtain ⟨r22, e23, hf⟩ := jbind hf
  refine J_callV E (jd dk_X7_stay_1 14 rfl) ml_RX7_407 cal_X7_unpack e25 rfl (lk_X7_unpack (jE_g E) (jE_tr E) N e23) rfl (Nat.le_of_ble_eq_true rfl) (jR_le hX (by decide) (by decide)) (jF0 hX) rfl ?_
  rintro _ _ ⟨rfl, rfl⟩
  refine J_iload_n E (jd dk_X7_stay_1 15 rfl) rfl 1 rfl ?_
  cases hf
  exact J_iret E hr rfl (jd dk_X7_stay_1 16 rfl) (Nat.le_refl _) (Nat.le_refl _) ⟨rfl, rfl⟩
set_option maxRecDepth 100000 in
set_option maxHeartbeats 4000000 in
theorem lk_X7_stay {G : JG} {l : Launch} (hG : jG G) (htr : l.stackTraces = false) (N : Nat) {h : AH} {a0 : Nat} {a1 : Int32} {r : (Int32 × AH)} (hf : f_X7_stay N h a0 a1 = some r) : jMet G l yX7_stay cX7_stay 6 (some .int) 6 0 0 [.ref a0, .int a1] h (jpi r) := by
  unfold f_X7_stay at hf
  refine jMet_of hG htr (by decide) (Nat.le_of_ble_eq_true rfl) ?_
  intro X E hl9 hr hX _ _
  show JW G X (RX7, cX7_stay, 6) h [(0, .ref a0), (1, .int a1)] [] 0 0 0 (jEnd G X (jpi r) 0 0)
  refine J_aload_n E (jd dk_X7_stay_0 0 rfl) rfl 0 rfl ?_
  refine J_iconst (v := 0) E (jd dk_X7_stay_0 1 rfl) rfl ?_
  obtain ⟨h26, e27, hf⟩ := jbind hf
  refine J_put E (jd dk_X7_stay_0 2 rfl) fl_RX7_151 e27 (fun _ => rfl) (fun _ => rfl) ?_
  refine J_aload_n E (jd dk_X7_stay_0 3 rfl) rfl 0 rfl ?_
  refine J_iload_n E (jd dk_X7_stay_0 4 rfl) rfl 1 rfl ?_
  obtain ⟨u30, e31, hf⟩ := jbind hf
  obtain ⟨r28, e29, hf⟩ := jbind hf
  refine J_callV E (jd dk_X7_stay_0 5 rfl) ml_RX7_382 cal_X7_isJudge e31 rfl (lk_X7_isJudge (jE_g E) (jE_tr E) N e29) rfl (Nat.le_of_ble_eq_true rfl) (jR_le hX (by decide) (by decide)) (jF0 hX) rfl ?_
  rintro _ _ ⟨rfl, rfl⟩
  refine J_if_ne (tgt := 19) E (jd dk_X7_stay_0 6 rfl) (by decide) (fun c32 => ?_) (fun c32 => ?_)
  · replace hf := jif_f c32 hf
    refine J_aload_n E (jd dk_X7_stay_0 11 rfl) rfl 0 rfl ?_
    refine J_aload_n E (jd dk_X7_stay_0 12 rfl) rfl 0 rfl ?_
    obtain ⟨x33, e34, hf⟩ := jbind hf
    refine J_getr E (jd dk_X7_stay_0 13 rfl) fl_RX7_106 e34 ?_
    refine J_iconst (v := 0) E (jd dk_X7_stay_0 14 rfl) rfl ?_
    obtain ⟨u37, e38, hf⟩ := jbind hf
    obtain ⟨r35, e36, hf⟩ := jbind hf
    refine J_callV E (jd dk_X7_stay_0 15 rfl) ml_RX7_385 cal_X7_pack e38 rfl (lk_X7_pack (jE_g E) (jE_tr E) N e36) rfl (Nat.le_of_ble_eq_true rfl) (jR_le hX (by decide) (by decide)) (jF0 hX) rfl ?_
    rintro _ _ ⟨rfl, rfl⟩
    refine J_iconst (v := 0) E (jd dk_X7_stay_0 16 rfl) rfl ?_
    refine J_istore_n (lv' := [(2, .int 0), (0, .ref a0), (1, .int a1)]) E (jd dk_X7_stay_0 17 rfl) rfl (by decide) rfl ?_
    refine J_iconst (v := 0) E (jd dk_X7_stay_0 18 rfl) rfl ?_
    refine J_istore_n (lv' := [(3, .int 0), (2, .int 0), (0, .ref a0), (1, .int a1)]) E (jd dk_X7_stay_0 19 rfl) rfl (by decide) rfl ?_
    refine J_iconst (v := (-1)) E (jd dk_X7_stay_0 20 rfl) rfl ?_
    refine J_istore (lv' := [(4, .int ((-1))), (3, .int 0), (2, .int 0), (0, .ref a0), (1, .int a1)]) E (jd dk_X7_stay_0 21 rfl) (by decide) rfl ?_
    refine J_iconst (v := 0) E (jd dk_X7_stay_0 22 rfl) rfl ?_
    refine J_istore (lv' := [(5, .int 0), (4, .int ((-1))), (3, .int 0), (2, .int 0), (0, .ref a0), (1, .int a1)]) E (jd dk_X7_stay_0 23 rfl) (by decide) rfl ?_
    refine J_sub [4, 5, 3, 2, 1, 0] rfl ?_
    exact lk_X7_stay_b38 E hX hr N hf
  · replace hf := jif_t c32 hf
    refine J_aload_n E (jd dk_X7_stay_0 7 rfl) rfl 0 rfl ?_
    refine J_iconst (v := 1) E (jd dk_X7_stay_0 8 rfl) rfl ?_
    obtain ⟨u41, e42, hf⟩ := jbind hf
    obtain ⟨r39, e40, hf⟩ := jbind hf
    refine J_callV E (jd dk_X7_stay_0 9 rfl) ml_RX7_293 cal_X7_fail e42 rfl (lk_X7_fail (jE_g E) (jE_tr E) N e40) rfl (Nat.le_of_ble_eq_true rfl) (jR_le hX (by decide) (by decide)) (jF0 hX) rfl ?_
    rintro _ _ ⟨rfl, rfl⟩
    cases hf
    exact J_iret E hr rfl (jd dk_X7_stay_0 10 rfl) (Nat.le_refl _) (Nat.le_refl _) ⟨rfl, rfl⟩
def f_X7_sides_l64 (N : Nat) (v0 : Nat) (v2 : Int32) (v3 : Int32) (v4 : Int32) (v5 : Int32) (h : AH) : Option ((Int32 × Int32 × Int32 × AH) ⊕ ((Int32 × Int32 × AH))) :=
  (jgr 7 h v0 5).bind fun x1 =>
  (jal 0 h x1 2).bind fun x3 =>
  if x3 ≤ v5 then some (.inr ((v3, v4, h)))
  else (jgr 7 h v0 30).bind fun x6 =>
  (jal 0 h x6 v5).bind fun x8 =>
  (jgr 7 h v0 30).bind fun x10 =>
  (jal 0 h x10 v5).bind fun x12 =>
  some (.inl ((v3 ||| x8, v4 &&& x12, v5 + 1, h)))
def f_X7_sides_b64 (N : Nat) (v0 : Nat) (v2 : Int32) (v3 : Int32) (v4 : Int32) (v5 : Int32) (h : AH) : Option (Int32 × AH) :=
  (itr (fun s => f_X7_sides_l64 N v0 v2 s.1 s.2.1 s.2.2.1 s.2.2.2) N (v3, v4, v5, h)).bind (fun e => (jgr 7 e.2.2 v0 41).bind fun x14 =>
  (jck 7 e.2.2 v0).bind fun _ =>
  (f_X7_unpack N e.2.2 v0 x14 0).bind fun r16 =>
  if v2 = 0 then some (e.1, r16)
  else some (e.2.1, r16))
def f_X7_sides (N : Nat) (h : AH) (a0 : Nat) (a1 : Int32) (a2 : Int32) : Option (Int32 × AH) :=
  (jwi 7 h a0 4 0).bind fun h21 =>
  (f_X7_isIn N h21 (Int32.toInt64 a2) 0 1).bind fun r23 =>
  if r23.1 = 0 then (jck 7 r23.2 a0).bind fun _ =>
  (f_X7_fail N r23.2 a0 1).bind fun r47 =>
  some (r47.1, r47.2)
  else (f_X7_isIn N r23.2 (Int32.toInt64 a1) 0 60).bind fun r26 =>
  if r26.1 = 0 then (jck 7 r26.2 a0).bind fun _ =>
  (f_X7_fail N r26.2 a0 2).bind fun r43 =>
  some (r43.1, r43.2)
  else (jgr 7 r26.2 a0 41).bind fun x29 =>
  (jck 7 r26.2 a0).bind fun _ =>
  (f_X7_pack N r26.2 a0 x29 0).bind fun r31 =>
  (jck 7 r31 a0).bind fun _ =>
  (f_X7_goOn N r31 a0 a1).bind fun r35 =>
  (jck 7 r35 a0).bind fun _ =>
  (f_X7_allSides N r35 a0).bind fun r39 =>
  f_X7_sides_b64 N a0 a2 0 r39.1 0 r39.2
set_option maxRecDepth 100000 in
set_option maxHeartbeats 4000000 in
theorem lk_X7_sides_l64 {G : JG} {X : JX} (E : jE G X (RX7, cX7_sides, 6)) (hX : X.2.2.2.1 = jRm 6 0 0) (hr : X.2.2.2.2.2.2.2.2.1.sig.returnType = (some .int)) (N : Nat) {Q : State → Prop} {v0 : Nat} {v2 : Int32} {v3 : Int32} {v4 : Int32} {v5 : Int32}  {h : AH} {q : ((Int32 × Int32 × Int32 × AH) ⊕ ((Int32 × Int32 × AH)))} (hf : f_X7_sides_l64 N v0 v2 v3 v4 v5 h = some q) (kb : ∀ s' : Int32 × Int32 × Int32 × AH, q = .inl s' → JW G X (RX7, cX7_sides, 6) s'.2.2.2 [(0, .ref v0), (2, .int v2), (3, .int s'.1), (4, .int s'.2.1), (5, .int s'.2.2.1)] [] 64 0 0 Q) (ke0 : ∀ e : Int32 × Int32 × AH, q = .inr e → JW G X (RX7, cX7_sides, 6) e.2.2 [(0, .ref v0), (2, .int v2), (3, .int e.1), (4, .int e.2.1)] [] 103 0 0 Q) : JW G X (RX7, cX7_sides, 6) h [(0, .ref v0), (2, .int v2), (3, .int v3), (4, .int v4), (5, .int v5)] [] 64 0 0 Q := by
  unfold f_X7_sides_l64 at hf
  refine J_iload E (jd dk_X7_sides_0 38 rfl) 4 rfl ?_
  refine J_aload_n E (jd dk_X7_sides_0 39 rfl) rfl 0 rfl ?_
  obtain ⟨x1, e2, hf⟩ := jbind hf
  refine J_getr E (jd dk_X7_sides_0 40 rfl) fl_RX7_42 e2 ?_
  refine J_iconst (v := 2) E (jd dk_X7_sides_0 41 rfl) rfl ?_
  obtain ⟨x3, e4, hf⟩ := jbind hf
  refine J_iald E (jd dk_X7_sides_0 42 rfl) e4 ?_
  refine J_icmp_ge (tgt := 103) E (jd dk_X7_sides_0 43 rfl) (by decide) (fun c5 => ?_) (fun c5 => ?_)
  · replace hf := jif_t c5 hf
    refine J_sub [0, 1, 2, 3] rfl ?_
    exact ke0 _ (Option.some.inj hf).symm
  · replace hf := jif_f c5 hf
    refine J_iload_n E (jd dk_X7_sides_0 44 rfl) rfl 2 rfl ?_
    refine J_aload_n E (jd dk_X7_sides_0 45 rfl) rfl 0 rfl ?_
    obtain ⟨x6, e7, hf⟩ := jbind hf
    refine J_getr E (jd dk_X7_sides_0 46 rfl) fl_RX7_87 e7 ?_
    refine J_iload E (jd dk_X7_sides_0 47 rfl) 4 rfl ?_
    obtain ⟨x8, e9, hf⟩ := jbind hf
    refine J_iald E (jd dk_X7_sides_0 48 rfl) e9 ?_
    refine J_ior E (jd dk_X7_sides_0 49 rfl) ?_
    refine J_istore_n (lv' := [(3, .int (v3 ||| x8)), (0, .ref v0), (2, .int v2), (4, .int v4), (5, .int v5)]) E (jd dk_X7_sides_1 0 rfl) rfl (by decide) rfl ?_
    refine J_iload E (jd dk_X7_sides_1 1 rfl) 3 rfl ?_
    refine J_aload_n E (jd dk_X7_sides_1 2 rfl) rfl 1 rfl ?_
    obtain ⟨x10, e11, hf⟩ := jbind hf
    refine J_getr E (jd dk_X7_sides_1 3 rfl) fl_RX7_87 e11 ?_
    refine J_iload E (jd dk_X7_sides_1 4 rfl) 4 rfl ?_
    obtain ⟨x12, e13, hf⟩ := jbind hf
    refine J_iald E (jd dk_X7_sides_1 5 rfl) e13 ?_
    refine J_iand E (jd dk_X7_sides_1 6 rfl) ?_
    refine J_istore (lv' := [(4, .int (v4 &&& x12)), (3, .int (v3 ||| x8)), (0, .ref v0), (2, .int v2), (5, .int v5)]) E (jd dk_X7_sides_1 7 rfl) (by decide) rfl ?_
    refine J_iinc (v := v5 + 1) (lv' := [(5, .int (v5 + 1)), (4, .int (v4 &&& x12)), (3, .int (v3 ||| x8)), (0, .ref v0), (2, .int v2)]) E (jd dk_X7_sides_1 8 rfl) 4 rfl rfl (by decide) rfl ?_
    refine J_goto (tgt := 64) E (jd dk_X7_sides_1 9 rfl) (by decide) ?_
    refine J_sub [3, 4, 2, 1, 0] rfl ?_
    exact kb _ (Option.some.inj hf).symm
set_option maxRecDepth 100000 in
set_option maxHeartbeats 4000000 in
theorem lk_X7_sides_b64 {G : JG} {X : JX} (E : jE G X (RX7, cX7_sides, 6)) (hX : X.2.2.2.1 = jRm 6 0 0) (hr : X.2.2.2.2.2.2.2.2.1.sig.returnType = (some .int)) (N : Nat) {v0 : Nat} {v2 : Int32} {v3 : Int32} {v4 : Int32} {v5 : Int32} {h : AH}  {r : (Int32 × AH)} (hf : f_X7_sides_b64 N v0 v2 v3 v4 v5 h = some r) : JW G X (RX7, cX7_sides, 6) h [(0, .ref v0), (2, .int v2), (3, .int v3), (4, .int v4), (5, .int v5)] [] 64 0 0 (jEnd G X (jpi r) 0 0) := by
  unfold f_X7_sides_b64 at hf
  obtain ⟨q1, h1, hf⟩ := jbind hf
  refine jloop (P := fun s => JW G X (RX7, cX7_sides, 6) s.2.2.2 [(0, .ref v0), (2, .int v2), (3, .int s.1), (4, .int s.2.1), (5, .int s.2.2.1)] [] 64 0 0 (jEnd G X (jpi r) 0 0)) (Ex := fun (e : Int32 × Int32 × AH) => JW G X (RX7, cX7_sides, 6) e.2.2 [(0, .ref v0), (2, .int v2), (3, .int e.1), (4, .int e.2.1)] [] 103 0 0 (jEnd G X (jpi r) 0 0)) (fun s q hs hb hx => lk_X7_sides_l64 E hX hr N hs (fun s' hs => hb s' hs) (fun e he => hx e he)) N _ q1 h1 ?_
  generalize q1 = e at hf ⊢
  refine J_aload_n E (jd dk_X7_sides_1 10 rfl) rfl 0 rfl ?_
  refine J_aload_n E (jd dk_X7_sides_1 11 rfl) rfl 0 rfl ?_
  obtain ⟨x14, e15, hf⟩ := jbind hf
  refine J_getr E (jd dk_X7_sides_1 12 rfl) fl_RX7_106 e15 ?_
  refine J_iconst (v := 0) E (jd dk_X7_sides_1 13 rfl) rfl ?_
  obtain ⟨u18, e19, hf⟩ := jbind hf
  obtain ⟨r16, e17, hf⟩ := jbind hf
  refine J_callV E (jd dk_X7_sides_1 14 rfl) ml_RX7_407 cal_X7_unpack e19 rfl (lk_X7_unpack (jE_g E) (jE_tr E) N e17) rfl (Nat.le_of_ble_eq_true rfl) (jR_le hX (by decide) (by decide)) (jF0 hX) rfl ?_
  rintro _ _ ⟨rfl, rfl⟩
  refine J_iload_n E (jd dk_X7_sides_1 15 rfl) rfl 1 rfl ?_
  refine J_if_ne (tgt := 120) E (jd dk_X7_sides_1 16 rfl) (by decide) (fun c20 => ?_) (fun c20 => ?_)
  · replace hf := jif_f c20 hf
    refine J_iload E (jd dk_X7_sides_1 19 rfl) 3 rfl ?_
    cases hf
    exact J_iret E hr rfl (jd dk_X7_sides_1 20 rfl) (Nat.le_refl _) (Nat.le_refl _) ⟨rfl, rfl⟩
  · replace hf := jif_t c20 hf
    refine J_iload_n E (jd dk_X7_sides_1 17 rfl) rfl 2 rfl ?_
    refine J_goto (tgt := 122) E (jd dk_X7_sides_1 18 rfl) (by decide) ?_
    cases hf
    exact J_iret E hr rfl (jd dk_X7_sides_1 20 rfl) (Nat.le_refl _) (Nat.le_refl _) ⟨rfl, rfl⟩
set_option maxRecDepth 100000 in
set_option maxHeartbeats 4000000 in
theorem lk_X7_sides {G : JG} {l : Launch} (hG : jG G) (htr : l.stackTraces = false) (N : Nat) {h : AH} {a0 : Nat} {a1 : Int32} {a2 : Int32} {r : (Int32 × AH)} (hf : f_X7_sides N h a0 a1 a2 = some r) : jMet G l yX7_sides cX7_sides 6 (some .int) 6 0 0 [.ref a0, .int a1, .int a2] h (jpi r) := by
  unfold f_X7_sides at hf
  refine jMet_of hG htr (by decide) (Nat.le_of_ble_eq_true rfl) ?_
  intro X E hl9 hr hX _ _
  show JW G X (RX7, cX7_sides, 6) h [(0, .ref a0), (1, .int a1), (2, .int a2)] [] 0 0 0 (jEnd G X (jpi r) 0 0)
  refine J_aload_n E (jd dk_X7_sides_0 0 rfl) rfl 0 rfl ?_
  refine J_iconst (v := 0) E (jd dk_X7_sides_0 1 rfl) rfl ?_
  obtain ⟨h21, e22, hf⟩ := jbind hf
  refine J_put E (jd dk_X7_sides_0 2 rfl) fl_RX7_151 e22 (fun _ => rfl) (fun _ => rfl) ?_
  refine J_iload_n E (jd dk_X7_sides_0 3 rfl) rfl 2 rfl ?_
  refine J_i2l E (jd dk_X7_sides_0 4 rfl) ?_
  refine J_lconst (v := 0) E (jd dk_X7_sides_0 5 rfl) (by decide) ?_
  refine J_lconst (v := 1) E (jd dk_X7_sides_0 6 rfl) (by decide) ?_
  obtain ⟨r23, e24, hf⟩ := jbind hf
  refine J_callS E (jd dk_X7_sides_0 7 rfl) ml_RX7_154 cal_X7_isIn (lk_X7_isIn (jE_g E) (jE_tr E) N e24) rfl (Nat.le_of_ble_eq_true rfl) (jR_le hX (by decide) (by decide)) (jF0 hX) rfl ?_
  rintro _ _ ⟨rfl, rfl⟩
  refine J_if_ne (tgt := 21) E (jd dk_X7_sides_0 8 rfl) (by decide) (fun c25 => ?_) (fun c25 => ?_)
  · replace hf := jif_f c25 hf
    refine J_iload_n E (jd dk_X7_sides_0 13 rfl) rfl 1 rfl ?_
    refine J_i2l E (jd dk_X7_sides_0 14 rfl) ?_
    refine J_lconst (v := 0) E (jd dk_X7_sides_0 15 rfl) (by decide) ?_
    refine J_ldc2 (v := 60) E (jd dk_X7_sides_0 16 rfl) (jl32_in _ (List.mem_of_getElem? (i := 12) rfl)) ?_
    obtain ⟨r26, e27, hf⟩ := jbind hf
    refine J_callS E (jd dk_X7_sides_0 17 rfl) ml_RX7_154 cal_X7_isIn (lk_X7_isIn (jE_g E) (jE_tr E) N e27) rfl (Nat.le_of_ble_eq_true rfl) (jR_le hX (by decide) (by decide)) (jF0 hX) rfl ?_
    rintro _ _ ⟨rfl, rfl⟩
    refine J_if_ne (tgt := 39) E (jd dk_X7_sides_0 18 rfl) (by decide) (fun c28 => ?_) (fun c28 => ?_)
    · replace hf := jif_f c28 hf
      refine J_aload_n E (jd dk_X7_sides_0 23 rfl) rfl 0 rfl ?_
      refine J_aload_n E (jd dk_X7_sides_0 24 rfl) rfl 0 rfl ?_
      obtain ⟨x29, e30, hf⟩ := jbind hf
      refine J_getr E (jd dk_X7_sides_0 25 rfl) fl_RX7_106 e30 ?_
      refine J_iconst (v := 0) E (jd dk_X7_sides_0 26 rfl) rfl ?_
      obtain ⟨u33, e34, hf⟩ := jbind hf
      obtain ⟨r31, e32, hf⟩ := jbind hf
      refine J_callV E (jd dk_X7_sides_0 27 rfl) ml_RX7_385 cal_X7_pack e34 rfl (lk_X7_pack (jE_g E) (jE_tr E) N e32) rfl (Nat.le_of_ble_eq_true rfl) (jR_le hX (by decide) (by decide)) (jF0 hX) rfl ?_
      rintro _ _ ⟨rfl, rfl⟩
      refine J_aload_n E (jd dk_X7_sides_0 28 rfl) rfl 0 rfl ?_
      refine J_iload_n E (jd dk_X7_sides_0 29 rfl) rfl 1 rfl ?_
      obtain ⟨u37, e38, hf⟩ := jbind hf
      obtain ⟨r35, e36, hf⟩ := jbind hf
      refine J_callV E (jd dk_X7_sides_0 30 rfl) ml_RX7_397 cal_X7_goOn e38 rfl (lk_X7_goOn (jE_g E) (jE_tr E) N e36) rfl (Nat.le_of_ble_eq_true rfl) (jR_le hX (by decide) (by decide)) (jF0 hX) rfl ?_
      rintro _ _ ⟨rfl, rfl⟩
      refine J_iconst (v := 0) E (jd dk_X7_sides_0 31 rfl) rfl ?_
      refine J_istore_n (lv' := [(3, .int 0), (0, .ref a0), (1, .int a1), (2, .int a2)]) E (jd dk_X7_sides_0 32 rfl) rfl (by decide) rfl ?_
      refine J_aload_n E (jd dk_X7_sides_0 33 rfl) rfl 1 rfl ?_
      obtain ⟨u41, e42, hf⟩ := jbind hf
      obtain ⟨r39, e40, hf⟩ := jbind hf
      refine J_callV E (jd dk_X7_sides_0 34 rfl) ml_RX7_321 cal_X7_allSides e42 rfl (lk_X7_allSides (jE_g E) (jE_tr E) N e40) rfl (Nat.le_of_ble_eq_true rfl) (jR_le hX (by decide) (by decide)) (jF0 hX) rfl ?_
      rintro _ _ ⟨rfl, rfl⟩
      refine J_istore (lv' := [(4, .int r39.1), (3, .int 0), (0, .ref a0), (1, .int a1), (2, .int a2)]) E (jd dk_X7_sides_0 35 rfl) (by decide) rfl ?_
      refine J_iconst (v := 0) E (jd dk_X7_sides_0 36 rfl) rfl ?_
      refine J_istore (lv' := [(5, .int 0), (4, .int r39.1), (3, .int 0), (0, .ref a0), (1, .int a1), (2, .int a2)]) E (jd dk_X7_sides_0 37 rfl) (by decide) rfl ?_
      refine J_sub [3, 5, 2, 1, 0] rfl ?_
      exact lk_X7_sides_b64 E hX hr N hf
    · replace hf := jif_t c28 hf
      refine J_aload_n E (jd dk_X7_sides_0 19 rfl) rfl 0 rfl ?_
      refine J_iconst (v := 2) E (jd dk_X7_sides_0 20 rfl) rfl ?_
      obtain ⟨u45, e46, hf⟩ := jbind hf
      obtain ⟨r43, e44, hf⟩ := jbind hf
      refine J_callV E (jd dk_X7_sides_0 21 rfl) ml_RX7_293 cal_X7_fail e46 rfl (lk_X7_fail (jE_g E) (jE_tr E) N e44) rfl (Nat.le_of_ble_eq_true rfl) (jR_le hX (by decide) (by decide)) (jF0 hX) rfl ?_
      rintro _ _ ⟨rfl, rfl⟩
      cases hf
      exact J_iret E hr rfl (jd dk_X7_sides_0 22 rfl) (Nat.le_refl _) (Nat.le_refl _) ⟨rfl, rfl⟩
  · replace hf := jif_t c25 hf
    refine J_aload_n E (jd dk_X7_sides_0 9 rfl) rfl 0 rfl ?_
    refine J_iconst (v := 1) E (jd dk_X7_sides_0 10 rfl) rfl ?_
    obtain ⟨u49, e50, hf⟩ := jbind hf
    obtain ⟨r47, e48, hf⟩ := jbind hf
    refine J_callV E (jd dk_X7_sides_0 11 rfl) ml_RX7_293 cal_X7_fail e50 rfl (lk_X7_fail (jE_g E) (jE_tr E) N e48) rfl (Nat.le_of_ble_eq_true rfl) (jR_le hX (by decide) (by decide)) (jF0 hX) rfl ?_
    rintro _ _ ⟨rfl, rfl⟩
    cases hf
    exact J_iret E hr rfl (jd dk_X7_sides_0 12 rfl) (Nat.le_refl _) (Nat.le_refl _) ⟨rfl, rfl⟩
def f_X7_facing_b97 (N : Nat) (v0 : Nat) (v1 : Int32) (v4 : Int32) (w0 : Int32) (w1 : Int32) (h : AH) : Option ((Int32 × Int32 × AH) ⊕ ((Int32 × AH))) :=
  some (.inl ((w0 ||| w1, v4 + 1, h)))
def f_X7_facing_b96 (N : Nat) (v0 : Nat) (v1 : Int32) (v4 : Int32) (w0 : Int32) (h : AH) : Option ((Int32 × Int32 × AH) ⊕ ((Int32 × AH))) :=
  f_X7_facing_b97 N v0 v1 v4 w0 0 h
def f_X7_facing_l56 (N : Nat) (v0 : Nat) (v1 : Int32) (v3 : Int32) (v4 : Int32) (h : AH) : Option ((Int32 × Int32 × AH) ⊕ ((Int32 × AH))) :=
  (jgr 7 h v0 5).bind fun x1 =>
  (jal 0 h x1 2).bind fun x3 =>
  if x3 ≤ v4 then some (.inr ((v3, h)))
  else (jgr 7 h v0 28).bind fun x6 =>
  (jal 0 h x6 v4).bind fun x8 =>
  if x8 < 0 then f_X7_facing_b96 N v0 v1 v4 v3 h
  else (jgr 7 h v0 29).bind fun x11 =>
  (jal 0 h x11 v4).bind fun x13 =>
  if x13 = v1 then f_X7_facing_b97 N v0 v1 v4 v3 ((1 : Int32) <<< (v4 &&& 31)) h
  else f_X7_facing_b96 N v0 v1 v4 v3 h
def f_X7_facing_b56 (N : Nat) (v0 : Nat) (v1 : Int32) (v3 : Int32) (v4 : Int32) (h : AH) : Option (Int32 × AH) :=
  (itr (fun s => f_X7_facing_l56 N v0 v1 s.1 s.2.1 s.2.2) N (v3, v4, h)).bind (fun e => (jgr 7 e.2 v0 41).bind fun x16 =>
  (jck 7 e.2 v0).bind fun _ =>
  (f_X7_unpack N e.2 v0 x16 0).bind fun r18 =>
  some (e.1, r18))
def f_X7_facing (N : Nat) (h : AH) (a0 : Nat) (a1 : Int32) (a2 : Int32) : Option (Int32 × AH) :=
  (jwi 7 h a0 4 0).bind fun h22 =>
  (jck 7 h22 a0).bind fun _ =>
  (f_X7_isSide N h22 a0 a1).bind fun r24 =>
  if r24.1 = 0 then (jck 7 r24.2 a0).bind fun _ =>
  (f_X7_fail N r24.2 a0 1).bind fun r46 =>
  some (r46.1, r46.2)
  else (f_X7_isIn N r24.2 (Int32.toInt64 a2) 0 60).bind fun r29 =>
  if r29.1 = 0 then (jck 7 r29.2 a0).bind fun _ =>
  (f_X7_fail N r29.2 a0 2).bind fun r42 =>
  some (r42.1, r42.2)
  else (jgr 7 r29.2 a0 41).bind fun x32 =>
  (jck 7 r29.2 a0).bind fun _ =>
  (f_X7_pack N r29.2 a0 x32 0).bind fun r34 =>
  (jck 7 r34 a0).bind fun _ =>
  (f_X7_goOn N r34 a0 a2).bind fun r38 =>
  f_X7_facing_b56 N a0 a1 0 0 r38
set_option maxRecDepth 100000 in
set_option maxHeartbeats 4000000 in
theorem lk_X7_facing_b97 {G : JG} {X : JX} (E : jE G X (RX7, cX7_facing, 5)) (hX : X.2.2.2.1 = jRm 6 0 0) (hr : X.2.2.2.2.2.2.2.2.1.sig.returnType = (some .int)) (N : Nat) {Q : State → Prop} {v0 : Nat} {v1 : Int32} {v4 : Int32} {w0 : Int32} {w1 : Int32} {h : AH}  {q : ((Int32 × Int32 × AH) ⊕ ((Int32 × AH)))} (hf : f_X7_facing_b97 N v0 v1 v4 w0 w1 h = some q) (kb : ∀ s' : Int32 × Int32 × AH, q = .inl s' → JW G X (RX7, cX7_facing, 5) s'.2.2 [(0, .ref v0), (1, .int v1), (3, .int s'.1), (4, .int s'.2.1)] [] 56 0 0 Q) (ke0 : ∀ e : Int32 × AH, q = .inr e → JW G X (RX7, cX7_facing, 5) e.2 [(0, .ref v0), (3, .int e.1)] [] 105 0 0 Q) : JW G X (RX7, cX7_facing, 5) h [(0, .ref v0), (1, .int v1), (4, .int v4)] [.int w1, .int w0] 97 0 0 Q := by
  unfold f_X7_facing_b97 at hf
  refine J_ior E (jd dk_X7_facing_1 6 rfl) ?_
  refine J_istore_n (lv' := [(3, .int (w0 ||| w1)), (0, .ref v0), (1, .int v1), (4, .int v4)]) E (jd dk_X7_facing_1 7 rfl) rfl (by decide) rfl ?_
  refine J_iinc (v := v4 + 1) (lv' := [(4, .int (v4 + 1)), (3, .int (w0 ||| w1)), (0, .ref v0), (1, .int v1)]) E (jd dk_X7_facing_1 8 rfl) 3 rfl rfl (by decide) rfl ?_
  refine J_goto (tgt := 56) E (jd dk_X7_facing_1 9 rfl) (by decide) ?_
  refine J_sub [2, 3, 1, 0] rfl ?_
  exact kb _ (Option.some.inj hf).symm
set_option maxRecDepth 100000 in
set_option maxHeartbeats 4000000 in
theorem lk_X7_facing_b96 {G : JG} {X : JX} (E : jE G X (RX7, cX7_facing, 5)) (hX : X.2.2.2.1 = jRm 6 0 0) (hr : X.2.2.2.2.2.2.2.2.1.sig.returnType = (some .int)) (N : Nat) {Q : State → Prop} {v0 : Nat} {v1 : Int32} {v4 : Int32} {w0 : Int32} {h : AH}  {q : ((Int32 × Int32 × AH) ⊕ ((Int32 × AH)))} (hf : f_X7_facing_b96 N v0 v1 v4 w0 h = some q) (kb : ∀ s' : Int32 × Int32 × AH, q = .inl s' → JW G X (RX7, cX7_facing, 5) s'.2.2 [(0, .ref v0), (1, .int v1), (3, .int s'.1), (4, .int s'.2.1)] [] 56 0 0 Q) (ke0 : ∀ e : Int32 × AH, q = .inr e → JW G X (RX7, cX7_facing, 5) e.2 [(0, .ref v0), (3, .int e.1)] [] 105 0 0 Q) : JW G X (RX7, cX7_facing, 5) h [(0, .ref v0), (1, .int v1), (4, .int v4)] [.int w0] 96 0 0 Q := by
  unfold f_X7_facing_b96 at hf
  refine J_iconst (v := 0) E (jd dk_X7_facing_1 5 rfl) rfl ?_
  exact lk_X7_facing_b97 E hX hr N hf kb ke0
set_option maxRecDepth 100000 in
set_option maxHeartbeats 4000000 in
theorem lk_X7_facing_l56 {G : JG} {X : JX} (E : jE G X (RX7, cX7_facing, 5)) (hX : X.2.2.2.1 = jRm 6 0 0) (hr : X.2.2.2.2.2.2.2.2.1.sig.returnType = (some .int)) (N : Nat) {Q : State → Prop} {v0 : Nat} {v1 : Int32} {v3 : Int32} {v4 : Int32}  {h : AH} {q : ((Int32 × Int32 × AH) ⊕ ((Int32 × AH)))} (hf : f_X7_facing_l56 N v0 v1 v3 v4 h = some q) (kb : ∀ s' : Int32 × Int32 × AH, q = .inl s' → JW G X (RX7, cX7_facing, 5) s'.2.2 [(0, .ref v0), (1, .int v1), (3, .int s'.1), (4, .int s'.2.1)] [] 56 0 0 Q) (ke0 : ∀ e : Int32 × AH, q = .inr e → JW G X (RX7, cX7_facing, 5) e.2 [(0, .ref v0), (3, .int e.1)] [] 105 0 0 Q) : JW G X (RX7, cX7_facing, 5) h [(0, .ref v0), (1, .int v1), (3, .int v3), (4, .int v4)] [] 56 0 0 Q := by
  unfold f_X7_facing_l56 at hf
  refine J_iload E (jd dk_X7_facing_0 33 rfl) 3 rfl ?_
  refine J_aload_n E (jd dk_X7_facing_0 34 rfl) rfl 0 rfl ?_
  obtain ⟨x1, e2, hf⟩ := jbind hf
  refine J_getr E (jd dk_X7_facing_0 35 rfl) fl_RX7_42 e2 ?_
  refine J_iconst (v := 2) E (jd dk_X7_facing_0 36 rfl) rfl ?_
  obtain ⟨x3, e4, hf⟩ := jbind hf
  refine J_iald E (jd dk_X7_facing_0 37 rfl) e4 ?_
  refine J_icmp_ge (tgt := 105) E (jd dk_X7_facing_0 38 rfl) (by decide) (fun c5 => ?_) (fun c5 => ?_)
  · replace hf := jif_t c5 hf
    refine J_sub [0, 2] rfl ?_
    exact ke0 _ (Option.some.inj hf).symm
  · replace hf := jif_f c5 hf
    refine J_iload_n E (jd dk_X7_facing_0 39 rfl) rfl 2 rfl ?_
    refine J_aload_n E (jd dk_X7_facing_0 40 rfl) rfl 0 rfl ?_
    obtain ⟨x6, e7, hf⟩ := jbind hf
    refine J_getr E (jd dk_X7_facing_0 41 rfl) fl_RX7_81 e7 ?_
    refine J_iload E (jd dk_X7_facing_0 42 rfl) 3 rfl ?_
    obtain ⟨x8, e9, hf⟩ := jbind hf
    refine J_iald E (jd dk_X7_facing_0 43 rfl) e9 ?_
    refine J_if_lt (tgt := 96) E (jd dk_X7_facing_0 44 rfl) (by decide) (fun c10 => ?_) (fun c10 => ?_)
    · replace hf := jif_t c10 hf
      refine J_sub [0, 1, 3] rfl ?_
      exact lk_X7_facing_b96 E hX hr N hf kb ke0
    · replace hf := jif_f c10 hf
      refine J_aload_n E (jd dk_X7_facing_0 45 rfl) rfl 0 rfl ?_
      obtain ⟨x11, e12, hf⟩ := jbind hf
      refine J_getr E (jd dk_X7_facing_0 46 rfl) fl_RX7_84 e12 ?_
      refine J_iload E (jd dk_X7_facing_0 47 rfl) 3 rfl ?_
      obtain ⟨x13, e14, hf⟩ := jbind hf
      refine J_iald E (jd dk_X7_facing_0 48 rfl) e14 ?_
      refine J_iload_n E (jd dk_X7_facing_0 49 rfl) rfl 1 rfl ?_
      refine J_icmp_ne (tgt := 96) E (jd dk_X7_facing_1 0 rfl) (by decide) (fun c15 => ?_) (fun c15 => ?_)
      · replace hf := jif_f c15 hf
        refine J_sub [0, 1, 3] rfl ?_
        exact lk_X7_facing_b96 E hX hr N hf kb ke0
      · replace hf := jif_t c15 hf
        refine J_iconst (v := 1) E (jd dk_X7_facing_1 1 rfl) rfl ?_
        refine J_iload E (jd dk_X7_facing_1 2 rfl) 3 rfl ?_
        refine J_ishl E (jd dk_X7_facing_1 3 rfl) ?_
        refine J_goto (tgt := 97) E (jd dk_X7_facing_1 4 rfl) (by decide) ?_
        refine J_sub [0, 1, 3] rfl ?_
        exact lk_X7_facing_b97 E hX hr N hf kb ke0
set_option maxRecDepth 100000 in
set_option maxHeartbeats 4000000 in
theorem lk_X7_facing_b56 {G : JG} {X : JX} (E : jE G X (RX7, cX7_facing, 5)) (hX : X.2.2.2.1 = jRm 6 0 0) (hr : X.2.2.2.2.2.2.2.2.1.sig.returnType = (some .int)) (N : Nat) {v0 : Nat} {v1 : Int32} {v3 : Int32} {v4 : Int32} {h : AH}  {r : (Int32 × AH)} (hf : f_X7_facing_b56 N v0 v1 v3 v4 h = some r) : JW G X (RX7, cX7_facing, 5) h [(0, .ref v0), (1, .int v1), (3, .int v3), (4, .int v4)] [] 56 0 0 (jEnd G X (jpi r) 0 0) := by
  unfold f_X7_facing_b56 at hf
  obtain ⟨q1, h1, hf⟩ := jbind hf
  refine jloop (P := fun s => JW G X (RX7, cX7_facing, 5) s.2.2 [(0, .ref v0), (1, .int v1), (3, .int s.1), (4, .int s.2.1)] [] 56 0 0 (jEnd G X (jpi r) 0 0)) (Ex := fun (e : Int32 × AH) => JW G X (RX7, cX7_facing, 5) e.2 [(0, .ref v0), (3, .int e.1)] [] 105 0 0 (jEnd G X (jpi r) 0 0)) (fun s q hs hb hx => lk_X7_facing_l56 E hX hr N hs (fun s' hs => hb s' hs) (fun e he => hx e he)) N _ q1 h1 ?_
  generalize q1 = e at hf ⊢
  refine J_aload_n E (jd dk_X7_facing_1 10 rfl) rfl 0 rfl ?_
  refine J_aload_n E (jd dk_X7_facing_1 11 rfl) rfl 0 rfl ?_
  obtain ⟨x16, e17, hf⟩ := jbind hf
  refine J_getr E (jd dk_X7_facing_1 12 rfl) fl_RX7_106 e17 ?_
  refine J_iconst (v := 0) E (jd dk_X7_facing_1 13 rfl) rfl ?_
  obtain ⟨u20, e21, hf⟩ := jbind hf
  obtain ⟨r18, e19, hf⟩ := jbind hf
  refine J_callV E (jd dk_X7_facing_1 14 rfl) ml_RX7_407 cal_X7_unpack e21 rfl (lk_X7_unpack (jE_g E) (jE_tr E) N e19) rfl (Nat.le_of_ble_eq_true rfl) (jR_le hX (by decide) (by decide)) (jF0 hX) rfl ?_
  rintro _ _ ⟨rfl, rfl⟩
  refine J_iload_n E (jd dk_X7_facing_1 15 rfl) rfl 1 rfl ?_
  cases hf
  exact J_iret E hr rfl (jd dk_X7_facing_1 16 rfl) (Nat.le_refl _) (Nat.le_refl _) ⟨rfl, rfl⟩
set_option maxRecDepth 100000 in
set_option maxHeartbeats 4000000 in
theorem lk_X7_facing {G : JG} {l : Launch} (hG : jG G) (htr : l.stackTraces = false) (N : Nat) {h : AH} {a0 : Nat} {a1 : Int32} {a2 : Int32} {r : (Int32 × AH)} (hf : f_X7_facing N h a0 a1 a2 = some r) : jMet G l yX7_facing cX7_facing 5 (some .int) 6 0 0 [.ref a0, .int a1, .int a2] h (jpi r) := by
  unfold f_X7_facing at hf
  refine jMet_of hG htr (by decide) (Nat.le_of_ble_eq_true rfl) ?_
  intro X E hl9 hr hX _ _
  show JW G X (RX7, cX7_facing, 5) h [(0, .ref a0), (1, .int a1), (2, .int a2)] [] 0 0 0 (jEnd G X (jpi r) 0 0)
  refine J_aload_n E (jd dk_X7_facing_0 0 rfl) rfl 0 rfl ?_
  refine J_iconst (v := 0) E (jd dk_X7_facing_0 1 rfl) rfl ?_
  obtain ⟨h22, e23, hf⟩ := jbind hf
  refine J_put E (jd dk_X7_facing_0 2 rfl) fl_RX7_151 e23 (fun _ => rfl) (fun _ => rfl) ?_
  refine J_aload_n E (jd dk_X7_facing_0 3 rfl) rfl 0 rfl ?_
  refine J_iload_n E (jd dk_X7_facing_0 4 rfl) rfl 1 rfl ?_
  obtain ⟨u26, e27, hf⟩ := jbind hf
  obtain ⟨r24, e25, hf⟩ := jbind hf
  refine J_callV E (jd dk_X7_facing_0 5 rfl) ml_RX7_400 cal_X7_isSide e27 rfl (lk_X7_isSide (jE_g E) (jE_tr E) N e25) rfl (Nat.le_of_ble_eq_true rfl) (jR_le hX (by decide) (by decide)) (jF0 hX) rfl ?_
  rintro _ _ ⟨rfl, rfl⟩
  refine J_if_ne (tgt := 19) E (jd dk_X7_facing_0 6 rfl) (by decide) (fun c28 => ?_) (fun c28 => ?_)
  · replace hf := jif_f c28 hf
    refine J_iload_n E (jd dk_X7_facing_0 11 rfl) rfl 2 rfl ?_
    refine J_i2l E (jd dk_X7_facing_0 12 rfl) ?_
    refine J_lconst (v := 0) E (jd dk_X7_facing_0 13 rfl) (by decide) ?_
    refine J_ldc2 (v := 60) E (jd dk_X7_facing_0 14 rfl) (jl32_in _ (List.mem_of_getElem? (i := 12) rfl)) ?_
    obtain ⟨r29, e30, hf⟩ := jbind hf
    refine J_callS E (jd dk_X7_facing_0 15 rfl) ml_RX7_154 cal_X7_isIn (lk_X7_isIn (jE_g E) (jE_tr E) N e30) rfl (Nat.le_of_ble_eq_true rfl) (jR_le hX (by decide) (by decide)) (jF0 hX) rfl ?_
    rintro _ _ ⟨rfl, rfl⟩
    refine J_if_ne (tgt := 37) E (jd dk_X7_facing_0 16 rfl) (by decide) (fun c31 => ?_) (fun c31 => ?_)
    · replace hf := jif_f c31 hf
      refine J_aload_n E (jd dk_X7_facing_0 21 rfl) rfl 0 rfl ?_
      refine J_aload_n E (jd dk_X7_facing_0 22 rfl) rfl 0 rfl ?_
      obtain ⟨x32, e33, hf⟩ := jbind hf
      refine J_getr E (jd dk_X7_facing_0 23 rfl) fl_RX7_106 e33 ?_
      refine J_iconst (v := 0) E (jd dk_X7_facing_0 24 rfl) rfl ?_
      obtain ⟨u36, e37, hf⟩ := jbind hf
      obtain ⟨r34, e35, hf⟩ := jbind hf
      refine J_callV E (jd dk_X7_facing_0 25 rfl) ml_RX7_385 cal_X7_pack e37 rfl (lk_X7_pack (jE_g E) (jE_tr E) N e35) rfl (Nat.le_of_ble_eq_true rfl) (jR_le hX (by decide) (by decide)) (jF0 hX) rfl ?_
      rintro _ _ ⟨rfl, rfl⟩
      refine J_aload_n E (jd dk_X7_facing_0 26 rfl) rfl 0 rfl ?_
      refine J_iload_n E (jd dk_X7_facing_0 27 rfl) rfl 2 rfl ?_
      obtain ⟨u40, e41, hf⟩ := jbind hf
      obtain ⟨r38, e39, hf⟩ := jbind hf
      refine J_callV E (jd dk_X7_facing_0 28 rfl) ml_RX7_397 cal_X7_goOn e41 rfl (lk_X7_goOn (jE_g E) (jE_tr E) N e39) rfl (Nat.le_of_ble_eq_true rfl) (jR_le hX (by decide) (by decide)) (jF0 hX) rfl ?_
      rintro _ _ ⟨rfl, rfl⟩
      refine J_iconst (v := 0) E (jd dk_X7_facing_0 29 rfl) rfl ?_
      refine J_istore_n (lv' := [(3, .int 0), (0, .ref a0), (1, .int a1), (2, .int a2)]) E (jd dk_X7_facing_0 30 rfl) rfl (by decide) rfl ?_
      refine J_iconst (v := 0) E (jd dk_X7_facing_0 31 rfl) rfl ?_
      refine J_istore (lv' := [(4, .int 0), (3, .int 0), (0, .ref a0), (1, .int a1), (2, .int a2)]) E (jd dk_X7_facing_0 32 rfl) (by decide) rfl ?_
      refine J_sub [2, 3, 1, 0] rfl ?_
      exact lk_X7_facing_b56 E hX hr N hf
    · replace hf := jif_t c31 hf
      refine J_aload_n E (jd dk_X7_facing_0 17 rfl) rfl 0 rfl ?_
      refine J_iconst (v := 2) E (jd dk_X7_facing_0 18 rfl) rfl ?_
      obtain ⟨u44, e45, hf⟩ := jbind hf
      obtain ⟨r42, e43, hf⟩ := jbind hf
      refine J_callV E (jd dk_X7_facing_0 19 rfl) ml_RX7_293 cal_X7_fail e45 rfl (lk_X7_fail (jE_g E) (jE_tr E) N e43) rfl (Nat.le_of_ble_eq_true rfl) (jR_le hX (by decide) (by decide)) (jF0 hX) rfl ?_
      rintro _ _ ⟨rfl, rfl⟩
      cases hf
      exact J_iret E hr rfl (jd dk_X7_facing_0 20 rfl) (Nat.le_refl _) (Nat.le_refl _) ⟨rfl, rfl⟩
  · replace hf := jif_t c28 hf
    refine J_aload_n E (jd dk_X7_facing_0 7 rfl) rfl 0 rfl ?_
    refine J_iconst (v := 1) E (jd dk_X7_facing_0 8 rfl) rfl ?_
    obtain ⟨u48, e49, hf⟩ := jbind hf
    obtain ⟨r46, e47, hf⟩ := jbind hf
    refine J_callV E (jd dk_X7_facing_0 9 rfl) ml_RX7_293 cal_X7_fail e49 rfl (lk_X7_fail (jE_g E) (jE_tr E) N e47) rfl (Nat.le_of_ble_eq_true rfl) (jR_le hX (by decide) (by decide)) (jF0 hX) rfl ?_
    rintro _ _ ⟨rfl, rfl⟩
    cases hf
    exact J_iret E hr rfl (jd dk_X7_facing_0 10 rfl) (Nat.le_refl _) (Nat.le_refl _) ⟨rfl, rfl⟩
def f_X7_agree_b21 (N : Nat) (v0 : Nat) (h : AH) : Option (Int32 × AH) :=
  (jck 7 h v0).bind fun _ =>
  (f_X7_fail N h v0 1).bind fun r1 =>
  some (r1.1, r1.2)
def f_X7_agree_b111 (N : Nat) (v0 : Nat) (v1 : Int32) (v2 : Int32) (v3 : Int32) (v5 : Int32) (w0 : Int32) (w1 : Int32) (h : AH) : Option ((Int32 × Int32 × AH) ⊕ ((Int32 × AH))) :=
  some (.inl ((w0 + w1, v5 + 1, h)))
def f_X7_agree_b110 (N : Nat) (v0 : Nat) (v1 : Int32) (v2 : Int32) (v3 : Int32) (v5 : Int32) (w0 : Int32) (h : AH) : Option ((Int32 × Int32 × AH) ⊕ ((Int32 × AH))) :=
  f_X7_agree_b111 N v0 v1 v2 v3 v5 w0 0 h
def f_X7_agree_l60 (N : Nat) (v0 : Nat) (v1 : Int32) (v2 : Int32) (v3 : Int32) (v4 : Int32) (v5 : Int32) (h : AH) : Option ((Int32 × Int32 × AH) ⊕ ((Int32 × AH))) :=
  if v3 ≤ v5 then some (.inr ((v4, h)))
  else (jck 7 h v0).bind fun _ =>
  (f_X7_goOn N h v0 1).bind fun r6 =>
  (jgr 7 r6 v0 28).bind fun x10 =>
  (jal 0 r6 x10 v1).bind fun x12 =>
  if x12 < 0 then f_X7_agree_b110 N v0 v1 v2 v3 v5 v4 r6
  else (jgr 7 r6 v0 28).bind fun x15 =>
  (jal 0 r6 x15 v2).bind fun x17 =>
  if x17 < 0 then f_X7_agree_b110 N v0 v1 v2 v3 v5 v4 r6
  else (jgr 7 r6 v0 29).bind fun x20 =>
  (jal 0 r6 x20 v1).bind fun x22 =>
  (jgr 7 r6 v0 29).bind fun x24 =>
  (jal 0 r6 x24 v2).bind fun x26 =>
  if x22 = x26 then f_X7_agree_b111 N v0 v1 v2 v3 v5 v4 1 r6
  else f_X7_agree_b110 N v0 v1 v2 v3 v5 v4 r6
def f_X7_agree_b60 (N : Nat) (v0 : Nat) (v1 : Int32) (v2 : Int32) (v3 : Int32) (v4 : Int32) (v5 : Int32) (h : AH) : Option (Int32 × AH) :=
  (itr (fun s => f_X7_agree_l60 N v0 v1 v2 v3 s.1 s.2.1 s.2.2) N (v4, v5, h)).bind (fun e => (jgr 7 e.2 v0 41).bind fun x29 =>
  (jck 7 e.2 v0).bind fun _ =>
  (f_X7_unpack N e.2 v0 x29 0).bind fun r31 =>
  some (e.1, r31))
def f_X7_agree (N : Nat) (h : AH) (a0 : Nat) (a1 : Int32) (a2 : Int32) (a3 : Int32) : Option (Int32 × AH) :=
  (jwi 7 h a0 4 0).bind fun h35 =>
  (jck 7 h35 a0).bind fun _ =>
  (f_X7_isJudge N h35 a0 a1).bind fun r37 =>
  if r37.1 = 0 then f_X7_agree_b21 N a0 r37.2
  else (jck 7 r37.2 a0).bind fun _ =>
  (f_X7_isJudge N r37.2 a0 a2).bind fun r42 =>
  if r42.1 = 0 then f_X7_agree_b21 N a0 r42.2
  else (f_X7_isIn N r42.2 (Int32.toInt64 a3) 1 60).bind fun r47 =>
  if r47.1 = 0 then (jck 7 r47.2 a0).bind fun _ =>
  (f_X7_fail N r47.2 a0 2).bind fun r56 =>
  some (r56.1, r56.2)
  else (jgr 7 r47.2 a0 41).bind fun x50 =>
  (jck 7 r47.2 a0).bind fun _ =>
  (f_X7_pack N r47.2 a0 x50 0).bind fun r52 =>
  f_X7_agree_b60 N a0 a1 a2 a3 0 0 r52
set_option maxRecDepth 100000 in
set_option maxHeartbeats 4000000 in
theorem lk_X7_agree_b21 {G : JG} {X : JX} (E : jE G X (RX7, cX7_agree, 6)) (hX : X.2.2.2.1 = jRm 6 0 0) (hr : X.2.2.2.2.2.2.2.2.1.sig.returnType = (some .int)) (N : Nat) {v0 : Nat} {h : AH}  {r : (Int32 × AH)} (hf : f_X7_agree_b21 N v0 h = some r) : JW G X (RX7, cX7_agree, 6) h [(0, .ref v0)] [] 21 0 0 (jEnd G X (jpi r) 0 0) := by
  unfold f_X7_agree_b21 at hf
  refine J_aload_n E (jd dk_X7_agree_0 11 rfl) rfl 0 rfl ?_
  refine J_iconst (v := 1) E (jd dk_X7_agree_0 12 rfl) rfl ?_
  obtain ⟨u3, e4, hf⟩ := jbind hf
  obtain ⟨r1, e2, hf⟩ := jbind hf
  refine J_callV E (jd dk_X7_agree_0 13 rfl) ml_RX7_293 cal_X7_fail e4 rfl (lk_X7_fail (jE_g E) (jE_tr E) N e2) rfl (Nat.le_of_ble_eq_true rfl) (jR_le hX (by decide) (by decide)) (jF0 hX) rfl ?_
  rintro _ _ ⟨rfl, rfl⟩
  cases hf
  exact J_iret E hr rfl (jd dk_X7_agree_0 14 rfl) (Nat.le_refl _) (Nat.le_refl _) ⟨rfl, rfl⟩
set_option maxRecDepth 100000 in
set_option maxHeartbeats 4000000 in
theorem lk_X7_agree_b111 {G : JG} {X : JX} (E : jE G X (RX7, cX7_agree, 6)) (hX : X.2.2.2.1 = jRm 6 0 0) (hr : X.2.2.2.2.2.2.2.2.1.sig.returnType = (some .int)) (N : Nat) {Q : State → Prop} {v0 : Nat} {v1 : Int32} {v2 : Int32} {v3 : Int32} {v5 : Int32} {w0 : Int32} {w1 : Int32} {h : AH}  {q : ((Int32 × Int32 × AH) ⊕ ((Int32 × AH)))} (hf : f_X7_agree_b111 N v0 v1 v2 v3 v5 w0 w1 h = some q) (kb : ∀ s' : Int32 × Int32 × AH, q = .inl s' → JW G X (RX7, cX7_agree, 6) s'.2.2 [(0, .ref v0), (1, .int v1), (2, .int v2), (3, .int v3), (4, .int s'.1), (5, .int s'.2.1)] [] 60 0 0 Q) (ke0 : ∀ e : Int32 × AH, q = .inr e → JW G X (RX7, cX7_agree, 6) e.2 [(0, .ref v0), (4, .int e.1)] [] 120 0 0 Q) : JW G X (RX7, cX7_agree, 6) h [(0, .ref v0), (1, .int v1), (2, .int v2), (3, .int v3), (5, .int v5)] [.int w1, .int w0] 111 0 0 Q := by
  unfold f_X7_agree_b111 at hf
  refine J_iadd E (jd dk_X7_agree_1 13 rfl) ?_
  refine J_istore (lv' := [(4, .int (w0 + w1)), (0, .ref v0), (1, .int v1), (2, .int v2), (3, .int v3), (5, .int v5)]) E (jd dk_X7_agree_1 14 rfl) (by decide) rfl ?_
  refine J_iinc (v := v5 + 1) (lv' := [(5, .int (v5 + 1)), (4, .int (w0 + w1)), (0, .ref v0), (1, .int v1), (2, .int v2), (3, .int v3)]) E (jd dk_X7_agree_1 15 rfl) 5 rfl rfl (by decide) rfl ?_
  refine J_goto (tgt := 60) E (jd dk_X7_agree_1 16 rfl) (by decide) ?_
  refine J_sub [2, 3, 4, 5, 1, 0] rfl ?_
  exact kb _ (Option.some.inj hf).symm
set_option maxRecDepth 100000 in
set_option maxHeartbeats 4000000 in
theorem lk_X7_agree_b110 {G : JG} {X : JX} (E : jE G X (RX7, cX7_agree, 6)) (hX : X.2.2.2.1 = jRm 6 0 0) (hr : X.2.2.2.2.2.2.2.2.1.sig.returnType = (some .int)) (N : Nat) {Q : State → Prop} {v0 : Nat} {v1 : Int32} {v2 : Int32} {v3 : Int32} {v5 : Int32} {w0 : Int32} {h : AH}  {q : ((Int32 × Int32 × AH) ⊕ ((Int32 × AH)))} (hf : f_X7_agree_b110 N v0 v1 v2 v3 v5 w0 h = some q) (kb : ∀ s' : Int32 × Int32 × AH, q = .inl s' → JW G X (RX7, cX7_agree, 6) s'.2.2 [(0, .ref v0), (1, .int v1), (2, .int v2), (3, .int v3), (4, .int s'.1), (5, .int s'.2.1)] [] 60 0 0 Q) (ke0 : ∀ e : Int32 × AH, q = .inr e → JW G X (RX7, cX7_agree, 6) e.2 [(0, .ref v0), (4, .int e.1)] [] 120 0 0 Q) : JW G X (RX7, cX7_agree, 6) h [(0, .ref v0), (1, .int v1), (2, .int v2), (3, .int v3), (5, .int v5)] [.int w0] 110 0 0 Q := by
  unfold f_X7_agree_b110 at hf
  refine J_iconst (v := 0) E (jd dk_X7_agree_1 12 rfl) rfl ?_
  exact lk_X7_agree_b111 E hX hr N hf kb ke0
set_option maxRecDepth 100000 in
set_option maxHeartbeats 4000000 in
theorem lk_X7_agree_l60 {G : JG} {X : JX} (E : jE G X (RX7, cX7_agree, 6)) (hX : X.2.2.2.1 = jRm 6 0 0) (hr : X.2.2.2.2.2.2.2.2.1.sig.returnType = (some .int)) (N : Nat) {Q : State → Prop} {v0 : Nat} {v1 : Int32} {v2 : Int32} {v3 : Int32} {v4 : Int32} {v5 : Int32}  {h : AH} {q : ((Int32 × Int32 × AH) ⊕ ((Int32 × AH)))} (hf : f_X7_agree_l60 N v0 v1 v2 v3 v4 v5 h = some q) (kb : ∀ s' : Int32 × Int32 × AH, q = .inl s' → JW G X (RX7, cX7_agree, 6) s'.2.2 [(0, .ref v0), (1, .int v1), (2, .int v2), (3, .int v3), (4, .int s'.1), (5, .int s'.2.1)] [] 60 0 0 Q) (ke0 : ∀ e : Int32 × AH, q = .inr e → JW G X (RX7, cX7_agree, 6) e.2 [(0, .ref v0), (4, .int e.1)] [] 120 0 0 Q) : JW G X (RX7, cX7_agree, 6) h [(0, .ref v0), (1, .int v1), (2, .int v2), (3, .int v3), (4, .int v4), (5, .int v5)] [] 60 0 0 Q := by
  unfold f_X7_agree_l60 at hf
  refine J_iload E (jd dk_X7_agree_0 34 rfl) 5 rfl ?_
  refine J_iload_n E (jd dk_X7_agree_0 35 rfl) rfl 3 rfl ?_
  refine J_icmp_ge (tgt := 120) E (jd dk_X7_agree_0 36 rfl) (by decide) (fun c5 => ?_) (fun c5 => ?_)
  · replace hf := jif_t c5 hf
    refine J_sub [0, 4] rfl ?_
    exact ke0 _ (Option.some.inj hf).symm
  · replace hf := jif_f c5 hf
    refine J_aload_n E (jd dk_X7_agree_0 37 rfl) rfl 0 rfl ?_
    refine J_iconst (v := 1) E (jd dk_X7_agree_0 38 rfl) rfl ?_
    obtain ⟨u8, e9, hf⟩ := jbind hf
    obtain ⟨r6, e7, hf⟩ := jbind hf
    refine J_callV E (jd dk_X7_agree_0 39 rfl) ml_RX7_397 cal_X7_goOn e9 rfl (lk_X7_goOn (jE_g E) (jE_tr E) N e7) rfl (Nat.le_of_ble_eq_true rfl) (jR_le hX (by decide) (by decide)) (jF0 hX) rfl ?_
    rintro _ _ ⟨rfl, rfl⟩
    refine J_iload E (jd dk_X7_agree_0 40 rfl) 4 rfl ?_
    refine J_aload_n E (jd dk_X7_agree_0 41 rfl) rfl 0 rfl ?_
    obtain ⟨x10, e11, hf⟩ := jbind hf
    refine J_getr E (jd dk_X7_agree_0 42 rfl) fl_RX7_81 e11 ?_
    refine J_iload_n E (jd dk_X7_agree_0 43 rfl) rfl 1 rfl ?_
    obtain ⟨x12, e13, hf⟩ := jbind hf
    refine J_iald E (jd dk_X7_agree_0 44 rfl) e13 ?_
    refine J_if_lt (tgt := 110) E (jd dk_X7_agree_0 45 rfl) (by decide) (fun c14 => ?_) (fun c14 => ?_)
    · replace hf := jif_t c14 hf
      refine J_sub [0, 1, 2, 3, 5] rfl ?_
      exact lk_X7_agree_b110 E hX hr N hf kb ke0
    · replace hf := jif_f c14 hf
      refine J_aload_n E (jd dk_X7_agree_0 46 rfl) rfl 0 rfl ?_
      obtain ⟨x15, e16, hf⟩ := jbind hf
      refine J_getr E (jd dk_X7_agree_0 47 rfl) fl_RX7_81 e16 ?_
      refine J_iload_n E (jd dk_X7_agree_0 48 rfl) rfl 2 rfl ?_
      obtain ⟨x17, e18, hf⟩ := jbind hf
      refine J_iald E (jd dk_X7_agree_0 49 rfl) e18 ?_
      refine J_if_lt (tgt := 110) E (jd dk_X7_agree_1 0 rfl) (by decide) (fun c19 => ?_) (fun c19 => ?_)
      · replace hf := jif_t c19 hf
        refine J_sub [0, 1, 2, 3, 5] rfl ?_
        exact lk_X7_agree_b110 E hX hr N hf kb ke0
      · replace hf := jif_f c19 hf
        refine J_aload_n E (jd dk_X7_agree_1 1 rfl) rfl 0 rfl ?_
        obtain ⟨x20, e21, hf⟩ := jbind hf
        refine J_getr E (jd dk_X7_agree_1 2 rfl) fl_RX7_84 e21 ?_
        refine J_iload_n E (jd dk_X7_agree_1 3 rfl) rfl 1 rfl ?_
        obtain ⟨x22, e23, hf⟩ := jbind hf
        refine J_iald E (jd dk_X7_agree_1 4 rfl) e23 ?_
        refine J_aload_n E (jd dk_X7_agree_1 5 rfl) rfl 0 rfl ?_
        obtain ⟨x24, e25, hf⟩ := jbind hf
        refine J_getr E (jd dk_X7_agree_1 6 rfl) fl_RX7_84 e25 ?_
        refine J_iload_n E (jd dk_X7_agree_1 7 rfl) rfl 2 rfl ?_
        obtain ⟨x26, e27, hf⟩ := jbind hf
        refine J_iald E (jd dk_X7_agree_1 8 rfl) e27 ?_
        refine J_icmp_ne (tgt := 110) E (jd dk_X7_agree_1 9 rfl) (by decide) (fun c28 => ?_) (fun c28 => ?_)
        · replace hf := jif_f c28 hf
          refine J_sub [0, 1, 2, 3, 5] rfl ?_
          exact lk_X7_agree_b110 E hX hr N hf kb ke0
        · replace hf := jif_t c28 hf
          refine J_iconst (v := 1) E (jd dk_X7_agree_1 10 rfl) rfl ?_
          refine J_goto (tgt := 111) E (jd dk_X7_agree_1 11 rfl) (by decide) ?_
          refine J_sub [0, 1, 2, 3, 5] rfl ?_
          exact lk_X7_agree_b111 E hX hr N hf kb ke0
set_option maxRecDepth 100000 in
set_option maxHeartbeats 4000000 in
theorem lk_X7_agree_b60 {G : JG} {X : JX} (E : jE G X (RX7, cX7_agree, 6)) (hX : X.2.2.2.1 = jRm 6 0 0) (hr : X.2.2.2.2.2.2.2.2.1.sig.returnType = (some .int)) (N : Nat) {v0 : Nat} {v1 : Int32} {v2 : Int32} {v3 : Int32} {v4 : Int32} {v5 : Int32} {h : AH}  {r : (Int32 × AH)} (hf : f_X7_agree_b60 N v0 v1 v2 v3 v4 v5 h = some r) : JW G X (RX7, cX7_agree, 6) h [(0, .ref v0), (1, .int v1), (2, .int v2), (3, .int v3), (4, .int v4), (5, .int v5)] [] 60 0 0 (jEnd G X (jpi r) 0 0) := by
  unfold f_X7_agree_b60 at hf
  obtain ⟨q1, h1, hf⟩ := jbind hf
  refine jloop (P := fun s => JW G X (RX7, cX7_agree, 6) s.2.2 [(0, .ref v0), (1, .int v1), (2, .int v2), (3, .int v3), (4, .int s.1), (5, .int s.2.1)] [] 60 0 0 (jEnd G X (jpi r) 0 0)) (Ex := fun (e : Int32 × AH) => JW G X (RX7, cX7_agree, 6) e.2 [(0, .ref v0), (4, .int e.1)] [] 120 0 0 (jEnd G X (jpi r) 0 0)) (fun s q hs hb hx => lk_X7_agree_l60 E hX hr N hs (fun s' hs => hb s' hs) (fun e he => hx e he)) N _ q1 h1 ?_
  generalize q1 = e at hf ⊢
  refine J_aload_n E (jd dk_X7_agree_1 17 rfl) rfl 0 rfl ?_
  refine J_aload_n E (jd dk_X7_agree_1 18 rfl) rfl 0 rfl ?_
  obtain ⟨x29, e30, hf⟩ := jbind hf
  refine J_getr E (jd dk_X7_agree_1 19 rfl) fl_RX7_106 e30 ?_
  refine J_iconst (v := 0) E (jd dk_X7_agree_1 20 rfl) rfl ?_
  obtain ⟨u33, e34, hf⟩ := jbind hf
  obtain ⟨r31, e32, hf⟩ := jbind hf
  refine J_callV E (jd dk_X7_agree_1 21 rfl) ml_RX7_407 cal_X7_unpack e34 rfl (lk_X7_unpack (jE_g E) (jE_tr E) N e32) rfl (Nat.le_of_ble_eq_true rfl) (jR_le hX (by decide) (by decide)) (jF0 hX) rfl ?_
  rintro _ _ ⟨rfl, rfl⟩
  refine J_iload E (jd dk_X7_agree_1 22 rfl) 1 rfl ?_
  cases hf
  exact J_iret E hr rfl (jd dk_X7_agree_1 23 rfl) (Nat.le_refl _) (Nat.le_refl _) ⟨rfl, rfl⟩
set_option maxRecDepth 100000 in
set_option maxHeartbeats 4000000 in
theorem lk_X7_agree {G : JG} {l : Launch} (hG : jG G) (htr : l.stackTraces = false) (N : Nat) {h : AH} {a0 : Nat} {a1 : Int32} {a2 : Int32} {a3 : Int32} {r : (Int32 × AH)} (hf : f_X7_agree N h a0 a1 a2 a3 = some r) : jMet G l yX7_agree cX7_agree 6 (some .int) 6 0 0 [.ref a0, .int a1, .int a2, .int a3] h (jpi r) := by
  unfold f_X7_agree at hf
  refine jMet_of hG htr (by decide) (Nat.le_of_ble_eq_true rfl) ?_
  intro X E hl9 hr hX _ _
  show JW G X (RX7, cX7_agree, 6) h [(0, .ref a0), (1, .int a1), (2, .int a2), (3, .int a3)] [] 0 0 0 (jEnd G X (jpi r) 0 0)
  refine J_aload_n E (jd dk_X7_agree_0 0 rfl) rfl 0 rfl ?_
  refine J_iconst (v := 0) E (jd dk_X7_agree_0 1 rfl) rfl ?_
  obtain ⟨h35, e36, hf⟩ := jbind hf
  refine J_put E (jd dk_X7_agree_0 2 rfl) fl_RX7_151 e36 (fun _ => rfl) (fun _ => rfl) ?_
  refine J_aload_n E (jd dk_X7_agree_0 3 rfl) rfl 0 rfl ?_
  refine J_iload_n E (jd dk_X7_agree_0 4 rfl) rfl 1 rfl ?_
  obtain ⟨u39, e40, hf⟩ := jbind hf
  obtain ⟨r37, e38, hf⟩ := jbind hf
  refine J_callV E (jd dk_X7_agree_0 5 rfl) ml_RX7_382 cal_X7_isJudge e40 rfl (lk_X7_isJudge (jE_g E) (jE_tr E) N e38) rfl (Nat.le_of_ble_eq_true rfl) (jR_le hX (by decide) (by decide)) (jF0 hX) rfl ?_
  rintro _ _ ⟨rfl, rfl⟩
  refine J_if_eq (tgt := 21) E (jd dk_X7_agree_0 6 rfl) (by decide) (fun c41 => ?_) (fun c41 => ?_)
  · replace hf := jif_t c41 hf
    refine J_sub [0] rfl ?_
    exact lk_X7_agree_b21 E hX hr N hf
  · replace hf := jif_f c41 hf
    refine J_aload_n E (jd dk_X7_agree_0 7 rfl) rfl 0 rfl ?_
    refine J_iload_n E (jd dk_X7_agree_0 8 rfl) rfl 2 rfl ?_
    obtain ⟨u44, e45, hf⟩ := jbind hf
    obtain ⟨r42, e43, hf⟩ := jbind hf
    refine J_callV E (jd dk_X7_agree_0 9 rfl) ml_RX7_382 cal_X7_isJudge e45 rfl (lk_X7_isJudge (jE_g E) (jE_tr E) N e43) rfl (Nat.le_of_ble_eq_true rfl) (jR_le hX (by decide) (by decide)) (jF0 hX) rfl ?_
    rintro _ _ ⟨rfl, rfl⟩
    refine J_if_ne (tgt := 27) E (jd dk_X7_agree_0 10 rfl) (by decide) (fun c46 => ?_) (fun c46 => ?_)
    · replace hf := jif_f c46 hf
      refine J_iload_n E (jd dk_X7_agree_0 15 rfl) rfl 3 rfl ?_
      refine J_i2l E (jd dk_X7_agree_0 16 rfl) ?_
      refine J_lconst (v := 1) E (jd dk_X7_agree_0 17 rfl) (by decide) ?_
      refine J_ldc2 (v := 60) E (jd dk_X7_agree_0 18 rfl) (jl32_in _ (List.mem_of_getElem? (i := 12) rfl)) ?_
      obtain ⟨r47, e48, hf⟩ := jbind hf
      refine J_callS E (jd dk_X7_agree_0 19 rfl) ml_RX7_154 cal_X7_isIn (lk_X7_isIn (jE_g E) (jE_tr E) N e48) rfl (Nat.le_of_ble_eq_true rfl) (jR_le hX (by decide) (by decide)) (jF0 hX) rfl ?_
      rintro _ _ ⟨rfl, rfl⟩
      refine J_if_ne (tgt := 45) E (jd dk_X7_agree_0 20 rfl) (by decide) (fun c49 => ?_) (fun c49 => ?_)
      · replace hf := jif_f c49 hf
        refine J_aload_n E (jd dk_X7_agree_0 25 rfl) rfl 0 rfl ?_
        refine J_aload_n E (jd dk_X7_agree_0 26 rfl) rfl 0 rfl ?_
        obtain ⟨x50, e51, hf⟩ := jbind hf
        refine J_getr E (jd dk_X7_agree_0 27 rfl) fl_RX7_106 e51 ?_
        refine J_iconst (v := 0) E (jd dk_X7_agree_0 28 rfl) rfl ?_
        obtain ⟨u54, e55, hf⟩ := jbind hf
        obtain ⟨r52, e53, hf⟩ := jbind hf
        refine J_callV E (jd dk_X7_agree_0 29 rfl) ml_RX7_385 cal_X7_pack e55 rfl (lk_X7_pack (jE_g E) (jE_tr E) N e53) rfl (Nat.le_of_ble_eq_true rfl) (jR_le hX (by decide) (by decide)) (jF0 hX) rfl ?_
        rintro _ _ ⟨rfl, rfl⟩
        refine J_iconst (v := 0) E (jd dk_X7_agree_0 30 rfl) rfl ?_
        refine J_istore (lv' := [(4, .int 0), (0, .ref a0), (1, .int a1), (2, .int a2), (3, .int a3)]) E (jd dk_X7_agree_0 31 rfl) (by decide) rfl ?_
        refine J_iconst (v := 0) E (jd dk_X7_agree_0 32 rfl) rfl ?_
        refine J_istore (lv' := [(5, .int 0), (4, .int 0), (0, .ref a0), (1, .int a1), (2, .int a2), (3, .int a3)]) E (jd dk_X7_agree_0 33 rfl) (by decide) rfl ?_
        refine J_sub [2, 3, 4, 5, 1, 0] rfl ?_
        exact lk_X7_agree_b60 E hX hr N hf
      · replace hf := jif_t c49 hf
        refine J_aload_n E (jd dk_X7_agree_0 21 rfl) rfl 0 rfl ?_
        refine J_iconst (v := 2) E (jd dk_X7_agree_0 22 rfl) rfl ?_
        obtain ⟨u58, e59, hf⟩ := jbind hf
        obtain ⟨r56, e57, hf⟩ := jbind hf
        refine J_callV E (jd dk_X7_agree_0 23 rfl) ml_RX7_293 cal_X7_fail e59 rfl (lk_X7_fail (jE_g E) (jE_tr E) N e57) rfl (Nat.le_of_ble_eq_true rfl) (jR_le hX (by decide) (by decide)) (jF0 hX) rfl ?_
        rintro _ _ ⟨rfl, rfl⟩
        cases hf
        exact J_iret E hr rfl (jd dk_X7_agree_0 24 rfl) (Nat.le_refl _) (Nat.le_refl _) ⟨rfl, rfl⟩
    · replace hf := jif_t c46 hf
      refine J_sub [0] rfl ?_
      exact lk_X7_agree_b21 E hX hr N hf
def f_X7_toSet_b23 (N : Nat) (v0 : Nat) (h : AH) : Option (Int32 × AH) :=
  (jck 7 h v0).bind fun _ =>
  (f_X7_fail N h v0 1).bind fun r1 =>
  some (r1.1, r1.2)
def f_X7_toSet_b113 (N : Nat) (v3 : Int32) (h : AH) : Option (Int32 × AH) :=
  some (v3, h)
def f_X7_toSet_b98 (N : Nat) (v0 : Nat) (v1 : Int32) (v2 : Int32) (v3 : Int32) (v4 : Int32) (v5 : Int32) (h : AH) : Option ((Int32 × Int32 × Int32 × AH) ⊕ ((Int32 × Int32 × AH))) :=
  some (.inl ((v3, v4, v5 + 1, h)))
def f_X7_toSet_l48 (N : Nat) (v0 : Nat) (v1 : Int32) (v2 : Int32) (v3 : Int32) (v4 : Int32) (v5 : Int32) (h : AH) : Option ((Int32 × Int32 × Int32 × AH) ⊕ ((Int32 × Int32 × AH))) :=
  (jgr 7 h v0 5).bind fun x5 =>
  (jal 0 h x5 0).bind fun x7 =>
  if x7 ≤ v5 then some (.inr ((v3, v4, h)))
  else (jgr 7 h v0 29).bind fun x10 =>
  (jas 0 h x10 v1 v5).bind fun h12 =>
  (jck 7 h12 v0).bind fun _ =>
  (f_X7_firstIn N h12 v0 v1 0).bind fun r14 =>
  if r14.1 = ((-1)) then f_X7_toSet_b98 N v0 v1 v2 v3 v4 v5 r14.2
  else if r14.1 < v4 then f_X7_toSet_b98 N v0 v1 v2 v5 r14.1 v5 r14.2
  else f_X7_toSet_b98 N v0 v1 v2 v3 v4 v5 r14.2
def f_X7_toSet_b48 (N : Nat) (v0 : Nat) (v1 : Int32) (v2 : Int32) (v3 : Int32) (v4 : Int32) (v5 : Int32) (h : AH) : Option (Int32 × AH) :=
  (itr (fun s => f_X7_toSet_l48 N v0 v1 v2 s.1 s.2.1 s.2.2.1 s.2.2.2) N (v3, v4, v5, h)).bind (fun e => if v2 = 0 then f_X7_toSet_b113 N e.1 e.2.2
  else if e.1 = ((-1)) then f_X7_toSet_b113 N e.1 e.2.2
  else some (e.2.1, e.2.2))
def f_X7_toSet (N : Nat) (h : AH) (a0 : Nat) (a1 : Int32) (a2 : Int32) : Option (Int32 × AH) :=
  (jwi 7 h a0 4 0).bind fun h22 =>
  (jck 7 h22 a0).bind fun _ =>
  (f_X7_isJudge N h22 a0 a1).bind fun r24 =>
  if r24.1 = 0 then f_X7_toSet_b23 N a0 r24.2
  else (f_X7_isIn N r24.2 (Int32.toInt64 a2) 0 1).bind fun r29 =>
  if r29.1 = 0 then f_X7_toSet_b23 N a0 r29.2
  else (jgr 7 r29.2 a0 41).bind fun x32 =>
  (jck 7 r29.2 a0).bind fun _ =>
  (f_X7_pack N r29.2 a0 x32 0).bind fun r34 =>
  f_X7_toSet_b48 N a0 a1 a2 ((-1)) 1000000 0 r34
set_option maxRecDepth 100000 in
set_option maxHeartbeats 4000000 in
theorem lk_X7_toSet_b23 {G : JG} {X : JX} (E : jE G X (RX7, cX7_toSet, 7)) (hX : X.2.2.2.1 = jRm 7 0 0) (hr : X.2.2.2.2.2.2.2.2.1.sig.returnType = (some .int)) (N : Nat) {v0 : Nat} {h : AH}  {r : (Int32 × AH)} (hf : f_X7_toSet_b23 N v0 h = some r) : JW G X (RX7, cX7_toSet, 7) h [(0, .ref v0)] [] 23 0 0 (jEnd G X (jpi r) 0 0) := by
  unfold f_X7_toSet_b23 at hf
  refine J_aload_n E (jd dk_X7_toSet_0 13 rfl) rfl 0 rfl ?_
  refine J_iconst (v := 1) E (jd dk_X7_toSet_0 14 rfl) rfl ?_
  obtain ⟨u3, e4, hf⟩ := jbind hf
  obtain ⟨r1, e2, hf⟩ := jbind hf
  refine J_callV E (jd dk_X7_toSet_0 15 rfl) ml_RX7_293 cal_X7_fail e4 rfl (lk_X7_fail (jE_g E) (jE_tr E) N e2) rfl (Nat.le_of_ble_eq_true rfl) (jR_le hX (by decide) (by decide)) (jF0 hX) rfl ?_
  rintro _ _ ⟨rfl, rfl⟩
  cases hf
  exact J_iret E hr rfl (jd dk_X7_toSet_0 16 rfl) (Nat.le_refl _) (Nat.le_refl _) ⟨rfl, rfl⟩
set_option maxRecDepth 100000 in
set_option maxHeartbeats 4000000 in
theorem lk_X7_toSet_b113 {G : JG} {X : JX} (E : jE G X (RX7, cX7_toSet, 7)) (hX : X.2.2.2.1 = jRm 7 0 0) (hr : X.2.2.2.2.2.2.2.2.1.sig.returnType = (some .int)) (N : Nat) {v3 : Int32} {h : AH}  {r : (Int32 × AH)} (hf : f_X7_toSet_b113 N v3 h = some r) : JW G X (RX7, cX7_toSet, 7) h [(3, .int v3)] [] 113 0 0 (jEnd G X (jpi r) 0 0) := by
  unfold f_X7_toSet_b113 at hf
  refine J_iload_n E (jd dk_X7_toSet_1 12 rfl) rfl 0 rfl ?_
  refine J_goto (tgt := 119) E (jd dk_X7_toSet_1 13 rfl) (by decide) ?_
  cases hf
  exact J_iret E hr rfl (jd dk_X7_toSet_1 15 rfl) (Nat.le_refl _) (Nat.le_refl _) ⟨rfl, rfl⟩
set_option maxRecDepth 100000 in
set_option maxHeartbeats 4000000 in
theorem lk_X7_toSet_b98 {G : JG} {X : JX} (E : jE G X (RX7, cX7_toSet, 7)) (hX : X.2.2.2.1 = jRm 7 0 0) (hr : X.2.2.2.2.2.2.2.2.1.sig.returnType = (some .int)) (N : Nat) {Q : State → Prop} {v0 : Nat} {v1 : Int32} {v2 : Int32} {v3 : Int32} {v4 : Int32} {v5 : Int32} {h : AH}  {q : ((Int32 × Int32 × Int32 × AH) ⊕ ((Int32 × Int32 × AH)))} (hf : f_X7_toSet_b98 N v0 v1 v2 v3 v4 v5 h = some q) (kb : ∀ s' : Int32 × Int32 × Int32 × AH, q = .inl s' → JW G X (RX7, cX7_toSet, 7) s'.2.2.2 [(0, .ref v0), (1, .int v1), (2, .int v2), (3, .int s'.1), (4, .int s'.2.1), (5, .int s'.2.2.1)] [] 48 0 0 Q) (ke0 : ∀ e : Int32 × Int32 × AH, q = .inr e → JW G X (RX7, cX7_toSet, 7) e.2.2 [(2, .int v2), (3, .int e.1), (4, .int e.2.1)] [] 104 0 0 Q) : JW G X (RX7, cX7_toSet, 7) h [(0, .ref v0), (1, .int v1), (2, .int v2), (3, .int v3), (4, .int v4), (5, .int v5)] [] 98 0 0 Q := by
  unfold f_X7_toSet_b98 at hf
  refine J_iinc (v := v5 + 1) (lv' := [(5, .int (v5 + 1)), (0, .ref v0), (1, .int v1), (2, .int v2), (3, .int v3), (4, .int v4)]) E (jd dk_X7_toSet_1 5 rfl) 5 rfl rfl (by decide) rfl ?_
  refine J_goto (tgt := 48) E (jd dk_X7_toSet_1 6 rfl) (by decide) ?_
  refine J_sub [1, 2, 3, 4, 5, 0] rfl ?_
  exact kb _ (Option.some.inj hf).symm
set_option maxRecDepth 100000 in
set_option maxHeartbeats 4000000 in
theorem lk_X7_toSet_l48 {G : JG} {X : JX} (E : jE G X (RX7, cX7_toSet, 7)) (hX : X.2.2.2.1 = jRm 7 0 0) (hr : X.2.2.2.2.2.2.2.2.1.sig.returnType = (some .int)) (N : Nat) {Q : State → Prop} {v0 : Nat} {v1 : Int32} {v2 : Int32} {v3 : Int32} {v4 : Int32} {v5 : Int32}  {h : AH} {q : ((Int32 × Int32 × Int32 × AH) ⊕ ((Int32 × Int32 × AH)))} (hf : f_X7_toSet_l48 N v0 v1 v2 v3 v4 v5 h = some q) (kb : ∀ s' : Int32 × Int32 × Int32 × AH, q = .inl s' → JW G X (RX7, cX7_toSet, 7) s'.2.2.2 [(0, .ref v0), (1, .int v1), (2, .int v2), (3, .int s'.1), (4, .int s'.2.1), (5, .int s'.2.2.1)] [] 48 0 0 Q) (ke0 : ∀ e : Int32 × Int32 × AH, q = .inr e → JW G X (RX7, cX7_toSet, 7) e.2.2 [(2, .int v2), (3, .int e.1), (4, .int e.2.1)] [] 104 0 0 Q) : JW G X (RX7, cX7_toSet, 7) h [(0, .ref v0), (1, .int v1), (2, .int v2), (3, .int v3), (4, .int v4), (5, .int v5)] [] 48 0 0 Q := by
  unfold f_X7_toSet_l48 at hf
  refine J_iload E (jd dk_X7_toSet_0 28 rfl) 5 rfl ?_
  refine J_aload_n E (jd dk_X7_toSet_0 29 rfl) rfl 0 rfl ?_
  obtain ⟨x5, e6, hf⟩ := jbind hf
  refine J_getr E (jd dk_X7_toSet_0 30 rfl) fl_RX7_42 e6 ?_
  refine J_iconst (v := 0) E (jd dk_X7_toSet_0 31 rfl) rfl ?_
  obtain ⟨x7, e8, hf⟩ := jbind hf
  refine J_iald E (jd dk_X7_toSet_0 32 rfl) e8 ?_
  refine J_icmp_ge (tgt := 104) E (jd dk_X7_toSet_0 33 rfl) (by decide) (fun c9 => ?_) (fun c9 => ?_)
  · replace hf := jif_t c9 hf
    refine J_sub [2, 3, 4] rfl ?_
    exact ke0 _ (Option.some.inj hf).symm
  · replace hf := jif_f c9 hf
    refine J_aload_n E (jd dk_X7_toSet_0 34 rfl) rfl 0 rfl ?_
    obtain ⟨x10, e11, hf⟩ := jbind hf
    refine J_getr E (jd dk_X7_toSet_0 35 rfl) fl_RX7_84 e11 ?_
    refine J_iload_n E (jd dk_X7_toSet_0 36 rfl) rfl 1 rfl ?_
    refine J_iload E (jd dk_X7_toSet_0 37 rfl) 5 rfl ?_
    obtain ⟨h12, e13, hf⟩ := jbind hf
    refine J_iast E (jd dk_X7_toSet_0 38 rfl) e13 ?_
    refine J_aload_n E (jd dk_X7_toSet_0 39 rfl) rfl 0 rfl ?_
    refine J_iload_n E (jd dk_X7_toSet_0 40 rfl) rfl 1 rfl ?_
    refine J_iconst (v := 0) E (jd dk_X7_toSet_0 41 rfl) rfl ?_
    obtain ⟨u16, e17, hf⟩ := jbind hf
    obtain ⟨r14, e15, hf⟩ := jbind hf
    refine J_callV E (jd dk_X7_toSet_0 42 rfl) ml_RX7_412 cal_X7_firstIn e17 rfl (lk_X7_firstIn (jE_g E) (jE_tr E) N e15) rfl (Nat.le_of_ble_eq_true rfl) (jR_le hX (by decide) (by decide)) (jF0 hX) rfl ?_
    rintro _ _ ⟨rfl, rfl⟩
    refine J_istore (lv' := [(6, .int r14.1), (0, .ref v0), (1, .int v1), (2, .int v2), (3, .int v3), (4, .int v4), (5, .int v5)]) E (jd dk_X7_toSet_0 43 rfl) (by decide) rfl ?_
    refine J_iload E (jd dk_X7_toSet_0 44 rfl) 0 rfl ?_
    refine J_iconst (v := (-1)) E (jd dk_X7_toSet_0 45 rfl) rfl ?_
    refine J_icmp_eq (tgt := 98) E (jd dk_X7_toSet_0 46 rfl) (by decide) (fun c18 => ?_) (fun c18 => ?_)
    · replace hf := jif_t c18 hf
      refine J_sub [1, 2, 3, 4, 5, 6] rfl ?_
      exact lk_X7_toSet_b98 E hX hr N hf kb ke0
    · replace hf := jif_f c18 hf
      refine J_iload E (jd dk_X7_toSet_0 47 rfl) 0 rfl ?_
      refine J_iload E (jd dk_X7_toSet_0 48 rfl) 5 rfl ?_
      refine J_icmp_lt (tgt := 91) E (jd dk_X7_toSet_0 49 rfl) (by decide) (fun c19 => ?_) (fun c19 => ?_)
      · replace hf := jif_t c19 hf
        refine J_iload E (jd dk_X7_toSet_1 1 rfl) 6 rfl ?_
        refine J_istore_n (lv' := [(3, .int v5), (6, .int r14.1), (0, .ref v0), (1, .int v1), (2, .int v2), (4, .int v4), (5, .int v5)]) E (jd dk_X7_toSet_1 2 rfl) rfl (by decide) rfl ?_
        refine J_iload E (jd dk_X7_toSet_1 3 rfl) 1 rfl ?_
        refine J_istore (lv' := [(4, .int r14.1), (3, .int v5), (6, .int r14.1), (0, .ref v0), (1, .int v1), (2, .int v2), (5, .int v5)]) E (jd dk_X7_toSet_1 4 rfl) (by decide) rfl ?_
        refine J_sub [3, 4, 5, 1, 0, 6] rfl ?_
        exact lk_X7_toSet_b98 E hX hr N hf kb ke0
      · replace hf := jif_f c19 hf
        refine J_goto (tgt := 98) E (jd dk_X7_toSet_1 0 rfl) (by decide) ?_
        refine J_sub [1, 2, 3, 4, 5, 6] rfl ?_
        exact lk_X7_toSet_b98 E hX hr N hf kb ke0
set_option maxRecDepth 100000 in
set_option maxHeartbeats 4000000 in
theorem lk_X7_toSet_b48 {G : JG} {X : JX} (E : jE G X (RX7, cX7_toSet, 7)) (hX : X.2.2.2.1 = jRm 7 0 0) (hr : X.2.2.2.2.2.2.2.2.1.sig.returnType = (some .int)) (N : Nat) {v0 : Nat} {v1 : Int32} {v2 : Int32} {v3 : Int32} {v4 : Int32} {v5 : Int32} {h : AH}  {r : (Int32 × AH)} (hf : f_X7_toSet_b48 N v0 v1 v2 v3 v4 v5 h = some r) : JW G X (RX7, cX7_toSet, 7) h [(0, .ref v0), (1, .int v1), (2, .int v2), (3, .int v3), (4, .int v4), (5, .int v5)] [] 48 0 0 (jEnd G X (jpi r) 0 0) := by
  unfold f_X7_toSet_b48 at hf
  obtain ⟨q1, h1, hf⟩ := jbind hf
  refine jloop (P := fun s => JW G X (RX7, cX7_toSet, 7) s.2.2.2 [(0, .ref v0), (1, .int v1), (2, .int v2), (3, .int s.1), (4, .int s.2.1), (5, .int s.2.2.1)] [] 48 0 0 (jEnd G X (jpi r) 0 0)) (Ex := fun (e : Int32 × Int32 × AH) => JW G X (RX7, cX7_toSet, 7) e.2.2 [(2, .int v2), (3, .int e.1), (4, .int e.2.1)] [] 104 0 0 (jEnd G X (jpi r) 0 0)) (fun s q hs hb hx => lk_X7_toSet_l48 E hX hr N hs (fun s' hs => hb s' hs) (fun e he => hx e he)) N _ q1 h1 ?_
  generalize q1 = e at hf ⊢
  refine J_iload_n E (jd dk_X7_toSet_1 7 rfl) rfl 0 rfl ?_
  refine J_if_eq (tgt := 113) E (jd dk_X7_toSet_1 8 rfl) (by decide) (fun c20 => ?_) (fun c20 => ?_)
  · replace hf := jif_t c20 hf
    refine J_sub [1] rfl ?_
    exact lk_X7_toSet_b113 E hX hr N hf
  · replace hf := jif_f c20 hf
    refine J_iload_n E (jd dk_X7_toSet_1 9 rfl) rfl 1 rfl ?_
    refine J_iconst (v := (-1)) E (jd dk_X7_toSet_1 10 rfl) rfl ?_
    refine J_icmp_ne (tgt := 117) E (jd dk_X7_toSet_1 11 rfl) (by decide) (fun c21 => ?_) (fun c21 => ?_)
    · replace hf := jif_f c21 hf
      refine J_iload E (jd dk_X7_toSet_1 14 rfl) 2 rfl ?_
      cases hf
      exact J_iret E hr rfl (jd dk_X7_toSet_1 15 rfl) (Nat.le_refl _) (Nat.le_refl _) ⟨rfl, rfl⟩
    · replace hf := jif_t c21 hf
      refine J_sub [1] rfl ?_
      exact lk_X7_toSet_b113 E hX hr N hf
set_option maxRecDepth 100000 in
set_option maxHeartbeats 4000000 in
theorem lk_X7_toSet {G : JG} {l : Launch} (hG : jG G) (htr : l.stackTraces = false) (N : Nat) {h : AH} {a0 : Nat} {a1 : Int32} {a2 : Int32} {r : (Int32 × AH)} (hf : f_X7_toSet N h a0 a1 a2 = some r) : jMet G l yX7_toSet cX7_toSet 7 (some .int) 7 0 0 [.ref a0, .int a1, .int a2] h (jpi r) := by
  unfold f_X7_toSet at hf
  refine jMet_of hG htr (by decide) (Nat.le_of_ble_eq_true rfl) ?_
  intro X E hl9 hr hX _ _
  show JW G X (RX7, cX7_toSet, 7) h [(0, .ref a0), (1, .int a1), (2, .int a2)] [] 0 0 0 (jEnd G X (jpi r) 0 0)
  refine J_aload_n E (jd dk_X7_toSet_0 0 rfl) rfl 0 rfl ?_
  refine J_iconst (v := 0) E (jd dk_X7_toSet_0 1 rfl) rfl ?_
  obtain ⟨h22, e23, hf⟩ := jbind hf
  refine J_put E (jd dk_X7_toSet_0 2 rfl) fl_RX7_151 e23 (fun _ => rfl) (fun _ => rfl) ?_
  refine J_aload_n E (jd dk_X7_toSet_0 3 rfl) rfl 0 rfl ?_
  refine J_iload_n E (jd dk_X7_toSet_0 4 rfl) rfl 1 rfl ?_
  obtain ⟨u26, e27, hf⟩ := jbind hf
  obtain ⟨r24, e25, hf⟩ := jbind hf
  refine J_callV E (jd dk_X7_toSet_0 5 rfl) ml_RX7_382 cal_X7_isJudge e27 rfl (lk_X7_isJudge (jE_g E) (jE_tr E) N e25) rfl (Nat.le_of_ble_eq_true rfl) (jR_le hX (by decide) (by decide)) (jF0 hX) rfl ?_
  rintro _ _ ⟨rfl, rfl⟩
  refine J_if_eq (tgt := 23) E (jd dk_X7_toSet_0 6 rfl) (by decide) (fun c28 => ?_) (fun c28 => ?_)
  · replace hf := jif_t c28 hf
    refine J_sub [0] rfl ?_
    exact lk_X7_toSet_b23 E hX hr N hf
  · replace hf := jif_f c28 hf
    refine J_iload_n E (jd dk_X7_toSet_0 7 rfl) rfl 2 rfl ?_
    refine J_i2l E (jd dk_X7_toSet_0 8 rfl) ?_
    refine J_lconst (v := 0) E (jd dk_X7_toSet_0 9 rfl) (by decide) ?_
    refine J_lconst (v := 1) E (jd dk_X7_toSet_0 10 rfl) (by decide) ?_
    obtain ⟨r29, e30, hf⟩ := jbind hf
    refine J_callS E (jd dk_X7_toSet_0 11 rfl) ml_RX7_154 cal_X7_isIn (lk_X7_isIn (jE_g E) (jE_tr E) N e30) rfl (Nat.le_of_ble_eq_true rfl) (jR_le hX (by decide) (by decide)) (jF0 hX) rfl ?_
    rintro _ _ ⟨rfl, rfl⟩
    refine J_if_ne (tgt := 29) E (jd dk_X7_toSet_0 12 rfl) (by decide) (fun c31 => ?_) (fun c31 => ?_)
    · replace hf := jif_f c31 hf
      refine J_iconst (v := (-1)) E (jd dk_X7_toSet_0 17 rfl) rfl ?_
      refine J_istore_n (lv' := [(3, .int ((-1))), (0, .ref a0), (1, .int a1), (2, .int a2)]) E (jd dk_X7_toSet_0 18 rfl) rfl (by decide) rfl ?_
      refine J_ldcw (v := 1000000) E (jd dk_X7_toSet_0 19 rfl) (jl33_in _ (List.mem_of_getElem? (i := 30) rfl)) ?_
      refine J_istore (lv' := [(4, .int 1000000), (3, .int ((-1))), (0, .ref a0), (1, .int a1), (2, .int a2)]) E (jd dk_X7_toSet_0 20 rfl) (by decide) rfl ?_
      refine J_aload_n E (jd dk_X7_toSet_0 21 rfl) rfl 2 rfl ?_
      refine J_aload_n E (jd dk_X7_toSet_0 22 rfl) rfl 2 rfl ?_
      obtain ⟨x32, e33, hf⟩ := jbind hf
      refine J_getr E (jd dk_X7_toSet_0 23 rfl) fl_RX7_106 e33 ?_
      refine J_iconst (v := 0) E (jd dk_X7_toSet_0 24 rfl) rfl ?_
      obtain ⟨u36, e37, hf⟩ := jbind hf
      obtain ⟨r34, e35, hf⟩ := jbind hf
      refine J_callV E (jd dk_X7_toSet_0 25 rfl) ml_RX7_385 cal_X7_pack e37 rfl (lk_X7_pack (jE_g E) (jE_tr E) N e35) rfl (Nat.le_of_ble_eq_true rfl) (jR_le hX (by decide) (by decide)) (jF0 hX) rfl ?_
      rintro _ _ ⟨rfl, rfl⟩
      refine J_iconst (v := 0) E (jd dk_X7_toSet_0 26 rfl) rfl ?_
      refine J_istore (lv' := [(5, .int 0), (4, .int 1000000), (3, .int ((-1))), (0, .ref a0), (1, .int a1), (2, .int a2)]) E (jd dk_X7_toSet_0 27 rfl) (by decide) rfl ?_
      refine J_sub [3, 4, 5, 2, 1, 0] rfl ?_
      exact lk_X7_toSet_b48 E hX hr N hf
    · replace hf := jif_t c31 hf
      refine J_sub [0] rfl ?_
      exact lk_X7_toSet_b23 E hX hr N hf
def f_X7_toSpin_b23 (N : Nat) (v0 : Nat) (h : AH) : Option (Int32 × AH) :=
  (jck 7 h v0).bind fun _ =>
  (f_X7_fail N h v0 1).bind fun r1 =>
  some (r1.1, r1.2)
def f_X7_toSpin_b121 (N : Nat) (v0 : Nat) (v1 : Int32) (v2 : Int32) (v3 : Int32) (v4 : Int32) (v5 : Int32) (v6 : Int32) (h : AH) : Option ((Int32 × Int32 × Int32 × AH) ⊕ ((Int32 × Int32 × AH))) :=
  some (.inl ((v4, v5, v6 + 1, h)))
def f_X7_toSpin_l65 (N : Nat) (v0 : Nat) (v1 : Int32) (v2 : Int32) (v3 : Int32) (v4 : Int32) (v5 : Int32) (v6 : Int32) (h : AH) : Option ((Int32 × Int32 × Int32 × AH) ⊕ ((Int32 × Int32 × AH))) :=
  if 7 < v6 then some (.inr ((v4, v5, h)))
  else (jgr 7 h v0 32).bind fun x6 =>
  (jas 0 h x6 v1 v6).bind fun h8 =>
  (jck 7 h8 v0).bind fun _ =>
  (f_X7_goOn N h8 v0 v2).bind fun r10 =>
  (jck 7 r10 v0).bind fun _ =>
  (f_X7_fairOnes N r10 v0).bind fun r14 =>
  (f_X7_bitsOf N r14.2 r14.1).bind fun r18 =>
  (jgr 7 r18.2 v0 41).bind fun x20 =>
  (jck 7 r18.2 v0).bind fun _ =>
  (f_X7_unpack N r18.2 v0 x20 0).bind fun r22 =>
  if v5 < r18.1 then f_X7_toSpin_b121 N v0 v1 v2 v3 v6 r18.1 v6 r22
  else f_X7_toSpin_b121 N v0 v1 v2 v3 v4 v5 v6 r22
def f_X7_toSpin_b65 (N : Nat) (v0 : Nat) (v1 : Int32) (v2 : Int32) (v3 : Int32) (v4 : Int32) (v5 : Int32) (v6 : Int32) (h : AH) : Option (Int32 × AH) :=
  (itr (fun s => f_X7_toSpin_l65 N v0 v1 v2 v3 s.1 s.2.1 s.2.2.1 s.2.2.2) N (v4, v5, v6, h)).bind (fun e => if v3 = 0 then some (e.1, e.2.2)
  else some (e.2.1, e.2.2))
def f_X7_toSpin (N : Nat) (h : AH) (a0 : Nat) (a1 : Int32) (a2 : Int32) (a3 : Int32) : Option (Int32 × AH) :=
  (jwi 7 h a0 4 0).bind fun h28 =>
  (jck 7 h28 a0).bind fun _ =>
  (f_X7_isReach N h28 a0 a1).bind fun r30 =>
  if r30.1 = 0 then f_X7_toSpin_b23 N a0 r30.2
  else (f_X7_isIn N r30.2 (Int32.toInt64 a3) 0 1).bind fun r35 =>
  if r35.1 = 0 then f_X7_toSpin_b23 N a0 r35.2
  else (f_X7_isIn N r35.2 (Int32.toInt64 a2) 1 60).bind fun r38 =>
  if r38.1 = 0 then (jck 7 r38.2 a0).bind fun _ =>
  (f_X7_fail N r38.2 a0 2).bind fun r47 =>
  some (r47.1, r47.2)
  else (jgr 7 r38.2 a0 41).bind fun x41 =>
  (jck 7 r38.2 a0).bind fun _ =>
  (f_X7_pack N r38.2 a0 x41 0).bind fun r43 =>
  f_X7_toSpin_b65 N a0 a1 a2 a3 ((-1)) ((-1)) 0 r43
set_option maxRecDepth 100000 in
set_option maxHeartbeats 4000000 in
theorem lk_X7_toSpin_b23 {G : JG} {X : JX} (E : jE G X (RX7, cX7_toSpin, 8)) (hX : X.2.2.2.1 = jRm 6 0 0) (hr : X.2.2.2.2.2.2.2.2.1.sig.returnType = (some .int)) (N : Nat) {v0 : Nat} {h : AH}  {r : (Int32 × AH)} (hf : f_X7_toSpin_b23 N v0 h = some r) : JW G X (RX7, cX7_toSpin, 8) h [(0, .ref v0)] [] 23 0 0 (jEnd G X (jpi r) 0 0) := by
  unfold f_X7_toSpin_b23 at hf
  refine J_aload_n E (jd dk_X7_toSpin_0 13 rfl) rfl 0 rfl ?_
  refine J_iconst (v := 1) E (jd dk_X7_toSpin_0 14 rfl) rfl ?_
  obtain ⟨u3, e4, hf⟩ := jbind hf
  obtain ⟨r1, e2, hf⟩ := jbind hf
  refine J_callV E (jd dk_X7_toSpin_0 15 rfl) ml_RX7_293 cal_X7_fail e4 rfl (lk_X7_fail (jE_g E) (jE_tr E) N e2) rfl (Nat.le_of_ble_eq_true rfl) (jR_le hX (by decide) (by decide)) (jF0 hX) rfl ?_
  rintro _ _ ⟨rfl, rfl⟩
  cases hf
  exact J_iret E hr rfl (jd dk_X7_toSpin_0 16 rfl) (Nat.le_refl _) (Nat.le_refl _) ⟨rfl, rfl⟩
set_option maxRecDepth 100000 in
set_option maxHeartbeats 4000000 in
theorem lk_X7_toSpin_b121 {G : JG} {X : JX} (E : jE G X (RX7, cX7_toSpin, 8)) (hX : X.2.2.2.1 = jRm 6 0 0) (hr : X.2.2.2.2.2.2.2.2.1.sig.returnType = (some .int)) (N : Nat) {Q : State → Prop} {v0 : Nat} {v1 : Int32} {v2 : Int32} {v3 : Int32} {v4 : Int32} {v5 : Int32} {v6 : Int32} {h : AH}  {q : ((Int32 × Int32 × Int32 × AH) ⊕ ((Int32 × Int32 × AH)))} (hf : f_X7_toSpin_b121 N v0 v1 v2 v3 v4 v5 v6 h = some q) (kb : ∀ s' : Int32 × Int32 × Int32 × AH, q = .inl s' → JW G X (RX7, cX7_toSpin, 8) s'.2.2.2 [(0, .ref v0), (1, .int v1), (2, .int v2), (3, .int v3), (4, .int s'.1), (5, .int s'.2.1), (6, .int s'.2.2.1)] [] 65 0 0 Q) (ke0 : ∀ e : Int32 × Int32 × AH, q = .inr e → JW G X (RX7, cX7_toSpin, 8) e.2.2 [(3, .int v3), (4, .int e.1), (5, .int e.2.1)] [] 127 0 0 Q) : JW G X (RX7, cX7_toSpin, 8) h [(0, .ref v0), (1, .int v1), (2, .int v2), (3, .int v3), (4, .int v4), (5, .int v5), (6, .int v6)] [] 121 0 0 Q := by
  unfold f_X7_toSpin_b121 at hf
  refine J_iinc (v := v6 + 1) (lv' := [(6, .int (v6 + 1)), (0, .ref v0), (1, .int v1), (2, .int v2), (3, .int v3), (4, .int v4), (5, .int v5)]) E (jd dk_X7_toSpin_1 16 rfl) 6 rfl rfl (by decide) rfl ?_
  refine J_goto (tgt := 65) E (jd dk_X7_toSpin_1 17 rfl) (by decide) ?_
  refine J_sub [1, 2, 3, 4, 5, 6, 0] rfl ?_
  exact kb _ (Option.some.inj hf).symm
set_option maxRecDepth 100000 in
set_option maxHeartbeats 4000000 in
theorem lk_X7_toSpin_l65 {G : JG} {X : JX} (E : jE G X (RX7, cX7_toSpin, 8)) (hX : X.2.2.2.1 = jRm 6 0 0) (hr : X.2.2.2.2.2.2.2.2.1.sig.returnType = (some .int)) (N : Nat) {Q : State → Prop} {v0 : Nat} {v1 : Int32} {v2 : Int32} {v3 : Int32} {v4 : Int32} {v5 : Int32} {v6 : Int32}  {h : AH} {q : ((Int32 × Int32 × Int32 × AH) ⊕ ((Int32 × Int32 × AH)))} (hf : f_X7_toSpin_l65 N v0 v1 v2 v3 v4 v5 v6 h = some q) (kb : ∀ s' : Int32 × Int32 × Int32 × AH, q = .inl s' → JW G X (RX7, cX7_toSpin, 8) s'.2.2.2 [(0, .ref v0), (1, .int v1), (2, .int v2), (3, .int v3), (4, .int s'.1), (5, .int s'.2.1), (6, .int s'.2.2.1)] [] 65 0 0 Q) (ke0 : ∀ e : Int32 × Int32 × AH, q = .inr e → JW G X (RX7, cX7_toSpin, 8) e.2.2 [(3, .int v3), (4, .int e.1), (5, .int e.2.1)] [] 127 0 0 Q) : JW G X (RX7, cX7_toSpin, 8) h [(0, .ref v0), (1, .int v1), (2, .int v2), (3, .int v3), (4, .int v4), (5, .int v5), (6, .int v6)] [] 65 0 0 Q := by
  unfold f_X7_toSpin_l65 at hf
  refine J_iload E (jd dk_X7_toSpin_0 38 rfl) 6 rfl ?_
  refine J_bipush (v := 7) E (jd dk_X7_toSpin_0 39 rfl) (by decide) ?_
  refine J_icmp_gt (tgt := 127) E (jd dk_X7_toSpin_0 40 rfl) (by decide) (fun c5 => ?_) (fun c5 => ?_)
  · replace hf := jif_t c5 hf
    refine J_sub [3, 4, 5] rfl ?_
    exact ke0 _ (Option.some.inj hf).symm
  · replace hf := jif_f c5 hf
    refine J_aload_n E (jd dk_X7_toSpin_0 41 rfl) rfl 0 rfl ?_
    obtain ⟨x6, e7, hf⟩ := jbind hf
    refine J_getr E (jd dk_X7_toSpin_0 42 rfl) fl_RX7_92 e7 ?_
    refine J_iload_n E (jd dk_X7_toSpin_0 43 rfl) rfl 1 rfl ?_
    refine J_iload E (jd dk_X7_toSpin_0 44 rfl) 6 rfl ?_
    obtain ⟨h8, e9, hf⟩ := jbind hf
    refine J_iast E (jd dk_X7_toSpin_0 45 rfl) e9 ?_
    refine J_aload_n E (jd dk_X7_toSpin_0 46 rfl) rfl 0 rfl ?_
    refine J_iload_n E (jd dk_X7_toSpin_0 47 rfl) rfl 2 rfl ?_
    obtain ⟨u12, e13, hf⟩ := jbind hf
    obtain ⟨r10, e11, hf⟩ := jbind hf
    refine J_callV E (jd dk_X7_toSpin_0 48 rfl) ml_RX7_397 cal_X7_goOn e13 rfl (lk_X7_goOn (jE_g E) (jE_tr E) N e11) rfl (Nat.le_of_ble_eq_true rfl) (jR_le hX (by decide) (by decide)) (jF0 hX) rfl ?_
    rintro _ _ ⟨rfl, rfl⟩
    refine J_aload_n E (jd dk_X7_toSpin_0 49 rfl) rfl 0 rfl ?_
    obtain ⟨u16, e17, hf⟩ := jbind hf
    obtain ⟨r14, e15, hf⟩ := jbind hf
    refine J_callV E (jd dk_X7_toSpin_1 0 rfl) ml_RX7_365 cal_X7_fairOnes e17 rfl (lk_X7_fairOnes (jE_g E) (jE_tr E) N e15) rfl (Nat.le_of_ble_eq_true rfl) (jR_le hX (by decide) (by decide)) (jF0 hX) rfl ?_
    rintro _ _ ⟨rfl, rfl⟩
    obtain ⟨r18, e19, hf⟩ := jbind hf
    refine J_callS E (jd dk_X7_toSpin_1 1 rfl) ml_RX7_327 cal_X7_bitsOf (lk_X7_bitsOf (jE_g E) (jE_tr E) N e19) rfl (Nat.le_of_ble_eq_true rfl) (jR_le hX (by decide) (by decide)) (jF0 hX) rfl ?_
    rintro _ _ ⟨rfl, rfl⟩
    refine J_istore (lv' := [(7, .int r18.1), (0, .ref v0), (1, .int v1), (2, .int v2), (3, .int v3), (4, .int v4), (5, .int v5), (6, .int v6)]) E (jd dk_X7_toSpin_1 2 rfl) (by decide) rfl ?_
    refine J_aload_n E (jd dk_X7_toSpin_1 3 rfl) rfl 1 rfl ?_
    refine J_aload_n E (jd dk_X7_toSpin_1 4 rfl) rfl 1 rfl ?_
    obtain ⟨x20, e21, hf⟩ := jbind hf
    refine J_getr E (jd dk_X7_toSpin_1 5 rfl) fl_RX7_106 e21 ?_
    refine J_iconst (v := 0) E (jd dk_X7_toSpin_1 6 rfl) rfl ?_
    obtain ⟨u24, e25, hf⟩ := jbind hf
    obtain ⟨r22, e23, hf⟩ := jbind hf
    refine J_callV E (jd dk_X7_toSpin_1 7 rfl) ml_RX7_407 cal_X7_unpack e25 rfl (lk_X7_unpack (jE_g E) (jE_tr E) N e23) rfl (Nat.le_of_ble_eq_true rfl) (jR_le hX (by decide) (by decide)) (jF0 hX) rfl ?_
    rintro _ _ ⟨rfl, rfl⟩
    refine J_iload E (jd dk_X7_toSpin_1 8 rfl) 0 rfl ?_
    refine J_iload E (jd dk_X7_toSpin_1 9 rfl) 6 rfl ?_
    refine J_icmp_gt (tgt := 113) E (jd dk_X7_toSpin_1 10 rfl) (by decide) (fun c26 => ?_) (fun c26 => ?_)
    · replace hf := jif_t c26 hf
      refine J_iload E (jd dk_X7_toSpin_1 12 rfl) 7 rfl ?_
      refine J_istore (lv' := [(4, .int v6), (7, .int r18.1), (0, .ref v0), (1, .int v1), (2, .int v2), (3, .int v3), (5, .int v5), (6, .int v6)]) E (jd dk_X7_toSpin_1 13 rfl) (by decide) rfl ?_
      refine J_iload E (jd dk_X7_toSpin_1 14 rfl) 1 rfl ?_
      refine J_istore (lv' := [(5, .int r18.1), (4, .int v6), (7, .int r18.1), (0, .ref v0), (1, .int v1), (2, .int v2), (3, .int v3), (6, .int v6)]) E (jd dk_X7_toSpin_1 15 rfl) (by decide) rfl ?_
      refine J_sub [3, 4, 5, 6, 1, 0, 7] rfl ?_
      exact lk_X7_toSpin_b121 E hX hr N hf kb ke0
    · replace hf := jif_f c26 hf
      refine J_goto (tgt := 121) E (jd dk_X7_toSpin_1 11 rfl) (by decide) ?_
      refine J_sub [1, 2, 3, 4, 5, 6, 7] rfl ?_
      exact lk_X7_toSpin_b121 E hX hr N hf kb ke0
set_option maxRecDepth 100000 in
set_option maxHeartbeats 4000000 in
theorem lk_X7_toSpin_b65 {G : JG} {X : JX} (E : jE G X (RX7, cX7_toSpin, 8)) (hX : X.2.2.2.1 = jRm 6 0 0) (hr : X.2.2.2.2.2.2.2.2.1.sig.returnType = (some .int)) (N : Nat) {v0 : Nat} {v1 : Int32} {v2 : Int32} {v3 : Int32} {v4 : Int32} {v5 : Int32} {v6 : Int32} {h : AH}  {r : (Int32 × AH)} (hf : f_X7_toSpin_b65 N v0 v1 v2 v3 v4 v5 v6 h = some r) : JW G X (RX7, cX7_toSpin, 8) h [(0, .ref v0), (1, .int v1), (2, .int v2), (3, .int v3), (4, .int v4), (5, .int v5), (6, .int v6)] [] 65 0 0 (jEnd G X (jpi r) 0 0) := by
  unfold f_X7_toSpin_b65 at hf
  obtain ⟨q1, h1, hf⟩ := jbind hf
  refine jloop (P := fun s => JW G X (RX7, cX7_toSpin, 8) s.2.2.2 [(0, .ref v0), (1, .int v1), (2, .int v2), (3, .int v3), (4, .int s.1), (5, .int s.2.1), (6, .int s.2.2.1)] [] 65 0 0 (jEnd G X (jpi r) 0 0)) (Ex := fun (e : Int32 × Int32 × AH) => JW G X (RX7, cX7_toSpin, 8) e.2.2 [(3, .int v3), (4, .int e.1), (5, .int e.2.1)] [] 127 0 0 (jEnd G X (jpi r) 0 0)) (fun s q hs hb hx => lk_X7_toSpin_l65 E hX hr N hs (fun s' hs => hb s' hs) (fun e he => hx e he)) N _ q1 h1 ?_
  generalize q1 = e at hf ⊢
  refine J_iload_n E (jd dk_X7_toSpin_1 18 rfl) rfl 0 rfl ?_
  refine J_if_ne (tgt := 136) E (jd dk_X7_toSpin_1 19 rfl) (by decide) (fun c27 => ?_) (fun c27 => ?_)
  · replace hf := jif_f c27 hf
    refine J_iload E (jd dk_X7_toSpin_1 22 rfl) 2 rfl ?_
    cases hf
    exact J_iret E hr rfl (jd dk_X7_toSpin_1 23 rfl) (Nat.le_refl _) (Nat.le_refl _) ⟨rfl, rfl⟩
  · replace hf := jif_t c27 hf
    refine J_iload E (jd dk_X7_toSpin_1 20 rfl) 1 rfl ?_
    refine J_goto (tgt := 138) E (jd dk_X7_toSpin_1 21 rfl) (by decide) ?_
    cases hf
    exact J_iret E hr rfl (jd dk_X7_toSpin_1 23 rfl) (Nat.le_refl _) (Nat.le_refl _) ⟨rfl, rfl⟩
set_option maxRecDepth 100000 in
set_option maxHeartbeats 4000000 in
theorem lk_X7_toSpin {G : JG} {l : Launch} (hG : jG G) (htr : l.stackTraces = false) (N : Nat) {h : AH} {a0 : Nat} {a1 : Int32} {a2 : Int32} {a3 : Int32} {r : (Int32 × AH)} (hf : f_X7_toSpin N h a0 a1 a2 a3 = some r) : jMet G l yX7_toSpin cX7_toSpin 8 (some .int) 6 0 0 [.ref a0, .int a1, .int a2, .int a3] h (jpi r) := by
  unfold f_X7_toSpin at hf
  refine jMet_of hG htr (by decide) (Nat.le_of_ble_eq_true rfl) ?_
  intro X E hl9 hr hX _ _
  show JW G X (RX7, cX7_toSpin, 8) h [(0, .ref a0), (1, .int a1), (2, .int a2), (3, .int a3)] [] 0 0 0 (jEnd G X (jpi r) 0 0)
  refine J_aload_n E (jd dk_X7_toSpin_0 0 rfl) rfl 0 rfl ?_
  refine J_iconst (v := 0) E (jd dk_X7_toSpin_0 1 rfl) rfl ?_
  obtain ⟨h28, e29, hf⟩ := jbind hf
  refine J_put E (jd dk_X7_toSpin_0 2 rfl) fl_RX7_151 e29 (fun _ => rfl) (fun _ => rfl) ?_
  refine J_aload_n E (jd dk_X7_toSpin_0 3 rfl) rfl 0 rfl ?_
  refine J_iload_n E (jd dk_X7_toSpin_0 4 rfl) rfl 1 rfl ?_
  obtain ⟨u32, e33, hf⟩ := jbind hf
  obtain ⟨r30, e31, hf⟩ := jbind hf
  refine J_callV E (jd dk_X7_toSpin_0 5 rfl) ml_RX7_377 cal_X7_isReach e33 rfl (lk_X7_isReach (jE_g E) (jE_tr E) N e31) rfl (Nat.le_of_ble_eq_true rfl) (jR_le hX (by decide) (by decide)) (jF0 hX) rfl ?_
  rintro _ _ ⟨rfl, rfl⟩
  refine J_if_eq (tgt := 23) E (jd dk_X7_toSpin_0 6 rfl) (by decide) (fun c34 => ?_) (fun c34 => ?_)
  · replace hf := jif_t c34 hf
    refine J_sub [0] rfl ?_
    exact lk_X7_toSpin_b23 E hX hr N hf
  · replace hf := jif_f c34 hf
    refine J_iload_n E (jd dk_X7_toSpin_0 7 rfl) rfl 3 rfl ?_
    refine J_i2l E (jd dk_X7_toSpin_0 8 rfl) ?_
    refine J_lconst (v := 0) E (jd dk_X7_toSpin_0 9 rfl) (by decide) ?_
    refine J_lconst (v := 1) E (jd dk_X7_toSpin_0 10 rfl) (by decide) ?_
    obtain ⟨r35, e36, hf⟩ := jbind hf
    refine J_callS E (jd dk_X7_toSpin_0 11 rfl) ml_RX7_154 cal_X7_isIn (lk_X7_isIn (jE_g E) (jE_tr E) N e36) rfl (Nat.le_of_ble_eq_true rfl) (jR_le hX (by decide) (by decide)) (jF0 hX) rfl ?_
    rintro _ _ ⟨rfl, rfl⟩
    refine J_if_ne (tgt := 29) E (jd dk_X7_toSpin_0 12 rfl) (by decide) (fun c37 => ?_) (fun c37 => ?_)
    · replace hf := jif_f c37 hf
      refine J_iload_n E (jd dk_X7_toSpin_0 17 rfl) rfl 2 rfl ?_
      refine J_i2l E (jd dk_X7_toSpin_0 18 rfl) ?_
      refine J_lconst (v := 1) E (jd dk_X7_toSpin_0 19 rfl) (by decide) ?_
      refine J_ldc2 (v := 60) E (jd dk_X7_toSpin_0 20 rfl) (jl32_in _ (List.mem_of_getElem? (i := 12) rfl)) ?_
      obtain ⟨r38, e39, hf⟩ := jbind hf
      refine J_callS E (jd dk_X7_toSpin_0 21 rfl) ml_RX7_154 cal_X7_isIn (lk_X7_isIn (jE_g E) (jE_tr E) N e39) rfl (Nat.le_of_ble_eq_true rfl) (jR_le hX (by decide) (by decide)) (jF0 hX) rfl ?_
      rintro _ _ ⟨rfl, rfl⟩
      refine J_if_ne (tgt := 47) E (jd dk_X7_toSpin_0 22 rfl) (by decide) (fun c40 => ?_) (fun c40 => ?_)
      · replace hf := jif_f c40 hf
        refine J_iconst (v := (-1)) E (jd dk_X7_toSpin_0 27 rfl) rfl ?_
        refine J_istore (lv' := [(4, .int ((-1))), (0, .ref a0), (1, .int a1), (2, .int a2), (3, .int a3)]) E (jd dk_X7_toSpin_0 28 rfl) (by decide) rfl ?_
        refine J_iconst (v := (-1)) E (jd dk_X7_toSpin_0 29 rfl) rfl ?_
        refine J_istore (lv' := [(5, .int ((-1))), (4, .int ((-1))), (0, .ref a0), (1, .int a1), (2, .int a2), (3, .int a3)]) E (jd dk_X7_toSpin_0 30 rfl) (by decide) rfl ?_
        refine J_aload_n E (jd dk_X7_toSpin_0 31 rfl) rfl 2 rfl ?_
        refine J_aload_n E (jd dk_X7_toSpin_0 32 rfl) rfl 2 rfl ?_
        obtain ⟨x41, e42, hf⟩ := jbind hf
        refine J_getr E (jd dk_X7_toSpin_0 33 rfl) fl_RX7_106 e42 ?_
        refine J_iconst (v := 0) E (jd dk_X7_toSpin_0 34 rfl) rfl ?_
        obtain ⟨u45, e46, hf⟩ := jbind hf
        obtain ⟨r43, e44, hf⟩ := jbind hf
        refine J_callV E (jd dk_X7_toSpin_0 35 rfl) ml_RX7_385 cal_X7_pack e46 rfl (lk_X7_pack (jE_g E) (jE_tr E) N e44) rfl (Nat.le_of_ble_eq_true rfl) (jR_le hX (by decide) (by decide)) (jF0 hX) rfl ?_
        rintro _ _ ⟨rfl, rfl⟩
        refine J_iconst (v := 0) E (jd dk_X7_toSpin_0 36 rfl) rfl ?_
        refine J_istore (lv' := [(6, .int 0), (5, .int ((-1))), (4, .int ((-1))), (0, .ref a0), (1, .int a1), (2, .int a2), (3, .int a3)]) E (jd dk_X7_toSpin_0 37 rfl) (by decide) rfl ?_
        refine J_sub [3, 4, 5, 6, 2, 1, 0] rfl ?_
        exact lk_X7_toSpin_b65 E hX hr N hf
      · replace hf := jif_t c40 hf
        refine J_aload_n E (jd dk_X7_toSpin_0 23 rfl) rfl 0 rfl ?_
        refine J_iconst (v := 2) E (jd dk_X7_toSpin_0 24 rfl) rfl ?_
        obtain ⟨u49, e50, hf⟩ := jbind hf
        obtain ⟨r47, e48, hf⟩ := jbind hf
        refine J_callV E (jd dk_X7_toSpin_0 25 rfl) ml_RX7_293 cal_X7_fail e50 rfl (lk_X7_fail (jE_g E) (jE_tr E) N e48) rfl (Nat.le_of_ble_eq_true rfl) (jR_le hX (by decide) (by decide)) (jF0 hX) rfl ?_
        rintro _ _ ⟨rfl, rfl⟩
        cases hf
        exact J_iret E hr rfl (jd dk_X7_toSpin_0 26 rfl) (Nat.le_refl _) (Nat.le_refl _) ⟨rfl, rfl⟩
    · replace hf := jif_t c37 hf
      refine J_sub [0] rfl ?_
      exact lk_X7_toSpin_b23 E hX hr N hf
def f_X7_toCall_b105 (N : Nat) (v0 : Nat) (v1 : Int32) (v2 : Int32) (v3 : Int32) (v4 : Int32) (h : AH) : Option ((Int32 × Int32 × Int32 × AH) ⊕ ((Int32 × AH))) :=
  some (.inl ((v2, v3, v4 + 1, h)))
def f_X7_toCall_b99 (N : Nat) (v0 : Nat) (v1 : Int32) (v4 : Int32) (v5 : Int32) (h : AH) : Option ((Int32 × Int32 × Int32 × AH) ⊕ ((Int32 × AH))) :=
  f_X7_toCall_b105 N v0 v1 v5 v4 v4 h
def f_X7_toCall_l40 (N : Nat) (v0 : Nat) (v1 : Int32) (v2 : Int32) (v3 : Int32) (v4 : Int32) (h : AH) : Option ((Int32 × Int32 × Int32 × AH) ⊕ ((Int32 × AH))) :=
  (jgr 7 h v0 5).bind fun x1 =>
  (jal 0 h x1 2).bind fun x3 =>
  if x3 ≤ v4 then some (.inr ((v3, h)))
  else (jgr 7 h v0 28).bind fun x6 =>
  (jal 0 h x6 v4).bind fun x8 =>
  if 0 ≤ x8 then (jck 7 h v0).bind fun _ =>
  (f_X7_goBy N h v0 v4 1).bind fun r11 =>
  (jck 7 r11 v0).bind fun _ =>
  (f_X7_firstIn N r11 v0 v1 0).bind fun r15 =>
  if r15.1 = ((-1)) then f_X7_toCall_b105 N v0 v1 v2 v3 v4 r15.2
  else if v2 = ((-1)) then f_X7_toCall_b99 N v0 v1 v4 r15.1 r15.2
  else if r15.1 < v2 then f_X7_toCall_b99 N v0 v1 v4 r15.1 r15.2
  else f_X7_toCall_b105 N v0 v1 v2 v3 v4 r15.2
  else f_X7_toCall_b105 N v0 v1 v2 v3 v4 h
def f_X7_toCall_b40 (N : Nat) (v0 : Nat) (v1 : Int32) (v2 : Int32) (v3 : Int32) (v4 : Int32) (h : AH) : Option (Int32 × AH) :=
  (itr (fun s => f_X7_toCall_l40 N v0 v1 s.1 s.2.1 s.2.2.1 s.2.2.2) N (v2, v3, v4, h)).bind (fun e => some (e.1, e.2))
def f_X7_toCall (N : Nat) (h : AH) (a0 : Nat) (a1 : Int32) : Option (Int32 × AH) :=
  (jwi 7 h a0 4 0).bind fun h22 =>
  (jck 7 h22 a0).bind fun _ =>
  (f_X7_isJudge N h22 a0 a1).bind fun r24 =>
  if r24.1 = 0 then (jck 7 r24.2 a0).bind fun _ =>
  (f_X7_fail N r24.2 a0 1).bind fun r39 =>
  some (r39.1, r39.2)
  else (jgr 7 r24.2 a0 41).bind fun x29 =>
  (jck 7 r24.2 a0).bind fun _ =>
  (f_X7_pack N r24.2 a0 x29 0).bind fun r31 =>
  (jck 7 r31 a0).bind fun _ =>
  (f_X7_firstIn N r31 a0 a1 0).bind fun r35 =>
  f_X7_toCall_b40 N a0 a1 r35.1 ((-1)) 0 r35.2
set_option maxRecDepth 100000 in
set_option maxHeartbeats 4000000 in
theorem lk_X7_toCall_b105 {G : JG} {X : JX} (E : jE G X (RX7, cX7_toCall, 6)) (hX : X.2.2.2.1 = jRm 7 0 0) (hr : X.2.2.2.2.2.2.2.2.1.sig.returnType = (some .int)) (N : Nat) {Q : State → Prop} {v0 : Nat} {v1 : Int32} {v2 : Int32} {v3 : Int32} {v4 : Int32} {h : AH}  {q : ((Int32 × Int32 × Int32 × AH) ⊕ ((Int32 × AH)))} (hf : f_X7_toCall_b105 N v0 v1 v2 v3 v4 h = some q) (kb : ∀ s' : Int32 × Int32 × Int32 × AH, q = .inl s' → JW G X (RX7, cX7_toCall, 6) s'.2.2.2 [(0, .ref v0), (1, .int v1), (2, .int s'.1), (3, .int s'.2.1), (4, .int s'.2.2.1)] [] 40 0 0 Q) (ke0 : ∀ e : Int32 × AH, q = .inr e → JW G X (RX7, cX7_toCall, 6) e.2 [(3, .int e.1)] [] 111 0 0 Q) : JW G X (RX7, cX7_toCall, 6) h [(0, .ref v0), (1, .int v1), (2, .int v2), (3, .int v3), (4, .int v4)] [] 105 0 0 Q := by
  unfold f_X7_toCall_b105 at hf
  refine J_iinc (v := v4 + 1) (lv' := [(4, .int (v4 + 1)), (0, .ref v0), (1, .int v1), (2, .int v2), (3, .int v3)]) E (jd dk_X7_toCall_1 10 rfl) 4 rfl rfl (by decide) rfl ?_
  refine J_goto (tgt := 40) E (jd dk_X7_toCall_1 11 rfl) (by decide) ?_
  refine J_sub [1, 2, 3, 4, 0] rfl ?_
  exact kb _ (Option.some.inj hf).symm
set_option maxRecDepth 100000 in
set_option maxHeartbeats 4000000 in
theorem lk_X7_toCall_b99 {G : JG} {X : JX} (E : jE G X (RX7, cX7_toCall, 6)) (hX : X.2.2.2.1 = jRm 7 0 0) (hr : X.2.2.2.2.2.2.2.2.1.sig.returnType = (some .int)) (N : Nat) {Q : State → Prop} {v0 : Nat} {v1 : Int32} {v4 : Int32} {v5 : Int32} {h : AH}  {q : ((Int32 × Int32 × Int32 × AH) ⊕ ((Int32 × AH)))} (hf : f_X7_toCall_b99 N v0 v1 v4 v5 h = some q) (kb : ∀ s' : Int32 × Int32 × Int32 × AH, q = .inl s' → JW G X (RX7, cX7_toCall, 6) s'.2.2.2 [(0, .ref v0), (1, .int v1), (2, .int s'.1), (3, .int s'.2.1), (4, .int s'.2.2.1)] [] 40 0 0 Q) (ke0 : ∀ e : Int32 × AH, q = .inr e → JW G X (RX7, cX7_toCall, 6) e.2 [(3, .int e.1)] [] 111 0 0 Q) : JW G X (RX7, cX7_toCall, 6) h [(0, .ref v0), (1, .int v1), (4, .int v4), (5, .int v5)] [] 99 0 0 Q := by
  unfold f_X7_toCall_b99 at hf
  refine J_iload E (jd dk_X7_toCall_1 6 rfl) 2 rfl ?_
  refine J_istore_n (lv' := [(3, .int v4), (0, .ref v0), (1, .int v1), (4, .int v4), (5, .int v5)]) E (jd dk_X7_toCall_1 7 rfl) rfl (by decide) rfl ?_
  refine J_iload E (jd dk_X7_toCall_1 8 rfl) 4 rfl ?_
  refine J_istore_n (lv' := [(2, .int v5), (3, .int v4), (0, .ref v0), (1, .int v1), (4, .int v4), (5, .int v5)]) E (jd dk_X7_toCall_1 9 rfl) rfl (by decide) rfl ?_
  refine J_sub [2, 3, 0, 1, 4] rfl ?_
  exact lk_X7_toCall_b105 E hX hr N hf kb ke0
set_option maxRecDepth 100000 in
set_option maxHeartbeats 4000000 in
theorem lk_X7_toCall_l40 {G : JG} {X : JX} (E : jE G X (RX7, cX7_toCall, 6)) (hX : X.2.2.2.1 = jRm 7 0 0) (hr : X.2.2.2.2.2.2.2.2.1.sig.returnType = (some .int)) (N : Nat) {Q : State → Prop} {v0 : Nat} {v1 : Int32} {v2 : Int32} {v3 : Int32} {v4 : Int32}  {h : AH} {q : ((Int32 × Int32 × Int32 × AH) ⊕ ((Int32 × AH)))} (hf : f_X7_toCall_l40 N v0 v1 v2 v3 v4 h = some q) (kb : ∀ s' : Int32 × Int32 × Int32 × AH, q = .inl s' → JW G X (RX7, cX7_toCall, 6) s'.2.2.2 [(0, .ref v0), (1, .int v1), (2, .int s'.1), (3, .int s'.2.1), (4, .int s'.2.2.1)] [] 40 0 0 Q) (ke0 : ∀ e : Int32 × AH, q = .inr e → JW G X (RX7, cX7_toCall, 6) e.2 [(3, .int e.1)] [] 111 0 0 Q) : JW G X (RX7, cX7_toCall, 6) h [(0, .ref v0), (1, .int v1), (2, .int v2), (3, .int v3), (4, .int v4)] [] 40 0 0 Q := by
  unfold f_X7_toCall_l40 at hf
  refine J_iload E (jd dk_X7_toCall_0 25 rfl) 4 rfl ?_
  refine J_aload_n E (jd dk_X7_toCall_0 26 rfl) rfl 0 rfl ?_
  obtain ⟨x1, e2, hf⟩ := jbind hf
  refine J_getr E (jd dk_X7_toCall_0 27 rfl) fl_RX7_42 e2 ?_
  refine J_iconst (v := 2) E (jd dk_X7_toCall_0 28 rfl) rfl ?_
  obtain ⟨x3, e4, hf⟩ := jbind hf
  refine J_iald E (jd dk_X7_toCall_0 29 rfl) e4 ?_
  refine J_icmp_ge (tgt := 111) E (jd dk_X7_toCall_0 30 rfl) (by decide) (fun c5 => ?_) (fun c5 => ?_)
  · replace hf := jif_t c5 hf
    refine J_sub [3] rfl ?_
    exact ke0 _ (Option.some.inj hf).symm
  · replace hf := jif_f c5 hf
    refine J_aload_n E (jd dk_X7_toCall_0 31 rfl) rfl 0 rfl ?_
    obtain ⟨x6, e7, hf⟩ := jbind hf
    refine J_getr E (jd dk_X7_toCall_0 32 rfl) fl_RX7_81 e7 ?_
    refine J_iload E (jd dk_X7_toCall_0 33 rfl) 4 rfl ?_
    obtain ⟨x8, e9, hf⟩ := jbind hf
    refine J_iald E (jd dk_X7_toCall_0 34 rfl) e9 ?_
    refine J_if_ge (tgt := 64) E (jd dk_X7_toCall_0 35 rfl) (by decide) (fun c10 => ?_) (fun c10 => ?_)
    · replace hf := jif_t c10 hf
      refine J_aload_n E (jd dk_X7_toCall_0 37 rfl) rfl 0 rfl ?_
      refine J_iload E (jd dk_X7_toCall_0 38 rfl) 4 rfl ?_
      refine J_iconst (v := 1) E (jd dk_X7_toCall_0 39 rfl) rfl ?_
      obtain ⟨u13, e14, hf⟩ := jbind hf
      obtain ⟨r11, e12, hf⟩ := jbind hf
      refine J_callV E (jd dk_X7_toCall_0 40 rfl) ml_RX7_347 cal_X7_goBy e14 rfl (lk_X7_goBy (jE_g E) (jE_tr E) N e12) rfl (Nat.le_of_ble_eq_true rfl) (jR_le hX (by decide) (by decide)) (jF0 hX) rfl ?_
      rintro _ _ ⟨rfl, rfl⟩
      refine J_aload_n E (jd dk_X7_toCall_0 41 rfl) rfl 0 rfl ?_
      refine J_iload_n E (jd dk_X7_toCall_0 42 rfl) rfl 1 rfl ?_
      refine J_iconst (v := 0) E (jd dk_X7_toCall_0 43 rfl) rfl ?_
      obtain ⟨u17, e18, hf⟩ := jbind hf
      obtain ⟨r15, e16, hf⟩ := jbind hf
      refine J_callV E (jd dk_X7_toCall_0 44 rfl) ml_RX7_412 cal_X7_firstIn e18 rfl (lk_X7_firstIn (jE_g E) (jE_tr E) N e16) rfl (Nat.le_of_ble_eq_true rfl) (jR_le hX (by decide) (by decide)) (jF0 hX) rfl ?_
      rintro _ _ ⟨rfl, rfl⟩
      refine J_istore (lv' := [(5, .int r15.1), (0, .ref v0), (1, .int v1), (2, .int v2), (3, .int v3), (4, .int v4)]) E (jd dk_X7_toCall_0 45 rfl) (by decide) rfl ?_
      refine J_iload E (jd dk_X7_toCall_0 46 rfl) 0 rfl ?_
      refine J_iconst (v := (-1)) E (jd dk_X7_toCall_0 47 rfl) rfl ?_
      refine J_icmp_eq (tgt := 105) E (jd dk_X7_toCall_0 48 rfl) (by decide) (fun c19 => ?_) (fun c19 => ?_)
      · replace hf := jif_t c19 hf
        refine J_sub [1, 2, 3, 4, 5] rfl ?_
        exact lk_X7_toCall_b105 E hX hr N hf kb ke0
      · replace hf := jif_f c19 hf
        refine J_iload_n E (jd dk_X7_toCall_0 49 rfl) rfl 3 rfl ?_
        refine J_iconst (v := (-1)) E (jd dk_X7_toCall_1 0 rfl) rfl ?_
        refine J_icmp_eq (tgt := 99) E (jd dk_X7_toCall_1 1 rfl) (by decide) (fun c20 => ?_) (fun c20 => ?_)
        · replace hf := jif_t c20 hf
          refine J_sub [1, 2, 5, 0] rfl ?_
          exact lk_X7_toCall_b99 E hX hr N hf kb ke0
        · replace hf := jif_f c20 hf
          refine J_iload E (jd dk_X7_toCall_1 2 rfl) 0 rfl ?_
          refine J_iload_n E (jd dk_X7_toCall_1 3 rfl) rfl 3 rfl ?_
          refine J_icmp_lt (tgt := 99) E (jd dk_X7_toCall_1 4 rfl) (by decide) (fun c21 => ?_) (fun c21 => ?_)
          · replace hf := jif_t c21 hf
            refine J_sub [1, 2, 5, 0] rfl ?_
            exact lk_X7_toCall_b99 E hX hr N hf kb ke0
          · replace hf := jif_f c21 hf
            refine J_goto (tgt := 105) E (jd dk_X7_toCall_1 5 rfl) (by decide) ?_
            refine J_sub [1, 2, 3, 4, 5] rfl ?_
            exact lk_X7_toCall_b105 E hX hr N hf kb ke0
    · replace hf := jif_f c10 hf
      refine J_goto (tgt := 105) E (jd dk_X7_toCall_0 36 rfl) (by decide) ?_
      exact lk_X7_toCall_b105 E hX hr N hf kb ke0
set_option maxRecDepth 100000 in
set_option maxHeartbeats 4000000 in
theorem lk_X7_toCall_b40 {G : JG} {X : JX} (E : jE G X (RX7, cX7_toCall, 6)) (hX : X.2.2.2.1 = jRm 7 0 0) (hr : X.2.2.2.2.2.2.2.2.1.sig.returnType = (some .int)) (N : Nat) {v0 : Nat} {v1 : Int32} {v2 : Int32} {v3 : Int32} {v4 : Int32} {h : AH}  {r : (Int32 × AH)} (hf : f_X7_toCall_b40 N v0 v1 v2 v3 v4 h = some r) : JW G X (RX7, cX7_toCall, 6) h [(0, .ref v0), (1, .int v1), (2, .int v2), (3, .int v3), (4, .int v4)] [] 40 0 0 (jEnd G X (jpi r) 0 0) := by
  unfold f_X7_toCall_b40 at hf
  obtain ⟨q1, h1, hf⟩ := jbind hf
  refine jloop (P := fun s => JW G X (RX7, cX7_toCall, 6) s.2.2.2 [(0, .ref v0), (1, .int v1), (2, .int s.1), (3, .int s.2.1), (4, .int s.2.2.1)] [] 40 0 0 (jEnd G X (jpi r) 0 0)) (Ex := fun (e : Int32 × AH) => JW G X (RX7, cX7_toCall, 6) e.2 [(3, .int e.1)] [] 111 0 0 (jEnd G X (jpi r) 0 0)) (fun s q hs hb hx => lk_X7_toCall_l40 E hX hr N hs (fun s' hs => hb s' hs) (fun e he => hx e he)) N _ q1 h1 ?_
  generalize q1 = e at hf ⊢
  refine J_iload_n E (jd dk_X7_toCall_1 12 rfl) rfl 0 rfl ?_
  cases hf
  exact J_iret E hr rfl (jd dk_X7_toCall_1 13 rfl) (Nat.le_refl _) (Nat.le_refl _) ⟨rfl, rfl⟩
set_option maxRecDepth 100000 in
set_option maxHeartbeats 4000000 in
theorem lk_X7_toCall {G : JG} {l : Launch} (hG : jG G) (htr : l.stackTraces = false) (N : Nat) {h : AH} {a0 : Nat} {a1 : Int32} {r : (Int32 × AH)} (hf : f_X7_toCall N h a0 a1 = some r) : jMet G l yX7_toCall cX7_toCall 6 (some .int) 7 0 0 [.ref a0, .int a1] h (jpi r) := by
  unfold f_X7_toCall at hf
  refine jMet_of hG htr (by decide) (Nat.le_of_ble_eq_true rfl) ?_
  intro X E hl9 hr hX _ _
  show JW G X (RX7, cX7_toCall, 6) h [(0, .ref a0), (1, .int a1)] [] 0 0 0 (jEnd G X (jpi r) 0 0)
  refine J_aload_n E (jd dk_X7_toCall_0 0 rfl) rfl 0 rfl ?_
  refine J_iconst (v := 0) E (jd dk_X7_toCall_0 1 rfl) rfl ?_
  obtain ⟨h22, e23, hf⟩ := jbind hf
  refine J_put E (jd dk_X7_toCall_0 2 rfl) fl_RX7_151 e23 (fun _ => rfl) (fun _ => rfl) ?_
  refine J_aload_n E (jd dk_X7_toCall_0 3 rfl) rfl 0 rfl ?_
  refine J_iload_n E (jd dk_X7_toCall_0 4 rfl) rfl 1 rfl ?_
  obtain ⟨u26, e27, hf⟩ := jbind hf
  obtain ⟨r24, e25, hf⟩ := jbind hf
  refine J_callV E (jd dk_X7_toCall_0 5 rfl) ml_RX7_382 cal_X7_isJudge e27 rfl (lk_X7_isJudge (jE_g E) (jE_tr E) N e25) rfl (Nat.le_of_ble_eq_true rfl) (jR_le hX (by decide) (by decide)) (jF0 hX) rfl ?_
  rintro _ _ ⟨rfl, rfl⟩
  refine J_if_ne (tgt := 19) E (jd dk_X7_toCall_0 6 rfl) (by decide) (fun c28 => ?_) (fun c28 => ?_)
  · replace hf := jif_f c28 hf
    refine J_aload_n E (jd dk_X7_toCall_0 11 rfl) rfl 0 rfl ?_
    refine J_aload_n E (jd dk_X7_toCall_0 12 rfl) rfl 0 rfl ?_
    obtain ⟨x29, e30, hf⟩ := jbind hf
    refine J_getr E (jd dk_X7_toCall_0 13 rfl) fl_RX7_106 e30 ?_
    refine J_iconst (v := 0) E (jd dk_X7_toCall_0 14 rfl) rfl ?_
    obtain ⟨u33, e34, hf⟩ := jbind hf
    obtain ⟨r31, e32, hf⟩ := jbind hf
    refine J_callV E (jd dk_X7_toCall_0 15 rfl) ml_RX7_385 cal_X7_pack e34 rfl (lk_X7_pack (jE_g E) (jE_tr E) N e32) rfl (Nat.le_of_ble_eq_true rfl) (jR_le hX (by decide) (by decide)) (jF0 hX) rfl ?_
    rintro _ _ ⟨rfl, rfl⟩
    refine J_aload_n E (jd dk_X7_toCall_0 16 rfl) rfl 0 rfl ?_
    refine J_iload_n E (jd dk_X7_toCall_0 17 rfl) rfl 1 rfl ?_
    refine J_iconst (v := 0) E (jd dk_X7_toCall_0 18 rfl) rfl ?_
    obtain ⟨u37, e38, hf⟩ := jbind hf
    obtain ⟨r35, e36, hf⟩ := jbind hf
    refine J_callV E (jd dk_X7_toCall_0 19 rfl) ml_RX7_412 cal_X7_firstIn e38 rfl (lk_X7_firstIn (jE_g E) (jE_tr E) N e36) rfl (Nat.le_of_ble_eq_true rfl) (jR_le hX (by decide) (by decide)) (jF0 hX) rfl ?_
    rintro _ _ ⟨rfl, rfl⟩
    refine J_istore_n (lv' := [(2, .int r35.1), (0, .ref a0), (1, .int a1)]) E (jd dk_X7_toCall_0 20 rfl) rfl (by decide) rfl ?_
    refine J_iconst (v := (-1)) E (jd dk_X7_toCall_0 21 rfl) rfl ?_
    refine J_istore_n (lv' := [(3, .int ((-1))), (2, .int r35.1), (0, .ref a0), (1, .int a1)]) E (jd dk_X7_toCall_0 22 rfl) rfl (by decide) rfl ?_
    refine J_iconst (v := 0) E (jd dk_X7_toCall_0 23 rfl) rfl ?_
    refine J_istore (lv' := [(4, .int 0), (3, .int ((-1))), (2, .int r35.1), (0, .ref a0), (1, .int a1)]) E (jd dk_X7_toCall_0 24 rfl) (by decide) rfl ?_
    refine J_sub [3, 4, 2, 1, 0] rfl ?_
    exact lk_X7_toCall_b40 E hX hr N hf
  · replace hf := jif_t c28 hf
    refine J_aload_n E (jd dk_X7_toCall_0 7 rfl) rfl 0 rfl ?_
    refine J_iconst (v := 1) E (jd dk_X7_toCall_0 8 rfl) rfl ?_
    obtain ⟨u41, e42, hf⟩ := jbind hf
    obtain ⟨r39, e40, hf⟩ := jbind hf
    refine J_callV E (jd dk_X7_toCall_0 9 rfl) ml_RX7_293 cal_X7_fail e42 rfl (lk_X7_fail (jE_g E) (jE_tr E) N e40) rfl (Nat.le_of_ble_eq_true rfl) (jR_le hX (by decide) (by decide)) (jF0 hX) rfl ?_
    rintro _ _ ⟨rfl, rfl⟩
    cases hf
    exact J_iret E hr rfl (jd dk_X7_toCall_0 10 rfl) (Nat.le_refl _) (Nat.le_refl _) ⟨rfl, rfl⟩
def f_X7_goesOn (N : Nat) (h : AH) (a0 : Nat) (a1 : Int32) (a2 : Int32) : Option (Int32 × AH) :=
  (jgr 7 h a0 42).bind fun x1 =>
  (jal 0 h x1 (((a1 + 1) <<< ((8 : Int32) &&& 31)) + a2)).bind fun x3 =>
  some (x3, h)
set_option maxRecDepth 100000 in
set_option maxHeartbeats 4000000 in
theorem lk_X7_goesOn {G : JG} {l : Launch} (hG : jG G) (htr : l.stackTraces = false) (N : Nat) {h : AH} {a0 : Nat} {a1 : Int32} {a2 : Int32} {r : (Int32 × AH)} (hf : f_X7_goesOn N h a0 a1 a2 = some r) : jMet G l yX7_goesOn cX7_goesOn 3 (some .int) 0 0 0 [.ref a0, .int a1, .int a2] h (jpi r) := by
  unfold f_X7_goesOn at hf
  refine jMet_of hG htr (by decide) (Nat.le_of_ble_eq_true rfl) ?_
  intro X E hl9 hr hX _ _
  show JW G X (RX7, cX7_goesOn, 3) h [(0, .ref a0), (1, .int a1), (2, .int a2)] [] 0 0 0 (jEnd G X (jpi r) 0 0)
  refine J_aload_n E (jd dk_X7_goesOn_0 0 rfl) rfl 0 rfl ?_
  obtain ⟨x1, e2, hf⟩ := jbind hf
  refine J_getr E (jd dk_X7_goesOn_0 1 rfl) fl_RX7_109 e2 ?_
  refine J_iload_n E (jd dk_X7_goesOn_0 2 rfl) rfl 1 rfl ?_
  refine J_iconst (v := 1) E (jd dk_X7_goesOn_0 3 rfl) rfl ?_
  refine J_iadd E (jd dk_X7_goesOn_0 4 rfl) ?_
  refine J_bipush (v := 8) E (jd dk_X7_goesOn_0 5 rfl) (by decide) ?_
  refine J_ishl E (jd dk_X7_goesOn_0 6 rfl) ?_
  refine J_iload_n E (jd dk_X7_goesOn_0 7 rfl) rfl 2 rfl ?_
  refine J_iadd E (jd dk_X7_goesOn_0 8 rfl) ?_
  obtain ⟨x3, e4, hf⟩ := jbind hf
  refine J_iald E (jd dk_X7_goesOn_0 9 rfl) e4 ?_
  cases hf
  exact J_iret E hr rfl (jd dk_X7_goesOn_0 10 rfl) (Nat.le_refl _) (Nat.le_refl _) ⟨rfl, rfl⟩
def f_X7_may_b25 (N : Nat)  (h : AH) : Option (Int32 × AH) :=
  some (0, h)
def f_X7_may (N : Nat) (h : AH) (a0 : Nat) (a1 : Int32) (a2 : Int32) (a3 : Int32) : Option (Int32 × AH) :=
  (f_X7_isOf N h a3 a2).bind fun r1 =>
  if r1.1 = 0 then (jgr 7 r1.2 a0 30).bind fun x4 =>
  (jal 0 r1.2 x4 a2).bind fun x6 =>
  (f_X7_isOf N r1.2 x6 a1).bind fun r8 =>
  if r8.1 = 0 then f_X7_may_b25 N  r8.2
  else some (1, r8.2)
  else f_X7_may_b25 N  r1.2
set_option maxRecDepth 100000 in
set_option maxHeartbeats 4000000 in
theorem lk_X7_may_b25 {G : JG} {X : JX} (E : jE G X (RX7, cX7_may, 4)) (hX : X.2.2.2.1 = jRm 1 0 0) (hr : X.2.2.2.2.2.2.2.2.1.sig.returnType = (some .boolean)) (N : Nat)  {h : AH}  {r : (Int32 × AH)} (hf : f_X7_may_b25 N  h = some r) : JW G X (RX7, cX7_may, 4) h [] [] 25 0 0 (jEnd G X (jpi r) 0 0) := by
  unfold f_X7_may_b25 at hf
  refine J_iconst (v := 0) E (jd dk_X7_may_0 13 rfl) rfl ?_
  cases hf
  exact J_iret E hr rfl (jd dk_X7_may_0 14 rfl) (Nat.le_refl _) (Nat.le_refl _) ⟨rfl, rfl⟩
set_option maxRecDepth 100000 in
set_option maxHeartbeats 4000000 in
theorem lk_X7_may {G : JG} {l : Launch} (hG : jG G) (htr : l.stackTraces = false) (N : Nat) {h : AH} {a0 : Nat} {a1 : Int32} {a2 : Int32} {a3 : Int32} {r : (Int32 × AH)} (hf : f_X7_may N h a0 a1 a2 a3 = some r) : jMet G l yX7_may cX7_may 4 (some .boolean) 1 0 0 [.ref a0, .int a1, .int a2, .int a3] h (jpi r) := by
  unfold f_X7_may at hf
  refine jMet_of hG htr (by decide) (Nat.le_of_ble_eq_true rfl) ?_
  intro X E hl9 hr hX _ _
  show JW G X (RX7, cX7_may, 4) h [(0, .ref a0), (1, .int a1), (2, .int a2), (3, .int a3)] [] 0 0 0 (jEnd G X (jpi r) 0 0)
  refine J_iload_n E (jd dk_X7_may_0 0 rfl) rfl 3 rfl ?_
  refine J_iload_n E (jd dk_X7_may_0 1 rfl) rfl 2 rfl ?_
  obtain ⟨r1, e2, hf⟩ := jbind hf
  refine J_callS E (jd dk_X7_may_0 2 rfl) ml_RX7_362 cal_X7_isOf (lk_X7_isOf (jE_g E) (jE_tr E) N e2) rfl (Nat.le_of_ble_eq_true rfl) (jR_le hX (by decide) (by decide)) (jF0 hX) rfl ?_
  rintro _ _ ⟨rfl, rfl⟩
  refine J_if_ne (tgt := 25) E (jd dk_X7_may_0 3 rfl) (by decide) (fun c3 => ?_) (fun c3 => ?_)
  · replace hf := jif_f c3 hf
    refine J_sub [] rfl ?_
    exact lk_X7_may_b25 E hX hr N hf
  · replace hf := jif_t c3 hf
    refine J_aload_n E (jd dk_X7_may_0 4 rfl) rfl 0 rfl ?_
    obtain ⟨x4, e5, hf⟩ := jbind hf
    refine J_getr E (jd dk_X7_may_0 5 rfl) fl_RX7_87 e5 ?_
    refine J_iload_n E (jd dk_X7_may_0 6 rfl) rfl 2 rfl ?_
    obtain ⟨x6, e7, hf⟩ := jbind hf
    refine J_iald E (jd dk_X7_may_0 7 rfl) e7 ?_
    refine J_iload_n E (jd dk_X7_may_0 8 rfl) rfl 1 rfl ?_
    obtain ⟨r8, e9, hf⟩ := jbind hf
    refine J_callS E (jd dk_X7_may_0 9 rfl) ml_RX7_362 cal_X7_isOf (lk_X7_isOf (jE_g E) (jE_tr E) N e9) rfl (Nat.le_of_ble_eq_true rfl) (jR_le hX (by decide) (by decide)) (jF0 hX) rfl ?_
    rintro _ _ ⟨rfl, rfl⟩
    refine J_if_eq (tgt := 25) E (jd dk_X7_may_0 10 rfl) (by decide) (fun c10 => ?_) (fun c10 => ?_)
    · replace hf := jif_t c10 hf
      refine J_sub [] rfl ?_
      exact lk_X7_may_b25 E hX hr N hf
    · replace hf := jif_f c10 hf
      refine J_iconst (v := 1) E (jd dk_X7_may_0 11 rfl) rfl ?_
      refine J_goto (tgt := 26) E (jd dk_X7_may_0 12 rfl) (by decide) ?_
      cases hf
      exact J_iret E hr rfl (jd dk_X7_may_0 14 rfl) (Nat.le_refl _) (Nat.le_refl _) ⟨rfl, rfl⟩
def f_X7_tellPanel_b124 (N : Nat) (v0 : Nat) (v2 : Int32) (v3 : Int32) (v4 : Int32) (v5 : Int32) (h : AH) : Option ((Int32 × Int32 × AH) ⊕ ((Int32 × AH))) :=
  some (.inl ((v4, v5 + 1, h)))
def f_X7_tellPanel_l76 (N : Nat) (v0 : Nat) (v2 : Int32) (v3 : Int32) (v4 : Int32) (v5 : Int32) (h : AH) : Option ((Int32 × Int32 × AH) ⊕ ((Int32 × AH))) :=
  (jgr 7 h v0 5).bind fun x1 =>
  (jal 0 h x1 2).bind fun x3 =>
  if x3 ≤ v5 then some (.inr ((v4, h)))
  else (jck 7 h v0).bind fun _ =>
  (f_X7_may N h v0 v2 v5 v3).bind fun r6 =>
  if r6.1 = 0 then f_X7_tellPanel_b124 N v0 v2 v3 v4 v5 r6.2
  else (jgr 7 r6.2 v0 15).bind fun x11 =>
  (jal 0 r6.2 x11 v5).bind fun x13 =>
  (jck 7 r6.2 v0).bind fun _ =>
  (f_X7_goesOn N r6.2 v0 v2 (v3 ||| ((1 : Int32) <<< (v5 &&& 31)))).bind fun r15 =>
  f_X7_tellPanel_b124 N v0 v2 v3 (jmn v4 (x13 + r15.1)) v5 r15.2
def f_X7_tellPanel_b76 (N : Nat) (v0 : Nat) (v2 : Int32) (v3 : Int32) (v4 : Int32) (v5 : Int32) (h : AH) : Option ((Int32 × AH) ⊕ ((AH))) :=
  (itr (fun s => f_X7_tellPanel_l76 N v0 v2 v3 s.1 s.2.1 s.2.2) N (v4, v5, h)).bind (fun e => (jgr 7 e.2 v0 42).bind fun x19 =>
  (jas 0 e.2 x19 ((v2 <<< ((8 : Int32) &&& 31)) + v3) e.1).bind fun h21 =>
  some (.inl ((v3 + 1, h21))))
def f_X7_tellPanel_l49 (N : Nat) (v0 : Nat) (v2 : Int32) (v3 : Int32) (h : AH) : Option ((Int32 × AH) ⊕ ((AH))) :=
  (jgr 7 h v0 5).bind fun x23 =>
  (jal 0 h x23 2).bind fun x25 =>
  if ((1 : Int32) <<< (x25 &&& 31)) ≤ v3 then some (.inr h)
  else (jck 7 h v0).bind fun _ =>
  (f_X7_goesOn N h v0 v2 v3).bind fun r28 =>
  f_X7_tellPanel_b76 N v0 v2 v3 ((1000 : Int32) + r28.1) 0 r28.2
def f_X7_tellPanel_b49 (N : Nat) (v0 : Nat) (v2 : Int32) (v3 : Int32) (h : AH) : Option ((Int32 × AH) ⊕ ((AH))) :=
  (itr (fun s => f_X7_tellPanel_l49 N v0 v2 s.1 s.2) N (v3, h)).bind (fun e => some (.inl ((v2 + (-1), e))))
def f_X7_tellPanel_l43 (N : Nat) (v0 : Nat) (v2 : Int32) (h : AH) : Option ((Int32 × AH) ⊕ ((AH))) :=
  if v2 < 0 then some (.inr h)
  else f_X7_tellPanel_b49 N v0 v2 0 h
def f_X7_tellPanel_b43 (N : Nat) (v0 : Nat) (v2 : Int32) (h : AH) : Option AH :=
  (itr (fun s => f_X7_tellPanel_l43 N v0 s.1 s.2) N (v2, h)).bind (fun e => some e)
def f_X7_tellPanel_l9 (N : Nat) (v0 : Nat) (v1 : Int32) (v2 : Int32) (h : AH) : Option ((Int32 × AH) ⊕ ((AH))) :=
  (jgr 7 h v0 5).bind fun x33 =>
  (jal 0 h x33 2).bind fun x35 =>
  if ((1 : Int32) <<< (x35 &&& 31)) ≤ v2 then some (.inr h)
  else (jgr 7 h v0 42).bind fun x38 =>
  (jas 0 h x38 ((v1 <<< ((8 : Int32) &&& 31)) + v2) 0).bind fun h40 =>
  some (.inl ((v2 + 1, h40)))
def f_X7_tellPanel_b9 (N : Nat) (v0 : Nat) (v1 : Int32) (v2 : Int32) (h : AH) : Option AH :=
  (itr (fun s => f_X7_tellPanel_l9 N v0 v1 s.1 s.2) N (v2, h)).bind (fun e => f_X7_tellPanel_b43 N v0 (v1 - 1) e)
def f_X7_tellPanel (N : Nat) (h : AH) (a0 : Nat) : Option AH :=
  (jgr 7 h a0 5).bind fun x42 =>
  (jal 0 h x42 0).bind fun x44 =>
  f_X7_tellPanel_b9 N a0 x44 0 h
set_option maxRecDepth 100000 in
set_option maxHeartbeats 4000000 in
theorem lk_X7_tellPanel_b124 {G : JG} {X : JX} (E : jE G X (RX7, cX7_tellPanel, 6)) (hX : X.2.2.2.1 = jRm 2 0 0) (hr : X.2.2.2.2.2.2.2.2.1.sig.returnType = none) (N : Nat) {Q : State → Prop} {v0 : Nat} {v2 : Int32} {v3 : Int32} {v4 : Int32} {v5 : Int32} {h : AH}  {q : ((Int32 × Int32 × AH) ⊕ ((Int32 × AH)))} (hf : f_X7_tellPanel_b124 N v0 v2 v3 v4 v5 h = some q) (kb : ∀ s' : Int32 × Int32 × AH, q = .inl s' → JW G X (RX7, cX7_tellPanel, 6) s'.2.2 [(0, .ref v0), (2, .int v2), (3, .int v3), (4, .int s'.1), (5, .int s'.2.1)] [] 76 0 0 Q) (ke0 : ∀ e : Int32 × AH, q = .inr e → JW G X (RX7, cX7_tellPanel, 6) e.2 [(0, .ref v0), (2, .int v2), (3, .int v3), (4, .int e.1)] [] 130 0 0 Q) : JW G X (RX7, cX7_tellPanel, 6) h [(0, .ref v0), (2, .int v2), (3, .int v3), (4, .int v4), (5, .int v5)] [] 124 0 0 Q := by
  unfold f_X7_tellPanel_b124 at hf
  refine J_iinc (v := v5 + 1) (lv' := [(5, .int (v5 + 1)), (0, .ref v0), (2, .int v2), (3, .int v3), (4, .int v4)]) E (jd dk_X7_tellPanel_1 29 rfl) 4 rfl rfl (by decide) rfl ?_
  refine J_goto (tgt := 76) E (jd dk_X7_tellPanel_1 30 rfl) (by decide) ?_
  refine J_sub [1, 2, 3, 4, 0] rfl ?_
  exact kb _ (Option.some.inj hf).symm
set_option maxRecDepth 100000 in
set_option maxHeartbeats 4000000 in
theorem lk_X7_tellPanel_l76 {G : JG} {X : JX} (E : jE G X (RX7, cX7_tellPanel, 6)) (hX : X.2.2.2.1 = jRm 2 0 0) (hr : X.2.2.2.2.2.2.2.2.1.sig.returnType = none) (N : Nat) {Q : State → Prop} {v0 : Nat} {v2 : Int32} {v3 : Int32} {v4 : Int32} {v5 : Int32}  {h : AH} {q : ((Int32 × Int32 × AH) ⊕ ((Int32 × AH)))} (hf : f_X7_tellPanel_l76 N v0 v2 v3 v4 v5 h = some q) (kb : ∀ s' : Int32 × Int32 × AH, q = .inl s' → JW G X (RX7, cX7_tellPanel, 6) s'.2.2 [(0, .ref v0), (2, .int v2), (3, .int v3), (4, .int s'.1), (5, .int s'.2.1)] [] 76 0 0 Q) (ke0 : ∀ e : Int32 × AH, q = .inr e → JW G X (RX7, cX7_tellPanel, 6) e.2 [(0, .ref v0), (2, .int v2), (3, .int v3), (4, .int e.1)] [] 130 0 0 Q) : JW G X (RX7, cX7_tellPanel, 6) h [(0, .ref v0), (2, .int v2), (3, .int v3), (4, .int v4), (5, .int v5)] [] 76 0 0 Q := by
  unfold f_X7_tellPanel_l76 at hf
  refine J_iload E (jd dk_X7_tellPanel_1 1 rfl) 4 rfl ?_
  refine J_aload_n E (jd dk_X7_tellPanel_1 2 rfl) rfl 0 rfl ?_
  obtain ⟨x1, e2, hf⟩ := jbind hf
  refine J_getr E (jd dk_X7_tellPanel_1 3 rfl) fl_RX7_42 e2 ?_
  refine J_iconst (v := 2) E (jd dk_X7_tellPanel_1 4 rfl) rfl ?_
  obtain ⟨x3, e4, hf⟩ := jbind hf
  refine J_iald E (jd dk_X7_tellPanel_1 5 rfl) e4 ?_
  refine J_icmp_ge (tgt := 130) E (jd dk_X7_tellPanel_1 6 rfl) (by decide) (fun c5 => ?_) (fun c5 => ?_)
  · replace hf := jif_t c5 hf
    refine J_sub [0, 1, 2, 3] rfl ?_
    exact ke0 _ (Option.some.inj hf).symm
  · replace hf := jif_f c5 hf
    refine J_aload_n E (jd dk_X7_tellPanel_1 7 rfl) rfl 0 rfl ?_
    refine J_iload_n E (jd dk_X7_tellPanel_1 8 rfl) rfl 1 rfl ?_
    refine J_iload E (jd dk_X7_tellPanel_1 9 rfl) 4 rfl ?_
    refine J_iload_n E (jd dk_X7_tellPanel_1 10 rfl) rfl 2 rfl ?_
    obtain ⟨u8, e9, hf⟩ := jbind hf
    obtain ⟨r6, e7, hf⟩ := jbind hf
    refine J_callV E (jd dk_X7_tellPanel_1 11 rfl) ml_RX7_425 cal_X7_may e9 rfl (lk_X7_may (jE_g E) (jE_tr E) N e7) rfl (Nat.le_of_ble_eq_true rfl) (jR_le hX (by decide) (by decide)) (jF0 hX) rfl ?_
    rintro _ _ ⟨rfl, rfl⟩
    refine J_if_eq (tgt := 124) E (jd dk_X7_tellPanel_1 12 rfl) (by decide) (fun c10 => ?_) (fun c10 => ?_)
    · replace hf := jif_t c10 hf
      exact lk_X7_tellPanel_b124 E hX hr N hf kb ke0
    · replace hf := jif_f c10 hf
      refine J_iload E (jd dk_X7_tellPanel_1 13 rfl) 3 rfl ?_
      refine J_aload_n E (jd dk_X7_tellPanel_1 14 rfl) rfl 0 rfl ?_
      obtain ⟨x11, e12, hf⟩ := jbind hf
      refine J_getr E (jd dk_X7_tellPanel_1 15 rfl) fl_RX7_72 e12 ?_
      refine J_iload E (jd dk_X7_tellPanel_1 16 rfl) 4 rfl ?_
      obtain ⟨x13, e14, hf⟩ := jbind hf
      refine J_iald E (jd dk_X7_tellPanel_1 17 rfl) e14 ?_
      refine J_aload_n E (jd dk_X7_tellPanel_1 18 rfl) rfl 0 rfl ?_
      refine J_iload_n E (jd dk_X7_tellPanel_1 19 rfl) rfl 1 rfl ?_
      refine J_iload_n E (jd dk_X7_tellPanel_1 20 rfl) rfl 2 rfl ?_
      refine J_iconst (v := 1) E (jd dk_X7_tellPanel_1 21 rfl) rfl ?_
      refine J_iload E (jd dk_X7_tellPanel_1 22 rfl) 4 rfl ?_
      refine J_ishl E (jd dk_X7_tellPanel_1 23 rfl) ?_
      refine J_ior E (jd dk_X7_tellPanel_1 24 rfl) ?_
      obtain ⟨u17, e18, hf⟩ := jbind hf
      obtain ⟨r15, e16, hf⟩ := jbind hf
      refine J_callV E (jd dk_X7_tellPanel_1 25 rfl) ml_RX7_422 cal_X7_goesOn e18 rfl (lk_X7_goesOn (jE_g E) (jE_tr E) N e16) rfl (Nat.le_of_ble_eq_true rfl) (jR_le hX (by decide) (by decide)) (jF0 hX) rfl ?_
      rintro _ _ ⟨rfl, rfl⟩
      refine J_iadd E (jd dk_X7_tellPanel_1 26 rfl) ?_
      refine J_min E (jd dk_X7_tellPanel_1 27 rfl) ml_RX7_188 (Nat.le_of_ble_eq_true rfl) (by rw [hX]; exact ⟨Nat.zero_le _, Nat.zero_le _⟩) ?_
      refine J_istore (lv' := [(4, .int (jmn v4 (x13 + r15.1))), (0, .ref v0), (2, .int v2), (3, .int v3), (5, .int v5)]) E (jd dk_X7_tellPanel_1 28 rfl) (by decide) rfl ?_
      refine J_sub [1, 2, 3, 0, 4] rfl ?_
      exact lk_X7_tellPanel_b124 E hX hr N hf kb ke0
set_option maxRecDepth 100000 in
set_option maxHeartbeats 4000000 in
theorem lk_X7_tellPanel_b76 {G : JG} {X : JX} (E : jE G X (RX7, cX7_tellPanel, 6)) (hX : X.2.2.2.1 = jRm 2 0 0) (hr : X.2.2.2.2.2.2.2.2.1.sig.returnType = none) (N : Nat) {Q : State → Prop} {v0 : Nat} {v2 : Int32} {v3 : Int32} {v4 : Int32} {v5 : Int32} {h : AH}  {q : ((Int32 × AH) ⊕ ((AH)))} (hf : f_X7_tellPanel_b76 N v0 v2 v3 v4 v5 h = some q) (kb : ∀ s' : Int32 × AH, q = .inl s' → JW G X (RX7, cX7_tellPanel, 6) s'.2 [(0, .ref v0), (2, .int v2), (3, .int s'.1)] [] 49 0 0 Q) (ke0 : ∀ e : AH, q = .inr e → JW G X (RX7, cX7_tellPanel, 6) e [(0, .ref v0), (2, .int v2)] [] 149 0 0 Q) : JW G X (RX7, cX7_tellPanel, 6) h [(0, .ref v0), (2, .int v2), (3, .int v3), (4, .int v4), (5, .int v5)] [] 76 0 0 Q := by
  unfold f_X7_tellPanel_b76 at hf
  obtain ⟨q1, h1, hf⟩ := jbind hf
  refine jloop (P := fun s => JW G X (RX7, cX7_tellPanel, 6) s.2.2 [(0, .ref v0), (2, .int v2), (3, .int v3), (4, .int s.1), (5, .int s.2.1)] [] 76 0 0 Q) (Ex := fun (e : Int32 × AH) => JW G X (RX7, cX7_tellPanel, 6) e.2 [(0, .ref v0), (2, .int v2), (3, .int v3), (4, .int e.1)] [] 130 0 0 Q) (fun s q hs hb hx => lk_X7_tellPanel_l76 E hX hr N hs (fun s' hs => hb s' hs) (fun e he => hx e he)) N _ q1 h1 ?_
  generalize q1 = e at hf ⊢
  refine J_aload_n E (jd dk_X7_tellPanel_1 31 rfl) rfl 0 rfl ?_
  obtain ⟨x19, e20, hf⟩ := jbind hf
  refine J_getr E (jd dk_X7_tellPanel_1 32 rfl) fl_RX7_109 e20 ?_
  refine J_iload_n E (jd dk_X7_tellPanel_1 33 rfl) rfl 1 rfl ?_
  refine J_bipush (v := 8) E (jd dk_X7_tellPanel_1 34 rfl) (by decide) ?_
  refine J_ishl E (jd dk_X7_tellPanel_1 35 rfl) ?_
  refine J_iload_n E (jd dk_X7_tellPanel_1 36 rfl) rfl 2 rfl ?_
  refine J_iadd E (jd dk_X7_tellPanel_1 37 rfl) ?_
  refine J_iload E (jd dk_X7_tellPanel_1 38 rfl) 3 rfl ?_
  obtain ⟨h21, e22, hf⟩ := jbind hf
  refine J_iast E (jd dk_X7_tellPanel_1 39 rfl) e22 ?_
  refine J_iinc (v := v3 + 1) (lv' := [(3, .int (v3 + 1)), (0, .ref v0), (2, .int v2), (4, .int e.1)]) E (jd dk_X7_tellPanel_1 40 rfl) 2 rfl rfl (by decide) rfl ?_
  refine J_goto (tgt := 49) E (jd dk_X7_tellPanel_1 41 rfl) (by decide) ?_
  refine J_sub [1, 2, 0] rfl ?_
  exact kb _ (Option.some.inj hf).symm
set_option maxRecDepth 100000 in
set_option maxHeartbeats 4000000 in
theorem lk_X7_tellPanel_l49 {G : JG} {X : JX} (E : jE G X (RX7, cX7_tellPanel, 6)) (hX : X.2.2.2.1 = jRm 2 0 0) (hr : X.2.2.2.2.2.2.2.2.1.sig.returnType = none) (N : Nat) {Q : State → Prop} {v0 : Nat} {v2 : Int32} {v3 : Int32}  {h : AH} {q : ((Int32 × AH) ⊕ ((AH)))} (hf : f_X7_tellPanel_l49 N v0 v2 v3 h = some q) (kb : ∀ s' : Int32 × AH, q = .inl s' → JW G X (RX7, cX7_tellPanel, 6) s'.2 [(0, .ref v0), (2, .int v2), (3, .int s'.1)] [] 49 0 0 Q) (ke0 : ∀ e : AH, q = .inr e → JW G X (RX7, cX7_tellPanel, 6) e [(0, .ref v0), (2, .int v2)] [] 149 0 0 Q) : JW G X (RX7, cX7_tellPanel, 6) h [(0, .ref v0), (2, .int v2), (3, .int v3)] [] 49 0 0 Q := by
  unfold f_X7_tellPanel_l49 at hf
  refine J_iload_n E (jd dk_X7_tellPanel_0 34 rfl) rfl 2 rfl ?_
  refine J_iconst (v := 1) E (jd dk_X7_tellPanel_0 35 rfl) rfl ?_
  refine J_aload_n E (jd dk_X7_tellPanel_0 36 rfl) rfl 0 rfl ?_
  obtain ⟨x23, e24, hf⟩ := jbind hf
  refine J_getr E (jd dk_X7_tellPanel_0 37 rfl) fl_RX7_42 e24 ?_
  refine J_iconst (v := 2) E (jd dk_X7_tellPanel_0 38 rfl) rfl ?_
  obtain ⟨x25, e26, hf⟩ := jbind hf
  refine J_iald E (jd dk_X7_tellPanel_0 39 rfl) e26 ?_
  refine J_ishl E (jd dk_X7_tellPanel_0 40 rfl) ?_
  refine J_icmp_ge (tgt := 149) E (jd dk_X7_tellPanel_0 41 rfl) (by decide) (fun c27 => ?_) (fun c27 => ?_)
  · replace hf := jif_t c27 hf
    refine J_sub [0, 1] rfl ?_
    exact ke0 _ (Option.some.inj hf).symm
  · replace hf := jif_f c27 hf
    refine J_sipush (v := 1000) E (jd dk_X7_tellPanel_0 42 rfl) (by decide) ?_
    refine J_aload_n E (jd dk_X7_tellPanel_0 43 rfl) rfl 0 rfl ?_
    refine J_iload_n E (jd dk_X7_tellPanel_0 44 rfl) rfl 1 rfl ?_
    refine J_iload_n E (jd dk_X7_tellPanel_0 45 rfl) rfl 2 rfl ?_
    obtain ⟨u30, e31, hf⟩ := jbind hf
    obtain ⟨r28, e29, hf⟩ := jbind hf
    refine J_callV E (jd dk_X7_tellPanel_0 46 rfl) ml_RX7_422 cal_X7_goesOn e31 rfl (lk_X7_goesOn (jE_g E) (jE_tr E) N e29) rfl (Nat.le_of_ble_eq_true rfl) (jR_le hX (by decide) (by decide)) (jF0 hX) rfl ?_
    rintro _ _ ⟨rfl, rfl⟩
    refine J_iadd E (jd dk_X7_tellPanel_0 47 rfl) ?_
    refine J_istore (lv' := [(4, .int ((1000 : Int32) + r28.1)), (0, .ref v0), (2, .int v2), (3, .int v3)]) E (jd dk_X7_tellPanel_0 48 rfl) (by decide) rfl ?_
    refine J_iconst (v := 0) E (jd dk_X7_tellPanel_0 49 rfl) rfl ?_
    refine J_istore (lv' := [(5, .int 0), (4, .int ((1000 : Int32) + r28.1)), (0, .ref v0), (2, .int v2), (3, .int v3)]) E (jd dk_X7_tellPanel_1 0 rfl) (by decide) rfl ?_
    refine J_sub [2, 3, 4, 1, 0] rfl ?_
    exact lk_X7_tellPanel_b76 E hX hr N hf kb ke0
set_option maxRecDepth 100000 in
set_option maxHeartbeats 4000000 in
theorem lk_X7_tellPanel_b49 {G : JG} {X : JX} (E : jE G X (RX7, cX7_tellPanel, 6)) (hX : X.2.2.2.1 = jRm 2 0 0) (hr : X.2.2.2.2.2.2.2.2.1.sig.returnType = none) (N : Nat) {Q : State → Prop} {v0 : Nat} {v2 : Int32} {v3 : Int32} {h : AH}  {q : ((Int32 × AH) ⊕ ((AH)))} (hf : f_X7_tellPanel_b49 N v0 v2 v3 h = some q) (kb : ∀ s' : Int32 × AH, q = .inl s' → JW G X (RX7, cX7_tellPanel, 6) s'.2 [(0, .ref v0), (2, .int s'.1)] [] 43 0 0 Q) (ke0 : ∀ e : AH, q = .inr e → JW G X (RX7, cX7_tellPanel, 6) e [] [] 155 0 0 Q) : JW G X (RX7, cX7_tellPanel, 6) h [(0, .ref v0), (2, .int v2), (3, .int v3)] [] 49 0 0 Q := by
  unfold f_X7_tellPanel_b49 at hf
  obtain ⟨q1, h1, hf⟩ := jbind hf
  refine jloop (P := fun s => JW G X (RX7, cX7_tellPanel, 6) s.2 [(0, .ref v0), (2, .int v2), (3, .int s.1)] [] 49 0 0 Q) (Ex := fun (e : AH) => JW G X (RX7, cX7_tellPanel, 6) e [(0, .ref v0), (2, .int v2)] [] 149 0 0 Q) (fun s q hs hb hx => lk_X7_tellPanel_l49 E hX hr N hs (fun s' hs => hb s' hs) (fun e he => hx e he)) N _ q1 h1 ?_
  generalize q1 = e at hf ⊢
  refine J_iinc (v := v2 + (-1)) (lv' := [(2, .int (v2 + (-1))), (0, .ref v0)]) E (jd dk_X7_tellPanel_1 42 rfl) 1 rfl rfl (by decide) rfl ?_
  refine J_goto (tgt := 43) E (jd dk_X7_tellPanel_1 43 rfl) (by decide) ?_
  refine J_sub [1, 0] rfl ?_
  exact kb _ (Option.some.inj hf).symm
set_option maxRecDepth 100000 in
set_option maxHeartbeats 4000000 in
theorem lk_X7_tellPanel_l43 {G : JG} {X : JX} (E : jE G X (RX7, cX7_tellPanel, 6)) (hX : X.2.2.2.1 = jRm 2 0 0) (hr : X.2.2.2.2.2.2.2.2.1.sig.returnType = none) (N : Nat) {Q : State → Prop} {v0 : Nat} {v2 : Int32}  {h : AH} {q : ((Int32 × AH) ⊕ ((AH)))} (hf : f_X7_tellPanel_l43 N v0 v2 h = some q) (kb : ∀ s' : Int32 × AH, q = .inl s' → JW G X (RX7, cX7_tellPanel, 6) s'.2 [(0, .ref v0), (2, .int s'.1)] [] 43 0 0 Q) (ke0 : ∀ e : AH, q = .inr e → JW G X (RX7, cX7_tellPanel, 6) e [] [] 155 0 0 Q) : JW G X (RX7, cX7_tellPanel, 6) h [(0, .ref v0), (2, .int v2)] [] 43 0 0 Q := by
  unfold f_X7_tellPanel_l43 at hf
  refine J_iload_n E (jd dk_X7_tellPanel_0 30 rfl) rfl 1 rfl ?_
  refine J_if_lt (tgt := 155) E (jd dk_X7_tellPanel_0 31 rfl) (by decide) (fun c32 => ?_) (fun c32 => ?_)
  · replace hf := jif_t c32 hf
    refine J_sub [] rfl ?_
    exact ke0 _ (Option.some.inj hf).symm
  · replace hf := jif_f c32 hf
    refine J_iconst (v := 0) E (jd dk_X7_tellPanel_0 32 rfl) rfl ?_
    refine J_istore_n (lv' := [(3, .int 0), (0, .ref v0), (2, .int v2)]) E (jd dk_X7_tellPanel_0 33 rfl) rfl (by decide) rfl ?_
    refine J_sub [1, 2, 0] rfl ?_
    exact lk_X7_tellPanel_b49 E hX hr N hf kb ke0
set_option maxRecDepth 100000 in
set_option maxHeartbeats 4000000 in
theorem lk_X7_tellPanel_b43 {G : JG} {X : JX} (E : jE G X (RX7, cX7_tellPanel, 6)) (hX : X.2.2.2.1 = jRm 2 0 0) (hr : X.2.2.2.2.2.2.2.2.1.sig.returnType = none) (N : Nat) {v0 : Nat} {v2 : Int32} {h : AH}  {r : AH} (hf : f_X7_tellPanel_b43 N v0 v2 h = some r) : JW G X (RX7, cX7_tellPanel, 6) h [(0, .ref v0), (2, .int v2)] [] 43 0 0 (jEnd G X (jpv r) 0 0) := by
  unfold f_X7_tellPanel_b43 at hf
  obtain ⟨q1, h1, hf⟩ := jbind hf
  refine jloop (P := fun s => JW G X (RX7, cX7_tellPanel, 6) s.2 [(0, .ref v0), (2, .int s.1)] [] 43 0 0 (jEnd G X (jpv r) 0 0)) (Ex := fun (e : AH) => JW G X (RX7, cX7_tellPanel, 6) e [] [] 155 0 0 (jEnd G X (jpv r) 0 0)) (fun s q hs hb hx => lk_X7_tellPanel_l43 E hX hr N hs (fun s' hs => hb s' hs) (fun e he => hx e he)) N _ q1 h1 ?_
  generalize q1 = e at hf ⊢
  cases hf
  exact J_vret E hr (jd dk_X7_tellPanel_1 44 rfl) (Nat.le_refl _) (Nat.le_refl _) ⟨rfl, rfl⟩
set_option maxRecDepth 100000 in
set_option maxHeartbeats 4000000 in
theorem lk_X7_tellPanel_l9 {G : JG} {X : JX} (E : jE G X (RX7, cX7_tellPanel, 6)) (hX : X.2.2.2.1 = jRm 2 0 0) (hr : X.2.2.2.2.2.2.2.2.1.sig.returnType = none) (N : Nat) {Q : State → Prop} {v0 : Nat} {v1 : Int32} {v2 : Int32}  {h : AH} {q : ((Int32 × AH) ⊕ ((AH)))} (hf : f_X7_tellPanel_l9 N v0 v1 v2 h = some q) (kb : ∀ s' : Int32 × AH, q = .inl s' → JW G X (RX7, cX7_tellPanel, 6) s'.2 [(0, .ref v0), (1, .int v1), (2, .int s'.1)] [] 9 0 0 Q) (ke0 : ∀ e : AH, q = .inr e → JW G X (RX7, cX7_tellPanel, 6) e [(0, .ref v0), (1, .int v1)] [] 39 0 0 Q) : JW G X (RX7, cX7_tellPanel, 6) h [(0, .ref v0), (1, .int v1), (2, .int v2)] [] 9 0 0 Q := by
  unfold f_X7_tellPanel_l9 at hf
  refine J_iload_n E (jd dk_X7_tellPanel_0 7 rfl) rfl 2 rfl ?_
  refine J_iconst (v := 1) E (jd dk_X7_tellPanel_0 8 rfl) rfl ?_
  refine J_aload_n E (jd dk_X7_tellPanel_0 9 rfl) rfl 0 rfl ?_
  obtain ⟨x33, e34, hf⟩ := jbind hf
  refine J_getr E (jd dk_X7_tellPanel_0 10 rfl) fl_RX7_42 e34 ?_
  refine J_iconst (v := 2) E (jd dk_X7_tellPanel_0 11 rfl) rfl ?_
  obtain ⟨x35, e36, hf⟩ := jbind hf
  refine J_iald E (jd dk_X7_tellPanel_0 12 rfl) e36 ?_
  refine J_ishl E (jd dk_X7_tellPanel_0 13 rfl) ?_
  refine J_icmp_ge (tgt := 39) E (jd dk_X7_tellPanel_0 14 rfl) (by decide) (fun c37 => ?_) (fun c37 => ?_)
  · replace hf := jif_t c37 hf
    refine J_sub [0, 1] rfl ?_
    exact ke0 _ (Option.some.inj hf).symm
  · replace hf := jif_f c37 hf
    refine J_aload_n E (jd dk_X7_tellPanel_0 15 rfl) rfl 0 rfl ?_
    obtain ⟨x38, e39, hf⟩ := jbind hf
    refine J_getr E (jd dk_X7_tellPanel_0 16 rfl) fl_RX7_109 e39 ?_
    refine J_iload_n E (jd dk_X7_tellPanel_0 17 rfl) rfl 1 rfl ?_
    refine J_bipush (v := 8) E (jd dk_X7_tellPanel_0 18 rfl) (by decide) ?_
    refine J_ishl E (jd dk_X7_tellPanel_0 19 rfl) ?_
    refine J_iload_n E (jd dk_X7_tellPanel_0 20 rfl) rfl 2 rfl ?_
    refine J_iadd E (jd dk_X7_tellPanel_0 21 rfl) ?_
    refine J_iconst (v := 0) E (jd dk_X7_tellPanel_0 22 rfl) rfl ?_
    obtain ⟨h40, e41, hf⟩ := jbind hf
    refine J_iast E (jd dk_X7_tellPanel_0 23 rfl) e41 ?_
    refine J_iinc (v := v2 + 1) (lv' := [(2, .int (v2 + 1)), (0, .ref v0), (1, .int v1)]) E (jd dk_X7_tellPanel_0 24 rfl) 2 rfl rfl (by decide) rfl ?_
    refine J_goto (tgt := 9) E (jd dk_X7_tellPanel_0 25 rfl) (by decide) ?_
    refine J_sub [1, 2, 0] rfl ?_
    exact kb _ (Option.some.inj hf).symm
set_option maxRecDepth 100000 in
set_option maxHeartbeats 4000000 in
theorem lk_X7_tellPanel_b9 {G : JG} {X : JX} (E : jE G X (RX7, cX7_tellPanel, 6)) (hX : X.2.2.2.1 = jRm 2 0 0) (hr : X.2.2.2.2.2.2.2.2.1.sig.returnType = none) (N : Nat) {v0 : Nat} {v1 : Int32} {v2 : Int32} {h : AH}  {r : AH} (hf : f_X7_tellPanel_b9 N v0 v1 v2 h = some r) : JW G X (RX7, cX7_tellPanel, 6) h [(0, .ref v0), (1, .int v1), (2, .int v2)] [] 9 0 0 (jEnd G X (jpv r) 0 0) := by
  unfold f_X7_tellPanel_b9 at hf
  obtain ⟨q1, h1, hf⟩ := jbind hf
  refine jloop (P := fun s => JW G X (RX7, cX7_tellPanel, 6) s.2 [(0, .ref v0), (1, .int v1), (2, .int s.1)] [] 9 0 0 (jEnd G X (jpv r) 0 0)) (Ex := fun (e : AH) => JW G X (RX7, cX7_tellPanel, 6) e [(0, .ref v0), (1, .int v1)] [] 39 0 0 (jEnd G X (jpv r) 0 0)) (fun s q hs hb hx => lk_X7_tellPanel_l9 E hX hr N hs (fun s' hs => hb s' hs) (fun e he => hx e he)) N _ q1 h1 ?_
  generalize q1 = e at hf ⊢
  refine J_iload_n E (jd dk_X7_tellPanel_0 26 rfl) rfl 1 rfl ?_
  refine J_iconst (v := 1) E (jd dk_X7_tellPanel_0 27 rfl) rfl ?_
  refine J_isub E (jd dk_X7_tellPanel_0 28 rfl) ?_
  refine J_istore_n (lv' := [(2, .int (v1 - 1)), (0, .ref v0), (1, .int v1)]) E (jd dk_X7_tellPanel_0 29 rfl) rfl (by decide) rfl ?_
  refine J_sub [1, 0] rfl ?_
  exact lk_X7_tellPanel_b43 E hX hr N hf
set_option maxRecDepth 100000 in
set_option maxHeartbeats 4000000 in
theorem lk_X7_tellPanel {G : JG} {l : Launch} (hG : jG G) (htr : l.stackTraces = false) (N : Nat) {h : AH} {a0 : Nat} {r : AH} (hf : f_X7_tellPanel N h a0 = some r) : jMet G l yX7_tellPanel cX7_tellPanel 6 none 2 0 0 [.ref a0] h (jpv r) := by
  unfold f_X7_tellPanel at hf
  refine jMet_of hG htr (by decide) (Nat.le_of_ble_eq_true rfl) ?_
  intro X E hl9 hr hX _ _
  show JW G X (RX7, cX7_tellPanel, 6) h [(0, .ref a0)] [] 0 0 0 (jEnd G X (jpv r) 0 0)
  refine J_aload_n E (jd dk_X7_tellPanel_0 0 rfl) rfl 0 rfl ?_
  obtain ⟨x42, e43, hf⟩ := jbind hf
  refine J_getr E (jd dk_X7_tellPanel_0 1 rfl) fl_RX7_42 e43 ?_
  refine J_iconst (v := 0) E (jd dk_X7_tellPanel_0 2 rfl) rfl ?_
  obtain ⟨x44, e45, hf⟩ := jbind hf
  refine J_iald E (jd dk_X7_tellPanel_0 3 rfl) e45 ?_
  refine J_istore_n (lv' := [(1, .int x44), (0, .ref a0)]) E (jd dk_X7_tellPanel_0 4 rfl) rfl (by decide) rfl ?_
  refine J_iconst (v := 0) E (jd dk_X7_tellPanel_0 5 rfl) rfl ?_
  refine J_istore_n (lv' := [(2, .int 0), (1, .int x44), (0, .ref a0)]) E (jd dk_X7_tellPanel_0 6 rfl) rfl (by decide) rfl ?_
  refine J_sub [2, 1, 0] rfl ?_
  exact lk_X7_tellPanel_b9 E hX hr N hf
def f_X7_panel (N : Nat) (h : AH) (a0 : Nat) (a1 : Int32) : Option (Int32 × AH) :=
  (jwi 7 h a0 4 0).bind fun h1 =>
  (f_X7_isIn N h1 (Int32.toInt64 a1) 0 1).bind fun r3 =>
  if r3.1 = 0 then (jck 7 r3.2 a0).bind fun _ =>
  (f_X7_fail N r3.2 a0 1).bind fun r23 =>
  some (r23.1, r23.2)
  else (jck 7 r3.2 a0).bind fun _ =>
  (f_X7_tellPanel N r3.2 a0).bind fun r6 =>
  if a1 = 0 then (jgr 7 r6 a0 5).bind fun x15 =>
  (jal 0 r6 x15 0).bind fun x17 =>
  (jgr 7 r6 a0 42).bind fun x19 =>
  (jal 0 r6 x19 0).bind fun x21 =>
  some (x17 - (x21 / 1000), r6)
  else (jgr 7 r6 a0 42).bind fun x11 =>
  (jal 0 r6 x11 0).bind fun x13 =>
  some (x13 - x13 / 1000 * 1000, r6)
set_option maxRecDepth 100000 in
set_option maxHeartbeats 4000000 in
theorem lk_X7_panel {G : JG} {l : Launch} (hG : jG G) (htr : l.stackTraces = false) (N : Nat) {h : AH} {a0 : Nat} {a1 : Int32} {r : (Int32 × AH)} (hf : f_X7_panel N h a0 a1 = some r) : jMet G l yX7_panel cX7_panel 2 (some .int) 3 0 0 [.ref a0, .int a1] h (jpi r) := by
  unfold f_X7_panel at hf
  refine jMet_of hG htr (by decide) (Nat.le_of_ble_eq_true rfl) ?_
  intro X E hl9 hr hX _ _
  show JW G X (RX7, cX7_panel, 2) h [(0, .ref a0), (1, .int a1)] [] 0 0 0 (jEnd G X (jpi r) 0 0)
  refine J_aload_n E (jd dk_X7_panel_0 0 rfl) rfl 0 rfl ?_
  refine J_iconst (v := 0) E (jd dk_X7_panel_0 1 rfl) rfl ?_
  obtain ⟨h1, e2, hf⟩ := jbind hf
  refine J_put E (jd dk_X7_panel_0 2 rfl) fl_RX7_151 e2 (fun _ => rfl) (fun _ => rfl) ?_
  refine J_iload_n E (jd dk_X7_panel_0 3 rfl) rfl 1 rfl ?_
  refine J_i2l E (jd dk_X7_panel_0 4 rfl) ?_
  refine J_lconst (v := 0) E (jd dk_X7_panel_0 5 rfl) (by decide) ?_
  refine J_lconst (v := 1) E (jd dk_X7_panel_0 6 rfl) (by decide) ?_
  obtain ⟨r3, e4, hf⟩ := jbind hf
  refine J_callS E (jd dk_X7_panel_0 7 rfl) ml_RX7_154 cal_X7_isIn (lk_X7_isIn (jE_g E) (jE_tr E) N e4) rfl (Nat.le_of_ble_eq_true rfl) (jR_le hX (by decide) (by decide)) (jF0 hX) rfl ?_
  rintro _ _ ⟨rfl, rfl⟩
  refine J_if_ne (tgt := 21) E (jd dk_X7_panel_0 8 rfl) (by decide) (fun c5 => ?_) (fun c5 => ?_)
  · replace hf := jif_f c5 hf
    refine J_aload_n E (jd dk_X7_panel_0 13 rfl) rfl 0 rfl ?_
    obtain ⟨u8, e9, hf⟩ := jbind hf
    obtain ⟨r6, e7, hf⟩ := jbind hf
    refine J_callV E (jd dk_X7_panel_0 14 rfl) ml_RX7_429 cal_X7_tellPanel e9 rfl (lk_X7_tellPanel (jE_g E) (jE_tr E) N e7) rfl (Nat.le_of_ble_eq_true rfl) (jR_le hX (by decide) (by decide)) (jF0 hX) rfl ?_
    rintro _ _ ⟨rfl, rfl⟩
    refine J_iload_n E (jd dk_X7_panel_0 15 rfl) rfl 1 rfl ?_
    refine J_if_ne (tgt := 49) E (jd dk_X7_panel_0 16 rfl) (by decide) (fun c10 => ?_) (fun c10 => ?_)
    · replace hf := jif_f c10 hf
      refine J_aload_n E (jd dk_X7_panel_0 29 rfl) rfl 0 rfl ?_
      obtain ⟨x11, e12, hf⟩ := jbind hf
      refine J_getr E (jd dk_X7_panel_0 30 rfl) fl_RX7_109 e12 ?_
      refine J_iconst (v := 0) E (jd dk_X7_panel_0 31 rfl) rfl ?_
      obtain ⟨x13, e14, hf⟩ := jbind hf
      refine J_iald E (jd dk_X7_panel_0 32 rfl) e14 ?_
      refine J_sipush (v := 1000) E (jd dk_X7_panel_0 33 rfl) (by decide) ?_
      refine J_irem E (jd dk_X7_panel_0 34 rfl) (by decide) ?_
      cases hf
      exact J_iret E hr rfl (jd dk_X7_panel_0 35 rfl) (Nat.le_refl _) (Nat.le_refl _) ⟨rfl, rfl⟩
    · replace hf := jif_t c10 hf
      refine J_aload_n E (jd dk_X7_panel_0 17 rfl) rfl 0 rfl ?_
      obtain ⟨x15, e16, hf⟩ := jbind hf
      refine J_getr E (jd dk_X7_panel_0 18 rfl) fl_RX7_42 e16 ?_
      refine J_iconst (v := 0) E (jd dk_X7_panel_0 19 rfl) rfl ?_
      obtain ⟨x17, e18, hf⟩ := jbind hf
      refine J_iald E (jd dk_X7_panel_0 20 rfl) e18 ?_
      refine J_aload_n E (jd dk_X7_panel_0 21 rfl) rfl 0 rfl ?_
      obtain ⟨x19, e20, hf⟩ := jbind hf
      refine J_getr E (jd dk_X7_panel_0 22 rfl) fl_RX7_109 e20 ?_
      refine J_iconst (v := 0) E (jd dk_X7_panel_0 23 rfl) rfl ?_
      obtain ⟨x21, e22, hf⟩ := jbind hf
      refine J_iald E (jd dk_X7_panel_0 24 rfl) e22 ?_
      refine J_sipush (v := 1000) E (jd dk_X7_panel_0 25 rfl) (by decide) ?_
      refine J_idiv E (jd dk_X7_panel_0 26 rfl) (by decide) ?_
      refine J_isub E (jd dk_X7_panel_0 27 rfl) ?_
      refine J_goto (tgt := 59) E (jd dk_X7_panel_0 28 rfl) (by decide) ?_
      cases hf
      exact J_iret E hr rfl (jd dk_X7_panel_0 35 rfl) (Nat.le_refl _) (Nat.le_refl _) ⟨rfl, rfl⟩
  · replace hf := jif_t c5 hf
    refine J_aload_n E (jd dk_X7_panel_0 9 rfl) rfl 0 rfl ?_
    refine J_iconst (v := 1) E (jd dk_X7_panel_0 10 rfl) rfl ?_
    obtain ⟨u25, e26, hf⟩ := jbind hf
    obtain ⟨r23, e24, hf⟩ := jbind hf
    refine J_callV E (jd dk_X7_panel_0 11 rfl) ml_RX7_293 cal_X7_fail e26 rfl (lk_X7_fail (jE_g E) (jE_tr E) N e24) rfl (Nat.le_of_ble_eq_true rfl) (jR_le hX (by decide) (by decide)) (jF0 hX) rfl ?_
    rintro _ _ ⟨rfl, rfl⟩
    cases hf
    exact J_iret E hr rfl (jd dk_X7_panel_0 12 rfl) (Nat.le_refl _) (Nat.le_refl _) ⟨rfl, rfl⟩
def f_X7_seat_b122 (N : Nat) (v0 : Nat) (v1 : Int32) (v3 : Int32) (v4 : Int32) (w0 : Int32) (w1 : Int32) (h : AH) : Option ((Int32 × Int32 × Int32 × AH) ⊕ ((Int32 × AH))) :=
  some (.inl ((w0 ||| w1, v3, v4 + 1, h)))
def f_X7_seat_b103 (N : Nat) (v0 : Nat) (v1 : Int32) (v2 : Int32) (v3 : Int32) (v4 : Int32) (v5 : Int32) (h : AH) : Option ((Int32 × Int32 × AH) ⊕ ((Int32 × AH))) :=
  some (.inl ((v3, v5 + (-1), h)))
def f_X7_seat_l48 (N : Nat) (v0 : Nat) (v1 : Int32) (v2 : Int32) (v4 : Int32) (v3 : Int32) (v5 : Int32) (h : AH) : Option ((Int32 × Int32 × AH) ⊕ ((Int32 × AH))) :=
  if v5 < 0 then some (.inr ((v3, h)))
  else (jck 7 h v0).bind fun _ =>
  (f_X7_may N h v0 v4 v5 v2).bind fun r2 =>
  if r2.1 = 0 then f_X7_seat_b103 N v0 v1 v2 v3 v4 v5 r2.2
  else (jgr 7 r2.2 v0 15).bind fun x7 =>
  (jal 0 r2.2 x7 v5).bind fun x9 =>
  (jck 7 r2.2 v0).bind fun _ =>
  (f_X7_goesOn N r2.2 v0 v4 (v2 ||| ((1 : Int32) <<< (v5 &&& 31)))).bind fun r11 =>
  (jgr 7 r11.2 v0 42).bind fun x15 =>
  (jal 0 r11.2 x15 ((v4 <<< ((8 : Int32) &&& 31)) + v2)).bind fun x17 =>
  if (x9 + r11.1) = x17 then f_X7_seat_b103 N v0 v1 v2 v5 v4 v5 r11.2
  else f_X7_seat_b103 N v0 v1 v2 v3 v4 v5 r11.2
def f_X7_seat_b48 (N : Nat) (v0 : Nat) (v1 : Int32) (v2 : Int32) (v3 : Int32) (v4 : Int32) (v5 : Int32) (h : AH) : Option ((Int32 × Int32 × Int32 × AH) ⊕ ((Int32 × AH))) :=
  (itr (fun s => f_X7_seat_l48 N v0 v1 v2 v4 s.1 s.2.1 s.2.2) N (v3, v5, h)).bind (fun e => if e.1 = ((-1)) then f_X7_seat_b122 N v0 v1 e.1 v4 v2 0 e.2
  else f_X7_seat_b122 N v0 v1 e.1 v4 v2 ((1 : Int32) <<< (e.1 &&& 31)) e.2)
def f_X7_seat_l30 (N : Nat) (v0 : Nat) (v1 : Int32) (v2 : Int32) (v3 : Int32) (v4 : Int32) (h : AH) : Option ((Int32 × Int32 × Int32 × AH) ⊕ ((Int32 × AH))) :=
  if v1 < v4 then some (.inr ((v3, h)))
  else (jgr 7 h v0 5).bind fun x22 =>
  (jal 0 h x22 2).bind fun x24 =>
  f_X7_seat_b48 N v0 v1 v2 ((-1)) v4 (x24 - 1) h
def f_X7_seat_b30 (N : Nat) (v0 : Nat) (v1 : Int32) (v2 : Int32) (v3 : Int32) (v4 : Int32) (h : AH) : Option (Int32 × AH) :=
  (itr (fun s => f_X7_seat_l30 N v0 v1 s.1 s.2.1 s.2.2.1 s.2.2.2) N (v2, v3, v4, h)).bind (fun e => some (e.1, e.2))
def f_X7_seat (N : Nat) (h : AH) (a0 : Nat) (a1 : Int32) : Option (Int32 × AH) :=
  (jwi 7 h a0 4 0).bind fun h26 =>
  (jck 7 h26 a0).bind fun _ =>
  (f_X7_isSide N h26 a0 a1).bind fun r28 =>
  if r28.1 = 0 then (jck 7 r28.2 a0).bind fun _ =>
  (f_X7_fail N r28.2 a0 1).bind fun r37 =>
  some (r37.1, r37.2)
  else (jck 7 r28.2 a0).bind fun _ =>
  (f_X7_tellPanel N r28.2 a0).bind fun r33 =>
  f_X7_seat_b30 N a0 a1 0 ((-1)) 0 r33
set_option maxRecDepth 100000 in
set_option maxHeartbeats 4000000 in
theorem lk_X7_seat_b122 {G : JG} {X : JX} (E : jE G X (RX7, cX7_seat, 6)) (hX : X.2.2.2.1 = jRm 3 0 0) (hr : X.2.2.2.2.2.2.2.2.1.sig.returnType = (some .int)) (N : Nat) {Q : State → Prop} {v0 : Nat} {v1 : Int32} {v3 : Int32} {v4 : Int32} {w0 : Int32} {w1 : Int32} {h : AH}  {q : ((Int32 × Int32 × Int32 × AH) ⊕ ((Int32 × AH)))} (hf : f_X7_seat_b122 N v0 v1 v3 v4 w0 w1 h = some q) (kb : ∀ s' : Int32 × Int32 × Int32 × AH, q = .inl s' → JW G X (RX7, cX7_seat, 6) s'.2.2.2 [(0, .ref v0), (1, .int v1), (2, .int s'.1), (3, .int s'.2.1), (4, .int s'.2.2.1)] [] 30 0 0 Q) (ke0 : ∀ e : Int32 × AH, q = .inr e → JW G X (RX7, cX7_seat, 6) e.2 [(3, .int e.1)] [] 130 0 0 Q) : JW G X (RX7, cX7_seat, 6) h [(0, .ref v0), (1, .int v1), (3, .int v3), (4, .int v4)] [.int w1, .int w0] 122 0 0 Q := by
  unfold f_X7_seat_b122 at hf
  refine J_ior E (jd dk_X7_seat_1 24 rfl) ?_
  refine J_istore_n (lv' := [(2, .int (w0 ||| w1)), (0, .ref v0), (1, .int v1), (3, .int v3), (4, .int v4)]) E (jd dk_X7_seat_1 25 rfl) rfl (by decide) rfl ?_
  refine J_iinc (v := v4 + 1) (lv' := [(4, .int (v4 + 1)), (2, .int (w0 ||| w1)), (0, .ref v0), (1, .int v1), (3, .int v3)]) E (jd dk_X7_seat_1 26 rfl) 4 rfl rfl (by decide) rfl ?_
  refine J_goto (tgt := 30) E (jd dk_X7_seat_1 27 rfl) (by decide) ?_
  refine J_sub [2, 3, 1, 4, 0] rfl ?_
  exact kb _ (Option.some.inj hf).symm
set_option maxRecDepth 100000 in
set_option maxHeartbeats 4000000 in
theorem lk_X7_seat_b103 {G : JG} {X : JX} (E : jE G X (RX7, cX7_seat, 6)) (hX : X.2.2.2.1 = jRm 3 0 0) (hr : X.2.2.2.2.2.2.2.2.1.sig.returnType = (some .int)) (N : Nat) {Q : State → Prop} {v0 : Nat} {v1 : Int32} {v2 : Int32} {v3 : Int32} {v4 : Int32} {v5 : Int32} {h : AH}  {q : ((Int32 × Int32 × AH) ⊕ ((Int32 × AH)))} (hf : f_X7_seat_b103 N v0 v1 v2 v3 v4 v5 h = some q) (kb : ∀ s' : Int32 × Int32 × AH, q = .inl s' → JW G X (RX7, cX7_seat, 6) s'.2.2 [(0, .ref v0), (1, .int v1), (2, .int v2), (3, .int s'.1), (4, .int v4), (5, .int s'.2.1)] [] 48 0 0 Q) (ke0 : ∀ e : Int32 × AH, q = .inr e → JW G X (RX7, cX7_seat, 6) e.2 [(0, .ref v0), (1, .int v1), (2, .int v2), (3, .int e.1), (4, .int v4)] [] 109 0 0 Q) : JW G X (RX7, cX7_seat, 6) h [(0, .ref v0), (1, .int v1), (2, .int v2), (3, .int v3), (4, .int v4), (5, .int v5)] [] 103 0 0 Q := by
  unfold f_X7_seat_b103 at hf
  refine J_iinc (v := v5 + (-1)) (lv' := [(5, .int (v5 + (-1))), (0, .ref v0), (1, .int v1), (2, .int v2), (3, .int v3), (4, .int v4)]) E (jd dk_X7_seat_1 13 rfl) 5 rfl rfl (by decide) rfl ?_
  refine J_goto (tgt := 48) E (jd dk_X7_seat_1 14 rfl) (by decide) ?_
  refine J_sub [1, 2, 3, 4, 5, 0] rfl ?_
  exact kb _ (Option.some.inj hf).symm
set_option maxRecDepth 100000 in
set_option maxHeartbeats 4000000 in
theorem lk_X7_seat_l48 {G : JG} {X : JX} (E : jE G X (RX7, cX7_seat, 6)) (hX : X.2.2.2.1 = jRm 3 0 0) (hr : X.2.2.2.2.2.2.2.2.1.sig.returnType = (some .int)) (N : Nat) {Q : State → Prop} {v0 : Nat} {v1 : Int32} {v2 : Int32} {v4 : Int32} {v3 : Int32} {v5 : Int32}  {h : AH} {q : ((Int32 × Int32 × AH) ⊕ ((Int32 × AH)))} (hf : f_X7_seat_l48 N v0 v1 v2 v4 v3 v5 h = some q) (kb : ∀ s' : Int32 × Int32 × AH, q = .inl s' → JW G X (RX7, cX7_seat, 6) s'.2.2 [(0, .ref v0), (1, .int v1), (2, .int v2), (3, .int s'.1), (4, .int v4), (5, .int s'.2.1)] [] 48 0 0 Q) (ke0 : ∀ e : Int32 × AH, q = .inr e → JW G X (RX7, cX7_seat, 6) e.2 [(0, .ref v0), (1, .int v1), (2, .int v2), (3, .int e.1), (4, .int v4)] [] 109 0 0 Q) : JW G X (RX7, cX7_seat, 6) h [(0, .ref v0), (1, .int v1), (2, .int v2), (3, .int v3), (4, .int v4), (5, .int v5)] [] 48 0 0 Q := by
  unfold f_X7_seat_l48 at hf
  refine J_iload E (jd dk_X7_seat_0 31 rfl) 5 rfl ?_
  refine J_if_lt (tgt := 109) E (jd dk_X7_seat_0 32 rfl) (by decide) (fun c1 => ?_) (fun c1 => ?_)
  · replace hf := jif_t c1 hf
    refine J_sub [0, 1, 2, 3, 4] rfl ?_
    exact ke0 _ (Option.some.inj hf).symm
  · replace hf := jif_f c1 hf
    refine J_aload_n E (jd dk_X7_seat_0 33 rfl) rfl 0 rfl ?_
    refine J_iload E (jd dk_X7_seat_0 34 rfl) 4 rfl ?_
    refine J_iload E (jd dk_X7_seat_0 35 rfl) 5 rfl ?_
    refine J_iload_n E (jd dk_X7_seat_0 36 rfl) rfl 2 rfl ?_
    obtain ⟨u4, e5, hf⟩ := jbind hf
    obtain ⟨r2, e3, hf⟩ := jbind hf
    refine J_callV E (jd dk_X7_seat_0 37 rfl) ml_RX7_425 cal_X7_may e5 rfl (lk_X7_may (jE_g E) (jE_tr E) N e3) rfl (Nat.le_of_ble_eq_true rfl) (jR_le hX (by decide) (by decide)) (jF0 hX) rfl ?_
    rintro _ _ ⟨rfl, rfl⟩
    refine J_if_eq (tgt := 103) E (jd dk_X7_seat_0 38 rfl) (by decide) (fun c6 => ?_) (fun c6 => ?_)
    · replace hf := jif_t c6 hf
      exact lk_X7_seat_b103 E hX hr N hf kb ke0
    · replace hf := jif_f c6 hf
      refine J_aload_n E (jd dk_X7_seat_0 39 rfl) rfl 0 rfl ?_
      obtain ⟨x7, e8, hf⟩ := jbind hf
      refine J_getr E (jd dk_X7_seat_0 40 rfl) fl_RX7_72 e8 ?_
      refine J_iload E (jd dk_X7_seat_0 41 rfl) 5 rfl ?_
      obtain ⟨x9, e10, hf⟩ := jbind hf
      refine J_iald E (jd dk_X7_seat_0 42 rfl) e10 ?_
      refine J_aload_n E (jd dk_X7_seat_0 43 rfl) rfl 0 rfl ?_
      refine J_iload E (jd dk_X7_seat_0 44 rfl) 4 rfl ?_
      refine J_iload_n E (jd dk_X7_seat_0 45 rfl) rfl 2 rfl ?_
      refine J_iconst (v := 1) E (jd dk_X7_seat_0 46 rfl) rfl ?_
      refine J_iload E (jd dk_X7_seat_0 47 rfl) 5 rfl ?_
      refine J_ishl E (jd dk_X7_seat_0 48 rfl) ?_
      refine J_ior E (jd dk_X7_seat_0 49 rfl) ?_
      obtain ⟨u13, e14, hf⟩ := jbind hf
      obtain ⟨r11, e12, hf⟩ := jbind hf
      refine J_callV E (jd dk_X7_seat_1 0 rfl) ml_RX7_422 cal_X7_goesOn e14 rfl (lk_X7_goesOn (jE_g E) (jE_tr E) N e12) rfl (Nat.le_of_ble_eq_true rfl) (jR_le hX (by decide) (by decide)) (jF0 hX) rfl ?_
      rintro _ _ ⟨rfl, rfl⟩
      refine J_iadd E (jd dk_X7_seat_1 1 rfl) ?_
      refine J_aload_n E (jd dk_X7_seat_1 2 rfl) rfl 0 rfl ?_
      obtain ⟨x15, e16, hf⟩ := jbind hf
      refine J_getr E (jd dk_X7_seat_1 3 rfl) fl_RX7_109 e16 ?_
      refine J_iload E (jd dk_X7_seat_1 4 rfl) 4 rfl ?_
      refine J_bipush (v := 8) E (jd dk_X7_seat_1 5 rfl) (by decide) ?_
      refine J_ishl E (jd dk_X7_seat_1 6 rfl) ?_
      refine J_iload_n E (jd dk_X7_seat_1 7 rfl) rfl 2 rfl ?_
      refine J_iadd E (jd dk_X7_seat_1 8 rfl) ?_
      obtain ⟨x17, e18, hf⟩ := jbind hf
      refine J_iald E (jd dk_X7_seat_1 9 rfl) e18 ?_
      refine J_icmp_ne (tgt := 103) E (jd dk_X7_seat_1 10 rfl) (by decide) (fun c19 => ?_) (fun c19 => ?_)
      · replace hf := jif_f c19 hf
        exact lk_X7_seat_b103 E hX hr N hf kb ke0
      · replace hf := jif_t c19 hf
        refine J_iload E (jd dk_X7_seat_1 11 rfl) 5 rfl ?_
        refine J_istore_n (lv' := [(3, .int v5), (0, .ref v0), (1, .int v1), (2, .int v2), (4, .int v4), (5, .int v5)]) E (jd dk_X7_seat_1 12 rfl) rfl (by decide) rfl ?_
        refine J_sub [1, 2, 3, 0, 4, 5] rfl ?_
        exact lk_X7_seat_b103 E hX hr N hf kb ke0
set_option maxRecDepth 100000 in
set_option maxHeartbeats 4000000 in
theorem lk_X7_seat_b48 {G : JG} {X : JX} (E : jE G X (RX7, cX7_seat, 6)) (hX : X.2.2.2.1 = jRm 3 0 0) (hr : X.2.2.2.2.2.2.2.2.1.sig.returnType = (some .int)) (N : Nat) {Q : State → Prop} {v0 : Nat} {v1 : Int32} {v2 : Int32} {v3 : Int32} {v4 : Int32} {v5 : Int32} {h : AH}  {q : ((Int32 × Int32 × Int32 × AH) ⊕ ((Int32 × AH)))} (hf : f_X7_seat_b48 N v0 v1 v2 v3 v4 v5 h = some q) (kb : ∀ s' : Int32 × Int32 × Int32 × AH, q = .inl s' → JW G X (RX7, cX7_seat, 6) s'.2.2.2 [(0, .ref v0), (1, .int v1), (2, .int s'.1), (3, .int s'.2.1), (4, .int s'.2.2.1)] [] 30 0 0 Q) (ke0 : ∀ e : Int32 × AH, q = .inr e → JW G X (RX7, cX7_seat, 6) e.2 [(3, .int e.1)] [] 130 0 0 Q) : JW G X (RX7, cX7_seat, 6) h [(0, .ref v0), (1, .int v1), (2, .int v2), (3, .int v3), (4, .int v4), (5, .int v5)] [] 48 0 0 Q := by
  unfold f_X7_seat_b48 at hf
  obtain ⟨q1, h1, hf⟩ := jbind hf
  refine jloop (P := fun s => JW G X (RX7, cX7_seat, 6) s.2.2 [(0, .ref v0), (1, .int v1), (2, .int v2), (3, .int s.1), (4, .int v4), (5, .int s.2.1)] [] 48 0 0 Q) (Ex := fun (e : Int32 × AH) => JW G X (RX7, cX7_seat, 6) e.2 [(0, .ref v0), (1, .int v1), (2, .int v2), (3, .int e.1), (4, .int v4)] [] 109 0 0 Q) (fun s q hs hb hx => lk_X7_seat_l48 E hX hr N hs (fun s' hs => hb s' hs) (fun e he => hx e he)) N _ q1 h1 ?_
  generalize q1 = e at hf ⊢
  refine J_iload_n E (jd dk_X7_seat_1 15 rfl) rfl 2 rfl ?_
  refine J_iload_n E (jd dk_X7_seat_1 16 rfl) rfl 3 rfl ?_
  refine J_iconst (v := (-1)) E (jd dk_X7_seat_1 17 rfl) rfl ?_
  refine J_icmp_ne (tgt := 119) E (jd dk_X7_seat_1 18 rfl) (by decide) (fun c20 => ?_) (fun c20 => ?_)
  · replace hf := jif_f c20 hf
    refine J_iconst (v := 1) E (jd dk_X7_seat_1 21 rfl) rfl ?_
    refine J_iload_n E (jd dk_X7_seat_1 22 rfl) rfl 3 rfl ?_
    refine J_ishl E (jd dk_X7_seat_1 23 rfl) ?_
    refine J_sub [0, 1, 3, 4] rfl ?_
    exact lk_X7_seat_b122 E hX hr N hf kb ke0
  · replace hf := jif_t c20 hf
    refine J_iconst (v := 0) E (jd dk_X7_seat_1 19 rfl) rfl ?_
    refine J_goto (tgt := 122) E (jd dk_X7_seat_1 20 rfl) (by decide) ?_
    refine J_sub [0, 1, 3, 4] rfl ?_
    exact lk_X7_seat_b122 E hX hr N hf kb ke0
set_option maxRecDepth 100000 in
set_option maxHeartbeats 4000000 in
theorem lk_X7_seat_l30 {G : JG} {X : JX} (E : jE G X (RX7, cX7_seat, 6)) (hX : X.2.2.2.1 = jRm 3 0 0) (hr : X.2.2.2.2.2.2.2.2.1.sig.returnType = (some .int)) (N : Nat) {Q : State → Prop} {v0 : Nat} {v1 : Int32} {v2 : Int32} {v3 : Int32} {v4 : Int32}  {h : AH} {q : ((Int32 × Int32 × Int32 × AH) ⊕ ((Int32 × AH)))} (hf : f_X7_seat_l30 N v0 v1 v2 v3 v4 h = some q) (kb : ∀ s' : Int32 × Int32 × Int32 × AH, q = .inl s' → JW G X (RX7, cX7_seat, 6) s'.2.2.2 [(0, .ref v0), (1, .int v1), (2, .int s'.1), (3, .int s'.2.1), (4, .int s'.2.2.1)] [] 30 0 0 Q) (ke0 : ∀ e : Int32 × AH, q = .inr e → JW G X (RX7, cX7_seat, 6) e.2 [(3, .int e.1)] [] 130 0 0 Q) : JW G X (RX7, cX7_seat, 6) h [(0, .ref v0), (1, .int v1), (2, .int v2), (3, .int v3), (4, .int v4)] [] 30 0 0 Q := by
  unfold f_X7_seat_l30 at hf
  refine J_iload E (jd dk_X7_seat_0 19 rfl) 4 rfl ?_
  refine J_iload_n E (jd dk_X7_seat_0 20 rfl) rfl 1 rfl ?_
  refine J_icmp_gt (tgt := 130) E (jd dk_X7_seat_0 21 rfl) (by decide) (fun c21 => ?_) (fun c21 => ?_)
  · replace hf := jif_t c21 hf
    refine J_sub [3] rfl ?_
    exact ke0 _ (Option.some.inj hf).symm
  · replace hf := jif_f c21 hf
    refine J_iconst (v := (-1)) E (jd dk_X7_seat_0 22 rfl) rfl ?_
    refine J_istore_n (lv' := [(3, .int ((-1))), (0, .ref v0), (1, .int v1), (2, .int v2), (4, .int v4)]) E (jd dk_X7_seat_0 23 rfl) rfl (by decide) rfl ?_
    refine J_aload_n E (jd dk_X7_seat_0 24 rfl) rfl 1 rfl ?_
    obtain ⟨x22, e23, hf⟩ := jbind hf
    refine J_getr E (jd dk_X7_seat_0 25 rfl) fl_RX7_42 e23 ?_
    refine J_iconst (v := 2) E (jd dk_X7_seat_0 26 rfl) rfl ?_
    obtain ⟨x24, e25, hf⟩ := jbind hf
    refine J_iald E (jd dk_X7_seat_0 27 rfl) e25 ?_
    refine J_iconst (v := 1) E (jd dk_X7_seat_0 28 rfl) rfl ?_
    refine J_isub E (jd dk_X7_seat_0 29 rfl) ?_
    refine J_istore (lv' := [(5, .int (x24 - 1)), (3, .int ((-1))), (0, .ref v0), (1, .int v1), (2, .int v2), (4, .int v4)]) E (jd dk_X7_seat_0 30 rfl) (by decide) rfl ?_
    refine J_sub [2, 3, 4, 1, 5, 0] rfl ?_
    exact lk_X7_seat_b48 E hX hr N hf kb ke0
set_option maxRecDepth 100000 in
set_option maxHeartbeats 4000000 in
theorem lk_X7_seat_b30 {G : JG} {X : JX} (E : jE G X (RX7, cX7_seat, 6)) (hX : X.2.2.2.1 = jRm 3 0 0) (hr : X.2.2.2.2.2.2.2.2.1.sig.returnType = (some .int)) (N : Nat) {v0 : Nat} {v1 : Int32} {v2 : Int32} {v3 : Int32} {v4 : Int32} {h : AH}  {r : (Int32 × AH)} (hf : f_X7_seat_b30 N v0 v1 v2 v3 v4 h = some r) : JW G X (RX7, cX7_seat, 6) h [(0, .ref v0), (1, .int v1), (2, .int v2), (3, .int v3), (4, .int v4)] [] 30 0 0 (jEnd G X (jpi r) 0 0) := by
  unfold f_X7_seat_b30 at hf
  obtain ⟨q1, h1, hf⟩ := jbind hf
  refine jloop (P := fun s => JW G X (RX7, cX7_seat, 6) s.2.2.2 [(0, .ref v0), (1, .int v1), (2, .int s.1), (3, .int s.2.1), (4, .int s.2.2.1)] [] 30 0 0 (jEnd G X (jpi r) 0 0)) (Ex := fun (e : Int32 × AH) => JW G X (RX7, cX7_seat, 6) e.2 [(3, .int e.1)] [] 130 0 0 (jEnd G X (jpi r) 0 0)) (fun s q hs hb hx => lk_X7_seat_l30 E hX hr N hs (fun s' hs => hb s' hs) (fun e he => hx e he)) N _ q1 h1 ?_
  generalize q1 = e at hf ⊢
  refine J_iload_n E (jd dk_X7_seat_1 28 rfl) rfl 0 rfl ?_
  cases hf
  exact J_iret E hr rfl (jd dk_X7_seat_1 29 rfl) (Nat.le_refl _) (Nat.le_refl _) ⟨rfl, rfl⟩
set_option maxRecDepth 100000 in
set_option maxHeartbeats 4000000 in
theorem lk_X7_seat {G : JG} {l : Launch} (hG : jG G) (htr : l.stackTraces = false) (N : Nat) {h : AH} {a0 : Nat} {a1 : Int32} {r : (Int32 × AH)} (hf : f_X7_seat N h a0 a1 = some r) : jMet G l yX7_seat cX7_seat 6 (some .int) 3 0 0 [.ref a0, .int a1] h (jpi r) := by
  unfold f_X7_seat at hf
  refine jMet_of hG htr (by decide) (Nat.le_of_ble_eq_true rfl) ?_
  intro X E hl9 hr hX _ _
  show JW G X (RX7, cX7_seat, 6) h [(0, .ref a0), (1, .int a1)] [] 0 0 0 (jEnd G X (jpi r) 0 0)
  refine J_aload_n E (jd dk_X7_seat_0 0 rfl) rfl 0 rfl ?_
  refine J_iconst (v := 0) E (jd dk_X7_seat_0 1 rfl) rfl ?_
  obtain ⟨h26, e27, hf⟩ := jbind hf
  refine J_put E (jd dk_X7_seat_0 2 rfl) fl_RX7_151 e27 (fun _ => rfl) (fun _ => rfl) ?_
  refine J_aload_n E (jd dk_X7_seat_0 3 rfl) rfl 0 rfl ?_
  refine J_iload_n E (jd dk_X7_seat_0 4 rfl) rfl 1 rfl ?_
  obtain ⟨u30, e31, hf⟩ := jbind hf
  obtain ⟨r28, e29, hf⟩ := jbind hf
  refine J_callV E (jd dk_X7_seat_0 5 rfl) ml_RX7_400 cal_X7_isSide e31 rfl (lk_X7_isSide (jE_g E) (jE_tr E) N e29) rfl (Nat.le_of_ble_eq_true rfl) (jR_le hX (by decide) (by decide)) (jF0 hX) rfl ?_
  rintro _ _ ⟨rfl, rfl⟩
  refine J_if_ne (tgt := 19) E (jd dk_X7_seat_0 6 rfl) (by decide) (fun c32 => ?_) (fun c32 => ?_)
  · replace hf := jif_f c32 hf
    refine J_aload_n E (jd dk_X7_seat_0 11 rfl) rfl 0 rfl ?_
    obtain ⟨u35, e36, hf⟩ := jbind hf
    obtain ⟨r33, e34, hf⟩ := jbind hf
    refine J_callV E (jd dk_X7_seat_0 12 rfl) ml_RX7_429 cal_X7_tellPanel e36 rfl (lk_X7_tellPanel (jE_g E) (jE_tr E) N e34) rfl (Nat.le_of_ble_eq_true rfl) (jR_le hX (by decide) (by decide)) (jF0 hX) rfl ?_
    rintro _ _ ⟨rfl, rfl⟩
    refine J_iconst (v := 0) E (jd dk_X7_seat_0 13 rfl) rfl ?_
    refine J_istore_n (lv' := [(2, .int 0), (0, .ref a0), (1, .int a1)]) E (jd dk_X7_seat_0 14 rfl) rfl (by decide) rfl ?_
    refine J_iconst (v := (-1)) E (jd dk_X7_seat_0 15 rfl) rfl ?_
    refine J_istore_n (lv' := [(3, .int ((-1))), (2, .int 0), (0, .ref a0), (1, .int a1)]) E (jd dk_X7_seat_0 16 rfl) rfl (by decide) rfl ?_
    refine J_iconst (v := 0) E (jd dk_X7_seat_0 17 rfl) rfl ?_
    refine J_istore (lv' := [(4, .int 0), (3, .int ((-1))), (2, .int 0), (0, .ref a0), (1, .int a1)]) E (jd dk_X7_seat_0 18 rfl) (by decide) rfl ?_
    refine J_sub [3, 4, 2, 1, 0] rfl ?_
    exact lk_X7_seat_b30 E hX hr N hf
  · replace hf := jif_t c32 hf
    refine J_aload_n E (jd dk_X7_seat_0 7 rfl) rfl 0 rfl ?_
    refine J_iconst (v := 1) E (jd dk_X7_seat_0 8 rfl) rfl ?_
    obtain ⟨u39, e40, hf⟩ := jbind hf
    obtain ⟨r37, e38, hf⟩ := jbind hf
    refine J_callV E (jd dk_X7_seat_0 9 rfl) ml_RX7_293 cal_X7_fail e40 rfl (lk_X7_fail (jE_g E) (jE_tr E) N e38) rfl (Nat.le_of_ble_eq_true rfl) (jR_le hX (by decide) (by decide)) (jF0 hX) rfl ?_
    rintro _ _ ⟨rfl, rfl⟩
    cases hf
    exact J_iret E hr rfl (jd dk_X7_seat_0 10 rfl) (Nat.le_refl _) (Nat.le_refl _) ⟨rfl, rfl⟩
def f_X7_unlike_b40 (N : Nat) (v0 : Nat) (h : AH) : Option (Int32 × AH) :=
  (jck 7 h v0).bind fun _ =>
  (f_X7_fail N h v0 1).bind fun r1 =>
  some (r1.1, r1.2)
def f_X7_unlike (N : Nat) (h : AH) (a0 : Nat) (a1 : Int32) (a2 : Int32) : Option (Int32 × AH) :=
  (jwi 7 h a0 4 0).bind fun h5 =>
  (jck 7 h5 a0).bind fun _ =>
  (f_X7_isJudge N h5 a0 a1).bind fun r7 =>
  if r7.1 = 0 then f_X7_unlike_b40 N a0 r7.2
  else (jck 7 r7.2 a0).bind fun _ =>
  (f_X7_isJudge N r7.2 a0 a2).bind fun r12 =>
  if r12.1 = 0 then f_X7_unlike_b40 N a0 r12.2
  else (jgr 7 r12.2 a0 30).bind fun x17 =>
  (jal 0 r12.2 x17 a1).bind fun x19 =>
  (jgr 7 r12.2 a0 30).bind fun x21 =>
  (jal 0 r12.2 x21 a2).bind fun x23 =>
  (f_X7_bitsOf N r12.2 (x19 ^^^ x23)).bind fun r25 =>
  some (r25.1, r25.2)
set_option maxRecDepth 100000 in
set_option maxHeartbeats 4000000 in
theorem lk_X7_unlike_b40 {G : JG} {X : JX} (E : jE G X (RX7, cX7_unlike, 3)) (hX : X.2.2.2.1 = jRm 2 0 0) (hr : X.2.2.2.2.2.2.2.2.1.sig.returnType = (some .int)) (N : Nat) {v0 : Nat} {h : AH}  {r : (Int32 × AH)} (hf : f_X7_unlike_b40 N v0 h = some r) : JW G X (RX7, cX7_unlike, 3) h [(0, .ref v0)] [] 40 0 0 (jEnd G X (jpi r) 0 0) := by
  unfold f_X7_unlike_b40 at hf
  refine J_aload_n E (jd dk_X7_unlike_0 22 rfl) rfl 0 rfl ?_
  refine J_iconst (v := 1) E (jd dk_X7_unlike_0 23 rfl) rfl ?_
  obtain ⟨u3, e4, hf⟩ := jbind hf
  obtain ⟨r1, e2, hf⟩ := jbind hf
  refine J_callV E (jd dk_X7_unlike_0 24 rfl) ml_RX7_293 cal_X7_fail e4 rfl (lk_X7_fail (jE_g E) (jE_tr E) N e2) rfl (Nat.le_of_ble_eq_true rfl) (jR_le hX (by decide) (by decide)) (jF0 hX) rfl ?_
  rintro _ _ ⟨rfl, rfl⟩
  cases hf
  exact J_iret E hr rfl (jd dk_X7_unlike_0 25 rfl) (Nat.le_refl _) (Nat.le_refl _) ⟨rfl, rfl⟩
set_option maxRecDepth 100000 in
set_option maxHeartbeats 4000000 in
theorem lk_X7_unlike {G : JG} {l : Launch} (hG : jG G) (htr : l.stackTraces = false) (N : Nat) {h : AH} {a0 : Nat} {a1 : Int32} {a2 : Int32} {r : (Int32 × AH)} (hf : f_X7_unlike N h a0 a1 a2 = some r) : jMet G l yX7_unlike cX7_unlike 3 (some .int) 2 0 0 [.ref a0, .int a1, .int a2] h (jpi r) := by
  unfold f_X7_unlike at hf
  refine jMet_of hG htr (by decide) (Nat.le_of_ble_eq_true rfl) ?_
  intro X E hl9 hr hX _ _
  show JW G X (RX7, cX7_unlike, 3) h [(0, .ref a0), (1, .int a1), (2, .int a2)] [] 0 0 0 (jEnd G X (jpi r) 0 0)
  refine J_aload_n E (jd dk_X7_unlike_0 0 rfl) rfl 0 rfl ?_
  refine J_iconst (v := 0) E (jd dk_X7_unlike_0 1 rfl) rfl ?_
  obtain ⟨h5, e6, hf⟩ := jbind hf
  refine J_put E (jd dk_X7_unlike_0 2 rfl) fl_RX7_151 e6 (fun _ => rfl) (fun _ => rfl) ?_
  refine J_aload_n E (jd dk_X7_unlike_0 3 rfl) rfl 0 rfl ?_
  refine J_iload_n E (jd dk_X7_unlike_0 4 rfl) rfl 1 rfl ?_
  obtain ⟨u9, e10, hf⟩ := jbind hf
  obtain ⟨r7, e8, hf⟩ := jbind hf
  refine J_callV E (jd dk_X7_unlike_0 5 rfl) ml_RX7_382 cal_X7_isJudge e10 rfl (lk_X7_isJudge (jE_g E) (jE_tr E) N e8) rfl (Nat.le_of_ble_eq_true rfl) (jR_le hX (by decide) (by decide)) (jF0 hX) rfl ?_
  rintro _ _ ⟨rfl, rfl⟩
  refine J_if_eq (tgt := 40) E (jd dk_X7_unlike_0 6 rfl) (by decide) (fun c11 => ?_) (fun c11 => ?_)
  · replace hf := jif_t c11 hf
    refine J_sub [0] rfl ?_
    exact lk_X7_unlike_b40 E hX hr N hf
  · replace hf := jif_f c11 hf
    refine J_aload_n E (jd dk_X7_unlike_0 7 rfl) rfl 0 rfl ?_
    refine J_iload_n E (jd dk_X7_unlike_0 8 rfl) rfl 2 rfl ?_
    obtain ⟨u14, e15, hf⟩ := jbind hf
    obtain ⟨r12, e13, hf⟩ := jbind hf
    refine J_callV E (jd dk_X7_unlike_0 9 rfl) ml_RX7_382 cal_X7_isJudge e15 rfl (lk_X7_isJudge (jE_g E) (jE_tr E) N e13) rfl (Nat.le_of_ble_eq_true rfl) (jR_le hX (by decide) (by decide)) (jF0 hX) rfl ?_
    rintro _ _ ⟨rfl, rfl⟩
    refine J_if_eq (tgt := 40) E (jd dk_X7_unlike_0 10 rfl) (by decide) (fun c16 => ?_) (fun c16 => ?_)
    · replace hf := jif_t c16 hf
      refine J_sub [0] rfl ?_
      exact lk_X7_unlike_b40 E hX hr N hf
    · replace hf := jif_f c16 hf
      refine J_aload_n E (jd dk_X7_unlike_0 11 rfl) rfl 0 rfl ?_
      obtain ⟨x17, e18, hf⟩ := jbind hf
      refine J_getr E (jd dk_X7_unlike_0 12 rfl) fl_RX7_87 e18 ?_
      refine J_iload_n E (jd dk_X7_unlike_0 13 rfl) rfl 1 rfl ?_
      obtain ⟨x19, e20, hf⟩ := jbind hf
      refine J_iald E (jd dk_X7_unlike_0 14 rfl) e20 ?_
      refine J_aload_n E (jd dk_X7_unlike_0 15 rfl) rfl 0 rfl ?_
      obtain ⟨x21, e22, hf⟩ := jbind hf
      refine J_getr E (jd dk_X7_unlike_0 16 rfl) fl_RX7_87 e22 ?_
      refine J_iload_n E (jd dk_X7_unlike_0 17 rfl) rfl 2 rfl ?_
      obtain ⟨x23, e24, hf⟩ := jbind hf
      refine J_iald E (jd dk_X7_unlike_0 18 rfl) e24 ?_
      refine J_ixor E (jd dk_X7_unlike_0 19 rfl) ?_
      obtain ⟨r25, e26, hf⟩ := jbind hf
      refine J_callS E (jd dk_X7_unlike_0 20 rfl) ml_RX7_327 cal_X7_bitsOf (lk_X7_bitsOf (jE_g E) (jE_tr E) N e26) rfl (Nat.le_of_ble_eq_true rfl) (jR_le hX (by decide) (by decide)) (jF0 hX) rfl ?_
      rintro _ _ ⟨rfl, rfl⟩
      refine J_goto (tgt := 45) E (jd dk_X7_unlike_0 21 rfl) (by decide) ?_
      cases hf
      exact J_iret E hr rfl (jd dk_X7_unlike_0 25 rfl) (Nat.le_refl _) (Nat.le_refl _) ⟨rfl, rfl⟩
def f_X7_see_b48 (N : Nat) (v0 : Nat) (h : AH) : Option (Int32 × AH) :=
  (jck 7 h v0).bind fun _ =>
  (f_X7_refuse N h v0 2).bind fun r1 =>
  some (r1.1, r1.2)
def f_X7_see (N : Nat) (h : AH) (a0 : Nat) (a1 : Int32) (a2 : Int32) (a3 : Int32) : Option (Int32 × AH) :=
  (jwi 7 h a0 4 0).bind fun h5 =>
  (jck 7 h5 a0).bind fun _ =>
  (f_X7_isJudge N h5 a0 a1).bind fun r7 =>
  if r7.1 = 0 then (jck 7 r7.2 a0).bind fun _ =>
  (f_X7_fail N r7.2 a0 1).bind fun r47 =>
  some (r47.1, r47.2)
  else (jgi 7 r7.2 a0 36).bind fun x12 =>
  if x12 = 8 then f_X7_see_b48 N a0 r7.2
  else (f_X7_isIn N r7.2 (Int32.toInt64 a2) 0 20).bind fun r15 =>
  if r15.1 = 0 then f_X7_see_b48 N a0 r15.2
  else (jck 7 r15.2 a0).bind fun _ =>
  (f_X7_isSide N r15.2 a0 a3).bind fun r18 =>
  if r18.1 = 0 then f_X7_see_b48 N a0 r18.2
  else (jgr 7 r18.2 a0 43).bind fun x23 =>
  (jgi 7 r18.2 a0 36).bind fun x25 =>
  (jas 0 r18.2 x23 x25 a1).bind fun h27 =>
  (jgr 7 h27 a0 44).bind fun x29 =>
  (jgi 7 h27 a0 36).bind fun x31 =>
  (jas 0 h27 x29 x31 a2).bind fun h33 =>
  (jgr 7 h33 a0 45).bind fun x35 =>
  (jgi 7 h33 a0 36).bind fun x37 =>
  (jas 0 h33 x35 x37 a3).bind fun h39 =>
  (jgi 7 h39 a0 36).bind fun x41 =>
  (jwi 7 h39 a0 36 (x41 + 1)).bind fun h43 =>
  (jgi 7 h43 a0 36).bind fun x45 =>
  some (x45, h43)
set_option maxRecDepth 100000 in
set_option maxHeartbeats 4000000 in
theorem lk_X7_see_b48 {G : JG} {X : JX} (E : jE G X (RX7, cX7_see, 4)) (hX : X.2.2.2.1 = jRm 2 0 0) (hr : X.2.2.2.2.2.2.2.2.1.sig.returnType = (some .int)) (N : Nat) {v0 : Nat} {h : AH}  {r : (Int32 × AH)} (hf : f_X7_see_b48 N v0 h = some r) : JW G X (RX7, cX7_see, 4) h [(0, .ref v0)] [] 48 0 0 (jEnd G X (jpi r) 0 0) := by
  unfold f_X7_see_b48 at hf
  refine J_aload_n E (jd dk_X7_see_0 25 rfl) rfl 0 rfl ?_
  refine J_iconst (v := 2) E (jd dk_X7_see_0 26 rfl) rfl ?_
  obtain ⟨u3, e4, hf⟩ := jbind hf
  obtain ⟨r1, e2, hf⟩ := jbind hf
  refine J_callV E (jd dk_X7_see_0 27 rfl) ml_RX7_391 cal_X7_refuse e4 rfl (lk_X7_refuse (jE_g E) (jE_tr E) N e2) rfl (Nat.le_of_ble_eq_true rfl) (jR_le hX (by decide) (by decide)) (jF0 hX) rfl ?_
  rintro _ _ ⟨rfl, rfl⟩
  cases hf
  exact J_iret E hr rfl (jd dk_X7_see_0 28 rfl) (Nat.le_refl _) (Nat.le_refl _) ⟨rfl, rfl⟩
set_option maxRecDepth 100000 in
set_option maxHeartbeats 4000000 in
theorem lk_X7_see {G : JG} {l : Launch} (hG : jG G) (htr : l.stackTraces = false) (N : Nat) {h : AH} {a0 : Nat} {a1 : Int32} {a2 : Int32} {a3 : Int32} {r : (Int32 × AH)} (hf : f_X7_see N h a0 a1 a2 a3 = some r) : jMet G l yX7_see cX7_see 4 (some .int) 2 0 0 [.ref a0, .int a1, .int a2, .int a3] h (jpi r) := by
  unfold f_X7_see at hf
  refine jMet_of hG htr (by decide) (Nat.le_of_ble_eq_true rfl) ?_
  intro X E hl9 hr hX _ _
  show JW G X (RX7, cX7_see, 4) h [(0, .ref a0), (1, .int a1), (2, .int a2), (3, .int a3)] [] 0 0 0 (jEnd G X (jpi r) 0 0)
  refine J_aload_n E (jd dk_X7_see_0 0 rfl) rfl 0 rfl ?_
  refine J_iconst (v := 0) E (jd dk_X7_see_0 1 rfl) rfl ?_
  obtain ⟨h5, e6, hf⟩ := jbind hf
  refine J_put E (jd dk_X7_see_0 2 rfl) fl_RX7_151 e6 (fun _ => rfl) (fun _ => rfl) ?_
  refine J_aload_n E (jd dk_X7_see_0 3 rfl) rfl 0 rfl ?_
  refine J_iload_n E (jd dk_X7_see_0 4 rfl) rfl 1 rfl ?_
  obtain ⟨u9, e10, hf⟩ := jbind hf
  obtain ⟨r7, e8, hf⟩ := jbind hf
  refine J_callV E (jd dk_X7_see_0 5 rfl) ml_RX7_382 cal_X7_isJudge e10 rfl (lk_X7_isJudge (jE_g E) (jE_tr E) N e8) rfl (Nat.le_of_ble_eq_true rfl) (jR_le hX (by decide) (by decide)) (jF0 hX) rfl ?_
  rintro _ _ ⟨rfl, rfl⟩
  refine J_if_ne (tgt := 19) E (jd dk_X7_see_0 6 rfl) (by decide) (fun c11 => ?_) (fun c11 => ?_)
  · replace hf := jif_f c11 hf
    refine J_aload_n E (jd dk_X7_see_0 11 rfl) rfl 0 rfl ?_
    obtain ⟨x12, e13, hf⟩ := jbind hf
    refine J_geti E (jd dk_X7_see_0 12 rfl) fl_RX7_312 e13 ?_
    refine J_bipush (v := 8) E (jd dk_X7_see_0 13 rfl) (by decide) ?_
    refine J_icmp_eq (tgt := 48) E (jd dk_X7_see_0 14 rfl) (by decide) (fun c14 => ?_) (fun c14 => ?_)
    · replace hf := jif_t c14 hf
      refine J_sub [0] rfl ?_
      exact lk_X7_see_b48 E hX hr N hf
    · replace hf := jif_f c14 hf
      refine J_iload_n E (jd dk_X7_see_0 15 rfl) rfl 2 rfl ?_
      refine J_i2l E (jd dk_X7_see_0 16 rfl) ?_
      refine J_lconst (v := 0) E (jd dk_X7_see_0 17 rfl) (by decide) ?_
      refine J_ldc2 (v := 20) E (jd dk_X7_see_0 18 rfl) (jl30_in _ (List.mem_of_getElem? (i := 25) rfl)) ?_
      obtain ⟨r15, e16, hf⟩ := jbind hf
      refine J_callS E (jd dk_X7_see_0 19 rfl) ml_RX7_154 cal_X7_isIn (lk_X7_isIn (jE_g E) (jE_tr E) N e16) rfl (Nat.le_of_ble_eq_true rfl) (jR_le hX (by decide) (by decide)) (jF0 hX) rfl ?_
      rintro _ _ ⟨rfl, rfl⟩
      refine J_if_eq (tgt := 48) E (jd dk_X7_see_0 20 rfl) (by decide) (fun c17 => ?_) (fun c17 => ?_)
      · replace hf := jif_t c17 hf
        refine J_sub [0] rfl ?_
        exact lk_X7_see_b48 E hX hr N hf
      · replace hf := jif_f c17 hf
        refine J_aload_n E (jd dk_X7_see_0 21 rfl) rfl 0 rfl ?_
        refine J_iload_n E (jd dk_X7_see_0 22 rfl) rfl 3 rfl ?_
        obtain ⟨u20, e21, hf⟩ := jbind hf
        obtain ⟨r18, e19, hf⟩ := jbind hf
        refine J_callV E (jd dk_X7_see_0 23 rfl) ml_RX7_400 cal_X7_isSide e21 rfl (lk_X7_isSide (jE_g E) (jE_tr E) N e19) rfl (Nat.le_of_ble_eq_true rfl) (jR_le hX (by decide) (by decide)) (jF0 hX) rfl ?_
        rintro _ _ ⟨rfl, rfl⟩
        refine J_if_ne (tgt := 54) E (jd dk_X7_see_0 24 rfl) (by decide) (fun c22 => ?_) (fun c22 => ?_)
        · replace hf := jif_f c22 hf
          refine J_aload_n E (jd dk_X7_see_0 29 rfl) rfl 0 rfl ?_
          obtain ⟨x23, e24, hf⟩ := jbind hf
          refine J_getr E (jd dk_X7_see_0 30 rfl) fl_RX7_112 e24 ?_
          refine J_aload_n E (jd dk_X7_see_0 31 rfl) rfl 0 rfl ?_
          obtain ⟨x25, e26, hf⟩ := jbind hf
          refine J_geti E (jd dk_X7_see_0 32 rfl) fl_RX7_312 e26 ?_
          refine J_iload_n E (jd dk_X7_see_0 33 rfl) rfl 1 rfl ?_
          obtain ⟨h27, e28, hf⟩ := jbind hf
          refine J_iast E (jd dk_X7_see_0 34 rfl) e28 ?_
          refine J_aload_n E (jd dk_X7_see_0 35 rfl) rfl 0 rfl ?_
          obtain ⟨x29, e30, hf⟩ := jbind hf
          refine J_getr E (jd dk_X7_see_0 36 rfl) fl_RX7_115 e30 ?_
          refine J_aload_n E (jd dk_X7_see_0 37 rfl) rfl 0 rfl ?_
          obtain ⟨x31, e32, hf⟩ := jbind hf
          refine J_geti E (jd dk_X7_see_0 38 rfl) fl_RX7_312 e32 ?_
          refine J_iload_n E (jd dk_X7_see_0 39 rfl) rfl 2 rfl ?_
          obtain ⟨h33, e34, hf⟩ := jbind hf
          refine J_iast E (jd dk_X7_see_0 40 rfl) e34 ?_
          refine J_aload_n E (jd dk_X7_see_0 41 rfl) rfl 0 rfl ?_
          obtain ⟨x35, e36, hf⟩ := jbind hf
          refine J_getr E (jd dk_X7_see_0 42 rfl) fl_RX7_118 e36 ?_
          refine J_aload_n E (jd dk_X7_see_0 43 rfl) rfl 0 rfl ?_
          obtain ⟨x37, e38, hf⟩ := jbind hf
          refine J_geti E (jd dk_X7_see_0 44 rfl) fl_RX7_312 e38 ?_
          refine J_iload_n E (jd dk_X7_see_0 45 rfl) rfl 3 rfl ?_
          obtain ⟨h39, e40, hf⟩ := jbind hf
          refine J_iast E (jd dk_X7_see_0 46 rfl) e40 ?_
          refine J_aload_n E (jd dk_X7_see_0 47 rfl) rfl 0 rfl ?_
          refine J_dup E (jd dk_X7_see_0 48 rfl) rfl ?_
          obtain ⟨x41, e42, hf⟩ := jbind hf
          refine J_geti E (jd dk_X7_see_0 49 rfl) fl_RX7_312 e42 ?_
          refine J_iconst (v := 1) E (jd dk_X7_see_1 0 rfl) rfl ?_
          refine J_iadd E (jd dk_X7_see_1 1 rfl) ?_
          obtain ⟨h43, e44, hf⟩ := jbind hf
          refine J_put E (jd dk_X7_see_1 2 rfl) fl_RX7_312 e44 (fun _ => rfl) (fun _ => rfl) ?_
          refine J_aload_n E (jd dk_X7_see_1 3 rfl) rfl 0 rfl ?_
          obtain ⟨x45, e46, hf⟩ := jbind hf
          refine J_geti E (jd dk_X7_see_1 4 rfl) fl_RX7_312 e46 ?_
          cases hf
          exact J_iret E hr rfl (jd dk_X7_see_1 5 rfl) (Nat.le_refl _) (Nat.le_refl _) ⟨rfl, rfl⟩
        · replace hf := jif_t c22 hf
          refine J_sub [0] rfl ?_
          exact lk_X7_see_b48 E hX hr N hf
  · replace hf := jif_t c11 hf
    refine J_aload_n E (jd dk_X7_see_0 7 rfl) rfl 0 rfl ?_
    refine J_iconst (v := 1) E (jd dk_X7_see_0 8 rfl) rfl ?_
    obtain ⟨u49, e50, hf⟩ := jbind hf
    obtain ⟨r47, e48, hf⟩ := jbind hf
    refine J_callV E (jd dk_X7_see_0 9 rfl) ml_RX7_293 cal_X7_fail e50 rfl (lk_X7_fail (jE_g E) (jE_tr E) N e48) rfl (Nat.le_of_ble_eq_true rfl) (jR_le hX (by decide) (by decide)) (jF0 hX) rfl ?_
    rintro _ _ ⟨rfl, rfl⟩
    cases hf
    exact J_iret E hr rfl (jd dk_X7_see_0 10 rfl) (Nat.le_refl _) (Nat.le_refl _) ⟨rfl, rfl⟩
def f_X7_isAsSeen_b123 (N : Nat) (v0 : Nat) (v2 : Int32) (h : AH) : Option (Int32 × AH) :=
  (jgr 7 h v0 46).bind fun x1 =>
  (jck 7 h v0).bind fun _ =>
  (f_X7_unpack N h v0 x1 0).bind fun r3 =>
  if narrow .boolean (.int v2) = .int v2 then some (v2, r3) else none
def f_X7_isAsSeen_b105 (N : Nat) (v0 : Nat) (v1 : Int32) (v3 : Int32) (v4 : Int32) (w0 : Int32) (h : AH) : Option ((Int32 × Int32 × AH) ⊕ ((Int32 × AH))) :=
  some (.inl ((w0, v4 + 1, h)))
def f_X7_isAsSeen_b104 (N : Nat) (v0 : Nat) (v1 : Int32) (v3 : Int32) (v4 : Int32) (h : AH) : Option ((Int32 × Int32 × AH) ⊕ ((Int32 × AH))) :=
  f_X7_isAsSeen_b105 N v0 v1 v3 v4 0 h
def f_X7_isAsSeen_b100 (N : Nat) (v0 : Nat) (v1 : Int32) (v3 : Int32) (v4 : Int32) (h : AH) : Option ((Int32 × Int32 × AH) ⊕ ((Int32 × AH))) :=
  f_X7_isAsSeen_b105 N v0 v1 v3 v4 1 h
def f_X7_isAsSeen_l54 (N : Nat) (v0 : Nat) (v1 : Int32) (v3 : Int32) (v2 : Int32) (v4 : Int32) (h : AH) : Option ((Int32 × Int32 × AH) ⊕ ((Int32 × AH))) :=
  (jgi 7 h v0 36).bind fun x8 =>
  if x8 ≤ v4 then some (.inr ((v2, h)))
  else if v2 = 0 then f_X7_isAsSeen_b104 N v0 v1 v3 v4 h
  else (jgr 7 h v0 44).bind fun x12 =>
  (jal 0 h x12 v4).bind fun x14 =>
  if x14 = v3 then (jgr 7 h v0 29).bind fun x17 =>
  (jgr 7 h v0 43).bind fun x19 =>
  (jal 0 h x19 v4).bind fun x21 =>
  (jal 0 h x17 x21).bind fun x23 =>
  (jgr 7 h v0 45).bind fun x25 =>
  (jal 0 h x25 v4).bind fun x27 =>
  if x23 = x27 then f_X7_isAsSeen_b100 N v0 v1 v3 v4 h
  else f_X7_isAsSeen_b104 N v0 v1 v3 v4 h
  else f_X7_isAsSeen_b100 N v0 v1 v3 v4 h
def f_X7_isAsSeen_b54 (N : Nat) (v0 : Nat) (v1 : Int32) (v2 : Int32) (v3 : Int32) (v4 : Int32) (h : AH) : Option ((Int32 × Int32 × AH) ⊕ ((Int32 × AH))) :=
  (itr (fun s => f_X7_isAsSeen_l54 N v0 v1 v3 s.1 s.2.1 s.2.2) N (v2, v4, h)).bind (fun e => (jck 7 e.2 v0).bind fun _ =>
  (f_X7_goOn N e.2 v0 1).bind fun r30 =>
  some (.inl ((e.1, v3 + 1, r30))))
def f_X7_isAsSeen_l42 (N : Nat) (v0 : Nat) (v1 : Int32) (v2 : Int32) (v3 : Int32) (h : AH) : Option ((Int32 × Int32 × AH) ⊕ ((Int32 × AH))) :=
  if v1 < v3 then some (.inr ((v2, h)))
  else if v2 = 0 then some (.inr ((v2, h)))
  else f_X7_isAsSeen_b54 N v0 v1 v2 v3 0 h
def f_X7_isAsSeen_b42 (N : Nat) (v0 : Nat) (v1 : Int32) (v2 : Int32) (v3 : Int32) (h : AH) : Option (Int32 × AH) :=
  (itr (fun s => f_X7_isAsSeen_l42 N v0 v1 s.1 s.2.1 s.2.2) N (v2, v3, h)).bind (fun e => f_X7_isAsSeen_b123 N v0 e.1 e.2)
def f_X7_isAsSeen_l13 (N : Nat) (v0 : Nat) (v1 : Int32) (v2 : Int32) (h : AH) : Option ((Int32 × Int32 × AH) ⊕ ((Int32 × AH))) :=
  (jgi 7 h v0 36).bind fun x36 =>
  if x36 ≤ v2 then some (.inr ((v1, h)))
  else (jgr 7 h v0 44).bind fun x39 =>
  (jal 0 h x39 v2).bind fun x41 =>
  some (.inl ((jmx v1 x41, v2 + 1, h)))
def f_X7_isAsSeen_b13 (N : Nat) (v0 : Nat) (v1 : Int32) (v2 : Int32) (h : AH) : Option (Int32 × AH) :=
  (itr (fun s => f_X7_isAsSeen_l13 N v0 s.1 s.2.1 s.2.2) N (v1, v2, h)).bind (fun e => f_X7_isAsSeen_b42 N v0 e.1 1 0 e.2)
def f_X7_isAsSeen (N : Nat) (h : AH) (a0 : Nat) : Option (Int32 × AH) :=
  (jgr 7 h a0 46).bind fun x43 =>
  (jck 7 h a0).bind fun _ =>
  (f_X7_pack N h a0 x43 0).bind fun r45 =>
  f_X7_isAsSeen_b13 N a0 0 0 r45
set_option maxRecDepth 100000 in
set_option maxHeartbeats 4000000 in
theorem lk_X7_isAsSeen_b123 {G : JG} {X : JX} (E : jE G X (RX7, cX7_isAsSeen, 5)) (hX : X.2.2.2.1 = jRm 6 0 0) (hr : X.2.2.2.2.2.2.2.2.1.sig.returnType = (some .boolean)) (N : Nat) {v0 : Nat} {v2 : Int32} {h : AH}  {r : (Int32 × AH)} (hf : f_X7_isAsSeen_b123 N v0 v2 h = some r) : JW G X (RX7, cX7_isAsSeen, 5) h [(0, .ref v0), (2, .int v2)] [] 123 0 0 (jEnd G X (jpi r) 0 0) := by
  unfold f_X7_isAsSeen_b123 at hf
  refine J_aload_n E (jd dk_X7_isAsSeen_1 18 rfl) rfl 0 rfl ?_
  refine J_aload_n E (jd dk_X7_isAsSeen_1 19 rfl) rfl 0 rfl ?_
  obtain ⟨x1, e2, hf⟩ := jbind hf
  refine J_getr E (jd dk_X7_isAsSeen_1 20 rfl) fl_RX7_121 e2 ?_
  refine J_iconst (v := 0) E (jd dk_X7_isAsSeen_1 21 rfl) rfl ?_
  obtain ⟨u5, e6, hf⟩ := jbind hf
  obtain ⟨r3, e4, hf⟩ := jbind hf
  refine J_callV E (jd dk_X7_isAsSeen_1 22 rfl) ml_RX7_407 cal_X7_unpack e6 rfl (lk_X7_unpack (jE_g E) (jE_tr E) N e4) rfl (Nat.le_of_ble_eq_true rfl) (jR_le hX (by decide) (by decide)) (jF0 hX) rfl ?_
  rintro _ _ ⟨rfl, rfl⟩
  refine J_iload_n E (jd dk_X7_isAsSeen_1 23 rfl) rfl 1 rfl ?_
  obtain ⟨n7, hf⟩ := jnw hf
  cases hf
  exact J_iret E hr n7 (jd dk_X7_isAsSeen_1 24 rfl) (Nat.le_refl _) (Nat.le_refl _) ⟨rfl, rfl⟩
set_option maxRecDepth 100000 in
set_option maxHeartbeats 4000000 in
theorem lk_X7_isAsSeen_b105 {G : JG} {X : JX} (E : jE G X (RX7, cX7_isAsSeen, 5)) (hX : X.2.2.2.1 = jRm 6 0 0) (hr : X.2.2.2.2.2.2.2.2.1.sig.returnType = (some .boolean)) (N : Nat) {Q : State → Prop} {v0 : Nat} {v1 : Int32} {v3 : Int32} {v4 : Int32} {w0 : Int32} {h : AH}  {q : ((Int32 × Int32 × AH) ⊕ ((Int32 × AH)))} (hf : f_X7_isAsSeen_b105 N v0 v1 v3 v4 w0 h = some q) (kb : ∀ s' : Int32 × Int32 × AH, q = .inl s' → JW G X (RX7, cX7_isAsSeen, 5) s'.2.2 [(0, .ref v0), (1, .int v1), (2, .int s'.1), (3, .int v3), (4, .int s'.2.1)] [] 54 0 0 Q) (ke0 : ∀ e : Int32 × AH, q = .inr e → JW G X (RX7, cX7_isAsSeen, 5) e.2 [(0, .ref v0), (1, .int v1), (2, .int e.1), (3, .int v3)] [] 112 0 0 Q) : JW G X (RX7, cX7_isAsSeen, 5) h [(0, .ref v0), (1, .int v1), (3, .int v3), (4, .int v4)] [.int w0] 105 0 0 Q := by
  unfold f_X7_isAsSeen_b105 at hf
  refine J_istore_n (lv' := [(2, .int w0), (0, .ref v0), (1, .int v1), (3, .int v3), (4, .int v4)]) E (jd dk_X7_isAsSeen_1 10 rfl) rfl (by decide) rfl ?_
  refine J_iinc (v := v4 + 1) (lv' := [(4, .int (v4 + 1)), (2, .int w0), (0, .ref v0), (1, .int v1), (3, .int v3)]) E (jd dk_X7_isAsSeen_1 11 rfl) 4 rfl rfl (by decide) rfl ?_
  refine J_goto (tgt := 54) E (jd dk_X7_isAsSeen_1 12 rfl) (by decide) ?_
  refine J_sub [2, 3, 1, 4, 0] rfl ?_
  exact kb _ (Option.some.inj hf).symm
set_option maxRecDepth 100000 in
set_option maxHeartbeats 4000000 in
theorem lk_X7_isAsSeen_b104 {G : JG} {X : JX} (E : jE G X (RX7, cX7_isAsSeen, 5)) (hX : X.2.2.2.1 = jRm 6 0 0) (hr : X.2.2.2.2.2.2.2.2.1.sig.returnType = (some .boolean)) (N : Nat) {Q : State → Prop} {v0 : Nat} {v1 : Int32} {v3 : Int32} {v4 : Int32} {h : AH}  {q : ((Int32 × Int32 × AH) ⊕ ((Int32 × AH)))} (hf : f_X7_isAsSeen_b104 N v0 v1 v3 v4 h = some q) (kb : ∀ s' : Int32 × Int32 × AH, q = .inl s' → JW G X (RX7, cX7_isAsSeen, 5) s'.2.2 [(0, .ref v0), (1, .int v1), (2, .int s'.1), (3, .int v3), (4, .int s'.2.1)] [] 54 0 0 Q) (ke0 : ∀ e : Int32 × AH, q = .inr e → JW G X (RX7, cX7_isAsSeen, 5) e.2 [(0, .ref v0), (1, .int v1), (2, .int e.1), (3, .int v3)] [] 112 0 0 Q) : JW G X (RX7, cX7_isAsSeen, 5) h [(0, .ref v0), (1, .int v1), (3, .int v3), (4, .int v4)] [] 104 0 0 Q := by
  unfold f_X7_isAsSeen_b104 at hf
  refine J_iconst (v := 0) E (jd dk_X7_isAsSeen_1 9 rfl) rfl ?_
  exact lk_X7_isAsSeen_b105 E hX hr N hf kb ke0
set_option maxRecDepth 100000 in
set_option maxHeartbeats 4000000 in
theorem lk_X7_isAsSeen_b100 {G : JG} {X : JX} (E : jE G X (RX7, cX7_isAsSeen, 5)) (hX : X.2.2.2.1 = jRm 6 0 0) (hr : X.2.2.2.2.2.2.2.2.1.sig.returnType = (some .boolean)) (N : Nat) {Q : State → Prop} {v0 : Nat} {v1 : Int32} {v3 : Int32} {v4 : Int32} {h : AH}  {q : ((Int32 × Int32 × AH) ⊕ ((Int32 × AH)))} (hf : f_X7_isAsSeen_b100 N v0 v1 v3 v4 h = some q) (kb : ∀ s' : Int32 × Int32 × AH, q = .inl s' → JW G X (RX7, cX7_isAsSeen, 5) s'.2.2 [(0, .ref v0), (1, .int v1), (2, .int s'.1), (3, .int v3), (4, .int s'.2.1)] [] 54 0 0 Q) (ke0 : ∀ e : Int32 × AH, q = .inr e → JW G X (RX7, cX7_isAsSeen, 5) e.2 [(0, .ref v0), (1, .int v1), (2, .int e.1), (3, .int v3)] [] 112 0 0 Q) : JW G X (RX7, cX7_isAsSeen, 5) h [(0, .ref v0), (1, .int v1), (3, .int v3), (4, .int v4)] [] 100 0 0 Q := by
  unfold f_X7_isAsSeen_b100 at hf
  refine J_iconst (v := 1) E (jd dk_X7_isAsSeen_1 7 rfl) rfl ?_
  refine J_goto (tgt := 105) E (jd dk_X7_isAsSeen_1 8 rfl) (by decide) ?_
  exact lk_X7_isAsSeen_b105 E hX hr N hf kb ke0
set_option maxRecDepth 100000 in
set_option maxHeartbeats 4000000 in
theorem lk_X7_isAsSeen_l54 {G : JG} {X : JX} (E : jE G X (RX7, cX7_isAsSeen, 5)) (hX : X.2.2.2.1 = jRm 6 0 0) (hr : X.2.2.2.2.2.2.2.2.1.sig.returnType = (some .boolean)) (N : Nat) {Q : State → Prop} {v0 : Nat} {v1 : Int32} {v3 : Int32} {v2 : Int32} {v4 : Int32}  {h : AH} {q : ((Int32 × Int32 × AH) ⊕ ((Int32 × AH)))} (hf : f_X7_isAsSeen_l54 N v0 v1 v3 v2 v4 h = some q) (kb : ∀ s' : Int32 × Int32 × AH, q = .inl s' → JW G X (RX7, cX7_isAsSeen, 5) s'.2.2 [(0, .ref v0), (1, .int v1), (2, .int s'.1), (3, .int v3), (4, .int s'.2.1)] [] 54 0 0 Q) (ke0 : ∀ e : Int32 × AH, q = .inr e → JW G X (RX7, cX7_isAsSeen, 5) e.2 [(0, .ref v0), (1, .int v1), (2, .int e.1), (3, .int v3)] [] 112 0 0 Q) : JW G X (RX7, cX7_isAsSeen, 5) h [(0, .ref v0), (1, .int v1), (2, .int v2), (3, .int v3), (4, .int v4)] [] 54 0 0 Q := by
  unfold f_X7_isAsSeen_l54 at hf
  refine J_iload E (jd dk_X7_isAsSeen_0 33 rfl) 4 rfl ?_
  refine J_aload_n E (jd dk_X7_isAsSeen_0 34 rfl) rfl 0 rfl ?_
  obtain ⟨x8, e9, hf⟩ := jbind hf
  refine J_geti E (jd dk_X7_isAsSeen_0 35 rfl) fl_RX7_312 e9 ?_
  refine J_icmp_ge (tgt := 112) E (jd dk_X7_isAsSeen_0 36 rfl) (by decide) (fun c10 => ?_) (fun c10 => ?_)
  · replace hf := jif_t c10 hf
    refine J_sub [0, 1, 2, 3] rfl ?_
    exact ke0 _ (Option.some.inj hf).symm
  · replace hf := jif_f c10 hf
    refine J_iload_n E (jd dk_X7_isAsSeen_0 37 rfl) rfl 2 rfl ?_
    refine J_if_eq (tgt := 104) E (jd dk_X7_isAsSeen_0 38 rfl) (by decide) (fun c11 => ?_) (fun c11 => ?_)
    · replace hf := jif_t c11 hf
      refine J_sub [0, 1, 3, 4] rfl ?_
      exact lk_X7_isAsSeen_b104 E hX hr N hf kb ke0
    · replace hf := jif_f c11 hf
      refine J_aload_n E (jd dk_X7_isAsSeen_0 39 rfl) rfl 0 rfl ?_
      obtain ⟨x12, e13, hf⟩ := jbind hf
      refine J_getr E (jd dk_X7_isAsSeen_0 40 rfl) fl_RX7_115 e13 ?_
      refine J_iload E (jd dk_X7_isAsSeen_0 41 rfl) 4 rfl ?_
      obtain ⟨x14, e15, hf⟩ := jbind hf
      refine J_iald E (jd dk_X7_isAsSeen_0 42 rfl) e15 ?_
      refine J_iload_n E (jd dk_X7_isAsSeen_0 43 rfl) rfl 3 rfl ?_
      refine J_icmp_ne (tgt := 100) E (jd dk_X7_isAsSeen_0 44 rfl) (by decide) (fun c16 => ?_) (fun c16 => ?_)
      · replace hf := jif_f c16 hf
        refine J_sub [0, 1, 3, 4] rfl ?_
        exact lk_X7_isAsSeen_b100 E hX hr N hf kb ke0
      · replace hf := jif_t c16 hf
        refine J_aload_n E (jd dk_X7_isAsSeen_0 45 rfl) rfl 0 rfl ?_
        obtain ⟨x17, e18, hf⟩ := jbind hf
        refine J_getr E (jd dk_X7_isAsSeen_0 46 rfl) fl_RX7_84 e18 ?_
        refine J_aload_n E (jd dk_X7_isAsSeen_0 47 rfl) rfl 0 rfl ?_
        obtain ⟨x19, e20, hf⟩ := jbind hf
        refine J_getr E (jd dk_X7_isAsSeen_0 48 rfl) fl_RX7_112 e20 ?_
        refine J_iload E (jd dk_X7_isAsSeen_0 49 rfl) 4 rfl ?_
        obtain ⟨x21, e22, hf⟩ := jbind hf
        refine J_iald E (jd dk_X7_isAsSeen_1 0 rfl) e22 ?_
        obtain ⟨x23, e24, hf⟩ := jbind hf
        refine J_iald E (jd dk_X7_isAsSeen_1 1 rfl) e24 ?_
        refine J_aload_n E (jd dk_X7_isAsSeen_1 2 rfl) rfl 0 rfl ?_
        obtain ⟨x25, e26, hf⟩ := jbind hf
        refine J_getr E (jd dk_X7_isAsSeen_1 3 rfl) fl_RX7_118 e26 ?_
        refine J_iload E (jd dk_X7_isAsSeen_1 4 rfl) 4 rfl ?_
        obtain ⟨x27, e28, hf⟩ := jbind hf
        refine J_iald E (jd dk_X7_isAsSeen_1 5 rfl) e28 ?_
        refine J_icmp_ne (tgt := 104) E (jd dk_X7_isAsSeen_1 6 rfl) (by decide) (fun c29 => ?_) (fun c29 => ?_)
        · replace hf := jif_f c29 hf
          refine J_sub [0, 1, 3, 4] rfl ?_
          exact lk_X7_isAsSeen_b104 E hX hr N hf kb ke0
        · replace hf := jif_t c29 hf
          refine J_sub [0, 1, 3, 4] rfl ?_
          exact lk_X7_isAsSeen_b100 E hX hr N hf kb ke0
set_option maxRecDepth 100000 in
set_option maxHeartbeats 4000000 in
theorem lk_X7_isAsSeen_b54 {G : JG} {X : JX} (E : jE G X (RX7, cX7_isAsSeen, 5)) (hX : X.2.2.2.1 = jRm 6 0 0) (hr : X.2.2.2.2.2.2.2.2.1.sig.returnType = (some .boolean)) (N : Nat) {Q : State → Prop} {v0 : Nat} {v1 : Int32} {v2 : Int32} {v3 : Int32} {v4 : Int32} {h : AH}  {q : ((Int32 × Int32 × AH) ⊕ ((Int32 × AH)))} (hf : f_X7_isAsSeen_b54 N v0 v1 v2 v3 v4 h = some q) (kb : ∀ s' : Int32 × Int32 × AH, q = .inl s' → JW G X (RX7, cX7_isAsSeen, 5) s'.2.2 [(0, .ref v0), (1, .int v1), (2, .int s'.1), (3, .int s'.2.1)] [] 42 0 0 Q) (ke0 : ∀ e : Int32 × AH, q = .inr e → JW G X (RX7, cX7_isAsSeen, 5) e.2 [(0, .ref v0), (2, .int e.1)] [] 123 0 0 Q) : JW G X (RX7, cX7_isAsSeen, 5) h [(0, .ref v0), (1, .int v1), (2, .int v2), (3, .int v3), (4, .int v4)] [] 54 0 0 Q := by
  unfold f_X7_isAsSeen_b54 at hf
  obtain ⟨q1, h1, hf⟩ := jbind hf
  refine jloop (P := fun s => JW G X (RX7, cX7_isAsSeen, 5) s.2.2 [(0, .ref v0), (1, .int v1), (2, .int s.1), (3, .int v3), (4, .int s.2.1)] [] 54 0 0 Q) (Ex := fun (e : Int32 × AH) => JW G X (RX7, cX7_isAsSeen, 5) e.2 [(0, .ref v0), (1, .int v1), (2, .int e.1), (3, .int v3)] [] 112 0 0 Q) (fun s q hs hb hx => lk_X7_isAsSeen_l54 E hX hr N hs (fun s' hs => hb s' hs) (fun e he => hx e he)) N _ q1 h1 ?_
  generalize q1 = e at hf ⊢
  refine J_aload_n E (jd dk_X7_isAsSeen_1 13 rfl) rfl 0 rfl ?_
  refine J_iconst (v := 1) E (jd dk_X7_isAsSeen_1 14 rfl) rfl ?_
  obtain ⟨u32, e33, hf⟩ := jbind hf
  obtain ⟨r30, e31, hf⟩ := jbind hf
  refine J_callV E (jd dk_X7_isAsSeen_1 15 rfl) ml_RX7_397 cal_X7_goOn e33 rfl (lk_X7_goOn (jE_g E) (jE_tr E) N e31) rfl (Nat.le_of_ble_eq_true rfl) (jR_le hX (by decide) (by decide)) (jF0 hX) rfl ?_
  rintro _ _ ⟨rfl, rfl⟩
  refine J_iinc (v := v3 + 1) (lv' := [(3, .int (v3 + 1)), (0, .ref v0), (1, .int v1), (2, .int e.1)]) E (jd dk_X7_isAsSeen_1 16 rfl) 3 rfl rfl (by decide) rfl ?_
  refine J_goto (tgt := 42) E (jd dk_X7_isAsSeen_1 17 rfl) (by decide) ?_
  refine J_sub [1, 2, 3, 0] rfl ?_
  exact kb _ (Option.some.inj hf).symm
set_option maxRecDepth 100000 in
set_option maxHeartbeats 4000000 in
theorem lk_X7_isAsSeen_l42 {G : JG} {X : JX} (E : jE G X (RX7, cX7_isAsSeen, 5)) (hX : X.2.2.2.1 = jRm 6 0 0) (hr : X.2.2.2.2.2.2.2.2.1.sig.returnType = (some .boolean)) (N : Nat) {Q : State → Prop} {v0 : Nat} {v1 : Int32} {v2 : Int32} {v3 : Int32}  {h : AH} {q : ((Int32 × Int32 × AH) ⊕ ((Int32 × AH)))} (hf : f_X7_isAsSeen_l42 N v0 v1 v2 v3 h = some q) (kb : ∀ s' : Int32 × Int32 × AH, q = .inl s' → JW G X (RX7, cX7_isAsSeen, 5) s'.2.2 [(0, .ref v0), (1, .int v1), (2, .int s'.1), (3, .int s'.2.1)] [] 42 0 0 Q) (ke0 : ∀ e : Int32 × AH, q = .inr e → JW G X (RX7, cX7_isAsSeen, 5) e.2 [(0, .ref v0), (2, .int e.1)] [] 123 0 0 Q) : JW G X (RX7, cX7_isAsSeen, 5) h [(0, .ref v0), (1, .int v1), (2, .int v2), (3, .int v3)] [] 42 0 0 Q := by
  unfold f_X7_isAsSeen_l42 at hf
  refine J_iload_n E (jd dk_X7_isAsSeen_0 26 rfl) rfl 3 rfl ?_
  refine J_iload_n E (jd dk_X7_isAsSeen_0 27 rfl) rfl 1 rfl ?_
  refine J_icmp_gt (tgt := 123) E (jd dk_X7_isAsSeen_0 28 rfl) (by decide) (fun c34 => ?_) (fun c34 => ?_)
  · replace hf := jif_t c34 hf
    refine J_sub [0, 2] rfl ?_
    exact ke0 _ (Option.some.inj hf).symm
  · replace hf := jif_f c34 hf
    refine J_iload_n E (jd dk_X7_isAsSeen_0 29 rfl) rfl 2 rfl ?_
    refine J_if_eq (tgt := 123) E (jd dk_X7_isAsSeen_0 30 rfl) (by decide) (fun c35 => ?_) (fun c35 => ?_)
    · replace hf := jif_t c35 hf
      refine J_sub [0, 2] rfl ?_
      exact ke0 _ (Option.some.inj hf).symm
    · replace hf := jif_f c35 hf
      refine J_iconst (v := 0) E (jd dk_X7_isAsSeen_0 31 rfl) rfl ?_
      refine J_istore (lv' := [(4, .int 0), (0, .ref v0), (1, .int v1), (2, .int v2), (3, .int v3)]) E (jd dk_X7_isAsSeen_0 32 rfl) (by decide) rfl ?_
      refine J_sub [1, 2, 3, 4, 0] rfl ?_
      exact lk_X7_isAsSeen_b54 E hX hr N hf kb ke0
set_option maxRecDepth 100000 in
set_option maxHeartbeats 4000000 in
theorem lk_X7_isAsSeen_b42 {G : JG} {X : JX} (E : jE G X (RX7, cX7_isAsSeen, 5)) (hX : X.2.2.2.1 = jRm 6 0 0) (hr : X.2.2.2.2.2.2.2.2.1.sig.returnType = (some .boolean)) (N : Nat) {v0 : Nat} {v1 : Int32} {v2 : Int32} {v3 : Int32} {h : AH}  {r : (Int32 × AH)} (hf : f_X7_isAsSeen_b42 N v0 v1 v2 v3 h = some r) : JW G X (RX7, cX7_isAsSeen, 5) h [(0, .ref v0), (1, .int v1), (2, .int v2), (3, .int v3)] [] 42 0 0 (jEnd G X (jpi r) 0 0) := by
  unfold f_X7_isAsSeen_b42 at hf
  obtain ⟨q1, h1, hf⟩ := jbind hf
  refine jloop (P := fun s => JW G X (RX7, cX7_isAsSeen, 5) s.2.2 [(0, .ref v0), (1, .int v1), (2, .int s.1), (3, .int s.2.1)] [] 42 0 0 (jEnd G X (jpi r) 0 0)) (Ex := fun (e : Int32 × AH) => JW G X (RX7, cX7_isAsSeen, 5) e.2 [(0, .ref v0), (2, .int e.1)] [] 123 0 0 (jEnd G X (jpi r) 0 0)) (fun s q hs hb hx => lk_X7_isAsSeen_l42 E hX hr N hs (fun s' hs => hb s' hs) (fun e he => hx e he)) N _ q1 h1 ?_
  generalize q1 = e at hf ⊢
  exact lk_X7_isAsSeen_b123 E hX hr N hf
set_option maxRecDepth 100000 in
set_option maxHeartbeats 4000000 in
theorem lk_X7_isAsSeen_l13 {G : JG} {X : JX} (E : jE G X (RX7, cX7_isAsSeen, 5)) (hX : X.2.2.2.1 = jRm 6 0 0) (hr : X.2.2.2.2.2.2.2.2.1.sig.returnType = (some .boolean)) (N : Nat) {Q : State → Prop} {v0 : Nat} {v1 : Int32} {v2 : Int32}  {h : AH} {q : ((Int32 × Int32 × AH) ⊕ ((Int32 × AH)))} (hf : f_X7_isAsSeen_l13 N v0 v1 v2 h = some q) (kb : ∀ s' : Int32 × Int32 × AH, q = .inl s' → JW G X (RX7, cX7_isAsSeen, 5) s'.2.2 [(0, .ref v0), (1, .int s'.1), (2, .int s'.2.1)] [] 13 0 0 Q) (ke0 : ∀ e : Int32 × AH, q = .inr e → JW G X (RX7, cX7_isAsSeen, 5) e.2 [(0, .ref v0), (1, .int e.1)] [] 38 0 0 Q) : JW G X (RX7, cX7_isAsSeen, 5) h [(0, .ref v0), (1, .int v1), (2, .int v2)] [] 13 0 0 Q := by
  unfold f_X7_isAsSeen_l13 at hf
  refine J_iload_n E (jd dk_X7_isAsSeen_0 9 rfl) rfl 2 rfl ?_
  refine J_aload_n E (jd dk_X7_isAsSeen_0 10 rfl) rfl 0 rfl ?_
  obtain ⟨x36, e37, hf⟩ := jbind hf
  refine J_geti E (jd dk_X7_isAsSeen_0 11 rfl) fl_RX7_312 e37 ?_
  refine J_icmp_ge (tgt := 38) E (jd dk_X7_isAsSeen_0 12 rfl) (by decide) (fun c38 => ?_) (fun c38 => ?_)
  · replace hf := jif_t c38 hf
    refine J_sub [0, 1] rfl ?_
    exact ke0 _ (Option.some.inj hf).symm
  · replace hf := jif_f c38 hf
    refine J_iload_n E (jd dk_X7_isAsSeen_0 13 rfl) rfl 1 rfl ?_
    refine J_aload_n E (jd dk_X7_isAsSeen_0 14 rfl) rfl 0 rfl ?_
    obtain ⟨x39, e40, hf⟩ := jbind hf
    refine J_getr E (jd dk_X7_isAsSeen_0 15 rfl) fl_RX7_115 e40 ?_
    refine J_iload_n E (jd dk_X7_isAsSeen_0 16 rfl) rfl 2 rfl ?_
    obtain ⟨x41, e42, hf⟩ := jbind hf
    refine J_iald E (jd dk_X7_isAsSeen_0 17 rfl) e42 ?_
    refine J_max E (jd dk_X7_isAsSeen_0 18 rfl) ml_RX7_341 (Nat.le_of_ble_eq_true rfl) (by rw [hX]; exact ⟨Nat.zero_le _, Nat.zero_le _⟩) ?_
    refine J_istore_n (lv' := [(1, .int (jmx v1 x41)), (0, .ref v0), (2, .int v2)]) E (jd dk_X7_isAsSeen_0 19 rfl) rfl (by decide) rfl ?_
    refine J_iinc (v := v2 + 1) (lv' := [(2, .int (v2 + 1)), (1, .int (jmx v1 x41)), (0, .ref v0)]) E (jd dk_X7_isAsSeen_0 20 rfl) 2 rfl rfl (by decide) rfl ?_
    refine J_goto (tgt := 13) E (jd dk_X7_isAsSeen_0 21 rfl) (by decide) ?_
    refine J_sub [2, 1, 0] rfl ?_
    exact kb _ (Option.some.inj hf).symm
set_option maxRecDepth 100000 in
set_option maxHeartbeats 4000000 in
theorem lk_X7_isAsSeen_b13 {G : JG} {X : JX} (E : jE G X (RX7, cX7_isAsSeen, 5)) (hX : X.2.2.2.1 = jRm 6 0 0) (hr : X.2.2.2.2.2.2.2.2.1.sig.returnType = (some .boolean)) (N : Nat) {v0 : Nat} {v1 : Int32} {v2 : Int32} {h : AH}  {r : (Int32 × AH)} (hf : f_X7_isAsSeen_b13 N v0 v1 v2 h = some r) : JW G X (RX7, cX7_isAsSeen, 5) h [(0, .ref v0), (1, .int v1), (2, .int v2)] [] 13 0 0 (jEnd G X (jpi r) 0 0) := by
  unfold f_X7_isAsSeen_b13 at hf
  obtain ⟨q1, h1, hf⟩ := jbind hf
  refine jloop (P := fun s => JW G X (RX7, cX7_isAsSeen, 5) s.2.2 [(0, .ref v0), (1, .int s.1), (2, .int s.2.1)] [] 13 0 0 (jEnd G X (jpi r) 0 0)) (Ex := fun (e : Int32 × AH) => JW G X (RX7, cX7_isAsSeen, 5) e.2 [(0, .ref v0), (1, .int e.1)] [] 38 0 0 (jEnd G X (jpi r) 0 0)) (fun s q hs hb hx => lk_X7_isAsSeen_l13 E hX hr N hs (fun s' hs => hb s' hs) (fun e he => hx e he)) N _ q1 h1 ?_
  generalize q1 = e at hf ⊢
  refine J_iconst (v := 1) E (jd dk_X7_isAsSeen_0 22 rfl) rfl ?_
  refine J_istore_n (lv' := [(2, .int 1), (0, .ref v0), (1, .int e.1)]) E (jd dk_X7_isAsSeen_0 23 rfl) rfl (by decide) rfl ?_
  refine J_iconst (v := 0) E (jd dk_X7_isAsSeen_0 24 rfl) rfl ?_
  refine J_istore_n (lv' := [(3, .int 0), (2, .int 1), (0, .ref v0), (1, .int e.1)]) E (jd dk_X7_isAsSeen_0 25 rfl) rfl (by decide) rfl ?_
  refine J_sub [2, 3, 1, 0] rfl ?_
  exact lk_X7_isAsSeen_b42 E hX hr N hf
set_option maxRecDepth 100000 in
set_option maxHeartbeats 4000000 in
theorem lk_X7_isAsSeen {G : JG} {l : Launch} (hG : jG G) (htr : l.stackTraces = false) (N : Nat) {h : AH} {a0 : Nat} {r : (Int32 × AH)} (hf : f_X7_isAsSeen N h a0 = some r) : jMet G l yX7_isAsSeen cX7_isAsSeen 5 (some .boolean) 6 0 0 [.ref a0] h (jpi r) := by
  unfold f_X7_isAsSeen at hf
  refine jMet_of hG htr (by decide) (Nat.le_of_ble_eq_true rfl) ?_
  intro X E hl9 hr hX _ _
  show JW G X (RX7, cX7_isAsSeen, 5) h [(0, .ref a0)] [] 0 0 0 (jEnd G X (jpi r) 0 0)
  refine J_aload_n E (jd dk_X7_isAsSeen_0 0 rfl) rfl 0 rfl ?_
  refine J_aload_n E (jd dk_X7_isAsSeen_0 1 rfl) rfl 0 rfl ?_
  obtain ⟨x43, e44, hf⟩ := jbind hf
  refine J_getr E (jd dk_X7_isAsSeen_0 2 rfl) fl_RX7_121 e44 ?_
  refine J_iconst (v := 0) E (jd dk_X7_isAsSeen_0 3 rfl) rfl ?_
  obtain ⟨u47, e48, hf⟩ := jbind hf
  obtain ⟨r45, e46, hf⟩ := jbind hf
  refine J_callV E (jd dk_X7_isAsSeen_0 4 rfl) ml_RX7_385 cal_X7_pack e48 rfl (lk_X7_pack (jE_g E) (jE_tr E) N e46) rfl (Nat.le_of_ble_eq_true rfl) (jR_le hX (by decide) (by decide)) (jF0 hX) rfl ?_
  rintro _ _ ⟨rfl, rfl⟩
  refine J_iconst (v := 0) E (jd dk_X7_isAsSeen_0 5 rfl) rfl ?_
  refine J_istore_n (lv' := [(1, .int 0), (0, .ref a0)]) E (jd dk_X7_isAsSeen_0 6 rfl) rfl (by decide) rfl ?_
  refine J_iconst (v := 0) E (jd dk_X7_isAsSeen_0 7 rfl) rfl ?_
  refine J_istore_n (lv' := [(2, .int 0), (1, .int 0), (0, .ref a0)]) E (jd dk_X7_isAsSeen_0 8 rfl) rfl (by decide) rfl ?_
  refine J_sub [2, 1, 0] rfl ?_
  exact lk_X7_isAsSeen_b13 E hX hr N hf
def f_X7_tellFits_b79 (N : Nat) (v0 : Nat) (v1 : Int32) (v2 : Int32) (v3 : Int32) (h : AH) : Option ((Int32 × AH) ⊕ ((AH))) :=
  some (.inl ((v3 + 1, h)))
def f_X7_tellFits_l26 (N : Nat) (v0 : Nat) (v1 : Int32) (v2 : Int32) (v3 : Int32) (h : AH) : Option ((Int32 × AH) ⊕ ((AH))) :=
  if 9 < v3 then some (.inr h)
  else (jgr 7 h v0 15).bind fun x2 =>
  (jas 0 h x2 v1 v3).bind fun h4 =>
  if v3 = v2 then f_X7_tellFits_b79 N v0 v1 v2 v3 h4
  else (jck 7 h4 v0).bind fun _ =>
  (f_X7_isAsSeen N h4 v0).bind fun r7 =>
  if r7.1 = 0 then f_X7_tellFits_b79 N v0 v1 v2 v3 r7.2
  else (jgr 7 r7.2 v0 47).bind fun x12 =>
  (jgi 7 r7.2 v0 49).bind fun x14 =>
  (jas 0 r7.2 x12 x14 (((10 : Int32) * v1) + v3)).bind fun h16 =>
  (jgi 7 h16 v0 49).bind fun x18 =>
  (jwi 7 h16 v0 49 (x18 + 1)).bind fun h20 =>
  f_X7_tellFits_b79 N v0 v1 v2 v3 h20
def f_X7_tellFits_b26 (N : Nat) (v0 : Nat) (v1 : Int32) (v2 : Int32) (v3 : Int32) (h : AH) : Option ((Int32 × AH) ⊕ ((AH))) :=
  (itr (fun s => f_X7_tellFits_l26 N v0 v1 v2 s.1 s.2) N (v3, h)).bind (fun e => (jgr 7 e v0 15).bind fun x22 =>
  (jas 0 e x22 v1 v2).bind fun h24 =>
  some (.inl ((v1 + 1, h24))))
def f_X7_tellFits_l7 (N : Nat) (v0 : Nat) (v1 : Int32) (h : AH) : Option ((Int32 × AH) ⊕ ((AH))) :=
  (jgr 7 h v0 5).bind fun x26 =>
  (jal 0 h x26 2).bind fun x28 =>
  if x28 ≤ v1 then some (.inr h)
  else (jgr 7 h v0 15).bind fun x31 =>
  (jal 0 h x31 v1).bind fun x33 =>
  f_X7_tellFits_b26 N v0 v1 x33 0 h
def f_X7_tellFits_b7 (N : Nat) (v0 : Nat) (v1 : Int32) (h : AH) : Option AH :=
  (itr (fun s => f_X7_tellFits_l7 N v0 s.1 s.2) N (v1, h)).bind (fun e => some e)
def f_X7_tellFits (N : Nat) (h : AH) (a0 : Nat) : Option AH :=
  (jwi 7 h a0 49 0).bind fun h35 =>
  f_X7_tellFits_b7 N a0 0 h35
set_option maxRecDepth 100000 in
set_option maxHeartbeats 4000000 in
theorem lk_X7_tellFits_b79 {G : JG} {X : JX} (E : jE G X (RX7, cX7_tellFits, 4)) (hX : X.2.2.2.1 = jRm 7 0 0) (hr : X.2.2.2.2.2.2.2.2.1.sig.returnType = none) (N : Nat) {Q : State → Prop} {v0 : Nat} {v1 : Int32} {v2 : Int32} {v3 : Int32} {h : AH}  {q : ((Int32 × AH) ⊕ ((AH)))} (hf : f_X7_tellFits_b79 N v0 v1 v2 v3 h = some q) (kb : ∀ s' : Int32 × AH, q = .inl s' → JW G X (RX7, cX7_tellFits, 4) s'.2 [(0, .ref v0), (1, .int v1), (2, .int v2), (3, .int s'.1)] [] 26 0 0 Q) (ke0 : ∀ e : AH, q = .inr e → JW G X (RX7, cX7_tellFits, 4) e [(0, .ref v0), (1, .int v1), (2, .int v2)] [] 85 0 0 Q) : JW G X (RX7, cX7_tellFits, 4) h [(0, .ref v0), (1, .int v1), (2, .int v2), (3, .int v3)] [] 79 0 0 Q := by
  unfold f_X7_tellFits_b79 at hf
  refine J_iinc (v := v3 + 1) (lv' := [(3, .int (v3 + 1)), (0, .ref v0), (1, .int v1), (2, .int v2)]) E (jd dk_X7_tellFits_0 49 rfl) 3 rfl rfl (by decide) rfl ?_
  refine J_goto (tgt := 26) E (jd dk_X7_tellFits_1 0 rfl) (by decide) ?_
  refine J_sub [1, 2, 3, 0] rfl ?_
  exact kb _ (Option.some.inj hf).symm
set_option maxRecDepth 100000 in
set_option maxHeartbeats 4000000 in
theorem lk_X7_tellFits_l26 {G : JG} {X : JX} (E : jE G X (RX7, cX7_tellFits, 4)) (hX : X.2.2.2.1 = jRm 7 0 0) (hr : X.2.2.2.2.2.2.2.2.1.sig.returnType = none) (N : Nat) {Q : State → Prop} {v0 : Nat} {v1 : Int32} {v2 : Int32} {v3 : Int32}  {h : AH} {q : ((Int32 × AH) ⊕ ((AH)))} (hf : f_X7_tellFits_l26 N v0 v1 v2 v3 h = some q) (kb : ∀ s' : Int32 × AH, q = .inl s' → JW G X (RX7, cX7_tellFits, 4) s'.2 [(0, .ref v0), (1, .int v1), (2, .int v2), (3, .int s'.1)] [] 26 0 0 Q) (ke0 : ∀ e : AH, q = .inr e → JW G X (RX7, cX7_tellFits, 4) e [(0, .ref v0), (1, .int v1), (2, .int v2)] [] 85 0 0 Q) : JW G X (RX7, cX7_tellFits, 4) h [(0, .ref v0), (1, .int v1), (2, .int v2), (3, .int v3)] [] 26 0 0 Q := by
  unfold f_X7_tellFits_l26 at hf
  refine J_iload_n E (jd dk_X7_tellFits_0 18 rfl) rfl 3 rfl ?_
  refine J_bipush (v := 9) E (jd dk_X7_tellFits_0 19 rfl) (by decide) ?_
  refine J_icmp_gt (tgt := 85) E (jd dk_X7_tellFits_0 20 rfl) (by decide) (fun c1 => ?_) (fun c1 => ?_)
  · replace hf := jif_t c1 hf
    refine J_sub [0, 1, 2] rfl ?_
    exact ke0 _ (Option.some.inj hf).symm
  · replace hf := jif_f c1 hf
    refine J_aload_n E (jd dk_X7_tellFits_0 21 rfl) rfl 0 rfl ?_
    obtain ⟨x2, e3, hf⟩ := jbind hf
    refine J_getr E (jd dk_X7_tellFits_0 22 rfl) fl_RX7_72 e3 ?_
    refine J_iload_n E (jd dk_X7_tellFits_0 23 rfl) rfl 1 rfl ?_
    refine J_iload_n E (jd dk_X7_tellFits_0 24 rfl) rfl 3 rfl ?_
    obtain ⟨h4, e5, hf⟩ := jbind hf
    refine J_iast E (jd dk_X7_tellFits_0 25 rfl) e5 ?_
    refine J_iload_n E (jd dk_X7_tellFits_0 26 rfl) rfl 3 rfl ?_
    refine J_iload_n E (jd dk_X7_tellFits_0 27 rfl) rfl 2 rfl ?_
    refine J_icmp_eq (tgt := 79) E (jd dk_X7_tellFits_0 28 rfl) (by decide) (fun c6 => ?_) (fun c6 => ?_)
    · replace hf := jif_t c6 hf
      exact lk_X7_tellFits_b79 E hX hr N hf kb ke0
    · replace hf := jif_f c6 hf
      refine J_aload_n E (jd dk_X7_tellFits_0 29 rfl) rfl 0 rfl ?_
      obtain ⟨u9, e10, hf⟩ := jbind hf
      obtain ⟨r7, e8, hf⟩ := jbind hf
      refine J_callV E (jd dk_X7_tellFits_0 30 rfl) ml_RX7_435 cal_X7_isAsSeen e10 rfl (lk_X7_isAsSeen (jE_g E) (jE_tr E) N e8) rfl (Nat.le_of_ble_eq_true rfl) (jR_le hX (by decide) (by decide)) (jF0 hX) rfl ?_
      rintro _ _ ⟨rfl, rfl⟩
      refine J_if_ne (tgt := 54) E (jd dk_X7_tellFits_0 31 rfl) (by decide) (fun c11 => ?_) (fun c11 => ?_)
      · replace hf := jif_f c11 hf
        refine J_aload_n E (jd dk_X7_tellFits_0 33 rfl) rfl 0 rfl ?_
        obtain ⟨x12, e13, hf⟩ := jbind hf
        refine J_getr E (jd dk_X7_tellFits_0 34 rfl) fl_RX7_124 e13 ?_
        refine J_aload_n E (jd dk_X7_tellFits_0 35 rfl) rfl 0 rfl ?_
        obtain ⟨x14, e15, hf⟩ := jbind hf
        refine J_geti E (jd dk_X7_tellFits_0 36 rfl) fl_RX7_432 e15 ?_
        refine J_bipush (v := 10) E (jd dk_X7_tellFits_0 37 rfl) (by decide) ?_
        refine J_iload_n E (jd dk_X7_tellFits_0 38 rfl) rfl 1 rfl ?_
        refine J_imul E (jd dk_X7_tellFits_0 39 rfl) ?_
        refine J_iload_n E (jd dk_X7_tellFits_0 40 rfl) rfl 3 rfl ?_
        refine J_iadd E (jd dk_X7_tellFits_0 41 rfl) ?_
        obtain ⟨h16, e17, hf⟩ := jbind hf
        refine J_iast E (jd dk_X7_tellFits_0 42 rfl) e17 ?_
        refine J_aload_n E (jd dk_X7_tellFits_0 43 rfl) rfl 0 rfl ?_
        refine J_dup E (jd dk_X7_tellFits_0 44 rfl) rfl ?_
        obtain ⟨x18, e19, hf⟩ := jbind hf
        refine J_geti E (jd dk_X7_tellFits_0 45 rfl) fl_RX7_432 e19 ?_
        refine J_iconst (v := 1) E (jd dk_X7_tellFits_0 46 rfl) rfl ?_
        refine J_iadd E (jd dk_X7_tellFits_0 47 rfl) ?_
        obtain ⟨h20, e21, hf⟩ := jbind hf
        refine J_put E (jd dk_X7_tellFits_0 48 rfl) fl_RX7_432 e21 (fun _ => rfl) (fun _ => rfl) ?_
        exact lk_X7_tellFits_b79 E hX hr N hf kb ke0
      · replace hf := jif_t c11 hf
        refine J_goto (tgt := 79) E (jd dk_X7_tellFits_0 32 rfl) (by decide) ?_
        exact lk_X7_tellFits_b79 E hX hr N hf kb ke0
set_option maxRecDepth 100000 in
set_option maxHeartbeats 4000000 in
theorem lk_X7_tellFits_b26 {G : JG} {X : JX} (E : jE G X (RX7, cX7_tellFits, 4)) (hX : X.2.2.2.1 = jRm 7 0 0) (hr : X.2.2.2.2.2.2.2.2.1.sig.returnType = none) (N : Nat) {Q : State → Prop} {v0 : Nat} {v1 : Int32} {v2 : Int32} {v3 : Int32} {h : AH}  {q : ((Int32 × AH) ⊕ ((AH)))} (hf : f_X7_tellFits_b26 N v0 v1 v2 v3 h = some q) (kb : ∀ s' : Int32 × AH, q = .inl s' → JW G X (RX7, cX7_tellFits, 4) s'.2 [(0, .ref v0), (1, .int s'.1)] [] 7 0 0 Q) (ke0 : ∀ e : AH, q = .inr e → JW G X (RX7, cX7_tellFits, 4) e [] [] 98 0 0 Q) : JW G X (RX7, cX7_tellFits, 4) h [(0, .ref v0), (1, .int v1), (2, .int v2), (3, .int v3)] [] 26 0 0 Q := by
  unfold f_X7_tellFits_b26 at hf
  obtain ⟨q1, h1, hf⟩ := jbind hf
  refine jloop (P := fun s => JW G X (RX7, cX7_tellFits, 4) s.2 [(0, .ref v0), (1, .int v1), (2, .int v2), (3, .int s.1)] [] 26 0 0 Q) (Ex := fun (e : AH) => JW G X (RX7, cX7_tellFits, 4) e [(0, .ref v0), (1, .int v1), (2, .int v2)] [] 85 0 0 Q) (fun s q hs hb hx => lk_X7_tellFits_l26 E hX hr N hs (fun s' hs => hb s' hs) (fun e he => hx e he)) N _ q1 h1 ?_
  generalize q1 = e at hf ⊢
  refine J_aload_n E (jd dk_X7_tellFits_1 1 rfl) rfl 0 rfl ?_
  obtain ⟨x22, e23, hf⟩ := jbind hf
  refine J_getr E (jd dk_X7_tellFits_1 2 rfl) fl_RX7_72 e23 ?_
  refine J_iload_n E (jd dk_X7_tellFits_1 3 rfl) rfl 1 rfl ?_
  refine J_iload_n E (jd dk_X7_tellFits_1 4 rfl) rfl 2 rfl ?_
  obtain ⟨h24, e25, hf⟩ := jbind hf
  refine J_iast E (jd dk_X7_tellFits_1 5 rfl) e25 ?_
  refine J_iinc (v := v1 + 1) (lv' := [(1, .int (v1 + 1)), (0, .ref v0), (2, .int v2)]) E (jd dk_X7_tellFits_1 6 rfl) 1 rfl rfl (by decide) rfl ?_
  refine J_goto (tgt := 7) E (jd dk_X7_tellFits_1 7 rfl) (by decide) ?_
  refine J_sub [1, 0] rfl ?_
  exact kb _ (Option.some.inj hf).symm
set_option maxRecDepth 100000 in
set_option maxHeartbeats 4000000 in
theorem lk_X7_tellFits_l7 {G : JG} {X : JX} (E : jE G X (RX7, cX7_tellFits, 4)) (hX : X.2.2.2.1 = jRm 7 0 0) (hr : X.2.2.2.2.2.2.2.2.1.sig.returnType = none) (N : Nat) {Q : State → Prop} {v0 : Nat} {v1 : Int32}  {h : AH} {q : ((Int32 × AH) ⊕ ((AH)))} (hf : f_X7_tellFits_l7 N v0 v1 h = some q) (kb : ∀ s' : Int32 × AH, q = .inl s' → JW G X (RX7, cX7_tellFits, 4) s'.2 [(0, .ref v0), (1, .int s'.1)] [] 7 0 0 Q) (ke0 : ∀ e : AH, q = .inr e → JW G X (RX7, cX7_tellFits, 4) e [] [] 98 0 0 Q) : JW G X (RX7, cX7_tellFits, 4) h [(0, .ref v0), (1, .int v1)] [] 7 0 0 Q := by
  unfold f_X7_tellFits_l7 at hf
  refine J_iload_n E (jd dk_X7_tellFits_0 5 rfl) rfl 1 rfl ?_
  refine J_aload_n E (jd dk_X7_tellFits_0 6 rfl) rfl 0 rfl ?_
  obtain ⟨x26, e27, hf⟩ := jbind hf
  refine J_getr E (jd dk_X7_tellFits_0 7 rfl) fl_RX7_42 e27 ?_
  refine J_iconst (v := 2) E (jd dk_X7_tellFits_0 8 rfl) rfl ?_
  obtain ⟨x28, e29, hf⟩ := jbind hf
  refine J_iald E (jd dk_X7_tellFits_0 9 rfl) e29 ?_
  refine J_icmp_ge (tgt := 98) E (jd dk_X7_tellFits_0 10 rfl) (by decide) (fun c30 => ?_) (fun c30 => ?_)
  · replace hf := jif_t c30 hf
    refine J_sub [] rfl ?_
    exact ke0 _ (Option.some.inj hf).symm
  · replace hf := jif_f c30 hf
    refine J_aload_n E (jd dk_X7_tellFits_0 11 rfl) rfl 0 rfl ?_
    obtain ⟨x31, e32, hf⟩ := jbind hf
    refine J_getr E (jd dk_X7_tellFits_0 12 rfl) fl_RX7_72 e32 ?_
    refine J_iload_n E (jd dk_X7_tellFits_0 13 rfl) rfl 1 rfl ?_
    obtain ⟨x33, e34, hf⟩ := jbind hf
    refine J_iald E (jd dk_X7_tellFits_0 14 rfl) e34 ?_
    refine J_istore_n (lv' := [(2, .int x33), (0, .ref v0), (1, .int v1)]) E (jd dk_X7_tellFits_0 15 rfl) rfl (by decide) rfl ?_
    refine J_iconst (v := 0) E (jd dk_X7_tellFits_0 16 rfl) rfl ?_
    refine J_istore_n (lv' := [(3, .int 0), (2, .int x33), (0, .ref v0), (1, .int v1)]) E (jd dk_X7_tellFits_0 17 rfl) rfl (by decide) rfl ?_
    refine J_sub [2, 3, 1, 0] rfl ?_
    exact lk_X7_tellFits_b26 E hX hr N hf kb ke0
set_option maxRecDepth 100000 in
set_option maxHeartbeats 4000000 in
theorem lk_X7_tellFits_b7 {G : JG} {X : JX} (E : jE G X (RX7, cX7_tellFits, 4)) (hX : X.2.2.2.1 = jRm 7 0 0) (hr : X.2.2.2.2.2.2.2.2.1.sig.returnType = none) (N : Nat) {v0 : Nat} {v1 : Int32} {h : AH}  {r : AH} (hf : f_X7_tellFits_b7 N v0 v1 h = some r) : JW G X (RX7, cX7_tellFits, 4) h [(0, .ref v0), (1, .int v1)] [] 7 0 0 (jEnd G X (jpv r) 0 0) := by
  unfold f_X7_tellFits_b7 at hf
  obtain ⟨q1, h1, hf⟩ := jbind hf
  refine jloop (P := fun s => JW G X (RX7, cX7_tellFits, 4) s.2 [(0, .ref v0), (1, .int s.1)] [] 7 0 0 (jEnd G X (jpv r) 0 0)) (Ex := fun (e : AH) => JW G X (RX7, cX7_tellFits, 4) e [] [] 98 0 0 (jEnd G X (jpv r) 0 0)) (fun s q hs hb hx => lk_X7_tellFits_l7 E hX hr N hs (fun s' hs => hb s' hs) (fun e he => hx e he)) N _ q1 h1 ?_
  generalize q1 = e at hf ⊢
  cases hf
  exact J_vret E hr (jd dk_X7_tellFits_1 8 rfl) (Nat.le_refl _) (Nat.le_refl _) ⟨rfl, rfl⟩
set_option maxRecDepth 100000 in
set_option maxHeartbeats 4000000 in
theorem lk_X7_tellFits {G : JG} {l : Launch} (hG : jG G) (htr : l.stackTraces = false) (N : Nat) {h : AH} {a0 : Nat} {r : AH} (hf : f_X7_tellFits N h a0 = some r) : jMet G l yX7_tellFits cX7_tellFits 4 none 7 0 0 [.ref a0] h (jpv r) := by
  unfold f_X7_tellFits at hf
  refine jMet_of hG htr (by decide) (Nat.le_of_ble_eq_true rfl) ?_
  intro X E hl9 hr hX _ _
  show JW G X (RX7, cX7_tellFits, 4) h [(0, .ref a0)] [] 0 0 0 (jEnd G X (jpv r) 0 0)
  refine J_aload_n E (jd dk_X7_tellFits_0 0 rfl) rfl 0 rfl ?_
  refine J_iconst (v := 0) E (jd dk_X7_tellFits_0 1 rfl) rfl ?_
  obtain ⟨h35, e36, hf⟩ := jbind hf
  refine J_put E (jd dk_X7_tellFits_0 2 rfl) fl_RX7_432 e36 (fun _ => rfl) (fun _ => rfl) ?_
  refine J_iconst (v := 0) E (jd dk_X7_tellFits_0 3 rfl) rfl ?_
  refine J_istore_n (lv' := [(1, .int 0), (0, .ref a0)]) E (jd dk_X7_tellFits_0 4 rfl) rfl (by decide) rfl ?_
  refine J_sub [1, 0] rfl ?_
  exact lk_X7_tellFits_b7 E hX hr N hf
def f_X7_leans (N : Nat) (h : AH) (a0 : Nat) (a1 : Int32) : Option (Int32 × AH) :=
  (jwi 7 h a0 4 0).bind fun h1 =>
  (f_X7_isIn N h1 (Int32.toInt64 a1) 0 2).bind fun r3 =>
  if r3.1 = 0 then (jck 7 r3.2 a0).bind fun _ =>
  (f_X7_fail N r3.2 a0 1).bind fun r26 =>
  some (r26.1, r26.2)
  else if a1 = 2 then (jck 7 r3.2 a0).bind fun _ =>
  (f_X7_isAsSeen N r3.2 a0).bind fun r21 =>
  if r21.1 = 0 then some (0, r21.2)
  else some (1, r21.2)
  else (jck 7 r3.2 a0).bind fun _ =>
  (f_X7_tellFits N r3.2 a0).bind fun r7 =>
  if a1 = 0 then (jgi 7 r7 a0 49).bind fun x19 =>
  some (x19, r7)
  else (jgi 7 r7 a0 49).bind fun x12 =>
  if x12 = 0 then some ((-1), r7)
  else (jgr 7 r7 a0 47).bind fun x15 =>
  (jal 0 r7 x15 0).bind fun x17 =>
  some (x17, r7)
set_option maxRecDepth 100000 in
set_option maxHeartbeats 4000000 in
theorem lk_X7_leans {G : JG} {l : Launch} (hG : jG G) (htr : l.stackTraces = false) (N : Nat) {h : AH} {a0 : Nat} {a1 : Int32} {r : (Int32 × AH)} (hf : f_X7_leans N h a0 a1 = some r) : jMet G l yX7_leans cX7_leans 2 (some .int) 8 0 0 [.ref a0, .int a1] h (jpi r) := by
  unfold f_X7_leans at hf
  refine jMet_of hG htr (by decide) (Nat.le_of_ble_eq_true rfl) ?_
  intro X E hl9 hr hX _ _
  show JW G X (RX7, cX7_leans, 2) h [(0, .ref a0), (1, .int a1)] [] 0 0 0 (jEnd G X (jpi r) 0 0)
  refine J_aload_n E (jd dk_X7_leans_0 0 rfl) rfl 0 rfl ?_
  refine J_iconst (v := 0) E (jd dk_X7_leans_0 1 rfl) rfl ?_
  obtain ⟨h1, e2, hf⟩ := jbind hf
  refine J_put E (jd dk_X7_leans_0 2 rfl) fl_RX7_151 e2 (fun _ => rfl) (fun _ => rfl) ?_
  refine J_iload_n E (jd dk_X7_leans_0 3 rfl) rfl 1 rfl ?_
  refine J_i2l E (jd dk_X7_leans_0 4 rfl) ?_
  refine J_lconst (v := 0) E (jd dk_X7_leans_0 5 rfl) (by decide) ?_
  refine J_ldc2 (v := 2) E (jd dk_X7_leans_0 6 rfl) (jl30_in _ (List.mem_of_getElem? (i := 13) rfl)) ?_
  obtain ⟨r3, e4, hf⟩ := jbind hf
  refine J_callS E (jd dk_X7_leans_0 7 rfl) ml_RX7_154 cal_X7_isIn (lk_X7_isIn (jE_g E) (jE_tr E) N e4) rfl (Nat.le_of_ble_eq_true rfl) (jR_le hX (by decide) (by decide)) (jF0 hX) rfl ?_
  rintro _ _ ⟨rfl, rfl⟩
  refine J_if_ne (tgt := 23) E (jd dk_X7_leans_0 8 rfl) (by decide) (fun c5 => ?_) (fun c5 => ?_)
  · replace hf := jif_f c5 hf
    refine J_iload_n E (jd dk_X7_leans_0 13 rfl) rfl 1 rfl ?_
    refine J_iconst (v := 2) E (jd dk_X7_leans_0 14 rfl) rfl ?_
    refine J_icmp_ne (tgt := 41) E (jd dk_X7_leans_0 15 rfl) (by decide) (fun c6 => ?_) (fun c6 => ?_)
    · replace hf := jif_f c6 hf
      refine J_aload_n E (jd dk_X7_leans_0 23 rfl) rfl 0 rfl ?_
      obtain ⟨u9, e10, hf⟩ := jbind hf
      obtain ⟨r7, e8, hf⟩ := jbind hf
      refine J_callV E (jd dk_X7_leans_0 24 rfl) ml_RX7_439 cal_X7_tellFits e10 rfl (lk_X7_tellFits (jE_g E) (jE_tr E) N e8) rfl (Nat.le_of_ble_eq_true rfl) (jR_le hX (by decide) (by decide)) (jF0 hX) rfl ?_
      rintro _ _ ⟨rfl, rfl⟩
      refine J_iload_n E (jd dk_X7_leans_0 25 rfl) rfl 1 rfl ?_
      refine J_if_ne (tgt := 56) E (jd dk_X7_leans_0 26 rfl) (by decide) (fun c11 => ?_) (fun c11 => ?_)
      · replace hf := jif_f c11 hf
        refine J_aload_n E (jd dk_X7_leans_0 30 rfl) rfl 0 rfl ?_
        obtain ⟨x12, e13, hf⟩ := jbind hf
        refine J_geti E (jd dk_X7_leans_0 31 rfl) fl_RX7_432 e13 ?_
        refine J_if_ne (tgt := 67) E (jd dk_X7_leans_0 32 rfl) (by decide) (fun c14 => ?_) (fun c14 => ?_)
        · replace hf := jif_f c14 hf
          refine J_aload_n E (jd dk_X7_leans_0 35 rfl) rfl 0 rfl ?_
          obtain ⟨x15, e16, hf⟩ := jbind hf
          refine J_getr E (jd dk_X7_leans_0 36 rfl) fl_RX7_124 e16 ?_
          refine J_iconst (v := 0) E (jd dk_X7_leans_0 37 rfl) rfl ?_
          obtain ⟨x17, e18, hf⟩ := jbind hf
          refine J_iald E (jd dk_X7_leans_0 38 rfl) e18 ?_
          cases hf
          exact J_iret E hr rfl (jd dk_X7_leans_0 39 rfl) (Nat.le_refl _) (Nat.le_refl _) ⟨rfl, rfl⟩
        · replace hf := jif_t c14 hf
          refine J_iconst (v := (-1)) E (jd dk_X7_leans_0 33 rfl) rfl ?_
          refine J_goto (tgt := 73) E (jd dk_X7_leans_0 34 rfl) (by decide) ?_
          cases hf
          exact J_iret E hr rfl (jd dk_X7_leans_0 39 rfl) (Nat.le_refl _) (Nat.le_refl _) ⟨rfl, rfl⟩
      · replace hf := jif_t c11 hf
        refine J_aload_n E (jd dk_X7_leans_0 27 rfl) rfl 0 rfl ?_
        obtain ⟨x19, e20, hf⟩ := jbind hf
        refine J_geti E (jd dk_X7_leans_0 28 rfl) fl_RX7_432 e20 ?_
        refine J_goto (tgt := 73) E (jd dk_X7_leans_0 29 rfl) (by decide) ?_
        cases hf
        exact J_iret E hr rfl (jd dk_X7_leans_0 39 rfl) (Nat.le_refl _) (Nat.le_refl _) ⟨rfl, rfl⟩
    · replace hf := jif_t c6 hf
      refine J_aload_n E (jd dk_X7_leans_0 16 rfl) rfl 0 rfl ?_
      obtain ⟨u23, e24, hf⟩ := jbind hf
      obtain ⟨r21, e22, hf⟩ := jbind hf
      refine J_callV E (jd dk_X7_leans_0 17 rfl) ml_RX7_435 cal_X7_isAsSeen e24 rfl (lk_X7_isAsSeen (jE_g E) (jE_tr E) N e22) rfl (Nat.le_of_ble_eq_true rfl) (jR_le hX (by decide) (by decide)) (jF0 hX) rfl ?_
      rintro _ _ ⟨rfl, rfl⟩
      refine J_if_eq (tgt := 39) E (jd dk_X7_leans_0 18 rfl) (by decide) (fun c25 => ?_) (fun c25 => ?_)
      · replace hf := jif_t c25 hf
        refine J_iconst (v := 0) E (jd dk_X7_leans_0 21 rfl) rfl ?_
        cases hf
        exact J_iret E hr rfl (jd dk_X7_leans_0 22 rfl) (Nat.le_refl _) (Nat.le_refl _) ⟨rfl, rfl⟩
      · replace hf := jif_f c25 hf
        refine J_iconst (v := 1) E (jd dk_X7_leans_0 19 rfl) rfl ?_
        refine J_goto (tgt := 40) E (jd dk_X7_leans_0 20 rfl) (by decide) ?_
        cases hf
        exact J_iret E hr rfl (jd dk_X7_leans_0 22 rfl) (Nat.le_refl _) (Nat.le_refl _) ⟨rfl, rfl⟩
  · replace hf := jif_t c5 hf
    refine J_aload_n E (jd dk_X7_leans_0 9 rfl) rfl 0 rfl ?_
    refine J_iconst (v := 1) E (jd dk_X7_leans_0 10 rfl) rfl ?_
    obtain ⟨u28, e29, hf⟩ := jbind hf
    obtain ⟨r26, e27, hf⟩ := jbind hf
    refine J_callV E (jd dk_X7_leans_0 11 rfl) ml_RX7_293 cal_X7_fail e29 rfl (lk_X7_fail (jE_g E) (jE_tr E) N e27) rfl (Nat.le_of_ble_eq_true rfl) (jR_le hX (by decide) (by decide)) (jF0 hX) rfl ?_
    rintro _ _ ⟨rfl, rfl⟩
    cases hf
    exact J_iret E hr rfl (jd dk_X7_leans_0 12 rfl) (Nat.le_refl _) (Nat.le_refl _) ⟨rfl, rfl⟩
def f_X7_watch_b217 (N : Nat) (v0 : Nat) (v1 : Int32) (v2 : Int32) (v3 : Int32) (v4 : Int32) (h : AH) : Option ((Int32 × Int32 × Int32 × AH) ⊕ ((Int32 × Int32 × AH))) :=
  some (.inl ((v2, v3, v4 + 1, h)))
def f_X7_watch_l175 (N : Nat) (v0 : Nat) (v1 : Int32) (v2 : Int32) (v3 : Int32) (v4 : Int32) (h : AH) : Option ((Int32 × Int32 × Int32 × AH) ⊕ ((Int32 × Int32 × AH))) :=
  (jgr 7 h v0 5).bind fun x1 =>
  (jal 0 h x1 2).bind fun x3 =>
  if x3 ≤ v4 then some (.inr ((v2, v3, h)))
  else (jgr 7 h v0 48).bind fun x6 =>
  (jal 0 h x6 v4).bind fun x8 =>
  (f_X7_bitsOf N h x8).bind fun r10 =>
  if v3 < r10.1 then (jgr 7 r10.2 v0 48).bind fun x13 =>
  (jal 0 r10.2 x13 v4).bind fun x15 =>
  (f_X7_bitsOf N r10.2 x15).bind fun r17 =>
  f_X7_watch_b217 N v0 v1 v4 r17.1 v4 r17.2
  else f_X7_watch_b217 N v0 v1 v2 v3 v4 r10.2
def f_X7_watch_b175 (N : Nat) (v0 : Nat) (v1 : Int32) (v2 : Int32) (v3 : Int32) (v4 : Int32) (h : AH) : Option (Int32 × AH) :=
  (itr (fun s => f_X7_watch_l175 N v0 v1 s.1 s.2.1 s.2.2.1 s.2.2.2) N (v2, v3, v4, h)).bind (fun e => if v1 = 0 then some (e.1, e.2.2)
  else some (e.2.1, e.2.2))
def f_X7_watch_l107 (N : Nat) (v0 : Nat) (v1 : Int32) (v2 : Int32) (v3 : Int32) (v4 : Int32) (v5 : Int32) (h : AH) : Option ((Int32 × AH) ⊕ ((AH))) :=
  (jgr 7 h v0 5).bind fun x20 =>
  (jal 0 h x20 2).bind fun x22 =>
  if x22 ≤ v5 then some (.inr h)
  else (jgr 7 h v0 48).bind fun x25 =>
  (jal 0 h x25 v5).bind fun x27 =>
  (jgr 7 h v0 28).bind fun x29 =>
  (jal 0 h x29 v5).bind fun x31 =>
  (jas 0 h x25 v5 (x27 ||| ((1 : Int32) <<< ((x31 + 2) &&& 31)))).bind fun h33 =>
  some (.inl ((v5 + 1, h33)))
def f_X7_watch_b107 (N : Nat) (v0 : Nat) (v1 : Int32) (v2 : Int32) (v3 : Int32) (v4 : Int32) (v5 : Int32) (h : AH) : Option ((Int32 × AH) ⊕ ((AH))) :=
  (itr (fun s => f_X7_watch_l107 N v0 v1 v2 v3 v4 s.1 s.2) N (v5, h)).bind (fun e => (jgr 7 e v0 15).bind fun x35 =>
  (jas 0 e x35 v3 v4).bind fun h37 =>
  (jgr 7 h37 v0 41).bind fun x39 =>
  (jck 7 h37 v0).bind fun _ =>
  (f_X7_unpack N h37 v0 x39 0).bind fun r41 =>
  some (.inl ((v2 + 1, r41))))
def f_X7_watch_l57 (N : Nat) (v0 : Nat) (v1 : Int32) (v2 : Int32) (h : AH) : Option ((Int32 × AH) ⊕ ((AH))) :=
  (jgi 7 h v0 49).bind fun x45 =>
  if x45 ≤ v2 then some (.inr h)
  else (jgr 7 h v0 47).bind fun x48 =>
  (jal 0 h x48 v2).bind fun x50 =>
  (jgr 7 h v0 15).bind fun x52 =>
  (jal 0 h x52 (x50 / 10)).bind fun x54 =>
  (jgr 7 h v0 15).bind fun x56 =>
  (jgr 7 h v0 47).bind fun x58 =>
  (jal 0 h x58 v2).bind fun x60 =>
  (jas 0 h x56 (x50 / 10) (x60 - x60 / 10 * 10)).bind fun h62 =>
  (jck 7 h62 v0).bind fun _ =>
  (f_X7_goOn N h62 v0 6).bind fun r64 =>
  f_X7_watch_b107 N v0 v1 v2 (x50 / 10) x54 0 r64
def f_X7_watch_b57 (N : Nat) (v0 : Nat) (v1 : Int32) (v2 : Int32) (h : AH) : Option (Int32 × AH) :=
  (itr (fun s => f_X7_watch_l57 N v0 v1 s.1 s.2) N (v2, h)).bind (fun e => f_X7_watch_b175 N v0 v1 ((-1)) 0 0 e)
def f_X7_watch_l36 (N : Nat) (v0 : Nat) (v1 : Int32) (v2 : Int32) (h : AH) : Option ((Int32 × AH) ⊕ ((AH))) :=
  if 8 ≤ v2 then some (.inr h)
  else (jgr 7 h v0 48).bind fun x69 =>
  (jas 0 h x69 v2 0).bind fun h71 =>
  some (.inl ((v2 + 1, h71)))
def f_X7_watch_b36 (N : Nat) (v0 : Nat) (v1 : Int32) (v2 : Int32) (h : AH) : Option (Int32 × AH) :=
  (itr (fun s => f_X7_watch_l36 N v0 v1 s.1 s.2) N (v2, h)).bind (fun e => f_X7_watch_b57 N v0 v1 0 e)
def f_X7_watch (N : Nat) (h : AH) (a0 : Nat) (a1 : Int32) : Option (Int32 × AH) :=
  (jwi 7 h a0 4 0).bind fun h73 =>
  (f_X7_isIn N h73 (Int32.toInt64 a1) 0 1).bind fun r75 =>
  if r75.1 = 0 then (jck 7 r75.2 a0).bind fun _ =>
  (f_X7_fail N r75.2 a0 1).bind fun r88 =>
  some (r88.1, r88.2)
  else (jck 7 r75.2 a0).bind fun _ =>
  (f_X7_tellFits N r75.2 a0).bind fun r78 =>
  (jgr 7 r78 a0 41).bind fun x82 =>
  (jck 7 r78 a0).bind fun _ =>
  (f_X7_pack N r78 a0 x82 0).bind fun r84 =>
  f_X7_watch_b36 N a0 a1 0 r84
set_option maxRecDepth 100000 in
set_option maxHeartbeats 4000000 in
theorem lk_X7_watch_b217 {G : JG} {X : JX} (E : jE G X (RX7, cX7_watch, 6)) (hX : X.2.2.2.1 = jRm 8 0 0) (hr : X.2.2.2.2.2.2.2.2.1.sig.returnType = (some .int)) (N : Nat) {Q : State → Prop} {v0 : Nat} {v1 : Int32} {v2 : Int32} {v3 : Int32} {v4 : Int32} {h : AH}  {q : ((Int32 × Int32 × Int32 × AH) ⊕ ((Int32 × Int32 × AH)))} (hf : f_X7_watch_b217 N v0 v1 v2 v3 v4 h = some q) (kb : ∀ s' : Int32 × Int32 × Int32 × AH, q = .inl s' → JW G X (RX7, cX7_watch, 6) s'.2.2.2 [(0, .ref v0), (1, .int v1), (2, .int s'.1), (3, .int s'.2.1), (4, .int s'.2.2.1)] [] 175 0 0 Q) (ke0 : ∀ e : Int32 × Int32 × AH, q = .inr e → JW G X (RX7, cX7_watch, 6) e.2.2 [(1, .int v1), (2, .int e.1), (3, .int e.2.1)] [] 223 0 0 Q) : JW G X (RX7, cX7_watch, 6) h [(0, .ref v0), (1, .int v1), (2, .int v2), (3, .int v3), (4, .int v4)] [] 217 0 0 Q := by
  unfold f_X7_watch_b217 at hf
  refine J_iinc (v := v4 + 1) (lv' := [(4, .int (v4 + 1)), (0, .ref v0), (1, .int v1), (2, .int v2), (3, .int v3)]) E (jd dk_X7_watch_2 28 rfl) 4 rfl rfl (by decide) rfl ?_
  refine J_goto (tgt := 175) E (jd dk_X7_watch_2 29 rfl) (by decide) ?_
  refine J_sub [1, 2, 3, 4, 0] rfl ?_
  exact kb _ (Option.some.inj hf).symm
set_option maxRecDepth 100000 in
set_option maxHeartbeats 4000000 in
theorem lk_X7_watch_l175 {G : JG} {X : JX} (E : jE G X (RX7, cX7_watch, 6)) (hX : X.2.2.2.1 = jRm 8 0 0) (hr : X.2.2.2.2.2.2.2.2.1.sig.returnType = (some .int)) (N : Nat) {Q : State → Prop} {v0 : Nat} {v1 : Int32} {v2 : Int32} {v3 : Int32} {v4 : Int32}  {h : AH} {q : ((Int32 × Int32 × Int32 × AH) ⊕ ((Int32 × Int32 × AH)))} (hf : f_X7_watch_l175 N v0 v1 v2 v3 v4 h = some q) (kb : ∀ s' : Int32 × Int32 × Int32 × AH, q = .inl s' → JW G X (RX7, cX7_watch, 6) s'.2.2.2 [(0, .ref v0), (1, .int v1), (2, .int s'.1), (3, .int s'.2.1), (4, .int s'.2.2.1)] [] 175 0 0 Q) (ke0 : ∀ e : Int32 × Int32 × AH, q = .inr e → JW G X (RX7, cX7_watch, 6) e.2.2 [(1, .int v1), (2, .int e.1), (3, .int e.2.1)] [] 223 0 0 Q) : JW G X (RX7, cX7_watch, 6) h [(0, .ref v0), (1, .int v1), (2, .int v2), (3, .int v3), (4, .int v4)] [] 175 0 0 Q := by
  unfold f_X7_watch_l175 at hf
  refine J_iload E (jd dk_X7_watch_2 6 rfl) 4 rfl ?_
  refine J_aload_n E (jd dk_X7_watch_2 7 rfl) rfl 0 rfl ?_
  obtain ⟨x1, e2, hf⟩ := jbind hf
  refine J_getr E (jd dk_X7_watch_2 8 rfl) fl_RX7_42 e2 ?_
  refine J_iconst (v := 2) E (jd dk_X7_watch_2 9 rfl) rfl ?_
  obtain ⟨x3, e4, hf⟩ := jbind hf
  refine J_iald E (jd dk_X7_watch_2 10 rfl) e4 ?_
  refine J_icmp_ge (tgt := 223) E (jd dk_X7_watch_2 11 rfl) (by decide) (fun c5 => ?_) (fun c5 => ?_)
  · replace hf := jif_t c5 hf
    refine J_sub [1, 2, 3] rfl ?_
    exact ke0 _ (Option.some.inj hf).symm
  · replace hf := jif_f c5 hf
    refine J_aload_n E (jd dk_X7_watch_2 12 rfl) rfl 0 rfl ?_
    obtain ⟨x6, e7, hf⟩ := jbind hf
    refine J_getr E (jd dk_X7_watch_2 13 rfl) fl_RX7_127 e7 ?_
    refine J_iload E (jd dk_X7_watch_2 14 rfl) 4 rfl ?_
    obtain ⟨x8, e9, hf⟩ := jbind hf
    refine J_iald E (jd dk_X7_watch_2 15 rfl) e9 ?_
    obtain ⟨r10, e11, hf⟩ := jbind hf
    refine J_callS E (jd dk_X7_watch_2 16 rfl) ml_RX7_327 cal_X7_bitsOf (lk_X7_bitsOf (jE_g E) (jE_tr E) N e11) rfl (Nat.le_of_ble_eq_true rfl) (jR_le hX (by decide) (by decide)) (jF0 hX) rfl ?_
    rintro _ _ ⟨rfl, rfl⟩
    refine J_iload_n E (jd dk_X7_watch_2 17 rfl) rfl 3 rfl ?_
    refine J_icmp_gt (tgt := 203) E (jd dk_X7_watch_2 18 rfl) (by decide) (fun c12 => ?_) (fun c12 => ?_)
    · replace hf := jif_t c12 hf
      refine J_iload E (jd dk_X7_watch_2 20 rfl) 4 rfl ?_
      refine J_istore_n (lv' := [(2, .int v4), (0, .ref v0), (1, .int v1), (3, .int v3), (4, .int v4)]) E (jd dk_X7_watch_2 21 rfl) rfl (by decide) rfl ?_
      refine J_aload_n E (jd dk_X7_watch_2 22 rfl) rfl 1 rfl ?_
      obtain ⟨x13, e14, hf⟩ := jbind hf
      refine J_getr E (jd dk_X7_watch_2 23 rfl) fl_RX7_127 e14 ?_
      refine J_iload E (jd dk_X7_watch_2 24 rfl) 4 rfl ?_
      obtain ⟨x15, e16, hf⟩ := jbind hf
      refine J_iald E (jd dk_X7_watch_2 25 rfl) e16 ?_
      obtain ⟨r17, e18, hf⟩ := jbind hf
      refine J_callS E (jd dk_X7_watch_2 26 rfl) ml_RX7_327 cal_X7_bitsOf (lk_X7_bitsOf (jE_g E) (jE_tr E) N e18) rfl (Nat.le_of_ble_eq_true rfl) (jR_le hX (by decide) (by decide)) (jF0 hX) rfl ?_
      rintro _ _ ⟨rfl, rfl⟩
      refine J_istore_n (lv' := [(3, .int r17.1), (2, .int v4), (0, .ref v0), (1, .int v1), (4, .int v4)]) E (jd dk_X7_watch_2 27 rfl) rfl (by decide) rfl ?_
      refine J_sub [2, 3, 1, 0, 4] rfl ?_
      exact lk_X7_watch_b217 E hX hr N hf kb ke0
    · replace hf := jif_f c12 hf
      refine J_goto (tgt := 217) E (jd dk_X7_watch_2 19 rfl) (by decide) ?_
      exact lk_X7_watch_b217 E hX hr N hf kb ke0
set_option maxRecDepth 100000 in
set_option maxHeartbeats 4000000 in
theorem lk_X7_watch_b175 {G : JG} {X : JX} (E : jE G X (RX7, cX7_watch, 6)) (hX : X.2.2.2.1 = jRm 8 0 0) (hr : X.2.2.2.2.2.2.2.2.1.sig.returnType = (some .int)) (N : Nat) {v0 : Nat} {v1 : Int32} {v2 : Int32} {v3 : Int32} {v4 : Int32} {h : AH}  {r : (Int32 × AH)} (hf : f_X7_watch_b175 N v0 v1 v2 v3 v4 h = some r) : JW G X (RX7, cX7_watch, 6) h [(0, .ref v0), (1, .int v1), (2, .int v2), (3, .int v3), (4, .int v4)] [] 175 0 0 (jEnd G X (jpi r) 0 0) := by
  unfold f_X7_watch_b175 at hf
  obtain ⟨q1, h1, hf⟩ := jbind hf
  refine jloop (P := fun s => JW G X (RX7, cX7_watch, 6) s.2.2.2 [(0, .ref v0), (1, .int v1), (2, .int s.1), (3, .int s.2.1), (4, .int s.2.2.1)] [] 175 0 0 (jEnd G X (jpi r) 0 0)) (Ex := fun (e : Int32 × Int32 × AH) => JW G X (RX7, cX7_watch, 6) e.2.2 [(1, .int v1), (2, .int e.1), (3, .int e.2.1)] [] 223 0 0 (jEnd G X (jpi r) 0 0)) (fun s q hs hb hx => lk_X7_watch_l175 E hX hr N hs (fun s' hs => hb s' hs) (fun e he => hx e he)) N _ q1 h1 ?_
  generalize q1 = e at hf ⊢
  refine J_iload_n E (jd dk_X7_watch_2 30 rfl) rfl 0 rfl ?_
  refine J_if_ne (tgt := 231) E (jd dk_X7_watch_2 31 rfl) (by decide) (fun c19 => ?_) (fun c19 => ?_)
  · replace hf := jif_f c19 hf
    refine J_iload_n E (jd dk_X7_watch_2 34 rfl) rfl 2 rfl ?_
    cases hf
    exact J_iret E hr rfl (jd dk_X7_watch_2 35 rfl) (Nat.le_refl _) (Nat.le_refl _) ⟨rfl, rfl⟩
  · replace hf := jif_t c19 hf
    refine J_iload_n E (jd dk_X7_watch_2 32 rfl) rfl 1 rfl ?_
    refine J_goto (tgt := 232) E (jd dk_X7_watch_2 33 rfl) (by decide) ?_
    cases hf
    exact J_iret E hr rfl (jd dk_X7_watch_2 35 rfl) (Nat.le_refl _) (Nat.le_refl _) ⟨rfl, rfl⟩
set_option maxRecDepth 100000 in
set_option maxHeartbeats 4000000 in
theorem lk_X7_watch_l107 {G : JG} {X : JX} (E : jE G X (RX7, cX7_watch, 6)) (hX : X.2.2.2.1 = jRm 8 0 0) (hr : X.2.2.2.2.2.2.2.2.1.sig.returnType = (some .int)) (N : Nat) {Q : State → Prop} {v0 : Nat} {v1 : Int32} {v2 : Int32} {v3 : Int32} {v4 : Int32} {v5 : Int32}  {h : AH} {q : ((Int32 × AH) ⊕ ((AH)))} (hf : f_X7_watch_l107 N v0 v1 v2 v3 v4 v5 h = some q) (kb : ∀ s' : Int32 × AH, q = .inl s' → JW G X (RX7, cX7_watch, 6) s'.2 [(0, .ref v0), (1, .int v1), (2, .int v2), (3, .int v3), (4, .int v4), (5, .int s'.1)] [] 107 0 0 Q) (ke0 : ∀ e : AH, q = .inr e → JW G X (RX7, cX7_watch, 6) e [(0, .ref v0), (1, .int v1), (2, .int v2), (3, .int v3), (4, .int v4)] [] 145 0 0 Q) : JW G X (RX7, cX7_watch, 6) h [(0, .ref v0), (1, .int v1), (2, .int v2), (3, .int v3), (4, .int v4), (5, .int v5)] [] 107 0 0 Q := by
  unfold f_X7_watch_l107 at hf
  refine J_iload E (jd dk_X7_watch_1 15 rfl) 5 rfl ?_
  refine J_aload_n E (jd dk_X7_watch_1 16 rfl) rfl 0 rfl ?_
  obtain ⟨x20, e21, hf⟩ := jbind hf
  refine J_getr E (jd dk_X7_watch_1 17 rfl) fl_RX7_42 e21 ?_
  refine J_iconst (v := 2) E (jd dk_X7_watch_1 18 rfl) rfl ?_
  obtain ⟨x22, e23, hf⟩ := jbind hf
  refine J_iald E (jd dk_X7_watch_1 19 rfl) e23 ?_
  refine J_icmp_ge (tgt := 145) E (jd dk_X7_watch_1 20 rfl) (by decide) (fun c24 => ?_) (fun c24 => ?_)
  · replace hf := jif_t c24 hf
    refine J_sub [0, 1, 2, 3, 4] rfl ?_
    exact ke0 _ (Option.some.inj hf).symm
  · replace hf := jif_f c24 hf
    refine J_aload_n E (jd dk_X7_watch_1 21 rfl) rfl 0 rfl ?_
    obtain ⟨x25, e26, hf⟩ := jbind hf
    refine J_getr E (jd dk_X7_watch_1 22 rfl) fl_RX7_127 e26 ?_
    refine J_iload E (jd dk_X7_watch_1 23 rfl) 5 rfl ?_
    refine J_dup2 E (jd dk_X7_watch_1 24 rfl) rfl rfl ?_
    obtain ⟨x27, e28, hf⟩ := jbind hf
    refine J_iald E (jd dk_X7_watch_1 25 rfl) e28 ?_
    refine J_iconst (v := 1) E (jd dk_X7_watch_1 26 rfl) rfl ?_
    refine J_aload_n E (jd dk_X7_watch_1 27 rfl) rfl 0 rfl ?_
    obtain ⟨x29, e30, hf⟩ := jbind hf
    refine J_getr E (jd dk_X7_watch_1 28 rfl) fl_RX7_81 e30 ?_
    refine J_iload E (jd dk_X7_watch_1 29 rfl) 5 rfl ?_
    obtain ⟨x31, e32, hf⟩ := jbind hf
    refine J_iald E (jd dk_X7_watch_1 30 rfl) e32 ?_
    refine J_iconst (v := 2) E (jd dk_X7_watch_1 31 rfl) rfl ?_
    refine J_iadd E (jd dk_X7_watch_1 32 rfl) ?_
    refine J_ishl E (jd dk_X7_watch_1 33 rfl) ?_
    refine J_ior E (jd dk_X7_watch_1 34 rfl) ?_
    obtain ⟨h33, e34, hf⟩ := jbind hf
    refine J_iast E (jd dk_X7_watch_1 35 rfl) e34 ?_
    refine J_iinc (v := v5 + 1) (lv' := [(5, .int (v5 + 1)), (0, .ref v0), (1, .int v1), (2, .int v2), (3, .int v3), (4, .int v4)]) E (jd dk_X7_watch_1 36 rfl) 5 rfl rfl (by decide) rfl ?_
    refine J_goto (tgt := 107) E (jd dk_X7_watch_1 37 rfl) (by decide) ?_
    refine J_sub [1, 2, 3, 4, 5, 0] rfl ?_
    exact kb _ (Option.some.inj hf).symm
set_option maxRecDepth 100000 in
set_option maxHeartbeats 4000000 in
theorem lk_X7_watch_b107 {G : JG} {X : JX} (E : jE G X (RX7, cX7_watch, 6)) (hX : X.2.2.2.1 = jRm 8 0 0) (hr : X.2.2.2.2.2.2.2.2.1.sig.returnType = (some .int)) (N : Nat) {Q : State → Prop} {v0 : Nat} {v1 : Int32} {v2 : Int32} {v3 : Int32} {v4 : Int32} {v5 : Int32} {h : AH}  {q : ((Int32 × AH) ⊕ ((AH)))} (hf : f_X7_watch_b107 N v0 v1 v2 v3 v4 v5 h = some q) (kb : ∀ s' : Int32 × AH, q = .inl s' → JW G X (RX7, cX7_watch, 6) s'.2 [(0, .ref v0), (1, .int v1), (2, .int s'.1)] [] 57 0 0 Q) (ke0 : ∀ e : AH, q = .inr e → JW G X (RX7, cX7_watch, 6) e [(0, .ref v0), (1, .int v1)] [] 168 0 0 Q) : JW G X (RX7, cX7_watch, 6) h [(0, .ref v0), (1, .int v1), (2, .int v2), (3, .int v3), (4, .int v4), (5, .int v5)] [] 107 0 0 Q := by
  unfold f_X7_watch_b107 at hf
  obtain ⟨q1, h1, hf⟩ := jbind hf
  refine jloop (P := fun s => JW G X (RX7, cX7_watch, 6) s.2 [(0, .ref v0), (1, .int v1), (2, .int v2), (3, .int v3), (4, .int v4), (5, .int s.1)] [] 107 0 0 Q) (Ex := fun (e : AH) => JW G X (RX7, cX7_watch, 6) e [(0, .ref v0), (1, .int v1), (2, .int v2), (3, .int v3), (4, .int v4)] [] 145 0 0 Q) (fun s q hs hb hx => lk_X7_watch_l107 E hX hr N hs (fun s' hs => hb s' hs) (fun e he => hx e he)) N _ q1 h1 ?_
  generalize q1 = e at hf ⊢
  refine J_aload_n E (jd dk_X7_watch_1 38 rfl) rfl 0 rfl ?_
  obtain ⟨x35, e36, hf⟩ := jbind hf
  refine J_getr E (jd dk_X7_watch_1 39 rfl) fl_RX7_72 e36 ?_
  refine J_iload_n E (jd dk_X7_watch_1 40 rfl) rfl 3 rfl ?_
  refine J_iload E (jd dk_X7_watch_1 41 rfl) 4 rfl ?_
  obtain ⟨h37, e38, hf⟩ := jbind hf
  refine J_iast E (jd dk_X7_watch_1 42 rfl) e38 ?_
  refine J_aload_n E (jd dk_X7_watch_1 43 rfl) rfl 0 rfl ?_
  refine J_aload_n E (jd dk_X7_watch_1 44 rfl) rfl 0 rfl ?_
  obtain ⟨x39, e40, hf⟩ := jbind hf
  refine J_getr E (jd dk_X7_watch_1 45 rfl) fl_RX7_106 e40 ?_
  refine J_iconst (v := 0) E (jd dk_X7_watch_1 46 rfl) rfl ?_
  obtain ⟨u43, e44, hf⟩ := jbind hf
  obtain ⟨r41, e42, hf⟩ := jbind hf
  refine J_callV E (jd dk_X7_watch_1 47 rfl) ml_RX7_407 cal_X7_unpack e44 rfl (lk_X7_unpack (jE_g E) (jE_tr E) N e42) rfl (Nat.le_of_ble_eq_true rfl) (jR_le hX (by decide) (by decide)) (jF0 hX) rfl ?_
  rintro _ _ ⟨rfl, rfl⟩
  refine J_iinc (v := v2 + 1) (lv' := [(2, .int (v2 + 1)), (0, .ref v0), (1, .int v1), (3, .int v3), (4, .int v4)]) E (jd dk_X7_watch_1 48 rfl) 2 rfl rfl (by decide) rfl ?_
  refine J_goto (tgt := 57) E (jd dk_X7_watch_1 49 rfl) (by decide) ?_
  refine J_sub [1, 2, 0] rfl ?_
  exact kb _ (Option.some.inj hf).symm
set_option maxRecDepth 100000 in
set_option maxHeartbeats 4000000 in
theorem lk_X7_watch_l57 {G : JG} {X : JX} (E : jE G X (RX7, cX7_watch, 6)) (hX : X.2.2.2.1 = jRm 8 0 0) (hr : X.2.2.2.2.2.2.2.2.1.sig.returnType = (some .int)) (N : Nat) {Q : State → Prop} {v0 : Nat} {v1 : Int32} {v2 : Int32}  {h : AH} {q : ((Int32 × AH) ⊕ ((AH)))} (hf : f_X7_watch_l57 N v0 v1 v2 h = some q) (kb : ∀ s' : Int32 × AH, q = .inl s' → JW G X (RX7, cX7_watch, 6) s'.2 [(0, .ref v0), (1, .int v1), (2, .int s'.1)] [] 57 0 0 Q) (ke0 : ∀ e : AH, q = .inr e → JW G X (RX7, cX7_watch, 6) e [(0, .ref v0), (1, .int v1)] [] 168 0 0 Q) : JW G X (RX7, cX7_watch, 6) h [(0, .ref v0), (1, .int v1), (2, .int v2)] [] 57 0 0 Q := by
  unfold f_X7_watch_l57 at hf
  refine J_iload_n E (jd dk_X7_watch_0 34 rfl) rfl 2 rfl ?_
  refine J_aload_n E (jd dk_X7_watch_0 35 rfl) rfl 0 rfl ?_
  obtain ⟨x45, e46, hf⟩ := jbind hf
  refine J_geti E (jd dk_X7_watch_0 36 rfl) fl_RX7_432 e46 ?_
  refine J_icmp_ge (tgt := 168) E (jd dk_X7_watch_0 37 rfl) (by decide) (fun c47 => ?_) (fun c47 => ?_)
  · replace hf := jif_t c47 hf
    refine J_sub [0, 1] rfl ?_
    exact ke0 _ (Option.some.inj hf).symm
  · replace hf := jif_f c47 hf
    refine J_aload_n E (jd dk_X7_watch_0 38 rfl) rfl 0 rfl ?_
    obtain ⟨x48, e49, hf⟩ := jbind hf
    refine J_getr E (jd dk_X7_watch_0 39 rfl) fl_RX7_124 e49 ?_
    refine J_iload_n E (jd dk_X7_watch_0 40 rfl) rfl 2 rfl ?_
    obtain ⟨x50, e51, hf⟩ := jbind hf
    refine J_iald E (jd dk_X7_watch_0 41 rfl) e51 ?_
    refine J_bipush (v := 10) E (jd dk_X7_watch_0 42 rfl) (by decide) ?_
    refine J_idiv E (jd dk_X7_watch_0 43 rfl) (by decide) ?_
    refine J_istore_n (lv' := [(3, .int (x50 / 10)), (0, .ref v0), (1, .int v1), (2, .int v2)]) E (jd dk_X7_watch_0 44 rfl) rfl (by decide) rfl ?_
    refine J_aload_n E (jd dk_X7_watch_0 45 rfl) rfl 1 rfl ?_
    obtain ⟨x52, e53, hf⟩ := jbind hf
    refine J_getr E (jd dk_X7_watch_0 46 rfl) fl_RX7_72 e53 ?_
    refine J_iload_n E (jd dk_X7_watch_0 47 rfl) rfl 0 rfl ?_
    obtain ⟨x54, e55, hf⟩ := jbind hf
    refine J_iald E (jd dk_X7_watch_0 48 rfl) e55 ?_
    refine J_istore (lv' := [(4, .int x54), (3, .int (x50 / 10)), (0, .ref v0), (1, .int v1), (2, .int v2)]) E (jd dk_X7_watch_0 49 rfl) (by decide) rfl ?_
    refine J_aload_n E (jd dk_X7_watch_1 0 rfl) rfl 2 rfl ?_
    obtain ⟨x56, e57, hf⟩ := jbind hf
    refine J_getr E (jd dk_X7_watch_1 1 rfl) fl_RX7_72 e57 ?_
    refine J_iload_n E (jd dk_X7_watch_1 2 rfl) rfl 1 rfl ?_
    refine J_aload_n E (jd dk_X7_watch_1 3 rfl) rfl 2 rfl ?_
    obtain ⟨x58, e59, hf⟩ := jbind hf
    refine J_getr E (jd dk_X7_watch_1 4 rfl) fl_RX7_124 e59 ?_
    refine J_iload_n E (jd dk_X7_watch_1 5 rfl) rfl 4 rfl ?_
    obtain ⟨x60, e61, hf⟩ := jbind hf
    refine J_iald E (jd dk_X7_watch_1 6 rfl) e61 ?_
    refine J_bipush (v := 10) E (jd dk_X7_watch_1 7 rfl) (by decide) ?_
    refine J_irem E (jd dk_X7_watch_1 8 rfl) (by decide) ?_
    obtain ⟨h62, e63, hf⟩ := jbind hf
    refine J_iast E (jd dk_X7_watch_1 9 rfl) e63 ?_
    refine J_aload_n E (jd dk_X7_watch_1 10 rfl) rfl 2 rfl ?_
    refine J_bipush (v := 6) E (jd dk_X7_watch_1 11 rfl) (by decide) ?_
    obtain ⟨u66, e67, hf⟩ := jbind hf
    obtain ⟨r64, e65, hf⟩ := jbind hf
    refine J_callV E (jd dk_X7_watch_1 12 rfl) ml_RX7_397 cal_X7_goOn e67 rfl (lk_X7_goOn (jE_g E) (jE_tr E) N e65) rfl (Nat.le_of_ble_eq_true rfl) (jR_le hX (by decide) (by decide)) (jF0 hX) rfl ?_
    rintro _ _ ⟨rfl, rfl⟩
    refine J_iconst (v := 0) E (jd dk_X7_watch_1 13 rfl) rfl ?_
    refine J_istore (lv' := [(5, .int 0), (4, .int x54), (3, .int (x50 / 10)), (0, .ref v0), (1, .int v1), (2, .int v2)]) E (jd dk_X7_watch_1 14 rfl) (by decide) rfl ?_
    refine J_sub [3, 4, 5, 2, 1, 0] rfl ?_
    exact lk_X7_watch_b107 E hX hr N hf kb ke0
set_option maxRecDepth 100000 in
set_option maxHeartbeats 4000000 in
theorem lk_X7_watch_b57 {G : JG} {X : JX} (E : jE G X (RX7, cX7_watch, 6)) (hX : X.2.2.2.1 = jRm 8 0 0) (hr : X.2.2.2.2.2.2.2.2.1.sig.returnType = (some .int)) (N : Nat) {v0 : Nat} {v1 : Int32} {v2 : Int32} {h : AH}  {r : (Int32 × AH)} (hf : f_X7_watch_b57 N v0 v1 v2 h = some r) : JW G X (RX7, cX7_watch, 6) h [(0, .ref v0), (1, .int v1), (2, .int v2)] [] 57 0 0 (jEnd G X (jpi r) 0 0) := by
  unfold f_X7_watch_b57 at hf
  obtain ⟨q1, h1, hf⟩ := jbind hf
  refine jloop (P := fun s => JW G X (RX7, cX7_watch, 6) s.2 [(0, .ref v0), (1, .int v1), (2, .int s.1)] [] 57 0 0 (jEnd G X (jpi r) 0 0)) (Ex := fun (e : AH) => JW G X (RX7, cX7_watch, 6) e [(0, .ref v0), (1, .int v1)] [] 168 0 0 (jEnd G X (jpi r) 0 0)) (fun s q hs hb hx => lk_X7_watch_l57 E hX hr N hs (fun s' hs => hb s' hs) (fun e he => hx e he)) N _ q1 h1 ?_
  generalize q1 = e at hf ⊢
  refine J_iconst (v := (-1)) E (jd dk_X7_watch_2 0 rfl) rfl ?_
  refine J_istore_n (lv' := [(2, .int ((-1))), (0, .ref v0), (1, .int v1)]) E (jd dk_X7_watch_2 1 rfl) rfl (by decide) rfl ?_
  refine J_iconst (v := 0) E (jd dk_X7_watch_2 2 rfl) rfl ?_
  refine J_istore_n (lv' := [(3, .int 0), (2, .int ((-1))), (0, .ref v0), (1, .int v1)]) E (jd dk_X7_watch_2 3 rfl) rfl (by decide) rfl ?_
  refine J_iconst (v := 0) E (jd dk_X7_watch_2 4 rfl) rfl ?_
  refine J_istore (lv' := [(4, .int 0), (3, .int 0), (2, .int ((-1))), (0, .ref v0), (1, .int v1)]) E (jd dk_X7_watch_2 5 rfl) (by decide) rfl ?_
  refine J_sub [3, 4, 2, 1, 0] rfl ?_
  exact lk_X7_watch_b175 E hX hr N hf
set_option maxRecDepth 100000 in
set_option maxHeartbeats 4000000 in
theorem lk_X7_watch_l36 {G : JG} {X : JX} (E : jE G X (RX7, cX7_watch, 6)) (hX : X.2.2.2.1 = jRm 8 0 0) (hr : X.2.2.2.2.2.2.2.2.1.sig.returnType = (some .int)) (N : Nat) {Q : State → Prop} {v0 : Nat} {v1 : Int32} {v2 : Int32}  {h : AH} {q : ((Int32 × AH) ⊕ ((AH)))} (hf : f_X7_watch_l36 N v0 v1 v2 h = some q) (kb : ∀ s' : Int32 × AH, q = .inl s' → JW G X (RX7, cX7_watch, 6) s'.2 [(0, .ref v0), (1, .int v1), (2, .int s'.1)] [] 36 0 0 Q) (ke0 : ∀ e : AH, q = .inr e → JW G X (RX7, cX7_watch, 6) e [(0, .ref v0), (1, .int v1)] [] 55 0 0 Q) : JW G X (RX7, cX7_watch, 6) h [(0, .ref v0), (1, .int v1), (2, .int v2)] [] 36 0 0 Q := by
  unfold f_X7_watch_l36 at hf
  refine J_iload_n E (jd dk_X7_watch_0 22 rfl) rfl 2 rfl ?_
  refine J_bipush (v := 8) E (jd dk_X7_watch_0 23 rfl) (by decide) ?_
  refine J_icmp_ge (tgt := 55) E (jd dk_X7_watch_0 24 rfl) (by decide) (fun c68 => ?_) (fun c68 => ?_)
  · replace hf := jif_t c68 hf
    refine J_sub [0, 1] rfl ?_
    exact ke0 _ (Option.some.inj hf).symm
  · replace hf := jif_f c68 hf
    refine J_aload_n E (jd dk_X7_watch_0 25 rfl) rfl 0 rfl ?_
    obtain ⟨x69, e70, hf⟩ := jbind hf
    refine J_getr E (jd dk_X7_watch_0 26 rfl) fl_RX7_127 e70 ?_
    refine J_iload_n E (jd dk_X7_watch_0 27 rfl) rfl 2 rfl ?_
    refine J_iconst (v := 0) E (jd dk_X7_watch_0 28 rfl) rfl ?_
    obtain ⟨h71, e72, hf⟩ := jbind hf
    refine J_iast E (jd dk_X7_watch_0 29 rfl) e72 ?_
    refine J_iinc (v := v2 + 1) (lv' := [(2, .int (v2 + 1)), (0, .ref v0), (1, .int v1)]) E (jd dk_X7_watch_0 30 rfl) 2 rfl rfl (by decide) rfl ?_
    refine J_goto (tgt := 36) E (jd dk_X7_watch_0 31 rfl) (by decide) ?_
    refine J_sub [1, 2, 0] rfl ?_
    exact kb _ (Option.some.inj hf).symm
set_option maxRecDepth 100000 in
set_option maxHeartbeats 4000000 in
theorem lk_X7_watch_b36 {G : JG} {X : JX} (E : jE G X (RX7, cX7_watch, 6)) (hX : X.2.2.2.1 = jRm 8 0 0) (hr : X.2.2.2.2.2.2.2.2.1.sig.returnType = (some .int)) (N : Nat) {v0 : Nat} {v1 : Int32} {v2 : Int32} {h : AH}  {r : (Int32 × AH)} (hf : f_X7_watch_b36 N v0 v1 v2 h = some r) : JW G X (RX7, cX7_watch, 6) h [(0, .ref v0), (1, .int v1), (2, .int v2)] [] 36 0 0 (jEnd G X (jpi r) 0 0) := by
  unfold f_X7_watch_b36 at hf
  obtain ⟨q1, h1, hf⟩ := jbind hf
  refine jloop (P := fun s => JW G X (RX7, cX7_watch, 6) s.2 [(0, .ref v0), (1, .int v1), (2, .int s.1)] [] 36 0 0 (jEnd G X (jpi r) 0 0)) (Ex := fun (e : AH) => JW G X (RX7, cX7_watch, 6) e [(0, .ref v0), (1, .int v1)] [] 55 0 0 (jEnd G X (jpi r) 0 0)) (fun s q hs hb hx => lk_X7_watch_l36 E hX hr N hs (fun s' hs => hb s' hs) (fun e he => hx e he)) N _ q1 h1 ?_
  generalize q1 = e at hf ⊢
  refine J_iconst (v := 0) E (jd dk_X7_watch_0 32 rfl) rfl ?_
  refine J_istore_n (lv' := [(2, .int 0), (0, .ref v0), (1, .int v1)]) E (jd dk_X7_watch_0 33 rfl) rfl (by decide) rfl ?_
  refine J_sub [1, 2, 0] rfl ?_
  exact lk_X7_watch_b57 E hX hr N hf
set_option maxRecDepth 100000 in
set_option maxHeartbeats 4000000 in
theorem lk_X7_watch {G : JG} {l : Launch} (hG : jG G) (htr : l.stackTraces = false) (N : Nat) {h : AH} {a0 : Nat} {a1 : Int32} {r : (Int32 × AH)} (hf : f_X7_watch N h a0 a1 = some r) : jMet G l yX7_watch cX7_watch 6 (some .int) 8 0 0 [.ref a0, .int a1] h (jpi r) := by
  unfold f_X7_watch at hf
  refine jMet_of hG htr (by decide) (Nat.le_of_ble_eq_true rfl) ?_
  intro X E hl9 hr hX _ _
  show JW G X (RX7, cX7_watch, 6) h [(0, .ref a0), (1, .int a1)] [] 0 0 0 (jEnd G X (jpi r) 0 0)
  refine J_aload_n E (jd dk_X7_watch_0 0 rfl) rfl 0 rfl ?_
  refine J_iconst (v := 0) E (jd dk_X7_watch_0 1 rfl) rfl ?_
  obtain ⟨h73, e74, hf⟩ := jbind hf
  refine J_put E (jd dk_X7_watch_0 2 rfl) fl_RX7_151 e74 (fun _ => rfl) (fun _ => rfl) ?_
  refine J_iload_n E (jd dk_X7_watch_0 3 rfl) rfl 1 rfl ?_
  refine J_i2l E (jd dk_X7_watch_0 4 rfl) ?_
  refine J_lconst (v := 0) E (jd dk_X7_watch_0 5 rfl) (by decide) ?_
  refine J_lconst (v := 1) E (jd dk_X7_watch_0 6 rfl) (by decide) ?_
  obtain ⟨r75, e76, hf⟩ := jbind hf
  refine J_callS E (jd dk_X7_watch_0 7 rfl) ml_RX7_154 cal_X7_isIn (lk_X7_isIn (jE_g E) (jE_tr E) N e76) rfl (Nat.le_of_ble_eq_true rfl) (jR_le hX (by decide) (by decide)) (jF0 hX) rfl ?_
  rintro _ _ ⟨rfl, rfl⟩
  refine J_if_ne (tgt := 21) E (jd dk_X7_watch_0 8 rfl) (by decide) (fun c77 => ?_) (fun c77 => ?_)
  · replace hf := jif_f c77 hf
    refine J_aload_n E (jd dk_X7_watch_0 13 rfl) rfl 0 rfl ?_
    obtain ⟨u80, e81, hf⟩ := jbind hf
    obtain ⟨r78, e79, hf⟩ := jbind hf
    refine J_callV E (jd dk_X7_watch_0 14 rfl) ml_RX7_439 cal_X7_tellFits e81 rfl (lk_X7_tellFits (jE_g E) (jE_tr E) N e79) rfl (Nat.le_of_ble_eq_true rfl) (jR_le hX (by decide) (by decide)) (jF0 hX) rfl ?_
    rintro _ _ ⟨rfl, rfl⟩
    refine J_aload_n E (jd dk_X7_watch_0 15 rfl) rfl 0 rfl ?_
    refine J_aload_n E (jd dk_X7_watch_0 16 rfl) rfl 0 rfl ?_
    obtain ⟨x82, e83, hf⟩ := jbind hf
    refine J_getr E (jd dk_X7_watch_0 17 rfl) fl_RX7_106 e83 ?_
    refine J_iconst (v := 0) E (jd dk_X7_watch_0 18 rfl) rfl ?_
    obtain ⟨u86, e87, hf⟩ := jbind hf
    obtain ⟨r84, e85, hf⟩ := jbind hf
    refine J_callV E (jd dk_X7_watch_0 19 rfl) ml_RX7_385 cal_X7_pack e87 rfl (lk_X7_pack (jE_g E) (jE_tr E) N e85) rfl (Nat.le_of_ble_eq_true rfl) (jR_le hX (by decide) (by decide)) (jF0 hX) rfl ?_
    rintro _ _ ⟨rfl, rfl⟩
    refine J_iconst (v := 0) E (jd dk_X7_watch_0 20 rfl) rfl ?_
    refine J_istore_n (lv' := [(2, .int 0), (0, .ref a0), (1, .int a1)]) E (jd dk_X7_watch_0 21 rfl) rfl (by decide) rfl ?_
    refine J_sub [1, 2, 0] rfl ?_
    exact lk_X7_watch_b36 E hX hr N hf
  · replace hf := jif_t c77 hf
    refine J_aload_n E (jd dk_X7_watch_0 9 rfl) rfl 0 rfl ?_
    refine J_iconst (v := 1) E (jd dk_X7_watch_0 10 rfl) rfl ?_
    obtain ⟨u90, e91, hf⟩ := jbind hf
    obtain ⟨r88, e89, hf⟩ := jbind hf
    refine J_callV E (jd dk_X7_watch_0 11 rfl) ml_RX7_293 cal_X7_fail e91 rfl (lk_X7_fail (jE_g E) (jE_tr E) N e89) rfl (Nat.le_of_ble_eq_true rfl) (jR_le hX (by decide) (by decide)) (jF0 hX) rfl ?_
    rintro _ _ ⟨rfl, rfl⟩
    cases hf
    exact J_iret E hr rfl (jd dk_X7_watch_0 12 rfl) (Nat.le_refl _) (Nat.le_refl _) ⟨rfl, rfl⟩
def f_X7_forget (N : Nat) (h : AH) (a0 : Nat) : Option AH :=
  (jwi 7 h a0 4 0).bind fun h1 =>
  (jwi 7 h1 a0 36 0).bind fun h3 =>
  some h3
set_option maxRecDepth 100000 in
set_option maxHeartbeats 4000000 in
theorem lk_X7_forget {G : JG} {l : Launch} (hG : jG G) (htr : l.stackTraces = false) (N : Nat) {h : AH} {a0 : Nat} {r : AH} (hf : f_X7_forget N h a0 = some r) : jMet G l yX7_forget cX7_forget 1 none 0 0 0 [.ref a0] h (jpv r) := by
  unfold f_X7_forget at hf
  refine jMet_of hG htr (by decide) (Nat.le_of_ble_eq_true rfl) ?_
  intro X E hl9 hr hX _ _
  show JW G X (RX7, cX7_forget, 1) h [(0, .ref a0)] [] 0 0 0 (jEnd G X (jpv r) 0 0)
  refine J_aload_n E (jd dk_X7_forget_0 0 rfl) rfl 0 rfl ?_
  refine J_iconst (v := 0) E (jd dk_X7_forget_0 1 rfl) rfl ?_
  obtain ⟨h1, e2, hf⟩ := jbind hf
  refine J_put E (jd dk_X7_forget_0 2 rfl) fl_RX7_151 e2 (fun _ => rfl) (fun _ => rfl) ?_
  refine J_aload_n E (jd dk_X7_forget_0 3 rfl) rfl 0 rfl ?_
  refine J_iconst (v := 0) E (jd dk_X7_forget_0 4 rfl) rfl ?_
  obtain ⟨h3, e4, hf⟩ := jbind hf
  refine J_put E (jd dk_X7_forget_0 5 rfl) fl_RX7_312 e4 (fun _ => rfl) (fun _ => rfl) ?_
  cases hf
  exact J_vret E hr (jd dk_X7_forget_0 6 rfl) (Nat.le_refl _) (Nat.le_refl _) ⟨rfl, rfl⟩
def f_X7_floods_b43 (N : Nat) (v0 : Nat) (h : AH) : Option (Int32 × AH) :=
  (jck 7 h v0).bind fun _ =>
  (f_X7_fail N h v0 2).bind fun r1 =>
  some (r1.1, r1.2)
def f_X7_floods_b140 (N : Nat) (v0 : Nat) (v1 : Int32) (v2 : Int32) (v3 : Int32) (v5 : Int32) (w0 : Int32) (w1 : Int32) (h : AH) : Option ((Int32 × Int32 × AH) ⊕ ((Int32 × AH))) :=
  (jgr 7 h v0 41).bind fun x5 =>
  (jck 7 h v0).bind fun _ =>
  (f_X7_unpack N h v0 x5 0).bind fun r7 =>
  some (.inl ((w0 + w1, v5 + 1, r7)))
def f_X7_floods_b104 (N : Nat) (v0 : Nat) (v1 : Int32) (v2 : Int32) (v3 : Int32) (v4 : Int32) (v5 : Int32) (v7 : Int32) (w0 : Int32) (w1 : Int32) (h : AH) : Option ((Int32 × Int32 × AH) ⊕ ((Int32 × AH))) :=
  (f_X7_isOf N h v5 v7).bind fun r11 =>
  (jck 7 r11.2 v0).bind fun _ =>
  (f_X7_aStepIn N r11.2 v0 r11.1).bind fun r13 =>
  some (.inl ((w0 * w1, v7 + 1, r13)))
def f_X7_floods_l78 (N : Nat) (v0 : Nat) (v1 : Int32) (v2 : Int32) (v3 : Int32) (v4 : Int32) (v5 : Int32) (v6 : Int32) (v7 : Int32) (h : AH) : Option ((Int32 × Int32 × AH) ⊕ ((Int32 × AH))) :=
  if v2 ≤ v7 then some (.inr ((v6, h)))
  else (f_X7_isOf N h v5 v7).bind fun r18 =>
  if r18.1 = 0 then f_X7_floods_b104 N v0 v1 v2 v3 v4 v5 v7 v6 ((10 : Int32) - v3) r18.2
  else f_X7_floods_b104 N v0 v1 v2 v3 v4 v5 v7 v6 v3 r18.2
def f_X7_floods_b78 (N : Nat) (v0 : Nat) (v1 : Int32) (v2 : Int32) (v3 : Int32) (v4 : Int32) (v5 : Int32) (v6 : Int32) (v7 : Int32) (h : AH) : Option ((Int32 × Int32 × AH) ⊕ ((Int32 × AH))) :=
  (itr (fun s => f_X7_floods_l78 N v0 v1 v2 v3 v4 v5 s.1 s.2.1 s.2.2) N (v6, v7, h)).bind (fun e => (jck 7 e.2 v0).bind fun _ =>
  (f_X7_isFair N e.2 v0 v1).bind fun r21 =>
  if r21.1 = 0 then f_X7_floods_b140 N v0 v1 v2 v3 v5 v4 0 r21.2
  else f_X7_floods_b140 N v0 v1 v2 v3 v5 v4 e.1 r21.2)
def f_X7_floods_l64 (N : Nat) (v0 : Nat) (v1 : Int32) (v2 : Int32) (v3 : Int32) (v4 : Int32) (v5 : Int32) (h : AH) : Option ((Int32 × Int32 × AH) ⊕ ((Int32 × AH))) :=
  if ((1 : Int32) <<< (v2 &&& 31)) ≤ v5 then some (.inr ((v4, h)))
  else f_X7_floods_b78 N v0 v1 v2 v3 v4 v5 1 0 h
def f_X7_floods_b64 (N : Nat) (v0 : Nat) (v1 : Int32) (v2 : Int32) (v3 : Int32) (v4 : Int32) (v5 : Int32) (h : AH) : Option (Int32 × AH) :=
  (itr (fun s => f_X7_floods_l64 N v0 v1 v2 v3 s.1 s.2.1 s.2.2) N (v4, v5, h)).bind (fun e => some (e.1, e.2))
def f_X7_floods (N : Nat) (h : AH) (a0 : Nat) (a1 : Int32) (a2 : Int32) (a3 : Int32) : Option (Int32 × AH) :=
  (jwi 7 h a0 4 0).bind fun h27 =>
  (jck 7 h27 a0).bind fun _ =>
  (f_X7_isJudge N h27 a0 a1).bind fun r29 =>
  if r29.1 = 0 then (jck 7 r29.2 a0).bind fun _ =>
  (f_X7_fail N r29.2 a0 1).bind fun r46 =>
  some (r46.1, r46.2)
  else (f_X7_isIn N r29.2 (Int32.toInt64 a2) 1 5).bind fun r34 =>
  if r34.1 = 0 then f_X7_floods_b43 N a0 r34.2
  else (f_X7_isIn N r34.2 (Int32.toInt64 a3) 0 10).bind fun r37 =>
  if r37.1 = 0 then f_X7_floods_b43 N a0 r37.2
  else (jgr 7 r37.2 a0 41).bind fun x40 =>
  (jck 7 r37.2 a0).bind fun _ =>
  (f_X7_pack N r37.2 a0 x40 0).bind fun r42 =>
  f_X7_floods_b64 N a0 a1 a2 a3 0 0 r42
set_option maxRecDepth 100000 in
set_option maxHeartbeats 4000000 in
theorem lk_X7_floods_b43 {G : JG} {X : JX} (E : jE G X (RX7, cX7_floods, 8)) (hX : X.2.2.2.1 = jRm 5 0 0) (hr : X.2.2.2.2.2.2.2.2.1.sig.returnType = (some .int)) (N : Nat) {v0 : Nat} {h : AH}  {r : (Int32 × AH)} (hf : f_X7_floods_b43 N v0 h = some r) : JW G X (RX7, cX7_floods, 8) h [(0, .ref v0)] [] 43 0 0 (jEnd G X (jpi r) 0 0) := by
  unfold f_X7_floods_b43 at hf
  refine J_aload_n E (jd dk_X7_floods_0 23 rfl) rfl 0 rfl ?_
  refine J_iconst (v := 2) E (jd dk_X7_floods_0 24 rfl) rfl ?_
  obtain ⟨u3, e4, hf⟩ := jbind hf
  obtain ⟨r1, e2, hf⟩ := jbind hf
  refine J_callV E (jd dk_X7_floods_0 25 rfl) ml_RX7_293 cal_X7_fail e4 rfl (lk_X7_fail (jE_g E) (jE_tr E) N e2) rfl (Nat.le_of_ble_eq_true rfl) (jR_le hX (by decide) (by decide)) (jF0 hX) rfl ?_
  rintro _ _ ⟨rfl, rfl⟩
  cases hf
  exact J_iret E hr rfl (jd dk_X7_floods_0 26 rfl) (Nat.le_refl _) (Nat.le_refl _) ⟨rfl, rfl⟩
set_option maxRecDepth 100000 in
set_option maxHeartbeats 4000000 in
theorem lk_X7_floods_b140 {G : JG} {X : JX} (E : jE G X (RX7, cX7_floods, 8)) (hX : X.2.2.2.1 = jRm 5 0 0) (hr : X.2.2.2.2.2.2.2.2.1.sig.returnType = (some .int)) (N : Nat) {Q : State → Prop} {v0 : Nat} {v1 : Int32} {v2 : Int32} {v3 : Int32} {v5 : Int32} {w0 : Int32} {w1 : Int32} {h : AH}  {q : ((Int32 × Int32 × AH) ⊕ ((Int32 × AH)))} (hf : f_X7_floods_b140 N v0 v1 v2 v3 v5 w0 w1 h = some q) (kb : ∀ s' : Int32 × Int32 × AH, q = .inl s' → JW G X (RX7, cX7_floods, 8) s'.2.2 [(0, .ref v0), (1, .int v1), (2, .int v2), (3, .int v3), (4, .int s'.1), (5, .int s'.2.1)] [] 64 0 0 Q) (ke0 : ∀ e : Int32 × AH, q = .inr e → JW G X (RX7, cX7_floods, 8) e.2 [(4, .int e.1)] [] 158 0 0 Q) : JW G X (RX7, cX7_floods, 8) h [(0, .ref v0), (1, .int v1), (2, .int v2), (3, .int v3), (5, .int v5)] [.int w1, .int w0] 140 0 0 Q := by
  unfold f_X7_floods_b140 at hf
  refine J_iadd E (jd dk_X7_floods_1 25 rfl) ?_
  refine J_istore (lv' := [(4, .int (w0 + w1)), (0, .ref v0), (1, .int v1), (2, .int v2), (3, .int v3), (5, .int v5)]) E (jd dk_X7_floods_1 26 rfl) (by decide) rfl ?_
  refine J_aload_n E (jd dk_X7_floods_1 27 rfl) rfl 1 rfl ?_
  refine J_aload_n E (jd dk_X7_floods_1 28 rfl) rfl 1 rfl ?_
  obtain ⟨x5, e6, hf⟩ := jbind hf
  refine J_getr E (jd dk_X7_floods_1 29 rfl) fl_RX7_106 e6 ?_
  refine J_iconst (v := 0) E (jd dk_X7_floods_1 30 rfl) rfl ?_
  obtain ⟨u9, e10, hf⟩ := jbind hf
  obtain ⟨r7, e8, hf⟩ := jbind hf
  refine J_callV E (jd dk_X7_floods_1 31 rfl) ml_RX7_407 cal_X7_unpack e10 rfl (lk_X7_unpack (jE_g E) (jE_tr E) N e8) rfl (Nat.le_of_ble_eq_true rfl) (jR_le hX (by decide) (by decide)) (jF0 hX) rfl ?_
  rintro _ _ ⟨rfl, rfl⟩
  refine J_iinc (v := v5 + 1) (lv' := [(5, .int (v5 + 1)), (4, .int (w0 + w1)), (0, .ref v0), (1, .int v1), (2, .int v2), (3, .int v3)]) E (jd dk_X7_floods_1 32 rfl) 5 rfl rfl (by decide) rfl ?_
  refine J_goto (tgt := 64) E (jd dk_X7_floods_1 33 rfl) (by decide) ?_
  refine J_sub [2, 3, 4, 5, 1, 0] rfl ?_
  exact kb _ (Option.some.inj hf).symm
set_option maxRecDepth 100000 in
set_option maxHeartbeats 4000000 in
theorem lk_X7_floods_b104 {G : JG} {X : JX} (E : jE G X (RX7, cX7_floods, 8)) (hX : X.2.2.2.1 = jRm 5 0 0) (hr : X.2.2.2.2.2.2.2.2.1.sig.returnType = (some .int)) (N : Nat) {Q : State → Prop} {v0 : Nat} {v1 : Int32} {v2 : Int32} {v3 : Int32} {v4 : Int32} {v5 : Int32} {v7 : Int32} {w0 : Int32} {w1 : Int32} {h : AH}  {q : ((Int32 × Int32 × AH) ⊕ ((Int32 × AH)))} (hf : f_X7_floods_b104 N v0 v1 v2 v3 v4 v5 v7 w0 w1 h = some q) (kb : ∀ s' : Int32 × Int32 × AH, q = .inl s' → JW G X (RX7, cX7_floods, 8) s'.2.2 [(0, .ref v0), (1, .int v1), (2, .int v2), (3, .int v3), (4, .int v4), (5, .int v5), (6, .int s'.1), (7, .int s'.2.1)] [] 78 0 0 Q) (ke0 : ∀ e : Int32 × AH, q = .inr e → JW G X (RX7, cX7_floods, 8) e.2 [(0, .ref v0), (1, .int v1), (2, .int v2), (3, .int v3), (4, .int v4), (5, .int v5), (6, .int e.1)] [] 124 0 0 Q) : JW G X (RX7, cX7_floods, 8) h [(0, .ref v0), (1, .int v1), (2, .int v2), (3, .int v3), (4, .int v4), (5, .int v5), (7, .int v7)] [.int w1, .int w0] 104 0 0 Q := by
  unfold f_X7_floods_b104 at hf
  refine J_imul E (jd dk_X7_floods_1 8 rfl) ?_
  refine J_istore (lv' := [(6, .int (w0 * w1)), (0, .ref v0), (1, .int v1), (2, .int v2), (3, .int v3), (4, .int v4), (5, .int v5), (7, .int v7)]) E (jd dk_X7_floods_1 9 rfl) (by decide) rfl ?_
  refine J_aload_n E (jd dk_X7_floods_1 10 rfl) rfl 1 rfl ?_
  refine J_iload E (jd dk_X7_floods_1 11 rfl) 6 rfl ?_
  refine J_iload E (jd dk_X7_floods_1 12 rfl) 7 rfl ?_
  obtain ⟨r11, e12, hf⟩ := jbind hf
  refine J_callS E (jd dk_X7_floods_1 13 rfl) ml_RX7_362 cal_X7_isOf (lk_X7_isOf (jE_g E) (jE_tr E) N e12) rfl (Nat.le_of_ble_eq_true rfl) (jR_le hX (by decide) (by decide)) (jF0 hX) rfl ?_
  rintro _ _ ⟨rfl, rfl⟩
  obtain ⟨u15, e16, hf⟩ := jbind hf
  obtain ⟨r13, e14, hf⟩ := jbind hf
  refine J_callV E (jd dk_X7_floods_1 14 rfl) ml_RX7_358 cal_X7_aStepIn e16 rfl (lk_X7_aStepIn (jE_g E) (jE_tr E) N e14) rfl (Nat.le_of_ble_eq_true rfl) (jR_le hX (by decide) (by decide)) (jF0 hX) rfl ?_
  rintro _ _ ⟨rfl, rfl⟩
  refine J_iinc (v := v7 + 1) (lv' := [(7, .int (v7 + 1)), (6, .int (w0 * w1)), (0, .ref v0), (1, .int v1), (2, .int v2), (3, .int v3), (4, .int v4), (5, .int v5)]) E (jd dk_X7_floods_1 15 rfl) 7 rfl rfl (by decide) rfl ?_
  refine J_goto (tgt := 78) E (jd dk_X7_floods_1 16 rfl) (by decide) ?_
  refine J_sub [2, 3, 4, 5, 6, 7, 1, 0] rfl ?_
  exact kb _ (Option.some.inj hf).symm
set_option maxRecDepth 100000 in
set_option maxHeartbeats 4000000 in
theorem lk_X7_floods_l78 {G : JG} {X : JX} (E : jE G X (RX7, cX7_floods, 8)) (hX : X.2.2.2.1 = jRm 5 0 0) (hr : X.2.2.2.2.2.2.2.2.1.sig.returnType = (some .int)) (N : Nat) {Q : State → Prop} {v0 : Nat} {v1 : Int32} {v2 : Int32} {v3 : Int32} {v4 : Int32} {v5 : Int32} {v6 : Int32} {v7 : Int32}  {h : AH} {q : ((Int32 × Int32 × AH) ⊕ ((Int32 × AH)))} (hf : f_X7_floods_l78 N v0 v1 v2 v3 v4 v5 v6 v7 h = some q) (kb : ∀ s' : Int32 × Int32 × AH, q = .inl s' → JW G X (RX7, cX7_floods, 8) s'.2.2 [(0, .ref v0), (1, .int v1), (2, .int v2), (3, .int v3), (4, .int v4), (5, .int v5), (6, .int s'.1), (7, .int s'.2.1)] [] 78 0 0 Q) (ke0 : ∀ e : Int32 × AH, q = .inr e → JW G X (RX7, cX7_floods, 8) e.2 [(0, .ref v0), (1, .int v1), (2, .int v2), (3, .int v3), (4, .int v4), (5, .int v5), (6, .int e.1)] [] 124 0 0 Q) : JW G X (RX7, cX7_floods, 8) h [(0, .ref v0), (1, .int v1), (2, .int v2), (3, .int v3), (4, .int v4), (5, .int v5), (6, .int v6), (7, .int v7)] [] 78 0 0 Q := by
  unfold f_X7_floods_l78 at hf
  refine J_iload E (jd dk_X7_floods_0 45 rfl) 7 rfl ?_
  refine J_iload_n E (jd dk_X7_floods_0 46 rfl) rfl 2 rfl ?_
  refine J_icmp_ge (tgt := 124) E (jd dk_X7_floods_0 47 rfl) (by decide) (fun c17 => ?_) (fun c17 => ?_)
  · replace hf := jif_t c17 hf
    refine J_sub [0, 1, 2, 3, 4, 5, 6] rfl ?_
    exact ke0 _ (Option.some.inj hf).symm
  · replace hf := jif_f c17 hf
    refine J_iload E (jd dk_X7_floods_0 48 rfl) 6 rfl ?_
    refine J_iload E (jd dk_X7_floods_0 49 rfl) 5 rfl ?_
    refine J_iload E (jd dk_X7_floods_1 0 rfl) 7 rfl ?_
    obtain ⟨r18, e19, hf⟩ := jbind hf
    refine J_callS E (jd dk_X7_floods_1 1 rfl) ml_RX7_362 cal_X7_isOf (lk_X7_isOf (jE_g E) (jE_tr E) N e19) rfl (Nat.le_of_ble_eq_true rfl) (jR_le hX (by decide) (by decide)) (jF0 hX) rfl ?_
    rintro _ _ ⟨rfl, rfl⟩
    refine J_if_eq (tgt := 100) E (jd dk_X7_floods_1 2 rfl) (by decide) (fun c20 => ?_) (fun c20 => ?_)
    · replace hf := jif_t c20 hf
      refine J_bipush (v := 10) E (jd dk_X7_floods_1 5 rfl) (by decide) ?_
      refine J_iload_n E (jd dk_X7_floods_1 6 rfl) rfl 3 rfl ?_
      refine J_isub E (jd dk_X7_floods_1 7 rfl) ?_
      refine J_sub [0, 1, 2, 3, 4, 5, 7] rfl ?_
      exact lk_X7_floods_b104 E hX hr N hf kb ke0
    · replace hf := jif_f c20 hf
      refine J_iload_n E (jd dk_X7_floods_1 3 rfl) rfl 3 rfl ?_
      refine J_goto (tgt := 104) E (jd dk_X7_floods_1 4 rfl) (by decide) ?_
      refine J_sub [0, 1, 2, 3, 4, 5, 7] rfl ?_
      exact lk_X7_floods_b104 E hX hr N hf kb ke0
set_option maxRecDepth 100000 in
set_option maxHeartbeats 4000000 in
theorem lk_X7_floods_b78 {G : JG} {X : JX} (E : jE G X (RX7, cX7_floods, 8)) (hX : X.2.2.2.1 = jRm 5 0 0) (hr : X.2.2.2.2.2.2.2.2.1.sig.returnType = (some .int)) (N : Nat) {Q : State → Prop} {v0 : Nat} {v1 : Int32} {v2 : Int32} {v3 : Int32} {v4 : Int32} {v5 : Int32} {v6 : Int32} {v7 : Int32} {h : AH}  {q : ((Int32 × Int32 × AH) ⊕ ((Int32 × AH)))} (hf : f_X7_floods_b78 N v0 v1 v2 v3 v4 v5 v6 v7 h = some q) (kb : ∀ s' : Int32 × Int32 × AH, q = .inl s' → JW G X (RX7, cX7_floods, 8) s'.2.2 [(0, .ref v0), (1, .int v1), (2, .int v2), (3, .int v3), (4, .int s'.1), (5, .int s'.2.1)] [] 64 0 0 Q) (ke0 : ∀ e : Int32 × AH, q = .inr e → JW G X (RX7, cX7_floods, 8) e.2 [(4, .int e.1)] [] 158 0 0 Q) : JW G X (RX7, cX7_floods, 8) h [(0, .ref v0), (1, .int v1), (2, .int v2), (3, .int v3), (4, .int v4), (5, .int v5), (6, .int v6), (7, .int v7)] [] 78 0 0 Q := by
  unfold f_X7_floods_b78 at hf
  obtain ⟨q1, h1, hf⟩ := jbind hf
  refine jloop (P := fun s => JW G X (RX7, cX7_floods, 8) s.2.2 [(0, .ref v0), (1, .int v1), (2, .int v2), (3, .int v3), (4, .int v4), (5, .int v5), (6, .int s.1), (7, .int s.2.1)] [] 78 0 0 Q) (Ex := fun (e : Int32 × AH) => JW G X (RX7, cX7_floods, 8) e.2 [(0, .ref v0), (1, .int v1), (2, .int v2), (3, .int v3), (4, .int v4), (5, .int v5), (6, .int e.1)] [] 124 0 0 Q) (fun s q hs hb hx => lk_X7_floods_l78 E hX hr N hs (fun s' hs => hb s' hs) (fun e he => hx e he)) N _ q1 h1 ?_
  generalize q1 = e at hf ⊢
  refine J_iload E (jd dk_X7_floods_1 17 rfl) 4 rfl ?_
  refine J_aload_n E (jd dk_X7_floods_1 18 rfl) rfl 0 rfl ?_
  refine J_iload_n E (jd dk_X7_floods_1 19 rfl) rfl 1 rfl ?_
  obtain ⟨u23, e24, hf⟩ := jbind hf
  obtain ⟨r21, e22, hf⟩ := jbind hf
  refine J_callV E (jd dk_X7_floods_1 20 rfl) ml_RX7_324 cal_X7_isFair e24 rfl (lk_X7_isFair (jE_g E) (jE_tr E) N e22) rfl (Nat.le_of_ble_eq_true rfl) (jR_le hX (by decide) (by decide)) (jF0 hX) rfl ?_
  rintro _ _ ⟨rfl, rfl⟩
  refine J_if_eq (tgt := 139) E (jd dk_X7_floods_1 21 rfl) (by decide) (fun c25 => ?_) (fun c25 => ?_)
  · replace hf := jif_t c25 hf
    refine J_iconst (v := 0) E (jd dk_X7_floods_1 24 rfl) rfl ?_
    refine J_sub [0, 1, 2, 3, 5] rfl ?_
    exact lk_X7_floods_b140 E hX hr N hf kb ke0
  · replace hf := jif_f c25 hf
    refine J_iload E (jd dk_X7_floods_1 22 rfl) 6 rfl ?_
    refine J_goto (tgt := 140) E (jd dk_X7_floods_1 23 rfl) (by decide) ?_
    refine J_sub [0, 1, 2, 3, 5] rfl ?_
    exact lk_X7_floods_b140 E hX hr N hf kb ke0
set_option maxRecDepth 100000 in
set_option maxHeartbeats 4000000 in
theorem lk_X7_floods_l64 {G : JG} {X : JX} (E : jE G X (RX7, cX7_floods, 8)) (hX : X.2.2.2.1 = jRm 5 0 0) (hr : X.2.2.2.2.2.2.2.2.1.sig.returnType = (some .int)) (N : Nat) {Q : State → Prop} {v0 : Nat} {v1 : Int32} {v2 : Int32} {v3 : Int32} {v4 : Int32} {v5 : Int32}  {h : AH} {q : ((Int32 × Int32 × AH) ⊕ ((Int32 × AH)))} (hf : f_X7_floods_l64 N v0 v1 v2 v3 v4 v5 h = some q) (kb : ∀ s' : Int32 × Int32 × AH, q = .inl s' → JW G X (RX7, cX7_floods, 8) s'.2.2 [(0, .ref v0), (1, .int v1), (2, .int v2), (3, .int v3), (4, .int s'.1), (5, .int s'.2.1)] [] 64 0 0 Q) (ke0 : ∀ e : Int32 × AH, q = .inr e → JW G X (RX7, cX7_floods, 8) e.2 [(4, .int e.1)] [] 158 0 0 Q) : JW G X (RX7, cX7_floods, 8) h [(0, .ref v0), (1, .int v1), (2, .int v2), (3, .int v3), (4, .int v4), (5, .int v5)] [] 64 0 0 Q := by
  unfold f_X7_floods_l64 at hf
  refine J_iload E (jd dk_X7_floods_0 36 rfl) 5 rfl ?_
  refine J_iconst (v := 1) E (jd dk_X7_floods_0 37 rfl) rfl ?_
  refine J_iload_n E (jd dk_X7_floods_0 38 rfl) rfl 2 rfl ?_
  refine J_ishl E (jd dk_X7_floods_0 39 rfl) ?_
  refine J_icmp_ge (tgt := 158) E (jd dk_X7_floods_0 40 rfl) (by decide) (fun c26 => ?_) (fun c26 => ?_)
  · replace hf := jif_t c26 hf
    refine J_sub [4] rfl ?_
    exact ke0 _ (Option.some.inj hf).symm
  · replace hf := jif_f c26 hf
    refine J_iconst (v := 1) E (jd dk_X7_floods_0 41 rfl) rfl ?_
    refine J_istore (lv' := [(6, .int 1), (0, .ref v0), (1, .int v1), (2, .int v2), (3, .int v3), (4, .int v4), (5, .int v5)]) E (jd dk_X7_floods_0 42 rfl) (by decide) rfl ?_
    refine J_iconst (v := 0) E (jd dk_X7_floods_0 43 rfl) rfl ?_
    refine J_istore (lv' := [(7, .int 0), (6, .int 1), (0, .ref v0), (1, .int v1), (2, .int v2), (3, .int v3), (4, .int v4), (5, .int v5)]) E (jd dk_X7_floods_0 44 rfl) (by decide) rfl ?_
    refine J_sub [2, 3, 4, 5, 6, 7, 1, 0] rfl ?_
    exact lk_X7_floods_b78 E hX hr N hf kb ke0
set_option maxRecDepth 100000 in
set_option maxHeartbeats 4000000 in
theorem lk_X7_floods_b64 {G : JG} {X : JX} (E : jE G X (RX7, cX7_floods, 8)) (hX : X.2.2.2.1 = jRm 5 0 0) (hr : X.2.2.2.2.2.2.2.2.1.sig.returnType = (some .int)) (N : Nat) {v0 : Nat} {v1 : Int32} {v2 : Int32} {v3 : Int32} {v4 : Int32} {v5 : Int32} {h : AH}  {r : (Int32 × AH)} (hf : f_X7_floods_b64 N v0 v1 v2 v3 v4 v5 h = some r) : JW G X (RX7, cX7_floods, 8) h [(0, .ref v0), (1, .int v1), (2, .int v2), (3, .int v3), (4, .int v4), (5, .int v5)] [] 64 0 0 (jEnd G X (jpi r) 0 0) := by
  unfold f_X7_floods_b64 at hf
  obtain ⟨q1, h1, hf⟩ := jbind hf
  refine jloop (P := fun s => JW G X (RX7, cX7_floods, 8) s.2.2 [(0, .ref v0), (1, .int v1), (2, .int v2), (3, .int v3), (4, .int s.1), (5, .int s.2.1)] [] 64 0 0 (jEnd G X (jpi r) 0 0)) (Ex := fun (e : Int32 × AH) => JW G X (RX7, cX7_floods, 8) e.2 [(4, .int e.1)] [] 158 0 0 (jEnd G X (jpi r) 0 0)) (fun s q hs hb hx => lk_X7_floods_l64 E hX hr N hs (fun s' hs => hb s' hs) (fun e he => hx e he)) N _ q1 h1 ?_
  generalize q1 = e at hf ⊢
  refine J_iload E (jd dk_X7_floods_1 34 rfl) 0 rfl ?_
  cases hf
  exact J_iret E hr rfl (jd dk_X7_floods_1 35 rfl) (Nat.le_refl _) (Nat.le_refl _) ⟨rfl, rfl⟩
set_option maxRecDepth 100000 in
set_option maxHeartbeats 4000000 in
theorem lk_X7_floods {G : JG} {l : Launch} (hG : jG G) (htr : l.stackTraces = false) (N : Nat) {h : AH} {a0 : Nat} {a1 : Int32} {a2 : Int32} {a3 : Int32} {r : (Int32 × AH)} (hf : f_X7_floods N h a0 a1 a2 a3 = some r) : jMet G l yX7_floods cX7_floods 8 (some .int) 5 0 0 [.ref a0, .int a1, .int a2, .int a3] h (jpi r) := by
  unfold f_X7_floods at hf
  refine jMet_of hG htr (by decide) (Nat.le_of_ble_eq_true rfl) ?_
  intro X E hl9 hr hX _ _
  show JW G X (RX7, cX7_floods, 8) h [(0, .ref a0), (1, .int a1), (2, .int a2), (3, .int a3)] [] 0 0 0 (jEnd G X (jpi r) 0 0)
  refine J_aload_n E (jd dk_X7_floods_0 0 rfl) rfl 0 rfl ?_
  refine J_iconst (v := 0) E (jd dk_X7_floods_0 1 rfl) rfl ?_
  obtain ⟨h27, e28, hf⟩ := jbind hf
  refine J_put E (jd dk_X7_floods_0 2 rfl) fl_RX7_151 e28 (fun _ => rfl) (fun _ => rfl) ?_
  refine J_aload_n E (jd dk_X7_floods_0 3 rfl) rfl 0 rfl ?_
  refine J_iload_n E (jd dk_X7_floods_0 4 rfl) rfl 1 rfl ?_
  obtain ⟨u31, e32, hf⟩ := jbind hf
  obtain ⟨r29, e30, hf⟩ := jbind hf
  refine J_callV E (jd dk_X7_floods_0 5 rfl) ml_RX7_382 cal_X7_isJudge e32 rfl (lk_X7_isJudge (jE_g E) (jE_tr E) N e30) rfl (Nat.le_of_ble_eq_true rfl) (jR_le hX (by decide) (by decide)) (jF0 hX) rfl ?_
  rintro _ _ ⟨rfl, rfl⟩
  refine J_if_ne (tgt := 19) E (jd dk_X7_floods_0 6 rfl) (by decide) (fun c33 => ?_) (fun c33 => ?_)
  · replace hf := jif_f c33 hf
    refine J_iload_n E (jd dk_X7_floods_0 11 rfl) rfl 2 rfl ?_
    refine J_i2l E (jd dk_X7_floods_0 12 rfl) ?_
    refine J_lconst (v := 1) E (jd dk_X7_floods_0 13 rfl) (by decide) ?_
    refine J_ldc2 (v := 5) E (jd dk_X7_floods_0 14 rfl) (jl35_in _ (List.mem_of_getElem? (i := 34) rfl)) ?_
    obtain ⟨r34, e35, hf⟩ := jbind hf
    refine J_callS E (jd dk_X7_floods_0 15 rfl) ml_RX7_154 cal_X7_isIn (lk_X7_isIn (jE_g E) (jE_tr E) N e35) rfl (Nat.le_of_ble_eq_true rfl) (jR_le hX (by decide) (by decide)) (jF0 hX) rfl ?_
    rintro _ _ ⟨rfl, rfl⟩
    refine J_if_eq (tgt := 43) E (jd dk_X7_floods_0 16 rfl) (by decide) (fun c36 => ?_) (fun c36 => ?_)
    · replace hf := jif_t c36 hf
      refine J_sub [0] rfl ?_
      exact lk_X7_floods_b43 E hX hr N hf
    · replace hf := jif_f c36 hf
      refine J_iload_n E (jd dk_X7_floods_0 17 rfl) rfl 3 rfl ?_
      refine J_i2l E (jd dk_X7_floods_0 18 rfl) ?_
      refine J_lconst (v := 0) E (jd dk_X7_floods_0 19 rfl) (by decide) ?_
      refine J_ldc2 (v := 10) E (jd dk_X7_floods_0 20 rfl) (jl35_in _ (List.mem_of_getElem? (i := 35) rfl)) ?_
      obtain ⟨r37, e38, hf⟩ := jbind hf
      refine J_callS E (jd dk_X7_floods_0 21 rfl) ml_RX7_154 cal_X7_isIn (lk_X7_isIn (jE_g E) (jE_tr E) N e38) rfl (Nat.le_of_ble_eq_true rfl) (jR_le hX (by decide) (by decide)) (jF0 hX) rfl ?_
      rintro _ _ ⟨rfl, rfl⟩
      refine J_if_ne (tgt := 49) E (jd dk_X7_floods_0 22 rfl) (by decide) (fun c39 => ?_) (fun c39 => ?_)
      · replace hf := jif_f c39 hf
        refine J_iconst (v := 0) E (jd dk_X7_floods_0 27 rfl) rfl ?_
        refine J_istore (lv' := [(4, .int 0), (0, .ref a0), (1, .int a1), (2, .int a2), (3, .int a3)]) E (jd dk_X7_floods_0 28 rfl) (by decide) rfl ?_
        refine J_aload_n E (jd dk_X7_floods_0 29 rfl) rfl 1 rfl ?_
        refine J_aload_n E (jd dk_X7_floods_0 30 rfl) rfl 1 rfl ?_
        obtain ⟨x40, e41, hf⟩ := jbind hf
        refine J_getr E (jd dk_X7_floods_0 31 rfl) fl_RX7_106 e41 ?_
        refine J_iconst (v := 0) E (jd dk_X7_floods_0 32 rfl) rfl ?_
        obtain ⟨u44, e45, hf⟩ := jbind hf
        obtain ⟨r42, e43, hf⟩ := jbind hf
        refine J_callV E (jd dk_X7_floods_0 33 rfl) ml_RX7_385 cal_X7_pack e45 rfl (lk_X7_pack (jE_g E) (jE_tr E) N e43) rfl (Nat.le_of_ble_eq_true rfl) (jR_le hX (by decide) (by decide)) (jF0 hX) rfl ?_
        rintro _ _ ⟨rfl, rfl⟩
        refine J_iconst (v := 0) E (jd dk_X7_floods_0 34 rfl) rfl ?_
        refine J_istore (lv' := [(5, .int 0), (4, .int 0), (0, .ref a0), (1, .int a1), (2, .int a2), (3, .int a3)]) E (jd dk_X7_floods_0 35 rfl) (by decide) rfl ?_
        refine J_sub [2, 3, 4, 5, 1, 0] rfl ?_
        exact lk_X7_floods_b64 E hX hr N hf
      · replace hf := jif_t c39 hf
        refine J_sub [0] rfl ?_
        exact lk_X7_floods_b43 E hX hr N hf
  · replace hf := jif_t c33 hf
    refine J_aload_n E (jd dk_X7_floods_0 7 rfl) rfl 0 rfl ?_
    refine J_iconst (v := 1) E (jd dk_X7_floods_0 8 rfl) rfl ?_
    obtain ⟨u48, e49, hf⟩ := jbind hf
    obtain ⟨r46, e47, hf⟩ := jbind hf
    refine J_callV E (jd dk_X7_floods_0 9 rfl) ml_RX7_293 cal_X7_fail e49 rfl (lk_X7_fail (jE_g E) (jE_tr E) N e47) rfl (Nat.le_of_ble_eq_true rfl) (jR_le hX (by decide) (by decide)) (jF0 hX) rfl ?_
    rintro _ _ ⟨rfl, rfl⟩
    cases hf
    exact J_iret E hr rfl (jd dk_X7_floods_0 10 rfl) (Nat.le_refl _) (Nat.le_refl _) ⟨rfl, rfl⟩
def f_X7_tellGains_b72 (N : Nat) (v0 : Nat) (v1 : Int32) (v2 : Int32) (v3 : Int32) (h : AH) : Option ((Int32 × AH) ⊕ ((AH))) :=
  (jck 7 h v0).bind fun _ =>
  (f_X7_goOn N h v0 5).bind fun r1 =>
  (jgr 7 r1 v0 50).bind fun x5 =>
  (jgr 7 r1 v0 30).bind fun x7 =>
  (jal 0 r1 x7 v1).bind fun x9 =>
  (jgr 7 r1 v0 30).bind fun x11 =>
  (jal 0 r1 x11 v2).bind fun x13 =>
  (f_X7_bitsOf N r1 (x9 &&& (x13 ^^^ ((-1))))).bind fun r15 =>
  (jas 0 r15.2 x5 ((2 : Int32) * v3) (((2 : Int32) * r15.1) - (v3 / 2))).bind fun h17 =>
  (jgr 7 h17 v0 50).bind fun x19 =>
  (jgr 7 h17 v0 30).bind fun x21 =>
  (jal 0 h17 x21 v2).bind fun x23 =>
  (jgr 7 h17 v0 30).bind fun x25 =>
  (jal 0 h17 x25 v1).bind fun x27 =>
  (f_X7_bitsOf N h17 (x23 &&& (x27 ^^^ ((-1))))).bind fun r29 =>
  (jas 0 r29.2 x19 (((2 : Int32) * v3) + 1) (((2 : Int32) * r29.1) - (v3 - v3 / 2 * 2))).bind fun h31 =>
  (jgr 7 h31 v0 41).bind fun x33 =>
  (jck 7 h31 v0).bind fun _ =>
  (f_X7_unpack N h31 v0 x33 0).bind fun r35 =>
  some (.inl ((v3 + 1, r35)))
def f_X7_tellGains_b44 (N : Nat) (v0 : Nat) (v1 : Int32) (v2 : Int32) (v3 : Int32) (h : AH) : Option ((Int32 × AH) ⊕ ((AH))) :=
  if (v3 - v3 / 2 * 2) = 1 then (jgr 7 h v0 29).bind fun x40 =>
  (jgr 7 h v0 29).bind fun x42 =>
  (jal 0 h x42 v2).bind fun x44 =>
  (jgr 7 h v0 5).bind fun x46 =>
  (jal 0 h x46 0).bind fun x48 =>
  if x48 = 0 then none else
  (jas 0 h x40 v2 ((x44 + 1) - (x44 + 1) / x48 * x48)).bind fun h51 =>
  f_X7_tellGains_b72 N v0 v1 v2 v3 h51
  else f_X7_tellGains_b72 N v0 v1 v2 v3 h
def f_X7_tellGains_l11 (N : Nat) (v0 : Nat) (v1 : Int32) (v2 : Int32) (v3 : Int32) (h : AH) : Option ((Int32 × AH) ⊕ ((AH))) :=
  if 4 ≤ v3 then some (.inr h)
  else if (v3 / 2) = 1 then (jgr 7 h v0 29).bind fun x55 =>
  (jgr 7 h v0 29).bind fun x57 =>
  (jal 0 h x57 v1).bind fun x59 =>
  (jgr 7 h v0 5).bind fun x61 =>
  (jal 0 h x61 0).bind fun x63 =>
  if x63 = 0 then none else
  (jas 0 h x55 v1 ((x59 + 1) - (x59 + 1) / x63 * x63)).bind fun h66 =>
  f_X7_tellGains_b44 N v0 v1 v2 v3 h66
  else f_X7_tellGains_b44 N v0 v1 v2 v3 h
def f_X7_tellGains_b11 (N : Nat) (v0 : Nat) (v1 : Int32) (v2 : Int32) (v3 : Int32) (h : AH) : Option AH :=
  (itr (fun s => f_X7_tellGains_l11 N v0 v1 v2 s.1 s.2) N (v3, h)).bind (fun e => some e)
def f_X7_tellGains (N : Nat) (h : AH) (a0 : Nat) (a1 : Int32) (a2 : Int32) : Option AH :=
  (jgr 7 h a0 41).bind fun x68 =>
  (jck 7 h a0).bind fun _ =>
  (f_X7_pack N h a0 x68 0).bind fun r70 =>
  f_X7_tellGains_b11 N a0 a1 a2 0 r70
set_option maxRecDepth 100000 in
set_option maxHeartbeats 4000000 in
theorem lk_X7_tellGains_b72 {G : JG} {X : JX} (E : jE G X (RX7, cX7_tellGains, 4)) (hX : X.2.2.2.1 = jRm 6 0 0) (hr : X.2.2.2.2.2.2.2.2.1.sig.returnType = none) (N : Nat) {Q : State → Prop} {v0 : Nat} {v1 : Int32} {v2 : Int32} {v3 : Int32} {h : AH}  {q : ((Int32 × AH) ⊕ ((AH)))} (hf : f_X7_tellGains_b72 N v0 v1 v2 v3 h = some q) (kb : ∀ s' : Int32 × AH, q = .inl s' → JW G X (RX7, cX7_tellGains, 4) s'.2 [(0, .ref v0), (1, .int v1), (2, .int v2), (3, .int s'.1)] [] 11 0 0 Q) (ke0 : ∀ e : AH, q = .inr e → JW G X (RX7, cX7_tellGains, 4) e [] [] 158 0 0 Q) : JW G X (RX7, cX7_tellGains, 4) h [(0, .ref v0), (1, .int v1), (2, .int v2), (3, .int v3)] [] 72 0 0 Q := by
  unfold f_X7_tellGains_b72 at hf
  refine J_aload_n E (jd dk_X7_tellGains_1 0 rfl) rfl 0 rfl ?_
  refine J_iconst (v := 5) E (jd dk_X7_tellGains_1 1 rfl) rfl ?_
  obtain ⟨u3, e4, hf⟩ := jbind hf
  obtain ⟨r1, e2, hf⟩ := jbind hf
  refine J_callV E (jd dk_X7_tellGains_1 2 rfl) ml_RX7_397 cal_X7_goOn e4 rfl (lk_X7_goOn (jE_g E) (jE_tr E) N e2) rfl (Nat.le_of_ble_eq_true rfl) (jR_le hX (by decide) (by decide)) (jF0 hX) rfl ?_
  rintro _ _ ⟨rfl, rfl⟩
  refine J_aload_n E (jd dk_X7_tellGains_1 3 rfl) rfl 0 rfl ?_
  obtain ⟨x5, e6, hf⟩ := jbind hf
  refine J_getr E (jd dk_X7_tellGains_1 4 rfl) fl_RX7_130 e6 ?_
  refine J_iconst (v := 2) E (jd dk_X7_tellGains_1 5 rfl) rfl ?_
  refine J_iload_n E (jd dk_X7_tellGains_1 6 rfl) rfl 3 rfl ?_
  refine J_imul E (jd dk_X7_tellGains_1 7 rfl) ?_
  refine J_iconst (v := 2) E (jd dk_X7_tellGains_1 8 rfl) rfl ?_
  refine J_aload_n E (jd dk_X7_tellGains_1 9 rfl) rfl 0 rfl ?_
  obtain ⟨x7, e8, hf⟩ := jbind hf
  refine J_getr E (jd dk_X7_tellGains_1 10 rfl) fl_RX7_87 e8 ?_
  refine J_iload_n E (jd dk_X7_tellGains_1 11 rfl) rfl 1 rfl ?_
  obtain ⟨x9, e10, hf⟩ := jbind hf
  refine J_iald E (jd dk_X7_tellGains_1 12 rfl) e10 ?_
  refine J_aload_n E (jd dk_X7_tellGains_1 13 rfl) rfl 0 rfl ?_
  obtain ⟨x11, e12, hf⟩ := jbind hf
  refine J_getr E (jd dk_X7_tellGains_1 14 rfl) fl_RX7_87 e12 ?_
  refine J_iload_n E (jd dk_X7_tellGains_1 15 rfl) rfl 2 rfl ?_
  obtain ⟨x13, e14, hf⟩ := jbind hf
  refine J_iald E (jd dk_X7_tellGains_1 16 rfl) e14 ?_
  refine J_iconst (v := (-1)) E (jd dk_X7_tellGains_1 17 rfl) rfl ?_
  refine J_ixor E (jd dk_X7_tellGains_1 18 rfl) ?_
  refine J_iand E (jd dk_X7_tellGains_1 19 rfl) ?_
  obtain ⟨r15, e16, hf⟩ := jbind hf
  refine J_callS E (jd dk_X7_tellGains_1 20 rfl) ml_RX7_327 cal_X7_bitsOf (lk_X7_bitsOf (jE_g E) (jE_tr E) N e16) rfl (Nat.le_of_ble_eq_true rfl) (jR_le hX (by decide) (by decide)) (jF0 hX) rfl ?_
  rintro _ _ ⟨rfl, rfl⟩
  refine J_imul E (jd dk_X7_tellGains_1 21 rfl) ?_
  refine J_iload_n E (jd dk_X7_tellGains_1 22 rfl) rfl 3 rfl ?_
  refine J_iconst (v := 2) E (jd dk_X7_tellGains_1 23 rfl) rfl ?_
  refine J_idiv E (jd dk_X7_tellGains_1 24 rfl) (by decide) ?_
  refine J_isub E (jd dk_X7_tellGains_1 25 rfl) ?_
  obtain ⟨h17, e18, hf⟩ := jbind hf
  refine J_iast E (jd dk_X7_tellGains_1 26 rfl) e18 ?_
  refine J_aload_n E (jd dk_X7_tellGains_1 27 rfl) rfl 0 rfl ?_
  obtain ⟨x19, e20, hf⟩ := jbind hf
  refine J_getr E (jd dk_X7_tellGains_1 28 rfl) fl_RX7_130 e20 ?_
  refine J_iconst (v := 2) E (jd dk_X7_tellGains_1 29 rfl) rfl ?_
  refine J_iload_n E (jd dk_X7_tellGains_1 30 rfl) rfl 3 rfl ?_
  refine J_imul E (jd dk_X7_tellGains_1 31 rfl) ?_
  refine J_iconst (v := 1) E (jd dk_X7_tellGains_1 32 rfl) rfl ?_
  refine J_iadd E (jd dk_X7_tellGains_1 33 rfl) ?_
  refine J_iconst (v := 2) E (jd dk_X7_tellGains_1 34 rfl) rfl ?_
  refine J_aload_n E (jd dk_X7_tellGains_1 35 rfl) rfl 0 rfl ?_
  obtain ⟨x21, e22, hf⟩ := jbind hf
  refine J_getr E (jd dk_X7_tellGains_1 36 rfl) fl_RX7_87 e22 ?_
  refine J_iload_n E (jd dk_X7_tellGains_1 37 rfl) rfl 2 rfl ?_
  obtain ⟨x23, e24, hf⟩ := jbind hf
  refine J_iald E (jd dk_X7_tellGains_1 38 rfl) e24 ?_
  refine J_aload_n E (jd dk_X7_tellGains_1 39 rfl) rfl 0 rfl ?_
  obtain ⟨x25, e26, hf⟩ := jbind hf
  refine J_getr E (jd dk_X7_tellGains_1 40 rfl) fl_RX7_87 e26 ?_
  refine J_iload_n E (jd dk_X7_tellGains_1 41 rfl) rfl 1 rfl ?_
  obtain ⟨x27, e28, hf⟩ := jbind hf
  refine J_iald E (jd dk_X7_tellGains_1 42 rfl) e28 ?_
  refine J_iconst (v := (-1)) E (jd dk_X7_tellGains_1 43 rfl) rfl ?_
  refine J_ixor E (jd dk_X7_tellGains_1 44 rfl) ?_
  refine J_iand E (jd dk_X7_tellGains_1 45 rfl) ?_
  obtain ⟨r29, e30, hf⟩ := jbind hf
  refine J_callS E (jd dk_X7_tellGains_1 46 rfl) ml_RX7_327 cal_X7_bitsOf (lk_X7_bitsOf (jE_g E) (jE_tr E) N e30) rfl (Nat.le_of_ble_eq_true rfl) (jR_le hX (by decide) (by decide)) (jF0 hX) rfl ?_
  rintro _ _ ⟨rfl, rfl⟩
  refine J_imul E (jd dk_X7_tellGains_1 47 rfl) ?_
  refine J_iload_n E (jd dk_X7_tellGains_1 48 rfl) rfl 3 rfl ?_
  refine J_iconst (v := 2) E (jd dk_X7_tellGains_1 49 rfl) rfl ?_
  refine J_irem E (jd dk_X7_tellGains_2 0 rfl) (by decide) ?_
  refine J_isub E (jd dk_X7_tellGains_2 1 rfl) ?_
  obtain ⟨h31, e32, hf⟩ := jbind hf
  refine J_iast E (jd dk_X7_tellGains_2 2 rfl) e32 ?_
  refine J_aload_n E (jd dk_X7_tellGains_2 3 rfl) rfl 0 rfl ?_
  refine J_aload_n E (jd dk_X7_tellGains_2 4 rfl) rfl 0 rfl ?_
  obtain ⟨x33, e34, hf⟩ := jbind hf
  refine J_getr E (jd dk_X7_tellGains_2 5 rfl) fl_RX7_106 e34 ?_
  refine J_iconst (v := 0) E (jd dk_X7_tellGains_2 6 rfl) rfl ?_
  obtain ⟨u37, e38, hf⟩ := jbind hf
  obtain ⟨r35, e36, hf⟩ := jbind hf
  refine J_callV E (jd dk_X7_tellGains_2 7 rfl) ml_RX7_407 cal_X7_unpack e38 rfl (lk_X7_unpack (jE_g E) (jE_tr E) N e36) rfl (Nat.le_of_ble_eq_true rfl) (jR_le hX (by decide) (by decide)) (jF0 hX) rfl ?_
  rintro _ _ ⟨rfl, rfl⟩
  refine J_iinc (v := v3 + 1) (lv' := [(3, .int (v3 + 1)), (0, .ref v0), (1, .int v1), (2, .int v2)]) E (jd dk_X7_tellGains_2 8 rfl) 3 rfl rfl (by decide) rfl ?_
  refine J_goto (tgt := 11) E (jd dk_X7_tellGains_2 9 rfl) (by decide) ?_
  refine J_sub [1, 2, 3, 0] rfl ?_
  exact kb _ (Option.some.inj hf).symm
set_option maxRecDepth 100000 in
set_option maxHeartbeats 4000000 in
theorem lk_X7_tellGains_b44 {G : JG} {X : JX} (E : jE G X (RX7, cX7_tellGains, 4)) (hX : X.2.2.2.1 = jRm 6 0 0) (hr : X.2.2.2.2.2.2.2.2.1.sig.returnType = none) (N : Nat) {Q : State → Prop} {v0 : Nat} {v1 : Int32} {v2 : Int32} {v3 : Int32} {h : AH}  {q : ((Int32 × AH) ⊕ ((AH)))} (hf : f_X7_tellGains_b44 N v0 v1 v2 v3 h = some q) (kb : ∀ s' : Int32 × AH, q = .inl s' → JW G X (RX7, cX7_tellGains, 4) s'.2 [(0, .ref v0), (1, .int v1), (2, .int v2), (3, .int s'.1)] [] 11 0 0 Q) (ke0 : ∀ e : AH, q = .inr e → JW G X (RX7, cX7_tellGains, 4) e [] [] 158 0 0 Q) : JW G X (RX7, cX7_tellGains, 4) h [(0, .ref v0), (1, .int v1), (2, .int v2), (3, .int v3)] [] 44 0 0 Q := by
  unfold f_X7_tellGains_b44 at hf
  refine J_iload_n E (jd dk_X7_tellGains_0 30 rfl) rfl 3 rfl ?_
  refine J_iconst (v := 2) E (jd dk_X7_tellGains_0 31 rfl) rfl ?_
  refine J_irem E (jd dk_X7_tellGains_0 32 rfl) (by decide) ?_
  refine J_iconst (v := 1) E (jd dk_X7_tellGains_0 33 rfl) rfl ?_
  refine J_icmp_ne (tgt := 72) E (jd dk_X7_tellGains_0 34 rfl) (by decide) (fun c39 => ?_) (fun c39 => ?_)
  · replace hf := jif_f c39 hf
    exact lk_X7_tellGains_b72 E hX hr N hf kb ke0
  · replace hf := jif_t c39 hf
    refine J_aload_n E (jd dk_X7_tellGains_0 35 rfl) rfl 0 rfl ?_
    obtain ⟨x40, e41, hf⟩ := jbind hf
    refine J_getr E (jd dk_X7_tellGains_0 36 rfl) fl_RX7_84 e41 ?_
    refine J_iload_n E (jd dk_X7_tellGains_0 37 rfl) rfl 2 rfl ?_
    refine J_aload_n E (jd dk_X7_tellGains_0 38 rfl) rfl 0 rfl ?_
    obtain ⟨x42, e43, hf⟩ := jbind hf
    refine J_getr E (jd dk_X7_tellGains_0 39 rfl) fl_RX7_84 e43 ?_
    refine J_iload_n E (jd dk_X7_tellGains_0 40 rfl) rfl 2 rfl ?_
    obtain ⟨x44, e45, hf⟩ := jbind hf
    refine J_iald E (jd dk_X7_tellGains_0 41 rfl) e45 ?_
    refine J_iconst (v := 1) E (jd dk_X7_tellGains_0 42 rfl) rfl ?_
    refine J_iadd E (jd dk_X7_tellGains_0 43 rfl) ?_
    refine J_aload_n E (jd dk_X7_tellGains_0 44 rfl) rfl 0 rfl ?_
    obtain ⟨x46, e47, hf⟩ := jbind hf
    refine J_getr E (jd dk_X7_tellGains_0 45 rfl) fl_RX7_42 e47 ?_
    refine J_iconst (v := 0) E (jd dk_X7_tellGains_0 46 rfl) rfl ?_
    obtain ⟨x48, e49, hf⟩ := jbind hf
    refine J_iald E (jd dk_X7_tellGains_0 47 rfl) e49 ?_
    obtain ⟨z50, hf⟩ := jnz hf
    refine J_irem E (jd dk_X7_tellGains_0 48 rfl) z50 ?_
    obtain ⟨h51, e52, hf⟩ := jbind hf
    refine J_iast E (jd dk_X7_tellGains_0 49 rfl) e52 ?_
    exact lk_X7_tellGains_b72 E hX hr N hf kb ke0
set_option maxRecDepth 100000 in
set_option maxHeartbeats 4000000 in
theorem lk_X7_tellGains_l11 {G : JG} {X : JX} (E : jE G X (RX7, cX7_tellGains, 4)) (hX : X.2.2.2.1 = jRm 6 0 0) (hr : X.2.2.2.2.2.2.2.2.1.sig.returnType = none) (N : Nat) {Q : State → Prop} {v0 : Nat} {v1 : Int32} {v2 : Int32} {v3 : Int32}  {h : AH} {q : ((Int32 × AH) ⊕ ((AH)))} (hf : f_X7_tellGains_l11 N v0 v1 v2 v3 h = some q) (kb : ∀ s' : Int32 × AH, q = .inl s' → JW G X (RX7, cX7_tellGains, 4) s'.2 [(0, .ref v0), (1, .int v1), (2, .int v2), (3, .int s'.1)] [] 11 0 0 Q) (ke0 : ∀ e : AH, q = .inr e → JW G X (RX7, cX7_tellGains, 4) e [] [] 158 0 0 Q) : JW G X (RX7, cX7_tellGains, 4) h [(0, .ref v0), (1, .int v1), (2, .int v2), (3, .int v3)] [] 11 0 0 Q := by
  unfold f_X7_tellGains_l11 at hf
  refine J_iload_n E (jd dk_X7_tellGains_0 7 rfl) rfl 3 rfl ?_
  refine J_iconst (v := 4) E (jd dk_X7_tellGains_0 8 rfl) rfl ?_
  refine J_icmp_ge (tgt := 158) E (jd dk_X7_tellGains_0 9 rfl) (by decide) (fun c53 => ?_) (fun c53 => ?_)
  · replace hf := jif_t c53 hf
    refine J_sub [] rfl ?_
    exact ke0 _ (Option.some.inj hf).symm
  · replace hf := jif_f c53 hf
    refine J_iload_n E (jd dk_X7_tellGains_0 10 rfl) rfl 3 rfl ?_
    refine J_iconst (v := 2) E (jd dk_X7_tellGains_0 11 rfl) rfl ?_
    refine J_idiv E (jd dk_X7_tellGains_0 12 rfl) (by decide) ?_
    refine J_iconst (v := 1) E (jd dk_X7_tellGains_0 13 rfl) rfl ?_
    refine J_icmp_ne (tgt := 44) E (jd dk_X7_tellGains_0 14 rfl) (by decide) (fun c54 => ?_) (fun c54 => ?_)
    · replace hf := jif_f c54 hf
      exact lk_X7_tellGains_b44 E hX hr N hf kb ke0
    · replace hf := jif_t c54 hf
      refine J_aload_n E (jd dk_X7_tellGains_0 15 rfl) rfl 0 rfl ?_
      obtain ⟨x55, e56, hf⟩ := jbind hf
      refine J_getr E (jd dk_X7_tellGains_0 16 rfl) fl_RX7_84 e56 ?_
      refine J_iload_n E (jd dk_X7_tellGains_0 17 rfl) rfl 1 rfl ?_
      refine J_aload_n E (jd dk_X7_tellGains_0 18 rfl) rfl 0 rfl ?_
      obtain ⟨x57, e58, hf⟩ := jbind hf
      refine J_getr E (jd dk_X7_tellGains_0 19 rfl) fl_RX7_84 e58 ?_
      refine J_iload_n E (jd dk_X7_tellGains_0 20 rfl) rfl 1 rfl ?_
      obtain ⟨x59, e60, hf⟩ := jbind hf
      refine J_iald E (jd dk_X7_tellGains_0 21 rfl) e60 ?_
      refine J_iconst (v := 1) E (jd dk_X7_tellGains_0 22 rfl) rfl ?_
      refine J_iadd E (jd dk_X7_tellGains_0 23 rfl) ?_
      refine J_aload_n E (jd dk_X7_tellGains_0 24 rfl) rfl 0 rfl ?_
      obtain ⟨x61, e62, hf⟩ := jbind hf
      refine J_getr E (jd dk_X7_tellGains_0 25 rfl) fl_RX7_42 e62 ?_
      refine J_iconst (v := 0) E (jd dk_X7_tellGains_0 26 rfl) rfl ?_
      obtain ⟨x63, e64, hf⟩ := jbind hf
      refine J_iald E (jd dk_X7_tellGains_0 27 rfl) e64 ?_
      obtain ⟨z65, hf⟩ := jnz hf
      refine J_irem E (jd dk_X7_tellGains_0 28 rfl) z65 ?_
      obtain ⟨h66, e67, hf⟩ := jbind hf
      refine J_iast E (jd dk_X7_tellGains_0 29 rfl) e67 ?_
      exact lk_X7_tellGains_b44 E hX hr N hf kb ke0
set_option maxRecDepth 100000 in
set_option maxHeartbeats 4000000 in
theorem lk_X7_tellGains_b11 {G : JG} {X : JX} (E : jE G X (RX7, cX7_tellGains, 4)) (hX : X.2.2.2.1 = jRm 6 0 0) (hr : X.2.2.2.2.2.2.2.2.1.sig.returnType = none) (N : Nat) {v0 : Nat} {v1 : Int32} {v2 : Int32} {v3 : Int32} {h : AH}  {r : AH} (hf : f_X7_tellGains_b11 N v0 v1 v2 v3 h = some r) : JW G X (RX7, cX7_tellGains, 4) h [(0, .ref v0), (1, .int v1), (2, .int v2), (3, .int v3)] [] 11 0 0 (jEnd G X (jpv r) 0 0) := by
  unfold f_X7_tellGains_b11 at hf
  obtain ⟨q1, h1, hf⟩ := jbind hf
  refine jloop (P := fun s => JW G X (RX7, cX7_tellGains, 4) s.2 [(0, .ref v0), (1, .int v1), (2, .int v2), (3, .int s.1)] [] 11 0 0 (jEnd G X (jpv r) 0 0)) (Ex := fun (e : AH) => JW G X (RX7, cX7_tellGains, 4) e [] [] 158 0 0 (jEnd G X (jpv r) 0 0)) (fun s q hs hb hx => lk_X7_tellGains_l11 E hX hr N hs (fun s' hs => hb s' hs) (fun e he => hx e he)) N _ q1 h1 ?_
  generalize q1 = e at hf ⊢
  cases hf
  exact J_vret E hr (jd dk_X7_tellGains_2 10 rfl) (Nat.le_refl _) (Nat.le_refl _) ⟨rfl, rfl⟩
set_option maxRecDepth 100000 in
set_option maxHeartbeats 4000000 in
theorem lk_X7_tellGains {G : JG} {l : Launch} (hG : jG G) (htr : l.stackTraces = false) (N : Nat) {h : AH} {a0 : Nat} {a1 : Int32} {a2 : Int32} {r : AH} (hf : f_X7_tellGains N h a0 a1 a2 = some r) : jMet G l yX7_tellGains cX7_tellGains 4 none 6 0 0 [.ref a0, .int a1, .int a2] h (jpv r) := by
  unfold f_X7_tellGains at hf
  refine jMet_of hG htr (by decide) (Nat.le_of_ble_eq_true rfl) ?_
  intro X E hl9 hr hX _ _
  show JW G X (RX7, cX7_tellGains, 4) h [(0, .ref a0), (1, .int a1), (2, .int a2)] [] 0 0 0 (jEnd G X (jpv r) 0 0)
  refine J_aload_n E (jd dk_X7_tellGains_0 0 rfl) rfl 0 rfl ?_
  refine J_aload_n E (jd dk_X7_tellGains_0 1 rfl) rfl 0 rfl ?_
  obtain ⟨x68, e69, hf⟩ := jbind hf
  refine J_getr E (jd dk_X7_tellGains_0 2 rfl) fl_RX7_106 e69 ?_
  refine J_iconst (v := 0) E (jd dk_X7_tellGains_0 3 rfl) rfl ?_
  obtain ⟨u72, e73, hf⟩ := jbind hf
  obtain ⟨r70, e71, hf⟩ := jbind hf
  refine J_callV E (jd dk_X7_tellGains_0 4 rfl) ml_RX7_385 cal_X7_pack e73 rfl (lk_X7_pack (jE_g E) (jE_tr E) N e71) rfl (Nat.le_of_ble_eq_true rfl) (jR_le hX (by decide) (by decide)) (jF0 hX) rfl ?_
  rintro _ _ ⟨rfl, rfl⟩
  refine J_iconst (v := 0) E (jd dk_X7_tellGains_0 5 rfl) rfl ?_
  refine J_istore_n (lv' := [(3, .int 0), (0, .ref a0), (1, .int a1), (2, .int a2)]) E (jd dk_X7_tellGains_0 6 rfl) rfl (by decide) rfl ?_
  refine J_sub [1, 2, 3, 0] rfl ?_
  exact lk_X7_tellGains_b11 E hX hr N hf
def f_X7_game_b31 (N : Nat) (v0 : Nat) (h : AH) : Option (Int32 × AH) :=
  (jck 7 h v0).bind fun _ =>
  (f_X7_fail N h v0 1).bind fun r1 =>
  some (r1.1, r1.2)
def f_X7_game_b225 (N : Nat) (v0 : Nat) (v3 : Int32) (v4 : Int32) (v5 : Int32) (v6 : Int32) (v7 : Int32) (v8 : Int32) (h : AH) : Option ((Int32 × Int32 × Int32 × AH) ⊕ ((Int32 × Int32 × AH))) :=
  some (.inl ((v6, v7, v8 + 1, h)))
def f_X7_game_b223 (N : Nat) (v0 : Nat) (v3 : Int32) (v4 : Int32) (v5 : Int32) (v6 : Int32) (v8 : Int32) (w0 : Int32) (h : AH) : Option ((Int32 × Int32 × Int32 × AH) ⊕ ((Int32 × Int32 × AH))) :=
  f_X7_game_b225 N v0 v3 v4 v5 v6 w0 v8 h
def f_X7_game_b197 (N : Nat) (v0 : Nat) (v3 : Int32) (v4 : Int32) (v5 : Int32) (v6 : Int32) (v7 : Int32) (v8 : Int32) (h : AH) : Option ((Int32 × Int32 × Int32 × AH) ⊕ ((Int32 × Int32 × AH))) :=
  if v7 = ((-1)) then f_X7_game_b223 N v0 v3 v4 v5 (v6 + 1) v8 (((10 : Int32) * (v8 / 2)) + (v8 - v8 / 2 * 2)) h
  else f_X7_game_b223 N v0 v3 v4 v5 (v6 + 1) v8 v7 h
def f_X7_game_b162 (N : Nat) (v0 : Nat) (v3 : Int32) (v4 : Int32) (v5 : Int32) (v6 : Int32) (v7 : Int32) (v8 : Int32) (h : AH) : Option ((Int32 × Int32 × Int32 × AH) ⊕ ((Int32 × Int32 × AH))) :=
  if v5 = 0 then f_X7_game_b197 N v0 v3 v4 v5 v6 v7 v8 h
  else (jgr 7 h v0 50).bind fun x7 =>
  (jal 0 h x7 (((2 : Int32) * (v8 ^^^ 1)) + 1)).bind fun x9 =>
  (jgr 7 h v0 50).bind fun x11 =>
  (jal 0 h x11 (((2 : Int32) * v8) + 1)).bind fun x13 =>
  if x9 ≤ x13 then f_X7_game_b197 N v0 v3 v4 v5 v6 v7 v8 h
  else f_X7_game_b225 N v0 v3 v4 v5 v6 v7 v8 h
def f_X7_game_b134 (N : Nat) (v0 : Nat) (v3 : Int32) (v4 : Int32) (v5 : Int32) (v6 : Int32) (v7 : Int32) (v8 : Int32) (h : AH) : Option ((Int32 × Int32 × Int32 × AH) ⊕ ((Int32 × Int32 × AH))) :=
  if v4 = 0 then f_X7_game_b162 N v0 v3 v4 v5 v6 v7 v8 h
  else (jgr 7 h v0 50).bind fun x17 =>
  (jal 0 h x17 ((2 : Int32) * (v8 ^^^ 2))).bind fun x19 =>
  (jgr 7 h v0 50).bind fun x21 =>
  (jal 0 h x21 ((2 : Int32) * v8)).bind fun x23 =>
  if x23 < x19 then f_X7_game_b225 N v0 v3 v4 v5 v6 v7 v8 h
  else f_X7_game_b162 N v0 v3 v4 v5 v6 v7 v8 h
def f_X7_game_b118 (N : Nat) (v0 : Nat) (v3 : Int32) (v4 : Int32) (v5 : Int32) (v6 : Int32) (v7 : Int32) (v8 : Int32) (h : AH) : Option ((Int32 × Int32 × Int32 × AH) ⊕ ((Int32 × Int32 × AH))) :=
  if (v8 - v8 / 2 * 2) = 1 then if v5 = 0 then f_X7_game_b225 N v0 v3 v4 v5 v6 v7 v8 h
  else f_X7_game_b134 N v0 v3 v4 v5 v6 v7 v8 h
  else f_X7_game_b134 N v0 v3 v4 v5 v6 v7 v8 h
def f_X7_game_l99 (N : Nat) (v0 : Nat) (v3 : Int32) (v4 : Int32) (v5 : Int32) (v6 : Int32) (v7 : Int32) (v8 : Int32) (h : AH) : Option ((Int32 × Int32 × Int32 × AH) ⊕ ((Int32 × Int32 × AH))) :=
  if 4 ≤ v8 then some (.inr ((v6, v7, h)))
  else if (v8 / 2) = 1 then if v4 = 0 then f_X7_game_b225 N v0 v3 v4 v5 v6 v7 v8 h
  else f_X7_game_b118 N v0 v3 v4 v5 v6 v7 v8 h
  else f_X7_game_b118 N v0 v3 v4 v5 v6 v7 v8 h
def f_X7_game_b99 (N : Nat) (v0 : Nat) (v3 : Int32) (v4 : Int32) (v5 : Int32) (v6 : Int32) (v7 : Int32) (v8 : Int32) (h : AH) : Option (Int32 × AH) :=
  (itr (fun s => f_X7_game_l99 N v0 v3 v4 v5 s.1 s.2.1 s.2.2.1 s.2.2.2) N (v6, v7, v8, h)).bind (fun e => if v3 = 0 then some (e.1, e.2.2)
  else some (e.2.1, e.2.2))
def f_X7_game_b82 (N : Nat) (v0 : Nat) (v1 : Int32) (v2 : Int32) (v3 : Int32) (v4 : Int32) (w0 : Int32) (h : AH) : Option (Int32 × AH) :=
  (jck 7 h v0).bind fun _ =>
  (f_X7_tellGains N h v0 v1 v2).bind fun r32 =>
  f_X7_game_b99 N v0 v3 v4 w0 0 ((-1)) 0 r32
def f_X7_game_b64 (N : Nat) (v0 : Nat) (v1 : Int32) (v2 : Int32) (v3 : Int32) (w0 : Int32) (h : AH) : Option (Int32 × AH) :=
  (jgr 7 h v0 28).bind fun x36 =>
  (jal 0 h x36 v2).bind fun x38 =>
  if x38 = ((-2)) then f_X7_game_b82 N v0 v1 v2 v3 w0 0 h
  else f_X7_game_b82 N v0 v1 v2 v3 w0 1 h
def f_X7_game (N : Nat) (h : AH) (a0 : Nat) (a1 : Int32) (a2 : Int32) (a3 : Int32) : Option (Int32 × AH) :=
  (jwi 7 h a0 4 0).bind fun h41 =>
  (jck 7 h41 a0).bind fun _ =>
  (f_X7_isJudge N h41 a0 a1).bind fun r43 =>
  if r43.1 = 0 then f_X7_game_b31 N a0 r43.2
  else (jck 7 r43.2 a0).bind fun _ =>
  (f_X7_isJudge N r43.2 a0 a2).bind fun r48 =>
  if r48.1 = 0 then f_X7_game_b31 N a0 r48.2
  else (f_X7_isIn N r48.2 (Int32.toInt64 a3) 0 1).bind fun r53 =>
  if r53.1 = 0 then f_X7_game_b31 N a0 r53.2
  else if a1 = a2 then (jck 7 r53.2 a0).bind fun _ =>
  (f_X7_fail N r53.2 a0 2).bind fun r62 =>
  some (r62.1, r62.2)
  else (jgr 7 r53.2 a0 28).bind fun x57 =>
  (jal 0 r53.2 x57 a1).bind fun x59 =>
  if x59 = ((-2)) then f_X7_game_b64 N a0 a1 a2 a3 0 r53.2
  else f_X7_game_b64 N a0 a1 a2 a3 1 r53.2
set_option maxRecDepth 100000 in
set_option maxHeartbeats 4000000 in
theorem lk_X7_game_b31 {G : JG} {X : JX} (E : jE G X (RX7, cX7_game, 9)) (hX : X.2.2.2.1 = jRm 7 0 0) (hr : X.2.2.2.2.2.2.2.2.1.sig.returnType = (some .int)) (N : Nat) {v0 : Nat} {h : AH}  {r : (Int32 × AH)} (hf : f_X7_game_b31 N v0 h = some r) : JW G X (RX7, cX7_game, 9) h [(0, .ref v0)] [] 31 0 0 (jEnd G X (jpi r) 0 0) := by
  unfold f_X7_game_b31 at hf
  refine J_aload_n E (jd dk_X7_game_0 17 rfl) rfl 0 rfl ?_
  refine J_iconst (v := 1) E (jd dk_X7_game_0 18 rfl) rfl ?_
  obtain ⟨u3, e4, hf⟩ := jbind hf
  obtain ⟨r1, e2, hf⟩ := jbind hf
  refine J_callV E (jd dk_X7_game_0 19 rfl) ml_RX7_293 cal_X7_fail e4 rfl (lk_X7_fail (jE_g E) (jE_tr E) N e2) rfl (Nat.le_of_ble_eq_true rfl) (jR_le hX (by decide) (by decide)) (jF0 hX) rfl ?_
  rintro _ _ ⟨rfl, rfl⟩
  cases hf
  exact J_iret E hr rfl (jd dk_X7_game_0 20 rfl) (Nat.le_refl _) (Nat.le_refl _) ⟨rfl, rfl⟩
set_option maxRecDepth 100000 in
set_option maxHeartbeats 4000000 in
theorem lk_X7_game_b225 {G : JG} {X : JX} (E : jE G X (RX7, cX7_game, 9)) (hX : X.2.2.2.1 = jRm 7 0 0) (hr : X.2.2.2.2.2.2.2.2.1.sig.returnType = (some .int)) (N : Nat) {Q : State → Prop} {v0 : Nat} {v3 : Int32} {v4 : Int32} {v5 : Int32} {v6 : Int32} {v7 : Int32} {v8 : Int32} {h : AH}  {q : ((Int32 × Int32 × Int32 × AH) ⊕ ((Int32 × Int32 × AH)))} (hf : f_X7_game_b225 N v0 v3 v4 v5 v6 v7 v8 h = some q) (kb : ∀ s' : Int32 × Int32 × Int32 × AH, q = .inl s' → JW G X (RX7, cX7_game, 9) s'.2.2.2 [(0, .ref v0), (3, .int v3), (4, .int v4), (5, .int v5), (6, .int s'.1), (7, .int s'.2.1), (8, .int s'.2.2.1)] [] 99 0 0 Q) (ke0 : ∀ e : Int32 × Int32 × AH, q = .inr e → JW G X (RX7, cX7_game, 9) e.2.2 [(3, .int v3), (6, .int e.1), (7, .int e.2.1)] [] 231 0 0 Q) : JW G X (RX7, cX7_game, 9) h [(0, .ref v0), (3, .int v3), (4, .int v4), (5, .int v5), (6, .int v6), (7, .int v7), (8, .int v8)] [] 225 0 0 Q := by
  unfold f_X7_game_b225 at hf
  refine J_iinc (v := v8 + 1) (lv' := [(8, .int (v8 + 1)), (0, .ref v0), (3, .int v3), (4, .int v4), (5, .int v5), (6, .int v6), (7, .int v7)]) E (jd dk_X7_game_2 31 rfl) 6 rfl rfl (by decide) rfl ?_
  refine J_goto (tgt := 99) E (jd dk_X7_game_2 32 rfl) (by decide) ?_
  refine J_sub [1, 2, 3, 4, 5, 6, 0] rfl ?_
  exact kb _ (Option.some.inj hf).symm
set_option maxRecDepth 100000 in
set_option maxHeartbeats 4000000 in
theorem lk_X7_game_b223 {G : JG} {X : JX} (E : jE G X (RX7, cX7_game, 9)) (hX : X.2.2.2.1 = jRm 7 0 0) (hr : X.2.2.2.2.2.2.2.2.1.sig.returnType = (some .int)) (N : Nat) {Q : State → Prop} {v0 : Nat} {v3 : Int32} {v4 : Int32} {v5 : Int32} {v6 : Int32} {v8 : Int32} {w0 : Int32} {h : AH}  {q : ((Int32 × Int32 × Int32 × AH) ⊕ ((Int32 × Int32 × AH)))} (hf : f_X7_game_b223 N v0 v3 v4 v5 v6 v8 w0 h = some q) (kb : ∀ s' : Int32 × Int32 × Int32 × AH, q = .inl s' → JW G X (RX7, cX7_game, 9) s'.2.2.2 [(0, .ref v0), (3, .int v3), (4, .int v4), (5, .int v5), (6, .int s'.1), (7, .int s'.2.1), (8, .int s'.2.2.1)] [] 99 0 0 Q) (ke0 : ∀ e : Int32 × Int32 × AH, q = .inr e → JW G X (RX7, cX7_game, 9) e.2.2 [(3, .int v3), (6, .int e.1), (7, .int e.2.1)] [] 231 0 0 Q) : JW G X (RX7, cX7_game, 9) h [(0, .ref v0), (3, .int v3), (4, .int v4), (5, .int v5), (6, .int v6), (8, .int v8)] [.int w0] 223 0 0 Q := by
  unfold f_X7_game_b223 at hf
  refine J_istore (lv' := [(7, .int w0), (0, .ref v0), (3, .int v3), (4, .int v4), (5, .int v5), (6, .int v6), (8, .int v8)]) E (jd dk_X7_game_2 30 rfl) (by decide) rfl ?_
  refine J_sub [1, 2, 3, 4, 5, 0, 6] rfl ?_
  exact lk_X7_game_b225 E hX hr N hf kb ke0
set_option maxRecDepth 100000 in
set_option maxHeartbeats 4000000 in
theorem lk_X7_game_b197 {G : JG} {X : JX} (E : jE G X (RX7, cX7_game, 9)) (hX : X.2.2.2.1 = jRm 7 0 0) (hr : X.2.2.2.2.2.2.2.2.1.sig.returnType = (some .int)) (N : Nat) {Q : State → Prop} {v0 : Nat} {v3 : Int32} {v4 : Int32} {v5 : Int32} {v6 : Int32} {v7 : Int32} {v8 : Int32} {h : AH}  {q : ((Int32 × Int32 × Int32 × AH) ⊕ ((Int32 × Int32 × AH)))} (hf : f_X7_game_b197 N v0 v3 v4 v5 v6 v7 v8 h = some q) (kb : ∀ s' : Int32 × Int32 × Int32 × AH, q = .inl s' → JW G X (RX7, cX7_game, 9) s'.2.2.2 [(0, .ref v0), (3, .int v3), (4, .int v4), (5, .int v5), (6, .int s'.1), (7, .int s'.2.1), (8, .int s'.2.2.1)] [] 99 0 0 Q) (ke0 : ∀ e : Int32 × Int32 × AH, q = .inr e → JW G X (RX7, cX7_game, 9) e.2.2 [(3, .int v3), (6, .int e.1), (7, .int e.2.1)] [] 231 0 0 Q) : JW G X (RX7, cX7_game, 9) h [(0, .ref v0), (3, .int v3), (4, .int v4), (5, .int v5), (6, .int v6), (7, .int v7), (8, .int v8)] [] 197 0 0 Q := by
  unfold f_X7_game_b197 at hf
  refine J_iinc (v := v6 + 1) (lv' := [(6, .int (v6 + 1)), (0, .ref v0), (3, .int v3), (4, .int v4), (5, .int v5), (7, .int v7), (8, .int v8)]) E (jd dk_X7_game_2 15 rfl) 4 rfl rfl (by decide) rfl ?_
  refine J_iload E (jd dk_X7_game_2 16 rfl) 5 rfl ?_
  refine J_iconst (v := (-1)) E (jd dk_X7_game_2 17 rfl) rfl ?_
  refine J_icmp_ne (tgt := 221) E (jd dk_X7_game_2 18 rfl) (by decide) (fun c5 => ?_) (fun c5 => ?_)
  · replace hf := jif_f c5 hf
    refine J_iload E (jd dk_X7_game_2 29 rfl) 5 rfl ?_
    refine J_sub [1, 2, 3, 4, 0, 6] rfl ?_
    exact lk_X7_game_b223 E hX hr N hf kb ke0
  · replace hf := jif_t c5 hf
    refine J_bipush (v := 10) E (jd dk_X7_game_2 19 rfl) (by decide) ?_
    refine J_iload E (jd dk_X7_game_2 20 rfl) 6 rfl ?_
    refine J_iconst (v := 2) E (jd dk_X7_game_2 21 rfl) rfl ?_
    refine J_idiv E (jd dk_X7_game_2 22 rfl) (by decide) ?_
    refine J_imul E (jd dk_X7_game_2 23 rfl) ?_
    refine J_iload E (jd dk_X7_game_2 24 rfl) 6 rfl ?_
    refine J_iconst (v := 2) E (jd dk_X7_game_2 25 rfl) rfl ?_
    refine J_irem E (jd dk_X7_game_2 26 rfl) (by decide) ?_
    refine J_iadd E (jd dk_X7_game_2 27 rfl) ?_
    refine J_goto (tgt := 223) E (jd dk_X7_game_2 28 rfl) (by decide) ?_
    refine J_sub [1, 2, 3, 4, 0, 6] rfl ?_
    exact lk_X7_game_b223 E hX hr N hf kb ke0
set_option maxRecDepth 100000 in
set_option maxHeartbeats 4000000 in
theorem lk_X7_game_b162 {G : JG} {X : JX} (E : jE G X (RX7, cX7_game, 9)) (hX : X.2.2.2.1 = jRm 7 0 0) (hr : X.2.2.2.2.2.2.2.2.1.sig.returnType = (some .int)) (N : Nat) {Q : State → Prop} {v0 : Nat} {v3 : Int32} {v4 : Int32} {v5 : Int32} {v6 : Int32} {v7 : Int32} {v8 : Int32} {h : AH}  {q : ((Int32 × Int32 × Int32 × AH) ⊕ ((Int32 × Int32 × AH)))} (hf : f_X7_game_b162 N v0 v3 v4 v5 v6 v7 v8 h = some q) (kb : ∀ s' : Int32 × Int32 × Int32 × AH, q = .inl s' → JW G X (RX7, cX7_game, 9) s'.2.2.2 [(0, .ref v0), (3, .int v3), (4, .int v4), (5, .int v5), (6, .int s'.1), (7, .int s'.2.1), (8, .int s'.2.2.1)] [] 99 0 0 Q) (ke0 : ∀ e : Int32 × Int32 × AH, q = .inr e → JW G X (RX7, cX7_game, 9) e.2.2 [(3, .int v3), (6, .int e.1), (7, .int e.2.1)] [] 231 0 0 Q) : JW G X (RX7, cX7_game, 9) h [(0, .ref v0), (3, .int v3), (4, .int v4), (5, .int v5), (6, .int v6), (7, .int v7), (8, .int v8)] [] 162 0 0 Q := by
  unfold f_X7_game_b162 at hf
  refine J_iload E (jd dk_X7_game_1 43 rfl) 3 rfl ?_
  refine J_if_eq (tgt := 197) E (jd dk_X7_game_1 44 rfl) (by decide) (fun c6 => ?_) (fun c6 => ?_)
  · replace hf := jif_t c6 hf
    exact lk_X7_game_b197 E hX hr N hf kb ke0
  · replace hf := jif_f c6 hf
    refine J_aload_n E (jd dk_X7_game_1 45 rfl) rfl 0 rfl ?_
    obtain ⟨x7, e8, hf⟩ := jbind hf
    refine J_getr E (jd dk_X7_game_1 46 rfl) fl_RX7_130 e8 ?_
    refine J_iconst (v := 2) E (jd dk_X7_game_1 47 rfl) rfl ?_
    refine J_iload E (jd dk_X7_game_1 48 rfl) 6 rfl ?_
    refine J_iconst (v := 1) E (jd dk_X7_game_1 49 rfl) rfl ?_
    refine J_ixor E (jd dk_X7_game_2 0 rfl) ?_
    refine J_imul E (jd dk_X7_game_2 1 rfl) ?_
    refine J_iconst (v := 1) E (jd dk_X7_game_2 2 rfl) rfl ?_
    refine J_iadd E (jd dk_X7_game_2 3 rfl) ?_
    obtain ⟨x9, e10, hf⟩ := jbind hf
    refine J_iald E (jd dk_X7_game_2 4 rfl) e10 ?_
    refine J_aload_n E (jd dk_X7_game_2 5 rfl) rfl 0 rfl ?_
    obtain ⟨x11, e12, hf⟩ := jbind hf
    refine J_getr E (jd dk_X7_game_2 6 rfl) fl_RX7_130 e12 ?_
    refine J_iconst (v := 2) E (jd dk_X7_game_2 7 rfl) rfl ?_
    refine J_iload E (jd dk_X7_game_2 8 rfl) 6 rfl ?_
    refine J_imul E (jd dk_X7_game_2 9 rfl) ?_
    refine J_iconst (v := 1) E (jd dk_X7_game_2 10 rfl) rfl ?_
    refine J_iadd E (jd dk_X7_game_2 11 rfl) ?_
    obtain ⟨x13, e14, hf⟩ := jbind hf
    refine J_iald E (jd dk_X7_game_2 12 rfl) e14 ?_
    refine J_icmp_le (tgt := 197) E (jd dk_X7_game_2 13 rfl) (by decide) (fun c15 => ?_) (fun c15 => ?_)
    · replace hf := jif_t c15 hf
      exact lk_X7_game_b197 E hX hr N hf kb ke0
    · replace hf := jif_f c15 hf
      refine J_goto (tgt := 225) E (jd dk_X7_game_2 14 rfl) (by decide) ?_
      exact lk_X7_game_b225 E hX hr N hf kb ke0
set_option maxRecDepth 100000 in
set_option maxHeartbeats 4000000 in
theorem lk_X7_game_b134 {G : JG} {X : JX} (E : jE G X (RX7, cX7_game, 9)) (hX : X.2.2.2.1 = jRm 7 0 0) (hr : X.2.2.2.2.2.2.2.2.1.sig.returnType = (some .int)) (N : Nat) {Q : State → Prop} {v0 : Nat} {v3 : Int32} {v4 : Int32} {v5 : Int32} {v6 : Int32} {v7 : Int32} {v8 : Int32} {h : AH}  {q : ((Int32 × Int32 × Int32 × AH) ⊕ ((Int32 × Int32 × AH)))} (hf : f_X7_game_b134 N v0 v3 v4 v5 v6 v7 v8 h = some q) (kb : ∀ s' : Int32 × Int32 × Int32 × AH, q = .inl s' → JW G X (RX7, cX7_game, 9) s'.2.2.2 [(0, .ref v0), (3, .int v3), (4, .int v4), (5, .int v5), (6, .int s'.1), (7, .int s'.2.1), (8, .int s'.2.2.1)] [] 99 0 0 Q) (ke0 : ∀ e : Int32 × Int32 × AH, q = .inr e → JW G X (RX7, cX7_game, 9) e.2.2 [(3, .int v3), (6, .int e.1), (7, .int e.2.1)] [] 231 0 0 Q) : JW G X (RX7, cX7_game, 9) h [(0, .ref v0), (3, .int v3), (4, .int v4), (5, .int v5), (6, .int v6), (7, .int v7), (8, .int v8)] [] 134 0 0 Q := by
  unfold f_X7_game_b134 at hf
  refine J_iload E (jd dk_X7_game_1 26 rfl) 2 rfl ?_
  refine J_if_eq (tgt := 162) E (jd dk_X7_game_1 27 rfl) (by decide) (fun c16 => ?_) (fun c16 => ?_)
  · replace hf := jif_t c16 hf
    exact lk_X7_game_b162 E hX hr N hf kb ke0
  · replace hf := jif_f c16 hf
    refine J_aload_n E (jd dk_X7_game_1 28 rfl) rfl 0 rfl ?_
    obtain ⟨x17, e18, hf⟩ := jbind hf
    refine J_getr E (jd dk_X7_game_1 29 rfl) fl_RX7_130 e18 ?_
    refine J_iconst (v := 2) E (jd dk_X7_game_1 30 rfl) rfl ?_
    refine J_iload E (jd dk_X7_game_1 31 rfl) 6 rfl ?_
    refine J_iconst (v := 2) E (jd dk_X7_game_1 32 rfl) rfl ?_
    refine J_ixor E (jd dk_X7_game_1 33 rfl) ?_
    refine J_imul E (jd dk_X7_game_1 34 rfl) ?_
    obtain ⟨x19, e20, hf⟩ := jbind hf
    refine J_iald E (jd dk_X7_game_1 35 rfl) e20 ?_
    refine J_aload_n E (jd dk_X7_game_1 36 rfl) rfl 0 rfl ?_
    obtain ⟨x21, e22, hf⟩ := jbind hf
    refine J_getr E (jd dk_X7_game_1 37 rfl) fl_RX7_130 e22 ?_
    refine J_iconst (v := 2) E (jd dk_X7_game_1 38 rfl) rfl ?_
    refine J_iload E (jd dk_X7_game_1 39 rfl) 6 rfl ?_
    refine J_imul E (jd dk_X7_game_1 40 rfl) ?_
    obtain ⟨x23, e24, hf⟩ := jbind hf
    refine J_iald E (jd dk_X7_game_1 41 rfl) e24 ?_
    refine J_icmp_gt (tgt := 225) E (jd dk_X7_game_1 42 rfl) (by decide) (fun c25 => ?_) (fun c25 => ?_)
    · replace hf := jif_t c25 hf
      exact lk_X7_game_b225 E hX hr N hf kb ke0
    · replace hf := jif_f c25 hf
      exact lk_X7_game_b162 E hX hr N hf kb ke0
set_option maxRecDepth 100000 in
set_option maxHeartbeats 4000000 in
theorem lk_X7_game_b118 {G : JG} {X : JX} (E : jE G X (RX7, cX7_game, 9)) (hX : X.2.2.2.1 = jRm 7 0 0) (hr : X.2.2.2.2.2.2.2.2.1.sig.returnType = (some .int)) (N : Nat) {Q : State → Prop} {v0 : Nat} {v3 : Int32} {v4 : Int32} {v5 : Int32} {v6 : Int32} {v7 : Int32} {v8 : Int32} {h : AH}  {q : ((Int32 × Int32 × Int32 × AH) ⊕ ((Int32 × Int32 × AH)))} (hf : f_X7_game_b118 N v0 v3 v4 v5 v6 v7 v8 h = some q) (kb : ∀ s' : Int32 × Int32 × Int32 × AH, q = .inl s' → JW G X (RX7, cX7_game, 9) s'.2.2.2 [(0, .ref v0), (3, .int v3), (4, .int v4), (5, .int v5), (6, .int s'.1), (7, .int s'.2.1), (8, .int s'.2.2.1)] [] 99 0 0 Q) (ke0 : ∀ e : Int32 × Int32 × AH, q = .inr e → JW G X (RX7, cX7_game, 9) e.2.2 [(3, .int v3), (6, .int e.1), (7, .int e.2.1)] [] 231 0 0 Q) : JW G X (RX7, cX7_game, 9) h [(0, .ref v0), (3, .int v3), (4, .int v4), (5, .int v5), (6, .int v6), (7, .int v7), (8, .int v8)] [] 118 0 0 Q := by
  unfold f_X7_game_b118 at hf
  refine J_iload E (jd dk_X7_game_1 18 rfl) 6 rfl ?_
  refine J_iconst (v := 2) E (jd dk_X7_game_1 19 rfl) rfl ?_
  refine J_irem E (jd dk_X7_game_1 20 rfl) (by decide) ?_
  refine J_iconst (v := 1) E (jd dk_X7_game_1 21 rfl) rfl ?_
  refine J_icmp_ne (tgt := 134) E (jd dk_X7_game_1 22 rfl) (by decide) (fun c26 => ?_) (fun c26 => ?_)
  · replace hf := jif_f c26 hf
    exact lk_X7_game_b134 E hX hr N hf kb ke0
  · replace hf := jif_t c26 hf
    refine J_iload E (jd dk_X7_game_1 23 rfl) 3 rfl ?_
    refine J_if_ne (tgt := 134) E (jd dk_X7_game_1 24 rfl) (by decide) (fun c27 => ?_) (fun c27 => ?_)
    · replace hf := jif_f c27 hf
      exact lk_X7_game_b134 E hX hr N hf kb ke0
    · replace hf := jif_t c27 hf
      refine J_goto (tgt := 225) E (jd dk_X7_game_1 25 rfl) (by decide) ?_
      exact lk_X7_game_b225 E hX hr N hf kb ke0
set_option maxRecDepth 100000 in
set_option maxHeartbeats 4000000 in
theorem lk_X7_game_l99 {G : JG} {X : JX} (E : jE G X (RX7, cX7_game, 9)) (hX : X.2.2.2.1 = jRm 7 0 0) (hr : X.2.2.2.2.2.2.2.2.1.sig.returnType = (some .int)) (N : Nat) {Q : State → Prop} {v0 : Nat} {v3 : Int32} {v4 : Int32} {v5 : Int32} {v6 : Int32} {v7 : Int32} {v8 : Int32}  {h : AH} {q : ((Int32 × Int32 × Int32 × AH) ⊕ ((Int32 × Int32 × AH)))} (hf : f_X7_game_l99 N v0 v3 v4 v5 v6 v7 v8 h = some q) (kb : ∀ s' : Int32 × Int32 × Int32 × AH, q = .inl s' → JW G X (RX7, cX7_game, 9) s'.2.2.2 [(0, .ref v0), (3, .int v3), (4, .int v4), (5, .int v5), (6, .int s'.1), (7, .int s'.2.1), (8, .int s'.2.2.1)] [] 99 0 0 Q) (ke0 : ∀ e : Int32 × Int32 × AH, q = .inr e → JW G X (RX7, cX7_game, 9) e.2.2 [(3, .int v3), (6, .int e.1), (7, .int e.2.1)] [] 231 0 0 Q) : JW G X (RX7, cX7_game, 9) h [(0, .ref v0), (3, .int v3), (4, .int v4), (5, .int v5), (6, .int v6), (7, .int v7), (8, .int v8)] [] 99 0 0 Q := by
  unfold f_X7_game_l99 at hf
  refine J_iload E (jd dk_X7_game_1 8 rfl) 6 rfl ?_
  refine J_iconst (v := 4) E (jd dk_X7_game_1 9 rfl) rfl ?_
  refine J_icmp_ge (tgt := 231) E (jd dk_X7_game_1 10 rfl) (by decide) (fun c28 => ?_) (fun c28 => ?_)
  · replace hf := jif_t c28 hf
    refine J_sub [1, 4, 5] rfl ?_
    exact ke0 _ (Option.some.inj hf).symm
  · replace hf := jif_f c28 hf
    refine J_iload E (jd dk_X7_game_1 11 rfl) 6 rfl ?_
    refine J_iconst (v := 2) E (jd dk_X7_game_1 12 rfl) rfl ?_
    refine J_idiv E (jd dk_X7_game_1 13 rfl) (by decide) ?_
    refine J_iconst (v := 1) E (jd dk_X7_game_1 14 rfl) rfl ?_
    refine J_icmp_ne (tgt := 118) E (jd dk_X7_game_1 15 rfl) (by decide) (fun c29 => ?_) (fun c29 => ?_)
    · replace hf := jif_f c29 hf
      exact lk_X7_game_b118 E hX hr N hf kb ke0
    · replace hf := jif_t c29 hf
      refine J_iload E (jd dk_X7_game_1 16 rfl) 2 rfl ?_
      refine J_if_eq (tgt := 225) E (jd dk_X7_game_1 17 rfl) (by decide) (fun c30 => ?_) (fun c30 => ?_)
      · replace hf := jif_t c30 hf
        exact lk_X7_game_b225 E hX hr N hf kb ke0
      · replace hf := jif_f c30 hf
        exact lk_X7_game_b118 E hX hr N hf kb ke0
set_option maxRecDepth 100000 in
set_option maxHeartbeats 4000000 in
theorem lk_X7_game_b99 {G : JG} {X : JX} (E : jE G X (RX7, cX7_game, 9)) (hX : X.2.2.2.1 = jRm 7 0 0) (hr : X.2.2.2.2.2.2.2.2.1.sig.returnType = (some .int)) (N : Nat) {v0 : Nat} {v3 : Int32} {v4 : Int32} {v5 : Int32} {v6 : Int32} {v7 : Int32} {v8 : Int32} {h : AH}  {r : (Int32 × AH)} (hf : f_X7_game_b99 N v0 v3 v4 v5 v6 v7 v8 h = some r) : JW G X (RX7, cX7_game, 9) h [(0, .ref v0), (3, .int v3), (4, .int v4), (5, .int v5), (6, .int v6), (7, .int v7), (8, .int v8)] [] 99 0 0 (jEnd G X (jpi r) 0 0) := by
  unfold f_X7_game_b99 at hf
  obtain ⟨q1, h1, hf⟩ := jbind hf
  refine jloop (P := fun s => JW G X (RX7, cX7_game, 9) s.2.2.2 [(0, .ref v0), (3, .int v3), (4, .int v4), (5, .int v5), (6, .int s.1), (7, .int s.2.1), (8, .int s.2.2.1)] [] 99 0 0 (jEnd G X (jpi r) 0 0)) (Ex := fun (e : Int32 × Int32 × AH) => JW G X (RX7, cX7_game, 9) e.2.2 [(3, .int v3), (6, .int e.1), (7, .int e.2.1)] [] 231 0 0 (jEnd G X (jpi r) 0 0)) (fun s q hs hb hx => lk_X7_game_l99 E hX hr N hs (fun s' hs => hb s' hs) (fun e he => hx e he)) N _ q1 h1 ?_
  generalize q1 = e at hf ⊢
  refine J_iload_n E (jd dk_X7_game_2 33 rfl) rfl 0 rfl ?_
  refine J_if_ne (tgt := 240) E (jd dk_X7_game_2 34 rfl) (by decide) (fun c31 => ?_) (fun c31 => ?_)
  · replace hf := jif_f c31 hf
    refine J_iload E (jd dk_X7_game_2 37 rfl) 2 rfl ?_
    cases hf
    exact J_iret E hr rfl (jd dk_X7_game_2 38 rfl) (Nat.le_refl _) (Nat.le_refl _) ⟨rfl, rfl⟩
  · replace hf := jif_t c31 hf
    refine J_iload E (jd dk_X7_game_2 35 rfl) 1 rfl ?_
    refine J_goto (tgt := 242) E (jd dk_X7_game_2 36 rfl) (by decide) ?_
    cases hf
    exact J_iret E hr rfl (jd dk_X7_game_2 38 rfl) (Nat.le_refl _) (Nat.le_refl _) ⟨rfl, rfl⟩
set_option maxRecDepth 100000 in
set_option maxHeartbeats 4000000 in
theorem lk_X7_game_b82 {G : JG} {X : JX} (E : jE G X (RX7, cX7_game, 9)) (hX : X.2.2.2.1 = jRm 7 0 0) (hr : X.2.2.2.2.2.2.2.2.1.sig.returnType = (some .int)) (N : Nat) {v0 : Nat} {v1 : Int32} {v2 : Int32} {v3 : Int32} {v4 : Int32} {w0 : Int32} {h : AH}  {r : (Int32 × AH)} (hf : f_X7_game_b82 N v0 v1 v2 v3 v4 w0 h = some r) : JW G X (RX7, cX7_game, 9) h [(0, .ref v0), (1, .int v1), (2, .int v2), (3, .int v3), (4, .int v4)] [.int w0] 82 0 0 (jEnd G X (jpi r) 0 0) := by
  unfold f_X7_game_b82 at hf
  refine J_istore (lv' := [(5, .int w0), (0, .ref v0), (1, .int v1), (2, .int v2), (3, .int v3), (4, .int v4)]) E (jd dk_X7_game_0 47 rfl) (by decide) rfl ?_
  refine J_aload_n E (jd dk_X7_game_0 48 rfl) rfl 1 rfl ?_
  refine J_iload_n E (jd dk_X7_game_0 49 rfl) rfl 2 rfl ?_
  refine J_iload_n E (jd dk_X7_game_1 0 rfl) rfl 3 rfl ?_
  obtain ⟨u34, e35, hf⟩ := jbind hf
  obtain ⟨r32, e33, hf⟩ := jbind hf
  refine J_callV E (jd dk_X7_game_1 1 rfl) ml_RX7_446 cal_X7_tellGains e35 rfl (lk_X7_tellGains (jE_g E) (jE_tr E) N e33) rfl (Nat.le_of_ble_eq_true rfl) (jR_le hX (by decide) (by decide)) (jF0 hX) rfl ?_
  rintro _ _ ⟨rfl, rfl⟩
  refine J_iconst (v := 0) E (jd dk_X7_game_1 2 rfl) rfl ?_
  refine J_istore (lv' := [(6, .int 0), (5, .int w0), (0, .ref v0), (1, .int v1), (2, .int v2), (3, .int v3), (4, .int v4)]) E (jd dk_X7_game_1 3 rfl) (by decide) rfl ?_
  refine J_iconst (v := (-1)) E (jd dk_X7_game_1 4 rfl) rfl ?_
  refine J_istore (lv' := [(7, .int ((-1))), (6, .int 0), (5, .int w0), (0, .ref v0), (1, .int v1), (2, .int v2), (3, .int v3), (4, .int v4)]) E (jd dk_X7_game_1 5 rfl) (by decide) rfl ?_
  refine J_iconst (v := 0) E (jd dk_X7_game_1 6 rfl) rfl ?_
  refine J_istore (lv' := [(8, .int 0), (7, .int ((-1))), (6, .int 0), (5, .int w0), (0, .ref v0), (1, .int v1), (2, .int v2), (3, .int v3), (4, .int v4)]) E (jd dk_X7_game_1 7 rfl) (by decide) rfl ?_
  refine J_sub [4, 7, 8, 3, 2, 1, 0] rfl ?_
  exact lk_X7_game_b99 E hX hr N hf
set_option maxRecDepth 100000 in
set_option maxHeartbeats 4000000 in
theorem lk_X7_game_b64 {G : JG} {X : JX} (E : jE G X (RX7, cX7_game, 9)) (hX : X.2.2.2.1 = jRm 7 0 0) (hr : X.2.2.2.2.2.2.2.2.1.sig.returnType = (some .int)) (N : Nat) {v0 : Nat} {v1 : Int32} {v2 : Int32} {v3 : Int32} {w0 : Int32} {h : AH}  {r : (Int32 × AH)} (hf : f_X7_game_b64 N v0 v1 v2 v3 w0 h = some r) : JW G X (RX7, cX7_game, 9) h [(0, .ref v0), (1, .int v1), (2, .int v2), (3, .int v3)] [.int w0] 64 0 0 (jEnd G X (jpi r) 0 0) := by
  unfold f_X7_game_b64 at hf
  refine J_istore (lv' := [(4, .int w0), (0, .ref v0), (1, .int v1), (2, .int v2), (3, .int v3)]) E (jd dk_X7_game_0 37 rfl) (by decide) rfl ?_
  refine J_aload_n E (jd dk_X7_game_0 38 rfl) rfl 1 rfl ?_
  obtain ⟨x36, e37, hf⟩ := jbind hf
  refine J_getr E (jd dk_X7_game_0 39 rfl) fl_RX7_81 e37 ?_
  refine J_iload_n E (jd dk_X7_game_0 40 rfl) rfl 3 rfl ?_
  obtain ⟨x38, e39, hf⟩ := jbind hf
  refine J_iald E (jd dk_X7_game_0 41 rfl) e39 ?_
  refine J_bipush (v := (-2)) E (jd dk_X7_game_0 42 rfl) (by decide) ?_
  refine J_icmp_eq (tgt := 81) E (jd dk_X7_game_0 43 rfl) (by decide) (fun c40 => ?_) (fun c40 => ?_)
  · replace hf := jif_t c40 hf
    refine J_iconst (v := 0) E (jd dk_X7_game_0 46 rfl) rfl ?_
    refine J_sub [1, 2, 3, 4, 0] rfl ?_
    exact lk_X7_game_b82 E hX hr N hf
  · replace hf := jif_f c40 hf
    refine J_iconst (v := 1) E (jd dk_X7_game_0 44 rfl) rfl ?_
    refine J_goto (tgt := 82) E (jd dk_X7_game_0 45 rfl) (by decide) ?_
    refine J_sub [1, 2, 3, 4, 0] rfl ?_
    exact lk_X7_game_b82 E hX hr N hf
set_option maxRecDepth 100000 in
set_option maxHeartbeats 4000000 in
theorem lk_X7_game {G : JG} {l : Launch} (hG : jG G) (htr : l.stackTraces = false) (N : Nat) {h : AH} {a0 : Nat} {a1 : Int32} {a2 : Int32} {a3 : Int32} {r : (Int32 × AH)} (hf : f_X7_game N h a0 a1 a2 a3 = some r) : jMet G l yX7_game cX7_game 9 (some .int) 7 0 0 [.ref a0, .int a1, .int a2, .int a3] h (jpi r) := by
  unfold f_X7_game at hf
  refine jMet_of hG htr (by decide) (Nat.le_of_ble_eq_true rfl) ?_
  intro X E hl9 hr hX _ _
  show JW G X (RX7, cX7_game, 9) h [(0, .ref a0), (1, .int a1), (2, .int a2), (3, .int a3)] [] 0 0 0 (jEnd G X (jpi r) 0 0)
  refine J_aload_n E (jd dk_X7_game_0 0 rfl) rfl 0 rfl ?_
  refine J_iconst (v := 0) E (jd dk_X7_game_0 1 rfl) rfl ?_
  obtain ⟨h41, e42, hf⟩ := jbind hf
  refine J_put E (jd dk_X7_game_0 2 rfl) fl_RX7_151 e42 (fun _ => rfl) (fun _ => rfl) ?_
  refine J_aload_n E (jd dk_X7_game_0 3 rfl) rfl 0 rfl ?_
  refine J_iload_n E (jd dk_X7_game_0 4 rfl) rfl 1 rfl ?_
  obtain ⟨u45, e46, hf⟩ := jbind hf
  obtain ⟨r43, e44, hf⟩ := jbind hf
  refine J_callV E (jd dk_X7_game_0 5 rfl) ml_RX7_382 cal_X7_isJudge e46 rfl (lk_X7_isJudge (jE_g E) (jE_tr E) N e44) rfl (Nat.le_of_ble_eq_true rfl) (jR_le hX (by decide) (by decide)) (jF0 hX) rfl ?_
  rintro _ _ ⟨rfl, rfl⟩
  refine J_if_eq (tgt := 31) E (jd dk_X7_game_0 6 rfl) (by decide) (fun c47 => ?_) (fun c47 => ?_)
  · replace hf := jif_t c47 hf
    refine J_sub [0] rfl ?_
    exact lk_X7_game_b31 E hX hr N hf
  · replace hf := jif_f c47 hf
    refine J_aload_n E (jd dk_X7_game_0 7 rfl) rfl 0 rfl ?_
    refine J_iload_n E (jd dk_X7_game_0 8 rfl) rfl 2 rfl ?_
    obtain ⟨u50, e51, hf⟩ := jbind hf
    obtain ⟨r48, e49, hf⟩ := jbind hf
    refine J_callV E (jd dk_X7_game_0 9 rfl) ml_RX7_382 cal_X7_isJudge e51 rfl (lk_X7_isJudge (jE_g E) (jE_tr E) N e49) rfl (Nat.le_of_ble_eq_true rfl) (jR_le hX (by decide) (by decide)) (jF0 hX) rfl ?_
    rintro _ _ ⟨rfl, rfl⟩
    refine J_if_eq (tgt := 31) E (jd dk_X7_game_0 10 rfl) (by decide) (fun c52 => ?_) (fun c52 => ?_)
    · replace hf := jif_t c52 hf
      refine J_sub [0] rfl ?_
      exact lk_X7_game_b31 E hX hr N hf
    · replace hf := jif_f c52 hf
      refine J_iload_n E (jd dk_X7_game_0 11 rfl) rfl 3 rfl ?_
      refine J_i2l E (jd dk_X7_game_0 12 rfl) ?_
      refine J_lconst (v := 0) E (jd dk_X7_game_0 13 rfl) (by decide) ?_
      refine J_lconst (v := 1) E (jd dk_X7_game_0 14 rfl) (by decide) ?_
      obtain ⟨r53, e54, hf⟩ := jbind hf
      refine J_callS E (jd dk_X7_game_0 15 rfl) ml_RX7_154 cal_X7_isIn (lk_X7_isIn (jE_g E) (jE_tr E) N e54) rfl (Nat.le_of_ble_eq_true rfl) (jR_le hX (by decide) (by decide)) (jF0 hX) rfl ?_
      rintro _ _ ⟨rfl, rfl⟩
      refine J_if_ne (tgt := 37) E (jd dk_X7_game_0 16 rfl) (by decide) (fun c55 => ?_) (fun c55 => ?_)
      · replace hf := jif_f c55 hf
        refine J_iload_n E (jd dk_X7_game_0 21 rfl) rfl 1 rfl ?_
        refine J_iload_n E (jd dk_X7_game_0 22 rfl) rfl 2 rfl ?_
        refine J_icmp_ne (tgt := 48) E (jd dk_X7_game_0 23 rfl) (by decide) (fun c56 => ?_) (fun c56 => ?_)
        · replace hf := jif_f c56 hf
          refine J_aload_n E (jd dk_X7_game_0 28 rfl) rfl 0 rfl ?_
          obtain ⟨x57, e58, hf⟩ := jbind hf
          refine J_getr E (jd dk_X7_game_0 29 rfl) fl_RX7_81 e58 ?_
          refine J_iload_n E (jd dk_X7_game_0 30 rfl) rfl 1 rfl ?_
          obtain ⟨x59, e60, hf⟩ := jbind hf
          refine J_iald E (jd dk_X7_game_0 31 rfl) e60 ?_
          refine J_bipush (v := (-2)) E (jd dk_X7_game_0 32 rfl) (by decide) ?_
          refine J_icmp_eq (tgt := 63) E (jd dk_X7_game_0 33 rfl) (by decide) (fun c61 => ?_) (fun c61 => ?_)
          · replace hf := jif_t c61 hf
            refine J_iconst (v := 0) E (jd dk_X7_game_0 36 rfl) rfl ?_
            exact lk_X7_game_b64 E hX hr N hf
          · replace hf := jif_f c61 hf
            refine J_iconst (v := 1) E (jd dk_X7_game_0 34 rfl) rfl ?_
            refine J_goto (tgt := 64) E (jd dk_X7_game_0 35 rfl) (by decide) ?_
            exact lk_X7_game_b64 E hX hr N hf
        · replace hf := jif_t c56 hf
          refine J_aload_n E (jd dk_X7_game_0 24 rfl) rfl 0 rfl ?_
          refine J_iconst (v := 2) E (jd dk_X7_game_0 25 rfl) rfl ?_
          obtain ⟨u64, e65, hf⟩ := jbind hf
          obtain ⟨r62, e63, hf⟩ := jbind hf
          refine J_callV E (jd dk_X7_game_0 26 rfl) ml_RX7_293 cal_X7_fail e65 rfl (lk_X7_fail (jE_g E) (jE_tr E) N e63) rfl (Nat.le_of_ble_eq_true rfl) (jR_le hX (by decide) (by decide)) (jF0 hX) rfl ?_
          rintro _ _ ⟨rfl, rfl⟩
          cases hf
          exact J_iret E hr rfl (jd dk_X7_game_0 27 rfl) (Nat.le_refl _) (Nat.le_refl _) ⟨rfl, rfl⟩
      · replace hf := jif_t c55 hf
        refine J_sub [0] rfl ?_
        exact lk_X7_game_b31 E hX hr N hf
def f_X7_drawOf (N : Nat) (h : AH) (a0 : Nat) (a1 : Int32) : Option (Int32 × AH) :=
  (jgi 7 h a0 51).bind fun x1 =>
  (jwi 7 h a0 51 ((x1 * 1103515245) + 12345)).bind fun h3 =>
  (jgi 7 h3 a0 51).bind fun x5 =>
  if a1 = 0 then none else
  some (((x5 >>> ((16 : Int32) &&& 31)) &&& 32767) - ((x5 >>> ((16 : Int32) &&& 31)) &&& 32767) / a1 * a1, h3)
set_option maxRecDepth 100000 in
set_option maxHeartbeats 4000000 in
theorem lk_X7_drawOf {G : JG} {l : Launch} (hG : jG G) (htr : l.stackTraces = false) (N : Nat) {h : AH} {a0 : Nat} {a1 : Int32} {r : (Int32 × AH)} (hf : f_X7_drawOf N h a0 a1 = some r) : jMet G l yX7_drawOf cX7_drawOf 2 (some .int) 0 0 0 [.ref a0, .int a1] h (jpi r) := by
  unfold f_X7_drawOf at hf
  refine jMet_of hG htr (by decide) (Nat.le_of_ble_eq_true rfl) ?_
  intro X E hl9 hr hX _ _
  show JW G X (RX7, cX7_drawOf, 2) h [(0, .ref a0), (1, .int a1)] [] 0 0 0 (jEnd G X (jpi r) 0 0)
  refine J_aload_n E (jd dk_X7_drawOf_0 0 rfl) rfl 0 rfl ?_
  refine J_aload_n E (jd dk_X7_drawOf_0 1 rfl) rfl 0 rfl ?_
  obtain ⟨x1, e2, hf⟩ := jbind hf
  refine J_geti E (jd dk_X7_drawOf_0 2 rfl) fl_RX7_449 e2 ?_
  refine J_ldcw (v := 1103515245) E (jd dk_X7_drawOf_0 3 rfl) (jl36_in _ (List.mem_of_getElem? (i := 13) rfl)) ?_
  refine J_imul E (jd dk_X7_drawOf_0 4 rfl) ?_
  refine J_sipush (v := 12345) E (jd dk_X7_drawOf_0 5 rfl) (by decide) ?_
  refine J_iadd E (jd dk_X7_drawOf_0 6 rfl) ?_
  obtain ⟨h3, e4, hf⟩ := jbind hf
  refine J_put E (jd dk_X7_drawOf_0 7 rfl) fl_RX7_449 e4 (fun _ => rfl) (fun _ => rfl) ?_
  refine J_aload_n E (jd dk_X7_drawOf_0 8 rfl) rfl 0 rfl ?_
  obtain ⟨x5, e6, hf⟩ := jbind hf
  refine J_geti E (jd dk_X7_drawOf_0 9 rfl) fl_RX7_449 e6 ?_
  refine J_bipush (v := 16) E (jd dk_X7_drawOf_0 10 rfl) (by decide) ?_
  refine J_ishr E (jd dk_X7_drawOf_0 11 rfl) ?_
  refine J_sipush (v := 32767) E (jd dk_X7_drawOf_0 12 rfl) (by decide) ?_
  refine J_iand E (jd dk_X7_drawOf_0 13 rfl) ?_
  refine J_iload_n E (jd dk_X7_drawOf_0 14 rfl) rfl 1 rfl ?_
  obtain ⟨z7, hf⟩ := jnz hf
  refine J_irem E (jd dk_X7_drawOf_0 15 rfl) z7 ?_
  cases hf
  exact J_iret E hr rfl (jd dk_X7_drawOf_0 16 rfl) (Nat.le_refl _) (Nat.le_refl _) ⟨rfl, rfl⟩
def f_X7_something_b108 (N : Nat) (v0 : Nat) (v1 : Int32) (v2 : Int32) (w0 : Int32) (h : AH) : Option AH :=
  if v1 = 1 then (jgr 7 h v0 28).bind fun x2 =>
  (jal 0 h x2 v2).bind fun x4 =>
  if x4 = ((-2)) then some h
  else (jgr 7 h v0 29).bind fun x7 =>
  (jas 0 h x7 v2 w0).bind fun h9 =>
  some h9
  else some h
def f_X7_something_b89 (N : Nat) (v0 : Nat) (v1 : Int32) (v2 : Int32) (h : AH) : Option AH :=
  if v1 = 1 then (jgr 7 h v0 5).bind fun x12 =>
  (jal 0 h x12 0).bind fun x14 =>
  (jck 7 h v0).bind fun _ =>
  (f_X7_drawOf N h v0 x14).bind fun r16 =>
  f_X7_something_b108 N v0 v1 v2 r16.1 r16.2
  else f_X7_something_b108 N v0 v1 v2 0 h
def f_X7_something_b44 (N : Nat) (v0 : Nat) (v1 : Int32) (h : AH) : Option AH :=
  if 1 < v1 then some h
  else (jgr 7 h v0 5).bind fun x21 =>
  (jal 0 h x21 2).bind fun x23 =>
  if x23 = 0 then some h
  else (jgr 7 h v0 5).bind fun x26 =>
  (jal 0 h x26 2).bind fun x28 =>
  (jck 7 h v0).bind fun _ =>
  (f_X7_drawOf N h v0 x28).bind fun r30 =>
  if v1 = 0 then (jgr 7 r30.2 v0 28).bind fun x35 =>
  (jal 0 r30.2 x35 r30.1).bind fun x37 =>
  if x37 < 0 then f_X7_something_b89 N v0 v1 r30.1 r30.2
  else (jck 7 r30.2 v0).bind fun _ =>
  (f_X7_goBy N r30.2 v0 r30.1 1).bind fun r40 =>
  f_X7_something_b89 N v0 v1 r30.1 r40
  else f_X7_something_b89 N v0 v1 r30.1 r30.2
def f_X7_something (N : Nat) (h : AH) (a0 : Nat) : Option AH :=
  (jck 7 h a0).bind fun _ =>
  (f_X7_drawOf N h a0 6).bind fun r44 =>
  if r44.1 = 2 then (jgr 7 r44.2 a0 5).bind fun x49 =>
  (jal 0 r44.2 x49 1).bind fun x51 =>
  if x51 ≤ 0 then f_X7_something_b44 N a0 r44.1 r44.2
  else (jgr 7 r44.2 a0 5).bind fun x54 =>
  (jal 0 r44.2 x54 1).bind fun x56 =>
  (jck 7 r44.2 a0).bind fun _ =>
  (f_X7_drawOf N r44.2 a0 x56).bind fun r58 =>
  (jgr 7 r58.2 a0 32).bind fun x62 =>
  (jck 7 r58.2 a0).bind fun _ =>
  (f_X7_drawOf N r58.2 a0 8).bind fun r64 =>
  (jas 0 r64.2 x62 r58.1 r64.1).bind fun h68 =>
  f_X7_something_b44 N a0 r44.1 h68
  else f_X7_something_b44 N a0 r44.1 r44.2
set_option maxRecDepth 100000 in
set_option maxHeartbeats 4000000 in
theorem lk_X7_something_b108 {G : JG} {X : JX} (E : jE G X (RX7, cX7_something, 4)) (hX : X.2.2.2.1 = jRm 1 0 0) (hr : X.2.2.2.2.2.2.2.2.1.sig.returnType = none) (N : Nat) {v0 : Nat} {v1 : Int32} {v2 : Int32} {w0 : Int32} {h : AH}  {r : AH} (hf : f_X7_something_b108 N v0 v1 v2 w0 h = some r) : JW G X (RX7, cX7_something, 4) h [(0, .ref v0), (1, .int v1), (2, .int v2)] [.int w0] 108 0 0 (jEnd G X (jpv r) 0 0) := by
  unfold f_X7_something_b108 at hf
  refine J_istore_n (lv' := [(3, .int w0), (0, .ref v0), (1, .int v1), (2, .int v2)]) E (jd dk_X7_something_1 14 rfl) rfl (by decide) rfl ?_
  refine J_iload_n E (jd dk_X7_something_1 15 rfl) rfl 2 rfl ?_
  refine J_iconst (v := 1) E (jd dk_X7_something_1 16 rfl) rfl ?_
  refine J_icmp_ne (tgt := 132) E (jd dk_X7_something_1 17 rfl) (by decide) (fun c1 => ?_) (fun c1 => ?_)
  · replace hf := jif_f c1 hf
    cases hf
    exact J_vret E hr (jd dk_X7_something_1 29 rfl) (Nat.le_refl _) (Nat.le_refl _) ⟨rfl, rfl⟩
  · replace hf := jif_t c1 hf
    refine J_aload_n E (jd dk_X7_something_1 18 rfl) rfl 1 rfl ?_
    obtain ⟨x2, e3, hf⟩ := jbind hf
    refine J_getr E (jd dk_X7_something_1 19 rfl) fl_RX7_81 e3 ?_
    refine J_iload_n E (jd dk_X7_something_1 20 rfl) rfl 3 rfl ?_
    obtain ⟨x4, e5, hf⟩ := jbind hf
    refine J_iald E (jd dk_X7_something_1 21 rfl) e5 ?_
    refine J_bipush (v := (-2)) E (jd dk_X7_something_1 22 rfl) (by decide) ?_
    refine J_icmp_eq (tgt := 132) E (jd dk_X7_something_1 23 rfl) (by decide) (fun c6 => ?_) (fun c6 => ?_)
    · replace hf := jif_t c6 hf
      cases hf
      exact J_vret E hr (jd dk_X7_something_1 29 rfl) (Nat.le_refl _) (Nat.le_refl _) ⟨rfl, rfl⟩
    · replace hf := jif_f c6 hf
      refine J_aload_n E (jd dk_X7_something_1 24 rfl) rfl 1 rfl ?_
      obtain ⟨x7, e8, hf⟩ := jbind hf
      refine J_getr E (jd dk_X7_something_1 25 rfl) fl_RX7_84 e8 ?_
      refine J_iload_n E (jd dk_X7_something_1 26 rfl) rfl 3 rfl ?_
      refine J_iload_n E (jd dk_X7_something_1 27 rfl) rfl 0 rfl ?_
      obtain ⟨h9, e10, hf⟩ := jbind hf
      refine J_iast E (jd dk_X7_something_1 28 rfl) e10 ?_
      cases hf
      exact J_vret E hr (jd dk_X7_something_1 29 rfl) (Nat.le_refl _) (Nat.le_refl _) ⟨rfl, rfl⟩
set_option maxRecDepth 100000 in
set_option maxHeartbeats 4000000 in
theorem lk_X7_something_b89 {G : JG} {X : JX} (E : jE G X (RX7, cX7_something, 4)) (hX : X.2.2.2.1 = jRm 1 0 0) (hr : X.2.2.2.2.2.2.2.2.1.sig.returnType = none) (N : Nat) {v0 : Nat} {v1 : Int32} {v2 : Int32} {h : AH}  {r : AH} (hf : f_X7_something_b89 N v0 v1 v2 h = some r) : JW G X (RX7, cX7_something, 4) h [(0, .ref v0), (1, .int v1), (2, .int v2)] [] 89 0 0 (jEnd G X (jpv r) 0 0) := by
  unfold f_X7_something_b89 at hf
  refine J_iload_n E (jd dk_X7_something_1 3 rfl) rfl 1 rfl ?_
  refine J_iconst (v := 1) E (jd dk_X7_something_1 4 rfl) rfl ?_
  refine J_icmp_ne (tgt := 107) E (jd dk_X7_something_1 5 rfl) (by decide) (fun c11 => ?_) (fun c11 => ?_)
  · replace hf := jif_f c11 hf
    refine J_iconst (v := 0) E (jd dk_X7_something_1 13 rfl) rfl ?_
    exact lk_X7_something_b108 E hX hr N hf
  · replace hf := jif_t c11 hf
    refine J_aload_n E (jd dk_X7_something_1 6 rfl) rfl 0 rfl ?_
    refine J_aload_n E (jd dk_X7_something_1 7 rfl) rfl 0 rfl ?_
    obtain ⟨x12, e13, hf⟩ := jbind hf
    refine J_getr E (jd dk_X7_something_1 8 rfl) fl_RX7_42 e13 ?_
    refine J_iconst (v := 0) E (jd dk_X7_something_1 9 rfl) rfl ?_
    obtain ⟨x14, e15, hf⟩ := jbind hf
    refine J_iald E (jd dk_X7_something_1 10 rfl) e15 ?_
    obtain ⟨u18, e19, hf⟩ := jbind hf
    obtain ⟨r16, e17, hf⟩ := jbind hf
    refine J_callV E (jd dk_X7_something_1 11 rfl) ml_RX7_453 cal_X7_drawOf e19 rfl (lk_X7_drawOf (jE_g E) (jE_tr E) N e17) rfl (Nat.le_of_ble_eq_true rfl) (jR_le hX (by decide) (by decide)) (jF0 hX) rfl ?_
    rintro _ _ ⟨rfl, rfl⟩
    refine J_goto (tgt := 108) E (jd dk_X7_something_1 12 rfl) (by decide) ?_
    exact lk_X7_something_b108 E hX hr N hf
set_option maxRecDepth 100000 in
set_option maxHeartbeats 4000000 in
theorem lk_X7_something_b44 {G : JG} {X : JX} (E : jE G X (RX7, cX7_something, 4)) (hX : X.2.2.2.1 = jRm 1 0 0) (hr : X.2.2.2.2.2.2.2.2.1.sig.returnType = none) (N : Nat) {v0 : Nat} {v1 : Int32} {h : AH}  {r : AH} (hf : f_X7_something_b44 N v0 v1 h = some r) : JW G X (RX7, cX7_something, 4) h [(0, .ref v0), (1, .int v1)] [] 44 0 0 (jEnd G X (jpv r) 0 0) := by
  unfold f_X7_something_b44 at hf
  refine J_iload_n E (jd dk_X7_something_0 26 rfl) rfl 1 rfl ?_
  refine J_iconst (v := 1) E (jd dk_X7_something_0 27 rfl) rfl ?_
  refine J_icmp_gt (tgt := 58) E (jd dk_X7_something_0 28 rfl) (by decide) (fun c20 => ?_) (fun c20 => ?_)
  · replace hf := jif_t c20 hf
    cases hf
    exact J_vret E hr (jd dk_X7_something_0 34 rfl) (Nat.le_refl _) (Nat.le_refl _) ⟨rfl, rfl⟩
  · replace hf := jif_f c20 hf
    refine J_aload_n E (jd dk_X7_something_0 29 rfl) rfl 0 rfl ?_
    obtain ⟨x21, e22, hf⟩ := jbind hf
    refine J_getr E (jd dk_X7_something_0 30 rfl) fl_RX7_42 e22 ?_
    refine J_iconst (v := 2) E (jd dk_X7_something_0 31 rfl) rfl ?_
    obtain ⟨x23, e24, hf⟩ := jbind hf
    refine J_iald E (jd dk_X7_something_0 32 rfl) e24 ?_
    refine J_if_ne (tgt := 59) E (jd dk_X7_something_0 33 rfl) (by decide) (fun c25 => ?_) (fun c25 => ?_)
    · replace hf := jif_f c25 hf
      refine J_aload_n E (jd dk_X7_something_0 35 rfl) rfl 0 rfl ?_
      refine J_aload_n E (jd dk_X7_something_0 36 rfl) rfl 0 rfl ?_
      obtain ⟨x26, e27, hf⟩ := jbind hf
      refine J_getr E (jd dk_X7_something_0 37 rfl) fl_RX7_42 e27 ?_
      refine J_iconst (v := 2) E (jd dk_X7_something_0 38 rfl) rfl ?_
      obtain ⟨x28, e29, hf⟩ := jbind hf
      refine J_iald E (jd dk_X7_something_0 39 rfl) e29 ?_
      obtain ⟨u32, e33, hf⟩ := jbind hf
      obtain ⟨r30, e31, hf⟩ := jbind hf
      refine J_callV E (jd dk_X7_something_0 40 rfl) ml_RX7_453 cal_X7_drawOf e33 rfl (lk_X7_drawOf (jE_g E) (jE_tr E) N e31) rfl (Nat.le_of_ble_eq_true rfl) (jR_le hX (by decide) (by decide)) (jF0 hX) rfl ?_
      rintro _ _ ⟨rfl, rfl⟩
      refine J_istore_n (lv' := [(2, .int r30.1), (0, .ref v0), (1, .int v1)]) E (jd dk_X7_something_0 41 rfl) rfl (by decide) rfl ?_
      refine J_iload_n E (jd dk_X7_something_0 42 rfl) rfl 2 rfl ?_
      refine J_if_ne (tgt := 89) E (jd dk_X7_something_0 43 rfl) (by decide) (fun c34 => ?_) (fun c34 => ?_)
      · replace hf := jif_f c34 hf
        refine J_sub [1, 2, 0] rfl ?_
        exact lk_X7_something_b89 E hX hr N hf
      · replace hf := jif_t c34 hf
        refine J_aload_n E (jd dk_X7_something_0 44 rfl) rfl 1 rfl ?_
        obtain ⟨x35, e36, hf⟩ := jbind hf
        refine J_getr E (jd dk_X7_something_0 45 rfl) fl_RX7_81 e36 ?_
        refine J_iload_n E (jd dk_X7_something_0 46 rfl) rfl 0 rfl ?_
        obtain ⟨x37, e38, hf⟩ := jbind hf
        refine J_iald E (jd dk_X7_something_0 47 rfl) e38 ?_
        refine J_if_lt (tgt := 89) E (jd dk_X7_something_0 48 rfl) (by decide) (fun c39 => ?_) (fun c39 => ?_)
        · replace hf := jif_t c39 hf
          refine J_sub [1, 2, 0] rfl ?_
          exact lk_X7_something_b89 E hX hr N hf
        · replace hf := jif_f c39 hf
          refine J_aload_n E (jd dk_X7_something_0 49 rfl) rfl 1 rfl ?_
          refine J_iload_n E (jd dk_X7_something_1 0 rfl) rfl 0 rfl ?_
          refine J_iconst (v := 1) E (jd dk_X7_something_1 1 rfl) rfl ?_
          obtain ⟨u42, e43, hf⟩ := jbind hf
          obtain ⟨r40, e41, hf⟩ := jbind hf
          refine J_callV E (jd dk_X7_something_1 2 rfl) ml_RX7_347 cal_X7_goBy e43 rfl (lk_X7_goBy (jE_g E) (jE_tr E) N e41) rfl (Nat.le_of_ble_eq_true rfl) (jR_le hX (by decide) (by decide)) (jF0 hX) rfl ?_
          rintro _ _ ⟨rfl, rfl⟩
          refine J_sub [1, 2, 0] rfl ?_
          exact lk_X7_something_b89 E hX hr N hf
    · replace hf := jif_t c25 hf
      cases hf
      exact J_vret E hr (jd dk_X7_something_0 34 rfl) (Nat.le_refl _) (Nat.le_refl _) ⟨rfl, rfl⟩
set_option maxRecDepth 100000 in
set_option maxHeartbeats 4000000 in
theorem lk_X7_something {G : JG} {l : Launch} (hG : jG G) (htr : l.stackTraces = false) (N : Nat) {h : AH} {a0 : Nat} {r : AH} (hf : f_X7_something N h a0 = some r) : jMet G l yX7_something cX7_something 4 none 1 0 0 [.ref a0] h (jpv r) := by
  unfold f_X7_something at hf
  refine jMet_of hG htr (by decide) (Nat.le_of_ble_eq_true rfl) ?_
  intro X E hl9 hr hX _ _
  show JW G X (RX7, cX7_something, 4) h [(0, .ref a0)] [] 0 0 0 (jEnd G X (jpv r) 0 0)
  refine J_aload_n E (jd dk_X7_something_0 0 rfl) rfl 0 rfl ?_
  refine J_bipush (v := 6) E (jd dk_X7_something_0 1 rfl) (by decide) ?_
  obtain ⟨u46, e47, hf⟩ := jbind hf
  obtain ⟨r44, e45, hf⟩ := jbind hf
  refine J_callV E (jd dk_X7_something_0 2 rfl) ml_RX7_453 cal_X7_drawOf e47 rfl (lk_X7_drawOf (jE_g E) (jE_tr E) N e45) rfl (Nat.le_of_ble_eq_true rfl) (jR_le hX (by decide) (by decide)) (jF0 hX) rfl ?_
  rintro _ _ ⟨rfl, rfl⟩
  refine J_istore_n (lv' := [(1, .int r44.1), (0, .ref a0)]) E (jd dk_X7_something_0 3 rfl) rfl (by decide) rfl ?_
  refine J_iload_n E (jd dk_X7_something_0 4 rfl) rfl 0 rfl ?_
  refine J_iconst (v := 2) E (jd dk_X7_something_0 5 rfl) rfl ?_
  refine J_icmp_ne (tgt := 44) E (jd dk_X7_something_0 6 rfl) (by decide) (fun c48 => ?_) (fun c48 => ?_)
  · replace hf := jif_f c48 hf
    refine J_sub [1, 0] rfl ?_
    exact lk_X7_something_b44 E hX hr N hf
  · replace hf := jif_t c48 hf
    refine J_aload_n E (jd dk_X7_something_0 7 rfl) rfl 1 rfl ?_
    obtain ⟨x49, e50, hf⟩ := jbind hf
    refine J_getr E (jd dk_X7_something_0 8 rfl) fl_RX7_42 e50 ?_
    refine J_iconst (v := 1) E (jd dk_X7_something_0 9 rfl) rfl ?_
    obtain ⟨x51, e52, hf⟩ := jbind hf
    refine J_iald E (jd dk_X7_something_0 10 rfl) e52 ?_
    refine J_if_le (tgt := 44) E (jd dk_X7_something_0 11 rfl) (by decide) (fun c53 => ?_) (fun c53 => ?_)
    · replace hf := jif_t c53 hf
      refine J_sub [1, 0] rfl ?_
      exact lk_X7_something_b44 E hX hr N hf
    · replace hf := jif_f c53 hf
      refine J_aload_n E (jd dk_X7_something_0 12 rfl) rfl 1 rfl ?_
      refine J_aload_n E (jd dk_X7_something_0 13 rfl) rfl 1 rfl ?_
      obtain ⟨x54, e55, hf⟩ := jbind hf
      refine J_getr E (jd dk_X7_something_0 14 rfl) fl_RX7_42 e55 ?_
      refine J_iconst (v := 1) E (jd dk_X7_something_0 15 rfl) rfl ?_
      obtain ⟨x56, e57, hf⟩ := jbind hf
      refine J_iald E (jd dk_X7_something_0 16 rfl) e57 ?_
      obtain ⟨u60, e61, hf⟩ := jbind hf
      obtain ⟨r58, e59, hf⟩ := jbind hf
      refine J_callV E (jd dk_X7_something_0 17 rfl) ml_RX7_453 cal_X7_drawOf e61 rfl (lk_X7_drawOf (jE_g E) (jE_tr E) N e59) rfl (Nat.le_of_ble_eq_true rfl) (jR_le hX (by decide) (by decide)) (jF0 hX) rfl ?_
      rintro _ _ ⟨rfl, rfl⟩
      refine J_istore_n (lv' := [(2, .int r58.1), (1, .int r44.1), (0, .ref a0)]) E (jd dk_X7_something_0 18 rfl) rfl (by decide) rfl ?_
      refine J_aload_n E (jd dk_X7_something_0 19 rfl) rfl 2 rfl ?_
      obtain ⟨x62, e63, hf⟩ := jbind hf
      refine J_getr E (jd dk_X7_something_0 20 rfl) fl_RX7_92 e63 ?_
      refine J_iload_n E (jd dk_X7_something_0 21 rfl) rfl 0 rfl ?_
      refine J_aload_n E (jd dk_X7_something_0 22 rfl) rfl 2 rfl ?_
      refine J_bipush (v := 8) E (jd dk_X7_something_0 23 rfl) (by decide) ?_
      obtain ⟨u66, e67, hf⟩ := jbind hf
      obtain ⟨r64, e65, hf⟩ := jbind hf
      refine J_callV E (jd dk_X7_something_0 24 rfl) ml_RX7_453 cal_X7_drawOf e67 rfl (lk_X7_drawOf (jE_g E) (jE_tr E) N e65) rfl (Nat.le_of_ble_eq_true rfl) (jR_le hX (by decide) (by decide)) (jF0 hX) rfl ?_
      rintro _ _ ⟨rfl, rfl⟩
      obtain ⟨h68, e69, hf⟩ := jbind hf
      refine J_iast E (jd dk_X7_something_0 25 rfl) e69 ?_
      refine J_sub [2, 1] rfl ?_
      exact lk_X7_something_b44 E hX hr N hf
def f_X7_years_b142 (N : Nat) (v0 : Nat) (w0 : Int32) (h : AH) : Option (Int32 × AH) :=
  (jgr 7 h v0 41).bind fun x1 =>
  (jck 7 h v0).bind fun _ =>
  (f_X7_unpack N h v0 x1 0).bind fun r3 =>
  some (w0, r3)
def f_X7_years_l89 (N : Nat) (v0 : Nat) (v3 : Int32) (v4 : Int32) (v5 : Int32) (h : AH) : Option ((Int32 × Int32 × AH) ⊕ ((Int32 × AH))) :=
  if 8 ≤ v5 then some (.inr ((v4, h)))
  else (jgr 7 h v0 39).bind fun x8 =>
  (jal 0 h x8 v5).bind fun x10 =>
  some (.inl ((v4 + x10, v5 + 1, h)))
def f_X7_years_b89 (N : Nat) (v0 : Nat) (v3 : Int32) (v4 : Int32) (v5 : Int32) (h : AH) : Option (Int32 × AH) :=
  (itr (fun s => f_X7_years_l89 N v0 v3 s.1 s.2.1 s.2.2) N (v4, v5, h)).bind (fun e => if v3 = 0 then (jgi 7 e.2 v0 40).bind fun x20 =>
  f_X7_years_b142 N v0 x20 e.2
  else if v3 = 1 then (jck 7 e.2 v0).bind fun _ =>
  (f_X7_fairOnes N e.2 v0).bind fun r14 =>
  (f_X7_bitsOf N r14.2 r14.1).bind fun r18 =>
  f_X7_years_b142 N v0 r18.1 r18.2
  else f_X7_years_b142 N v0 e.1 e.2)
def f_X7_years_l62 (N : Nat) (v0 : Nat) (v2 : Int32) (v3 : Int32) (v4 : Int32) (h : AH) : Option ((Int32 × AH) ⊕ ((AH))) :=
  if v2 ≤ v4 then some (.inr h)
  else (jck 7 h v0).bind fun _ =>
  (f_X7_something N h v0).bind fun r23 =>
  (jck 7 r23 v0).bind fun _ =>
  (f_X7_aStepIn N r23 v0 0).bind fun r27 =>
  some (.inl ((v4 + 1, r27)))
def f_X7_years_b62 (N : Nat) (v0 : Nat) (v2 : Int32) (v3 : Int32) (v4 : Int32) (h : AH) : Option (Int32 × AH) :=
  (itr (fun s => f_X7_years_l62 N v0 v2 v3 s.1 s.2) N (v4, h)).bind (fun e => f_X7_years_b89 N v0 v3 0 0 e)
def f_X7_years (N : Nat) (h : AH) (a0 : Nat) (a1 : Int32) (a2 : Int32) (a3 : Int32) : Option (Int32 × AH) :=
  (jwi 7 h a0 4 0).bind fun h31 =>
  (f_X7_isIn N h31 (Int32.toInt64 a3) 0 2).bind fun r33 =>
  if r33.1 = 0 then (jck 7 r33.2 a0).bind fun _ =>
  (f_X7_fail N r33.2 a0 1).bind fun r55 =>
  some (r55.1, r55.2)
  else (f_X7_isIn N r33.2 (Int32.toInt64 a2) 0 60).bind fun r36 =>
  if r36.1 = 0 then (jck 7 r36.2 a0).bind fun _ =>
  (f_X7_fail N r36.2 a0 2).bind fun r51 =>
  some (r51.1, r51.2)
  else (jgr 7 r36.2 a0 41).bind fun x39 =>
  (jck 7 r36.2 a0).bind fun _ =>
  (f_X7_pack N r36.2 a0 x39 0).bind fun r41 =>
  (jck 7 r41 a0).bind fun _ =>
  (f_X7_beginAnew N r41 a0).bind fun r45 =>
  (jwi 7 r45 a0 51 a1).bind fun h49 =>
  f_X7_years_b62 N a0 a2 a3 0 h49
set_option maxRecDepth 100000 in
set_option maxHeartbeats 4000000 in
theorem lk_X7_years_b142 {G : JG} {X : JX} (E : jE G X (RX7, cX7_years, 6)) (hX : X.2.2.2.1 = jRm 5 0 0) (hr : X.2.2.2.2.2.2.2.2.1.sig.returnType = (some .int)) (N : Nat) {v0 : Nat} {w0 : Int32} {h : AH}  {r : (Int32 × AH)} (hf : f_X7_years_b142 N v0 w0 h = some r) : JW G X (RX7, cX7_years, 6) h [(0, .ref v0)] [.int w0] 142 0 0 (jEnd G X (jpi r) 0 0) := by
  unfold f_X7_years_b142 at hf
  refine J_istore (lv' := [(5, .int w0), (0, .ref v0)]) E (jd dk_X7_years_1 24 rfl) (by decide) rfl ?_
  refine J_aload_n E (jd dk_X7_years_1 25 rfl) rfl 1 rfl ?_
  refine J_aload_n E (jd dk_X7_years_1 26 rfl) rfl 1 rfl ?_
  obtain ⟨x1, e2, hf⟩ := jbind hf
  refine J_getr E (jd dk_X7_years_1 27 rfl) fl_RX7_106 e2 ?_
  refine J_iconst (v := 0) E (jd dk_X7_years_1 28 rfl) rfl ?_
  obtain ⟨u5, e6, hf⟩ := jbind hf
  obtain ⟨r3, e4, hf⟩ := jbind hf
  refine J_callV E (jd dk_X7_years_1 29 rfl) ml_RX7_407 cal_X7_unpack e6 rfl (lk_X7_unpack (jE_g E) (jE_tr E) N e4) rfl (Nat.le_of_ble_eq_true rfl) (jR_le hX (by decide) (by decide)) (jF0 hX) rfl ?_
  rintro _ _ ⟨rfl, rfl⟩
  refine J_iload E (jd dk_X7_years_1 30 rfl) 0 rfl ?_
  cases hf
  exact J_iret E hr rfl (jd dk_X7_years_1 31 rfl) (Nat.le_refl _) (Nat.le_refl _) ⟨rfl, rfl⟩
set_option maxRecDepth 100000 in
set_option maxHeartbeats 4000000 in
theorem lk_X7_years_l89 {G : JG} {X : JX} (E : jE G X (RX7, cX7_years, 6)) (hX : X.2.2.2.1 = jRm 5 0 0) (hr : X.2.2.2.2.2.2.2.2.1.sig.returnType = (some .int)) (N : Nat) {Q : State → Prop} {v0 : Nat} {v3 : Int32} {v4 : Int32} {v5 : Int32}  {h : AH} {q : ((Int32 × Int32 × AH) ⊕ ((Int32 × AH)))} (hf : f_X7_years_l89 N v0 v3 v4 v5 h = some q) (kb : ∀ s' : Int32 × Int32 × AH, q = .inl s' → JW G X (RX7, cX7_years, 6) s'.2.2 [(0, .ref v0), (3, .int v3), (4, .int s'.1), (5, .int s'.2.1)] [] 89 0 0 Q) (ke0 : ∀ e : Int32 × AH, q = .inr e → JW G X (RX7, cX7_years, 6) e.2 [(0, .ref v0), (3, .int v3), (4, .int e.1)] [] 114 0 0 Q) : JW G X (RX7, cX7_years, 6) h [(0, .ref v0), (3, .int v3), (4, .int v4), (5, .int v5)] [] 89 0 0 Q := by
  unfold f_X7_years_l89 at hf
  refine J_iload E (jd dk_X7_years_0 49 rfl) 3 rfl ?_
  refine J_bipush (v := 8) E (jd dk_X7_years_1 0 rfl) (by decide) ?_
  refine J_icmp_ge (tgt := 114) E (jd dk_X7_years_1 1 rfl) (by decide) (fun c7 => ?_) (fun c7 => ?_)
  · replace hf := jif_t c7 hf
    refine J_sub [0, 1, 2] rfl ?_
    exact ke0 _ (Option.some.inj hf).symm
  · replace hf := jif_f c7 hf
    refine J_iload E (jd dk_X7_years_1 2 rfl) 2 rfl ?_
    refine J_aload_n E (jd dk_X7_years_1 3 rfl) rfl 0 rfl ?_
    obtain ⟨x8, e9, hf⟩ := jbind hf
    refine J_getr E (jd dk_X7_years_1 4 rfl) fl_RX7_103 e9 ?_
    refine J_iload E (jd dk_X7_years_1 5 rfl) 3 rfl ?_
    obtain ⟨x10, e11, hf⟩ := jbind hf
    refine J_iald E (jd dk_X7_years_1 6 rfl) e11 ?_
    refine J_iadd E (jd dk_X7_years_1 7 rfl) ?_
    refine J_istore (lv' := [(4, .int (v4 + x10)), (0, .ref v0), (3, .int v3), (5, .int v5)]) E (jd dk_X7_years_1 8 rfl) (by decide) rfl ?_
    refine J_iinc (v := v5 + 1) (lv' := [(5, .int (v5 + 1)), (4, .int (v4 + x10)), (0, .ref v0), (3, .int v3)]) E (jd dk_X7_years_1 9 rfl) 3 rfl rfl (by decide) rfl ?_
    refine J_goto (tgt := 89) E (jd dk_X7_years_1 10 rfl) (by decide) ?_
    refine J_sub [2, 3, 1, 0] rfl ?_
    exact kb _ (Option.some.inj hf).symm
set_option maxRecDepth 100000 in
set_option maxHeartbeats 4000000 in
theorem lk_X7_years_b89 {G : JG} {X : JX} (E : jE G X (RX7, cX7_years, 6)) (hX : X.2.2.2.1 = jRm 5 0 0) (hr : X.2.2.2.2.2.2.2.2.1.sig.returnType = (some .int)) (N : Nat) {v0 : Nat} {v3 : Int32} {v4 : Int32} {v5 : Int32} {h : AH}  {r : (Int32 × AH)} (hf : f_X7_years_b89 N v0 v3 v4 v5 h = some r) : JW G X (RX7, cX7_years, 6) h [(0, .ref v0), (3, .int v3), (4, .int v4), (5, .int v5)] [] 89 0 0 (jEnd G X (jpi r) 0 0) := by
  unfold f_X7_years_b89 at hf
  obtain ⟨q1, h1, hf⟩ := jbind hf
  refine jloop (P := fun s => JW G X (RX7, cX7_years, 6) s.2.2 [(0, .ref v0), (3, .int v3), (4, .int s.1), (5, .int s.2.1)] [] 89 0 0 (jEnd G X (jpi r) 0 0)) (Ex := fun (e : Int32 × AH) => JW G X (RX7, cX7_years, 6) e.2 [(0, .ref v0), (3, .int v3), (4, .int e.1)] [] 114 0 0 (jEnd G X (jpi r) 0 0)) (fun s q hs hb hx => lk_X7_years_l89 E hX hr N hs (fun s' hs => hb s' hs) (fun e he => hx e he)) N _ q1 h1 ?_
  generalize q1 = e at hf ⊢
  refine J_iload_n E (jd dk_X7_years_1 11 rfl) rfl 1 rfl ?_
  refine J_if_ne (tgt := 125) E (jd dk_X7_years_1 12 rfl) (by decide) (fun c12 => ?_) (fun c12 => ?_)
  · replace hf := jif_f c12 hf
    refine J_iload_n E (jd dk_X7_years_1 16 rfl) rfl 1 rfl ?_
    refine J_iconst (v := 1) E (jd dk_X7_years_1 17 rfl) rfl ?_
    refine J_icmp_ne (tgt := 140) E (jd dk_X7_years_1 18 rfl) (by decide) (fun c13 => ?_) (fun c13 => ?_)
    · replace hf := jif_f c13 hf
      refine J_iload E (jd dk_X7_years_1 23 rfl) 2 rfl ?_
      refine J_sub [0] rfl ?_
      exact lk_X7_years_b142 E hX hr N hf
    · replace hf := jif_t c13 hf
      refine J_aload_n E (jd dk_X7_years_1 19 rfl) rfl 0 rfl ?_
      obtain ⟨u16, e17, hf⟩ := jbind hf
      obtain ⟨r14, e15, hf⟩ := jbind hf
      refine J_callV E (jd dk_X7_years_1 20 rfl) ml_RX7_365 cal_X7_fairOnes e17 rfl (lk_X7_fairOnes (jE_g E) (jE_tr E) N e15) rfl (Nat.le_of_ble_eq_true rfl) (jR_le hX (by decide) (by decide)) (jF0 hX) rfl ?_
      rintro _ _ ⟨rfl, rfl⟩
      obtain ⟨r18, e19, hf⟩ := jbind hf
      refine J_callS E (jd dk_X7_years_1 21 rfl) ml_RX7_327 cal_X7_bitsOf (lk_X7_bitsOf (jE_g E) (jE_tr E) N e19) rfl (Nat.le_of_ble_eq_true rfl) (jR_le hX (by decide) (by decide)) (jF0 hX) rfl ?_
      rintro _ _ ⟨rfl, rfl⟩
      refine J_goto (tgt := 142) E (jd dk_X7_years_1 22 rfl) (by decide) ?_
      refine J_sub [0] rfl ?_
      exact lk_X7_years_b142 E hX hr N hf
  · replace hf := jif_t c12 hf
    refine J_aload_n E (jd dk_X7_years_1 13 rfl) rfl 0 rfl ?_
    obtain ⟨x20, e21, hf⟩ := jbind hf
    refine J_geti E (jd dk_X7_years_1 14 rfl) fl_RX7_344 e21 ?_
    refine J_goto (tgt := 142) E (jd dk_X7_years_1 15 rfl) (by decide) ?_
    refine J_sub [0] rfl ?_
    exact lk_X7_years_b142 E hX hr N hf
set_option maxRecDepth 100000 in
set_option maxHeartbeats 4000000 in
theorem lk_X7_years_l62 {G : JG} {X : JX} (E : jE G X (RX7, cX7_years, 6)) (hX : X.2.2.2.1 = jRm 5 0 0) (hr : X.2.2.2.2.2.2.2.2.1.sig.returnType = (some .int)) (N : Nat) {Q : State → Prop} {v0 : Nat} {v2 : Int32} {v3 : Int32} {v4 : Int32}  {h : AH} {q : ((Int32 × AH) ⊕ ((AH)))} (hf : f_X7_years_l62 N v0 v2 v3 v4 h = some q) (kb : ∀ s' : Int32 × AH, q = .inl s' → JW G X (RX7, cX7_years, 6) s'.2 [(0, .ref v0), (2, .int v2), (3, .int v3), (4, .int s'.1)] [] 62 0 0 Q) (ke0 : ∀ e : AH, q = .inr e → JW G X (RX7, cX7_years, 6) e [(0, .ref v0), (3, .int v3)] [] 83 0 0 Q) : JW G X (RX7, cX7_years, 6) h [(0, .ref v0), (2, .int v2), (3, .int v3), (4, .int v4)] [] 62 0 0 Q := by
  unfold f_X7_years_l62 at hf
  refine J_iload E (jd dk_X7_years_0 35 rfl) 3 rfl ?_
  refine J_iload_n E (jd dk_X7_years_0 36 rfl) rfl 1 rfl ?_
  refine J_icmp_ge (tgt := 83) E (jd dk_X7_years_0 37 rfl) (by decide) (fun c22 => ?_) (fun c22 => ?_)
  · replace hf := jif_t c22 hf
    refine J_sub [0, 2] rfl ?_
    exact ke0 _ (Option.some.inj hf).symm
  · replace hf := jif_f c22 hf
    refine J_aload_n E (jd dk_X7_years_0 38 rfl) rfl 0 rfl ?_
    obtain ⟨u25, e26, hf⟩ := jbind hf
    obtain ⟨r23, e24, hf⟩ := jbind hf
    refine J_callV E (jd dk_X7_years_0 39 rfl) ml_RX7_456 cal_X7_something e26 rfl (lk_X7_something (jE_g E) (jE_tr E) N e24) rfl (Nat.le_of_ble_eq_true rfl) (jR_le hX (by decide) (by decide)) (jF0 hX) rfl ?_
    rintro _ _ ⟨rfl, rfl⟩
    refine J_aload_n E (jd dk_X7_years_0 40 rfl) rfl 0 rfl ?_
    refine J_iconst (v := 0) E (jd dk_X7_years_0 41 rfl) rfl ?_
    obtain ⟨u29, e30, hf⟩ := jbind hf
    obtain ⟨r27, e28, hf⟩ := jbind hf
    refine J_callV E (jd dk_X7_years_0 42 rfl) ml_RX7_358 cal_X7_aStepIn e30 rfl (lk_X7_aStepIn (jE_g E) (jE_tr E) N e28) rfl (Nat.le_of_ble_eq_true rfl) (jR_le hX (by decide) (by decide)) (jF0 hX) rfl ?_
    rintro _ _ ⟨rfl, rfl⟩
    refine J_iinc (v := v4 + 1) (lv' := [(4, .int (v4 + 1)), (0, .ref v0), (2, .int v2), (3, .int v3)]) E (jd dk_X7_years_0 43 rfl) 3 rfl rfl (by decide) rfl ?_
    refine J_goto (tgt := 62) E (jd dk_X7_years_0 44 rfl) (by decide) ?_
    refine J_sub [1, 2, 3, 0] rfl ?_
    exact kb _ (Option.some.inj hf).symm
set_option maxRecDepth 100000 in
set_option maxHeartbeats 4000000 in
theorem lk_X7_years_b62 {G : JG} {X : JX} (E : jE G X (RX7, cX7_years, 6)) (hX : X.2.2.2.1 = jRm 5 0 0) (hr : X.2.2.2.2.2.2.2.2.1.sig.returnType = (some .int)) (N : Nat) {v0 : Nat} {v2 : Int32} {v3 : Int32} {v4 : Int32} {h : AH}  {r : (Int32 × AH)} (hf : f_X7_years_b62 N v0 v2 v3 v4 h = some r) : JW G X (RX7, cX7_years, 6) h [(0, .ref v0), (2, .int v2), (3, .int v3), (4, .int v4)] [] 62 0 0 (jEnd G X (jpi r) 0 0) := by
  unfold f_X7_years_b62 at hf
  obtain ⟨q1, h1, hf⟩ := jbind hf
  refine jloop (P := fun s => JW G X (RX7, cX7_years, 6) s.2 [(0, .ref v0), (2, .int v2), (3, .int v3), (4, .int s.1)] [] 62 0 0 (jEnd G X (jpi r) 0 0)) (Ex := fun (e : AH) => JW G X (RX7, cX7_years, 6) e [(0, .ref v0), (3, .int v3)] [] 83 0 0 (jEnd G X (jpi r) 0 0)) (fun s q hs hb hx => lk_X7_years_l62 E hX hr N hs (fun s' hs => hb s' hs) (fun e he => hx e he)) N _ q1 h1 ?_
  generalize q1 = e at hf ⊢
  refine J_iconst (v := 0) E (jd dk_X7_years_0 45 rfl) rfl ?_
  refine J_istore (lv' := [(4, .int 0), (0, .ref v0), (3, .int v3)]) E (jd dk_X7_years_0 46 rfl) (by decide) rfl ?_
  refine J_iconst (v := 0) E (jd dk_X7_years_0 47 rfl) rfl ?_
  refine J_istore (lv' := [(5, .int 0), (4, .int 0), (0, .ref v0), (3, .int v3)]) E (jd dk_X7_years_0 48 rfl) (by decide) rfl ?_
  refine J_sub [2, 3, 1, 0] rfl ?_
  exact lk_X7_years_b89 E hX hr N hf
set_option maxRecDepth 100000 in
set_option maxHeartbeats 4000000 in
theorem lk_X7_years {G : JG} {l : Launch} (hG : jG G) (htr : l.stackTraces = false) (N : Nat) {h : AH} {a0 : Nat} {a1 : Int32} {a2 : Int32} {a3 : Int32} {r : (Int32 × AH)} (hf : f_X7_years N h a0 a1 a2 a3 = some r) : jMet G l yX7_years cX7_years 6 (some .int) 5 0 0 [.ref a0, .int a1, .int a2, .int a3] h (jpi r) := by
  unfold f_X7_years at hf
  refine jMet_of hG htr (by decide) (Nat.le_of_ble_eq_true rfl) ?_
  intro X E hl9 hr hX _ _
  show JW G X (RX7, cX7_years, 6) h [(0, .ref a0), (1, .int a1), (2, .int a2), (3, .int a3)] [] 0 0 0 (jEnd G X (jpi r) 0 0)
  refine J_aload_n E (jd dk_X7_years_0 0 rfl) rfl 0 rfl ?_
  refine J_iconst (v := 0) E (jd dk_X7_years_0 1 rfl) rfl ?_
  obtain ⟨h31, e32, hf⟩ := jbind hf
  refine J_put E (jd dk_X7_years_0 2 rfl) fl_RX7_151 e32 (fun _ => rfl) (fun _ => rfl) ?_
  refine J_iload_n E (jd dk_X7_years_0 3 rfl) rfl 3 rfl ?_
  refine J_i2l E (jd dk_X7_years_0 4 rfl) ?_
  refine J_lconst (v := 0) E (jd dk_X7_years_0 5 rfl) (by decide) ?_
  refine J_ldc2 (v := 2) E (jd dk_X7_years_0 6 rfl) (jl30_in _ (List.mem_of_getElem? (i := 13) rfl)) ?_
  obtain ⟨r33, e34, hf⟩ := jbind hf
  refine J_callS E (jd dk_X7_years_0 7 rfl) ml_RX7_154 cal_X7_isIn (lk_X7_isIn (jE_g E) (jE_tr E) N e34) rfl (Nat.le_of_ble_eq_true rfl) (jR_le hX (by decide) (by decide)) (jF0 hX) rfl ?_
  rintro _ _ ⟨rfl, rfl⟩
  refine J_if_ne (tgt := 23) E (jd dk_X7_years_0 8 rfl) (by decide) (fun c35 => ?_) (fun c35 => ?_)
  · replace hf := jif_f c35 hf
    refine J_iload_n E (jd dk_X7_years_0 13 rfl) rfl 2 rfl ?_
    refine J_i2l E (jd dk_X7_years_0 14 rfl) ?_
    refine J_lconst (v := 0) E (jd dk_X7_years_0 15 rfl) (by decide) ?_
    refine J_ldc2 (v := 60) E (jd dk_X7_years_0 16 rfl) (jl32_in _ (List.mem_of_getElem? (i := 12) rfl)) ?_
    obtain ⟨r36, e37, hf⟩ := jbind hf
    refine J_callS E (jd dk_X7_years_0 17 rfl) ml_RX7_154 cal_X7_isIn (lk_X7_isIn (jE_g E) (jE_tr E) N e37) rfl (Nat.le_of_ble_eq_true rfl) (jR_le hX (by decide) (by decide)) (jF0 hX) rfl ?_
    rintro _ _ ⟨rfl, rfl⟩
    refine J_if_ne (tgt := 41) E (jd dk_X7_years_0 18 rfl) (by decide) (fun c38 => ?_) (fun c38 => ?_)
    · replace hf := jif_f c38 hf
      refine J_aload_n E (jd dk_X7_years_0 23 rfl) rfl 0 rfl ?_
      refine J_aload_n E (jd dk_X7_years_0 24 rfl) rfl 0 rfl ?_
      obtain ⟨x39, e40, hf⟩ := jbind hf
      refine J_getr E (jd dk_X7_years_0 25 rfl) fl_RX7_106 e40 ?_
      refine J_iconst (v := 0) E (jd dk_X7_years_0 26 rfl) rfl ?_
      obtain ⟨u43, e44, hf⟩ := jbind hf
      obtain ⟨r41, e42, hf⟩ := jbind hf
      refine J_callV E (jd dk_X7_years_0 27 rfl) ml_RX7_385 cal_X7_pack e44 rfl (lk_X7_pack (jE_g E) (jE_tr E) N e42) rfl (Nat.le_of_ble_eq_true rfl) (jR_le hX (by decide) (by decide)) (jF0 hX) rfl ?_
      rintro _ _ ⟨rfl, rfl⟩
      refine J_aload_n E (jd dk_X7_years_0 28 rfl) rfl 0 rfl ?_
      obtain ⟨u47, e48, hf⟩ := jbind hf
      obtain ⟨r45, e46, hf⟩ := jbind hf
      refine J_callV E (jd dk_X7_years_0 29 rfl) ml_RX7_418 cal_X7_beginAnew e48 rfl (lk_X7_beginAnew (jE_g E) (jE_tr E) N e46) rfl (Nat.le_of_ble_eq_true rfl) (jR_le hX (by decide) (by decide)) (jF0 hX) rfl ?_
      rintro _ _ ⟨rfl, rfl⟩
      refine J_aload_n E (jd dk_X7_years_0 30 rfl) rfl 0 rfl ?_
      refine J_iload_n E (jd dk_X7_years_0 31 rfl) rfl 1 rfl ?_
      obtain ⟨h49, e50, hf⟩ := jbind hf
      refine J_put E (jd dk_X7_years_0 32 rfl) fl_RX7_449 e50 (fun _ => rfl) (fun _ => rfl) ?_
      refine J_iconst (v := 0) E (jd dk_X7_years_0 33 rfl) rfl ?_
      refine J_istore (lv' := [(4, .int 0), (0, .ref a0), (1, .int a1), (2, .int a2), (3, .int a3)]) E (jd dk_X7_years_0 34 rfl) (by decide) rfl ?_
      refine J_sub [1, 3, 4, 0] rfl ?_
      exact lk_X7_years_b62 E hX hr N hf
    · replace hf := jif_t c38 hf
      refine J_aload_n E (jd dk_X7_years_0 19 rfl) rfl 0 rfl ?_
      refine J_iconst (v := 2) E (jd dk_X7_years_0 20 rfl) rfl ?_
      obtain ⟨u53, e54, hf⟩ := jbind hf
      obtain ⟨r51, e52, hf⟩ := jbind hf
      refine J_callV E (jd dk_X7_years_0 21 rfl) ml_RX7_293 cal_X7_fail e54 rfl (lk_X7_fail (jE_g E) (jE_tr E) N e52) rfl (Nat.le_of_ble_eq_true rfl) (jR_le hX (by decide) (by decide)) (jF0 hX) rfl ?_
      rintro _ _ ⟨rfl, rfl⟩
      cases hf
      exact J_iret E hr rfl (jd dk_X7_years_0 22 rfl) (Nat.le_refl _) (Nat.le_refl _) ⟨rfl, rfl⟩
  · replace hf := jif_t c35 hf
    refine J_aload_n E (jd dk_X7_years_0 9 rfl) rfl 0 rfl ?_
    refine J_iconst (v := 1) E (jd dk_X7_years_0 10 rfl) rfl ?_
    obtain ⟨u57, e58, hf⟩ := jbind hf
    obtain ⟨r55, e56, hf⟩ := jbind hf
    refine J_callV E (jd dk_X7_years_0 11 rfl) ml_RX7_293 cal_X7_fail e58 rfl (lk_X7_fail (jE_g E) (jE_tr E) N e56) rfl (Nat.le_of_ble_eq_true rfl) (jR_le hX (by decide) (by decide)) (jF0 hX) rfl ?_
    rintro _ _ ⟨rfl, rfl⟩
    cases hf
    exact J_iret E hr rfl (jd dk_X7_years_0 12 rfl) (Nat.le_refl _) (Nat.le_refl _) ⟨rfl, rfl⟩
def f_X7_copyTo_l2 (N : Nat) (v0 : Nat) (v1 : Nat) (v2 : Int32) (h : AH) : Option ((Int32 × AH) ⊕ ((AH))) :=
  (jln 0 h v0).bind fun x1 =>
  if x1 ≤ v2 then some (.inr h)
  else (jal 0 h v1 v2).bind fun x4 =>
  (jas 0 h v0 v2 x4).bind fun h6 =>
  some (.inl ((v2 + 1, h6)))
def f_X7_copyTo_b2 (N : Nat) (v0 : Nat) (v1 : Nat) (v2 : Int32) (h : AH) : Option AH :=
  (itr (fun s => f_X7_copyTo_l2 N v0 v1 s.1 s.2) N (v2, h)).bind (fun e => some e)
def f_X7_copyTo (N : Nat) (h : AH) (a0 : Nat) (a1 : Nat) : Option AH :=
  f_X7_copyTo_b2 N a0 a1 0 h
set_option maxRecDepth 100000 in
set_option maxHeartbeats 4000000 in
theorem lk_X7_copyTo_l2 {G : JG} {X : JX} (E : jE G X (RX7, cX7_copyTo, 3)) (hX : X.2.2.2.1 = jRm 0 0 0) (hr : X.2.2.2.2.2.2.2.2.1.sig.returnType = none) (N : Nat) {Q : State → Prop} {v0 : Nat} {v1 : Nat} {v2 : Int32}  {h : AH} {q : ((Int32 × AH) ⊕ ((AH)))} (hf : f_X7_copyTo_l2 N v0 v1 v2 h = some q) (kb : ∀ s' : Int32 × AH, q = .inl s' → JW G X (RX7, cX7_copyTo, 3) s'.2 [(0, .ref v0), (1, .ref v1), (2, .int s'.1)] [] 2 0 0 Q) (ke0 : ∀ e : AH, q = .inr e → JW G X (RX7, cX7_copyTo, 3) e [] [] 20 0 0 Q) : JW G X (RX7, cX7_copyTo, 3) h [(0, .ref v0), (1, .ref v1), (2, .int v2)] [] 2 0 0 Q := by
  unfold f_X7_copyTo_l2 at hf
  refine J_iload_n E (jd dk_X7_copyTo_0 2 rfl) rfl 2 rfl ?_
  refine J_aload_n E (jd dk_X7_copyTo_0 3 rfl) rfl 0 rfl ?_
  obtain ⟨x1, e2, hf⟩ := jbind hf
  refine J_alen E (by decide) (jd dk_X7_copyTo_0 4 rfl) e2 ?_
  refine J_icmp_ge (tgt := 20) E (jd dk_X7_copyTo_0 5 rfl) (by decide) (fun c3 => ?_) (fun c3 => ?_)
  · replace hf := jif_t c3 hf
    refine J_sub [] rfl ?_
    exact ke0 _ (Option.some.inj hf).symm
  · replace hf := jif_f c3 hf
    refine J_aload_n E (jd dk_X7_copyTo_0 6 rfl) rfl 0 rfl ?_
    refine J_iload_n E (jd dk_X7_copyTo_0 7 rfl) rfl 2 rfl ?_
    refine J_aload_n E (jd dk_X7_copyTo_0 8 rfl) rfl 1 rfl ?_
    refine J_iload_n E (jd dk_X7_copyTo_0 9 rfl) rfl 2 rfl ?_
    obtain ⟨x4, e5, hf⟩ := jbind hf
    refine J_iald E (jd dk_X7_copyTo_0 10 rfl) e5 ?_
    obtain ⟨h6, e7, hf⟩ := jbind hf
    refine J_iast E (jd dk_X7_copyTo_0 11 rfl) e7 ?_
    refine J_iinc (v := v2 + 1) (lv' := [(2, .int (v2 + 1)), (0, .ref v0), (1, .ref v1)]) E (jd dk_X7_copyTo_0 12 rfl) 2 rfl rfl (by decide) rfl ?_
    refine J_goto (tgt := 2) E (jd dk_X7_copyTo_0 13 rfl) (by decide) ?_
    refine J_sub [1, 2, 0] rfl ?_
    exact kb _ (Option.some.inj hf).symm
set_option maxRecDepth 100000 in
set_option maxHeartbeats 4000000 in
theorem lk_X7_copyTo_b2 {G : JG} {X : JX} (E : jE G X (RX7, cX7_copyTo, 3)) (hX : X.2.2.2.1 = jRm 0 0 0) (hr : X.2.2.2.2.2.2.2.2.1.sig.returnType = none) (N : Nat) {v0 : Nat} {v1 : Nat} {v2 : Int32} {h : AH}  {r : AH} (hf : f_X7_copyTo_b2 N v0 v1 v2 h = some r) : JW G X (RX7, cX7_copyTo, 3) h [(0, .ref v0), (1, .ref v1), (2, .int v2)] [] 2 0 0 (jEnd G X (jpv r) 0 0) := by
  unfold f_X7_copyTo_b2 at hf
  obtain ⟨q1, h1, hf⟩ := jbind hf
  refine jloop (P := fun s => JW G X (RX7, cX7_copyTo, 3) s.2 [(0, .ref v0), (1, .ref v1), (2, .int s.1)] [] 2 0 0 (jEnd G X (jpv r) 0 0)) (Ex := fun (e : AH) => JW G X (RX7, cX7_copyTo, 3) e [] [] 20 0 0 (jEnd G X (jpv r) 0 0)) (fun s q hs hb hx => lk_X7_copyTo_l2 E hX hr N hs (fun s' hs => hb s' hs) (fun e he => hx e he)) N _ q1 h1 ?_
  generalize q1 = e at hf ⊢
  cases hf
  exact J_vret E hr (jd dk_X7_copyTo_0 14 rfl) (Nat.le_refl _) (Nat.le_refl _) ⟨rfl, rfl⟩
set_option maxRecDepth 100000 in
set_option maxHeartbeats 4000000 in
theorem lk_X7_copyTo {G : JG} {l : Launch} (hG : jG G) (htr : l.stackTraces = false) (N : Nat) {h : AH} {a0 : Nat} {a1 : Nat} {r : AH} (hf : f_X7_copyTo N h a0 a1 = some r) : jMet G l yX7_copyTo cX7_copyTo 3 none 0 0 0 [.ref a0, .ref a1] h (jpv r) := by
  unfold f_X7_copyTo at hf
  refine jMet_of hG htr (by decide) (Nat.le_of_ble_eq_true rfl) ?_
  intro X E hl9 hr hX _ _
  show JW G X (RX7, cX7_copyTo, 3) h [(0, .ref a0), (1, .ref a1)] [] 0 0 0 (jEnd G X (jpv r) 0 0)
  refine J_iconst (v := 0) E (jd dk_X7_copyTo_0 0 rfl) rfl ?_
  refine J_istore_n (lv' := [(2, .int 0), (0, .ref a0), (1, .ref a1)]) E (jd dk_X7_copyTo_0 1 rfl) rfl (by decide) rfl ?_
  refine J_sub [1, 2, 0] rfl ?_
  exact lk_X7_copyTo_b2 E hX hr N hf
def f_X7_image (N : Nat) (h : AH) (a0 : Nat) : Option AH :=
  (jwi 7 h a0 4 0).bind fun h1 =>
  (jwz 7 h1 a0 52 1).bind fun h3 =>
  (jgi 7 h3 a0 35).bind fun x5 =>
  (jwi 7 h3 a0 53 x5).bind fun h7 =>
  (jgi 7 h7 a0 36).bind fun x9 =>
  (jwi 7 h7 a0 54 x9).bind fun h11 =>
  (jgr 7 h11 a0 55).bind fun x13 =>
  (jck 7 h11 a0).bind fun _ =>
  (f_X7_pack N h11 a0 x13 0).bind fun r15 =>
  (jgr 7 r15 a0 56).bind fun x19 =>
  (jgr 7 r15 a0 33).bind fun x21 =>
  (f_X7_copyTo N r15 x19 x21).bind fun r23 =>
  (jgr 7 r23 a0 57).bind fun x25 =>
  (jgr 7 r23 a0 43).bind fun x27 =>
  (f_X7_copyTo N r23 x25 x27).bind fun r29 =>
  (jgr 7 r29 a0 58).bind fun x31 =>
  (jgr 7 r29 a0 44).bind fun x33 =>
  (f_X7_copyTo N r29 x31 x33).bind fun r35 =>
  (jgr 7 r35 a0 59).bind fun x37 =>
  (jgr 7 r35 a0 45).bind fun x39 =>
  (f_X7_copyTo N r35 x37 x39).bind fun r41 =>
  (jgr 7 r41 a0 60).bind fun x43 =>
  (jgr 7 r41 a0 14).bind fun x45 =>
  (f_X7_copyTo N r41 x43 x45).bind fun r47 =>
  some r47
set_option maxRecDepth 100000 in
set_option maxHeartbeats 4000000 in
theorem lk_X7_image {G : JG} {l : Launch} (hG : jG G) (htr : l.stackTraces = false) (N : Nat) {h : AH} {a0 : Nat} {r : AH} (hf : f_X7_image N h a0 = some r) : jMet G l yX7_image cX7_image 1 none 1 0 0 [.ref a0] h (jpv r) := by
  unfold f_X7_image at hf
  refine jMet_of hG htr (by decide) (Nat.le_of_ble_eq_true rfl) ?_
  intro X E hl9 hr hX _ _
  show JW G X (RX7, cX7_image, 1) h [(0, .ref a0)] [] 0 0 0 (jEnd G X (jpv r) 0 0)
  refine J_aload_n E (jd dk_X7_image_0 0 rfl) rfl 0 rfl ?_
  refine J_iconst (v := 0) E (jd dk_X7_image_0 1 rfl) rfl ?_
  obtain ⟨h1, e2, hf⟩ := jbind hf
  refine J_put E (jd dk_X7_image_0 2 rfl) fl_RX7_151 e2 (fun _ => rfl) (fun _ => rfl) ?_
  refine J_aload_n E (jd dk_X7_image_0 3 rfl) rfl 0 rfl ?_
  refine J_iconst (v := 1) E (jd dk_X7_image_0 4 rfl) rfl ?_
  obtain ⟨h3, e4, hf⟩ := jbind hf
  refine J_putz E (jd dk_X7_image_0 5 rfl) fl_RX7_314 e4 ?_
  refine J_aload_n E (jd dk_X7_image_0 6 rfl) rfl 0 rfl ?_
  refine J_aload_n E (jd dk_X7_image_0 7 rfl) rfl 0 rfl ?_
  obtain ⟨x5, e6, hf⟩ := jbind hf
  refine J_geti E (jd dk_X7_image_0 8 rfl) fl_RX7_309 e6 ?_
  obtain ⟨h7, e8, hf⟩ := jbind hf
  refine J_put E (jd dk_X7_image_0 9 rfl) fl_RX7_459 e8 (fun _ => rfl) (fun _ => rfl) ?_
  refine J_aload_n E (jd dk_X7_image_0 10 rfl) rfl 0 rfl ?_
  refine J_aload_n E (jd dk_X7_image_0 11 rfl) rfl 0 rfl ?_
  obtain ⟨x9, e10, hf⟩ := jbind hf
  refine J_geti E (jd dk_X7_image_0 12 rfl) fl_RX7_312 e10 ?_
  obtain ⟨h11, e12, hf⟩ := jbind hf
  refine J_put E (jd dk_X7_image_0 13 rfl) fl_RX7_462 e12 (fun _ => rfl) (fun _ => rfl) ?_
  refine J_aload_n E (jd dk_X7_image_0 14 rfl) rfl 0 rfl ?_
  refine J_aload_n E (jd dk_X7_image_0 15 rfl) rfl 0 rfl ?_
  obtain ⟨x13, e14, hf⟩ := jbind hf
  refine J_getr E (jd dk_X7_image_0 16 rfl) fl_RX7_133 e14 ?_
  refine J_iconst (v := 0) E (jd dk_X7_image_0 17 rfl) rfl ?_
  obtain ⟨u17, e18, hf⟩ := jbind hf
  obtain ⟨r15, e16, hf⟩ := jbind hf
  refine J_callV E (jd dk_X7_image_0 18 rfl) ml_RX7_385 cal_X7_pack e18 rfl (lk_X7_pack (jE_g E) (jE_tr E) N e16) rfl (Nat.le_of_ble_eq_true rfl) (jR_le hX (by decide) (by decide)) (jF0 hX) rfl ?_
  rintro _ _ ⟨rfl, rfl⟩
  refine J_aload_n E (jd dk_X7_image_0 19 rfl) rfl 0 rfl ?_
  obtain ⟨x19, e20, hf⟩ := jbind hf
  refine J_getr E (jd dk_X7_image_0 20 rfl) fl_RX7_136 e20 ?_
  refine J_aload_n E (jd dk_X7_image_0 21 rfl) rfl 0 rfl ?_
  obtain ⟨x21, e22, hf⟩ := jbind hf
  refine J_getr E (jd dk_X7_image_0 22 rfl) fl_RX7_94 e22 ?_
  obtain ⟨r23, e24, hf⟩ := jbind hf
  refine J_callS E (jd dk_X7_image_0 23 rfl) ml_RX7_465 cal_X7_copyTo (lk_X7_copyTo (jE_g E) (jE_tr E) N e24) rfl (Nat.le_of_ble_eq_true rfl) (jR_le hX (by decide) (by decide)) (jF0 hX) rfl ?_
  rintro _ _ ⟨rfl, rfl⟩
  refine J_aload_n E (jd dk_X7_image_0 24 rfl) rfl 0 rfl ?_
  obtain ⟨x25, e26, hf⟩ := jbind hf
  refine J_getr E (jd dk_X7_image_0 25 rfl) fl_RX7_139 e26 ?_
  refine J_aload_n E (jd dk_X7_image_0 26 rfl) rfl 0 rfl ?_
  obtain ⟨x27, e28, hf⟩ := jbind hf
  refine J_getr E (jd dk_X7_image_0 27 rfl) fl_RX7_112 e28 ?_
  obtain ⟨r29, e30, hf⟩ := jbind hf
  refine J_callS E (jd dk_X7_image_0 28 rfl) ml_RX7_465 cal_X7_copyTo (lk_X7_copyTo (jE_g E) (jE_tr E) N e30) rfl (Nat.le_of_ble_eq_true rfl) (jR_le hX (by decide) (by decide)) (jF0 hX) rfl ?_
  rintro _ _ ⟨rfl, rfl⟩
  refine J_aload_n E (jd dk_X7_image_0 29 rfl) rfl 0 rfl ?_
  obtain ⟨x31, e32, hf⟩ := jbind hf
  refine J_getr E (jd dk_X7_image_0 30 rfl) fl_RX7_142 e32 ?_
  refine J_aload_n E (jd dk_X7_image_0 31 rfl) rfl 0 rfl ?_
  obtain ⟨x33, e34, hf⟩ := jbind hf
  refine J_getr E (jd dk_X7_image_0 32 rfl) fl_RX7_115 e34 ?_
  obtain ⟨r35, e36, hf⟩ := jbind hf
  refine J_callS E (jd dk_X7_image_0 33 rfl) ml_RX7_465 cal_X7_copyTo (lk_X7_copyTo (jE_g E) (jE_tr E) N e36) rfl (Nat.le_of_ble_eq_true rfl) (jR_le hX (by decide) (by decide)) (jF0 hX) rfl ?_
  rintro _ _ ⟨rfl, rfl⟩
  refine J_aload_n E (jd dk_X7_image_0 34 rfl) rfl 0 rfl ?_
  obtain ⟨x37, e38, hf⟩ := jbind hf
  refine J_getr E (jd dk_X7_image_0 35 rfl) fl_RX7_145 e38 ?_
  refine J_aload_n E (jd dk_X7_image_0 36 rfl) rfl 0 rfl ?_
  obtain ⟨x39, e40, hf⟩ := jbind hf
  refine J_getr E (jd dk_X7_image_0 37 rfl) fl_RX7_118 e40 ?_
  obtain ⟨r41, e42, hf⟩ := jbind hf
  refine J_callS E (jd dk_X7_image_0 38 rfl) ml_RX7_465 cal_X7_copyTo (lk_X7_copyTo (jE_g E) (jE_tr E) N e42) rfl (Nat.le_of_ble_eq_true rfl) (jR_le hX (by decide) (by decide)) (jF0 hX) rfl ?_
  rintro _ _ ⟨rfl, rfl⟩
  refine J_aload_n E (jd dk_X7_image_0 39 rfl) rfl 0 rfl ?_
  obtain ⟨x43, e44, hf⟩ := jbind hf
  refine J_getr E (jd dk_X7_image_0 40 rfl) fl_RX7_148 e44 ?_
  refine J_aload_n E (jd dk_X7_image_0 41 rfl) rfl 0 rfl ?_
  obtain ⟨x45, e46, hf⟩ := jbind hf
  refine J_getr E (jd dk_X7_image_0 42 rfl) fl_RX7_69 e46 ?_
  obtain ⟨r47, e48, hf⟩ := jbind hf
  refine J_callS E (jd dk_X7_image_0 43 rfl) ml_RX7_465 cal_X7_copyTo (lk_X7_copyTo (jE_g E) (jE_tr E) N e48) rfl (Nat.le_of_ble_eq_true rfl) (jR_le hX (by decide) (by decide)) (jF0 hX) rfl ?_
  rintro _ _ ⟨rfl, rfl⟩
  cases hf
  exact J_vret E hr (jd dk_X7_image_0 44 rfl) (Nat.le_refl _) (Nat.le_refl _) ⟨rfl, rfl⟩
def f_X7_restore (N : Nat) (h : AH) (a0 : Nat) : Option (Int32 × AH) :=
  (jwi 7 h a0 4 0).bind fun h1 =>
  (jgi 7 h1 a0 52).bind fun x3 =>
  if x3 = 0 then some (0, h1)
  else (jgi 7 h1 a0 53).bind fun x6 =>
  (jwi 7 h1 a0 35 x6).bind fun h8 =>
  (jgi 7 h8 a0 54).bind fun x10 =>
  (jwi 7 h8 a0 36 x10).bind fun h12 =>
  (jgr 7 h12 a0 55).bind fun x14 =>
  (jck 7 h12 a0).bind fun _ =>
  (f_X7_unpack N h12 a0 x14 0).bind fun r16 =>
  (jgr 7 r16 a0 33).bind fun x20 =>
  (jgr 7 r16 a0 56).bind fun x22 =>
  (f_X7_copyTo N r16 x20 x22).bind fun r24 =>
  (jgr 7 r24 a0 43).bind fun x26 =>
  (jgr 7 r24 a0 57).bind fun x28 =>
  (f_X7_copyTo N r24 x26 x28).bind fun r30 =>
  (jgr 7 r30 a0 44).bind fun x32 =>
  (jgr 7 r30 a0 58).bind fun x34 =>
  (f_X7_copyTo N r30 x32 x34).bind fun r36 =>
  (jgr 7 r36 a0 45).bind fun x38 =>
  (jgr 7 r36 a0 59).bind fun x40 =>
  (f_X7_copyTo N r36 x38 x40).bind fun r42 =>
  (jgr 7 r42 a0 14).bind fun x44 =>
  (jgr 7 r42 a0 60).bind fun x46 =>
  (f_X7_copyTo N r42 x44 x46).bind fun r48 =>
  some (1, r48)
set_option maxRecDepth 100000 in
set_option maxHeartbeats 4000000 in
theorem lk_X7_restore {G : JG} {l : Launch} (hG : jG G) (htr : l.stackTraces = false) (N : Nat) {h : AH} {a0 : Nat} {r : (Int32 × AH)} (hf : f_X7_restore N h a0 = some r) : jMet G l yX7_restore cX7_restore 1 (some .boolean) 1 0 0 [.ref a0] h (jpi r) := by
  unfold f_X7_restore at hf
  refine jMet_of hG htr (by decide) (Nat.le_of_ble_eq_true rfl) ?_
  intro X E hl9 hr hX _ _
  show JW G X (RX7, cX7_restore, 1) h [(0, .ref a0)] [] 0 0 0 (jEnd G X (jpi r) 0 0)
  refine J_aload_n E (jd dk_X7_restore_0 0 rfl) rfl 0 rfl ?_
  refine J_iconst (v := 0) E (jd dk_X7_restore_0 1 rfl) rfl ?_
  obtain ⟨h1, e2, hf⟩ := jbind hf
  refine J_put E (jd dk_X7_restore_0 2 rfl) fl_RX7_151 e2 (fun _ => rfl) (fun _ => rfl) ?_
  refine J_aload_n E (jd dk_X7_restore_0 3 rfl) rfl 0 rfl ?_
  obtain ⟨x3, e4, hf⟩ := jbind hf
  refine J_geti E (jd dk_X7_restore_0 4 rfl) fl_RX7_314 e4 ?_
  refine J_if_ne (tgt := 14) E (jd dk_X7_restore_0 5 rfl) (by decide) (fun c5 => ?_) (fun c5 => ?_)
  · replace hf := jif_f c5 hf
    refine J_aload_n E (jd dk_X7_restore_0 8 rfl) rfl 0 rfl ?_
    refine J_aload_n E (jd dk_X7_restore_0 9 rfl) rfl 0 rfl ?_
    obtain ⟨x6, e7, hf⟩ := jbind hf
    refine J_geti E (jd dk_X7_restore_0 10 rfl) fl_RX7_459 e7 ?_
    obtain ⟨h8, e9, hf⟩ := jbind hf
    refine J_put E (jd dk_X7_restore_0 11 rfl) fl_RX7_309 e9 (fun _ => rfl) (fun _ => rfl) ?_
    refine J_aload_n E (jd dk_X7_restore_0 12 rfl) rfl 0 rfl ?_
    refine J_aload_n E (jd dk_X7_restore_0 13 rfl) rfl 0 rfl ?_
    obtain ⟨x10, e11, hf⟩ := jbind hf
    refine J_geti E (jd dk_X7_restore_0 14 rfl) fl_RX7_462 e11 ?_
    obtain ⟨h12, e13, hf⟩ := jbind hf
    refine J_put E (jd dk_X7_restore_0 15 rfl) fl_RX7_312 e13 (fun _ => rfl) (fun _ => rfl) ?_
    refine J_aload_n E (jd dk_X7_restore_0 16 rfl) rfl 0 rfl ?_
    refine J_aload_n E (jd dk_X7_restore_0 17 rfl) rfl 0 rfl ?_
    obtain ⟨x14, e15, hf⟩ := jbind hf
    refine J_getr E (jd dk_X7_restore_0 18 rfl) fl_RX7_133 e15 ?_
    refine J_iconst (v := 0) E (jd dk_X7_restore_0 19 rfl) rfl ?_
    obtain ⟨u18, e19, hf⟩ := jbind hf
    obtain ⟨r16, e17, hf⟩ := jbind hf
    refine J_callV E (jd dk_X7_restore_0 20 rfl) ml_RX7_407 cal_X7_unpack e19 rfl (lk_X7_unpack (jE_g E) (jE_tr E) N e17) rfl (Nat.le_of_ble_eq_true rfl) (jR_le hX (by decide) (by decide)) (jF0 hX) rfl ?_
    rintro _ _ ⟨rfl, rfl⟩
    refine J_aload_n E (jd dk_X7_restore_0 21 rfl) rfl 0 rfl ?_
    obtain ⟨x20, e21, hf⟩ := jbind hf
    refine J_getr E (jd dk_X7_restore_0 22 rfl) fl_RX7_94 e21 ?_
    refine J_aload_n E (jd dk_X7_restore_0 23 rfl) rfl 0 rfl ?_
    obtain ⟨x22, e23, hf⟩ := jbind hf
    refine J_getr E (jd dk_X7_restore_0 24 rfl) fl_RX7_136 e23 ?_
    obtain ⟨r24, e25, hf⟩ := jbind hf
    refine J_callS E (jd dk_X7_restore_0 25 rfl) ml_RX7_465 cal_X7_copyTo (lk_X7_copyTo (jE_g E) (jE_tr E) N e25) rfl (Nat.le_of_ble_eq_true rfl) (jR_le hX (by decide) (by decide)) (jF0 hX) rfl ?_
    rintro _ _ ⟨rfl, rfl⟩
    refine J_aload_n E (jd dk_X7_restore_0 26 rfl) rfl 0 rfl ?_
    obtain ⟨x26, e27, hf⟩ := jbind hf
    refine J_getr E (jd dk_X7_restore_0 27 rfl) fl_RX7_112 e27 ?_
    refine J_aload_n E (jd dk_X7_restore_0 28 rfl) rfl 0 rfl ?_
    obtain ⟨x28, e29, hf⟩ := jbind hf
    refine J_getr E (jd dk_X7_restore_0 29 rfl) fl_RX7_139 e29 ?_
    obtain ⟨r30, e31, hf⟩ := jbind hf
    refine J_callS E (jd dk_X7_restore_0 30 rfl) ml_RX7_465 cal_X7_copyTo (lk_X7_copyTo (jE_g E) (jE_tr E) N e31) rfl (Nat.le_of_ble_eq_true rfl) (jR_le hX (by decide) (by decide)) (jF0 hX) rfl ?_
    rintro _ _ ⟨rfl, rfl⟩
    refine J_aload_n E (jd dk_X7_restore_0 31 rfl) rfl 0 rfl ?_
    obtain ⟨x32, e33, hf⟩ := jbind hf
    refine J_getr E (jd dk_X7_restore_0 32 rfl) fl_RX7_115 e33 ?_
    refine J_aload_n E (jd dk_X7_restore_0 33 rfl) rfl 0 rfl ?_
    obtain ⟨x34, e35, hf⟩ := jbind hf
    refine J_getr E (jd dk_X7_restore_0 34 rfl) fl_RX7_142 e35 ?_
    obtain ⟨r36, e37, hf⟩ := jbind hf
    refine J_callS E (jd dk_X7_restore_0 35 rfl) ml_RX7_465 cal_X7_copyTo (lk_X7_copyTo (jE_g E) (jE_tr E) N e37) rfl (Nat.le_of_ble_eq_true rfl) (jR_le hX (by decide) (by decide)) (jF0 hX) rfl ?_
    rintro _ _ ⟨rfl, rfl⟩
    refine J_aload_n E (jd dk_X7_restore_0 36 rfl) rfl 0 rfl ?_
    obtain ⟨x38, e39, hf⟩ := jbind hf
    refine J_getr E (jd dk_X7_restore_0 37 rfl) fl_RX7_118 e39 ?_
    refine J_aload_n E (jd dk_X7_restore_0 38 rfl) rfl 0 rfl ?_
    obtain ⟨x40, e41, hf⟩ := jbind hf
    refine J_getr E (jd dk_X7_restore_0 39 rfl) fl_RX7_145 e41 ?_
    obtain ⟨r42, e43, hf⟩ := jbind hf
    refine J_callS E (jd dk_X7_restore_0 40 rfl) ml_RX7_465 cal_X7_copyTo (lk_X7_copyTo (jE_g E) (jE_tr E) N e43) rfl (Nat.le_of_ble_eq_true rfl) (jR_le hX (by decide) (by decide)) (jF0 hX) rfl ?_
    rintro _ _ ⟨rfl, rfl⟩
    refine J_aload_n E (jd dk_X7_restore_0 41 rfl) rfl 0 rfl ?_
    obtain ⟨x44, e45, hf⟩ := jbind hf
    refine J_getr E (jd dk_X7_restore_0 42 rfl) fl_RX7_69 e45 ?_
    refine J_aload_n E (jd dk_X7_restore_0 43 rfl) rfl 0 rfl ?_
    obtain ⟨x46, e47, hf⟩ := jbind hf
    refine J_getr E (jd dk_X7_restore_0 44 rfl) fl_RX7_148 e47 ?_
    obtain ⟨r48, e49, hf⟩ := jbind hf
    refine J_callS E (jd dk_X7_restore_0 45 rfl) ml_RX7_465 cal_X7_copyTo (lk_X7_copyTo (jE_g E) (jE_tr E) N e49) rfl (Nat.le_of_ble_eq_true rfl) (jR_le hX (by decide) (by decide)) (jF0 hX) rfl ?_
    rintro _ _ ⟨rfl, rfl⟩
    refine J_iconst (v := 1) E (jd dk_X7_restore_0 46 rfl) rfl ?_
    cases hf
    exact J_iret E hr rfl (jd dk_X7_restore_0 47 rfl) (Nat.le_refl _) (Nat.le_refl _) ⟨rfl, rfl⟩
  · replace hf := jif_t c5 hf
    refine J_iconst (v := 0) E (jd dk_X7_restore_0 6 rfl) rfl ?_
    cases hf
    exact J_iret E hr rfl (jd dk_X7_restore_0 7 rfl) (Nat.le_refl _) (Nat.le_refl _) ⟨rfl, rfl⟩
