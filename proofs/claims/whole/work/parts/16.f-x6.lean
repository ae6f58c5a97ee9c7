def f_X6_putFour_l3 (N : Nat) (v0 : Nat) (v1 : Int32) (v2 : Int32) (h : AH) : Option ((Int32 × AH) ⊕ ((AH))) :=
  if v2 < 0 then some (.inr h)
  else (jgi 6 h v0 1).bind fun x2 =>
  if 700 ≤ x2 then some (.inr h)
  else (jgr 6 h v0 0).bind fun x5 =>
  (jgi 6 h v0 1).bind fun x7 =>
  (jas 1 h x5 x7 (vp_nar .byte ((Int32.toInt8 (v1 >>> (v2 &&& 31))).toInt32))).bind fun h9 =>
  (jgi 6 h9 v0 1).bind fun x11 =>
  (jwi 6 h9 v0 1 (x11 + 1)).bind fun h13 =>
  some (.inl ((v2 + (-8), h13)))
def f_X6_putFour_b3 (N : Nat) (v0 : Nat) (v1 : Int32) (v2 : Int32) (h : AH) : Option AH :=
  (itr (fun s => f_X6_putFour_l3 N v0 v1 s.1 s.2) N (v2, h)).bind (fun e => some e)
def f_X6_putFour (N : Nat) (h : AH) (a0 : Nat) (a1 : Int32) : Option AH :=
  f_X6_putFour_b3 N a0 a1 24 h
set_option maxRecDepth 100000 in
set_option maxHeartbeats 4000000 in
theorem lk_X6_putFour_l3 {G : JG} {X : JX} (E : jE G X (RX6, cX6_putFour, 3)) (hX : X.2.2.2.1 = jRm 0 0 0) (hr : X.2.2.2.2.2.2.2.2.1.sig.returnType = none) (N : Nat) {Q : State → Prop} {v0 : Nat} {v1 : Int32} {v2 : Int32}  {h : AH} {q : ((Int32 × AH) ⊕ ((AH)))} (hf : f_X6_putFour_l3 N v0 v1 v2 h = some q) (kb : ∀ s' : Int32 × AH, q = .inl s' → JW G X (RX6, cX6_putFour, 3) s'.2 [(0, .ref v0), (1, .int v1), (2, .int s'.1)] [] 3 0 0 Q) (ke0 : ∀ e : AH, q = .inr e → JW G X (RX6, cX6_putFour, 3) e [] [] 46 0 0 Q) : JW G X (RX6, cX6_putFour, 3) h [(0, .ref v0), (1, .int v1), (2, .int v2)] [] 3 0 0 Q := by
  unfold f_X6_putFour_l3 at hf
  refine J_iload_n E (jd dk_X6_putFour_0 2 rfl) rfl 2 rfl ?_
  refine J_if_lt (tgt := 46) E (jd dk_X6_putFour_0 3 rfl) (by decide) (fun c1 => ?_) (fun c1 => ?_)
  · replace hf := jif_t c1 hf
    refine J_sub [] rfl ?_
    exact ke0 _ (Option.some.inj hf).symm
  · replace hf := jif_f c1 hf
    refine J_aload_n E (jd dk_X6_putFour_0 4 rfl) rfl 0 rfl ?_
    obtain ⟨x2, e3, hf⟩ := jbind hf
    refine J_geti E (jd dk_X6_putFour_0 5 rfl) fl_RX6_13 e3 ?_
    refine J_sipush (v := 700) E (jd dk_X6_putFour_0 6 rfl) (by decide) ?_
    refine J_icmp_ge (tgt := 46) E (jd dk_X6_putFour_0 7 rfl) (by decide) (fun c4 => ?_) (fun c4 => ?_)
    · replace hf := jif_t c4 hf
      refine J_sub [] rfl ?_
      exact ke0 _ (Option.some.inj hf).symm
    · replace hf := jif_f c4 hf
      refine J_aload_n E (jd dk_X6_putFour_0 8 rfl) rfl 0 rfl ?_
      obtain ⟨x5, e6, hf⟩ := jbind hf
      refine J_getr E (jd dk_X6_putFour_0 9 rfl) fl_RX6_9 e6 ?_
      refine J_aload_n E (jd dk_X6_putFour_0 10 rfl) rfl 0 rfl ?_
      obtain ⟨x7, e8, hf⟩ := jbind hf
      refine J_geti E (jd dk_X6_putFour_0 11 rfl) fl_RX6_13 e8 ?_
      refine J_iload_n E (jd dk_X6_putFour_0 12 rfl) rfl 1 rfl ?_
      refine J_iload_n E (jd dk_X6_putFour_0 13 rfl) rfl 2 rfl ?_
      refine J_ishr E (jd dk_X6_putFour_0 14 rfl) ?_
      refine J_i2b E (jd dk_X6_putFour_0 15 rfl) ?_
      obtain ⟨h9, e10, hf⟩ := jbind hf
      refine J_bast E (jd dk_X6_putFour_0 16 rfl) e10 ?_
      refine J_aload_n E (jd dk_X6_putFour_0 17 rfl) rfl 0 rfl ?_
      refine J_dup E (jd dk_X6_putFour_0 18 rfl) rfl ?_
      obtain ⟨x11, e12, hf⟩ := jbind hf
      refine J_geti E (jd dk_X6_putFour_0 19 rfl) fl_RX6_13 e12 ?_
      refine J_iconst (v := 1) E (jd dk_X6_putFour_0 20 rfl) rfl ?_
      refine J_iadd E (jd dk_X6_putFour_0 21 rfl) ?_
      obtain ⟨h13, e14, hf⟩ := jbind hf
      refine J_put E (jd dk_X6_putFour_0 22 rfl) fl_RX6_13 e14 (fun _ => rfl) (fun _ => rfl) ?_
      refine J_iinc (v := v2 + (-8)) (lv' := [(2, .int (v2 + (-8))), (0, .ref v0), (1, .int v1)]) E (jd dk_X6_putFour_0 23 rfl) 2 rfl rfl (by decide) rfl ?_
      refine J_goto (tgt := 3) E (jd dk_X6_putFour_0 24 rfl) (by decide) ?_
      refine J_sub [1, 2, 0] rfl ?_
      exact kb _ (Option.some.inj hf).symm
set_option maxRecDepth 100000 in
set_option maxHeartbeats 4000000 in
theorem lk_X6_putFour_b3 {G : JG} {X : JX} (E : jE G X (RX6, cX6_putFour, 3)) (hX : X.2.2.2.1 = jRm 0 0 0) (hr : X.2.2.2.2.2.2.2.2.1.sig.returnType = none) (N : Nat) {v0 : Nat} {v1 : Int32} {v2 : Int32} {h : AH}  {r : AH} (hf : f_X6_putFour_b3 N v0 v1 v2 h = some r) : JW G X (RX6, cX6_putFour, 3) h [(0, .ref v0), (1, .int v1), (2, .int v2)] [] 3 0 0 (jEnd G X (jpv r) 0 0) := by
  unfold f_X6_putFour_b3 at hf
  obtain ⟨q1, h1, hf⟩ := jbind hf
  refine jloop (P := fun s => JW G X (RX6, cX6_putFour, 3) s.2 [(0, .ref v0), (1, .int v1), (2, .int s.1)] [] 3 0 0 (jEnd G X (jpv r) 0 0)) (Ex := fun (e : AH) => JW G X (RX6, cX6_putFour, 3) e [] [] 46 0 0 (jEnd G X (jpv r) 0 0)) (fun s q hs hb hx => lk_X6_putFour_l3 E hX hr N hs (fun s' hs => hb s' hs) (fun e he => hx e he)) N _ q1 h1 ?_
  generalize q1 = e at hf ⊢
  cases hf
  exact J_vret E hr (jd dk_X6_putFour_0 25 rfl) (Nat.le_refl _) (Nat.le_refl _) ⟨rfl, rfl⟩
set_option maxRecDepth 100000 in
set_option maxHeartbeats 4000000 in
theorem lk_X6_putFour {G : JG} {l : Launch} (hG : jG G) (htr : l.stackTraces = false) (N : Nat) {h : AH} {a0 : Nat} {a1 : Int32} {r : AH} (hf : f_X6_putFour N h a0 a1 = some r) : jMet G l yX6_putFour cX6_putFour 3 none 0 0 0 [.ref a0, .int a1] h (jpv r) := by
  unfold f_X6_putFour at hf
  refine jMet_of hG htr (by decide) (Nat.le_of_ble_eq_true rfl) ?_
  intro X E hl9 hr hX _ _
  show JW G X (RX6, cX6_putFour, 3) h [(0, .ref a0), (1, .int a1)] [] 0 0 0 (jEnd G X (jpv r) 0 0)
  refine J_bipush (v := 24) E (jd dk_X6_putFour_0 0 rfl) (by decide) ?_
  refine J_istore_n (lv' := [(2, .int 24), (0, .ref a0), (1, .int a1)]) E (jd dk_X6_putFour_0 1 rfl) rfl (by decide) rfl ?_
  refine J_sub [1, 2, 0] rfl ?_
  exact lk_X6_putFour_b3 E hX hr N hf
def f_X6_feed (N : Nat) (h : AH) (a0 : Nat) (a1 : Int32) (a2 : Int32) (a3 : Int32) (a4 : Int32) (a5 : Int32) : Option (Int32 × AH) :=
  (jgi 6 h a0 1).bind fun x1 =>
  if (x1 + 20) ≤ 700 then (jck 6 h a0).bind fun _ =>
  (f_X6_putFour N h a0 a1).bind fun r4 =>
  (jck 6 r4 a0).bind fun _ =>
  (f_X6_putFour N r4 a0 a2).bind fun r8 =>
  (jck 6 r8 a0).bind fun _ =>
  (f_X6_putFour N r8 a0 a3).bind fun r12 =>
  (jck 6 r12 a0).bind fun _ =>
  (f_X6_putFour N r12 a0 a4).bind fun r16 =>
  (jck 6 r16 a0).bind fun _ =>
  (f_X6_putFour N r16 a0 a5).bind fun r20 =>
  (jgi 6 r20 a0 1).bind fun x24 =>
  some (x24, r20)
  else some ((-1), h)
set_option maxRecDepth 100000 in
set_option maxHeartbeats 4000000 in
theorem lk_X6_feed {G : JG} {l : Launch} (hG : jG G) (htr : l.stackTraces = false) (N : Nat) {h : AH} {a0 : Nat} {a1 : Int32} {a2 : Int32} {a3 : Int32} {a4 : Int32} {a5 : Int32} {r : (Int32 × AH)} (hf : f_X6_feed N h a0 a1 a2 a3 a4 a5 = some r) : jMet G l yX6_feed cX6_feed 6 (some .int) 1 0 0 [.ref a0, .int a1, .int a2, .int a3, .int a4, .int a5] h (jpi r) := by
  unfold f_X6_feed at hf
  refine jMet_of hG htr (by decide) (Nat.le_of_ble_eq_true rfl) ?_
  intro X E hl9 hr hX _ _
  show JW G X (RX6, cX6_feed, 6) h [(0, .ref a0), (1, .int a1), (2, .int a2), (3, .int a3), (4, .int a4), (5, .int a5)] [] 0 0 0 (jEnd G X (jpi r) 0 0)
  refine J_aload_n E (jd dk_X6_feed_0 0 rfl) rfl 0 rfl ?_
  obtain ⟨x1, e2, hf⟩ := jbind hf
  refine J_geti E (jd dk_X6_feed_0 1 rfl) fl_RX6_13 e2 ?_
  refine J_bipush (v := 20) E (jd dk_X6_feed_0 2 rfl) (by decide) ?_
  refine J_iadd E (jd dk_X6_feed_0 3 rfl) ?_
  refine J_sipush (v := 700) E (jd dk_X6_feed_0 4 rfl) (by decide) ?_
  refine J_icmp_le (tgt := 15) E (jd dk_X6_feed_0 5 rfl) (by decide) (fun c3 => ?_) (fun c3 => ?_)
  · replace hf := jif_t c3 hf
    refine J_aload_n E (jd dk_X6_feed_0 8 rfl) rfl 0 rfl ?_
    refine J_iload_n E (jd dk_X6_feed_0 9 rfl) rfl 1 rfl ?_
    obtain ⟨u6, e7, hf⟩ := jbind hf
    obtain ⟨r4, e5, hf⟩ := jbind hf
    refine J_callV E (jd dk_X6_feed_0 10 rfl) ml_RX6_76 cal_X6_putFour e7 rfl (lk_X6_putFour (jE_g E) (jE_tr E) N e5) rfl (Nat.le_of_ble_eq_true rfl) (jR_le hX (by decide) (by decide)) (jF0 hX) rfl ?_
    rintro _ _ ⟨rfl, rfl⟩
    refine J_aload_n E (jd dk_X6_feed_0 11 rfl) rfl 0 rfl ?_
    refine J_iload_n E (jd dk_X6_feed_0 12 rfl) rfl 2 rfl ?_
    obtain ⟨u10, e11, hf⟩ := jbind hf
    obtain ⟨r8, e9, hf⟩ := jbind hf
    refine J_callV E (jd dk_X6_feed_0 13 rfl) ml_RX6_76 cal_X6_putFour e11 rfl (lk_X6_putFour (jE_g E) (jE_tr E) N e9) rfl (Nat.le_of_ble_eq_true rfl) (jR_le hX (by decide) (by decide)) (jF0 hX) rfl ?_
    rintro _ _ ⟨rfl, rfl⟩
    refine J_aload_n E (jd dk_X6_feed_0 14 rfl) rfl 0 rfl ?_
    refine J_iload_n E (jd dk_X6_feed_0 15 rfl) rfl 3 rfl ?_
    obtain ⟨u14, e15, hf⟩ := jbind hf
    obtain ⟨r12, e13, hf⟩ := jbind hf
    refine J_callV E (jd dk_X6_feed_0 16 rfl) ml_RX6_76 cal_X6_putFour e15 rfl (lk_X6_putFour (jE_g E) (jE_tr E) N e13) rfl (Nat.le_of_ble_eq_true rfl) (jR_le hX (by decide) (by decide)) (jF0 hX) rfl ?_
    rintro _ _ ⟨rfl, rfl⟩
    refine J_aload_n E (jd dk_X6_feed_0 17 rfl) rfl 0 rfl ?_
    refine J_iload E (jd dk_X6_feed_0 18 rfl) 4 rfl ?_
    obtain ⟨u18, e19, hf⟩ := jbind hf
    obtain ⟨r16, e17, hf⟩ := jbind hf
    refine J_callV E (jd dk_X6_feed_0 19 rfl) ml_RX6_76 cal_X6_putFour e19 rfl (lk_X6_putFour (jE_g E) (jE_tr E) N e17) rfl (Nat.le_of_ble_eq_true rfl) (jR_le hX (by decide) (by decide)) (jF0 hX) rfl ?_
    rintro _ _ ⟨rfl, rfl⟩
    refine J_aload_n E (jd dk_X6_feed_0 20 rfl) rfl 0 rfl ?_
    refine J_iload E (jd dk_X6_feed_0 21 rfl) 5 rfl ?_
    obtain ⟨u22, e23, hf⟩ := jbind hf
    obtain ⟨r20, e21, hf⟩ := jbind hf
    refine J_callV E (jd dk_X6_feed_0 22 rfl) ml_RX6_76 cal_X6_putFour e23 rfl (lk_X6_putFour (jE_g E) (jE_tr E) N e21) rfl (Nat.le_of_ble_eq_true rfl) (jR_le hX (by decide) (by decide)) (jF0 hX) rfl ?_
    rintro _ _ ⟨rfl, rfl⟩
    refine J_aload_n E (jd dk_X6_feed_0 23 rfl) rfl 0 rfl ?_
    obtain ⟨x24, e25, hf⟩ := jbind hf
    refine J_geti E (jd dk_X6_feed_0 24 rfl) fl_RX6_13 e25 ?_
    cases hf
    exact J_iret E hr rfl (jd dk_X6_feed_0 25 rfl) (Nat.le_refl _) (Nat.le_refl _) ⟨rfl, rfl⟩
  · replace hf := jif_f c3 hf
    refine J_iconst (v := (-1)) E (jd dk_X6_feed_0 6 rfl) rfl ?_
    cases hf
    exact J_iret E hr rfl (jd dk_X6_feed_0 7 rfl) (Nat.le_refl _) (Nat.le_refl _) ⟨rfl, rfl⟩
def f_X6_fault (N : Nat) (h : AH) (a0 : Nat) : Option (Int32 × AH) :=
  (jgi 6 h a0 2).bind fun x1 =>
  some (x1, h)
set_option maxRecDepth 100000 in
set_option maxHeartbeats 4000000 in
theorem lk_X6_fault {G : JG} {l : Launch} (hG : jG G) (htr : l.stackTraces = false) (N : Nat) {h : AH} {a0 : Nat} {r : (Int32 × AH)} (hf : f_X6_fault N h a0 = some r) : jMet G l yX6_fault cX6_fault 1 (some .int) 0 0 0 [.ref a0] h (jpi r) := by
  unfold f_X6_fault at hf
  refine jMet_of hG htr (by decide) (Nat.le_of_ble_eq_true rfl) ?_
  intro X E hl9 hr hX _ _
  show JW G X (RX6, cX6_fault, 1) h [(0, .ref a0)] [] 0 0 0 (jEnd G X (jpi r) 0 0)
  refine J_aload_n E (jd dk_X6_fault_0 0 rfl) rfl 0 rfl ?_
  obtain ⟨x1, e2, hf⟩ := jbind hf
  refine J_geti E (jd dk_X6_fault_0 1 rfl) fl_RX6_17 e2 ?_
  cases hf
  exact J_iret E hr rfl (jd dk_X6_fault_0 2 rfl) (Nat.le_refl _) (Nat.le_refl _) ⟨rfl, rfl⟩
def f_X6_fewestWithAll_b95 (N : Nat) (v0 : Nat) (v1 : Int32) (v2 : Int32) (h : AH) : Option ((Int32 × Int32 × AH) ⊕ ((Int32 × AH))) :=
  some (.inl ((v1, v2 + 1, h)))
def f_X6_fewestWithAll_b93 (N : Nat) (v0 : Nat) (v2 : Int32) (h : AH) : Option ((Int32 × Int32 × AH) ⊕ ((Int32 × AH))) :=
  f_X6_fewestWithAll_b95 N v0 v2 v2 h
def f_X6_fewestWithAll_b60 (N : Nat) (v0 : Nat) (v1 : Int32) (v2 : Int32) (v3 : Int32) (v4 : Int32) (h : AH) : Option ((Int32 × Int32 × AH) ⊕ ((Int32 × AH))) :=
  some (.inl ((v3, v4 + 1, h)))
def f_X6_fewestWithAll_l22 (N : Nat) (v0 : Nat) (v1 : Int32) (v2 : Int32) (v3 : Int32) (v4 : Int32) (h : AH) : Option ((Int32 × Int32 × AH) ⊕ ((Int32 × AH))) :=
  (jgr 6 h v0 4).bind fun x1 =>
  (jgi 1 h x1 2).bind fun x3 =>
  if x3 ≤ v4 then some (.inr ((v3, h)))
  else if ((v2 >>> (v4 &&& 31)) &&& 1) = 1 then (jgr 6 h v0 5).bind fun x7 =>
  (jgr 0 h x7 0).bind fun x9 =>
  (jgr 5 h x9 3).bind fun x11 =>
  (jal 0 h x11 v4).bind fun x13 =>
  f_X6_fewestWithAll_b60 N v0 v1 v2 (v3 ||| x13) v4 h
  else f_X6_fewestWithAll_b60 N v0 v1 v2 v3 v4 h
def f_X6_fewestWithAll_b22 (N : Nat) (v0 : Nat) (v1 : Int32) (v2 : Int32) (v3 : Int32) (v4 : Int32) (h : AH) : Option ((Int32 × Int32 × AH) ⊕ ((Int32 × AH))) :=
  (itr (fun s => f_X6_fewestWithAll_l22 N v0 v1 v2 s.1 s.2.1 s.2.2) N (v3, v4, h)).bind (fun e => (jgr 6 e.2 v0 4).bind fun x15 =>
  (jck 1 e.2 x15).bind fun _ =>
  (f_X1_allSides N e.2 x15).bind fun r17 =>
  if e.1 = r17.1 then if v1 = ((-1)) then f_X6_fewestWithAll_b93 N v0 v2 r17.2
  else (f_J6_bitCount_0f7a4 N r17.2 v2).bind fun r23 =>
  (f_J6_bitCount_0f7a4 N r23.2 v1).bind fun r25 =>
  if r25.1 ≤ r23.1 then f_X6_fewestWithAll_b95 N v0 v1 v2 r25.2
  else f_X6_fewestWithAll_b93 N v0 v2 r25.2
  else f_X6_fewestWithAll_b95 N v0 v1 v2 r17.2)
def f_X6_fewestWithAll_l4 (N : Nat) (v0 : Nat) (v1 : Int32) (v2 : Int32) (h : AH) : Option ((Int32 × Int32 × AH) ⊕ ((Int32 × AH))) :=
  (jgr 6 h v0 4).bind fun x28 =>
  (jgi 1 h x28 2).bind fun x30 =>
  if ((1 : Int32) <<< (x30 &&& 31)) ≤ v2 then some (.inr ((v1, h)))
  else f_X6_fewestWithAll_b22 N v0 v1 v2 0 0 h
def f_X6_fewestWithAll_b4 (N : Nat) (v0 : Nat) (v1 : Int32) (v2 : Int32) (h : AH) : Option (Int32 × AH) :=
  (itr (fun s => f_X6_fewestWithAll_l4 N v0 s.1 s.2.1 s.2.2) N (v1, v2, h)).bind (fun e => some (e.1, e.2))
def f_X6_fewestWithAll (N : Nat) (h : AH) (a0 : Nat) : Option (Int32 × AH) :=
  f_X6_fewestWithAll_b4 N a0 ((-1)) 1 h
set_option maxRecDepth 100000 in
set_option maxHeartbeats 4000000 in
theorem lk_X6_fewestWithAll_b95 {G : JG} {X : JX} (E : jE G X (RX6, cX6_fewestWithAll, 5)) (hX : X.2.2.2.1 = jRm 1 0 0) (hr : X.2.2.2.2.2.2.2.2.1.sig.returnType = (some .int)) (N : Nat) {Q : State → Prop} {v0 : Nat} {v1 : Int32} {v2 : Int32} {h : AH}  {q : ((Int32 × Int32 × AH) ⊕ ((Int32 × AH)))} (hf : f_X6_fewestWithAll_b95 N v0 v1 v2 h = some q) (kb : ∀ s' : Int32 × Int32 × AH, q = .inl s' → JW G X (RX6, cX6_fewestWithAll, 5) s'.2.2 [(0, .ref v0), (1, .int s'.1), (2, .int s'.2.1)] [] 4 0 0 Q) (ke0 : ∀ e : Int32 × AH, q = .inr e → JW G X (RX6, cX6_fewestWithAll, 5) e.2 [(1, .int e.1)] [] 101 0 0 Q) : JW G X (RX6, cX6_fewestWithAll, 5) h [(0, .ref v0), (1, .int v1), (2, .int v2)] [] 95 0 0 Q := by
  unfold f_X6_fewestWithAll_b95 at hf
  refine J_iinc (v := v2 + 1) (lv' := [(2, .int (v2 + 1)), (0, .ref v0), (1, .int v1)]) E (jd dk_X6_fewestWithAll_1 3 rfl) 2 rfl rfl (by decide) rfl ?_
  refine J_goto (tgt := 4) E (jd dk_X6_fewestWithAll_1 4 rfl) (by decide) ?_
  refine J_sub [1, 2, 0] rfl ?_
  exact kb _ (Option.some.inj hf).symm
set_option maxRecDepth 100000 in
set_option maxHeartbeats 4000000 in
theorem lk_X6_fewestWithAll_b93 {G : JG} {X : JX} (E : jE G X (RX6, cX6_fewestWithAll, 5)) (hX : X.2.2.2.1 = jRm 1 0 0) (hr : X.2.2.2.2.2.2.2.2.1.sig.returnType = (some .int)) (N : Nat) {Q : State → Prop} {v0 : Nat} {v2 : Int32} {h : AH}  {q : ((Int32 × Int32 × AH) ⊕ ((Int32 × AH)))} (hf : f_X6_fewestWithAll_b93 N v0 v2 h = some q) (kb : ∀ s' : Int32 × Int32 × AH, q = .inl s' → JW G X (RX6, cX6_fewestWithAll, 5) s'.2.2 [(0, .ref v0), (1, .int s'.1), (2, .int s'.2.1)] [] 4 0 0 Q) (ke0 : ∀ e : Int32 × AH, q = .inr e → JW G X (RX6, cX6_fewestWithAll, 5) e.2 [(1, .int e.1)] [] 101 0 0 Q) : JW G X (RX6, cX6_fewestWithAll, 5) h [(0, .ref v0), (2, .int v2)] [] 93 0 0 Q := by
  unfold f_X6_fewestWithAll_b93 at hf
  refine J_iload_n E (jd dk_X6_fewestWithAll_1 1 rfl) rfl 1 rfl ?_
  refine J_istore_n (lv' := [(1, .int v2), (0, .ref v0), (2, .int v2)]) E (jd dk_X6_fewestWithAll_1 2 rfl) rfl (by decide) rfl ?_
  refine J_sub [1, 0, 2] rfl ?_
  exact lk_X6_fewestWithAll_b95 E hX hr N hf kb ke0
set_option maxRecDepth 100000 in
set_option maxHeartbeats 4000000 in
theorem lk_X6_fewestWithAll_b60 {G : JG} {X : JX} (E : jE G X (RX6, cX6_fewestWithAll, 5)) (hX : X.2.2.2.1 = jRm 1 0 0) (hr : X.2.2.2.2.2.2.2.2.1.sig.returnType = (some .int)) (N : Nat) {Q : State → Prop} {v0 : Nat} {v1 : Int32} {v2 : Int32} {v3 : Int32} {v4 : Int32} {h : AH}  {q : ((Int32 × Int32 × AH) ⊕ ((Int32 × AH)))} (hf : f_X6_fewestWithAll_b60 N v0 v1 v2 v3 v4 h = some q) (kb : ∀ s' : Int32 × Int32 × AH, q = .inl s' → JW G X (RX6, cX6_fewestWithAll, 5) s'.2.2 [(0, .ref v0), (1, .int v1), (2, .int v2), (3, .int s'.1), (4, .int s'.2.1)] [] 22 0 0 Q) (ke0 : ∀ e : Int32 × AH, q = .inr e → JW G X (RX6, cX6_fewestWithAll, 5) e.2 [(0, .ref v0), (1, .int v1), (2, .int v2), (3, .int e.1)] [] 66 0 0 Q) : JW G X (RX6, cX6_fewestWithAll, 5) h [(0, .ref v0), (1, .int v1), (2, .int v2), (3, .int v3), (4, .int v4)] [] 60 0 0 Q := by
  unfold f_X6_fewestWithAll_b60 at hf
  refine J_iinc (v := v4 + 1) (lv' := [(4, .int (v4 + 1)), (0, .ref v0), (1, .int v1), (2, .int v2), (3, .int v3)]) E (jd dk_X6_fewestWithAll_0 36 rfl) 4 rfl rfl (by decide) rfl ?_
  refine J_goto (tgt := 22) E (jd dk_X6_fewestWithAll_0 37 rfl) (by decide) ?_
  refine J_sub [1, 2, 3, 4, 0] rfl ?_
  exact kb _ (Option.some.inj hf).symm
set_option maxRecDepth 100000 in
set_option maxHeartbeats 4000000 in
theorem lk_X6_fewestWithAll_l22 {G : JG} {X : JX} (E : jE G X (RX6, cX6_fewestWithAll, 5)) (hX : X.2.2.2.1 = jRm 1 0 0) (hr : X.2.2.2.2.2.2.2.2.1.sig.returnType = (some .int)) (N : Nat) {Q : State → Prop} {v0 : Nat} {v1 : Int32} {v2 : Int32} {v3 : Int32} {v4 : Int32}  {h : AH} {q : ((Int32 × Int32 × AH) ⊕ ((Int32 × AH)))} (hf : f_X6_fewestWithAll_l22 N v0 v1 v2 v3 v4 h = some q) (kb : ∀ s' : Int32 × Int32 × AH, q = .inl s' → JW G X (RX6, cX6_fewestWithAll, 5) s'.2.2 [(0, .ref v0), (1, .int v1), (2, .int v2), (3, .int s'.1), (4, .int s'.2.1)] [] 22 0 0 Q) (ke0 : ∀ e : Int32 × AH, q = .inr e → JW G X (RX6, cX6_fewestWithAll, 5) e.2 [(0, .ref v0), (1, .int v1), (2, .int v2), (3, .int e.1)] [] 66 0 0 Q) : JW G X (RX6, cX6_fewestWithAll, 5) h [(0, .ref v0), (1, .int v1), (2, .int v2), (3, .int v3), (4, .int v4)] [] 22 0 0 Q := by
  unfold f_X6_fewestWithAll_l22 at hf
  refine J_iload E (jd dk_X6_fewestWithAll_0 15 rfl) 4 rfl ?_
  refine J_aload_n E (jd dk_X6_fewestWithAll_0 16 rfl) rfl 0 rfl ?_
  obtain ⟨x1, e2, hf⟩ := jbind hf
  refine J_getr E (jd dk_X6_fewestWithAll_0 17 rfl) fl_RX6_30 e2 ?_
  obtain ⟨x3, e4, hf⟩ := jbind hf
  refine J_geti E (jd dk_X6_fewestWithAll_0 18 rfl) fl_RX6_110 e4 ?_
  refine J_icmp_ge (tgt := 66) E (jd dk_X6_fewestWithAll_0 19 rfl) (by decide) (fun c5 => ?_) (fun c5 => ?_)
  · replace hf := jif_t c5 hf
    refine J_sub [0, 1, 2, 3] rfl ?_
    exact ke0 _ (Option.some.inj hf).symm
  · replace hf := jif_f c5 hf
    refine J_iload_n E (jd dk_X6_fewestWithAll_0 20 rfl) rfl 2 rfl ?_
    refine J_iload E (jd dk_X6_fewestWithAll_0 21 rfl) 4 rfl ?_
    refine J_ishr E (jd dk_X6_fewestWithAll_0 22 rfl) ?_
    refine J_iconst (v := 1) E (jd dk_X6_fewestWithAll_0 23 rfl) rfl ?_
    refine J_iand E (jd dk_X6_fewestWithAll_0 24 rfl) ?_
    refine J_iconst (v := 1) E (jd dk_X6_fewestWithAll_0 25 rfl) rfl ?_
    refine J_icmp_ne (tgt := 60) E (jd dk_X6_fewestWithAll_0 26 rfl) (by decide) (fun c6 => ?_) (fun c6 => ?_)
    · replace hf := jif_f c6 hf
      exact lk_X6_fewestWithAll_b60 E hX hr N hf kb ke0
    · replace hf := jif_t c6 hf
      refine J_iload_n E (jd dk_X6_fewestWithAll_0 27 rfl) rfl 3 rfl ?_
      refine J_aload_n E (jd dk_X6_fewestWithAll_0 28 rfl) rfl 0 rfl ?_
      obtain ⟨x7, e8, hf⟩ := jbind hf
      refine J_getr E (jd dk_X6_fewestWithAll_0 29 rfl) fl_RX6_37 e8 ?_
      obtain ⟨x9, e10, hf⟩ := jbind hf
      refine J_getr E (jd dk_X6_fewestWithAll_0 30 rfl) fl_RX6_113 e10 ?_
      obtain ⟨x11, e12, hf⟩ := jbind hf
      refine J_getr E (jd dk_X6_fewestWithAll_0 31 rfl) fl_RX6_147 e12 ?_
      refine J_iload E (jd dk_X6_fewestWithAll_0 32 rfl) 4 rfl ?_
      obtain ⟨x13, e14, hf⟩ := jbind hf
      refine J_iald E (jd dk_X6_fewestWithAll_0 33 rfl) e14 ?_
      refine J_ior E (jd dk_X6_fewestWithAll_0 34 rfl) ?_
      refine J_istore_n (lv' := [(3, .int (v3 ||| x13)), (0, .ref v0), (1, .int v1), (2, .int v2), (4, .int v4)]) E (jd dk_X6_fewestWithAll_0 35 rfl) rfl (by decide) rfl ?_
      refine J_sub [1, 2, 3, 0, 4] rfl ?_
      exact lk_X6_fewestWithAll_b60 E hX hr N hf kb ke0
set_option maxRecDepth 100000 in
set_option maxHeartbeats 4000000 in
theorem lk_X6_fewestWithAll_b22 {G : JG} {X : JX} (E : jE G X (RX6, cX6_fewestWithAll, 5)) (hX : X.2.2.2.1 = jRm 1 0 0) (hr : X.2.2.2.2.2.2.2.2.1.sig.returnType = (some .int)) (N : Nat) {Q : State → Prop} {v0 : Nat} {v1 : Int32} {v2 : Int32} {v3 : Int32} {v4 : Int32} {h : AH}  {q : ((Int32 × Int32 × AH) ⊕ ((Int32 × AH)))} (hf : f_X6_fewestWithAll_b22 N v0 v1 v2 v3 v4 h = some q) (kb : ∀ s' : Int32 × Int32 × AH, q = .inl s' → JW G X (RX6, cX6_fewestWithAll, 5) s'.2.2 [(0, .ref v0), (1, .int s'.1), (2, .int s'.2.1)] [] 4 0 0 Q) (ke0 : ∀ e : Int32 × AH, q = .inr e → JW G X (RX6, cX6_fewestWithAll, 5) e.2 [(1, .int e.1)] [] 101 0 0 Q) : JW G X (RX6, cX6_fewestWithAll, 5) h [(0, .ref v0), (1, .int v1), (2, .int v2), (3, .int v3), (4, .int v4)] [] 22 0 0 Q := by
  unfold f_X6_fewestWithAll_b22 at hf
  obtain ⟨q1, h1, hf⟩ := jbind hf
  refine jloop (P := fun s => JW G X (RX6, cX6_fewestWithAll, 5) s.2.2 [(0, .ref v0), (1, .int v1), (2, .int v2), (3, .int s.1), (4, .int s.2.1)] [] 22 0 0 Q) (Ex := fun (e : Int32 × AH) => JW G X (RX6, cX6_fewestWithAll, 5) e.2 [(0, .ref v0), (1, .int v1), (2, .int v2), (3, .int e.1)] [] 66 0 0 Q) (fun s q hs hb hx => lk_X6_fewestWithAll_l22 E hX hr N hs (fun s' hs => hb s' hs) (fun e he => hx e he)) N _ q1 h1 ?_
  generalize q1 = e at hf ⊢
  refine J_iload_n E (jd dk_X6_fewestWithAll_0 38 rfl) rfl 3 rfl ?_
  refine J_aload_n E (jd dk_X6_fewestWithAll_0 39 rfl) rfl 0 rfl ?_
  obtain ⟨x15, e16, hf⟩ := jbind hf
  refine J_getr E (jd dk_X6_fewestWithAll_0 40 rfl) fl_RX6_30 e16 ?_
  obtain ⟨u19, e20, hf⟩ := jbind hf
  obtain ⟨r17, e18, hf⟩ := jbind hf
  refine J_callV E (jd dk_X6_fewestWithAll_0 41 rfl) ml_RX6_150 cal_X1_allSides e20 rfl (lk_X1_allSides (jE_g E) (jE_tr E) N e18) rfl (Nat.le_of_ble_eq_true rfl) (jR_le hX (by decide) (by decide)) (jF0 hX) rfl ?_
  rintro _ _ ⟨rfl, rfl⟩
  refine J_icmp_ne (tgt := 95) E (jd dk_X6_fewestWithAll_0 42 rfl) (by decide) (fun c21 => ?_) (fun c21 => ?_)
  · replace hf := jif_f c21 hf
    refine J_sub [0, 1, 2] rfl ?_
    exact lk_X6_fewestWithAll_b95 E hX hr N hf kb ke0
  · replace hf := jif_t c21 hf
    refine J_iload_n E (jd dk_X6_fewestWithAll_0 43 rfl) rfl 1 rfl ?_
    refine J_iconst (v := (-1)) E (jd dk_X6_fewestWithAll_0 44 rfl) rfl ?_
    refine J_icmp_eq (tgt := 93) E (jd dk_X6_fewestWithAll_0 45 rfl) (by decide) (fun c22 => ?_) (fun c22 => ?_)
    · replace hf := jif_t c22 hf
      refine J_sub [0, 2] rfl ?_
      exact lk_X6_fewestWithAll_b93 E hX hr N hf kb ke0
    · replace hf := jif_f c22 hf
      refine J_iload_n E (jd dk_X6_fewestWithAll_0 46 rfl) rfl 2 rfl ?_
      obtain ⟨r23, e24, hf⟩ := jbind hf
      refine J_callS E (jd dk_X6_fewestWithAll_0 47 rfl) ml_RX6_153 cal_J6_bitCount_0f7a4 (lk_J6_bitCount_0f7a4 (jE_g E) (jE_tr E) N e24) rfl (Nat.le_of_ble_eq_true rfl) (jR_le hX (by decide) (by decide)) (jF0 hX) rfl ?_
      rintro _ _ ⟨rfl, rfl⟩
      refine J_iload_n E (jd dk_X6_fewestWithAll_0 48 rfl) rfl 1 rfl ?_
      obtain ⟨r25, e26, hf⟩ := jbind hf
      refine J_callS E (jd dk_X6_fewestWithAll_0 49 rfl) ml_RX6_153 cal_J6_bitCount_0f7a4 (lk_J6_bitCount_0f7a4 (jE_g E) (jE_tr E) N e26) rfl (Nat.le_of_ble_eq_true rfl) (jR_le hX (by decide) (by decide)) (jF0 hX) rfl ?_
      rintro _ _ ⟨rfl, rfl⟩
      refine J_icmp_ge (tgt := 95) E (jd dk_X6_fewestWithAll_1 0 rfl) (by decide) (fun c27 => ?_) (fun c27 => ?_)
      · replace hf := jif_t c27 hf
        refine J_sub [0, 1, 2] rfl ?_
        exact lk_X6_fewestWithAll_b95 E hX hr N hf kb ke0
      · replace hf := jif_f c27 hf
        refine J_sub [0, 2] rfl ?_
        exact lk_X6_fewestWithAll_b93 E hX hr N hf kb ke0
set_option maxRecDepth 100000 in
set_option maxHeartbeats 4000000 in
theorem lk_X6_fewestWithAll_l4 {G : JG} {X : JX} (E : jE G X (RX6, cX6_fewestWithAll, 5)) (hX : X.2.2.2.1 = jRm 1 0 0) (hr : X.2.2.2.2.2.2.2.2.1.sig.returnType = (some .int)) (N : Nat) {Q : State → Prop} {v0 : Nat} {v1 : Int32} {v2 : Int32}  {h : AH} {q : ((Int32 × Int32 × AH) ⊕ ((Int32 × AH)))} (hf : f_X6_fewestWithAll_l4 N v0 v1 v2 h = some q) (kb : ∀ s' : Int32 × Int32 × AH, q = .inl s' → JW G X (RX6, cX6_fewestWithAll, 5) s'.2.2 [(0, .ref v0), (1, .int s'.1), (2, .int s'.2.1)] [] 4 0 0 Q) (ke0 : ∀ e : Int32 × AH, q = .inr e → JW G X (RX6, cX6_fewestWithAll, 5) e.2 [(1, .int e.1)] [] 101 0 0 Q) : JW G X (RX6, cX6_fewestWithAll, 5) h [(0, .ref v0), (1, .int v1), (2, .int v2)] [] 4 0 0 Q := by
  unfold f_X6_fewestWithAll_l4 at hf
  refine J_iload_n E (jd dk_X6_fewestWithAll_0 4 rfl) rfl 2 rfl ?_
  refine J_iconst (v := 1) E (jd dk_X6_fewestWithAll_0 5 rfl) rfl ?_
  refine J_aload_n E (jd dk_X6_fewestWithAll_0 6 rfl) rfl 0 rfl ?_
  obtain ⟨x28, e29, hf⟩ := jbind hf
  refine J_getr E (jd dk_X6_fewestWithAll_0 7 rfl) fl_RX6_30 e29 ?_
  obtain ⟨x30, e31, hf⟩ := jbind hf
  refine J_geti E (jd dk_X6_fewestWithAll_0 8 rfl) fl_RX6_110 e31 ?_
  refine J_ishl E (jd dk_X6_fewestWithAll_0 9 rfl) ?_
  refine J_icmp_ge (tgt := 101) E (jd dk_X6_fewestWithAll_0 10 rfl) (by decide) (fun c32 => ?_) (fun c32 => ?_)
  · replace hf := jif_t c32 hf
    refine J_sub [1] rfl ?_
    exact ke0 _ (Option.some.inj hf).symm
  · replace hf := jif_f c32 hf
    refine J_iconst (v := 0) E (jd dk_X6_fewestWithAll_0 11 rfl) rfl ?_
    refine J_istore_n (lv' := [(3, .int 0), (0, .ref v0), (1, .int v1), (2, .int v2)]) E (jd dk_X6_fewestWithAll_0 12 rfl) rfl (by decide) rfl ?_
    refine J_iconst (v := 0) E (jd dk_X6_fewestWithAll_0 13 rfl) rfl ?_
    refine J_istore (lv' := [(4, .int 0), (3, .int 0), (0, .ref v0), (1, .int v1), (2, .int v2)]) E (jd dk_X6_fewestWithAll_0 14 rfl) (by decide) rfl ?_
    refine J_sub [2, 3, 4, 1, 0] rfl ?_
    exact lk_X6_fewestWithAll_b22 E hX hr N hf kb ke0
set_option maxRecDepth 100000 in
set_option maxHeartbeats 4000000 in
theorem lk_X6_fewestWithAll_b4 {G : JG} {X : JX} (E : jE G X (RX6, cX6_fewestWithAll, 5)) (hX : X.2.2.2.1 = jRm 1 0 0) (hr : X.2.2.2.2.2.2.2.2.1.sig.returnType = (some .int)) (N : Nat) {v0 : Nat} {v1 : Int32} {v2 : Int32} {h : AH}  {r : (Int32 × AH)} (hf : f_X6_fewestWithAll_b4 N v0 v1 v2 h = some r) : JW G X (RX6, cX6_fewestWithAll, 5) h [(0, .ref v0), (1, .int v1), (2, .int v2)] [] 4 0 0 (jEnd G X (jpi r) 0 0) := by
  unfold f_X6_fewestWithAll_b4 at hf
  obtain ⟨q1, h1, hf⟩ := jbind hf
  refine jloop (P := fun s => JW G X (RX6, cX6_fewestWithAll, 5) s.2.2 [(0, .ref v0), (1, .int s.1), (2, .int s.2.1)] [] 4 0 0 (jEnd G X (jpi r) 0 0)) (Ex := fun (e : Int32 × AH) => JW G X (RX6, cX6_fewestWithAll, 5) e.2 [(1, .int e.1)] [] 101 0 0 (jEnd G X (jpi r) 0 0)) (fun s q hs hb hx => lk_X6_fewestWithAll_l4 E hX hr N hs (fun s' hs => hb s' hs) (fun e he => hx e he)) N _ q1 h1 ?_
  generalize q1 = e at hf ⊢
  refine J_iload_n E (jd dk_X6_fewestWithAll_1 5 rfl) rfl 0 rfl ?_
  cases hf
  exact J_iret E hr rfl (jd dk_X6_fewestWithAll_1 6 rfl) (Nat.le_refl _) (Nat.le_refl _) ⟨rfl, rfl⟩
set_option maxRecDepth 100000 in
set_option maxHeartbeats 4000000 in
theorem lk_X6_fewestWithAll {G : JG} {l : Launch} (hG : jG G) (htr : l.stackTraces = false) (N : Nat) {h : AH} {a0 : Nat} {r : (Int32 × AH)} (hf : f_X6_fewestWithAll N h a0 = some r) : jMet G l yX6_fewestWithAll cX6_fewestWithAll 5 (some .int) 1 0 0 [.ref a0] h (jpi r) := by
  unfold f_X6_fewestWithAll at hf
  refine jMet_of hG htr (by decide) (Nat.le_of_ble_eq_true rfl) ?_
  intro X E hl9 hr hX _ _
  show JW G X (RX6, cX6_fewestWithAll, 5) h [(0, .ref a0)] [] 0 0 0 (jEnd G X (jpi r) 0 0)
  refine J_iconst (v := (-1)) E (jd dk_X6_fewestWithAll_0 0 rfl) rfl ?_
  refine J_istore_n (lv' := [(1, .int ((-1))), (0, .ref a0)]) E (jd dk_X6_fewestWithAll_0 1 rfl) rfl (by decide) rfl ?_
  refine J_iconst (v := 1) E (jd dk_X6_fewestWithAll_0 2 rfl) rfl ?_
  refine J_istore_n (lv' := [(2, .int 1), (1, .int ((-1))), (0, .ref a0)]) E (jd dk_X6_fewestWithAll_0 3 rfl) rfl (by decide) rfl ?_
  refine J_sub [2, 1, 0] rfl ?_
  exact lk_X6_fewestWithAll_b4 E hX hr N hf
def f_X6_count (N : Nat) (h : AH) (a0 : Nat) (a1 : Int32) : Option ((Nat ⊕ Int32) × AH) :=
  if a1 = 0 then (jgr 6 h a0 4).bind fun x1 =>
  (jgi 1 h x1 0).bind fun x3 =>
  some (.inr x3, h)
  else if a1 = 1 then (jgr 6 h a0 4).bind fun x5 =>
  (jgi 1 h x5 1).bind fun x7 =>
  some (.inr x7, h)
  else if a1 = 2 then (jgr 6 h a0 4).bind fun x9 =>
  (jgi 1 h x9 2).bind fun x11 =>
  some (.inr x11, h)
  else if a1 = 3 then (jgr 6 h a0 5).bind fun x13 =>
  (jgr 0 h x13 0).bind fun x15 =>
  (jgi 5 h x15 0).bind fun x17 =>
  some (.inr x17, h)
  else if a1 = 4 then (jgr 6 h a0 5).bind fun x19 =>
  (jgr 0 h x19 0).bind fun x21 =>
  (jgr 6 h a0 4).bind fun x23 =>
  (jck 5 h x21).bind fun _ =>
  (f_X5_fairOnes N h x21 x23).bind fun r25 =>
  some (.inr r25.1, r25.2)
  else if a1 = 5 then (jgr 6 h a0 5).bind fun x29 =>
  (jgr 0 h x29 0).bind fun x31 =>
  (jgr 6 h a0 4).bind fun x33 =>
  (jck 5 h x31).bind fun _ =>
  (f_X5_landedOnes N h x31 x33).bind fun r35 =>
  some (.inr r35.1, r35.2)
  else if a1 = 6 then (jgr 6 h a0 5).bind fun x39 =>
  (jgr 0 h x39 0).bind fun x41 =>
  (jgr 6 h a0 4).bind fun x43 =>
  (jck 5 h x41).bind fun _ =>
  (f_X5_afloatOnes N h x41 x43).bind fun r45 =>
  some (.inr r45.1, r45.2)
  else if a1 = 7 then (jgr 6 h a0 5).bind fun x49 =>
  (jgr 0 h x49 0).bind fun x51 =>
  (jgr 6 h a0 4).bind fun x53 =>
  (jck 5 h x51).bind fun _ =>
  (f_X5_pools N h x51 x53).bind fun r55 =>
  some (.inr r55.1, r55.2)
  else if a1 = 8 then (jck 6 h a0).bind fun _ =>
  (f_X6_fewestWithAll N h a0).bind fun r59 =>
  some (.inr r59.1, r59.2)
  else if a1 = 9 then (jgr 6 h a0 5).bind fun x63 =>
  (jgi 0 h x63 2).bind fun x65 =>
  some (.inr x65, h)
  else if a1 = 10 then (jgr 6 h a0 5).bind fun x67 =>
  (jgi 0 h x67 3).bind fun x69 =>
  some (.inr x69, h)
  else if a1 = 11 then (jgi 6 h a0 1).bind fun x71 =>
  some (.inr x71, h)
  else if a1 = 12 then (jgr 6 h a0 5).bind fun x73 =>
  (jgr 0 h x73 1).bind fun x75 =>
  (jal 0 h x75 0).bind fun x77 =>
  some (.inr x77, h)
  else if a1 = 13 then (jgr 6 h a0 5).bind fun x79 =>
  (jgr 0 h x79 1).bind fun x81 =>
  (jal 0 h x81 1).bind fun x83 =>
  some (.inr x83, h)
  else if a1 = 14 then (jgr 6 h a0 5).bind fun x85 =>
  (jgr 0 h x85 1).bind fun x87 =>
  (jal 0 h x87 2).bind fun x89 =>
  some (.inr x89, h)
  else some (.inl 1, h)
set_option maxRecDepth 100000 in
set_option maxHeartbeats 4000000 in
theorem lk_X6_count {G : JG} {l : Launch} (hG : jG G) (htr : l.stackTraces = false) (N : Nat) {h : AH} {a0 : Nat} {a1 : Int32} {r : ((Nat ⊕ Int32) × AH)} (hf : f_X6_count N h a0 a1 = some r) : jMetX G l yX6_count cX6_count 2 (some .int) 3 1 6 [.ref a0, .int a1] h (jpXi r) (jpXx r) := by
  unfold f_X6_count at hf
  refine jMetX_of hG htr (by decide) (Nat.le_of_ble_eq_true rfl) ?_
  intro X E hl9 hr hX htab
  show JW G X (RX6, cX6_count, 2) h [(0, .ref a0), (1, .int a1)] [] 0 0 0 (jEndX G X (jpXi r) (jpXx r) 1 6)
  refine J_iload_n E (jd dk_X6_count_0 0 rfl) rfl 1 rfl ?_
  by_cases c1_0 : a1 = 0
  · replace hf := jif_t c1_0 hf
    refine J_tableIn (off := 75) (tgt := 76) E (jd dk_X6_count_0 1 rfl) (by rw [c1_0]; decide) (by rw [c1_0]; decide) (by rw [c1_0]; decide) (by decide) ?_
    refine J_aload_n E (jd dk_X6_count_0 2 rfl) rfl 0 rfl ?_
    obtain ⟨x1, e2, hf⟩ := jbind hf
    refine J_getr E (jd dk_X6_count_0 3 rfl) fl_RX6_30 e2 ?_
    obtain ⟨x3, e4, hf⟩ := jbind hf
    refine J_geti E (jd dk_X6_count_0 4 rfl) fl_RX6_104 e4 ?_
    cases hf
    exact J_x (J_iret E hr rfl (jd dk_X6_count_0 5 rfl) (by decide) (by decide) ⟨_, rfl, rfl, rfl⟩)
  replace hf := jif_f c1_0 hf
  by_cases c1_1 : a1 = 1
  · replace hf := jif_t c1_1 hf
    refine J_tableIn (off := 83) (tgt := 84) E (jd dk_X6_count_0 1 rfl) (by rw [c1_1]; decide) (by rw [c1_1]; decide) (by rw [c1_1]; decide) (by decide) ?_
    refine J_aload_n E (jd dk_X6_count_0 6 rfl) rfl 0 rfl ?_
    obtain ⟨x5, e6, hf⟩ := jbind hf
    refine J_getr E (jd dk_X6_count_0 7 rfl) fl_RX6_30 e6 ?_
    obtain ⟨x7, e8, hf⟩ := jbind hf
    refine J_geti E (jd dk_X6_count_0 8 rfl) fl_RX6_107 e8 ?_
    cases hf
    exact J_x (J_iret E hr rfl (jd dk_X6_count_0 9 rfl) (by decide) (by decide) ⟨_, rfl, rfl, rfl⟩)
  replace hf := jif_f c1_1 hf
  by_cases c1_2 : a1 = 2
  · replace hf := jif_t c1_2 hf
    refine J_tableIn (off := 91) (tgt := 92) E (jd dk_X6_count_0 1 rfl) (by rw [c1_2]; decide) (by rw [c1_2]; decide) (by rw [c1_2]; decide) (by decide) ?_
    refine J_aload_n E (jd dk_X6_count_0 10 rfl) rfl 0 rfl ?_
    obtain ⟨x9, e10, hf⟩ := jbind hf
    refine J_getr E (jd dk_X6_count_0 11 rfl) fl_RX6_30 e10 ?_
    obtain ⟨x11, e12, hf⟩ := jbind hf
    refine J_geti E (jd dk_X6_count_0 12 rfl) fl_RX6_110 e12 ?_
    cases hf
    exact J_x (J_iret E hr rfl (jd dk_X6_count_0 13 rfl) (by decide) (by decide) ⟨_, rfl, rfl, rfl⟩)
  replace hf := jif_f c1_2 hf
  by_cases c1_3 : a1 = 3
  · replace hf := jif_t c1_3 hf
    refine J_tableIn (off := 99) (tgt := 100) E (jd dk_X6_count_0 1 rfl) (by rw [c1_3]; decide) (by rw [c1_3]; decide) (by rw [c1_3]; decide) (by decide) ?_
    refine J_aload_n E (jd dk_X6_count_0 14 rfl) rfl 0 rfl ?_
    obtain ⟨x13, e14, hf⟩ := jbind hf
    refine J_getr E (jd dk_X6_count_0 15 rfl) fl_RX6_37 e14 ?_
    obtain ⟨x15, e16, hf⟩ := jbind hf
    refine J_getr E (jd dk_X6_count_0 16 rfl) fl_RX6_113 e16 ?_
    obtain ⟨x17, e18, hf⟩ := jbind hf
    refine J_geti E (jd dk_X6_count_0 17 rfl) fl_RX6_116 e18 ?_
    cases hf
    exact J_x (J_iret E hr rfl (jd dk_X6_count_0 18 rfl) (by decide) (by decide) ⟨_, rfl, rfl, rfl⟩)
  replace hf := jif_f c1_3 hf
  by_cases c1_4 : a1 = 4
  · replace hf := jif_t c1_4 hf
    refine J_tableIn (off := 110) (tgt := 111) E (jd dk_X6_count_0 1 rfl) (by rw [c1_4]; decide) (by rw [c1_4]; decide) (by rw [c1_4]; decide) (by decide) ?_
    refine J_aload_n E (jd dk_X6_count_0 19 rfl) rfl 0 rfl ?_
    obtain ⟨x19, e20, hf⟩ := jbind hf
    refine J_getr E (jd dk_X6_count_0 20 rfl) fl_RX6_37 e20 ?_
    obtain ⟨x21, e22, hf⟩ := jbind hf
    refine J_getr E (jd dk_X6_count_0 21 rfl) fl_RX6_113 e22 ?_
    refine J_aload_n E (jd dk_X6_count_0 22 rfl) rfl 0 rfl ?_
    obtain ⟨x23, e24, hf⟩ := jbind hf
    refine J_getr E (jd dk_X6_count_0 23 rfl) fl_RX6_30 e24 ?_
    obtain ⟨u27, e28, hf⟩ := jbind hf
    obtain ⟨r25, e26, hf⟩ := jbind hf
    refine J_callV E (jd dk_X6_count_0 24 rfl) ml_RX6_119 cal_X5_fairOnes e28 rfl (lk_X5_fairOnes (jE_g E) (jE_tr E) N e26) rfl (Nat.le_of_ble_eq_true rfl) (jR_le hX (by decide) (by decide)) (jFx hX (by decide) (by decide)) rfl ?_
    rintro _ _ ⟨rfl, rfl⟩
    cases hf
    exact J_x (J_iret E hr rfl (jd dk_X6_count_0 25 rfl) (by decide) (by decide) ⟨_, rfl, rfl, rfl⟩)
  replace hf := jif_f c1_4 hf
  by_cases c1_5 : a1 = 5
  · replace hf := jif_t c1_5 hf
    refine J_tableIn (off := 125) (tgt := 126) E (jd dk_X6_count_0 1 rfl) (by rw [c1_5]; decide) (by rw [c1_5]; decide) (by rw [c1_5]; decide) (by decide) ?_
    refine J_aload_n E (jd dk_X6_count_0 26 rfl) rfl 0 rfl ?_
    obtain ⟨x29, e30, hf⟩ := jbind hf
    refine J_getr E (jd dk_X6_count_0 27 rfl) fl_RX6_37 e30 ?_
    obtain ⟨x31, e32, hf⟩ := jbind hf
    refine J_getr E (jd dk_X6_count_0 28 rfl) fl_RX6_113 e32 ?_
    refine J_aload_n E (jd dk_X6_count_0 29 rfl) rfl 0 rfl ?_
    obtain ⟨x33, e34, hf⟩ := jbind hf
    refine J_getr E (jd dk_X6_count_0 30 rfl) fl_RX6_30 e34 ?_
    obtain ⟨u37, e38, hf⟩ := jbind hf
    obtain ⟨r35, e36, hf⟩ := jbind hf
    refine J_callV E (jd dk_X6_count_0 31 rfl) ml_RX6_123 cal_X5_landedOnes e38 rfl (lk_X5_landedOnes (jE_g E) (jE_tr E) N e36) rfl (Nat.le_of_ble_eq_true rfl) (jR_le hX (by decide) (by decide)) (jFx hX (by decide) (by decide)) rfl ?_
    rintro _ _ ⟨rfl, rfl⟩
    cases hf
    exact J_x (J_iret E hr rfl (jd dk_X6_count_0 32 rfl) (by decide) (by decide) ⟨_, rfl, rfl, rfl⟩)
  replace hf := jif_f c1_5 hf
  by_cases c1_6 : a1 = 6
  · replace hf := jif_t c1_6 hf
    refine J_tableIn (off := 140) (tgt := 141) E (jd dk_X6_count_0 1 rfl) (by rw [c1_6]; decide) (by rw [c1_6]; decide) (by rw [c1_6]; decide) (by decide) ?_
    refine J_aload_n E (jd dk_X6_count_0 33 rfl) rfl 0 rfl ?_
    obtain ⟨x39, e40, hf⟩ := jbind hf
    refine J_getr E (jd dk_X6_count_0 34 rfl) fl_RX6_37 e40 ?_
    obtain ⟨x41, e42, hf⟩ := jbind hf
    refine J_getr E (jd dk_X6_count_0 35 rfl) fl_RX6_113 e42 ?_
    refine J_aload_n E (jd dk_X6_count_0 36 rfl) rfl 0 rfl ?_
    obtain ⟨x43, e44, hf⟩ := jbind hf
    refine J_getr E (jd dk_X6_count_0 37 rfl) fl_RX6_30 e44 ?_
    obtain ⟨u47, e48, hf⟩ := jbind hf
    obtain ⟨r45, e46, hf⟩ := jbind hf
    refine J_callV E (jd dk_X6_count_0 38 rfl) ml_RX6_126 cal_X5_afloatOnes e48 rfl (lk_X5_afloatOnes (jE_g E) (jE_tr E) N e46) rfl (Nat.le_of_ble_eq_true rfl) (jR_le hX (by decide) (by decide)) (jFx hX (by decide) (by decide)) rfl ?_
    rintro _ _ ⟨rfl, rfl⟩
    cases hf
    exact J_x (J_iret E hr rfl (jd dk_X6_count_0 39 rfl) (by decide) (by decide) ⟨_, rfl, rfl, rfl⟩)
  replace hf := jif_f c1_6 hf
  by_cases c1_7 : a1 = 7
  · replace hf := jif_t c1_7 hf
    refine J_tableIn (off := 155) (tgt := 156) E (jd dk_X6_count_0 1 rfl) (by rw [c1_7]; decide) (by rw [c1_7]; decide) (by rw [c1_7]; decide) (by decide) ?_
    refine J_aload_n E (jd dk_X6_count_0 40 rfl) rfl 0 rfl ?_
    obtain ⟨x49, e50, hf⟩ := jbind hf
    refine J_getr E (jd dk_X6_count_0 41 rfl) fl_RX6_37 e50 ?_
    obtain ⟨x51, e52, hf⟩ := jbind hf
    refine J_getr E (jd dk_X6_count_0 42 rfl) fl_RX6_113 e52 ?_
    refine J_aload_n E (jd dk_X6_count_0 43 rfl) rfl 0 rfl ?_
    obtain ⟨x53, e54, hf⟩ := jbind hf
    refine J_getr E (jd dk_X6_count_0 44 rfl) fl_RX6_30 e54 ?_
    obtain ⟨u57, e58, hf⟩ := jbind hf
    obtain ⟨r55, e56, hf⟩ := jbind hf
    refine J_callV E (jd dk_X6_count_0 45 rfl) ml_RX6_129 cal_X5_pools e58 rfl (lk_X5_pools (jE_g E) (jE_tr E) N e56) rfl (Nat.le_of_ble_eq_true rfl) (jR_le hX (by decide) (by decide)) (jFx hX (by decide) (by decide)) rfl ?_
    rintro _ _ ⟨rfl, rfl⟩
    cases hf
    exact J_x (J_iret E hr rfl (jd dk_X6_count_0 46 rfl) (by decide) (by decide) ⟨_, rfl, rfl, rfl⟩)
  replace hf := jif_f c1_7 hf
  by_cases c1_8 : a1 = 8
  · replace hf := jif_t c1_8 hf
    refine J_tableIn (off := 170) (tgt := 171) E (jd dk_X6_count_0 1 rfl) (by rw [c1_8]; decide) (by rw [c1_8]; decide) (by rw [c1_8]; decide) (by decide) ?_
    refine J_aload_n E (jd dk_X6_count_0 47 rfl) rfl 0 rfl ?_
    obtain ⟨u61, e62, hf⟩ := jbind hf
    obtain ⟨r59, e60, hf⟩ := jbind hf
    refine J_callV E (jd dk_X6_count_0 48 rfl) ml_RX6_132 cal_X6_fewestWithAll e62 rfl (lk_X6_fewestWithAll (jE_g E) (jE_tr E) N e60) rfl (Nat.le_of_ble_eq_true rfl) (jR_le hX (by decide) (by decide)) (jFx hX (by decide) (by decide)) rfl ?_
    rintro _ _ ⟨rfl, rfl⟩
    cases hf
    exact J_x (J_iret E hr rfl (jd dk_X6_count_0 49 rfl) (by decide) (by decide) ⟨_, rfl, rfl, rfl⟩)
  replace hf := jif_f c1_8 hf
  by_cases c1_9 : a1 = 9
  · replace hf := jif_t c1_9 hf
    refine J_tableIn (off := 175) (tgt := 176) E (jd dk_X6_count_0 1 rfl) (by rw [c1_9]; decide) (by rw [c1_9]; decide) (by rw [c1_9]; decide) (by decide) ?_
    refine J_aload_n E (jd dk_X6_count_1 0 rfl) rfl 0 rfl ?_
    obtain ⟨x63, e64, hf⟩ := jbind hf
    refine J_getr E (jd dk_X6_count_1 1 rfl) fl_RX6_37 e64 ?_
    obtain ⟨x65, e66, hf⟩ := jbind hf
    refine J_geti E (jd dk_X6_count_1 2 rfl) fl_RX6_136 e66 ?_
    cases hf
    exact J_x (J_iret E hr rfl (jd dk_X6_count_1 3 rfl) (by decide) (by decide) ⟨_, rfl, rfl, rfl⟩)
  replace hf := jif_f c1_9 hf
  by_cases c1_10 : a1 = 10
  · replace hf := jif_t c1_10 hf
    refine J_tableIn (off := 183) (tgt := 184) E (jd dk_X6_count_0 1 rfl) (by rw [c1_10]; decide) (by rw [c1_10]; decide) (by rw [c1_10]; decide) (by decide) ?_
    refine J_aload_n E (jd dk_X6_count_1 4 rfl) rfl 0 rfl ?_
    obtain ⟨x67, e68, hf⟩ := jbind hf
    refine J_getr E (jd dk_X6_count_1 5 rfl) fl_RX6_37 e68 ?_
    obtain ⟨x69, e70, hf⟩ := jbind hf
    refine J_geti E (jd dk_X6_count_1 6 rfl) fl_RX6_139 e70 ?_
    cases hf
    exact J_x (J_iret E hr rfl (jd dk_X6_count_1 7 rfl) (by decide) (by decide) ⟨_, rfl, rfl, rfl⟩)
  replace hf := jif_f c1_10 hf
  by_cases c1_11 : a1 = 11
  · replace hf := jif_t c1_11 hf
    refine J_tableIn (off := 191) (tgt := 192) E (jd dk_X6_count_0 1 rfl) (by rw [c1_11]; decide) (by rw [c1_11]; decide) (by rw [c1_11]; decide) (by decide) ?_
    refine J_aload_n E (jd dk_X6_count_1 8 rfl) rfl 0 rfl ?_
    obtain ⟨x71, e72, hf⟩ := jbind hf
    refine J_geti E (jd dk_X6_count_1 9 rfl) fl_RX6_13 e72 ?_
    cases hf
    exact J_x (J_iret E hr rfl (jd dk_X6_count_1 10 rfl) (by decide) (by decide) ⟨_, rfl, rfl, rfl⟩)
  replace hf := jif_f c1_11 hf
  by_cases c1_12 : a1 = 12
  · replace hf := jif_t c1_12 hf
    refine J_tableIn (off := 196) (tgt := 197) E (jd dk_X6_count_0 1 rfl) (by rw [c1_12]; decide) (by rw [c1_12]; decide) (by rw [c1_12]; decide) (by decide) ?_
    refine J_aload_n E (jd dk_X6_count_1 11 rfl) rfl 0 rfl ?_
    obtain ⟨x73, e74, hf⟩ := jbind hf
    refine J_getr E (jd dk_X6_count_1 12 rfl) fl_RX6_37 e74 ?_
    obtain ⟨x75, e76, hf⟩ := jbind hf
    refine J_getr E (jd dk_X6_count_1 13 rfl) fl_RX6_94 e76 ?_
    refine J_iconst (v := 0) E (jd dk_X6_count_1 14 rfl) rfl ?_
    obtain ⟨x77, e78, hf⟩ := jbind hf
    refine J_iald E (jd dk_X6_count_1 15 rfl) e78 ?_
    cases hf
    exact J_x (J_iret E hr rfl (jd dk_X6_count_1 16 rfl) (by decide) (by decide) ⟨_, rfl, rfl, rfl⟩)
  replace hf := jif_f c1_12 hf
  by_cases c1_13 : a1 = 13
  · replace hf := jif_t c1_13 hf
    refine J_tableIn (off := 206) (tgt := 207) E (jd dk_X6_count_0 1 rfl) (by rw [c1_13]; decide) (by rw [c1_13]; decide) (by rw [c1_13]; decide) (by decide) ?_
    refine J_aload_n E (jd dk_X6_count_1 17 rfl) rfl 0 rfl ?_
    obtain ⟨x79, e80, hf⟩ := jbind hf
    refine J_getr E (jd dk_X6_count_1 18 rfl) fl_RX6_37 e80 ?_
    obtain ⟨x81, e82, hf⟩ := jbind hf
    refine J_getr E (jd dk_X6_count_1 19 rfl) fl_RX6_94 e82 ?_
    refine J_iconst (v := 1) E (jd dk_X6_count_1 20 rfl) rfl ?_
    obtain ⟨x83, e84, hf⟩ := jbind hf
    refine J_iald E (jd dk_X6_count_1 21 rfl) e84 ?_
    cases hf
    exact J_x (J_iret E hr rfl (jd dk_X6_count_1 22 rfl) (by decide) (by decide) ⟨_, rfl, rfl, rfl⟩)
  replace hf := jif_f c1_13 hf
  by_cases c1_14 : a1 = 14
  · replace hf := jif_t c1_14 hf
    refine J_tableIn (off := 216) (tgt := 217) E (jd dk_X6_count_0 1 rfl) (by rw [c1_14]; decide) (by rw [c1_14]; decide) (by rw [c1_14]; decide) (by decide) ?_
    refine J_aload_n E (jd dk_X6_count_1 23 rfl) rfl 0 rfl ?_
    obtain ⟨x85, e86, hf⟩ := jbind hf
    refine J_getr E (jd dk_X6_count_1 24 rfl) fl_RX6_37 e86 ?_
    obtain ⟨x87, e88, hf⟩ := jbind hf
    refine J_getr E (jd dk_X6_count_1 25 rfl) fl_RX6_94 e88 ?_
    refine J_iconst (v := 2) E (jd dk_X6_count_1 26 rfl) rfl ?_
    obtain ⟨x89, e90, hf⟩ := jbind hf
    refine J_iald E (jd dk_X6_count_1 27 rfl) e90 ?_
    cases hf
    exact J_x (J_iret E hr rfl (jd dk_X6_count_1 28 rfl) (by decide) (by decide) ⟨_, rfl, rfl, rfl⟩)
  replace hf := jif_f c1_14 hf
  refine J_tableOut (tgt := 227) E (jd dk_X6_count_0 1 rfl) (jsw (v := 14) (jsw (v := 13) (jsw (v := 12) (jsw (v := 11) (jsw (v := 10) (jsw (v := 9) (jsw (v := 8) (jsw (v := 7) (jsw (v := 6) (jsw (v := 5) (jsw (v := 4) (jsw (v := 3) (jsw (v := 2) (jsw (v := 1) (jsw (v := 0) (jsw0 (x := a1) (0)) (by decide) c1_0) (by decide) c1_1) (by decide) c1_2) (by decide) c1_3) (by decide) c1_4) (by decide) c1_5) (by decide) c1_6) (by decide) c1_7) (by decide) c1_8) (by decide) c1_9) (by decide) c1_10) (by decide) c1_11) (by decide) c1_12) (by decide) c1_13) (by decide) c1_14) (by decide) ?_
  cases hf
  exact J_throwN (j := 17) (text := "no such what") E thr_1 rfl htab (jd dk_X6_count_1 29 rfl) (jd dk_X6_count_1 30 rfl) (jd dk_X6_count_1 31 rfl) (jd dk_X6_count_1 32 rfl) (jd dk_X6_count_1 33 rfl) (Nat.le_of_ble_eq_true rfl) (jRc hX (by decide) (by decide)) (by decide) (by decide) ⟨1, rfl, rfl, rfl⟩
def f_X6_needReach_b15 (N : Nat)  (h : AH) : Option ((Nat ⊕ Unit) × AH) :=
  some (.inl 1, h)
def f_X6_needReach (N : Nat) (h : AH) (a0 : Nat) (a1 : Int32) : Option ((Nat ⊕ Unit) × AH) :=
  if a1 < 0 then f_X6_needReach_b15 N  h
  else (jgr 6 h a0 4).bind fun x2 =>
  (jgi 1 h x2 1).bind fun x4 =>
  if a1 < x4 then some (.inr (), h)
  else f_X6_needReach_b15 N  h
set_option maxRecDepth 100000 in
set_option maxHeartbeats 4000000 in
theorem lk_X6_needReach_b15 {G : JG} {X : JX} (E : jE G X (RX6, cX6_needReach, 2)) (hX : X.2.2.2.1 = jRm 1 1 6) (hr : X.2.2.2.2.2.2.2.2.1.sig.returnType = none) (htab : ∀ x ∈ X.2.2.2.2.2.2.2.2.2.exceptionTable.toList, False) (N : Nat)  {h : AH}  {r : ((Nat ⊕ Unit) × AH)} (hf : f_X6_needReach_b15 N  h = some r) : JW G X (RX6, cX6_needReach, 2) h [] [] 15 0 0 (jEndX G X (jpXv r) (jpXx r) 1 6) := by
  unfold f_X6_needReach_b15 at hf
  cases hf
  exact J_throwNW (j := 18) (text := "no such reach") E thr_1 rfl htab (jd dk_X6_needReach_0 7 rfl) (jd dk_X6_needReach_0 8 rfl) (jd dk_X6_needReach_0 9 rfl) (jd dk_X6_needReach_0 10 rfl) (jd dk_X6_needReach_0 11 rfl) (Nat.le_of_ble_eq_true rfl) (jRc hX (by decide) (by decide)) (by decide) (by decide) ⟨1, rfl, rfl, rfl⟩
set_option maxRecDepth 100000 in
set_option maxHeartbeats 4000000 in
theorem lk_X6_needReach {G : JG} {l : Launch} (hG : jG G) (htr : l.stackTraces = false) (N : Nat) {h : AH} {a0 : Nat} {a1 : Int32} {r : ((Nat ⊕ Unit) × AH)} (hf : f_X6_needReach N h a0 a1 = some r) : jMetX G l yX6_needReach cX6_needReach 2 none 1 1 6 [.ref a0, .int a1] h (jpXv r) (jpXx r) := by
  unfold f_X6_needReach at hf
  refine jMetX_of hG htr (by decide) (Nat.le_of_ble_eq_true rfl) ?_
  intro X E hl9 hr hX htab
  show JW G X (RX6, cX6_needReach, 2) h [(0, .ref a0), (1, .int a1)] [] 0 0 0 (jEndX G X (jpXv r) (jpXx r) 1 6)
  refine J_iload_n E (jd dk_X6_needReach_0 0 rfl) rfl 1 rfl ?_
  refine J_if_lt (tgt := 15) E (jd dk_X6_needReach_0 1 rfl) (by decide) (fun c1 => ?_) (fun c1 => ?_)
  · replace hf := jif_t c1 hf
    refine J_sub [] rfl ?_
    exact lk_X6_needReach_b15 E hX hr htab N hf
  · replace hf := jif_f c1 hf
    refine J_iload_n E (jd dk_X6_needReach_0 2 rfl) rfl 1 rfl ?_
    refine J_aload_n E (jd dk_X6_needReach_0 3 rfl) rfl 0 rfl ?_
    obtain ⟨x2, e3, hf⟩ := jbind hf
    refine J_getr E (jd dk_X6_needReach_0 4 rfl) fl_RX6_30 e3 ?_
    obtain ⟨x4, e5, hf⟩ := jbind hf
    refine J_geti E (jd dk_X6_needReach_0 5 rfl) fl_RX6_107 e5 ?_
    refine J_icmp_lt (tgt := 26) E (jd dk_X6_needReach_0 6 rfl) (by decide) (fun c6 => ?_) (fun c6 => ?_)
    · replace hf := jif_t c6 hf
      cases hf
      exact J_x (J_vret E hr (jd dk_X6_needReach_0 12 rfl) (by decide) (by decide) ⟨rfl, rfl, rfl⟩)
    · replace hf := jif_f c6 hf
      refine J_sub [] rfl ?_
      exact lk_X6_needReach_b15 E hX hr htab N hf
def f_X6_needWhat_b9 (N : Nat)  (h : AH) : Option ((Nat ⊕ Unit) × AH) :=
  some (.inl 1, h)
def f_X6_needWhat (N : Nat) (h : AH) (a0 : Int32) (a1 : Int32) : Option ((Nat ⊕ Unit) × AH) :=
  if a0 < 0 then f_X6_needWhat_b9 N  h
  else if a0 ≤ a1 then some (.inr (), h)
  else f_X6_needWhat_b9 N  h
set_option maxRecDepth 100000 in
set_option maxHeartbeats 4000000 in
theorem lk_X6_needWhat_b9 {G : JG} {X : JX} (E : jE G X (RX6, cX6_needWhat, 2)) (hX : X.2.2.2.1 = jRm 1 1 6) (hr : X.2.2.2.2.2.2.2.2.1.sig.returnType = none) (htab : ∀ x ∈ X.2.2.2.2.2.2.2.2.2.exceptionTable.toList, False) (N : Nat)  {h : AH}  {r : ((Nat ⊕ Unit) × AH)} (hf : f_X6_needWhat_b9 N  h = some r) : JW G X (RX6, cX6_needWhat, 2) h [] [] 9 0 0 (jEndX G X (jpXv r) (jpXx r) 1 6) := by
  unfold f_X6_needWhat_b9 at hf
  cases hf
  exact J_throwN (j := 17) (text := "no such what") E thr_1 rfl htab (jd dk_X6_needWhat_0 5 rfl) (jd dk_X6_needWhat_0 6 rfl) (jd dk_X6_needWhat_0 7 rfl) (jd dk_X6_needWhat_0 8 rfl) (jd dk_X6_needWhat_0 9 rfl) (Nat.le_of_ble_eq_true rfl) (jRc hX (by decide) (by decide)) (by decide) (by decide) ⟨1, rfl, rfl, rfl⟩
set_option maxRecDepth 100000 in
set_option maxHeartbeats 4000000 in
theorem lk_X6_needWhat {G : JG} {l : Launch} (hG : jG G) (htr : l.stackTraces = false) (N : Nat) {h : AH} {a0 : Int32} {a1 : Int32} {r : ((Nat ⊕ Unit) × AH)} (hf : f_X6_needWhat N h a0 a1 = some r) : jMetX G l yX6_needWhat cX6_needWhat 2 none 1 1 6 [.int a0, .int a1] h (jpXv r) (jpXx r) := by
  unfold f_X6_needWhat at hf
  refine jMetX_of hG htr (by decide) (Nat.le_of_ble_eq_true rfl) ?_
  intro X E hl9 hr hX htab
  show JW G X (RX6, cX6_needWhat, 2) h [(0, .int a0), (1, .int a1)] [] 0 0 0 (jEndX G X (jpXv r) (jpXx r) 1 6)
  refine J_iload_n E (jd dk_X6_needWhat_0 0 rfl) rfl 0 rfl ?_
  refine J_if_lt (tgt := 9) E (jd dk_X6_needWhat_0 1 rfl) (by decide) (fun c1 => ?_) (fun c1 => ?_)
  · replace hf := jif_t c1 hf
    refine J_sub [] rfl ?_
    exact lk_X6_needWhat_b9 E hX hr htab N hf
  · replace hf := jif_f c1 hf
    refine J_iload_n E (jd dk_X6_needWhat_0 2 rfl) rfl 0 rfl ?_
    refine J_iload_n E (jd dk_X6_needWhat_0 3 rfl) rfl 1 rfl ?_
    refine J_icmp_le (tgt := 19) E (jd dk_X6_needWhat_0 4 rfl) (by decide) (fun c2 => ?_) (fun c2 => ?_)
    · replace hf := jif_t c2 hf
      cases hf
      exact J_x (J_vret E hr (jd dk_X6_needWhat_0 10 rfl) (by decide) (by decide) ⟨rfl, rfl, rfl⟩)
    · replace hf := jif_f c2 hf
      refine J_sub [] rfl ?_
      exact lk_X6_needWhat_b9 E hX hr htab N hf
def f_X6_reach (N : Nat) (h : AH) (a0 : Nat) (a1 : Int32) (a2 : Int32) : Option ((Nat ⊕ Int32) × AH) :=
  (jck 6 h a0).bind fun _ =>
  (f_X6_needReach N h a0 a1).bind fun r1 => Sum.elim (fun k => some (.inl k, r1.2)) (fun _ =>
  (f_X6_needWhat N r1.2 a2 2).bind fun r6 => Sum.elim (fun k => some (.inl k, r6.2)) (fun _ =>
  if a2 = 0 then (jgr 6 r6.2 a0 5).bind fun x29 =>
  (jgr 0 r6.2 x29 0).bind fun x31 =>
  (jgr 5 r6.2 x31 6).bind fun x33 =>
  (jal 0 r6.2 x33 a1).bind fun x35 =>
  some (.inr x35, r6.2)
  else if a2 = 1 then (jgr 6 r6.2 a0 5).bind fun x21 =>
  (jgr 0 r6.2 x21 0).bind fun x23 =>
  (jgr 5 r6.2 x23 7).bind fun x25 =>
  (jal 0 r6.2 x25 a1).bind fun x27 =>
  some (.inr x27, r6.2)
  else (jgr 6 r6.2 a0 5).bind fun x11 =>
  (jgr 0 r6.2 x11 0).bind fun x13 =>
  (jgr 6 r6.2 a0 4).bind fun x15 =>
  (jck 5 r6.2 x13).bind fun _ =>
  (f_X5_onesOn N r6.2 x13 x15 a1).bind fun r17 =>
  some (.inr r17.1, r17.2)) r6.1) r1.1
set_option maxRecDepth 100000 in
set_option maxHeartbeats 4000000 in
theorem lk_X6_reach {G : JG} {l : Launch} (hG : jG G) (htr : l.stackTraces = false) (N : Nat) {h : AH} {a0 : Nat} {a1 : Int32} {a2 : Int32} {r : ((Nat ⊕ Int32) × AH)} (hf : f_X6_reach N h a0 a1 a2 = some r) : jMetX G l yX6_reach cX6_reach 3 (some .int) 2 2 12 [.ref a0, .int a1, .int a2] h (jpXi r) (jpXx r) := by
  unfold f_X6_reach at hf
  refine jMetX_of hG htr (by decide) (Nat.le_of_ble_eq_true rfl) ?_
  intro X E hl9 hr hX htab
  show JW G X (RX6, cX6_reach, 3) h [(0, .ref a0), (1, .int a1), (2, .int a2)] [] 0 0 0 (jEndX G X (jpXi r) (jpXx r) 2 12)
  refine J_aload_n E (jd dk_X6_reach_0 0 rfl) rfl 0 rfl ?_
  refine J_iload_n E (jd dk_X6_reach_0 1 rfl) rfl 1 rfl ?_
  obtain ⟨u3, e4, hf⟩ := jbind hf
  obtain ⟨r1, e2, hf⟩ := jbind hf
  obtain ⟨r1a, r1b⟩ := r1
  refine J_callVX E (jd dk_X6_reach_0 2 rfl) ml_RX6_159 cal_X6_needReach e4 rfl (lk_X6_needReach (jE_g E) (jE_tr E) N e2) rfl (Nat.le_of_ble_eq_true rfl) (jR_le hX (by decide) (by decide)) (jFx hX (by decide) (by decide)) rfl ?_ ?_
  rotate_left
  · rintro _ _ ⟨k9, rfl, rfl, rfl⟩
    replace hf := Option.some.inj hf
    subst hf
    exact J_out E htab (by decide) (by decide) ⟨_, rfl, rfl, rfl⟩
  rintro _ _ ⟨rfl, rfl, rfl⟩
  replace hf : _ = some _ := hf
  refine J_iload_n E (jd dk_X6_reach_0 3 rfl) rfl 2 rfl ?_
  refine J_iconst (v := 2) E (jd dk_X6_reach_0 4 rfl) rfl ?_
  obtain ⟨r6, e7, hf⟩ := jbind hf
  obtain ⟨r6a, r6b⟩ := r6
  refine J_callSX E (jd dk_X6_reach_0 5 rfl) ml_RX6_162 cal_X6_needWhat (lk_X6_needWhat (jE_g E) (jE_tr E) N e7) rfl (Nat.le_of_ble_eq_true rfl) (jR_le hX (by decide) (by decide)) (jFx hX (by decide) (by decide)) rfl ?_ ?_
  rotate_left
  · rintro _ _ ⟨k9, rfl, rfl, rfl⟩
    replace hf := Option.some.inj hf
    subst hf
    exact J_out E htab (by decide) (by decide) ⟨_, rfl, rfl, rfl⟩
  rintro _ _ ⟨rfl, rfl, rfl⟩
  replace hf : _ = some _ := hf
  refine J_iload_n E (jd dk_X6_reach_0 6 rfl) rfl 2 rfl ?_
  refine J_if_ne (tgt := 27) E (jd dk_X6_reach_0 7 rfl) (by decide) (fun c9 => ?_) (fun c9 => ?_)
  · replace hf := jif_f c9 hf
    refine J_iload_n E (jd dk_X6_reach_0 15 rfl) rfl 2 rfl ?_
    refine J_iconst (v := 1) E (jd dk_X6_reach_0 16 rfl) rfl ?_
    refine J_icmp_ne (tgt := 47) E (jd dk_X6_reach_0 17 rfl) (by decide) (fun c10 => ?_) (fun c10 => ?_)
    · replace hf := jif_f c10 hf
      refine J_aload_n E (jd dk_X6_reach_0 25 rfl) rfl 0 rfl ?_
      obtain ⟨x11, e12, hf⟩ := jbind hf
      refine J_getr E (jd dk_X6_reach_0 26 rfl) fl_RX6_37 e12 ?_
      obtain ⟨x13, e14, hf⟩ := jbind hf
      refine J_getr E (jd dk_X6_reach_0 27 rfl) fl_RX6_113 e14 ?_
      refine J_aload_n E (jd dk_X6_reach_0 28 rfl) rfl 0 rfl ?_
      obtain ⟨x15, e16, hf⟩ := jbind hf
      refine J_getr E (jd dk_X6_reach_0 29 rfl) fl_RX6_30 e16 ?_
      refine J_iload_n E (jd dk_X6_reach_0 30 rfl) rfl 1 rfl ?_
      obtain ⟨u19, e20, hf⟩ := jbind hf
      obtain ⟨r17, e18, hf⟩ := jbind hf
      refine J_callV E (jd dk_X6_reach_0 31 rfl) ml_RX6_172 cal_X5_onesOn e20 rfl (lk_X5_onesOn (jE_g E) (jE_tr E) N e18) rfl (Nat.le_of_ble_eq_true rfl) (jR_le hX (by decide) (by decide)) (jFx hX (by decide) (by decide)) rfl ?_
      rintro _ _ ⟨rfl, rfl⟩
      cases hf
      exact J_x (J_iret E hr rfl (jd dk_X6_reach_0 32 rfl) (by decide) (by decide) ⟨_, rfl, rfl, rfl⟩)
    · replace hf := jif_t c10 hf
      refine J_aload_n E (jd dk_X6_reach_0 18 rfl) rfl 0 rfl ?_
      obtain ⟨x21, e22, hf⟩ := jbind hf
      refine J_getr E (jd dk_X6_reach_0 19 rfl) fl_RX6_37 e22 ?_
      obtain ⟨x23, e24, hf⟩ := jbind hf
      refine J_getr E (jd dk_X6_reach_0 20 rfl) fl_RX6_113 e24 ?_
      obtain ⟨x25, e26, hf⟩ := jbind hf
      refine J_getr E (jd dk_X6_reach_0 21 rfl) fl_RX6_169 e26 ?_
      refine J_iload_n E (jd dk_X6_reach_0 22 rfl) rfl 1 rfl ?_
      obtain ⟨x27, e28, hf⟩ := jbind hf
      refine J_iald E (jd dk_X6_reach_0 23 rfl) e28 ?_
      refine J_goto (tgt := 62) E (jd dk_X6_reach_0 24 rfl) (by decide) ?_
      cases hf
      exact J_x (J_iret E hr rfl (jd dk_X6_reach_0 32 rfl) (by decide) (by decide) ⟨_, rfl, rfl, rfl⟩)
  · replace hf := jif_t c9 hf
    refine J_aload_n E (jd dk_X6_reach_0 8 rfl) rfl 0 rfl ?_
    obtain ⟨x29, e30, hf⟩ := jbind hf
    refine J_getr E (jd dk_X6_reach_0 9 rfl) fl_RX6_37 e30 ?_
    obtain ⟨x31, e32, hf⟩ := jbind hf
    refine J_getr E (jd dk_X6_reach_0 10 rfl) fl_RX6_113 e32 ?_
    obtain ⟨x33, e34, hf⟩ := jbind hf
    refine J_getr E (jd dk_X6_reach_0 11 rfl) fl_RX6_166 e34 ?_
    refine J_iload_n E (jd dk_X6_reach_0 12 rfl) rfl 1 rfl ?_
    obtain ⟨x35, e36, hf⟩ := jbind hf
    refine J_iald E (jd dk_X6_reach_0 13 rfl) e36 ?_
    cases hf
    exact J_x (J_iret E hr rfl (jd dk_X6_reach_0 14 rfl) (by decide) (by decide) ⟨_, rfl, rfl, rfl⟩)
def f_X6_needJudge_b15 (N : Nat)  (h : AH) : Option ((Nat ⊕ Unit) × AH) :=
  some (.inl 1, h)
def f_X6_needJudge (N : Nat) (h : AH) (a0 : Nat) (a1 : Int32) : Option ((Nat ⊕ Unit) × AH) :=
  if a1 < 0 then f_X6_needJudge_b15 N  h
  else (jgr 6 h a0 4).bind fun x2 =>
  (jgi 1 h x2 2).bind fun x4 =>
  if a1 < x4 then some (.inr (), h)
  else f_X6_needJudge_b15 N  h
set_option maxRecDepth 100000 in
set_option maxHeartbeats 4000000 in
theorem lk_X6_needJudge_b15 {G : JG} {X : JX} (E : jE G X (RX6, cX6_needJudge, 2)) (hX : X.2.2.2.1 = jRm 1 1 6) (hr : X.2.2.2.2.2.2.2.2.1.sig.returnType = none) (htab : ∀ x ∈ X.2.2.2.2.2.2.2.2.2.exceptionTable.toList, False) (N : Nat)  {h : AH}  {r : ((Nat ⊕ Unit) × AH)} (hf : f_X6_needJudge_b15 N  h = some r) : JW G X (RX6, cX6_needJudge, 2) h [] [] 15 0 0 (jEndX G X (jpXv r) (jpXx r) 1 6) := by
  unfold f_X6_needJudge_b15 at hf
  cases hf
  exact J_throwNW (j := 19) (text := "no such judge") E thr_1 rfl htab (jd dk_X6_needJudge_0 7 rfl) (jd dk_X6_needJudge_0 8 rfl) (jd dk_X6_needJudge_0 9 rfl) (jd dk_X6_needJudge_0 10 rfl) (jd dk_X6_needJudge_0 11 rfl) (Nat.le_of_ble_eq_true rfl) (jRc hX (by decide) (by decide)) (by decide) (by decide) ⟨1, rfl, rfl, rfl⟩
set_option maxRecDepth 100000 in
set_option maxHeartbeats 4000000 in
theorem lk_X6_needJudge {G : JG} {l : Launch} (hG : jG G) (htr : l.stackTraces = false) (N : Nat) {h : AH} {a0 : Nat} {a1 : Int32} {r : ((Nat ⊕ Unit) × AH)} (hf : f_X6_needJudge N h a0 a1 = some r) : jMetX G l yX6_needJudge cX6_needJudge 2 none 1 1 6 [.ref a0, .int a1] h (jpXv r) (jpXx r) := by
  unfold f_X6_needJudge at hf
  refine jMetX_of hG htr (by decide) (Nat.le_of_ble_eq_true rfl) ?_
  intro X E hl9 hr hX htab
  show JW G X (RX6, cX6_needJudge, 2) h [(0, .ref a0), (1, .int a1)] [] 0 0 0 (jEndX G X (jpXv r) (jpXx r) 1 6)
  refine J_iload_n E (jd dk_X6_needJudge_0 0 rfl) rfl 1 rfl ?_
  refine J_if_lt (tgt := 15) E (jd dk_X6_needJudge_0 1 rfl) (by decide) (fun c1 => ?_) (fun c1 => ?_)
  · replace hf := jif_t c1 hf
    refine J_sub [] rfl ?_
    exact lk_X6_needJudge_b15 E hX hr htab N hf
  · replace hf := jif_f c1 hf
    refine J_iload_n E (jd dk_X6_needJudge_0 2 rfl) rfl 1 rfl ?_
    refine J_aload_n E (jd dk_X6_needJudge_0 3 rfl) rfl 0 rfl ?_
    obtain ⟨x2, e3, hf⟩ := jbind hf
    refine J_getr E (jd dk_X6_needJudge_0 4 rfl) fl_RX6_30 e3 ?_
    obtain ⟨x4, e5, hf⟩ := jbind hf
    refine J_geti E (jd dk_X6_needJudge_0 5 rfl) fl_RX6_110 e5 ?_
    refine J_icmp_lt (tgt := 26) E (jd dk_X6_needJudge_0 6 rfl) (by decide) (fun c6 => ?_) (fun c6 => ?_)
    · replace hf := jif_t c6 hf
      cases hf
      exact J_x (J_vret E hr (jd dk_X6_needJudge_0 12 rfl) (by decide) (by decide) ⟨rfl, rfl, rfl⟩)
    · replace hf := jif_f c6 hf
      refine J_sub [] rfl ?_
      exact lk_X6_needJudge_b15 E hX hr htab N hf
def f_X6_judge (N : Nat) (h : AH) (a0 : Nat) (a1 : Int32) (a2 : Int32) : Option ((Nat ⊕ Int32) × AH) :=
  (jck 6 h a0).bind fun _ =>
  (f_X6_needJudge N h a0 a1).bind fun r1 => Sum.elim (fun k => some (.inl k, r1.2)) (fun _ =>
  if a2 = 0 then (jgr 6 r1.2 a0 5).bind fun x6 =>
  (jgr 0 r1.2 x6 0).bind fun x8 =>
  (jgr 5 r1.2 x8 1).bind fun x10 =>
  (jal 0 r1.2 x10 a1).bind fun x12 =>
  some (.inr x12, r1.2)
  else if a2 = 1 then (jgr 6 r1.2 a0 5).bind fun x14 =>
  (jgr 0 r1.2 x14 0).bind fun x16 =>
  (jgr 5 r1.2 x16 2).bind fun x18 =>
  (jal 0 r1.2 x18 a1).bind fun x20 =>
  some (.inr x20, r1.2)
  else if a2 = 2 then (jgr 6 r1.2 a0 5).bind fun x22 =>
  (jgr 0 r1.2 x22 0).bind fun x24 =>
  (jgr 5 r1.2 x24 3).bind fun x26 =>
  (jal 0 r1.2 x26 a1).bind fun x28 =>
  some (.inr x28, r1.2)
  else if a2 = 3 then (jgr 6 r1.2 a0 4).bind fun x30 =>
  (jgr 1 r1.2 x30 6).bind fun x32 =>
  (jal 0 r1.2 x32 a1).bind fun x34 =>
  some (.inr x34, r1.2)
  else if a2 = 4 then (jgr 6 r1.2 a0 4).bind fun x36 =>
  (jgr 1 r1.2 x36 7).bind fun x38 =>
  (jal 0 r1.2 x38 a1).bind fun x40 =>
  some (.inr x40, r1.2)
  else if a2 = 5 then (jgr 6 r1.2 a0 4).bind fun x42 =>
  (jgr 1 r1.2 x42 8).bind fun x44 =>
  (jal 2 r1.2 x44 a1).bind fun x46 =>
  if x46 = 0 then some (.inr 0, r1.2)
  else some (.inr 1, r1.2)
  else some (.inl 1, r1.2)) r1.1
set_option maxRecDepth 100000 in
set_option maxHeartbeats 4000000 in
theorem lk_X6_judge {G : JG} {l : Launch} (hG : jG G) (htr : l.stackTraces = false) (N : Nat) {h : AH} {a0 : Nat} {a1 : Int32} {a2 : Int32} {r : ((Nat ⊕ Int32) × AH)} (hf : f_X6_judge N h a0 a1 a2 = some r) : jMetX G l yX6_judge cX6_judge 3 (some .int) 2 2 12 [.ref a0, .int a1, .int a2] h (jpXi r) (jpXx r) := by
  unfold f_X6_judge at hf
  refine jMetX_of hG htr (by decide) (Nat.le_of_ble_eq_true rfl) ?_
  intro X E hl9 hr hX htab
  show JW G X (RX6, cX6_judge, 3) h [(0, .ref a0), (1, .int a1), (2, .int a2)] [] 0 0 0 (jEndX G X (jpXi r) (jpXx r) 2 12)
  refine J_aload_n E (jd dk_X6_judge_0 0 rfl) rfl 0 rfl ?_
  refine J_iload_n E (jd dk_X6_judge_0 1 rfl) rfl 1 rfl ?_
  obtain ⟨u3, e4, hf⟩ := jbind hf
  obtain ⟨r1, e2, hf⟩ := jbind hf
  obtain ⟨r1a, r1b⟩ := r1
  refine J_callVX E (jd dk_X6_judge_0 2 rfl) ml_RX6_176 cal_X6_needJudge e4 rfl (lk_X6_needJudge (jE_g E) (jE_tr E) N e2) rfl (Nat.le_of_ble_eq_true rfl) (jR_le hX (by decide) (by decide)) (jFx hX (by decide) (by decide)) rfl ?_ ?_
  rotate_left
  · rintro _ _ ⟨k9, rfl, rfl, rfl⟩
    replace hf := Option.some.inj hf
    subst hf
    exact J_out E htab (by decide) (by decide) ⟨_, rfl, rfl, rfl⟩
  rintro _ _ ⟨rfl, rfl, rfl⟩
  replace hf : _ = some _ := hf
  refine J_iload_n E (jd dk_X6_judge_0 3 rfl) rfl 2 rfl ?_
  by_cases c6_0 : a2 = 0
  · replace hf := jif_t c6_0 hf
    refine J_tableIn (off := 38) (tgt := 44) E (jd dk_X6_judge_0 4 rfl) (by rw [c6_0]; decide) (by rw [c6_0]; decide) (by rw [c6_0]; decide) (by decide) ?_
    refine J_aload_n E (jd dk_X6_judge_0 5 rfl) rfl 0 rfl ?_
    obtain ⟨x6, e7, hf⟩ := jbind hf
    refine J_getr E (jd dk_X6_judge_0 6 rfl) fl_RX6_37 e7 ?_
    obtain ⟨x8, e9, hf⟩ := jbind hf
    refine J_getr E (jd dk_X6_judge_0 7 rfl) fl_RX6_113 e9 ?_
    obtain ⟨x10, e11, hf⟩ := jbind hf
    refine J_getr E (jd dk_X6_judge_0 8 rfl) fl_RX6_179 e11 ?_
    refine J_iload_n E (jd dk_X6_judge_0 9 rfl) rfl 1 rfl ?_
    obtain ⟨x12, e13, hf⟩ := jbind hf
    refine J_iald E (jd dk_X6_judge_0 10 rfl) e13 ?_
    cases hf
    exact J_x (J_iret E hr rfl (jd dk_X6_judge_0 11 rfl) (by decide) (by decide) ⟨_, rfl, rfl, rfl⟩)
  replace hf := jif_f c6_0 hf
  by_cases c6_1 : a2 = 1
  · replace hf := jif_t c6_1 hf
    refine J_tableIn (off := 51) (tgt := 57) E (jd dk_X6_judge_0 4 rfl) (by rw [c6_1]; decide) (by rw [c6_1]; decide) (by rw [c6_1]; decide) (by decide) ?_
    refine J_aload_n E (jd dk_X6_judge_0 12 rfl) rfl 0 rfl ?_
    obtain ⟨x14, e15, hf⟩ := jbind hf
    refine J_getr E (jd dk_X6_judge_0 13 rfl) fl_RX6_37 e15 ?_
    obtain ⟨x16, e17, hf⟩ := jbind hf
    refine J_getr E (jd dk_X6_judge_0 14 rfl) fl_RX6_113 e17 ?_
    obtain ⟨x18, e19, hf⟩ := jbind hf
    refine J_getr E (jd dk_X6_judge_0 15 rfl) fl_RX6_182 e19 ?_
    refine J_iload_n E (jd dk_X6_judge_0 16 rfl) rfl 1 rfl ?_
    obtain ⟨x20, e21, hf⟩ := jbind hf
    refine J_iald E (jd dk_X6_judge_0 17 rfl) e21 ?_
    cases hf
    exact J_x (J_iret E hr rfl (jd dk_X6_judge_0 18 rfl) (by decide) (by decide) ⟨_, rfl, rfl, rfl⟩)
  replace hf := jif_f c6_1 hf
  by_cases c6_2 : a2 = 2
  · replace hf := jif_t c6_2 hf
    refine J_tableIn (off := 64) (tgt := 70) E (jd dk_X6_judge_0 4 rfl) (by rw [c6_2]; decide) (by rw [c6_2]; decide) (by rw [c6_2]; decide) (by decide) ?_
    refine J_aload_n E (jd dk_X6_judge_0 19 rfl) rfl 0 rfl ?_
    obtain ⟨x22, e23, hf⟩ := jbind hf
    refine J_getr E (jd dk_X6_judge_0 20 rfl) fl_RX6_37 e23 ?_
    obtain ⟨x24, e25, hf⟩ := jbind hf
    refine J_getr E (jd dk_X6_judge_0 21 rfl) fl_RX6_113 e25 ?_
    obtain ⟨x26, e27, hf⟩ := jbind hf
    refine J_getr E (jd dk_X6_judge_0 22 rfl) fl_RX6_147 e27 ?_
    refine J_iload_n E (jd dk_X6_judge_0 23 rfl) rfl 1 rfl ?_
    obtain ⟨x28, e29, hf⟩ := jbind hf
    refine J_iald E (jd dk_X6_judge_0 24 rfl) e29 ?_
    cases hf
    exact J_x (J_iret E hr rfl (jd dk_X6_judge_0 25 rfl) (by decide) (by decide) ⟨_, rfl, rfl, rfl⟩)
  replace hf := jif_f c6_2 hf
  by_cases c6_3 : a2 = 3
  · replace hf := jif_t c6_3 hf
    refine J_tableIn (off := 77) (tgt := 83) E (jd dk_X6_judge_0 4 rfl) (by rw [c6_3]; decide) (by rw [c6_3]; decide) (by rw [c6_3]; decide) (by decide) ?_
    refine J_aload_n E (jd dk_X6_judge_0 26 rfl) rfl 0 rfl ?_
    obtain ⟨x30, e31, hf⟩ := jbind hf
    refine J_getr E (jd dk_X6_judge_0 27 rfl) fl_RX6_30 e31 ?_
    obtain ⟨x32, e33, hf⟩ := jbind hf
    refine J_getr E (jd dk_X6_judge_0 28 rfl) fl_RX6_185 e33 ?_
    refine J_iload_n E (jd dk_X6_judge_0 29 rfl) rfl 1 rfl ?_
    obtain ⟨x34, e35, hf⟩ := jbind hf
    refine J_iald E (jd dk_X6_judge_0 30 rfl) e35 ?_
    cases hf
    exact J_x (J_iret E hr rfl (jd dk_X6_judge_0 31 rfl) (by decide) (by decide) ⟨_, rfl, rfl, rfl⟩)
  replace hf := jif_f c6_3 hf
  by_cases c6_4 : a2 = 4
  · replace hf := jif_t c6_4 hf
    refine J_tableIn (off := 87) (tgt := 93) E (jd dk_X6_judge_0 4 rfl) (by rw [c6_4]; decide) (by rw [c6_4]; decide) (by rw [c6_4]; decide) (by decide) ?_
    refine J_aload_n E (jd dk_X6_judge_0 32 rfl) rfl 0 rfl ?_
    obtain ⟨x36, e37, hf⟩ := jbind hf
    refine J_getr E (jd dk_X6_judge_0 33 rfl) fl_RX6_30 e37 ?_
    obtain ⟨x38, e39, hf⟩ := jbind hf
    refine J_getr E (jd dk_X6_judge_0 34 rfl) fl_RX6_188 e39 ?_
    refine J_iload_n E (jd dk_X6_judge_0 35 rfl) rfl 1 rfl ?_
    obtain ⟨x40, e41, hf⟩ := jbind hf
    refine J_iald E (jd dk_X6_judge_0 36 rfl) e41 ?_
    cases hf
    exact J_x (J_iret E hr rfl (jd dk_X6_judge_0 37 rfl) (by decide) (by decide) ⟨_, rfl, rfl, rfl⟩)
  replace hf := jif_f c6_4 hf
  by_cases c6_5 : a2 = 5
  · replace hf := jif_t c6_5 hf
    refine J_tableIn (off := 97) (tgt := 103) E (jd dk_X6_judge_0 4 rfl) (by rw [c6_5]; decide) (by rw [c6_5]; decide) (by rw [c6_5]; decide) (by decide) ?_
    refine J_aload_n E (jd dk_X6_judge_0 38 rfl) rfl 0 rfl ?_
    obtain ⟨x42, e43, hf⟩ := jbind hf
    refine J_getr E (jd dk_X6_judge_0 39 rfl) fl_RX6_30 e43 ?_
    obtain ⟨x44, e45, hf⟩ := jbind hf
    refine J_getr E (jd dk_X6_judge_0 40 rfl) fl_RX6_191 e45 ?_
    refine J_iload_n E (jd dk_X6_judge_0 41 rfl) rfl 1 rfl ?_
    obtain ⟨x46, e47, hf⟩ := jbind hf
    refine J_zald E (jd dk_X6_judge_0 42 rfl) e47 ?_
    refine J_if_eq (tgt := 119) E (jd dk_X6_judge_0 43 rfl) (by decide) (fun c48 => ?_) (fun c48 => ?_)
    · replace hf := jif_t c48 hf
      refine J_iconst (v := 0) E (jd dk_X6_judge_0 46 rfl) rfl ?_
      cases hf
      exact J_x (J_iret E hr rfl (jd dk_X6_judge_0 47 rfl) (by decide) (by decide) ⟨_, rfl, rfl, rfl⟩)
    · replace hf := jif_f c48 hf
      refine J_iconst (v := 1) E (jd dk_X6_judge_0 44 rfl) rfl ?_
      refine J_goto (tgt := 120) E (jd dk_X6_judge_0 45 rfl) (by decide) ?_
      cases hf
      exact J_x (J_iret E hr rfl (jd dk_X6_judge_0 47 rfl) (by decide) (by decide) ⟨_, rfl, rfl, rfl⟩)
  replace hf := jif_f c6_5 hf
  refine J_tableOut (tgt := 121) E (jd dk_X6_judge_0 4 rfl) (jsw (v := 5) (jsw (v := 4) (jsw (v := 3) (jsw (v := 2) (jsw (v := 1) (jsw (v := 0) (jsw0 (x := a2) (0)) (by decide) c6_0) (by decide) c6_1) (by decide) c6_2) (by decide) c6_3) (by decide) c6_4) (by decide) c6_5) (by decide) ?_
  cases hf
  exact J_throwN (j := 17) (text := "no such what") E thr_1 rfl htab (jd dk_X6_judge_0 48 rfl) (jd dk_X6_judge_0 49 rfl) (jd dk_X6_judge_1 0 rfl) (jd dk_X6_judge_1 1 rfl) (jd dk_X6_judge_1 2 rfl) (Nat.le_of_ble_eq_true rfl) (jRc hX (by decide) (by decide)) (by decide) (by decide) ⟨1, rfl, rfl, rfl⟩
def f_X6_refuse (N : Nat) (h : AH) (a0 : Nat) (a1 : Int32) : Option (Int32 × AH) :=
  (jgr 6 h a0 5).bind fun x1 =>
  (jgr 0 h x1 1).bind fun x3 =>
  (jal 0 h x3 a1).bind fun x5 =>
  (jas 0 h x3 a1 (x5 + 1)).bind fun h7 =>
  some ((-1), h7)
set_option maxRecDepth 100000 in
set_option maxHeartbeats 4000000 in
theorem lk_X6_refuse {G : JG} {l : Launch} (hG : jG G) (htr : l.stackTraces = false) (N : Nat) {h : AH} {a0 : Nat} {a1 : Int32} {r : (Int32 × AH)} (hf : f_X6_refuse N h a0 a1 = some r) : jMet G l yX6_refuse cX6_refuse 2 (some .int) 0 0 0 [.ref a0, .int a1] h (jpi r) := by
  unfold f_X6_refuse at hf
  refine jMet_of hG htr (by decide) (Nat.le_of_ble_eq_true rfl) ?_
  intro X E hl9 hr hX _ _
  show JW G X (RX6, cX6_refuse, 2) h [(0, .ref a0), (1, .int a1)] [] 0 0 0 (jEnd G X (jpi r) 0 0)
  refine J_aload_n E (jd dk_X6_refuse_0 0 rfl) rfl 0 rfl ?_
  obtain ⟨x1, e2, hf⟩ := jbind hf
  refine J_getr E (jd dk_X6_refuse_0 1 rfl) fl_RX6_37 e2 ?_
  obtain ⟨x3, e4, hf⟩ := jbind hf
  refine J_getr E (jd dk_X6_refuse_0 2 rfl) fl_RX6_94 e4 ?_
  refine J_iload_n E (jd dk_X6_refuse_0 3 rfl) rfl 1 rfl ?_
  refine J_dup2 E (jd dk_X6_refuse_0 4 rfl) rfl rfl ?_
  obtain ⟨x5, e6, hf⟩ := jbind hf
  refine J_iald E (jd dk_X6_refuse_0 5 rfl) e6 ?_
  refine J_iconst (v := 1) E (jd dk_X6_refuse_0 6 rfl) rfl ?_
  refine J_iadd E (jd dk_X6_refuse_0 7 rfl) ?_
  obtain ⟨h7, e8, hf⟩ := jbind hf
  refine J_iast E (jd dk_X6_refuse_0 8 rfl) e8 ?_
  refine J_iconst (v := (-1)) E (jd dk_X6_refuse_0 9 rfl) rfl ?_
  cases hf
  exact J_iret E hr rfl (jd dk_X6_refuse_0 10 rfl) (Nat.le_refl _) (Nat.le_refl _) ⟨rfl, rfl⟩
def f_X6_steps_b29 (N : Nat) (v0 : Nat) (h : AH) : Option (Int32 × AH) :=
  (jck 6 h v0).bind fun _ =>
  (f_X6_refuse N h v0 1).bind fun r1 =>
  some (r1.1, r1.2)
def f_X6_steps_l44 (N : Nat) (v0 : Nat) (v1 : Int32) (v2 : Int32) (h : AH) : Option ((Int32 × AH) ⊕ ((AH))) :=
  if v1 ≤ v2 then some (.inr h)
  else (jgr 6 h v0 5).bind fun x6 =>
  (jgr 0 h x6 0).bind fun x8 =>
  (jgr 6 h v0 4).bind fun x10 =>
  (jck 5 h x8).bind fun _ =>
  (f_X5_pass N h x8 x10 0).bind fun r12 =>
  some (.inl ((v2 + 1, r12)))
def f_X6_steps_b44 (N : Nat) (v0 : Nat) (v1 : Int32) (v2 : Int32) (h : AH) : Option (Int32 × AH) :=
  (itr (fun s => f_X6_steps_l44 N v0 v1 s.1 s.2) N (v2, h)).bind (fun e => (jgr 6 e v0 5).bind fun x16 =>
  (jgr 0 e x16 0).bind fun x18 =>
  (jgi 5 e x18 0).bind fun x20 =>
  some (x20, e))
def f_X6_steps (N : Nat) (h : AH) (a0 : Nat) (a1 : Int32) : Option (Int32 × AH) :=
  if a1 < 1 then f_X6_steps_b29 N a0 h
  else if 20 < a1 then f_X6_steps_b29 N a0 h
  else (jgr 6 h a0 5).bind fun x24 =>
  (jgr 0 h x24 0).bind fun x26 =>
  (jgi 5 h x26 0).bind fun x28 =>
  if (x28 + a1) ≤ 999 then (jgr 6 h a0 5).bind fun x31 =>
  (jck 0 h x31).bind fun _ =>
  (f_X0_keepAct N h x31).bind fun r33 =>
  f_X6_steps_b44 N a0 a1 0 r33
  else f_X6_steps_b29 N a0 h
set_option maxRecDepth 100000 in
set_option maxHeartbeats 4000000 in
theorem lk_X6_steps_b29 {G : JG} {X : JX} (E : jE G X (RX6, cX6_steps, 3)) (hX : X.2.2.2.1 = jRm 5 0 0) (hr : X.2.2.2.2.2.2.2.2.1.sig.returnType = (some .int)) (N : Nat) {v0 : Nat} {h : AH}  {r : (Int32 × AH)} (hf : f_X6_steps_b29 N v0 h = some r) : JW G X (RX6, cX6_steps, 3) h [(0, .ref v0)] [] 29 0 0 (jEnd G X (jpi r) 0 0) := by
  unfold f_X6_steps_b29 at hf
  refine J_aload_n E (jd dk_X6_steps_0 14 rfl) rfl 0 rfl ?_
  refine J_iconst (v := 1) E (jd dk_X6_steps_0 15 rfl) rfl ?_
  obtain ⟨u3, e4, hf⟩ := jbind hf
  obtain ⟨r1, e2, hf⟩ := jbind hf
  refine J_callV E (jd dk_X6_steps_0 16 rfl) ml_RX6_195 cal_X6_refuse e4 rfl (lk_X6_refuse (jE_g E) (jE_tr E) N e2) rfl (Nat.le_of_ble_eq_true rfl) (jR_le hX (by decide) (by decide)) (jF0 hX) rfl ?_
  rintro _ _ ⟨rfl, rfl⟩
  cases hf
  exact J_iret E hr rfl (jd dk_X6_steps_0 17 rfl) (Nat.le_refl _) (Nat.le_refl _) ⟨rfl, rfl⟩
set_option maxRecDepth 100000 in
set_option maxHeartbeats 4000000 in
theorem lk_X6_steps_l44 {G : JG} {X : JX} (E : jE G X (RX6, cX6_steps, 3)) (hX : X.2.2.2.1 = jRm 5 0 0) (hr : X.2.2.2.2.2.2.2.2.1.sig.returnType = (some .int)) (N : Nat) {Q : State → Prop} {v0 : Nat} {v1 : Int32} {v2 : Int32}  {h : AH} {q : ((Int32 × AH) ⊕ ((AH)))} (hf : f_X6_steps_l44 N v0 v1 v2 h = some q) (kb : ∀ s' : Int32 × AH, q = .inl s' → JW G X (RX6, cX6_steps, 3) s'.2 [(0, .ref v0), (1, .int v1), (2, .int s'.1)] [] 44 0 0 Q) (ke0 : ∀ e : AH, q = .inr e → JW G X (RX6, cX6_steps, 3) e [(0, .ref v0)] [] 70 0 0 Q) : JW G X (RX6, cX6_steps, 3) h [(0, .ref v0), (1, .int v1), (2, .int v2)] [] 44 0 0 Q := by
  unfold f_X6_steps_l44 at hf
  refine J_iload_n E (jd dk_X6_steps_0 23 rfl) rfl 2 rfl ?_
  refine J_iload_n E (jd dk_X6_steps_0 24 rfl) rfl 1 rfl ?_
  refine J_icmp_ge (tgt := 70) E (jd dk_X6_steps_0 25 rfl) (by decide) (fun c5 => ?_) (fun c5 => ?_)
  · replace hf := jif_t c5 hf
    refine J_sub [0] rfl ?_
    exact ke0 _ (Option.some.inj hf).symm
  · replace hf := jif_f c5 hf
    refine J_aload_n E (jd dk_X6_steps_0 26 rfl) rfl 0 rfl ?_
    obtain ⟨x6, e7, hf⟩ := jbind hf
    refine J_getr E (jd dk_X6_steps_0 27 rfl) fl_RX6_37 e7 ?_
    obtain ⟨x8, e9, hf⟩ := jbind hf
    refine J_getr E (jd dk_X6_steps_0 28 rfl) fl_RX6_113 e9 ?_
    refine J_aload_n E (jd dk_X6_steps_0 29 rfl) rfl 0 rfl ?_
    obtain ⟨x10, e11, hf⟩ := jbind hf
    refine J_getr E (jd dk_X6_steps_0 30 rfl) fl_RX6_30 e11 ?_
    refine J_iconst (v := 0) E (jd dk_X6_steps_0 31 rfl) rfl ?_
    obtain ⟨u14, e15, hf⟩ := jbind hf
    obtain ⟨r12, e13, hf⟩ := jbind hf
    refine J_callV E (jd dk_X6_steps_0 32 rfl) ml_RX6_201 cal_X5_pass e15 rfl (lk_X5_pass (jE_g E) (jE_tr E) N e13) rfl (Nat.le_of_ble_eq_true rfl) (jR_le hX (by decide) (by decide)) (jF0 hX) rfl ?_
    rintro _ _ ⟨rfl, rfl⟩
    refine J_iinc (v := v2 + 1) (lv' := [(2, .int (v2 + 1)), (0, .ref v0), (1, .int v1)]) E (jd dk_X6_steps_0 33 rfl) 2 rfl rfl (by decide) rfl ?_
    refine J_goto (tgt := 44) E (jd dk_X6_steps_0 34 rfl) (by decide) ?_
    refine J_sub [1, 2, 0] rfl ?_
    exact kb _ (Option.some.inj hf).symm
set_option maxRecDepth 100000 in
set_option maxHeartbeats 4000000 in
theorem lk_X6_steps_b44 {G : JG} {X : JX} (E : jE G X (RX6, cX6_steps, 3)) (hX : X.2.2.2.1 = jRm 5 0 0) (hr : X.2.2.2.2.2.2.2.2.1.sig.returnType = (some .int)) (N : Nat) {v0 : Nat} {v1 : Int32} {v2 : Int32} {h : AH}  {r : (Int32 × AH)} (hf : f_X6_steps_b44 N v0 v1 v2 h = some r) : JW G X (RX6, cX6_steps, 3) h [(0, .ref v0), (1, .int v1), (2, .int v2)] [] 44 0 0 (jEnd G X (jpi r) 0 0) := by
  unfold f_X6_steps_b44 at hf
  obtain ⟨q1, h1, hf⟩ := jbind hf
  refine jloop (P := fun s => JW G X (RX6, cX6_steps, 3) s.2 [(0, .ref v0), (1, .int v1), (2, .int s.1)] [] 44 0 0 (jEnd G X (jpi r) 0 0)) (Ex := fun (e : AH) => JW G X (RX6, cX6_steps, 3) e [(0, .ref v0)] [] 70 0 0 (jEnd G X (jpi r) 0 0)) (fun s q hs hb hx => lk_X6_steps_l44 E hX hr N hs (fun s' hs => hb s' hs) (fun e he => hx e he)) N _ q1 h1 ?_
  generalize q1 = e at hf ⊢
  refine J_aload_n E (jd dk_X6_steps_0 35 rfl) rfl 0 rfl ?_
  obtain ⟨x16, e17, hf⟩ := jbind hf
  refine J_getr E (jd dk_X6_steps_0 36 rfl) fl_RX6_37 e17 ?_
  obtain ⟨x18, e19, hf⟩ := jbind hf
  refine J_getr E (jd dk_X6_steps_0 37 rfl) fl_RX6_113 e19 ?_
  obtain ⟨x20, e21, hf⟩ := jbind hf
  refine J_geti E (jd dk_X6_steps_0 38 rfl) fl_RX6_116 e21 ?_
  cases hf
  exact J_iret E hr rfl (jd dk_X6_steps_0 39 rfl) (Nat.le_refl _) (Nat.le_refl _) ⟨rfl, rfl⟩
set_option maxRecDepth 100000 in
set_option maxHeartbeats 4000000 in
theorem lk_X6_steps {G : JG} {l : Launch} (hG : jG G) (htr : l.stackTraces = false) (N : Nat) {h : AH} {a0 : Nat} {a1 : Int32} {r : (Int32 × AH)} (hf : f_X6_steps N h a0 a1 = some r) : jMet G l yX6_steps cX6_steps 3 (some .int) 5 0 0 [.ref a0, .int a1] h (jpi r) := by
  unfold f_X6_steps at hf
  refine jMet_of hG htr (by decide) (Nat.le_of_ble_eq_true rfl) ?_
  intro X E hl9 hr hX _ _
  show JW G X (RX6, cX6_steps, 3) h [(0, .ref a0), (1, .int a1)] [] 0 0 0 (jEnd G X (jpi r) 0 0)
  refine J_iload_n E (jd dk_X6_steps_0 0 rfl) rfl 1 rfl ?_
  refine J_iconst (v := 1) E (jd dk_X6_steps_0 1 rfl) rfl ?_
  refine J_icmp_lt (tgt := 29) E (jd dk_X6_steps_0 2 rfl) (by decide) (fun c22 => ?_) (fun c22 => ?_)
  · replace hf := jif_t c22 hf
    refine J_sub [0] rfl ?_
    exact lk_X6_steps_b29 E hX hr N hf
  · replace hf := jif_f c22 hf
    refine J_iload_n E (jd dk_X6_steps_0 3 rfl) rfl 1 rfl ?_
    refine J_bipush (v := 20) E (jd dk_X6_steps_0 4 rfl) (by decide) ?_
    refine J_icmp_gt (tgt := 29) E (jd dk_X6_steps_0 5 rfl) (by decide) (fun c23 => ?_) (fun c23 => ?_)
    · replace hf := jif_t c23 hf
      refine J_sub [0] rfl ?_
      exact lk_X6_steps_b29 E hX hr N hf
    · replace hf := jif_f c23 hf
      refine J_aload_n E (jd dk_X6_steps_0 6 rfl) rfl 0 rfl ?_
      obtain ⟨x24, e25, hf⟩ := jbind hf
      refine J_getr E (jd dk_X6_steps_0 7 rfl) fl_RX6_37 e25 ?_
      obtain ⟨x26, e27, hf⟩ := jbind hf
      refine J_getr E (jd dk_X6_steps_0 8 rfl) fl_RX6_113 e27 ?_
      obtain ⟨x28, e29, hf⟩ := jbind hf
      refine J_geti E (jd dk_X6_steps_0 9 rfl) fl_RX6_116 e29 ?_
      refine J_iload_n E (jd dk_X6_steps_0 10 rfl) rfl 1 rfl ?_
      refine J_iadd E (jd dk_X6_steps_0 11 rfl) ?_
      refine J_sipush (v := 999) E (jd dk_X6_steps_0 12 rfl) (by decide) ?_
      refine J_icmp_le (tgt := 35) E (jd dk_X6_steps_0 13 rfl) (by decide) (fun c30 => ?_) (fun c30 => ?_)
      · replace hf := jif_t c30 hf
        refine J_aload_n E (jd dk_X6_steps_0 18 rfl) rfl 0 rfl ?_
        obtain ⟨x31, e32, hf⟩ := jbind hf
        refine J_getr E (jd dk_X6_steps_0 19 rfl) fl_RX6_37 e32 ?_
        obtain ⟨u35, e36, hf⟩ := jbind hf
        obtain ⟨r33, e34, hf⟩ := jbind hf
        refine J_callV E (jd dk_X6_steps_0 20 rfl) ml_RX6_198 cal_X0_keepAct e36 rfl (lk_X0_keepAct (jE_g E) (jE_tr E) N e34) rfl (Nat.le_of_ble_eq_true rfl) (jR_le hX (by decide) (by decide)) (jF0 hX) rfl ?_
        rintro _ _ ⟨rfl, rfl⟩
        refine J_iconst (v := 0) E (jd dk_X6_steps_0 21 rfl) rfl ?_
        refine J_istore_n (lv' := [(2, .int 0), (0, .ref a0), (1, .int a1)]) E (jd dk_X6_steps_0 22 rfl) rfl (by decide) rfl ?_
        refine J_sub [1, 2, 0] rfl ?_
        exact lk_X6_steps_b44 E hX hr N hf
      · replace hf := jif_f c30 hf
        refine J_sub [0] rfl ?_
        exact lk_X6_steps_b29 E hX hr N hf
def f_X6_call (N : Nat) (h : AH) (a0 : Nat) (a1 : Int32) : Option ((Nat ⊕ Int32) × AH) :=
  (jck 6 h a0).bind fun _ =>
  (f_X6_needJudge N h a0 a1).bind fun r1 => Sum.elim (fun k => some (.inl k, r1.2)) (fun _ =>
  (jgr 6 r1.2 a0 5).bind fun x6 =>
  (jgr 0 r1.2 x6 0).bind fun x8 =>
  (jgr 5 r1.2 x8 1).bind fun x10 =>
  (jal 0 r1.2 x10 a1).bind fun x12 =>
  if 0 ≤ x12 then (jgr 6 r1.2 a0 5).bind fun x15 =>
  (jck 0 r1.2 x15).bind fun _ =>
  (f_X0_keepAct N r1.2 x15).bind fun r17 =>
  (jgr 6 r17 a0 5).bind fun x21 =>
  (jgr 0 r17 x21 0).bind fun x23 =>
  (jgr 6 r17 a0 4).bind fun x25 =>
  (jck 5 r17 x23).bind fun _ =>
  (f_X5_goOn N r17 x23 x25 a1 1).bind fun r27 =>
  (jgr 6 r27 a0 5).bind fun x31 =>
  (jgr 0 r27 x31 0).bind fun x33 =>
  (jgr 5 r27 x33 1).bind fun x35 =>
  (jal 0 r27 x35 a1).bind fun x37 =>
  some (.inr x37, r27)
  else (jck 6 r1.2 a0).bind fun _ =>
  (f_X6_refuse N r1.2 a0 1).bind fun r39 =>
  some (.inr r39.1, r39.2)) r1.1
set_option maxRecDepth 100000 in
set_option maxHeartbeats 4000000 in
theorem lk_X6_call {G : JG} {l : Launch} (hG : jG G) (htr : l.stackTraces = false) (N : Nat) {h : AH} {a0 : Nat} {a1 : Int32} {r : ((Nat ⊕ Int32) × AH)} (hf : f_X6_call N h a0 a1 = some r) : jMetX G l yX6_call cX6_call 2 (some .int) 3 1 6 [.ref a0, .int a1] h (jpXi r) (jpXx r) := by
  unfold f_X6_call at hf
  refine jMetX_of hG htr (by decide) (Nat.le_of_ble_eq_true rfl) ?_
  intro X E hl9 hr hX htab
  show JW G X (RX6, cX6_call, 2) h [(0, .ref a0), (1, .int a1)] [] 0 0 0 (jEndX G X (jpXi r) (jpXx r) 1 6)
  refine J_aload_n E (jd dk_X6_call_0 0 rfl) rfl 0 rfl ?_
  refine J_iload_n E (jd dk_X6_call_0 1 rfl) rfl 1 rfl ?_
  obtain ⟨u3, e4, hf⟩ := jbind hf
  obtain ⟨r1, e2, hf⟩ := jbind hf
  obtain ⟨r1a, r1b⟩ := r1
  refine J_callVX E (jd dk_X6_call_0 2 rfl) ml_RX6_176 cal_X6_needJudge e4 rfl (lk_X6_needJudge (jE_g E) (jE_tr E) N e2) rfl (Nat.le_of_ble_eq_true rfl) (jR_le hX (by decide) (by decide)) (jFx hX (by decide) (by decide)) rfl ?_ ?_
  rotate_left
  · rintro _ _ ⟨k9, rfl, rfl, rfl⟩
    replace hf := Option.some.inj hf
    subst hf
    exact J_out E htab (by decide) (by decide) ⟨_, rfl, rfl, rfl⟩
  rintro _ _ ⟨rfl, rfl, rfl⟩
  replace hf : _ = some _ := hf
  refine J_aload_n E (jd dk_X6_call_0 3 rfl) rfl 0 rfl ?_
  obtain ⟨x6, e7, hf⟩ := jbind hf
  refine J_getr E (jd dk_X6_call_0 4 rfl) fl_RX6_37 e7 ?_
  obtain ⟨x8, e9, hf⟩ := jbind hf
  refine J_getr E (jd dk_X6_call_0 5 rfl) fl_RX6_113 e9 ?_
  obtain ⟨x10, e11, hf⟩ := jbind hf
  refine J_getr E (jd dk_X6_call_0 6 rfl) fl_RX6_179 e11 ?_
  refine J_iload_n E (jd dk_X6_call_0 7 rfl) rfl 1 rfl ?_
  obtain ⟨x12, e13, hf⟩ := jbind hf
  refine J_iald E (jd dk_X6_call_0 8 rfl) e13 ?_
  refine J_if_ge (tgt := 26) E (jd dk_X6_call_0 9 rfl) (by decide) (fun c14 => ?_) (fun c14 => ?_)
  · replace hf := jif_t c14 hf
    refine J_aload_n E (jd dk_X6_call_0 14 rfl) rfl 0 rfl ?_
    obtain ⟨x15, e16, hf⟩ := jbind hf
    refine J_getr E (jd dk_X6_call_0 15 rfl) fl_RX6_37 e16 ?_
    obtain ⟨u19, e20, hf⟩ := jbind hf
    obtain ⟨r17, e18, hf⟩ := jbind hf
    refine J_callV E (jd dk_X6_call_0 16 rfl) ml_RX6_198 cal_X0_keepAct e20 rfl (lk_X0_keepAct (jE_g E) (jE_tr E) N e18) rfl (Nat.le_of_ble_eq_true rfl) (jR_le hX (by decide) (by decide)) (jFx hX (by decide) (by decide)) rfl ?_
    rintro _ _ ⟨rfl, rfl⟩
    refine J_aload_n E (jd dk_X6_call_0 17 rfl) rfl 0 rfl ?_
    obtain ⟨x21, e22, hf⟩ := jbind hf
    refine J_getr E (jd dk_X6_call_0 18 rfl) fl_RX6_37 e22 ?_
    obtain ⟨x23, e24, hf⟩ := jbind hf
    refine J_getr E (jd dk_X6_call_0 19 rfl) fl_RX6_113 e24 ?_
    refine J_aload_n E (jd dk_X6_call_0 20 rfl) rfl 0 rfl ?_
    obtain ⟨x25, e26, hf⟩ := jbind hf
    refine J_getr E (jd dk_X6_call_0 21 rfl) fl_RX6_30 e26 ?_
    refine J_iload_n E (jd dk_X6_call_0 22 rfl) rfl 1 rfl ?_
    refine J_iconst (v := 1) E (jd dk_X6_call_0 23 rfl) rfl ?_
    obtain ⟨u29, e30, hf⟩ := jbind hf
    obtain ⟨r27, e28, hf⟩ := jbind hf
    refine J_callV E (jd dk_X6_call_0 24 rfl) ml_RX6_205 cal_X5_goOn e30 rfl (lk_X5_goOn (jE_g E) (jE_tr E) N e28) rfl (Nat.le_of_ble_eq_true rfl) (jR_le hX (by decide) (by decide)) (jFx hX (by decide) (by decide)) rfl ?_
    rintro _ _ ⟨rfl, rfl⟩
    refine J_aload_n E (jd dk_X6_call_0 25 rfl) rfl 0 rfl ?_
    obtain ⟨x31, e32, hf⟩ := jbind hf
    refine J_getr E (jd dk_X6_call_0 26 rfl) fl_RX6_37 e32 ?_
    obtain ⟨x33, e34, hf⟩ := jbind hf
    refine J_getr E (jd dk_X6_call_0 27 rfl) fl_RX6_113 e34 ?_
    obtain ⟨x35, e36, hf⟩ := jbind hf
    refine J_getr E (jd dk_X6_call_0 28 rfl) fl_RX6_179 e36 ?_
    refine J_iload_n E (jd dk_X6_call_0 29 rfl) rfl 1 rfl ?_
    obtain ⟨x37, e38, hf⟩ := jbind hf
    refine J_iald E (jd dk_X6_call_0 30 rfl) e38 ?_
    cases hf
    exact J_x (J_iret E hr rfl (jd dk_X6_call_0 31 rfl) (by decide) (by decide) ⟨_, rfl, rfl, rfl⟩)
  · replace hf := jif_f c14 hf
    refine J_aload_n E (jd dk_X6_call_0 10 rfl) rfl 0 rfl ?_
    refine J_iconst (v := 1) E (jd dk_X6_call_0 11 rfl) rfl ?_
    obtain ⟨u41, e42, hf⟩ := jbind hf
    obtain ⟨r39, e40, hf⟩ := jbind hf
    refine J_callV E (jd dk_X6_call_0 12 rfl) ml_RX6_195 cal_X6_refuse e42 rfl (lk_X6_refuse (jE_g E) (jE_tr E) N e40) rfl (Nat.le_of_ble_eq_true rfl) (jR_le hX (by decide) (by decide)) (jFx hX (by decide) (by decide)) rfl ?_
    rintro _ _ ⟨rfl, rfl⟩
    cases hf
    exact J_x (J_iret E hr rfl (jd dk_X6_call_0 13 rfl) (by decide) (by decide) ⟨_, rfl, rfl, rfl⟩)
def f_X6_needSide_b15 (N : Nat)  (h : AH) : Option ((Nat ⊕ Unit) × AH) :=
  some (.inl 1, h)
def f_X6_needSide (N : Nat) (h : AH) (a0 : Nat) (a1 : Int32) : Option ((Nat ⊕ Unit) × AH) :=
  if a1 < 0 then f_X6_needSide_b15 N  h
  else (jgr 6 h a0 4).bind fun x2 =>
  (jgi 1 h x2 0).bind fun x4 =>
  if a1 < x4 then some (.inr (), h)
  else f_X6_needSide_b15 N  h
set_option maxRecDepth 100000 in
set_option maxHeartbeats 4000000 in
theorem lk_X6_needSide_b15 {G : JG} {X : JX} (E : jE G X (RX6, cX6_needSide, 2)) (hX : X.2.2.2.1 = jRm 1 1 6) (hr : X.2.2.2.2.2.2.2.2.1.sig.returnType = none) (htab : ∀ x ∈ X.2.2.2.2.2.2.2.2.2.exceptionTable.toList, False) (N : Nat)  {h : AH}  {r : ((Nat ⊕ Unit) × AH)} (hf : f_X6_needSide_b15 N  h = some r) : JW G X (RX6, cX6_needSide, 2) h [] [] 15 0 0 (jEndX G X (jpXv r) (jpXx r) 1 6) := by
  unfold f_X6_needSide_b15 at hf
  cases hf
  exact J_throwNW (j := 20) (text := "no such side") E thr_1 rfl htab (jd dk_X6_needSide_0 7 rfl) (jd dk_X6_needSide_0 8 rfl) (jd dk_X6_needSide_0 9 rfl) (jd dk_X6_needSide_0 10 rfl) (jd dk_X6_needSide_0 11 rfl) (Nat.le_of_ble_eq_true rfl) (jRc hX (by decide) (by decide)) (by decide) (by decide) ⟨1, rfl, rfl, rfl⟩
set_option maxRecDepth 100000 in
set_option maxHeartbeats 4000000 in
theorem lk_X6_needSide {G : JG} {l : Launch} (hG : jG G) (htr : l.stackTraces = false) (N : Nat) {h : AH} {a0 : Nat} {a1 : Int32} {r : ((Nat ⊕ Unit) × AH)} (hf : f_X6_needSide N h a0 a1 = some r) : jMetX G l yX6_needSide cX6_needSide 2 none 1 1 6 [.ref a0, .int a1] h (jpXv r) (jpXx r) := by
  unfold f_X6_needSide at hf
  refine jMetX_of hG htr (by decide) (Nat.le_of_ble_eq_true rfl) ?_
  intro X E hl9 hr hX htab
  show JW G X (RX6, cX6_needSide, 2) h [(0, .ref a0), (1, .int a1)] [] 0 0 0 (jEndX G X (jpXv r) (jpXx r) 1 6)
  refine J_iload_n E (jd dk_X6_needSide_0 0 rfl) rfl 1 rfl ?_
  refine J_if_lt (tgt := 15) E (jd dk_X6_needSide_0 1 rfl) (by decide) (fun c1 => ?_) (fun c1 => ?_)
  · replace hf := jif_t c1 hf
    refine J_sub [] rfl ?_
    exact lk_X6_needSide_b15 E hX hr htab N hf
  · replace hf := jif_f c1 hf
    refine J_iload_n E (jd dk_X6_needSide_0 2 rfl) rfl 1 rfl ?_
    refine J_aload_n E (jd dk_X6_needSide_0 3 rfl) rfl 0 rfl ?_
    obtain ⟨x2, e3, hf⟩ := jbind hf
    refine J_getr E (jd dk_X6_needSide_0 4 rfl) fl_RX6_30 e3 ?_
    obtain ⟨x4, e5, hf⟩ := jbind hf
    refine J_geti E (jd dk_X6_needSide_0 5 rfl) fl_RX6_104 e5 ?_
    refine J_icmp_lt (tgt := 26) E (jd dk_X6_needSide_0 6 rfl) (by decide) (fun c6 => ?_) (fun c6 => ?_)
    · replace hf := jif_t c6 hf
      cases hf
      exact J_x (J_vret E hr (jd dk_X6_needSide_0 12 rfl) (by decide) (by decide) ⟨rfl, rfl, rfl⟩)
    · replace hf := jif_f c6 hf
      refine J_sub [] rfl ?_
      exact lk_X6_needSide_b15 E hX hr htab N hf
def f_X6_paddle_b45 (N : Nat) (v0 : Nat) (h : AH) : Option ((Nat ⊕ Int32) × AH) :=
  (jck 6 h v0).bind fun _ =>
  (f_X6_refuse N h v0 1).bind fun r1 =>
  some (.inr r1.1, r1.2)
def f_X6_paddle (N : Nat) (h : AH) (a0 : Nat) (a1 : Int32) (a2 : Int32) : Option ((Nat ⊕ Int32) × AH) :=
  (jck 6 h a0).bind fun _ =>
  (f_X6_needJudge N h a0 a1).bind fun r5 => Sum.elim (fun k => some (.inl k, r5.2)) (fun _ =>
  (jck 6 r5.2 a0).bind fun _ =>
  (f_X6_needSide N r5.2 a0 a2).bind fun r10 => Sum.elim (fun k => some (.inl k, r10.2)) (fun _ =>
  (jgr 6 r10.2 a0 5).bind fun x15 =>
  (jgr 0 r10.2 x15 0).bind fun x17 =>
  (jgr 5 r10.2 x17 2).bind fun x19 =>
  (jal 0 r10.2 x19 a1).bind fun x21 =>
  (jgr 6 r10.2 a0 5).bind fun x23 =>
  (jgr 0 r10.2 x23 0).bind fun x25 =>
  (jgr 5 r10.2 x25 1).bind fun x27 =>
  (jal 0 r10.2 x27 a1).bind fun x29 =>
  if x29 = ((-2)) then f_X6_paddle_b45 N a0 r10.2
  else if x21 = a2 then f_X6_paddle_b45 N a0 r10.2
  else (jgr 6 r10.2 a0 5).bind fun x33 =>
  (jck 0 r10.2 x33).bind fun _ =>
  (f_X0_keepAct N r10.2 x33).bind fun r35 =>
  (jgr 6 r35 a0 5).bind fun x39 =>
  (jgr 0 r35 x39 0).bind fun x41 =>
  (jgr 5 r35 x41 2).bind fun x43 =>
  (jas 0 r35 x43 a1 a2).bind fun h45 =>
  some (.inr x21, h45)) r10.1) r5.1
set_option maxRecDepth 100000 in
set_option maxHeartbeats 4000000 in
theorem lk_X6_paddle_b45 {G : JG} {X : JX} (E : jE G X (RX6, cX6_paddle, 4)) (hX : X.2.2.2.1 = jRm 3 2 12) (hr : X.2.2.2.2.2.2.2.2.1.sig.returnType = (some .int)) (htab : ∀ x ∈ X.2.2.2.2.2.2.2.2.2.exceptionTable.toList, False) (N : Nat) {v0 : Nat} {h : AH}  {r : ((Nat ⊕ Int32) × AH)} (hf : f_X6_paddle_b45 N v0 h = some r) : JW G X (RX6, cX6_paddle, 4) h [(0, .ref v0)] [] 45 2 12 (jEndX G X (jpXi r) (jpXx r) 2 12) := by
  unfold f_X6_paddle_b45 at hf
  refine J_aload_n E (jd dk_X6_paddle_0 24 rfl) rfl 0 rfl ?_
  refine J_iconst (v := 1) E (jd dk_X6_paddle_0 25 rfl) rfl ?_
  obtain ⟨u3, e4, hf⟩ := jbind hf
  obtain ⟨r1, e2, hf⟩ := jbind hf
  refine J_callV E (jd dk_X6_paddle_0 26 rfl) ml_RX6_195 cal_X6_refuse e4 rfl (lk_X6_refuse (jE_g E) (jE_tr E) N e2) rfl (Nat.le_of_ble_eq_true rfl) (jR_le hX (by decide) (by decide)) (jFx hX (by decide) (by decide)) rfl ?_
  rintro _ _ ⟨rfl, rfl⟩
  cases hf
  exact J_x (J_iret E hr rfl (jd dk_X6_paddle_0 27 rfl) (by decide) (by decide) ⟨_, rfl, rfl, rfl⟩)
set_option maxRecDepth 100000 in
set_option maxHeartbeats 4000000 in
theorem lk_X6_paddle {G : JG} {l : Launch} (hG : jG G) (htr : l.stackTraces = false) (N : Nat) {h : AH} {a0 : Nat} {a1 : Int32} {a2 : Int32} {r : ((Nat ⊕ Int32) × AH)} (hf : f_X6_paddle N h a0 a1 a2 = some r) : jMetX G l yX6_paddle cX6_paddle 4 (some .int) 3 2 12 [.ref a0, .int a1, .int a2] h (jpXi r) (jpXx r) := by
  unfold f_X6_paddle at hf
  refine jMetX_of hG htr (by decide) (Nat.le_of_ble_eq_true rfl) ?_
  intro X E hl9 hr hX htab
  show JW G X (RX6, cX6_paddle, 4) h [(0, .ref a0), (1, .int a1), (2, .int a2)] [] 0 0 0 (jEndX G X (jpXi r) (jpXx r) 2 12)
  refine J_aload_n E (jd dk_X6_paddle_0 0 rfl) rfl 0 rfl ?_
  refine J_iload_n E (jd dk_X6_paddle_0 1 rfl) rfl 1 rfl ?_
  obtain ⟨u7, e8, hf⟩ := jbind hf
  obtain ⟨r5, e6, hf⟩ := jbind hf
  obtain ⟨r5a, r5b⟩ := r5
  refine J_callVX E (jd dk_X6_paddle_0 2 rfl) ml_RX6_176 cal_X6_needJudge e8 rfl (lk_X6_needJudge (jE_g E) (jE_tr E) N e6) rfl (Nat.le_of_ble_eq_true rfl) (jR_le hX (by decide) (by decide)) (jFx hX (by decide) (by decide)) rfl ?_ ?_
  rotate_left
  · rintro _ _ ⟨k9, rfl, rfl, rfl⟩
    replace hf := Option.some.inj hf
    subst hf
    exact J_out E htab (by decide) (by decide) ⟨_, rfl, rfl, rfl⟩
  rintro _ _ ⟨rfl, rfl, rfl⟩
  replace hf : _ = some _ := hf
  refine J_aload_n E (jd dk_X6_paddle_0 3 rfl) rfl 0 rfl ?_
  refine J_iload_n E (jd dk_X6_paddle_0 4 rfl) rfl 2 rfl ?_
  obtain ⟨u12, e13, hf⟩ := jbind hf
  obtain ⟨r10, e11, hf⟩ := jbind hf
  obtain ⟨r10a, r10b⟩ := r10
  refine J_callVX E (jd dk_X6_paddle_0 5 rfl) ml_RX6_209 cal_X6_needSide e13 rfl (lk_X6_needSide (jE_g E) (jE_tr E) N e11) rfl (Nat.le_of_ble_eq_true rfl) (jR_le hX (by decide) (by decide)) (jFx hX (by decide) (by decide)) rfl ?_ ?_
  rotate_left
  · rintro _ _ ⟨k9, rfl, rfl, rfl⟩
    replace hf := Option.some.inj hf
    subst hf
    exact J_out E htab (by decide) (by decide) ⟨_, rfl, rfl, rfl⟩
  rintro _ _ ⟨rfl, rfl, rfl⟩
  replace hf : _ = some _ := hf
  refine J_aload_n E (jd dk_X6_paddle_0 6 rfl) rfl 0 rfl ?_
  obtain ⟨x15, e16, hf⟩ := jbind hf
  refine J_getr E (jd dk_X6_paddle_0 7 rfl) fl_RX6_37 e16 ?_
  obtain ⟨x17, e18, hf⟩ := jbind hf
  refine J_getr E (jd dk_X6_paddle_0 8 rfl) fl_RX6_113 e18 ?_
  obtain ⟨x19, e20, hf⟩ := jbind hf
  refine J_getr E (jd dk_X6_paddle_0 9 rfl) fl_RX6_182 e20 ?_
  refine J_iload_n E (jd dk_X6_paddle_0 10 rfl) rfl 1 rfl ?_
  obtain ⟨x21, e22, hf⟩ := jbind hf
  refine J_iald E (jd dk_X6_paddle_0 11 rfl) e22 ?_
  refine J_istore_n (lv' := [(3, .int x21), (0, .ref a0), (1, .int a1), (2, .int a2)]) E (jd dk_X6_paddle_0 12 rfl) rfl (by decide) rfl ?_
  refine J_aload_n E (jd dk_X6_paddle_0 13 rfl) rfl 1 rfl ?_
  obtain ⟨x23, e24, hf⟩ := jbind hf
  refine J_getr E (jd dk_X6_paddle_0 14 rfl) fl_RX6_37 e24 ?_
  obtain ⟨x25, e26, hf⟩ := jbind hf
  refine J_getr E (jd dk_X6_paddle_0 15 rfl) fl_RX6_113 e26 ?_
  obtain ⟨x27, e28, hf⟩ := jbind hf
  refine J_getr E (jd dk_X6_paddle_0 16 rfl) fl_RX6_179 e28 ?_
  refine J_iload_n E (jd dk_X6_paddle_0 17 rfl) rfl 2 rfl ?_
  obtain ⟨x29, e30, hf⟩ := jbind hf
  refine J_iald E (jd dk_X6_paddle_0 18 rfl) e30 ?_
  refine J_bipush (v := (-2)) E (jd dk_X6_paddle_0 19 rfl) (by decide) ?_
  refine J_icmp_eq (tgt := 45) E (jd dk_X6_paddle_0 20 rfl) (by decide) (fun c31 => ?_) (fun c31 => ?_)
  · replace hf := jif_t c31 hf
    refine J_sub [1] rfl ?_
    exact lk_X6_paddle_b45 E hX hr htab N hf
  · replace hf := jif_f c31 hf
    refine J_iload_n E (jd dk_X6_paddle_0 21 rfl) rfl 0 rfl ?_
    refine J_iload_n E (jd dk_X6_paddle_0 22 rfl) rfl 3 rfl ?_
    refine J_icmp_ne (tgt := 51) E (jd dk_X6_paddle_0 23 rfl) (by decide) (fun c32 => ?_) (fun c32 => ?_)
    · replace hf := jif_f c32 hf
      refine J_aload_n E (jd dk_X6_paddle_0 28 rfl) rfl 1 rfl ?_
      obtain ⟨x33, e34, hf⟩ := jbind hf
      refine J_getr E (jd dk_X6_paddle_0 29 rfl) fl_RX6_37 e34 ?_
      obtain ⟨u37, e38, hf⟩ := jbind hf
      obtain ⟨r35, e36, hf⟩ := jbind hf
      refine J_callV E (jd dk_X6_paddle_0 30 rfl) ml_RX6_198 cal_X0_keepAct e38 rfl (lk_X0_keepAct (jE_g E) (jE_tr E) N e36) rfl (Nat.le_of_ble_eq_true rfl) (jR_le hX (by decide) (by decide)) (jFx hX (by decide) (by decide)) rfl ?_
      rintro _ _ ⟨rfl, rfl⟩
      refine J_aload_n E (jd dk_X6_paddle_0 31 rfl) rfl 1 rfl ?_
      obtain ⟨x39, e40, hf⟩ := jbind hf
      refine J_getr E (jd dk_X6_paddle_0 32 rfl) fl_RX6_37 e40 ?_
      obtain ⟨x41, e42, hf⟩ := jbind hf
      refine J_getr E (jd dk_X6_paddle_0 33 rfl) fl_RX6_113 e42 ?_
      obtain ⟨x43, e44, hf⟩ := jbind hf
      refine J_getr E (jd dk_X6_paddle_0 34 rfl) fl_RX6_182 e44 ?_
      refine J_iload_n E (jd dk_X6_paddle_0 35 rfl) rfl 2 rfl ?_
      refine J_iload_n E (jd dk_X6_paddle_0 36 rfl) rfl 3 rfl ?_
      obtain ⟨h45, e46, hf⟩ := jbind hf
      refine J_iast E (jd dk_X6_paddle_0 37 rfl) e46 ?_
      refine J_iload_n E (jd dk_X6_paddle_0 38 rfl) rfl 0 rfl ?_
      cases hf
      exact J_x (J_iret E hr rfl (jd dk_X6_paddle_0 39 rfl) (by decide) (by decide) ⟨_, rfl, rfl, rfl⟩)
    · replace hf := jif_t c32 hf
      refine J_sub [1] rfl ?_
      exact lk_X6_paddle_b45 E hX hr htab N hf
def f_X6_carry_b33 (N : Nat) (v0 : Nat) (h : AH) : Option ((Nat ⊕ Int32) × AH) :=
  (jck 6 h v0).bind fun _ =>
  (f_X6_refuse N h v0 1).bind fun r1 =>
  some (.inr r1.1, r1.2)
def f_X6_carry (N : Nat) (h : AH) (a0 : Nat) (a1 : Int32) (a2 : Int32) : Option ((Nat ⊕ Int32) × AH) :=
  (jck 6 h a0).bind fun _ =>
  (f_X6_needJudge N h a0 a1).bind fun r5 => Sum.elim (fun k => some (.inl k, r5.2)) (fun _ =>
  (jck 6 r5.2 a0).bind fun _ =>
  (f_X6_needReach N r5.2 a0 a2).bind fun r10 => Sum.elim (fun k => some (.inl k, r10.2)) (fun _ =>
  (jgr 6 r10.2 a0 5).bind fun x15 =>
  (jgr 0 r10.2 x15 0).bind fun x17 =>
  (jgr 5 r10.2 x17 1).bind fun x19 =>
  (jal 0 r10.2 x19 a1).bind fun x21 =>
  if x21 = ((-1)) then f_X6_carry_b33 N a0 r10.2
  else if x21 = a2 then f_X6_carry_b33 N a0 r10.2
  else (jgr 6 r10.2 a0 5).bind fun x25 =>
  (jck 0 r10.2 x25).bind fun _ =>
  (f_X0_keepAct N r10.2 x25).bind fun r27 =>
  (jgr 6 r27 a0 5).bind fun x31 =>
  (jgr 0 r27 x31 0).bind fun x33 =>
  (jgr 5 r27 x33 1).bind fun x35 =>
  (jas 0 r27 x35 a1 a2).bind fun h37 =>
  some (.inr x21, h37)) r10.1) r5.1
set_option maxRecDepth 100000 in
set_option maxHeartbeats 4000000 in
theorem lk_X6_carry_b33 {G : JG} {X : JX} (E : jE G X (RX6, cX6_carry, 4)) (hX : X.2.2.2.1 = jRm 3 2 12) (hr : X.2.2.2.2.2.2.2.2.1.sig.returnType = (some .int)) (htab : ∀ x ∈ X.2.2.2.2.2.2.2.2.2.exceptionTable.toList, False) (N : Nat) {v0 : Nat} {h : AH}  {r : ((Nat ⊕ Int32) × AH)} (hf : f_X6_carry_b33 N v0 h = some r) : JW G X (RX6, cX6_carry, 4) h [(0, .ref v0)] [] 33 2 12 (jEndX G X (jpXi r) (jpXx r) 2 12) := by
  unfold f_X6_carry_b33 at hf
  refine J_aload_n E (jd dk_X6_carry_0 19 rfl) rfl 0 rfl ?_
  refine J_iconst (v := 1) E (jd dk_X6_carry_0 20 rfl) rfl ?_
  obtain ⟨u3, e4, hf⟩ := jbind hf
  obtain ⟨r1, e2, hf⟩ := jbind hf
  refine J_callV E (jd dk_X6_carry_0 21 rfl) ml_RX6_195 cal_X6_refuse e4 rfl (lk_X6_refuse (jE_g E) (jE_tr E) N e2) rfl (Nat.le_of_ble_eq_true rfl) (jR_le hX (by decide) (by decide)) (jFx hX (by decide) (by decide)) rfl ?_
  rintro _ _ ⟨rfl, rfl⟩
  cases hf
  exact J_x (J_iret E hr rfl (jd dk_X6_carry_0 22 rfl) (by decide) (by decide) ⟨_, rfl, rfl, rfl⟩)
set_option maxRecDepth 100000 in
set_option maxHeartbeats 4000000 in
theorem lk_X6_carry {G : JG} {l : Launch} (hG : jG G) (htr : l.stackTraces = false) (N : Nat) {h : AH} {a0 : Nat} {a1 : Int32} {a2 : Int32} {r : ((Nat ⊕ Int32) × AH)} (hf : f_X6_carry N h a0 a1 a2 = some r) : jMetX G l yX6_carry cX6_carry 4 (some .int) 3 2 12 [.ref a0, .int a1, .int a2] h (jpXi r) (jpXx r) := by
  unfold f_X6_carry at hf
  refine jMetX_of hG htr (by decide) (Nat.le_of_ble_eq_true rfl) ?_
  intro X E hl9 hr hX htab
  show JW G X (RX6, cX6_carry, 4) h [(0, .ref a0), (1, .int a1), (2, .int a2)] [] 0 0 0 (jEndX G X (jpXi r) (jpXx r) 2 12)
  refine J_aload_n E (jd dk_X6_carry_0 0 rfl) rfl 0 rfl ?_
  refine J_iload_n E (jd dk_X6_carry_0 1 rfl) rfl 1 rfl ?_
  obtain ⟨u7, e8, hf⟩ := jbind hf
  obtain ⟨r5, e6, hf⟩ := jbind hf
  obtain ⟨r5a, r5b⟩ := r5
  refine J_callVX E (jd dk_X6_carry_0 2 rfl) ml_RX6_176 cal_X6_needJudge e8 rfl (lk_X6_needJudge (jE_g E) (jE_tr E) N e6) rfl (Nat.le_of_ble_eq_true rfl) (jR_le hX (by decide) (by decide)) (jFx hX (by decide) (by decide)) rfl ?_ ?_
  rotate_left
  · rintro _ _ ⟨k9, rfl, rfl, rfl⟩
    replace hf := Option.some.inj hf
    subst hf
    exact J_out E htab (by decide) (by decide) ⟨_, rfl, rfl, rfl⟩
  rintro _ _ ⟨rfl, rfl, rfl⟩
  replace hf : _ = some _ := hf
  refine J_aload_n E (jd dk_X6_carry_0 3 rfl) rfl 0 rfl ?_
  refine J_iload_n E (jd dk_X6_carry_0 4 rfl) rfl 2 rfl ?_
  obtain ⟨u12, e13, hf⟩ := jbind hf
  obtain ⟨r10, e11, hf⟩ := jbind hf
  obtain ⟨r10a, r10b⟩ := r10
  refine J_callVX E (jd dk_X6_carry_0 5 rfl) ml_RX6_159 cal_X6_needReach e13 rfl (lk_X6_needReach (jE_g E) (jE_tr E) N e11) rfl (Nat.le_of_ble_eq_true rfl) (jR_le hX (by decide) (by decide)) (jFx hX (by decide) (by decide)) rfl ?_ ?_
  rotate_left
  · rintro _ _ ⟨k9, rfl, rfl, rfl⟩
    replace hf := Option.some.inj hf
    subst hf
    exact J_out E htab (by decide) (by decide) ⟨_, rfl, rfl, rfl⟩
  rintro _ _ ⟨rfl, rfl, rfl⟩
  replace hf : _ = some _ := hf
  refine J_aload_n E (jd dk_X6_carry_0 6 rfl) rfl 0 rfl ?_
  obtain ⟨x15, e16, hf⟩ := jbind hf
  refine J_getr E (jd dk_X6_carry_0 7 rfl) fl_RX6_37 e16 ?_
  obtain ⟨x17, e18, hf⟩ := jbind hf
  refine J_getr E (jd dk_X6_carry_0 8 rfl) fl_RX6_113 e18 ?_
  obtain ⟨x19, e20, hf⟩ := jbind hf
  refine J_getr E (jd dk_X6_carry_0 9 rfl) fl_RX6_179 e20 ?_
  refine J_iload_n E (jd dk_X6_carry_0 10 rfl) rfl 1 rfl ?_
  obtain ⟨x21, e22, hf⟩ := jbind hf
  refine J_iald E (jd dk_X6_carry_0 11 rfl) e22 ?_
  refine J_istore_n (lv' := [(3, .int x21), (0, .ref a0), (1, .int a1), (2, .int a2)]) E (jd dk_X6_carry_0 12 rfl) rfl (by decide) rfl ?_
  refine J_iload_n E (jd dk_X6_carry_0 13 rfl) rfl 0 rfl ?_
  refine J_iconst (v := (-1)) E (jd dk_X6_carry_0 14 rfl) rfl ?_
  refine J_icmp_eq (tgt := 33) E (jd dk_X6_carry_0 15 rfl) (by decide) (fun c23 => ?_) (fun c23 => ?_)
  · replace hf := jif_t c23 hf
    refine J_sub [1] rfl ?_
    exact lk_X6_carry_b33 E hX hr htab N hf
  · replace hf := jif_f c23 hf
    refine J_iload_n E (jd dk_X6_carry_0 16 rfl) rfl 0 rfl ?_
    refine J_iload_n E (jd dk_X6_carry_0 17 rfl) rfl 3 rfl ?_
    refine J_icmp_ne (tgt := 39) E (jd dk_X6_carry_0 18 rfl) (by decide) (fun c24 => ?_) (fun c24 => ?_)
    · replace hf := jif_f c24 hf
      refine J_aload_n E (jd dk_X6_carry_0 23 rfl) rfl 1 rfl ?_
      obtain ⟨x25, e26, hf⟩ := jbind hf
      refine J_getr E (jd dk_X6_carry_0 24 rfl) fl_RX6_37 e26 ?_
      obtain ⟨u29, e30, hf⟩ := jbind hf
      obtain ⟨r27, e28, hf⟩ := jbind hf
      refine J_callV E (jd dk_X6_carry_0 25 rfl) ml_RX6_198 cal_X0_keepAct e30 rfl (lk_X0_keepAct (jE_g E) (jE_tr E) N e28) rfl (Nat.le_of_ble_eq_true rfl) (jR_le hX (by decide) (by decide)) (jFx hX (by decide) (by decide)) rfl ?_
      rintro _ _ ⟨rfl, rfl⟩
      refine J_aload_n E (jd dk_X6_carry_0 26 rfl) rfl 1 rfl ?_
      obtain ⟨x31, e32, hf⟩ := jbind hf
      refine J_getr E (jd dk_X6_carry_0 27 rfl) fl_RX6_37 e32 ?_
      obtain ⟨x33, e34, hf⟩ := jbind hf
      refine J_getr E (jd dk_X6_carry_0 28 rfl) fl_RX6_113 e34 ?_
      obtain ⟨x35, e36, hf⟩ := jbind hf
      refine J_getr E (jd dk_X6_carry_0 29 rfl) fl_RX6_179 e36 ?_
      refine J_iload_n E (jd dk_X6_carry_0 30 rfl) rfl 2 rfl ?_
      refine J_iload_n E (jd dk_X6_carry_0 31 rfl) rfl 3 rfl ?_
      obtain ⟨h37, e38, hf⟩ := jbind hf
      refine J_iast E (jd dk_X6_carry_0 32 rfl) e38 ?_
      refine J_iload_n E (jd dk_X6_carry_0 33 rfl) rfl 0 rfl ?_
      cases hf
      exact J_x (J_iret E hr rfl (jd dk_X6_carry_0 34 rfl) (by decide) (by decide) ⟨_, rfl, rfl, rfl⟩)
    · replace hf := jif_t c24 hf
      refine J_sub [1] rfl ?_
      exact lk_X6_carry_b33 E hX hr htab N hf
def f_X6_dredge_b24 (N : Nat) (v0 : Nat) (h : AH) : Option ((Nat ⊕ Int32) × AH) :=
  (jck 6 h v0).bind fun _ =>
  (f_X6_refuse N h v0 1).bind fun r1 =>
  some (.inr r1.1, r1.2)
def f_X6_dredge (N : Nat) (h : AH) (a0 : Nat) (a1 : Int32) (a2 : Int32) (a3 : Int32) : Option ((Nat ⊕ Int32) × AH) :=
  (jck 6 h a0).bind fun _ =>
  (f_X6_needReach N h a0 a1).bind fun r5 => Sum.elim (fun k => some (.inl k, r5.2)) (fun _ =>
  if a2 < 0 then f_X6_dredge_b24 N a0 r5.2
  else if 3 < a2 then f_X6_dredge_b24 N a0 r5.2
  else if a3 < 0 then f_X6_dredge_b24 N a0 r5.2
  else if a3 ≤ 7 then (jgr 6 r5.2 a0 5).bind fun x14 =>
  (jck 0 r5.2 x14).bind fun _ =>
  (f_X0_keepAct N r5.2 x14).bind fun r16 =>
  (jgr 6 r16 a0 5).bind fun x20 =>
  (jgr 0 r16 x20 0).bind fun x22 =>
  (jgr 5 r16 x22 6).bind fun x24 =>
  (jal 0 r16 x24 a1).bind fun x26 =>
  (jgr 6 r16 a0 5).bind fun x28 =>
  (jgr 0 r16 x28 0).bind fun x30 =>
  (jgr 5 r16 x30 7).bind fun x32 =>
  (jal 0 r16 x32 a1).bind fun x34 =>
  (jgr 6 r16 a0 5).bind fun x36 =>
  (jgr 0 r16 x36 0).bind fun x38 =>
  (jgr 5 r16 x38 6).bind fun x40 =>
  (jas 0 r16 x40 a1 a2).bind fun h42 =>
  (jgr 6 h42 a0 5).bind fun x44 =>
  (jgr 0 h42 x44 0).bind fun x46 =>
  (jgr 5 h42 x46 7).bind fun x48 =>
  (jas 0 h42 x48 a1 a3).bind fun h50 =>
  some (.inr (((10 : Int32) * x26) + x34), h50)
  else f_X6_dredge_b24 N a0 r5.2) r5.1
set_option maxRecDepth 100000 in
set_option maxHeartbeats 4000000 in
theorem lk_X6_dredge_b24 {G : JG} {X : JX} (E : jE G X (RX6, cX6_dredge, 5)) (hX : X.2.2.2.1 = jRm 3 1 6) (hr : X.2.2.2.2.2.2.2.2.1.sig.returnType = (some .int)) (htab : ∀ x ∈ X.2.2.2.2.2.2.2.2.2.exceptionTable.toList, False) (N : Nat) {v0 : Nat} {h : AH}  {r : ((Nat ⊕ Int32) × AH)} (hf : f_X6_dredge_b24 N v0 h = some r) : JW G X (RX6, cX6_dredge, 5) h [(0, .ref v0)] [] 24 1 6 (jEndX G X (jpXi r) (jpXx r) 1 6) := by
  unfold f_X6_dredge_b24 at hf
  refine J_aload_n E (jd dk_X6_dredge_0 13 rfl) rfl 0 rfl ?_
  refine J_iconst (v := 1) E (jd dk_X6_dredge_0 14 rfl) rfl ?_
  obtain ⟨u3, e4, hf⟩ := jbind hf
  obtain ⟨r1, e2, hf⟩ := jbind hf
  refine J_callV E (jd dk_X6_dredge_0 15 rfl) ml_RX6_195 cal_X6_refuse e4 rfl (lk_X6_refuse (jE_g E) (jE_tr E) N e2) rfl (Nat.le_of_ble_eq_true rfl) (jR_le hX (by decide) (by decide)) (jFx hX (by decide) (by decide)) rfl ?_
  rintro _ _ ⟨rfl, rfl⟩
  cases hf
  exact J_x (J_iret E hr rfl (jd dk_X6_dredge_0 16 rfl) (by decide) (by decide) ⟨_, rfl, rfl, rfl⟩)
set_option maxRecDepth 100000 in
set_option maxHeartbeats 4000000 in
theorem lk_X6_dredge {G : JG} {l : Launch} (hG : jG G) (htr : l.stackTraces = false) (N : Nat) {h : AH} {a0 : Nat} {a1 : Int32} {a2 : Int32} {a3 : Int32} {r : ((Nat ⊕ Int32) × AH)} (hf : f_X6_dredge N h a0 a1 a2 a3 = some r) : jMetX G l yX6_dredge cX6_dredge 5 (some .int) 3 1 6 [.ref a0, .int a1, .int a2, .int a3] h (jpXi r) (jpXx r) := by
  unfold f_X6_dredge at hf
  refine jMetX_of hG htr (by decide) (Nat.le_of_ble_eq_true rfl) ?_
  intro X E hl9 hr hX htab
  show JW G X (RX6, cX6_dredge, 5) h [(0, .ref a0), (1, .int a1), (2, .int a2), (3, .int a3)] [] 0 0 0 (jEndX G X (jpXi r) (jpXx r) 1 6)
  refine J_aload_n E (jd dk_X6_dredge_0 0 rfl) rfl 0 rfl ?_
  refine J_iload_n E (jd dk_X6_dredge_0 1 rfl) rfl 1 rfl ?_
  obtain ⟨u7, e8, hf⟩ := jbind hf
  obtain ⟨r5, e6, hf⟩ := jbind hf
  obtain ⟨r5a, r5b⟩ := r5
  refine J_callVX E (jd dk_X6_dredge_0 2 rfl) ml_RX6_159 cal_X6_needReach e8 rfl (lk_X6_needReach (jE_g E) (jE_tr E) N e6) rfl (Nat.le_of_ble_eq_true rfl) (jR_le hX (by decide) (by decide)) (jFx hX (by decide) (by decide)) rfl ?_ ?_
  rotate_left
  · rintro _ _ ⟨k9, rfl, rfl, rfl⟩
    replace hf := Option.some.inj hf
    subst hf
    exact J_out E htab (by decide) (by decide) ⟨_, rfl, rfl, rfl⟩
  rintro _ _ ⟨rfl, rfl, rfl⟩
  replace hf : _ = some _ := hf
  refine J_iload_n E (jd dk_X6_dredge_0 3 rfl) rfl 2 rfl ?_
  refine J_if_lt (tgt := 24) E (jd dk_X6_dredge_0 4 rfl) (by decide) (fun c10 => ?_) (fun c10 => ?_)
  · replace hf := jif_t c10 hf
    refine J_sub [0] rfl ?_
    exact lk_X6_dredge_b24 E hX hr htab N hf
  · replace hf := jif_f c10 hf
    refine J_iload_n E (jd dk_X6_dredge_0 5 rfl) rfl 2 rfl ?_
    refine J_iconst (v := 3) E (jd dk_X6_dredge_0 6 rfl) rfl ?_
    refine J_icmp_gt (tgt := 24) E (jd dk_X6_dredge_0 7 rfl) (by decide) (fun c11 => ?_) (fun c11 => ?_)
    · replace hf := jif_t c11 hf
      refine J_sub [0] rfl ?_
      exact lk_X6_dredge_b24 E hX hr htab N hf
    · replace hf := jif_f c11 hf
      refine J_iload_n E (jd dk_X6_dredge_0 8 rfl) rfl 3 rfl ?_
      refine J_if_lt (tgt := 24) E (jd dk_X6_dredge_0 9 rfl) (by decide) (fun c12 => ?_) (fun c12 => ?_)
      · replace hf := jif_t c12 hf
        refine J_sub [0] rfl ?_
        exact lk_X6_dredge_b24 E hX hr htab N hf
      · replace hf := jif_f c12 hf
        refine J_iload_n E (jd dk_X6_dredge_0 10 rfl) rfl 3 rfl ?_
        refine J_bipush (v := 7) E (jd dk_X6_dredge_0 11 rfl) (by decide) ?_
        refine J_icmp_le (tgt := 30) E (jd dk_X6_dredge_0 12 rfl) (by decide) (fun c13 => ?_) (fun c13 => ?_)
        · replace hf := jif_t c13 hf
          refine J_aload_n E (jd dk_X6_dredge_0 17 rfl) rfl 0 rfl ?_
          obtain ⟨x14, e15, hf⟩ := jbind hf
          refine J_getr E (jd dk_X6_dredge_0 18 rfl) fl_RX6_37 e15 ?_
          obtain ⟨u18, e19, hf⟩ := jbind hf
          obtain ⟨r16, e17, hf⟩ := jbind hf
          refine J_callV E (jd dk_X6_dredge_0 19 rfl) ml_RX6_198 cal_X0_keepAct e19 rfl (lk_X0_keepAct (jE_g E) (jE_tr E) N e17) rfl (Nat.le_of_ble_eq_true rfl) (jR_le hX (by decide) (by decide)) (jFx hX (by decide) (by decide)) rfl ?_
          rintro _ _ ⟨rfl, rfl⟩
          refine J_bipush (v := 10) E (jd dk_X6_dredge_0 20 rfl) (by decide) ?_
          refine J_aload_n E (jd dk_X6_dredge_0 21 rfl) rfl 0 rfl ?_
          obtain ⟨x20, e21, hf⟩ := jbind hf
          refine J_getr E (jd dk_X6_dredge_0 22 rfl) fl_RX6_37 e21 ?_
          obtain ⟨x22, e23, hf⟩ := jbind hf
          refine J_getr E (jd dk_X6_dredge_0 23 rfl) fl_RX6_113 e23 ?_
          obtain ⟨x24, e25, hf⟩ := jbind hf
          refine J_getr E (jd dk_X6_dredge_0 24 rfl) fl_RX6_166 e25 ?_
          refine J_iload_n E (jd dk_X6_dredge_0 25 rfl) rfl 1 rfl ?_
          obtain ⟨x26, e27, hf⟩ := jbind hf
          refine J_iald E (jd dk_X6_dredge_0 26 rfl) e27 ?_
          refine J_imul E (jd dk_X6_dredge_0 27 rfl) ?_
          refine J_aload_n E (jd dk_X6_dredge_0 28 rfl) rfl 0 rfl ?_
          obtain ⟨x28, e29, hf⟩ := jbind hf
          refine J_getr E (jd dk_X6_dredge_0 29 rfl) fl_RX6_37 e29 ?_
          obtain ⟨x30, e31, hf⟩ := jbind hf
          refine J_getr E (jd dk_X6_dredge_0 30 rfl) fl_RX6_113 e31 ?_
          obtain ⟨x32, e33, hf⟩ := jbind hf
          refine J_getr E (jd dk_X6_dredge_0 31 rfl) fl_RX6_169 e33 ?_
          refine J_iload_n E (jd dk_X6_dredge_0 32 rfl) rfl 1 rfl ?_
          obtain ⟨x34, e35, hf⟩ := jbind hf
          refine J_iald E (jd dk_X6_dredge_0 33 rfl) e35 ?_
          refine J_iadd E (jd dk_X6_dredge_0 34 rfl) ?_
          refine J_istore (lv' := [(4, .int (((10 : Int32) * x26) + x34)), (0, .ref a0), (1, .int a1), (2, .int a2), (3, .int a3)]) E (jd dk_X6_dredge_0 35 rfl) (by decide) rfl ?_
          refine J_aload_n E (jd dk_X6_dredge_0 36 rfl) rfl 1 rfl ?_
          obtain ⟨x36, e37, hf⟩ := jbind hf
          refine J_getr E (jd dk_X6_dredge_0 37 rfl) fl_RX6_37 e37 ?_
          obtain ⟨x38, e39, hf⟩ := jbind hf
          refine J_getr E (jd dk_X6_dredge_0 38 rfl) fl_RX6_113 e39 ?_
          obtain ⟨x40, e41, hf⟩ := jbind hf
          refine J_getr E (jd dk_X6_dredge_0 39 rfl) fl_RX6_166 e41 ?_
          refine J_iload_n E (jd dk_X6_dredge_0 40 rfl) rfl 2 rfl ?_
          refine J_iload_n E (jd dk_X6_dredge_0 41 rfl) rfl 3 rfl ?_
          obtain ⟨h42, e43, hf⟩ := jbind hf
          refine J_iast E (jd dk_X6_dredge_0 42 rfl) e43 ?_
          refine J_aload_n E (jd dk_X6_dredge_0 43 rfl) rfl 1 rfl ?_
          obtain ⟨x44, e45, hf⟩ := jbind hf
          refine J_getr E (jd dk_X6_dredge_0 44 rfl) fl_RX6_37 e45 ?_
          obtain ⟨x46, e47, hf⟩ := jbind hf
          refine J_getr E (jd dk_X6_dredge_0 45 rfl) fl_RX6_113 e47 ?_
          obtain ⟨x48, e49, hf⟩ := jbind hf
          refine J_getr E (jd dk_X6_dredge_0 46 rfl) fl_RX6_169 e49 ?_
          refine J_iload_n E (jd dk_X6_dredge_0 47 rfl) rfl 2 rfl ?_
          refine J_iload_n E (jd dk_X6_dredge_0 48 rfl) rfl 4 rfl ?_
          obtain ⟨h50, e51, hf⟩ := jbind hf
          refine J_iast E (jd dk_X6_dredge_0 49 rfl) e51 ?_
          refine J_iload E (jd dk_X6_dredge_1 0 rfl) 0 rfl ?_
          cases hf
          exact J_x (J_iret E hr rfl (jd dk_X6_dredge_1 1 rfl) (by decide) (by decide) ⟨_, rfl, rfl, rfl⟩)
        · replace hf := jif_f c13 hf
          refine J_sub [0] rfl ?_
          exact lk_X6_dredge_b24 E hX hr htab N hf
def f_X6_undo (N : Nat) (h : AH) (a0 : Nat) : Option (Int32 × AH) :=
  (jgr 6 h a0 5).bind fun x1 =>
  (jck 0 h x1).bind fun _ =>
  (f_X0_undoAct N h x1).bind fun r3 =>
  if r3.1 = 0 then some ((-1), r3.2)
  else (jgr 6 r3.2 a0 5).bind fun x8 =>
  (jgi 0 r3.2 x8 2).bind fun x10 =>
  some (x10, r3.2)
set_option maxRecDepth 100000 in
set_option maxHeartbeats 4000000 in
theorem lk_X6_undo {G : JG} {l : Launch} (hG : jG G) (htr : l.stackTraces = false) (N : Nat) {h : AH} {a0 : Nat} {r : (Int32 × AH)} (hf : f_X6_undo N h a0 = some r) : jMet G l yX6_undo cX6_undo 1 (some .int) 3 0 0 [.ref a0] h (jpi r) := by
  unfold f_X6_undo at hf
  refine jMet_of hG htr (by decide) (Nat.le_of_ble_eq_true rfl) ?_
  intro X E hl9 hr hX _ _
  show JW G X (RX6, cX6_undo, 1) h [(0, .ref a0)] [] 0 0 0 (jEnd G X (jpi r) 0 0)
  refine J_aload_n E (jd dk_X6_undo_0 0 rfl) rfl 0 rfl ?_
  obtain ⟨x1, e2, hf⟩ := jbind hf
  refine J_getr E (jd dk_X6_undo_0 1 rfl) fl_RX6_37 e2 ?_
  obtain ⟨u5, e6, hf⟩ := jbind hf
  obtain ⟨r3, e4, hf⟩ := jbind hf
  refine J_callV E (jd dk_X6_undo_0 2 rfl) ml_RX6_212 cal_X0_undoAct e6 rfl (lk_X0_undoAct (jE_g E) (jE_tr E) N e4) rfl (Nat.le_of_ble_eq_true rfl) (jR_le hX (by decide) (by decide)) (jF0 hX) rfl ?_
  rintro _ _ ⟨rfl, rfl⟩
  refine J_if_eq (tgt := 20) E (jd dk_X6_undo_0 3 rfl) (by decide) (fun c7 => ?_) (fun c7 => ?_)
  · replace hf := jif_t c7 hf
    refine J_iconst (v := (-1)) E (jd dk_X6_undo_0 8 rfl) rfl ?_
    cases hf
    exact J_iret E hr rfl (jd dk_X6_undo_0 9 rfl) (Nat.le_refl _) (Nat.le_refl _) ⟨rfl, rfl⟩
  · replace hf := jif_f c7 hf
    refine J_aload_n E (jd dk_X6_undo_0 4 rfl) rfl 0 rfl ?_
    obtain ⟨x8, e9, hf⟩ := jbind hf
    refine J_getr E (jd dk_X6_undo_0 5 rfl) fl_RX6_37 e9 ?_
    obtain ⟨x10, e11, hf⟩ := jbind hf
    refine J_geti E (jd dk_X6_undo_0 6 rfl) fl_RX6_136 e11 ?_
    refine J_goto (tgt := 21) E (jd dk_X6_undo_0 7 rfl) (by decide) ?_
    cases hf
    exact J_iret E hr rfl (jd dk_X6_undo_0 9 rfl) (Nat.le_refl _) (Nat.le_refl _) ⟨rfl, rfl⟩
def f_X6_needSteps_b10 (N : Nat)  (h : AH) : Option ((Nat ⊕ Unit) × AH) :=
  some (.inl 2, h)
def f_X6_needSteps (N : Nat) (h : AH) (a0 : Int32) (a1 : Int32) (a2 : Int32) : Option ((Nat ⊕ Unit) × AH) :=
  if a0 < a1 then f_X6_needSteps_b10 N  h
  else if a0 ≤ a2 then some (.inr (), h)
  else f_X6_needSteps_b10 N  h
set_option maxRecDepth 100000 in
set_option maxHeartbeats 4000000 in
theorem lk_X6_needSteps_b10 {G : JG} {X : JX} (E : jE G X (RX6, cX6_needSteps, 3)) (hX : X.2.2.2.1 = jRm 1 1 6) (hr : X.2.2.2.2.2.2.2.2.1.sig.returnType = none) (htab : ∀ x ∈ X.2.2.2.2.2.2.2.2.2.exceptionTable.toList, False) (N : Nat)  {h : AH}  {r : ((Nat ⊕ Unit) × AH)} (hf : f_X6_needSteps_b10 N  h = some r) : JW G X (RX6, cX6_needSteps, 3) h [] [] 10 0 0 (jEndX G X (jpXv r) (jpXx r) 1 6) := by
  unfold f_X6_needSteps_b10 at hf
  cases hf
  exact J_throwW (j := 21) (text := "not so many steps") E thr_2 rfl htab (jd dk_X6_needSteps_0 6 rfl) (jd dk_X6_needSteps_0 7 rfl) (jd dk_X6_needSteps_0 8 rfl) (jd dk_X6_needSteps_0 9 rfl) (jd dk_X6_needSteps_0 10 rfl) (Nat.le_of_ble_eq_true rfl) (jRc hX (by decide) (by decide)) (by decide) (by decide) ⟨2, rfl, rfl, rfl⟩
set_option maxRecDepth 100000 in
set_option maxHeartbeats 4000000 in
theorem lk_X6_needSteps {G : JG} {l : Launch} (hG : jG G) (htr : l.stackTraces = false) (N : Nat) {h : AH} {a0 : Int32} {a1 : Int32} {a2 : Int32} {r : ((Nat ⊕ Unit) × AH)} (hf : f_X6_needSteps N h a0 a1 a2 = some r) : jMetX G l yX6_needSteps cX6_needSteps 3 none 1 1 6 [.int a0, .int a1, .int a2] h (jpXv r) (jpXx r) := by
  unfold f_X6_needSteps at hf
  refine jMetX_of hG htr (by decide) (Nat.le_of_ble_eq_true rfl) ?_
  intro X E hl9 hr hX htab
  show JW G X (RX6, cX6_needSteps, 3) h [(0, .int a0), (1, .int a1), (2, .int a2)] [] 0 0 0 (jEndX G X (jpXv r) (jpXx r) 1 6)
  refine J_iload_n E (jd dk_X6_needSteps_0 0 rfl) rfl 0 rfl ?_
  refine J_iload_n E (jd dk_X6_needSteps_0 1 rfl) rfl 1 rfl ?_
  refine J_icmp_lt (tgt := 10) E (jd dk_X6_needSteps_0 2 rfl) (by decide) (fun c1 => ?_) (fun c1 => ?_)
  · replace hf := jif_t c1 hf
    refine J_sub [] rfl ?_
    exact lk_X6_needSteps_b10 E hX hr htab N hf
  · replace hf := jif_f c1 hf
    refine J_iload_n E (jd dk_X6_needSteps_0 3 rfl) rfl 0 rfl ?_
    refine J_iload_n E (jd dk_X6_needSteps_0 4 rfl) rfl 2 rfl ?_
    refine J_icmp_le (tgt := 21) E (jd dk_X6_needSteps_0 5 rfl) (by decide) (fun c2 => ?_) (fun c2 => ?_)
    · replace hf := jif_t c2 hf
      cases hf
      exact J_x (J_vret E hr (jd dk_X6_needSteps_0 11 rfl) (by decide) (by decide) ⟨rfl, rfl, rfl⟩)
    · replace hf := jif_f c2 hf
      refine J_sub [] rfl ?_
      exact lk_X6_needSteps_b10 E hX hr htab N hf
def f_X6_tryFromNow (N : Nat) (h : AH) (a0 : Nat) : Option AH :=
  (jgr 6 h a0 8).bind fun x1 =>
  (jgr 6 h a0 5).bind fun x3 =>
  (jgr 0 h x3 0).bind fun x5 =>
  (jck 5 h x1).bind fun _ =>
  (f_X5_copyFrom N h x1 x5).bind fun r7 =>
  some r7
set_option maxRecDepth 100000 in
set_option maxHeartbeats 4000000 in
theorem lk_X6_tryFromNow {G : JG} {l : Launch} (hG : jG G) (htr : l.stackTraces = false) (N : Nat) {h : AH} {a0 : Nat} {r : AH} (hf : f_X6_tryFromNow N h a0 = some r) : jMet G l yX6_tryFromNow cX6_tryFromNow 1 none 2 0 0 [.ref a0] h (jpv r) := by
  unfold f_X6_tryFromNow at hf
  refine jMet_of hG htr (by decide) (Nat.le_of_ble_eq_true rfl) ?_
  intro X E hl9 hr hX _ _
  show JW G X (RX6, cX6_tryFromNow, 1) h [(0, .ref a0)] [] 0 0 0 (jEnd G X (jpv r) 0 0)
  refine J_aload_n E (jd dk_X6_tryFromNow_0 0 rfl) rfl 0 rfl ?_
  obtain ⟨x1, e2, hf⟩ := jbind hf
  refine J_getr E (jd dk_X6_tryFromNow_0 1 rfl) fl_RX6_51 e2 ?_
  refine J_aload_n E (jd dk_X6_tryFromNow_0 2 rfl) rfl 0 rfl ?_
  obtain ⟨x3, e4, hf⟩ := jbind hf
  refine J_getr E (jd dk_X6_tryFromNow_0 3 rfl) fl_RX6_37 e4 ?_
  obtain ⟨x5, e6, hf⟩ := jbind hf
  refine J_getr E (jd dk_X6_tryFromNow_0 4 rfl) fl_RX6_113 e6 ?_
  obtain ⟨u9, e10, hf⟩ := jbind hf
  obtain ⟨r7, e8, hf⟩ := jbind hf
  refine J_callV E (jd dk_X6_tryFromNow_0 5 rfl) ml_RX6_336 cal_X5_copyFrom e10 rfl (lk_X5_copyFrom (jE_g E) (jE_tr E) N e8) rfl (Nat.le_of_ble_eq_true rfl) (jR_le hX (by decide) (by decide)) (jF0 hX) rfl ?_
  rintro _ _ ⟨rfl, rfl⟩
  cases hf
  exact J_vret E hr (jd dk_X6_tryFromNow_0 6 rfl) (Nat.le_refl _) (Nat.le_refl _) ⟨rfl, rfl⟩
def f_X6_goOnTrying_l2 (N : Nat) (v0 : Nat) (v1 : Int32) (v2 : Int32) (h : AH) : Option ((Int32 × AH) ⊕ ((AH))) :=
  if v1 ≤ v2 then some (.inr h)
  else (jgr 6 h v0 8).bind fun x2 =>
  (jgr 6 h v0 4).bind fun x4 =>
  (jck 5 h x2).bind fun _ =>
  (f_X5_pass N h x2 x4 0).bind fun r6 =>
  some (.inl ((v2 + 1, r6)))
def f_X6_goOnTrying_b2 (N : Nat) (v0 : Nat) (v1 : Int32) (v2 : Int32) (h : AH) : Option AH :=
  (itr (fun s => f_X6_goOnTrying_l2 N v0 v1 s.1 s.2) N (v2, h)).bind (fun e => some e)
def f_X6_goOnTrying (N : Nat) (h : AH) (a0 : Nat) (a1 : Int32) : Option AH :=
  f_X6_goOnTrying_b2 N a0 a1 0 h
set_option maxRecDepth 100000 in
set_option maxHeartbeats 4000000 in
theorem lk_X6_goOnTrying_l2 {G : JG} {X : JX} (E : jE G X (RX6, cX6_goOnTrying, 3)) (hX : X.2.2.2.1 = jRm 5 0 0) (hr : X.2.2.2.2.2.2.2.2.1.sig.returnType = none) (N : Nat) {Q : State → Prop} {v0 : Nat} {v1 : Int32} {v2 : Int32}  {h : AH} {q : ((Int32 × AH) ⊕ ((AH)))} (hf : f_X6_goOnTrying_l2 N v0 v1 v2 h = some q) (kb : ∀ s' : Int32 × AH, q = .inl s' → JW G X (RX6, cX6_goOnTrying, 3) s'.2 [(0, .ref v0), (1, .int v1), (2, .int s'.1)] [] 2 0 0 Q) (ke0 : ∀ e : AH, q = .inr e → JW G X (RX6, cX6_goOnTrying, 3) e [] [] 25 0 0 Q) : JW G X (RX6, cX6_goOnTrying, 3) h [(0, .ref v0), (1, .int v1), (2, .int v2)] [] 2 0 0 Q := by
  unfold f_X6_goOnTrying_l2 at hf
  refine J_iload_n E (jd dk_X6_goOnTrying_0 2 rfl) rfl 2 rfl ?_
  refine J_iload_n E (jd dk_X6_goOnTrying_0 3 rfl) rfl 1 rfl ?_
  refine J_icmp_ge (tgt := 25) E (jd dk_X6_goOnTrying_0 4 rfl) (by decide) (fun c1 => ?_) (fun c1 => ?_)
  · replace hf := jif_t c1 hf
    refine J_sub [] rfl ?_
    exact ke0 _ (Option.some.inj hf).symm
  · replace hf := jif_f c1 hf
    refine J_aload_n E (jd dk_X6_goOnTrying_0 5 rfl) rfl 0 rfl ?_
    obtain ⟨x2, e3, hf⟩ := jbind hf
    refine J_getr E (jd dk_X6_goOnTrying_0 6 rfl) fl_RX6_51 e3 ?_
    refine J_aload_n E (jd dk_X6_goOnTrying_0 7 rfl) rfl 0 rfl ?_
    obtain ⟨x4, e5, hf⟩ := jbind hf
    refine J_getr E (jd dk_X6_goOnTrying_0 8 rfl) fl_RX6_30 e5 ?_
    refine J_iconst (v := 0) E (jd dk_X6_goOnTrying_0 9 rfl) rfl ?_
    obtain ⟨u8, e9, hf⟩ := jbind hf
    obtain ⟨r6, e7, hf⟩ := jbind hf
    refine J_callV E (jd dk_X6_goOnTrying_0 10 rfl) ml_RX6_201 cal_X5_pass e9 rfl (lk_X5_pass (jE_g E) (jE_tr E) N e7) rfl (Nat.le_of_ble_eq_true rfl) (jR_le hX (by decide) (by decide)) (jF0 hX) rfl ?_
    rintro _ _ ⟨rfl, rfl⟩
    refine J_iinc (v := v2 + 1) (lv' := [(2, .int (v2 + 1)), (0, .ref v0), (1, .int v1)]) E (jd dk_X6_goOnTrying_0 11 rfl) 2 rfl rfl (by decide) rfl ?_
    refine J_goto (tgt := 2) E (jd dk_X6_goOnTrying_0 12 rfl) (by decide) ?_
    refine J_sub [1, 2, 0] rfl ?_
    exact kb _ (Option.some.inj hf).symm
set_option maxRecDepth 100000 in
set_option maxHeartbeats 4000000 in
theorem lk_X6_goOnTrying_b2 {G : JG} {X : JX} (E : jE G X (RX6, cX6_goOnTrying, 3)) (hX : X.2.2.2.1 = jRm 5 0 0) (hr : X.2.2.2.2.2.2.2.2.1.sig.returnType = none) (N : Nat) {v0 : Nat} {v1 : Int32} {v2 : Int32} {h : AH}  {r : AH} (hf : f_X6_goOnTrying_b2 N v0 v1 v2 h = some r) : JW G X (RX6, cX6_goOnTrying, 3) h [(0, .ref v0), (1, .int v1), (2, .int v2)] [] 2 0 0 (jEnd G X (jpv r) 0 0) := by
  unfold f_X6_goOnTrying_b2 at hf
  obtain ⟨q1, h1, hf⟩ := jbind hf
  refine jloop (P := fun s => JW G X (RX6, cX6_goOnTrying, 3) s.2 [(0, .ref v0), (1, .int v1), (2, .int s.1)] [] 2 0 0 (jEnd G X (jpv r) 0 0)) (Ex := fun (e : AH) => JW G X (RX6, cX6_goOnTrying, 3) e [] [] 25 0 0 (jEnd G X (jpv r) 0 0)) (fun s q hs hb hx => lk_X6_goOnTrying_l2 E hX hr N hs (fun s' hs => hb s' hs) (fun e he => hx e he)) N _ q1 h1 ?_
  generalize q1 = e at hf ⊢
  cases hf
  exact J_vret E hr (jd dk_X6_goOnTrying_0 13 rfl) (Nat.le_refl _) (Nat.le_refl _) ⟨rfl, rfl⟩
set_option maxRecDepth 100000 in
set_option maxHeartbeats 4000000 in
theorem lk_X6_goOnTrying {G : JG} {l : Launch} (hG : jG G) (htr : l.stackTraces = false) (N : Nat) {h : AH} {a0 : Nat} {a1 : Int32} {r : AH} (hf : f_X6_goOnTrying N h a0 a1 = some r) : jMet G l yX6_goOnTrying cX6_goOnTrying 3 none 5 0 0 [.ref a0, .int a1] h (jpv r) := by
  unfold f_X6_goOnTrying at hf
  refine jMet_of hG htr (by decide) (Nat.le_of_ble_eq_true rfl) ?_
  intro X E hl9 hr hX _ _
  show JW G X (RX6, cX6_goOnTrying, 3) h [(0, .ref a0), (1, .int a1)] [] 0 0 0 (jEnd G X (jpv r) 0 0)
  refine J_iconst (v := 0) E (jd dk_X6_goOnTrying_0 0 rfl) rfl ?_
  refine J_istore_n (lv' := [(2, .int 0), (0, .ref a0), (1, .int a1)]) E (jd dk_X6_goOnTrying_0 1 rfl) rfl (by decide) rfl ?_
  refine J_sub [1, 2, 0] rfl ?_
  exact lk_X6_goOnTrying_b2 E hX hr N hf
def f_X6_tryFor (N : Nat) (h : AH) (a0 : Nat) (a1 : Int32) : Option AH :=
  (jck 6 h a0).bind fun _ =>
  (f_X6_tryFromNow N h a0).bind fun r1 =>
  (jck 6 r1 a0).bind fun _ =>
  (f_X6_goOnTrying N r1 a0 a1).bind fun r5 =>
  some r5
set_option maxRecDepth 100000 in
set_option maxHeartbeats 4000000 in
theorem lk_X6_tryFor {G : JG} {l : Launch} (hG : jG G) (htr : l.stackTraces = false) (N : Nat) {h : AH} {a0 : Nat} {a1 : Int32} {r : AH} (hf : f_X6_tryFor N h a0 a1 = some r) : jMet G l yX6_tryFor cX6_tryFor 2 none 6 0 0 [.ref a0, .int a1] h (jpv r) := by
  unfold f_X6_tryFor at hf
  refine jMet_of hG htr (by decide) (Nat.le_of_ble_eq_true rfl) ?_
  intro X E hl9 hr hX _ _
  show JW G X (RX6, cX6_tryFor, 2) h [(0, .ref a0), (1, .int a1)] [] 0 0 0 (jEnd G X (jpv r) 0 0)
  refine J_aload_n E (jd dk_X6_tryFor_0 0 rfl) rfl 0 rfl ?_
  obtain ⟨u3, e4, hf⟩ := jbind hf
  obtain ⟨r1, e2, hf⟩ := jbind hf
  refine J_callV E (jd dk_X6_tryFor_0 1 rfl) ml_RX6_223 cal_X6_tryFromNow e4 rfl (lk_X6_tryFromNow (jE_g E) (jE_tr E) N e2) rfl (Nat.le_of_ble_eq_true rfl) (jR_le hX (by decide) (by decide)) (jF0 hX) rfl ?_
  rintro _ _ ⟨rfl, rfl⟩
  refine J_aload_n E (jd dk_X6_tryFor_0 2 rfl) rfl 0 rfl ?_
  refine J_iload_n E (jd dk_X6_tryFor_0 3 rfl) rfl 1 rfl ?_
  obtain ⟨u7, e8, hf⟩ := jbind hf
  obtain ⟨r5, e6, hf⟩ := jbind hf
  refine J_callV E (jd dk_X6_tryFor_0 4 rfl) ml_RX6_256 cal_X6_goOnTrying e8 rfl (lk_X6_goOnTrying (jE_g E) (jE_tr E) N e6) rfl (Nat.le_of_ble_eq_true rfl) (jR_le hX (by decide) (by decide)) (jF0 hX) rfl ?_
  rintro _ _ ⟨rfl, rfl⟩
  cases hf
  exact J_vret E hr (jd dk_X6_tryFor_0 5 rfl) (Nat.le_refl _) (Nat.le_refl _) ⟨rfl, rfl⟩
def f_X6_then (N : Nat) (h : AH) (a0 : Nat) (a1 : Int32) (a2 : Int32) (a3 : Int32) : Option ((Nat ⊕ Int32) × AH) :=
  (jck 6 h a0).bind fun _ =>
  (f_X6_needJudge N h a0 a1).bind fun r1 => Sum.elim (fun k => some (.inl k, r1.2)) (fun _ =>
  (f_X6_needWhat N r1.2 a3 2).bind fun r6 => Sum.elim (fun k => some (.inl k, r6.2)) (fun _ =>
  (f_X6_needSteps N r6.2 a2 0 60).bind fun r9 => Sum.elim (fun k => some (.inl k, r9.2)) (fun _ =>
  (jck 6 r9.2 a0).bind fun _ =>
  (f_X6_tryFor N r9.2 a0 a2).bind fun r12 =>
  if a3 = 0 then (jgr 6 r12 a0 8).bind fun x30 =>
  (jgr 5 r12 x30 1).bind fun x32 =>
  (jal 0 r12 x32 a1).bind fun x34 =>
  some (.inr x34, r12)
  else if a3 = 1 then (jgr 6 r12 a0 8).bind fun x24 =>
  (jgr 5 r12 x24 2).bind fun x26 =>
  (jal 0 r12 x26 a1).bind fun x28 =>
  some (.inr x28, r12)
  else (jgr 6 r12 a0 8).bind fun x18 =>
  (jgr 5 r12 x18 3).bind fun x20 =>
  (jal 0 r12 x20 a1).bind fun x22 =>
  some (.inr x22, r12)) r9.1) r6.1) r1.1
set_option maxRecDepth 100000 in
set_option maxHeartbeats 4000000 in
theorem lk_X6_then {G : JG} {l : Launch} (hG : jG G) (htr : l.stackTraces = false) (N : Nat) {h : AH} {a0 : Nat} {a1 : Int32} {a2 : Int32} {a3 : Int32} {r : ((Nat ⊕ Int32) × AH)} (hf : f_X6_then N h a0 a1 a2 a3 = some r) : jMetX G l yX6_then cX6_then 4 (some .int) 7 3 18 [.ref a0, .int a1, .int a2, .int a3] h (jpXi r) (jpXx r) := by
  unfold f_X6_then at hf
  refine jMetX_of hG htr (by decide) (Nat.le_of_ble_eq_true rfl) ?_
  intro X E hl9 hr hX htab
  show JW G X (RX6, cX6_then, 4) h [(0, .ref a0), (1, .int a1), (2, .int a2), (3, .int a3)] [] 0 0 0 (jEndX G X (jpXi r) (jpXx r) 3 18)
  refine J_aload_n E (jd dk_X6_then_0 0 rfl) rfl 0 rfl ?_
  refine J_iload_n E (jd dk_X6_then_0 1 rfl) rfl 1 rfl ?_
  obtain ⟨u3, e4, hf⟩ := jbind hf
  obtain ⟨r1, e2, hf⟩ := jbind hf
  obtain ⟨r1a, r1b⟩ := r1
  refine J_callVX E (jd dk_X6_then_0 2 rfl) ml_RX6_176 cal_X6_needJudge e4 rfl (lk_X6_needJudge (jE_g E) (jE_tr E) N e2) rfl (Nat.le_of_ble_eq_true rfl) (jR_le hX (by decide) (by decide)) (jFx hX (by decide) (by decide)) rfl ?_ ?_
  rotate_left
  · rintro _ _ ⟨k9, rfl, rfl, rfl⟩
    replace hf := Option.some.inj hf
    subst hf
    exact J_out E htab (by decide) (by decide) ⟨_, rfl, rfl, rfl⟩
  rintro _ _ ⟨rfl, rfl, rfl⟩
  replace hf : _ = some _ := hf
  refine J_iload_n E (jd dk_X6_then_0 3 rfl) rfl 3 rfl ?_
  refine J_iconst (v := 2) E (jd dk_X6_then_0 4 rfl) rfl ?_
  obtain ⟨r6, e7, hf⟩ := jbind hf
  obtain ⟨r6a, r6b⟩ := r6
  refine J_callSX E (jd dk_X6_then_0 5 rfl) ml_RX6_162 cal_X6_needWhat (lk_X6_needWhat (jE_g E) (jE_tr E) N e7) rfl (Nat.le_of_ble_eq_true rfl) (jR_le hX (by decide) (by decide)) (jFx hX (by decide) (by decide)) rfl ?_ ?_
  rotate_left
  · rintro _ _ ⟨k9, rfl, rfl, rfl⟩
    replace hf := Option.some.inj hf
    subst hf
    exact J_out E htab (by decide) (by decide) ⟨_, rfl, rfl, rfl⟩
  rintro _ _ ⟨rfl, rfl, rfl⟩
  replace hf : _ = some _ := hf
  refine J_iload_n E (jd dk_X6_then_0 6 rfl) rfl 2 rfl ?_
  refine J_iconst (v := 0) E (jd dk_X6_then_0 7 rfl) rfl ?_
  refine J_bipush (v := 60) E (jd dk_X6_then_0 8 rfl) (by decide) ?_
  obtain ⟨r9, e10, hf⟩ := jbind hf
  obtain ⟨r9a, r9b⟩ := r9
  refine J_callSX E (jd dk_X6_then_0 9 rfl) ml_RX6_216 cal_X6_needSteps (lk_X6_needSteps (jE_g E) (jE_tr E) N e10) rfl (Nat.le_of_ble_eq_true rfl) (jR_le hX (by decide) (by decide)) (jFx hX (by decide) (by decide)) rfl ?_ ?_
  rotate_left
  · rintro _ _ ⟨k9, rfl, rfl, rfl⟩
    replace hf := Option.some.inj hf
    subst hf
    exact J_out E htab (by decide) (by decide) ⟨_, rfl, rfl, rfl⟩
  rintro _ _ ⟨rfl, rfl, rfl⟩
  replace hf : _ = some _ := hf
  refine J_aload_n E (jd dk_X6_then_0 10 rfl) rfl 0 rfl ?_
  refine J_iload_n E (jd dk_X6_then_0 11 rfl) rfl 2 rfl ?_
  obtain ⟨u14, e15, hf⟩ := jbind hf
  obtain ⟨r12, e13, hf⟩ := jbind hf
  refine J_callV E (jd dk_X6_then_0 12 rfl) ml_RX6_220 cal_X6_tryFor e15 rfl (lk_X6_tryFor (jE_g E) (jE_tr E) N e13) rfl (Nat.le_of_ble_eq_true rfl) (jR_le hX (by decide) (by decide)) (jFx hX (by decide) (by decide)) rfl ?_
  rintro _ _ ⟨rfl, rfl⟩
  refine J_iload_n E (jd dk_X6_then_0 13 rfl) rfl 3 rfl ?_
  refine J_if_ne (tgt := 36) E (jd dk_X6_then_0 14 rfl) (by decide) (fun c16 => ?_) (fun c16 => ?_)
  · replace hf := jif_f c16 hf
    refine J_iload_n E (jd dk_X6_then_0 21 rfl) rfl 3 rfl ?_
    refine J_iconst (v := 1) E (jd dk_X6_then_0 22 rfl) rfl ?_
    refine J_icmp_ne (tgt := 53) E (jd dk_X6_then_0 23 rfl) (by decide) (fun c17 => ?_) (fun c17 => ?_)
    · replace hf := jif_f c17 hf
      refine J_aload_n E (jd dk_X6_then_0 30 rfl) rfl 0 rfl ?_
      obtain ⟨x18, e19, hf⟩ := jbind hf
      refine J_getr E (jd dk_X6_then_0 31 rfl) fl_RX6_51 e19 ?_
      obtain ⟨x20, e21, hf⟩ := jbind hf
      refine J_getr E (jd dk_X6_then_0 32 rfl) fl_RX6_147 e21 ?_
      refine J_iload_n E (jd dk_X6_then_0 33 rfl) rfl 1 rfl ?_
      obtain ⟨x22, e23, hf⟩ := jbind hf
      refine J_iald E (jd dk_X6_then_0 34 rfl) e23 ?_
      cases hf
      exact J_x (J_iret E hr rfl (jd dk_X6_then_0 35 rfl) (by decide) (by decide) ⟨_, rfl, rfl, rfl⟩)
    · replace hf := jif_t c17 hf
      refine J_aload_n E (jd dk_X6_then_0 24 rfl) rfl 0 rfl ?_
      obtain ⟨x24, e25, hf⟩ := jbind hf
      refine J_getr E (jd dk_X6_then_0 25 rfl) fl_RX6_51 e25 ?_
      obtain ⟨x26, e27, hf⟩ := jbind hf
      refine J_getr E (jd dk_X6_then_0 26 rfl) fl_RX6_182 e27 ?_
      refine J_iload_n E (jd dk_X6_then_0 27 rfl) rfl 1 rfl ?_
      obtain ⟨x28, e29, hf⟩ := jbind hf
      refine J_iald E (jd dk_X6_then_0 28 rfl) e29 ?_
      refine J_goto (tgt := 62) E (jd dk_X6_then_0 29 rfl) (by decide) ?_
      cases hf
      exact J_x (J_iret E hr rfl (jd dk_X6_then_0 35 rfl) (by decide) (by decide) ⟨_, rfl, rfl, rfl⟩)
  · replace hf := jif_t c16 hf
    refine J_aload_n E (jd dk_X6_then_0 15 rfl) rfl 0 rfl ?_
    obtain ⟨x30, e31, hf⟩ := jbind hf
    refine J_getr E (jd dk_X6_then_0 16 rfl) fl_RX6_51 e31 ?_
    obtain ⟨x32, e33, hf⟩ := jbind hf
    refine J_getr E (jd dk_X6_then_0 17 rfl) fl_RX6_179 e33 ?_
    refine J_iload_n E (jd dk_X6_then_0 18 rfl) rfl 1 rfl ?_
    obtain ⟨x34, e35, hf⟩ := jbind hf
    refine J_iald E (jd dk_X6_then_0 19 rfl) e35 ?_
    cases hf
    exact J_x (J_iret E hr rfl (jd dk_X6_then_0 20 rfl) (by decide) (by decide) ⟨_, rfl, rfl, rfl⟩)
def f_X6_stepsTillFair_l2 (N : Nat) (v0 : Nat) (v1 : Int32) (v2 : Int32) (h : AH) : Option ((Int32 × AH) ⊕ ((Int32 × AH) ⊕ (AH))) :=
  if 60 < v2 then some (.inr (.inr h))
  else (jgr 6 h v0 8).bind fun x2 =>
  (jgr 6 h v0 4).bind fun x4 =>
  (jck 5 h x2).bind fun _ =>
  (f_X5_isFair N h x2 x4 v1).bind fun r6 =>
  if r6.1 = 0 then (jgr 6 r6.2 v0 8).bind fun x11 =>
  (jgr 6 r6.2 v0 4).bind fun x13 =>
  (jck 5 r6.2 x11).bind fun _ =>
  (f_X5_pass N r6.2 x11 x13 0).bind fun r15 =>
  some (.inl ((v2 + 1, r15)))
  else some (.inr (.inl ((v2, r6.2))))
def f_X6_stepsTillFair_b2 (N : Nat) (v0 : Nat) (v1 : Int32) (v2 : Int32) (h : AH) : Option (Int32 × AH) :=
  (itr (fun s => f_X6_stepsTillFair_l2 N v0 v1 s.1 s.2) N (v2, h)).bind (Sum.elim (fun e => some (e.1, e.2)) (fun e => some ((-1), e)))
def f_X6_stepsTillFair (N : Nat) (h : AH) (a0 : Nat) (a1 : Int32) : Option (Int32 × AH) :=
  f_X6_stepsTillFair_b2 N a0 a1 0 h
set_option maxRecDepth 100000 in
set_option maxHeartbeats 4000000 in
theorem lk_X6_stepsTillFair_l2 {G : JG} {X : JX} (E : jE G X (RX6, cX6_stepsTillFair, 3)) (hX : X.2.2.2.1 = jRm 5 0 0) (hr : X.2.2.2.2.2.2.2.2.1.sig.returnType = (some .int)) (N : Nat) {Q : State → Prop} {v0 : Nat} {v1 : Int32} {v2 : Int32}  {h : AH} {q : ((Int32 × AH) ⊕ ((Int32 × AH) ⊕ (AH)))} (hf : f_X6_stepsTillFair_l2 N v0 v1 v2 h = some q) (kb : ∀ s' : Int32 × AH, q = .inl s' → JW G X (RX6, cX6_stepsTillFair, 3) s'.2 [(0, .ref v0), (1, .int v1), (2, .int s'.1)] [] 2 0 0 Q) (ke0 : ∀ e : Int32 × AH, q = .inr (.inl e) → JW G X (RX6, cX6_stepsTillFair, 3) e.2 [(2, .int e.1)] [] 23 0 0 Q) (ke1 : ∀ e : AH, q = .inr (.inr e) → JW G X (RX6, cX6_stepsTillFair, 3) e [] [] 43 0 0 Q) : JW G X (RX6, cX6_stepsTillFair, 3) h [(0, .ref v0), (1, .int v1), (2, .int v2)] [] 2 0 0 Q := by
  unfold f_X6_stepsTillFair_l2 at hf
  refine J_iload_n E (jd dk_X6_stepsTillFair_0 2 rfl) rfl 2 rfl ?_
  refine J_bipush (v := 60) E (jd dk_X6_stepsTillFair_0 3 rfl) (by decide) ?_
  refine J_icmp_gt (tgt := 43) E (jd dk_X6_stepsTillFair_0 4 rfl) (by decide) (fun c1 => ?_) (fun c1 => ?_)
  · replace hf := jif_t c1 hf
    refine J_sub [] rfl ?_
    exact ke1 _ (Option.some.inj hf).symm
  · replace hf := jif_f c1 hf
    refine J_aload_n E (jd dk_X6_stepsTillFair_0 5 rfl) rfl 0 rfl ?_
    obtain ⟨x2, e3, hf⟩ := jbind hf
    refine J_getr E (jd dk_X6_stepsTillFair_0 6 rfl) fl_RX6_51 e3 ?_
    refine J_aload_n E (jd dk_X6_stepsTillFair_0 7 rfl) rfl 0 rfl ?_
    obtain ⟨x4, e5, hf⟩ := jbind hf
    refine J_getr E (jd dk_X6_stepsTillFair_0 8 rfl) fl_RX6_30 e5 ?_
    refine J_iload_n E (jd dk_X6_stepsTillFair_0 9 rfl) rfl 1 rfl ?_
    obtain ⟨u8, e9, hf⟩ := jbind hf
    obtain ⟨r6, e7, hf⟩ := jbind hf
    refine J_callV E (jd dk_X6_stepsTillFair_0 10 rfl) ml_RX6_232 cal_X5_isFair e9 rfl (lk_X5_isFair (jE_g E) (jE_tr E) N e7) rfl (Nat.le_of_ble_eq_true rfl) (jR_le hX (by decide) (by decide)) (jF0 hX) rfl ?_
    rintro _ _ ⟨rfl, rfl⟩
    refine J_if_eq (tgt := 25) E (jd dk_X6_stepsTillFair_0 11 rfl) (by decide) (fun c10 => ?_) (fun c10 => ?_)
    · replace hf := jif_t c10 hf
      refine J_aload_n E (jd dk_X6_stepsTillFair_0 14 rfl) rfl 0 rfl ?_
      obtain ⟨x11, e12, hf⟩ := jbind hf
      refine J_getr E (jd dk_X6_stepsTillFair_0 15 rfl) fl_RX6_51 e12 ?_
      refine J_aload_n E (jd dk_X6_stepsTillFair_0 16 rfl) rfl 0 rfl ?_
      obtain ⟨x13, e14, hf⟩ := jbind hf
      refine J_getr E (jd dk_X6_stepsTillFair_0 17 rfl) fl_RX6_30 e14 ?_
      refine J_iconst (v := 0) E (jd dk_X6_stepsTillFair_0 18 rfl) rfl ?_
      obtain ⟨u17, e18, hf⟩ := jbind hf
      obtain ⟨r15, e16, hf⟩ := jbind hf
      refine J_callV E (jd dk_X6_stepsTillFair_0 19 rfl) ml_RX6_201 cal_X5_pass e18 rfl (lk_X5_pass (jE_g E) (jE_tr E) N e16) rfl (Nat.le_of_ble_eq_true rfl) (jR_le hX (by decide) (by decide)) (jF0 hX) rfl ?_
      rintro _ _ ⟨rfl, rfl⟩
      refine J_iinc (v := v2 + 1) (lv' := [(2, .int (v2 + 1)), (0, .ref v0), (1, .int v1)]) E (jd dk_X6_stepsTillFair_0 20 rfl) 2 rfl rfl (by decide) rfl ?_
      refine J_goto (tgt := 2) E (jd dk_X6_stepsTillFair_0 21 rfl) (by decide) ?_
      refine J_sub [1, 2, 0] rfl ?_
      exact kb _ (Option.some.inj hf).symm
    · replace hf := jif_f c10 hf
      refine J_sub [2] rfl ?_
      exact ke0 _ (Option.some.inj hf).symm
set_option maxRecDepth 100000 in
set_option maxHeartbeats 4000000 in
theorem lk_X6_stepsTillFair_b2 {G : JG} {X : JX} (E : jE G X (RX6, cX6_stepsTillFair, 3)) (hX : X.2.2.2.1 = jRm 5 0 0) (hr : X.2.2.2.2.2.2.2.2.1.sig.returnType = (some .int)) (N : Nat) {v0 : Nat} {v1 : Int32} {v2 : Int32} {h : AH}  {r : (Int32 × AH)} (hf : f_X6_stepsTillFair_b2 N v0 v1 v2 h = some r) : JW G X (RX6, cX6_stepsTillFair, 3) h [(0, .ref v0), (1, .int v1), (2, .int v2)] [] 2 0 0 (jEnd G X (jpi r) 0 0) := by
  unfold f_X6_stepsTillFair_b2 at hf
  obtain ⟨q1, h1, hf⟩ := jbind hf
  refine jloop (P := fun s => JW G X (RX6, cX6_stepsTillFair, 3) s.2 [(0, .ref v0), (1, .int v1), (2, .int s.1)] [] 2 0 0 (jEnd G X (jpi r) 0 0)) (Ex := Sum.elim (fun (e : Int32 × AH) => JW G X (RX6, cX6_stepsTillFair, 3) e.2 [(2, .int e.1)] [] 23 0 0 (jEnd G X (jpi r) 0 0)) (fun (e : AH) => JW G X (RX6, cX6_stepsTillFair, 3) e [] [] 43 0 0 (jEnd G X (jpi r) 0 0))) (fun s q hs hb hx => lk_X6_stepsTillFair_l2 E hX hr N hs (fun s' hs => hb s' hs) (fun e he => hx _ he) (fun e he => hx _ he)) N _ q1 h1 ?_
  rcases q1 with e | e
  · refine J_iload_n E (jd dk_X6_stepsTillFair_0 12 rfl) rfl 0 rfl ?_
    cases hf
    exact J_iret E hr rfl (jd dk_X6_stepsTillFair_0 13 rfl) (Nat.le_refl _) (Nat.le_refl _) ⟨rfl, rfl⟩
  · refine J_iconst (v := (-1)) E (jd dk_X6_stepsTillFair_0 22 rfl) rfl ?_
    cases hf
    exact J_iret E hr rfl (jd dk_X6_stepsTillFair_0 23 rfl) (Nat.le_refl _) (Nat.le_refl _) ⟨rfl, rfl⟩
set_option maxRecDepth 100000 in
set_option maxHeartbeats 4000000 in
theorem lk_X6_stepsTillFair {G : JG} {l : Launch} (hG : jG G) (htr : l.stackTraces = false) (N : Nat) {h : AH} {a0 : Nat} {a1 : Int32} {r : (Int32 × AH)} (hf : f_X6_stepsTillFair N h a0 a1 = some r) : jMet G l yX6_stepsTillFair cX6_stepsTillFair 3 (some .int) 5 0 0 [.ref a0, .int a1] h (jpi r) := by
  unfold f_X6_stepsTillFair at hf
  refine jMet_of hG htr (by decide) (Nat.le_of_ble_eq_true rfl) ?_
  intro X E hl9 hr hX _ _
  show JW G X (RX6, cX6_stepsTillFair, 3) h [(0, .ref a0), (1, .int a1)] [] 0 0 0 (jEnd G X (jpi r) 0 0)
  refine J_iconst (v := 0) E (jd dk_X6_stepsTillFair_0 0 rfl) rfl ?_
  refine J_istore_n (lv' := [(2, .int 0), (0, .ref a0), (1, .int a1)]) E (jd dk_X6_stepsTillFair_0 1 rfl) rfl (by decide) rfl ?_
  refine J_sub [1, 2, 0] rfl ?_
  exact lk_X6_stepsTillFair_b2 E hX hr N hf
def f_X6_stepsTillLanded_l2 (N : Nat) (v0 : Nat) (v1 : Int32) (v2 : Int32) (h : AH) : Option ((Int32 × AH) ⊕ ((Int32 × AH) ⊕ (AH))) :=
  if 60 < v2 then some (.inr (.inr h))
  else (jgr 6 h v0 8).bind fun x2 =>
  (jgr 5 h x2 1).bind fun x4 =>
  (jal 0 h x4 v1).bind fun x6 =>
  if x6 = ((-2)) then some (.inr (.inl ((v2, h))))
  else (jgr 6 h v0 8).bind fun x9 =>
  (jgr 6 h v0 4).bind fun x11 =>
  (jck 5 h x9).bind fun _ =>
  (f_X5_pass N h x9 x11 0).bind fun r13 =>
  some (.inl ((v2 + 1, r13)))
def f_X6_stepsTillLanded_b2 (N : Nat) (v0 : Nat) (v1 : Int32) (v2 : Int32) (h : AH) : Option (Int32 × AH) :=
  (itr (fun s => f_X6_stepsTillLanded_l2 N v0 v1 s.1 s.2) N (v2, h)).bind (Sum.elim (fun e => some (e.1, e.2)) (fun e => some ((-1), e)))
def f_X6_stepsTillLanded (N : Nat) (h : AH) (a0 : Nat) (a1 : Int32) : Option (Int32 × AH) :=
  f_X6_stepsTillLanded_b2 N a0 a1 0 h
set_option maxRecDepth 100000 in
set_option maxHeartbeats 4000000 in
theorem lk_X6_stepsTillLanded_l2 {G : JG} {X : JX} (E : jE G X (RX6, cX6_stepsTillLanded, 3)) (hX : X.2.2.2.1 = jRm 5 0 0) (hr : X.2.2.2.2.2.2.2.2.1.sig.returnType = (some .int)) (N : Nat) {Q : State → Prop} {v0 : Nat} {v1 : Int32} {v2 : Int32}  {h : AH} {q : ((Int32 × AH) ⊕ ((Int32 × AH) ⊕ (AH)))} (hf : f_X6_stepsTillLanded_l2 N v0 v1 v2 h = some q) (kb : ∀ s' : Int32 × AH, q = .inl s' → JW G X (RX6, cX6_stepsTillLanded, 3) s'.2 [(0, .ref v0), (1, .int v1), (2, .int s'.1)] [] 2 0 0 Q) (ke0 : ∀ e : Int32 × AH, q = .inr (.inl e) → JW G X (RX6, cX6_stepsTillLanded, 3) e.2 [(2, .int e.1)] [] 22 0 0 Q) (ke1 : ∀ e : AH, q = .inr (.inr e) → JW G X (RX6, cX6_stepsTillLanded, 3) e [] [] 42 0 0 Q) : JW G X (RX6, cX6_stepsTillLanded, 3) h [(0, .ref v0), (1, .int v1), (2, .int v2)] [] 2 0 0 Q := by
  unfold f_X6_stepsTillLanded_l2 at hf
  refine J_iload_n E (jd dk_X6_stepsTillLanded_0 2 rfl) rfl 2 rfl ?_
  refine J_bipush (v := 60) E (jd dk_X6_stepsTillLanded_0 3 rfl) (by decide) ?_
  refine J_icmp_gt (tgt := 42) E (jd dk_X6_stepsTillLanded_0 4 rfl) (by decide) (fun c1 => ?_) (fun c1 => ?_)
  · replace hf := jif_t c1 hf
    refine J_sub [] rfl ?_
    exact ke1 _ (Option.some.inj hf).symm
  · replace hf := jif_f c1 hf
    refine J_aload_n E (jd dk_X6_stepsTillLanded_0 5 rfl) rfl 0 rfl ?_
    obtain ⟨x2, e3, hf⟩ := jbind hf
    refine J_getr E (jd dk_X6_stepsTillLanded_0 6 rfl) fl_RX6_51 e3 ?_
    obtain ⟨x4, e5, hf⟩ := jbind hf
    refine J_getr E (jd dk_X6_stepsTillLanded_0 7 rfl) fl_RX6_179 e5 ?_
    refine J_iload_n E (jd dk_X6_stepsTillLanded_0 8 rfl) rfl 1 rfl ?_
    obtain ⟨x6, e7, hf⟩ := jbind hf
    refine J_iald E (jd dk_X6_stepsTillLanded_0 9 rfl) e7 ?_
    refine J_bipush (v := (-2)) E (jd dk_X6_stepsTillLanded_0 10 rfl) (by decide) ?_
    refine J_icmp_ne (tgt := 24) E (jd dk_X6_stepsTillLanded_0 11 rfl) (by decide) (fun c8 => ?_) (fun c8 => ?_)
    · replace hf := jif_f c8 hf
      refine J_aload_n E (jd dk_X6_stepsTillLanded_0 14 rfl) rfl 0 rfl ?_
      obtain ⟨x9, e10, hf⟩ := jbind hf
      refine J_getr E (jd dk_X6_stepsTillLanded_0 15 rfl) fl_RX6_51 e10 ?_
      refine J_aload_n E (jd dk_X6_stepsTillLanded_0 16 rfl) rfl 0 rfl ?_
      obtain ⟨x11, e12, hf⟩ := jbind hf
      refine J_getr E (jd dk_X6_stepsTillLanded_0 17 rfl) fl_RX6_30 e12 ?_
      refine J_iconst (v := 0) E (jd dk_X6_stepsTillLanded_0 18 rfl) rfl ?_
      obtain ⟨u15, e16, hf⟩ := jbind hf
      obtain ⟨r13, e14, hf⟩ := jbind hf
      refine J_callV E (jd dk_X6_stepsTillLanded_0 19 rfl) ml_RX6_201 cal_X5_pass e16 rfl (lk_X5_pass (jE_g E) (jE_tr E) N e14) rfl (Nat.le_of_ble_eq_true rfl) (jR_le hX (by decide) (by decide)) (jF0 hX) rfl ?_
      rintro _ _ ⟨rfl, rfl⟩
      refine J_iinc (v := v2 + 1) (lv' := [(2, .int (v2 + 1)), (0, .ref v0), (1, .int v1)]) E (jd dk_X6_stepsTillLanded_0 20 rfl) 2 rfl rfl (by decide) rfl ?_
      refine J_goto (tgt := 2) E (jd dk_X6_stepsTillLanded_0 21 rfl) (by decide) ?_
      refine J_sub [1, 2, 0] rfl ?_
      exact kb _ (Option.some.inj hf).symm
    · replace hf := jif_t c8 hf
      refine J_sub [2] rfl ?_
      exact ke0 _ (Option.some.inj hf).symm
set_option maxRecDepth 100000 in
set_option maxHeartbeats 4000000 in
theorem lk_X6_stepsTillLanded_b2 {G : JG} {X : JX} (E : jE G X (RX6, cX6_stepsTillLanded, 3)) (hX : X.2.2.2.1 = jRm 5 0 0) (hr : X.2.2.2.2.2.2.2.2.1.sig.returnType = (some .int)) (N : Nat) {v0 : Nat} {v1 : Int32} {v2 : Int32} {h : AH}  {r : (Int32 × AH)} (hf : f_X6_stepsTillLanded_b2 N v0 v1 v2 h = some r) : JW G X (RX6, cX6_stepsTillLanded, 3) h [(0, .ref v0), (1, .int v1), (2, .int v2)] [] 2 0 0 (jEnd G X (jpi r) 0 0) := by
  unfold f_X6_stepsTillLanded_b2 at hf
  obtain ⟨q1, h1, hf⟩ := jbind hf
  refine jloop (P := fun s => JW G X (RX6, cX6_stepsTillLanded, 3) s.2 [(0, .ref v0), (1, .int v1), (2, .int s.1)] [] 2 0 0 (jEnd G X (jpi r) 0 0)) (Ex := Sum.elim (fun (e : Int32 × AH) => JW G X (RX6, cX6_stepsTillLanded, 3) e.2 [(2, .int e.1)] [] 22 0 0 (jEnd G X (jpi r) 0 0)) (fun (e : AH) => JW G X (RX6, cX6_stepsTillLanded, 3) e [] [] 42 0 0 (jEnd G X (jpi r) 0 0))) (fun s q hs hb hx => lk_X6_stepsTillLanded_l2 E hX hr N hs (fun s' hs => hb s' hs) (fun e he => hx _ he) (fun e he => hx _ he)) N _ q1 h1 ?_
  rcases q1 with e | e
  · refine J_iload_n E (jd dk_X6_stepsTillLanded_0 12 rfl) rfl 0 rfl ?_
    cases hf
    exact J_iret E hr rfl (jd dk_X6_stepsTillLanded_0 13 rfl) (Nat.le_refl _) (Nat.le_refl _) ⟨rfl, rfl⟩
  · refine J_iconst (v := (-1)) E (jd dk_X6_stepsTillLanded_0 22 rfl) rfl ?_
    cases hf
    exact J_iret E hr rfl (jd dk_X6_stepsTillLanded_0 23 rfl) (Nat.le_refl _) (Nat.le_refl _) ⟨rfl, rfl⟩
set_option maxRecDepth 100000 in
set_option maxHeartbeats 4000000 in
theorem lk_X6_stepsTillLanded {G : JG} {l : Launch} (hG : jG G) (htr : l.stackTraces = false) (N : Nat) {h : AH} {a0 : Nat} {a1 : Int32} {r : (Int32 × AH)} (hf : f_X6_stepsTillLanded N h a0 a1 = some r) : jMet G l yX6_stepsTillLanded cX6_stepsTillLanded 3 (some .int) 5 0 0 [.ref a0, .int a1] h (jpi r) := by
  unfold f_X6_stepsTillLanded at hf
  refine jMet_of hG htr (by decide) (Nat.le_of_ble_eq_true rfl) ?_
  intro X E hl9 hr hX _ _
  show JW G X (RX6, cX6_stepsTillLanded, 3) h [(0, .ref a0), (1, .int a1)] [] 0 0 0 (jEnd G X (jpi r) 0 0)
  refine J_iconst (v := 0) E (jd dk_X6_stepsTillLanded_0 0 rfl) rfl ?_
  refine J_istore_n (lv' := [(2, .int 0), (0, .ref a0), (1, .int a1)]) E (jd dk_X6_stepsTillLanded_0 1 rfl) rfl (by decide) rfl ?_
  refine J_sub [1, 2, 0] rfl ?_
  exact lk_X6_stepsTillLanded_b2 E hX hr N hf
def f_X6_when (N : Nat) (h : AH) (a0 : Nat) (a1 : Int32) (a2 : Int32) : Option ((Nat ⊕ Int32) × AH) :=
  (jck 6 h a0).bind fun _ =>
  (f_X6_needJudge N h a0 a1).bind fun r1 => Sum.elim (fun k => some (.inl k, r1.2)) (fun _ =>
  (f_X6_needWhat N r1.2 a2 1).bind fun r6 => Sum.elim (fun k => some (.inl k, r6.2)) (fun _ =>
  (jck 6 r6.2 a0).bind fun _ =>
  (f_X6_tryFromNow N r6.2 a0).bind fun r9 =>
  if a2 = 0 then (jck 6 r9 a0).bind fun _ =>
  (f_X6_stepsTillFair N r9 a0 a1).bind fun r18 =>
  some (.inr r18.1, r18.2)
  else (jck 6 r9 a0).bind fun _ =>
  (f_X6_stepsTillLanded N r9 a0 a1).bind fun r14 =>
  some (.inr r14.1, r14.2)) r6.1) r1.1
set_option maxRecDepth 100000 in
set_option maxHeartbeats 4000000 in
theorem lk_X6_when {G : JG} {l : Launch} (hG : jG G) (htr : l.stackTraces = false) (N : Nat) {h : AH} {a0 : Nat} {a1 : Int32} {a2 : Int32} {r : ((Nat ⊕ Int32) × AH)} (hf : f_X6_when N h a0 a1 a2 = some r) : jMetX G l yX6_when cX6_when 3 (some .int) 6 2 12 [.ref a0, .int a1, .int a2] h (jpXi r) (jpXx r) := by
  unfold f_X6_when at hf
  refine jMetX_of hG htr (by decide) (Nat.le_of_ble_eq_true rfl) ?_
  intro X E hl9 hr hX htab
  show JW G X (RX6, cX6_when, 3) h [(0, .ref a0), (1, .int a1), (2, .int a2)] [] 0 0 0 (jEndX G X (jpXi r) (jpXx r) 2 12)
  refine J_aload_n E (jd dk_X6_when_0 0 rfl) rfl 0 rfl ?_
  refine J_iload_n E (jd dk_X6_when_0 1 rfl) rfl 1 rfl ?_
  obtain ⟨u3, e4, hf⟩ := jbind hf
  obtain ⟨r1, e2, hf⟩ := jbind hf
  obtain ⟨r1a, r1b⟩ := r1
  refine J_callVX E (jd dk_X6_when_0 2 rfl) ml_RX6_176 cal_X6_needJudge e4 rfl (lk_X6_needJudge (jE_g E) (jE_tr E) N e2) rfl (Nat.le_of_ble_eq_true rfl) (jR_le hX (by decide) (by decide)) (jFx hX (by decide) (by decide)) rfl ?_ ?_
  rotate_left
  · rintro _ _ ⟨k9, rfl, rfl, rfl⟩
    replace hf := Option.some.inj hf
    subst hf
    exact J_out E htab (by decide) (by decide) ⟨_, rfl, rfl, rfl⟩
  rintro _ _ ⟨rfl, rfl, rfl⟩
  replace hf : _ = some _ := hf
  refine J_iload_n E (jd dk_X6_when_0 3 rfl) rfl 2 rfl ?_
  refine J_iconst (v := 1) E (jd dk_X6_when_0 4 rfl) rfl ?_
  obtain ⟨r6, e7, hf⟩ := jbind hf
  obtain ⟨r6a, r6b⟩ := r6
  refine J_callSX E (jd dk_X6_when_0 5 rfl) ml_RX6_162 cal_X6_needWhat (lk_X6_needWhat (jE_g E) (jE_tr E) N e7) rfl (Nat.le_of_ble_eq_true rfl) (jR_le hX (by decide) (by decide)) (jFx hX (by decide) (by decide)) rfl ?_ ?_
  rotate_left
  · rintro _ _ ⟨k9, rfl, rfl, rfl⟩
    replace hf := Option.some.inj hf
    subst hf
    exact J_out E htab (by decide) (by decide) ⟨_, rfl, rfl, rfl⟩
  rintro _ _ ⟨rfl, rfl, rfl⟩
  replace hf : _ = some _ := hf
  refine J_aload_n E (jd dk_X6_when_0 6 rfl) rfl 0 rfl ?_
  obtain ⟨u11, e12, hf⟩ := jbind hf
  obtain ⟨r9, e10, hf⟩ := jbind hf
  refine J_callV E (jd dk_X6_when_0 7 rfl) ml_RX6_223 cal_X6_tryFromNow e12 rfl (lk_X6_tryFromNow (jE_g E) (jE_tr E) N e10) rfl (Nat.le_of_ble_eq_true rfl) (jR_le hX (by decide) (by decide)) (jFx hX (by decide) (by decide)) rfl ?_
  rintro _ _ ⟨rfl, rfl⟩
  refine J_iload_n E (jd dk_X6_when_0 8 rfl) rfl 2 rfl ?_
  refine J_if_ne (tgt := 26) E (jd dk_X6_when_0 9 rfl) (by decide) (fun c13 => ?_) (fun c13 => ?_)
  · replace hf := jif_f c13 hf
    refine J_aload_n E (jd dk_X6_when_0 14 rfl) rfl 0 rfl ?_
    refine J_iload_n E (jd dk_X6_when_0 15 rfl) rfl 1 rfl ?_
    obtain ⟨u16, e17, hf⟩ := jbind hf
    obtain ⟨r14, e15, hf⟩ := jbind hf
    refine J_callV E (jd dk_X6_when_0 16 rfl) ml_RX6_229 cal_X6_stepsTillLanded e17 rfl (lk_X6_stepsTillLanded (jE_g E) (jE_tr E) N e15) rfl (Nat.le_of_ble_eq_true rfl) (jR_le hX (by decide) (by decide)) (jFx hX (by decide) (by decide)) rfl ?_
    rintro _ _ ⟨rfl, rfl⟩
    cases hf
    exact J_x (J_iret E hr rfl (jd dk_X6_when_0 17 rfl) (by decide) (by decide) ⟨_, rfl, rfl, rfl⟩)
  · replace hf := jif_t c13 hf
    refine J_aload_n E (jd dk_X6_when_0 10 rfl) rfl 0 rfl ?_
    refine J_iload_n E (jd dk_X6_when_0 11 rfl) rfl 1 rfl ?_
    obtain ⟨u20, e21, hf⟩ := jbind hf
    obtain ⟨r18, e19, hf⟩ := jbind hf
    refine J_callV E (jd dk_X6_when_0 12 rfl) ml_RX6_226 cal_X6_stepsTillFair e21 rfl (lk_X6_stepsTillFair (jE_g E) (jE_tr E) N e19) rfl (Nat.le_of_ble_eq_true rfl) (jR_le hX (by decide) (by decide)) (jFx hX (by decide) (by decide)) rfl ?_
    rintro _ _ ⟨rfl, rfl⟩
    refine J_goto (tgt := 31) E (jd dk_X6_when_0 13 rfl) (by decide) ?_
    cases hf
    exact J_x (J_iret E hr rfl (jd dk_X6_when_0 17 rfl) (by decide) (by decide) ⟨_, rfl, rfl, rfl⟩)
def f_X6_later (N : Nat) (h : AH) (a0 : Nat) (a1 : Int32) (a2 : Int32) : Option ((Nat ⊕ Int32) × AH) :=
  (f_X6_needWhat N h a2 3).bind fun r1 => Sum.elim (fun k => some (.inl k, r1.2)) (fun _ =>
  (f_X6_needSteps N r1.2 a1 0 60).bind fun r4 => Sum.elim (fun k => some (.inl k, r4.2)) (fun _ =>
  (jck 6 r4.2 a0).bind fun _ =>
  (f_X6_tryFor N r4.2 a0 a1).bind fun r7 =>
  if a2 = 0 then (jgr 6 r7 a0 8).bind fun x11 =>
  (jgr 6 r7 a0 4).bind fun x13 =>
  (jck 5 r7 x11).bind fun _ =>
  (f_X5_fairOnes N r7 x11 x13).bind fun r15 =>
  some (.inr r15.1, r15.2)
  else if a2 = 1 then (jgr 6 r7 a0 8).bind fun x19 =>
  (jgr 6 r7 a0 4).bind fun x21 =>
  (jck 5 r7 x19).bind fun _ =>
  (f_X5_landedOnes N r7 x19 x21).bind fun r23 =>
  some (.inr r23.1, r23.2)
  else if a2 = 2 then (jgr 6 r7 a0 8).bind fun x27 =>
  (jgr 6 r7 a0 4).bind fun x29 =>
  (jck 5 r7 x27).bind fun _ =>
  (f_X5_afloatOnes N r7 x27 x29).bind fun r31 =>
  some (.inr r31.1, r31.2)
  else (jgr 6 r7 a0 8).bind fun x35 =>
  (jgr 6 r7 a0 4).bind fun x37 =>
  (jck 5 r7 x35).bind fun _ =>
  (f_X5_crowd N r7 x35 x37).bind fun r39 =>
  some (.inr r39.1, r39.2)) r4.1) r1.1
set_option maxRecDepth 100000 in
set_option maxHeartbeats 4000000 in
theorem lk_X6_later {G : JG} {l : Launch} (hG : jG G) (htr : l.stackTraces = false) (N : Nat) {h : AH} {a0 : Nat} {a1 : Int32} {a2 : Int32} {r : ((Nat ⊕ Int32) × AH)} (hf : f_X6_later N h a0 a1 a2 = some r) : jMetX G l yX6_later cX6_later 3 (some .int) 7 2 12 [.ref a0, .int a1, .int a2] h (jpXi r) (jpXx r) := by
  unfold f_X6_later at hf
  refine jMetX_of hG htr (by decide) (Nat.le_of_ble_eq_true rfl) ?_
  intro X E hl9 hr hX htab
  show JW G X (RX6, cX6_later, 3) h [(0, .ref a0), (1, .int a1), (2, .int a2)] [] 0 0 0 (jEndX G X (jpXi r) (jpXx r) 2 12)
  refine J_iload_n E (jd dk_X6_later_0 0 rfl) rfl 2 rfl ?_
  refine J_iconst (v := 3) E (jd dk_X6_later_0 1 rfl) rfl ?_
  obtain ⟨r1, e2, hf⟩ := jbind hf
  obtain ⟨r1a, r1b⟩ := r1
  refine J_callSX E (jd dk_X6_later_0 2 rfl) ml_RX6_162 cal_X6_needWhat (lk_X6_needWhat (jE_g E) (jE_tr E) N e2) rfl (Nat.le_of_ble_eq_true rfl) (jR_le hX (by decide) (by decide)) (jFx hX (by decide) (by decide)) rfl ?_ ?_
  rotate_left
  · rintro _ _ ⟨k9, rfl, rfl, rfl⟩
    replace hf := Option.some.inj hf
    subst hf
    exact J_out E htab (by decide) (by decide) ⟨_, rfl, rfl, rfl⟩
  rintro _ _ ⟨rfl, rfl, rfl⟩
  replace hf : _ = some _ := hf
  refine J_iload_n E (jd dk_X6_later_0 3 rfl) rfl 1 rfl ?_
  refine J_iconst (v := 0) E (jd dk_X6_later_0 4 rfl) rfl ?_
  refine J_bipush (v := 60) E (jd dk_X6_later_0 5 rfl) (by decide) ?_
  obtain ⟨r4, e5, hf⟩ := jbind hf
  obtain ⟨r4a, r4b⟩ := r4
  refine J_callSX E (jd dk_X6_later_0 6 rfl) ml_RX6_216 cal_X6_needSteps (lk_X6_needSteps (jE_g E) (jE_tr E) N e5) rfl (Nat.le_of_ble_eq_true rfl) (jR_le hX (by decide) (by decide)) (jFx hX (by decide) (by decide)) rfl ?_ ?_
  rotate_left
  · rintro _ _ ⟨k9, rfl, rfl, rfl⟩
    replace hf := Option.some.inj hf
    subst hf
    exact J_out E htab (by decide) (by decide) ⟨_, rfl, rfl, rfl⟩
  rintro _ _ ⟨rfl, rfl, rfl⟩
  replace hf : _ = some _ := hf
  refine J_aload_n E (jd dk_X6_later_0 7 rfl) rfl 0 rfl ?_
  refine J_iload_n E (jd dk_X6_later_0 8 rfl) rfl 1 rfl ?_
  obtain ⟨u9, e10, hf⟩ := jbind hf
  obtain ⟨r7, e8, hf⟩ := jbind hf
  refine J_callV E (jd dk_X6_later_0 9 rfl) ml_RX6_220 cal_X6_tryFor e10 rfl (lk_X6_tryFor (jE_g E) (jE_tr E) N e8) rfl (Nat.le_of_ble_eq_true rfl) (jR_le hX (by decide) (by decide)) (jFx hX (by decide) (by decide)) rfl ?_
  rintro _ _ ⟨rfl, rfl⟩
  refine J_iload_n E (jd dk_X6_later_0 10 rfl) rfl 2 rfl ?_
  by_cases c18_0 : a2 = 0
  · replace hf := jif_t c18_0 hf
    refine J_tableIn (off := 26) (tgt := 44) E (jd dk_X6_later_0 11 rfl) (by rw [c18_0]; decide) (by rw [c18_0]; decide) (by rw [c18_0]; decide) (by decide) ?_
    refine J_aload_n E (jd dk_X6_later_0 12 rfl) rfl 0 rfl ?_
    obtain ⟨x11, e12, hf⟩ := jbind hf
    refine J_getr E (jd dk_X6_later_0 13 rfl) fl_RX6_51 e12 ?_
    refine J_aload_n E (jd dk_X6_later_0 14 rfl) rfl 0 rfl ?_
    obtain ⟨x13, e14, hf⟩ := jbind hf
    refine J_getr E (jd dk_X6_later_0 15 rfl) fl_RX6_30 e14 ?_
    obtain ⟨u17, e18, hf⟩ := jbind hf
    obtain ⟨r15, e16, hf⟩ := jbind hf
    refine J_callV E (jd dk_X6_later_0 16 rfl) ml_RX6_119 cal_X5_fairOnes e18 rfl (lk_X5_fairOnes (jE_g E) (jE_tr E) N e16) rfl (Nat.le_of_ble_eq_true rfl) (jR_le hX (by decide) (by decide)) (jFx hX (by decide) (by decide)) rfl ?_
    rintro _ _ ⟨rfl, rfl⟩
    cases hf
    exact J_x (J_iret E hr rfl (jd dk_X6_later_0 17 rfl) (by decide) (by decide) ⟨_, rfl, rfl, rfl⟩)
  replace hf := jif_f c18_0 hf
  by_cases c18_1 : a2 = 1
  · replace hf := jif_t c18_1 hf
    refine J_tableIn (off := 38) (tgt := 56) E (jd dk_X6_later_0 11 rfl) (by rw [c18_1]; decide) (by rw [c18_1]; decide) (by rw [c18_1]; decide) (by decide) ?_
    refine J_aload_n E (jd dk_X6_later_0 18 rfl) rfl 0 rfl ?_
    obtain ⟨x19, e20, hf⟩ := jbind hf
    refine J_getr E (jd dk_X6_later_0 19 rfl) fl_RX6_51 e20 ?_
    refine J_aload_n E (jd dk_X6_later_0 20 rfl) rfl 0 rfl ?_
    obtain ⟨x21, e22, hf⟩ := jbind hf
    refine J_getr E (jd dk_X6_later_0 21 rfl) fl_RX6_30 e22 ?_
    obtain ⟨u25, e26, hf⟩ := jbind hf
    obtain ⟨r23, e24, hf⟩ := jbind hf
    refine J_callV E (jd dk_X6_later_0 22 rfl) ml_RX6_123 cal_X5_landedOnes e26 rfl (lk_X5_landedOnes (jE_g E) (jE_tr E) N e24) rfl (Nat.le_of_ble_eq_true rfl) (jR_le hX (by decide) (by decide)) (jFx hX (by decide) (by decide)) rfl ?_
    rintro _ _ ⟨rfl, rfl⟩
    cases hf
    exact J_x (J_iret E hr rfl (jd dk_X6_later_0 23 rfl) (by decide) (by decide) ⟨_, rfl, rfl, rfl⟩)
  replace hf := jif_f c18_1 hf
  by_cases c18_2 : a2 = 2
  · replace hf := jif_t c18_2 hf
    refine J_tableIn (off := 50) (tgt := 68) E (jd dk_X6_later_0 11 rfl) (by rw [c18_2]; decide) (by rw [c18_2]; decide) (by rw [c18_2]; decide) (by decide) ?_
    refine J_aload_n E (jd dk_X6_later_0 24 rfl) rfl 0 rfl ?_
    obtain ⟨x27, e28, hf⟩ := jbind hf
    refine J_getr E (jd dk_X6_later_0 25 rfl) fl_RX6_51 e28 ?_
    refine J_aload_n E (jd dk_X6_later_0 26 rfl) rfl 0 rfl ?_
    obtain ⟨x29, e30, hf⟩ := jbind hf
    refine J_getr E (jd dk_X6_later_0 27 rfl) fl_RX6_30 e30 ?_
    obtain ⟨u33, e34, hf⟩ := jbind hf
    obtain ⟨r31, e32, hf⟩ := jbind hf
    refine J_callV E (jd dk_X6_later_0 28 rfl) ml_RX6_126 cal_X5_afloatOnes e34 rfl (lk_X5_afloatOnes (jE_g E) (jE_tr E) N e32) rfl (Nat.le_of_ble_eq_true rfl) (jR_le hX (by decide) (by decide)) (jFx hX (by decide) (by decide)) rfl ?_
    rintro _ _ ⟨rfl, rfl⟩
    cases hf
    exact J_x (J_iret E hr rfl (jd dk_X6_later_0 29 rfl) (by decide) (by decide) ⟨_, rfl, rfl, rfl⟩)
  replace hf := jif_f c18_2 hf
  refine J_tableOut (tgt := 80) E (jd dk_X6_later_0 11 rfl) (jsw (v := 2) (jsw (v := 1) (jsw (v := 0) (jsw0 (x := a2) (0)) (by decide) c18_0) (by decide) c18_1) (by decide) c18_2) (by decide) ?_
  refine J_aload_n E (jd dk_X6_later_0 30 rfl) rfl 0 rfl ?_
  obtain ⟨x35, e36, hf⟩ := jbind hf
  refine J_getr E (jd dk_X6_later_0 31 rfl) fl_RX6_51 e36 ?_
  refine J_aload_n E (jd dk_X6_later_0 32 rfl) rfl 0 rfl ?_
  obtain ⟨x37, e38, hf⟩ := jbind hf
  refine J_getr E (jd dk_X6_later_0 33 rfl) fl_RX6_30 e38 ?_
  obtain ⟨u41, e42, hf⟩ := jbind hf
  obtain ⟨r39, e40, hf⟩ := jbind hf
  refine J_callV E (jd dk_X6_later_0 34 rfl) ml_RX6_236 cal_X5_crowd e42 rfl (lk_X5_crowd (jE_g E) (jE_tr E) N e40) rfl (Nat.le_of_ble_eq_true rfl) (jR_le hX (by decide) (by decide)) (jFx hX (by decide) (by decide)) rfl ?_
  rintro _ _ ⟨rfl, rfl⟩
  cases hf
  exact J_x (J_iret E hr rfl (jd dk_X6_later_0 35 rfl) (by decide) (by decide) ⟨_, rfl, rfl, rfl⟩)
def f_X6_beside_b64 (N : Nat) (v0 : Nat) (v1 : Int32) (v2 : Int32) (v3 : Int32) (h : AH) : Option ((Int32 × AH) ⊕ ((Int32 × AH) ⊕ (AH))) :=
  (jgr 6 h v0 8).bind fun x1 =>
  (jgr 6 h v0 4).bind fun x3 =>
  (jck 5 h x1).bind fun _ =>
  (f_X5_pass N h x1 x3 0).bind fun r5 =>
  some (.inl ((v3 + 1, r5)))
def f_X6_beside_l23 (N : Nat) (v0 : Nat) (v1 : Int32) (v2 : Int32) (v3 : Int32) (h : AH) : Option ((Int32 × AH) ⊕ ((Int32 × AH) ⊕ (AH))) :=
  if 60 < v3 then some (.inr (.inr h))
  else (jgr 6 h v0 8).bind fun x10 =>
  (jgr 5 h x10 1).bind fun x12 =>
  (jal 0 h x12 v1).bind fun x14 =>
  if x14 < 0 then f_X6_beside_b64 N v0 v1 v2 v3 h
  else (jgr 6 h v0 8).bind fun x17 =>
  (jgr 5 h x17 1).bind fun x19 =>
  (jal 0 h x19 v1).bind fun x21 =>
  (jgr 6 h v0 8).bind fun x23 =>
  (jgr 5 h x23 1).bind fun x25 =>
  (jal 0 h x25 v2).bind fun x27 =>
  if x21 = x27 then some (.inr (.inl ((v3, h))))
  else f_X6_beside_b64 N v0 v1 v2 v3 h
def f_X6_beside_b23 (N : Nat) (v0 : Nat) (v1 : Int32) (v2 : Int32) (v3 : Int32) (h : AH) : Option ((Nat ⊕ Int32) × AH) :=
  (itr (fun s => f_X6_beside_l23 N v0 v1 v2 s.1 s.2) N (v3, h)).bind (Sum.elim (fun e => some (.inr e.1, e.2)) (fun e => some (.inr ((-1)), e)))
def f_X6_beside (N : Nat) (h : AH) (a0 : Nat) (a1 : Int32) (a2 : Int32) : Option ((Nat ⊕ Int32) × AH) :=
  (jck 6 h a0).bind fun _ =>
  (f_X6_needJudge N h a0 a1).bind fun r30 => Sum.elim (fun k => some (.inl k, r30.2)) (fun _ =>
  (jck 6 r30.2 a0).bind fun _ =>
  (f_X6_needJudge N r30.2 a0 a2).bind fun r35 => Sum.elim (fun k => some (.inl k, r35.2)) (fun _ =>
  if a1 = a2 then some (.inr ((-1)), r35.2)
  else (jck 6 r35.2 a0).bind fun _ =>
  (f_X6_tryFromNow N r35.2 a0).bind fun r41 =>
  f_X6_beside_b23 N a0 a1 a2 0 r41) r35.1) r30.1
set_option maxRecDepth 100000 in
set_option maxHeartbeats 4000000 in
theorem lk_X6_beside_b64 {G : JG} {X : JX} (E : jE G X (RX6, cX6_beside, 4)) (hX : X.2.2.2.1 = jRm 5 2 12) (hr : X.2.2.2.2.2.2.2.2.1.sig.returnType = (some .int)) (htab : ∀ x ∈ X.2.2.2.2.2.2.2.2.2.exceptionTable.toList, False) (N : Nat) {Q : State → Prop} {v0 : Nat} {v1 : Int32} {v2 : Int32} {v3 : Int32} {h : AH}  {q : ((Int32 × AH) ⊕ ((Int32 × AH) ⊕ (AH)))} (hf : f_X6_beside_b64 N v0 v1 v2 v3 h = some q) (kb : ∀ s' : Int32 × AH, q = .inl s' → JW G X (RX6, cX6_beside, 4) s'.2 [(0, .ref v0), (1, .int v1), (2, .int v2), (3, .int s'.1)] [] 23 2 12 Q) (ke0 : ∀ e : Int32 × AH, q = .inr (.inl e) → JW G X (RX6, cX6_beside, 4) e.2 [(3, .int e.1)] [] 62 2 12 Q) (ke1 : ∀ e : AH, q = .inr (.inr e) → JW G X (RX6, cX6_beside, 4) e [] [] 82 2 12 Q) : JW G X (RX6, cX6_beside, 4) h [(0, .ref v0), (1, .int v1), (2, .int v2), (3, .int v3)] [] 64 2 12 Q := by
  unfold f_X6_beside_b64 at hf
  refine J_aload_n E (jd dk_X6_beside_0 37 rfl) rfl 0 rfl ?_
  obtain ⟨x1, e2, hf⟩ := jbind hf
  refine J_getr E (jd dk_X6_beside_0 38 rfl) fl_RX6_51 e2 ?_
  refine J_aload_n E (jd dk_X6_beside_0 39 rfl) rfl 0 rfl ?_
  obtain ⟨x3, e4, hf⟩ := jbind hf
  refine J_getr E (jd dk_X6_beside_0 40 rfl) fl_RX6_30 e4 ?_
  refine J_iconst (v := 0) E (jd dk_X6_beside_0 41 rfl) rfl ?_
  obtain ⟨u7, e8, hf⟩ := jbind hf
  obtain ⟨r5, e6, hf⟩ := jbind hf
  refine J_callV E (jd dk_X6_beside_0 42 rfl) ml_RX6_201 cal_X5_pass e8 rfl (lk_X5_pass (jE_g E) (jE_tr E) N e6) rfl (Nat.le_of_ble_eq_true rfl) (jR_le hX (by decide) (by decide)) (jFx hX (by decide) (by decide)) rfl ?_
  rintro _ _ ⟨rfl, rfl⟩
  refine J_iinc (v := v3 + 1) (lv' := [(3, .int (v3 + 1)), (0, .ref v0), (1, .int v1), (2, .int v2)]) E (jd dk_X6_beside_0 43 rfl) 3 rfl rfl (by decide) rfl ?_
  refine J_goto (tgt := 23) E (jd dk_X6_beside_0 44 rfl) (by decide) ?_
  refine J_sub [1, 2, 3, 0] rfl ?_
  exact kb _ (Option.some.inj hf).symm
set_option maxRecDepth 100000 in
set_option maxHeartbeats 4000000 in
theorem lk_X6_beside_l23 {G : JG} {X : JX} (E : jE G X (RX6, cX6_beside, 4)) (hX : X.2.2.2.1 = jRm 5 2 12) (hr : X.2.2.2.2.2.2.2.2.1.sig.returnType = (some .int)) (htab : ∀ x ∈ X.2.2.2.2.2.2.2.2.2.exceptionTable.toList, False) (N : Nat) {Q : State → Prop} {v0 : Nat} {v1 : Int32} {v2 : Int32} {v3 : Int32}  {h : AH} {q : ((Int32 × AH) ⊕ ((Int32 × AH) ⊕ (AH)))} (hf : f_X6_beside_l23 N v0 v1 v2 v3 h = some q) (kb : ∀ s' : Int32 × AH, q = .inl s' → JW G X (RX6, cX6_beside, 4) s'.2 [(0, .ref v0), (1, .int v1), (2, .int v2), (3, .int s'.1)] [] 23 2 12 Q) (ke0 : ∀ e : Int32 × AH, q = .inr (.inl e) → JW G X (RX6, cX6_beside, 4) e.2 [(3, .int e.1)] [] 62 2 12 Q) (ke1 : ∀ e : AH, q = .inr (.inr e) → JW G X (RX6, cX6_beside, 4) e [] [] 82 2 12 Q) : JW G X (RX6, cX6_beside, 4) h [(0, .ref v0), (1, .int v1), (2, .int v2), (3, .int v3)] [] 23 2 12 Q := by
  unfold f_X6_beside_l23 at hf
  refine J_iload_n E (jd dk_X6_beside_0 15 rfl) rfl 3 rfl ?_
  refine J_bipush (v := 60) E (jd dk_X6_beside_0 16 rfl) (by decide) ?_
  refine J_icmp_gt (tgt := 82) E (jd dk_X6_beside_0 17 rfl) (by decide) (fun c9 => ?_) (fun c9 => ?_)
  · replace hf := jif_t c9 hf
    refine J_sub [] rfl ?_
    exact ke1 _ (Option.some.inj hf).symm
  · replace hf := jif_f c9 hf
    refine J_aload_n E (jd dk_X6_beside_0 18 rfl) rfl 0 rfl ?_
    obtain ⟨x10, e11, hf⟩ := jbind hf
    refine J_getr E (jd dk_X6_beside_0 19 rfl) fl_RX6_51 e11 ?_
    obtain ⟨x12, e13, hf⟩ := jbind hf
    refine J_getr E (jd dk_X6_beside_0 20 rfl) fl_RX6_179 e13 ?_
    refine J_iload_n E (jd dk_X6_beside_0 21 rfl) rfl 1 rfl ?_
    obtain ⟨x14, e15, hf⟩ := jbind hf
    refine J_iald E (jd dk_X6_beside_0 22 rfl) e15 ?_
    refine J_if_lt (tgt := 64) E (jd dk_X6_beside_0 23 rfl) (by decide) (fun c16 => ?_) (fun c16 => ?_)
    · replace hf := jif_t c16 hf
      exact lk_X6_beside_b64 E hX hr htab N hf kb ke0 ke1
    · replace hf := jif_f c16 hf
      refine J_aload_n E (jd dk_X6_beside_0 24 rfl) rfl 0 rfl ?_
      obtain ⟨x17, e18, hf⟩ := jbind hf
      refine J_getr E (jd dk_X6_beside_0 25 rfl) fl_RX6_51 e18 ?_
      obtain ⟨x19, e20, hf⟩ := jbind hf
      refine J_getr E (jd dk_X6_beside_0 26 rfl) fl_RX6_179 e20 ?_
      refine J_iload_n E (jd dk_X6_beside_0 27 rfl) rfl 1 rfl ?_
      obtain ⟨x21, e22, hf⟩ := jbind hf
      refine J_iald E (jd dk_X6_beside_0 28 rfl) e22 ?_
      refine J_aload_n E (jd dk_X6_beside_0 29 rfl) rfl 0 rfl ?_
      obtain ⟨x23, e24, hf⟩ := jbind hf
      refine J_getr E (jd dk_X6_beside_0 30 rfl) fl_RX6_51 e24 ?_
      obtain ⟨x25, e26, hf⟩ := jbind hf
      refine J_getr E (jd dk_X6_beside_0 31 rfl) fl_RX6_179 e26 ?_
      refine J_iload_n E (jd dk_X6_beside_0 32 rfl) rfl 2 rfl ?_
      obtain ⟨x27, e28, hf⟩ := jbind hf
      refine J_iald E (jd dk_X6_beside_0 33 rfl) e28 ?_
      refine J_icmp_ne (tgt := 64) E (jd dk_X6_beside_0 34 rfl) (by decide) (fun c29 => ?_) (fun c29 => ?_)
      · replace hf := jif_f c29 hf
        exact lk_X6_beside_b64 E hX hr htab N hf kb ke0 ke1
      · replace hf := jif_t c29 hf
        refine J_sub [3] rfl ?_
        exact ke0 _ (Option.some.inj hf).symm
set_option maxRecDepth 100000 in
set_option maxHeartbeats 4000000 in
theorem lk_X6_beside_b23 {G : JG} {X : JX} (E : jE G X (RX6, cX6_beside, 4)) (hX : X.2.2.2.1 = jRm 5 2 12) (hr : X.2.2.2.2.2.2.2.2.1.sig.returnType = (some .int)) (htab : ∀ x ∈ X.2.2.2.2.2.2.2.2.2.exceptionTable.toList, False) (N : Nat) {v0 : Nat} {v1 : Int32} {v2 : Int32} {v3 : Int32} {h : AH}  {r : ((Nat ⊕ Int32) × AH)} (hf : f_X6_beside_b23 N v0 v1 v2 v3 h = some r) : JW G X (RX6, cX6_beside, 4) h [(0, .ref v0), (1, .int v1), (2, .int v2), (3, .int v3)] [] 23 2 12 (jEndX G X (jpXi r) (jpXx r) 2 12) := by
  unfold f_X6_beside_b23 at hf
  obtain ⟨q1, h1, hf⟩ := jbind hf
  refine jloop (P := fun s => JW G X (RX6, cX6_beside, 4) s.2 [(0, .ref v0), (1, .int v1), (2, .int v2), (3, .int s.1)] [] 23 2 12 (jEndX G X (jpXi r) (jpXx r) 2 12)) (Ex := Sum.elim (fun (e : Int32 × AH) => JW G X (RX6, cX6_beside, 4) e.2 [(3, .int e.1)] [] 62 2 12 (jEndX G X (jpXi r) (jpXx r) 2 12)) (fun (e : AH) => JW G X (RX6, cX6_beside, 4) e [] [] 82 2 12 (jEndX G X (jpXi r) (jpXx r) 2 12))) (fun s q hs hb hx => lk_X6_beside_l23 E hX hr htab N hs (fun s' hs => hb s' hs) (fun e he => hx _ he) (fun e he => hx _ he)) N _ q1 h1 ?_
  rcases q1 with e | e
  · refine J_iload_n E (jd dk_X6_beside_0 35 rfl) rfl 0 rfl ?_
    cases hf
    exact J_x (J_iret E hr rfl (jd dk_X6_beside_0 36 rfl) (by decide) (by decide) ⟨_, rfl, rfl, rfl⟩)
  · refine J_iconst (v := (-1)) E (jd dk_X6_beside_0 45 rfl) rfl ?_
    cases hf
    exact J_x (J_iret E hr rfl (jd dk_X6_beside_0 46 rfl) (by decide) (by decide) ⟨_, rfl, rfl, rfl⟩)
set_option maxRecDepth 100000 in
set_option maxHeartbeats 4000000 in
theorem lk_X6_beside {G : JG} {l : Launch} (hG : jG G) (htr : l.stackTraces = false) (N : Nat) {h : AH} {a0 : Nat} {a1 : Int32} {a2 : Int32} {r : ((Nat ⊕ Int32) × AH)} (hf : f_X6_beside N h a0 a1 a2 = some r) : jMetX G l yX6_beside cX6_beside 4 (some .int) 5 2 12 [.ref a0, .int a1, .int a2] h (jpXi r) (jpXx r) := by
  unfold f_X6_beside at hf
  refine jMetX_of hG htr (by decide) (Nat.le_of_ble_eq_true rfl) ?_
  intro X E hl9 hr hX htab
  show JW G X (RX6, cX6_beside, 4) h [(0, .ref a0), (1, .int a1), (2, .int a2)] [] 0 0 0 (jEndX G X (jpXi r) (jpXx r) 2 12)
  refine J_aload_n E (jd dk_X6_beside_0 0 rfl) rfl 0 rfl ?_
  refine J_iload_n E (jd dk_X6_beside_0 1 rfl) rfl 1 rfl ?_
  obtain ⟨u32, e33, hf⟩ := jbind hf
  obtain ⟨r30, e31, hf⟩ := jbind hf
  obtain ⟨r30a, r30b⟩ := r30
  refine J_callVX E (jd dk_X6_beside_0 2 rfl) ml_RX6_176 cal_X6_needJudge e33 rfl (lk_X6_needJudge (jE_g E) (jE_tr E) N e31) rfl (Nat.le_of_ble_eq_true rfl) (jR_le hX (by decide) (by decide)) (jFx hX (by decide) (by decide)) rfl ?_ ?_
  rotate_left
  · rintro _ _ ⟨k9, rfl, rfl, rfl⟩
    replace hf := Option.some.inj hf
    subst hf
    exact J_out E htab (by decide) (by decide) ⟨_, rfl, rfl, rfl⟩
  rintro _ _ ⟨rfl, rfl, rfl⟩
  replace hf : _ = some _ := hf
  refine J_aload_n E (jd dk_X6_beside_0 3 rfl) rfl 0 rfl ?_
  refine J_iload_n E (jd dk_X6_beside_0 4 rfl) rfl 2 rfl ?_
  obtain ⟨u37, e38, hf⟩ := jbind hf
  obtain ⟨r35, e36, hf⟩ := jbind hf
  obtain ⟨r35a, r35b⟩ := r35
  refine J_callVX E (jd dk_X6_beside_0 5 rfl) ml_RX6_176 cal_X6_needJudge e38 rfl (lk_X6_needJudge (jE_g E) (jE_tr E) N e36) rfl (Nat.le_of_ble_eq_true rfl) (jR_le hX (by decide) (by decide)) (jFx hX (by decide) (by decide)) rfl ?_ ?_
  rotate_left
  · rintro _ _ ⟨k9, rfl, rfl, rfl⟩
    replace hf := Option.some.inj hf
    subst hf
    exact J_out E htab (by decide) (by decide) ⟨_, rfl, rfl, rfl⟩
  rintro _ _ ⟨rfl, rfl, rfl⟩
  replace hf : _ = some _ := hf
  refine J_iload_n E (jd dk_X6_beside_0 6 rfl) rfl 1 rfl ?_
  refine J_iload_n E (jd dk_X6_beside_0 7 rfl) rfl 2 rfl ?_
  refine J_icmp_ne (tgt := 17) E (jd dk_X6_beside_0 8 rfl) (by decide) (fun c40 => ?_) (fun c40 => ?_)
  · replace hf := jif_f c40 hf
    refine J_aload_n E (jd dk_X6_beside_0 11 rfl) rfl 0 rfl ?_
    obtain ⟨u43, e44, hf⟩ := jbind hf
    obtain ⟨r41, e42, hf⟩ := jbind hf
    refine J_callV E (jd dk_X6_beside_0 12 rfl) ml_RX6_223 cal_X6_tryFromNow e44 rfl (lk_X6_tryFromNow (jE_g E) (jE_tr E) N e42) rfl (Nat.le_of_ble_eq_true rfl) (jR_le hX (by decide) (by decide)) (jFx hX (by decide) (by decide)) rfl ?_
    rintro _ _ ⟨rfl, rfl⟩
    refine J_iconst (v := 0) E (jd dk_X6_beside_0 13 rfl) rfl ?_
    refine J_istore_n (lv' := [(3, .int 0), (0, .ref a0), (1, .int a1), (2, .int a2)]) E (jd dk_X6_beside_0 14 rfl) rfl (by decide) rfl ?_
    refine J_sub [1, 2, 3, 0] rfl ?_
    exact lk_X6_beside_b23 E hX hr htab N hf
  · replace hf := jif_t c40 hf
    refine J_iconst (v := (-1)) E (jd dk_X6_beside_0 9 rfl) rfl ?_
    cases hf
    exact J_x (J_iret E hr rfl (jd dk_X6_beside_0 10 rfl) (by decide) (by decide) ⟨_, rfl, rfl, rfl⟩)
def f_X6_first_l21 (N : Nat) (v0 : Nat) (v1 : Int32) (v2 : Int32) (h : AH) : Option ((Int32 × AH) ⊕ ((Int32 × AH) ⊕ (AH))) :=
  if 60 < v2 then some (.inr (.inr h))
  else (jgr 6 h v0 8).bind fun x2 =>
  (jgr 6 h v0 4).bind fun x4 =>
  (jck 5 h x2).bind fun _ =>
  (f_X5_pass N h x2 x4 0).bind fun r6 =>
  (jgr 6 r6 v0 8).bind fun x10 =>
  (jgr 6 r6 v0 4).bind fun x12 =>
  (jck 5 r6 x10).bind fun _ =>
  (f_X5_landedOnes N r6 x10 x12).bind fun r14 =>
  if (r14.1 &&& (v1 ^^^ ((-1)))) = 0 then some (.inl ((v2 + 1, r14.2)))
  else some (.inr (.inl ((r14.1 &&& (v1 ^^^ ((-1))), r14.2))))
def f_X6_first_b21 (N : Nat) (v0 : Nat) (v1 : Int32) (v2 : Int32) (h : AH) : Option (Int32 × AH) :=
  (itr (fun s => f_X6_first_l21 N v0 v1 s.1 s.2) N (v2, h)).bind (Sum.elim (fun e => (f_J6_numberOfTrailingZeros_0f7a4 N e.2 e.1).bind fun r19 =>
  some (r19.1, r19.2)) (fun e => some ((-1), e)))
def f_X6_first (N : Nat) (h : AH) (a0 : Nat) : Option (Int32 × AH) :=
  (jgr 6 h a0 5).bind fun x21 =>
  (jgr 0 h x21 0).bind fun x23 =>
  (jgr 6 h a0 4).bind fun x25 =>
  (jck 5 h x23).bind fun _ =>
  (f_X5_landedOnes N h x23 x25).bind fun r27 =>
  (jck 6 r27.2 a0).bind fun _ =>
  (f_X6_tryFromNow N r27.2 a0).bind fun r31 =>
  f_X6_first_b21 N a0 r27.1 1 r31
set_option maxRecDepth 100000 in
set_option maxHeartbeats 4000000 in
theorem lk_X6_first_l21 {G : JG} {X : JX} (E : jE G X (RX6, cX6_first, 4)) (hX : X.2.2.2.1 = jRm 5 0 0) (hr : X.2.2.2.2.2.2.2.2.1.sig.returnType = (some .int)) (N : Nat) {Q : State → Prop} {v0 : Nat} {v1 : Int32} {v2 : Int32}  {h : AH} {q : ((Int32 × AH) ⊕ ((Int32 × AH) ⊕ (AH)))} (hf : f_X6_first_l21 N v0 v1 v2 h = some q) (kb : ∀ s' : Int32 × AH, q = .inl s' → JW G X (RX6, cX6_first, 4) s'.2 [(0, .ref v0), (1, .int v1), (2, .int s'.1)] [] 21 0 0 Q) (ke0 : ∀ e : Int32 × AH, q = .inr (.inl e) → JW G X (RX6, cX6_first, 4) e.2 [(3, .int e.1)] [] 59 0 0 Q) (ke1 : ∀ e : AH, q = .inr (.inr e) → JW G X (RX6, cX6_first, 4) e [] [] 70 0 0 Q) : JW G X (RX6, cX6_first, 4) h [(0, .ref v0), (1, .int v1), (2, .int v2)] [] 21 0 0 Q := by
  unfold f_X6_first_l21 at hf
  refine J_iload_n E (jd dk_X6_first_0 11 rfl) rfl 2 rfl ?_
  refine J_bipush (v := 60) E (jd dk_X6_first_0 12 rfl) (by decide) ?_
  refine J_icmp_gt (tgt := 70) E (jd dk_X6_first_0 13 rfl) (by decide) (fun c1 => ?_) (fun c1 => ?_)
  · replace hf := jif_t c1 hf
    refine J_sub [] rfl ?_
    exact ke1 _ (Option.some.inj hf).symm
  · replace hf := jif_f c1 hf
    refine J_aload_n E (jd dk_X6_first_0 14 rfl) rfl 0 rfl ?_
    obtain ⟨x2, e3, hf⟩ := jbind hf
    refine J_getr E (jd dk_X6_first_0 15 rfl) fl_RX6_51 e3 ?_
    refine J_aload_n E (jd dk_X6_first_0 16 rfl) rfl 0 rfl ?_
    obtain ⟨x4, e5, hf⟩ := jbind hf
    refine J_getr E (jd dk_X6_first_0 17 rfl) fl_RX6_30 e5 ?_
    refine J_iconst (v := 0) E (jd dk_X6_first_0 18 rfl) rfl ?_
    obtain ⟨u8, e9, hf⟩ := jbind hf
    obtain ⟨r6, e7, hf⟩ := jbind hf
    refine J_callV E (jd dk_X6_first_0 19 rfl) ml_RX6_201 cal_X5_pass e9 rfl (lk_X5_pass (jE_g E) (jE_tr E) N e7) rfl (Nat.le_of_ble_eq_true rfl) (jR_le hX (by decide) (by decide)) (jF0 hX) rfl ?_
    rintro _ _ ⟨rfl, rfl⟩
    refine J_aload_n E (jd dk_X6_first_0 20 rfl) rfl 0 rfl ?_
    obtain ⟨x10, e11, hf⟩ := jbind hf
    refine J_getr E (jd dk_X6_first_0 21 rfl) fl_RX6_51 e11 ?_
    refine J_aload_n E (jd dk_X6_first_0 22 rfl) rfl 0 rfl ?_
    obtain ⟨x12, e13, hf⟩ := jbind hf
    refine J_getr E (jd dk_X6_first_0 23 rfl) fl_RX6_30 e13 ?_
    obtain ⟨u16, e17, hf⟩ := jbind hf
    obtain ⟨r14, e15, hf⟩ := jbind hf
    refine J_callV E (jd dk_X6_first_0 24 rfl) ml_RX6_123 cal_X5_landedOnes e17 rfl (lk_X5_landedOnes (jE_g E) (jE_tr E) N e15) rfl (Nat.le_of_ble_eq_true rfl) (jR_le hX (by decide) (by decide)) (jF0 hX) rfl ?_
    rintro _ _ ⟨rfl, rfl⟩
    refine J_iload_n E (jd dk_X6_first_0 25 rfl) rfl 1 rfl ?_
    refine J_iconst (v := (-1)) E (jd dk_X6_first_0 26 rfl) rfl ?_
    refine J_ixor E (jd dk_X6_first_0 27 rfl) ?_
    refine J_iand E (jd dk_X6_first_0 28 rfl) ?_
    refine J_istore_n (lv' := [(3, .int (r14.1 &&& (v1 ^^^ ((-1))))), (0, .ref v0), (1, .int v1), (2, .int v2)]) E (jd dk_X6_first_0 29 rfl) rfl (by decide) rfl ?_
    refine J_iload_n E (jd dk_X6_first_0 30 rfl) rfl 0 rfl ?_
    refine J_if_eq (tgt := 64) E (jd dk_X6_first_0 31 rfl) (by decide) (fun c18 => ?_) (fun c18 => ?_)
    · replace hf := jif_t c18 hf
      refine J_iinc (v := v2 + 1) (lv' := [(2, .int (v2 + 1)), (3, .int (r14.1 &&& (v1 ^^^ ((-1))))), (0, .ref v0), (1, .int v1)]) E (jd dk_X6_first_0 35 rfl) 3 rfl rfl (by decide) rfl ?_
      refine J_goto (tgt := 21) E (jd dk_X6_first_0 36 rfl) (by decide) ?_
      refine J_sub [2, 3, 0] rfl ?_
      exact kb _ (Option.some.inj hf).symm
    · replace hf := jif_f c18 hf
      refine J_sub [0] rfl ?_
      exact ke0 _ (Option.some.inj hf).symm
set_option maxRecDepth 100000 in
set_option maxHeartbeats 4000000 in
theorem lk_X6_first_b21 {G : JG} {X : JX} (E : jE G X (RX6, cX6_first, 4)) (hX : X.2.2.2.1 = jRm 5 0 0) (hr : X.2.2.2.2.2.2.2.2.1.sig.returnType = (some .int)) (N : Nat) {v0 : Nat} {v1 : Int32} {v2 : Int32} {h : AH}  {r : (Int32 × AH)} (hf : f_X6_first_b21 N v0 v1 v2 h = some r) : JW G X (RX6, cX6_first, 4) h [(0, .ref v0), (1, .int v1), (2, .int v2)] [] 21 0 0 (jEnd G X (jpi r) 0 0) := by
  unfold f_X6_first_b21 at hf
  obtain ⟨q1, h1, hf⟩ := jbind hf
  refine jloop (P := fun s => JW G X (RX6, cX6_first, 4) s.2 [(0, .ref v0), (1, .int v1), (2, .int s.1)] [] 21 0 0 (jEnd G X (jpi r) 0 0)) (Ex := Sum.elim (fun (e : Int32 × AH) => JW G X (RX6, cX6_first, 4) e.2 [(3, .int e.1)] [] 59 0 0 (jEnd G X (jpi r) 0 0)) (fun (e : AH) => JW G X (RX6, cX6_first, 4) e [] [] 70 0 0 (jEnd G X (jpi r) 0 0))) (fun s q hs hb hx => lk_X6_first_l21 E hX hr N hs (fun s' hs => hb s' hs) (fun e he => hx _ he) (fun e he => hx _ he)) N _ q1 h1 ?_
  rcases q1 with e | e
  · refine J_iload_n E (jd dk_X6_first_0 32 rfl) rfl 0 rfl ?_
    obtain ⟨r19, e20, hf⟩ := jbind hf
    refine J_callS E (jd dk_X6_first_0 33 rfl) ml_RX6_239 cal_J6_numberOfTrailingZeros_0f7a4 (lk_J6_numberOfTrailingZeros_0f7a4 (jE_g E) (jE_tr E) N e20) rfl (Nat.le_of_ble_eq_true rfl) (jR_le hX (by decide) (by decide)) (jF0 hX) rfl ?_
    rintro _ _ ⟨rfl, rfl⟩
    cases hf
    exact J_iret E hr rfl (jd dk_X6_first_0 34 rfl) (Nat.le_refl _) (Nat.le_refl _) ⟨rfl, rfl⟩
  · refine J_iconst (v := (-1)) E (jd dk_X6_first_0 37 rfl) rfl ?_
    cases hf
    exact J_iret E hr rfl (jd dk_X6_first_0 38 rfl) (Nat.le_refl _) (Nat.le_refl _) ⟨rfl, rfl⟩
set_option maxRecDepth 100000 in
set_option maxHeartbeats 4000000 in
theorem lk_X6_first {G : JG} {l : Launch} (hG : jG G) (htr : l.stackTraces = false) (N : Nat) {h : AH} {a0 : Nat} {r : (Int32 × AH)} (hf : f_X6_first N h a0 = some r) : jMet G l yX6_first cX6_first 4 (some .int) 5 0 0 [.ref a0] h (jpi r) := by
  unfold f_X6_first at hf
  refine jMet_of hG htr (by decide) (Nat.le_of_ble_eq_true rfl) ?_
  intro X E hl9 hr hX _ _
  show JW G X (RX6, cX6_first, 4) h [(0, .ref a0)] [] 0 0 0 (jEnd G X (jpi r) 0 0)
  refine J_aload_n E (jd dk_X6_first_0 0 rfl) rfl 0 rfl ?_
  obtain ⟨x21, e22, hf⟩ := jbind hf
  refine J_getr E (jd dk_X6_first_0 1 rfl) fl_RX6_37 e22 ?_
  obtain ⟨x23, e24, hf⟩ := jbind hf
  refine J_getr E (jd dk_X6_first_0 2 rfl) fl_RX6_113 e24 ?_
  refine J_aload_n E (jd dk_X6_first_0 3 rfl) rfl 0 rfl ?_
  obtain ⟨x25, e26, hf⟩ := jbind hf
  refine J_getr E (jd dk_X6_first_0 4 rfl) fl_RX6_30 e26 ?_
  obtain ⟨u29, e30, hf⟩ := jbind hf
  obtain ⟨r27, e28, hf⟩ := jbind hf
  refine J_callV E (jd dk_X6_first_0 5 rfl) ml_RX6_123 cal_X5_landedOnes e30 rfl (lk_X5_landedOnes (jE_g E) (jE_tr E) N e28) rfl (Nat.le_of_ble_eq_true rfl) (jR_le hX (by decide) (by decide)) (jF0 hX) rfl ?_
  rintro _ _ ⟨rfl, rfl⟩
  refine J_istore_n (lv' := [(1, .int r27.1), (0, .ref a0)]) E (jd dk_X6_first_0 6 rfl) rfl (by decide) rfl ?_
  refine J_aload_n E (jd dk_X6_first_0 7 rfl) rfl 1 rfl ?_
  obtain ⟨u33, e34, hf⟩ := jbind hf
  obtain ⟨r31, e32, hf⟩ := jbind hf
  refine J_callV E (jd dk_X6_first_0 8 rfl) ml_RX6_223 cal_X6_tryFromNow e34 rfl (lk_X6_tryFromNow (jE_g E) (jE_tr E) N e32) rfl (Nat.le_of_ble_eq_true rfl) (jR_le hX (by decide) (by decide)) (jF0 hX) rfl ?_
  rintro _ _ ⟨rfl, rfl⟩
  refine J_iconst (v := 1) E (jd dk_X6_first_0 9 rfl) rfl ?_
  refine J_istore_n (lv' := [(2, .int 1), (1, .int r27.1), (0, .ref a0)]) E (jd dk_X6_first_0 10 rfl) rfl (by decide) rfl ?_
  refine J_sub [2, 1, 0] rfl ?_
  exact lk_X6_first_b21 E hX hr N hf
def f_X6_last_b69 (N : Nat) (v0 : Nat) (v1 : Int32) (v2 : Int32) (v3 : Int32) (h : AH) : Option ((Int32 × Int32 × AH) ⊕ ((Int32 × AH))) :=
  some (.inl ((v2, v3 + 1, h)))
def f_X6_last_l13 (N : Nat) (v0 : Nat) (v1 : Int32) (v2 : Int32) (v3 : Int32) (h : AH) : Option ((Int32 × Int32 × AH) ⊕ ((Int32 × AH))) :=
  if 60 < v3 then some (.inr ((v2, h)))
  else (jgr 6 h v0 8).bind fun x2 =>
  (jgr 5 h x2 3).bind fun x4 =>
  (jal 0 h x4 v1).bind fun x6 =>
  (jgr 6 h v0 8).bind fun x8 =>
  (jgr 6 h v0 4).bind fun x10 =>
  (jck 5 h x8).bind fun _ =>
  (f_X5_pass N h x8 x10 0).bind fun r12 =>
  (jgr 6 r12 v0 8).bind fun x16 =>
  (jgr 5 r12 x16 3).bind fun x18 =>
  (jal 0 r12 x18 v1).bind fun x20 =>
  if (x20 &&& (x6 ^^^ ((-1)))) = 0 then f_X6_last_b69 N v0 v1 v2 v3 r12
  else (f_J6_numberOfTrailingZeros_0f7a4 N r12 (x20 &&& (x6 ^^^ ((-1))))).bind fun r23 =>
  f_X6_last_b69 N v0 v1 r23.1 v3 r23.2
def f_X6_last_b13 (N : Nat) (v0 : Nat) (v1 : Int32) (v2 : Int32) (v3 : Int32) (h : AH) : Option ((Nat ⊕ Int32) × AH) :=
  (itr (fun s => f_X6_last_l13 N v0 v1 s.1 s.2.1 s.2.2) N (v2, v3, h)).bind (fun e => some (.inr e.1, e.2))
def f_X6_last (N : Nat) (h : AH) (a0 : Nat) (a1 : Int32) : Option ((Nat ⊕ Int32) × AH) :=
  (jck 6 h a0).bind fun _ =>
  (f_X6_needJudge N h a0 a1).bind fun r25 => Sum.elim (fun k => some (.inl k, r25.2)) (fun _ =>
  (jck 6 r25.2 a0).bind fun _ =>
  (f_X6_tryFromNow N r25.2 a0).bind fun r30 =>
  f_X6_last_b13 N a0 a1 ((-1)) 1 r30) r25.1
set_option maxRecDepth 100000 in
set_option maxHeartbeats 4000000 in
theorem lk_X6_last_b69 {G : JG} {X : JX} (E : jE G X (RX6, cX6_last, 6)) (hX : X.2.2.2.1 = jRm 5 1 6) (hr : X.2.2.2.2.2.2.2.2.1.sig.returnType = (some .int)) (htab : ∀ x ∈ X.2.2.2.2.2.2.2.2.2.exceptionTable.toList, False) (N : Nat) {Q : State → Prop} {v0 : Nat} {v1 : Int32} {v2 : Int32} {v3 : Int32} {h : AH}  {q : ((Int32 × Int32 × AH) ⊕ ((Int32 × AH)))} (hf : f_X6_last_b69 N v0 v1 v2 v3 h = some q) (kb : ∀ s' : Int32 × Int32 × AH, q = .inl s' → JW G X (RX6, cX6_last, 6) s'.2.2 [(0, .ref v0), (1, .int v1), (2, .int s'.1), (3, .int s'.2.1)] [] 13 1 6 Q) (ke0 : ∀ e : Int32 × AH, q = .inr e → JW G X (RX6, cX6_last, 6) e.2 [(2, .int e.1)] [] 75 1 6 Q) : JW G X (RX6, cX6_last, 6) h [(0, .ref v0), (1, .int v1), (2, .int v2), (3, .int v3)] [] 69 1 6 Q := by
  unfold f_X6_last_b69 at hf
  refine J_iinc (v := v3 + 1) (lv' := [(3, .int (v3 + 1)), (0, .ref v0), (1, .int v1), (2, .int v2)]) E (jd dk_X6_last_0 39 rfl) 3 rfl rfl (by decide) rfl ?_
  refine J_goto (tgt := 13) E (jd dk_X6_last_0 40 rfl) (by decide) ?_
  refine J_sub [1, 2, 3, 0] rfl ?_
  exact kb _ (Option.some.inj hf).symm
set_option maxRecDepth 100000 in
set_option maxHeartbeats 4000000 in
theorem lk_X6_last_l13 {G : JG} {X : JX} (E : jE G X (RX6, cX6_last, 6)) (hX : X.2.2.2.1 = jRm 5 1 6) (hr : X.2.2.2.2.2.2.2.2.1.sig.returnType = (some .int)) (htab : ∀ x ∈ X.2.2.2.2.2.2.2.2.2.exceptionTable.toList, False) (N : Nat) {Q : State → Prop} {v0 : Nat} {v1 : Int32} {v2 : Int32} {v3 : Int32}  {h : AH} {q : ((Int32 × Int32 × AH) ⊕ ((Int32 × AH)))} (hf : f_X6_last_l13 N v0 v1 v2 v3 h = some q) (kb : ∀ s' : Int32 × Int32 × AH, q = .inl s' → JW G X (RX6, cX6_last, 6) s'.2.2 [(0, .ref v0), (1, .int v1), (2, .int s'.1), (3, .int s'.2.1)] [] 13 1 6 Q) (ke0 : ∀ e : Int32 × AH, q = .inr e → JW G X (RX6, cX6_last, 6) e.2 [(2, .int e.1)] [] 75 1 6 Q) : JW G X (RX6, cX6_last, 6) h [(0, .ref v0), (1, .int v1), (2, .int v2), (3, .int v3)] [] 13 1 6 Q := by
  unfold f_X6_last_l13 at hf
  refine J_iload_n E (jd dk_X6_last_0 9 rfl) rfl 3 rfl ?_
  refine J_bipush (v := 60) E (jd dk_X6_last_0 10 rfl) (by decide) ?_
  refine J_icmp_gt (tgt := 75) E (jd dk_X6_last_0 11 rfl) (by decide) (fun c1 => ?_) (fun c1 => ?_)
  · replace hf := jif_t c1 hf
    refine J_sub [2] rfl ?_
    exact ke0 _ (Option.some.inj hf).symm
  · replace hf := jif_f c1 hf
    refine J_aload_n E (jd dk_X6_last_0 12 rfl) rfl 0 rfl ?_
    obtain ⟨x2, e3, hf⟩ := jbind hf
    refine J_getr E (jd dk_X6_last_0 13 rfl) fl_RX6_51 e3 ?_
    obtain ⟨x4, e5, hf⟩ := jbind hf
    refine J_getr E (jd dk_X6_last_0 14 rfl) fl_RX6_147 e5 ?_
    refine J_iload_n E (jd dk_X6_last_0 15 rfl) rfl 1 rfl ?_
    obtain ⟨x6, e7, hf⟩ := jbind hf
    refine J_iald E (jd dk_X6_last_0 16 rfl) e7 ?_
    refine J_istore (lv' := [(4, .int x6), (0, .ref v0), (1, .int v1), (2, .int v2), (3, .int v3)]) E (jd dk_X6_last_0 17 rfl) (by decide) rfl ?_
    refine J_aload_n E (jd dk_X6_last_0 18 rfl) rfl 1 rfl ?_
    obtain ⟨x8, e9, hf⟩ := jbind hf
    refine J_getr E (jd dk_X6_last_0 19 rfl) fl_RX6_51 e9 ?_
    refine J_aload_n E (jd dk_X6_last_0 20 rfl) rfl 1 rfl ?_
    obtain ⟨x10, e11, hf⟩ := jbind hf
    refine J_getr E (jd dk_X6_last_0 21 rfl) fl_RX6_30 e11 ?_
    refine J_iconst (v := 0) E (jd dk_X6_last_0 22 rfl) rfl ?_
    obtain ⟨u14, e15, hf⟩ := jbind hf
    obtain ⟨r12, e13, hf⟩ := jbind hf
    refine J_callV E (jd dk_X6_last_0 23 rfl) ml_RX6_201 cal_X5_pass e15 rfl (lk_X5_pass (jE_g E) (jE_tr E) N e13) rfl (Nat.le_of_ble_eq_true rfl) (jR_le hX (by decide) (by decide)) (jFx hX (by decide) (by decide)) rfl ?_
    rintro _ _ ⟨rfl, rfl⟩
    refine J_aload_n E (jd dk_X6_last_0 24 rfl) rfl 1 rfl ?_
    obtain ⟨x16, e17, hf⟩ := jbind hf
    refine J_getr E (jd dk_X6_last_0 25 rfl) fl_RX6_51 e17 ?_
    obtain ⟨x18, e19, hf⟩ := jbind hf
    refine J_getr E (jd dk_X6_last_0 26 rfl) fl_RX6_147 e19 ?_
    refine J_iload_n E (jd dk_X6_last_0 27 rfl) rfl 2 rfl ?_
    obtain ⟨x20, e21, hf⟩ := jbind hf
    refine J_iald E (jd dk_X6_last_0 28 rfl) e21 ?_
    refine J_iload E (jd dk_X6_last_0 29 rfl) 0 rfl ?_
    refine J_iconst (v := (-1)) E (jd dk_X6_last_0 30 rfl) rfl ?_
    refine J_ixor E (jd dk_X6_last_0 31 rfl) ?_
    refine J_iand E (jd dk_X6_last_0 32 rfl) ?_
    refine J_istore (lv' := [(5, .int (x20 &&& (x6 ^^^ ((-1))))), (4, .int x6), (0, .ref v0), (1, .int v1), (2, .int v2), (3, .int v3)]) E (jd dk_X6_last_0 33 rfl) (by decide) rfl ?_
    refine J_iload E (jd dk_X6_last_0 34 rfl) 0 rfl ?_
    refine J_if_eq (tgt := 69) E (jd dk_X6_last_0 35 rfl) (by decide) (fun c22 => ?_) (fun c22 => ?_)
    · replace hf := jif_t c22 hf
      refine J_sub [2, 3, 4, 5] rfl ?_
      exact lk_X6_last_b69 E hX hr htab N hf kb ke0
    · replace hf := jif_f c22 hf
      refine J_iload E (jd dk_X6_last_0 36 rfl) 0 rfl ?_
      obtain ⟨r23, e24, hf⟩ := jbind hf
      refine J_callS E (jd dk_X6_last_0 37 rfl) ml_RX6_239 cal_J6_numberOfTrailingZeros_0f7a4 (lk_J6_numberOfTrailingZeros_0f7a4 (jE_g E) (jE_tr E) N e24) rfl (Nat.le_of_ble_eq_true rfl) (jR_le hX (by decide) (by decide)) (jFx hX (by decide) (by decide)) rfl ?_
      rintro _ _ ⟨rfl, rfl⟩
      refine J_istore_n (lv' := [(2, .int r23.1), (5, .int (x20 &&& (x6 ^^^ ((-1))))), (4, .int x6), (0, .ref v0), (1, .int v1), (3, .int v3)]) E (jd dk_X6_last_0 38 rfl) rfl (by decide) rfl ?_
      refine J_sub [3, 4, 0, 5] rfl ?_
      exact lk_X6_last_b69 E hX hr htab N hf kb ke0
set_option maxRecDepth 100000 in
set_option maxHeartbeats 4000000 in
theorem lk_X6_last_b13 {G : JG} {X : JX} (E : jE G X (RX6, cX6_last, 6)) (hX : X.2.2.2.1 = jRm 5 1 6) (hr : X.2.2.2.2.2.2.2.2.1.sig.returnType = (some .int)) (htab : ∀ x ∈ X.2.2.2.2.2.2.2.2.2.exceptionTable.toList, False) (N : Nat) {v0 : Nat} {v1 : Int32} {v2 : Int32} {v3 : Int32} {h : AH}  {r : ((Nat ⊕ Int32) × AH)} (hf : f_X6_last_b13 N v0 v1 v2 v3 h = some r) : JW G X (RX6, cX6_last, 6) h [(0, .ref v0), (1, .int v1), (2, .int v2), (3, .int v3)] [] 13 1 6 (jEndX G X (jpXi r) (jpXx r) 1 6) := by
  unfold f_X6_last_b13 at hf
  obtain ⟨q1, h1, hf⟩ := jbind hf
  refine jloop (P := fun s => JW G X (RX6, cX6_last, 6) s.2.2 [(0, .ref v0), (1, .int v1), (2, .int s.1), (3, .int s.2.1)] [] 13 1 6 (jEndX G X (jpXi r) (jpXx r) 1 6)) (Ex := fun (e : Int32 × AH) => JW G X (RX6, cX6_last, 6) e.2 [(2, .int e.1)] [] 75 1 6 (jEndX G X (jpXi r) (jpXx r) 1 6)) (fun s q hs hb hx => lk_X6_last_l13 E hX hr htab N hs (fun s' hs => hb s' hs) (fun e he => hx e he)) N _ q1 h1 ?_
  generalize q1 = e at hf ⊢
  refine J_iload_n E (jd dk_X6_last_0 41 rfl) rfl 0 rfl ?_
  cases hf
  exact J_x (J_iret E hr rfl (jd dk_X6_last_0 42 rfl) (by decide) (by decide) ⟨_, rfl, rfl, rfl⟩)
set_option maxRecDepth 100000 in
set_option maxHeartbeats 4000000 in
theorem lk_X6_last {G : JG} {l : Launch} (hG : jG G) (htr : l.stackTraces = false) (N : Nat) {h : AH} {a0 : Nat} {a1 : Int32} {r : ((Nat ⊕ Int32) × AH)} (hf : f_X6_last N h a0 a1 = some r) : jMetX G l yX6_last cX6_last 6 (some .int) 5 1 6 [.ref a0, .int a1] h (jpXi r) (jpXx r) := by
  unfold f_X6_last at hf
  refine jMetX_of hG htr (by decide) (Nat.le_of_ble_eq_true rfl) ?_
  intro X E hl9 hr hX htab
  show JW G X (RX6, cX6_last, 6) h [(0, .ref a0), (1, .int a1)] [] 0 0 0 (jEndX G X (jpXi r) (jpXx r) 1 6)
  refine J_aload_n E (jd dk_X6_last_0 0 rfl) rfl 0 rfl ?_
  refine J_iload_n E (jd dk_X6_last_0 1 rfl) rfl 1 rfl ?_
  obtain ⟨u27, e28, hf⟩ := jbind hf
  obtain ⟨r25, e26, hf⟩ := jbind hf
  obtain ⟨r25a, r25b⟩ := r25
  refine J_callVX E (jd dk_X6_last_0 2 rfl) ml_RX6_176 cal_X6_needJudge e28 rfl (lk_X6_needJudge (jE_g E) (jE_tr E) N e26) rfl (Nat.le_of_ble_eq_true rfl) (jR_le hX (by decide) (by decide)) (jFx hX (by decide) (by decide)) rfl ?_ ?_
  rotate_left
  · rintro _ _ ⟨k9, rfl, rfl, rfl⟩
    replace hf := Option.some.inj hf
    subst hf
    exact J_out E htab (by decide) (by decide) ⟨_, rfl, rfl, rfl⟩
  rintro _ _ ⟨rfl, rfl, rfl⟩
  replace hf : _ = some _ := hf
  refine J_aload_n E (jd dk_X6_last_0 3 rfl) rfl 0 rfl ?_
  obtain ⟨u32, e33, hf⟩ := jbind hf
  obtain ⟨r30, e31, hf⟩ := jbind hf
  refine J_callV E (jd dk_X6_last_0 4 rfl) ml_RX6_223 cal_X6_tryFromNow e33 rfl (lk_X6_tryFromNow (jE_g E) (jE_tr E) N e31) rfl (Nat.le_of_ble_eq_true rfl) (jR_le hX (by decide) (by decide)) (jFx hX (by decide) (by decide)) rfl ?_
  rintro _ _ ⟨rfl, rfl⟩
  refine J_iconst (v := (-1)) E (jd dk_X6_last_0 5 rfl) rfl ?_
  refine J_istore_n (lv' := [(2, .int ((-1))), (0, .ref a0), (1, .int a1)]) E (jd dk_X6_last_0 6 rfl) rfl (by decide) rfl ?_
  refine J_iconst (v := 1) E (jd dk_X6_last_0 7 rfl) rfl ?_
  refine J_istore_n (lv' := [(3, .int 1), (2, .int ((-1))), (0, .ref a0), (1, .int a1)]) E (jd dk_X6_last_0 8 rfl) rfl (by decide) rfl ?_
  refine J_sub [2, 3, 1, 0] rfl ?_
  exact lk_X6_last_b13 E hX hr htab N hf
def f_X6_still_b81 (N : Nat) (v0 : Nat) (v1 : Int32) (v2 : Int32) (v3 : Int32) (v4 : Int32) (v5 : Int32) (h : AH) : Option ((Int32 × Int32 × AH) ⊕ ((Int32 × AH))) :=
  some (.inl ((v4, v5 + 1, h)))
def f_X6_still_b78 (N : Nat) (v0 : Nat) (v1 : Int32) (v2 : Int32) (v3 : Int32) (v4 : Int32) (v5 : Int32) (h : AH) : Option ((Int32 × Int32 × AH) ⊕ ((Int32 × AH))) :=
  f_X6_still_b81 N v0 v1 v2 v3 (v4 + 1) v5 h
def f_X6_still_l27 (N : Nat) (v0 : Nat) (v1 : Int32) (v2 : Int32) (v3 : Int32) (v4 : Int32) (v5 : Int32) (h : AH) : Option ((Int32 × Int32 × AH) ⊕ ((Int32 × AH))) :=
  if v2 < v5 then some (.inr ((v4, h)))
  else (jgr 6 h v0 8).bind fun x2 =>
  (jgr 6 h v0 4).bind fun x4 =>
  (jck 5 h x2).bind fun _ =>
  (f_X5_pass N h x2 x4 0).bind fun r6 =>
  if v3 = 0 then (jgr 6 r6 v0 8).bind fun x20 =>
  (jck 5 r6 x20).bind fun _ =>
  (f_X5_isOnPool N r6 x20 v1).bind fun r22 =>
  if r22.1 = 0 then f_X6_still_b81 N v0 v1 v2 v3 v4 v5 r22.2
  else f_X6_still_b78 N v0 v1 v2 v3 v4 v5 r22.2
  else (jgr 6 r6 v0 8).bind fun x11 =>
  (jgr 6 r6 v0 4).bind fun x13 =>
  (jck 5 r6 x11).bind fun _ =>
  (f_X5_isAlone N r6 x11 x13 v1).bind fun r15 =>
  if r15.1 = 0 then f_X6_still_b81 N v0 v1 v2 v3 v4 v5 r15.2
  else f_X6_still_b78 N v0 v1 v2 v3 v4 v5 r15.2
def f_X6_still_b27 (N : Nat) (v0 : Nat) (v1 : Int32) (v2 : Int32) (v3 : Int32) (v4 : Int32) (v5 : Int32) (h : AH) : Option ((Nat ⊕ Int32) × AH) :=
  (itr (fun s => f_X6_still_l27 N v0 v1 v2 v3 s.1 s.2.1 s.2.2) N (v4, v5, h)).bind (fun e => some (.inr e.1, e.2))
def f_X6_still (N : Nat) (h : AH) (a0 : Nat) (a1 : Int32) (a2 : Int32) (a3 : Int32) : Option ((Nat ⊕ Int32) × AH) :=
  (jck 6 h a0).bind fun _ =>
  (f_X6_needJudge N h a0 a1).bind fun r27 => Sum.elim (fun k => some (.inl k, r27.2)) (fun _ =>
  (f_X6_needWhat N r27.2 a3 1).bind fun r32 => Sum.elim (fun k => some (.inl k, r32.2)) (fun _ =>
  (f_X6_needSteps N r32.2 a2 1 60).bind fun r35 => Sum.elim (fun k => some (.inl k, r35.2)) (fun _ =>
  (jck 6 r35.2 a0).bind fun _ =>
  (f_X6_tryFromNow N r35.2 a0).bind fun r38 =>
  f_X6_still_b27 N a0 a1 a2 a3 0 1 r38) r35.1) r32.1) r27.1
set_option maxRecDepth 100000 in
set_option maxHeartbeats 4000000 in
theorem lk_X6_still_b81 {G : JG} {X : JX} (E : jE G X (RX6, cX6_still, 6)) (hX : X.2.2.2.1 = jRm 5 3 18) (hr : X.2.2.2.2.2.2.2.2.1.sig.returnType = (some .int)) (htab : ∀ x ∈ X.2.2.2.2.2.2.2.2.2.exceptionTable.toList, False) (N : Nat) {Q : State → Prop} {v0 : Nat} {v1 : Int32} {v2 : Int32} {v3 : Int32} {v4 : Int32} {v5 : Int32} {h : AH}  {q : ((Int32 × Int32 × AH) ⊕ ((Int32 × AH)))} (hf : f_X6_still_b81 N v0 v1 v2 v3 v4 v5 h = some q) (kb : ∀ s' : Int32 × Int32 × AH, q = .inl s' → JW G X (RX6, cX6_still, 6) s'.2.2 [(0, .ref v0), (1, .int v1), (2, .int v2), (3, .int v3), (4, .int s'.1), (5, .int s'.2.1)] [] 27 3 18 Q) (ke0 : ∀ e : Int32 × AH, q = .inr e → JW G X (RX6, cX6_still, 6) e.2 [(4, .int e.1)] [] 87 3 18 Q) : JW G X (RX6, cX6_still, 6) h [(0, .ref v0), (1, .int v1), (2, .int v2), (3, .int v3), (4, .int v4), (5, .int v5)] [] 81 3 18 Q := by
  unfold f_X6_still_b81 at hf
  refine J_iinc (v := v5 + 1) (lv' := [(5, .int (v5 + 1)), (0, .ref v0), (1, .int v1), (2, .int v2), (3, .int v3), (4, .int v4)]) E (jd dk_X6_still_0 41 rfl) 5 rfl rfl (by decide) rfl ?_
  refine J_goto (tgt := 27) E (jd dk_X6_still_0 42 rfl) (by decide) ?_
  refine J_sub [1, 2, 3, 4, 5, 0] rfl ?_
  exact kb _ (Option.some.inj hf).symm
set_option maxRecDepth 100000 in
set_option maxHeartbeats 4000000 in
theorem lk_X6_still_b78 {G : JG} {X : JX} (E : jE G X (RX6, cX6_still, 6)) (hX : X.2.2.2.1 = jRm 5 3 18) (hr : X.2.2.2.2.2.2.2.2.1.sig.returnType = (some .int)) (htab : ∀ x ∈ X.2.2.2.2.2.2.2.2.2.exceptionTable.toList, False) (N : Nat) {Q : State → Prop} {v0 : Nat} {v1 : Int32} {v2 : Int32} {v3 : Int32} {v4 : Int32} {v5 : Int32} {h : AH}  {q : ((Int32 × Int32 × AH) ⊕ ((Int32 × AH)))} (hf : f_X6_still_b78 N v0 v1 v2 v3 v4 v5 h = some q) (kb : ∀ s' : Int32 × Int32 × AH, q = .inl s' → JW G X (RX6, cX6_still, 6) s'.2.2 [(0, .ref v0), (1, .int v1), (2, .int v2), (3, .int v3), (4, .int s'.1), (5, .int s'.2.1)] [] 27 3 18 Q) (ke0 : ∀ e : Int32 × AH, q = .inr e → JW G X (RX6, cX6_still, 6) e.2 [(4, .int e.1)] [] 87 3 18 Q) : JW G X (RX6, cX6_still, 6) h [(0, .ref v0), (1, .int v1), (2, .int v2), (3, .int v3), (4, .int v4), (5, .int v5)] [] 78 3 18 Q := by
  unfold f_X6_still_b78 at hf
  refine J_iinc (v := v4 + 1) (lv' := [(4, .int (v4 + 1)), (0, .ref v0), (1, .int v1), (2, .int v2), (3, .int v3), (5, .int v5)]) E (jd dk_X6_still_0 40 rfl) 4 rfl rfl (by decide) rfl ?_
  refine J_sub [1, 2, 3, 4, 0, 5] rfl ?_
  exact lk_X6_still_b81 E hX hr htab N hf kb ke0
set_option maxRecDepth 100000 in
set_option maxHeartbeats 4000000 in
theorem lk_X6_still_l27 {G : JG} {X : JX} (E : jE G X (RX6, cX6_still, 6)) (hX : X.2.2.2.1 = jRm 5 3 18) (hr : X.2.2.2.2.2.2.2.2.1.sig.returnType = (some .int)) (htab : ∀ x ∈ X.2.2.2.2.2.2.2.2.2.exceptionTable.toList, False) (N : Nat) {Q : State → Prop} {v0 : Nat} {v1 : Int32} {v2 : Int32} {v3 : Int32} {v4 : Int32} {v5 : Int32}  {h : AH} {q : ((Int32 × Int32 × AH) ⊕ ((Int32 × AH)))} (hf : f_X6_still_l27 N v0 v1 v2 v3 v4 v5 h = some q) (kb : ∀ s' : Int32 × Int32 × AH, q = .inl s' → JW G X (RX6, cX6_still, 6) s'.2.2 [(0, .ref v0), (1, .int v1), (2, .int v2), (3, .int v3), (4, .int s'.1), (5, .int s'.2.1)] [] 27 3 18 Q) (ke0 : ∀ e : Int32 × AH, q = .inr e → JW G X (RX6, cX6_still, 6) e.2 [(4, .int e.1)] [] 87 3 18 Q) : JW G X (RX6, cX6_still, 6) h [(0, .ref v0), (1, .int v1), (2, .int v2), (3, .int v3), (4, .int v4), (5, .int v5)] [] 27 3 18 Q := by
  unfold f_X6_still_l27 at hf
  refine J_iload E (jd dk_X6_still_0 16 rfl) 5 rfl ?_
  refine J_iload_n E (jd dk_X6_still_0 17 rfl) rfl 2 rfl ?_
  refine J_icmp_gt (tgt := 87) E (jd dk_X6_still_0 18 rfl) (by decide) (fun c1 => ?_) (fun c1 => ?_)
  · replace hf := jif_t c1 hf
    refine J_sub [4] rfl ?_
    exact ke0 _ (Option.some.inj hf).symm
  · replace hf := jif_f c1 hf
    refine J_aload_n E (jd dk_X6_still_0 19 rfl) rfl 0 rfl ?_
    obtain ⟨x2, e3, hf⟩ := jbind hf
    refine J_getr E (jd dk_X6_still_0 20 rfl) fl_RX6_51 e3 ?_
    refine J_aload_n E (jd dk_X6_still_0 21 rfl) rfl 0 rfl ?_
    obtain ⟨x4, e5, hf⟩ := jbind hf
    refine J_getr E (jd dk_X6_still_0 22 rfl) fl_RX6_30 e5 ?_
    refine J_iconst (v := 0) E (jd dk_X6_still_0 23 rfl) rfl ?_
    obtain ⟨u8, e9, hf⟩ := jbind hf
    obtain ⟨r6, e7, hf⟩ := jbind hf
    refine J_callV E (jd dk_X6_still_0 24 rfl) ml_RX6_201 cal_X5_pass e9 rfl (lk_X5_pass (jE_g E) (jE_tr E) N e7) rfl (Nat.le_of_ble_eq_true rfl) (jR_le hX (by decide) (by decide)) (jFx hX (by decide) (by decide)) rfl ?_
    rintro _ _ ⟨rfl, rfl⟩
    refine J_iload_n E (jd dk_X6_still_0 25 rfl) rfl 3 rfl ?_
    refine J_if_ne (tgt := 63) E (jd dk_X6_still_0 26 rfl) (by decide) (fun c10 => ?_) (fun c10 => ?_)
    · replace hf := jif_f c10 hf
      refine J_aload_n E (jd dk_X6_still_0 33 rfl) rfl 0 rfl ?_
      obtain ⟨x11, e12, hf⟩ := jbind hf
      refine J_getr E (jd dk_X6_still_0 34 rfl) fl_RX6_51 e12 ?_
      refine J_aload_n E (jd dk_X6_still_0 35 rfl) rfl 0 rfl ?_
      obtain ⟨x13, e14, hf⟩ := jbind hf
      refine J_getr E (jd dk_X6_still_0 36 rfl) fl_RX6_30 e14 ?_
      refine J_iload_n E (jd dk_X6_still_0 37 rfl) rfl 1 rfl ?_
      obtain ⟨u17, e18, hf⟩ := jbind hf
      obtain ⟨r15, e16, hf⟩ := jbind hf
      refine J_callV E (jd dk_X6_still_0 38 rfl) ml_RX6_246 cal_X5_isAlone e18 rfl (lk_X5_isAlone (jE_g E) (jE_tr E) N e16) rfl (Nat.le_of_ble_eq_true rfl) (jR_le hX (by decide) (by decide)) (jFx hX (by decide) (by decide)) rfl ?_
      rintro _ _ ⟨rfl, rfl⟩
      refine J_if_eq (tgt := 81) E (jd dk_X6_still_0 39 rfl) (by decide) (fun c19 => ?_) (fun c19 => ?_)
      · replace hf := jif_t c19 hf
        exact lk_X6_still_b81 E hX hr htab N hf kb ke0
      · replace hf := jif_f c19 hf
        exact lk_X6_still_b78 E hX hr htab N hf kb ke0
    · replace hf := jif_t c10 hf
      refine J_aload_n E (jd dk_X6_still_0 27 rfl) rfl 0 rfl ?_
      obtain ⟨x20, e21, hf⟩ := jbind hf
      refine J_getr E (jd dk_X6_still_0 28 rfl) fl_RX6_51 e21 ?_
      refine J_iload_n E (jd dk_X6_still_0 29 rfl) rfl 1 rfl ?_
      obtain ⟨u24, e25, hf⟩ := jbind hf
      obtain ⟨r22, e23, hf⟩ := jbind hf
      refine J_callV E (jd dk_X6_still_0 30 rfl) ml_RX6_242 cal_X5_isOnPool e25 rfl (lk_X5_isOnPool (jE_g E) (jE_tr E) N e23) rfl (Nat.le_of_ble_eq_true rfl) (jR_le hX (by decide) (by decide)) (jFx hX (by decide) (by decide)) rfl ?_
      rintro _ _ ⟨rfl, rfl⟩
      refine J_if_eq (tgt := 81) E (jd dk_X6_still_0 31 rfl) (by decide) (fun c26 => ?_) (fun c26 => ?_)
      · replace hf := jif_t c26 hf
        exact lk_X6_still_b81 E hX hr htab N hf kb ke0
      · replace hf := jif_f c26 hf
        refine J_goto (tgt := 78) E (jd dk_X6_still_0 32 rfl) (by decide) ?_
        exact lk_X6_still_b78 E hX hr htab N hf kb ke0
set_option maxRecDepth 100000 in
set_option maxHeartbeats 4000000 in
theorem lk_X6_still_b27 {G : JG} {X : JX} (E : jE G X (RX6, cX6_still, 6)) (hX : X.2.2.2.1 = jRm 5 3 18) (hr : X.2.2.2.2.2.2.2.2.1.sig.returnType = (some .int)) (htab : ∀ x ∈ X.2.2.2.2.2.2.2.2.2.exceptionTable.toList, False) (N : Nat) {v0 : Nat} {v1 : Int32} {v2 : Int32} {v3 : Int32} {v4 : Int32} {v5 : Int32} {h : AH}  {r : ((Nat ⊕ Int32) × AH)} (hf : f_X6_still_b27 N v0 v1 v2 v3 v4 v5 h = some r) : JW G X (RX6, cX6_still, 6) h [(0, .ref v0), (1, .int v1), (2, .int v2), (3, .int v3), (4, .int v4), (5, .int v5)] [] 27 3 18 (jEndX G X (jpXi r) (jpXx r) 3 18) := by
  unfold f_X6_still_b27 at hf
  obtain ⟨q1, h1, hf⟩ := jbind hf
  refine jloop (P := fun s => JW G X (RX6, cX6_still, 6) s.2.2 [(0, .ref v0), (1, .int v1), (2, .int v2), (3, .int v3), (4, .int s.1), (5, .int s.2.1)] [] 27 3 18 (jEndX G X (jpXi r) (jpXx r) 3 18)) (Ex := fun (e : Int32 × AH) => JW G X (RX6, cX6_still, 6) e.2 [(4, .int e.1)] [] 87 3 18 (jEndX G X (jpXi r) (jpXx r) 3 18)) (fun s q hs hb hx => lk_X6_still_l27 E hX hr htab N hs (fun s' hs => hb s' hs) (fun e he => hx e he)) N _ q1 h1 ?_
  generalize q1 = e at hf ⊢
  refine J_iload E (jd dk_X6_still_0 43 rfl) 0 rfl ?_
  cases hf
  exact J_x (J_iret E hr rfl (jd dk_X6_still_0 44 rfl) (by decide) (by decide) ⟨_, rfl, rfl, rfl⟩)
set_option maxRecDepth 100000 in
set_option maxHeartbeats 4000000 in
theorem lk_X6_still {G : JG} {l : Launch} (hG : jG G) (htr : l.stackTraces = false) (N : Nat) {h : AH} {a0 : Nat} {a1 : Int32} {a2 : Int32} {a3 : Int32} {r : ((Nat ⊕ Int32) × AH)} (hf : f_X6_still N h a0 a1 a2 a3 = some r) : jMetX G l yX6_still cX6_still 6 (some .int) 5 3 18 [.ref a0, .int a1, .int a2, .int a3] h (jpXi r) (jpXx r) := by
  unfold f_X6_still at hf
  refine jMetX_of hG htr (by decide) (Nat.le_of_ble_eq_true rfl) ?_
  intro X E hl9 hr hX htab
  show JW G X (RX6, cX6_still, 6) h [(0, .ref a0), (1, .int a1), (2, .int a2), (3, .int a3)] [] 0 0 0 (jEndX G X (jpXi r) (jpXx r) 3 18)
  refine J_aload_n E (jd dk_X6_still_0 0 rfl) rfl 0 rfl ?_
  refine J_iload_n E (jd dk_X6_still_0 1 rfl) rfl 1 rfl ?_
  obtain ⟨u29, e30, hf⟩ := jbind hf
  obtain ⟨r27, e28, hf⟩ := jbind hf
  obtain ⟨r27a, r27b⟩ := r27
  refine J_callVX E (jd dk_X6_still_0 2 rfl) ml_RX6_176 cal_X6_needJudge e30 rfl (lk_X6_needJudge (jE_g E) (jE_tr E) N e28) rfl (Nat.le_of_ble_eq_true rfl) (jR_le hX (by decide) (by decide)) (jFx hX (by decide) (by decide)) rfl ?_ ?_
  rotate_left
  · rintro _ _ ⟨k9, rfl, rfl, rfl⟩
    replace hf := Option.some.inj hf
    subst hf
    exact J_out E htab (by decide) (by decide) ⟨_, rfl, rfl, rfl⟩
  rintro _ _ ⟨rfl, rfl, rfl⟩
  replace hf : _ = some _ := hf
  refine J_iload_n E (jd dk_X6_still_0 3 rfl) rfl 3 rfl ?_
  refine J_iconst (v := 1) E (jd dk_X6_still_0 4 rfl) rfl ?_
  obtain ⟨r32, e33, hf⟩ := jbind hf
  obtain ⟨r32a, r32b⟩ := r32
  refine J_callSX E (jd dk_X6_still_0 5 rfl) ml_RX6_162 cal_X6_needWhat (lk_X6_needWhat (jE_g E) (jE_tr E) N e33) rfl (Nat.le_of_ble_eq_true rfl) (jR_le hX (by decide) (by decide)) (jFx hX (by decide) (by decide)) rfl ?_ ?_
  rotate_left
  · rintro _ _ ⟨k9, rfl, rfl, rfl⟩
    replace hf := Option.some.inj hf
    subst hf
    exact J_out E htab (by decide) (by decide) ⟨_, rfl, rfl, rfl⟩
  rintro _ _ ⟨rfl, rfl, rfl⟩
  replace hf : _ = some _ := hf
  refine J_iload_n E (jd dk_X6_still_0 6 rfl) rfl 2 rfl ?_
  refine J_iconst (v := 1) E (jd dk_X6_still_0 7 rfl) rfl ?_
  refine J_bipush (v := 60) E (jd dk_X6_still_0 8 rfl) (by decide) ?_
  obtain ⟨r35, e36, hf⟩ := jbind hf
  obtain ⟨r35a, r35b⟩ := r35
  refine J_callSX E (jd dk_X6_still_0 9 rfl) ml_RX6_216 cal_X6_needSteps (lk_X6_needSteps (jE_g E) (jE_tr E) N e36) rfl (Nat.le_of_ble_eq_true rfl) (jR_le hX (by decide) (by decide)) (jFx hX (by decide) (by decide)) rfl ?_ ?_
  rotate_left
  · rintro _ _ ⟨k9, rfl, rfl, rfl⟩
    replace hf := Option.some.inj hf
    subst hf
    exact J_out E htab (by decide) (by decide) ⟨_, rfl, rfl, rfl⟩
  rintro _ _ ⟨rfl, rfl, rfl⟩
  replace hf : _ = some _ := hf
  refine J_aload_n E (jd dk_X6_still_0 10 rfl) rfl 0 rfl ?_
  obtain ⟨u40, e41, hf⟩ := jbind hf
  obtain ⟨r38, e39, hf⟩ := jbind hf
  refine J_callV E (jd dk_X6_still_0 11 rfl) ml_RX6_223 cal_X6_tryFromNow e41 rfl (lk_X6_tryFromNow (jE_g E) (jE_tr E) N e39) rfl (Nat.le_of_ble_eq_true rfl) (jR_le hX (by decide) (by decide)) (jFx hX (by decide) (by decide)) rfl ?_
  rintro _ _ ⟨rfl, rfl⟩
  refine J_iconst (v := 0) E (jd dk_X6_still_0 12 rfl) rfl ?_
  refine J_istore (lv' := [(4, .int 0), (0, .ref a0), (1, .int a1), (2, .int a2), (3, .int a3)]) E (jd dk_X6_still_0 13 rfl) (by decide) rfl ?_
  refine J_iconst (v := 1) E (jd dk_X6_still_0 14 rfl) rfl ?_
  refine J_istore (lv' := [(5, .int 1), (4, .int 0), (0, .ref a0), (1, .int a1), (2, .int a2), (3, .int a3)]) E (jd dk_X6_still_0 15 rfl) (by decide) rfl ?_
  refine J_sub [2, 3, 4, 5, 1, 0] rfl ?_
  exact lk_X6_still_b27 E hX hr htab N hf
def f_X6_turned (N : Nat) (h : AH) (a0 : Nat) (a1 : Int32) (a2 : Int32) : Option ((Nat ⊕ Int32) × AH) :=
  (jck 6 h a0).bind fun _ =>
  (f_X6_needJudge N h a0 a1).bind fun r1 => Sum.elim (fun k => some (.inl k, r1.2)) (fun _ =>
  (f_X6_needSteps N r1.2 a2 0 60).bind fun r6 => Sum.elim (fun k => some (.inl k, r6.2)) (fun _ =>
  (jck 6 r6.2 a0).bind fun _ =>
  (f_X6_tryFor N r6.2 a0 a2).bind fun r9 =>
  (jgr 6 r9 a0 8).bind fun x13 =>
  (jgr 5 r9 x13 5).bind fun x15 =>
  (jal 0 r9 x15 a1).bind fun x17 =>
  some (.inr x17, r9)) r6.1) r1.1
set_option maxRecDepth 100000 in
set_option maxHeartbeats 4000000 in
theorem lk_X6_turned {G : JG} {l : Launch} (hG : jG G) (htr : l.stackTraces = false) (N : Nat) {h : AH} {a0 : Nat} {a1 : Int32} {a2 : Int32} {r : ((Nat ⊕ Int32) × AH)} (hf : f_X6_turned N h a0 a1 a2 = some r) : jMetX G l yX6_turned cX6_turned 3 (some .int) 7 2 12 [.ref a0, .int a1, .int a2] h (jpXi r) (jpXx r) := by
  unfold f_X6_turned at hf
  refine jMetX_of hG htr (by decide) (Nat.le_of_ble_eq_true rfl) ?_
  intro X E hl9 hr hX htab
  show JW G X (RX6, cX6_turned, 3) h [(0, .ref a0), (1, .int a1), (2, .int a2)] [] 0 0 0 (jEndX G X (jpXi r) (jpXx r) 2 12)
  refine J_aload_n E (jd dk_X6_turned_0 0 rfl) rfl 0 rfl ?_
  refine J_iload_n E (jd dk_X6_turned_0 1 rfl) rfl 1 rfl ?_
  obtain ⟨u3, e4, hf⟩ := jbind hf
  obtain ⟨r1, e2, hf⟩ := jbind hf
  obtain ⟨r1a, r1b⟩ := r1
  refine J_callVX E (jd dk_X6_turned_0 2 rfl) ml_RX6_176 cal_X6_needJudge e4 rfl (lk_X6_needJudge (jE_g E) (jE_tr E) N e2) rfl (Nat.le_of_ble_eq_true rfl) (jR_le hX (by decide) (by decide)) (jFx hX (by decide) (by decide)) rfl ?_ ?_
  rotate_left
  · rintro _ _ ⟨k9, rfl, rfl, rfl⟩
    replace hf := Option.some.inj hf
    subst hf
    exact J_out E htab (by decide) (by decide) ⟨_, rfl, rfl, rfl⟩
  rintro _ _ ⟨rfl, rfl, rfl⟩
  replace hf : _ = some _ := hf
  refine J_iload_n E (jd dk_X6_turned_0 3 rfl) rfl 2 rfl ?_
  refine J_iconst (v := 0) E (jd dk_X6_turned_0 4 rfl) rfl ?_
  refine J_bipush (v := 60) E (jd dk_X6_turned_0 5 rfl) (by decide) ?_
  obtain ⟨r6, e7, hf⟩ := jbind hf
  obtain ⟨r6a, r6b⟩ := r6
  refine J_callSX E (jd dk_X6_turned_0 6 rfl) ml_RX6_216 cal_X6_needSteps (lk_X6_needSteps (jE_g E) (jE_tr E) N e7) rfl (Nat.le_of_ble_eq_true rfl) (jR_le hX (by decide) (by decide)) (jFx hX (by decide) (by decide)) rfl ?_ ?_
  rotate_left
  · rintro _ _ ⟨k9, rfl, rfl, rfl⟩
    replace hf := Option.some.inj hf
    subst hf
    exact J_out E htab (by decide) (by decide) ⟨_, rfl, rfl, rfl⟩
  rintro _ _ ⟨rfl, rfl, rfl⟩
  replace hf : _ = some _ := hf
  refine J_aload_n E (jd dk_X6_turned_0 7 rfl) rfl 0 rfl ?_
  refine J_iload_n E (jd dk_X6_turned_0 8 rfl) rfl 2 rfl ?_
  obtain ⟨u11, e12, hf⟩ := jbind hf
  obtain ⟨r9, e10, hf⟩ := jbind hf
  refine J_callV E (jd dk_X6_turned_0 9 rfl) ml_RX6_220 cal_X6_tryFor e12 rfl (lk_X6_tryFor (jE_g E) (jE_tr E) N e10) rfl (Nat.le_of_ble_eq_true rfl) (jR_le hX (by decide) (by decide)) (jFx hX (by decide) (by decide)) rfl ?_
  rintro _ _ ⟨rfl, rfl⟩
  refine J_aload_n E (jd dk_X6_turned_0 10 rfl) rfl 0 rfl ?_
  obtain ⟨x13, e14, hf⟩ := jbind hf
  refine J_getr E (jd dk_X6_turned_0 11 rfl) fl_RX6_51 e14 ?_
  obtain ⟨x15, e16, hf⟩ := jbind hf
  refine J_getr E (jd dk_X6_turned_0 12 rfl) fl_RX6_249 e16 ?_
  refine J_iload_n E (jd dk_X6_turned_0 13 rfl) rfl 1 rfl ?_
  obtain ⟨x17, e18, hf⟩ := jbind hf
  refine J_iald E (jd dk_X6_turned_0 14 rfl) e18 ?_
  cases hf
  exact J_x (J_iret E hr rfl (jd dk_X6_turned_0 15 rfl) (by decide) (by decide) ⟨_, rfl, rfl, rfl⟩)
def f_X6_stay_b83 (N : Nat) (v0 : Nat) (v1 : Int32) (v2 : Int32) (v3 : Int32) (v4 : Int32) (v5 : Int32) (h : AH) : Option ((Int32 × Int32 × Int32 × Int32 × AH) ⊕ ((Int32 × AH))) :=
  some (.inl ((v2, v3, v4, v5 + 1, h)))
def f_X6_stay_b59 (N : Nat) (v0 : Nat) (v1 : Int32) (v2 : Int32) (v5 : Int32) (w0 : Int32) (h : AH) : Option ((Int32 × Int32 × Int32 × Int32 × AH) ⊕ ((Int32 × AH))) :=
  (jgr 6 h v0 8).bind fun x1 =>
  (jgr 5 h x1 1).bind fun x3 =>
  (jal 0 h x3 v1).bind fun x5 =>
  if x5 < 0 then f_X6_stay_b83 N v0 v1 v2 w0 x5 v5 h
  else if w0 ≤ v2 then f_X6_stay_b83 N v0 v1 v2 w0 x5 v5 h
  else f_X6_stay_b83 N v0 v1 w0 w0 x5 v5 h
def f_X6_stay_l19 (N : Nat) (v0 : Nat) (v1 : Int32) (v2 : Int32) (v3 : Int32) (v4 : Int32) (v5 : Int32) (h : AH) : Option ((Int32 × Int32 × Int32 × Int32 × AH) ⊕ ((Int32 × AH))) :=
  if 60 < v5 then some (.inr ((v2, h)))
  else (jgr 6 h v0 8).bind fun x10 =>
  (jgr 6 h v0 4).bind fun x12 =>
  (jck 5 h x10).bind fun _ =>
  (f_X5_pass N h x10 x12 0).bind fun r14 =>
  (jgr 6 r14 v0 8).bind fun x18 =>
  (jgr 5 r14 x18 1).bind fun x20 =>
  (jal 0 r14 x20 v1).bind fun x22 =>
  if x22 = v4 then f_X6_stay_b59 N v0 v1 v2 v5 (v3 + 1) r14
  else f_X6_stay_b59 N v0 v1 v2 v5 1 r14
def f_X6_stay_b19 (N : Nat) (v0 : Nat) (v1 : Int32) (v2 : Int32) (v3 : Int32) (v4 : Int32) (v5 : Int32) (h : AH) : Option ((Nat ⊕ Int32) × AH) :=
  (itr (fun s => f_X6_stay_l19 N v0 v1 s.1 s.2.1 s.2.2.1 s.2.2.2.1 s.2.2.2.2) N (v2, v3, v4, v5, h)).bind (fun e => some (.inr e.1, e.2))
def f_X6_stay (N : Nat) (h : AH) (a0 : Nat) (a1 : Int32) : Option ((Nat ⊕ Int32) × AH) :=
  (jck 6 h a0).bind fun _ =>
  (f_X6_needJudge N h a0 a1).bind fun r25 => Sum.elim (fun k => some (.inl k, r25.2)) (fun _ =>
  (jck 6 r25.2 a0).bind fun _ =>
  (f_X6_tryFromNow N r25.2 a0).bind fun r30 =>
  f_X6_stay_b19 N a0 a1 0 0 ((-1)) 1 r30) r25.1
set_option maxRecDepth 100000 in
set_option maxHeartbeats 4000000 in
theorem lk_X6_stay_b83 {G : JG} {X : JX} (E : jE G X (RX6, cX6_stay, 6)) (hX : X.2.2.2.1 = jRm 5 1 6) (hr : X.2.2.2.2.2.2.2.2.1.sig.returnType = (some .int)) (htab : ∀ x ∈ X.2.2.2.2.2.2.2.2.2.exceptionTable.toList, False) (N : Nat) {Q : State → Prop} {v0 : Nat} {v1 : Int32} {v2 : Int32} {v3 : Int32} {v4 : Int32} {v5 : Int32} {h : AH}  {q : ((Int32 × Int32 × Int32 × Int32 × AH) ⊕ ((Int32 × AH)))} (hf : f_X6_stay_b83 N v0 v1 v2 v3 v4 v5 h = some q) (kb : ∀ s' : Int32 × Int32 × Int32 × Int32 × AH, q = .inl s' → JW G X (RX6, cX6_stay, 6) s'.2.2.2.2 [(0, .ref v0), (1, .int v1), (2, .int s'.1), (3, .int s'.2.1), (4, .int s'.2.2.1), (5, .int s'.2.2.2.1)] [] 19 1 6 Q) (ke0 : ∀ e : Int32 × AH, q = .inr e → JW G X (RX6, cX6_stay, 6) e.2 [(2, .int e.1)] [] 89 1 6 Q) : JW G X (RX6, cX6_stay, 6) h [(0, .ref v0), (1, .int v1), (2, .int v2), (3, .int v3), (4, .int v4), (5, .int v5)] [] 83 1 6 Q := by
  unfold f_X6_stay_b83 at hf
  refine J_iinc (v := v5 + 1) (lv' := [(5, .int (v5 + 1)), (0, .ref v0), (1, .int v1), (2, .int v2), (3, .int v3), (4, .int v4)]) E (jd dk_X6_stay_0 48 rfl) 5 rfl rfl (by decide) rfl ?_
  refine J_goto (tgt := 19) E (jd dk_X6_stay_0 49 rfl) (by decide) ?_
  refine J_sub [1, 2, 3, 4, 5, 0] rfl ?_
  exact kb _ (Option.some.inj hf).symm
set_option maxRecDepth 100000 in
set_option maxHeartbeats 4000000 in
theorem lk_X6_stay_b59 {G : JG} {X : JX} (E : jE G X (RX6, cX6_stay, 6)) (hX : X.2.2.2.1 = jRm 5 1 6) (hr : X.2.2.2.2.2.2.2.2.1.sig.returnType = (some .int)) (htab : ∀ x ∈ X.2.2.2.2.2.2.2.2.2.exceptionTable.toList, False) (N : Nat) {Q : State → Prop} {v0 : Nat} {v1 : Int32} {v2 : Int32} {v5 : Int32} {w0 : Int32} {h : AH}  {q : ((Int32 × Int32 × Int32 × Int32 × AH) ⊕ ((Int32 × AH)))} (hf : f_X6_stay_b59 N v0 v1 v2 v5 w0 h = some q) (kb : ∀ s' : Int32 × Int32 × Int32 × Int32 × AH, q = .inl s' → JW G X (RX6, cX6_stay, 6) s'.2.2.2.2 [(0, .ref v0), (1, .int v1), (2, .int s'.1), (3, .int s'.2.1), (4, .int s'.2.2.1), (5, .int s'.2.2.2.1)] [] 19 1 6 Q) (ke0 : ∀ e : Int32 × AH, q = .inr e → JW G X (RX6, cX6_stay, 6) e.2 [(2, .int e.1)] [] 89 1 6 Q) : JW G X (RX6, cX6_stay, 6) h [(0, .ref v0), (1, .int v1), (2, .int v2), (5, .int v5)] [.int w0] 59 1 6 Q := by
  unfold f_X6_stay_b59 at hf
  refine J_istore_n (lv' := [(3, .int w0), (0, .ref v0), (1, .int v1), (2, .int v2), (5, .int v5)]) E (jd dk_X6_stay_0 34 rfl) rfl (by decide) rfl ?_
  refine J_aload_n E (jd dk_X6_stay_0 35 rfl) rfl 1 rfl ?_
  obtain ⟨x1, e2, hf⟩ := jbind hf
  refine J_getr E (jd dk_X6_stay_0 36 rfl) fl_RX6_51 e2 ?_
  obtain ⟨x3, e4, hf⟩ := jbind hf
  refine J_getr E (jd dk_X6_stay_0 37 rfl) fl_RX6_179 e4 ?_
  refine J_iload_n E (jd dk_X6_stay_0 38 rfl) rfl 2 rfl ?_
  obtain ⟨x5, e6, hf⟩ := jbind hf
  refine J_iald E (jd dk_X6_stay_0 39 rfl) e6 ?_
  refine J_istore (lv' := [(4, .int x5), (3, .int w0), (0, .ref v0), (1, .int v1), (2, .int v2), (5, .int v5)]) E (jd dk_X6_stay_0 40 rfl) (by decide) rfl ?_
  refine J_iload E (jd dk_X6_stay_0 41 rfl) 0 rfl ?_
  refine J_if_lt (tgt := 83) E (jd dk_X6_stay_0 42 rfl) (by decide) (fun c7 => ?_) (fun c7 => ?_)
  · replace hf := jif_t c7 hf
    refine J_sub [2, 3, 4, 1, 0, 5] rfl ?_
    exact lk_X6_stay_b83 E hX hr htab N hf kb ke0
  · replace hf := jif_f c7 hf
    refine J_iload_n E (jd dk_X6_stay_0 43 rfl) rfl 1 rfl ?_
    refine J_iload_n E (jd dk_X6_stay_0 44 rfl) rfl 4 rfl ?_
    refine J_icmp_le (tgt := 83) E (jd dk_X6_stay_0 45 rfl) (by decide) (fun c8 => ?_) (fun c8 => ?_)
    · replace hf := jif_t c8 hf
      refine J_sub [2, 3, 4, 1, 0, 5] rfl ?_
      exact lk_X6_stay_b83 E hX hr htab N hf kb ke0
    · replace hf := jif_f c8 hf
      refine J_iload_n E (jd dk_X6_stay_0 46 rfl) rfl 1 rfl ?_
      refine J_istore_n (lv' := [(2, .int w0), (4, .int x5), (3, .int w0), (0, .ref v0), (1, .int v1), (5, .int v5)]) E (jd dk_X6_stay_0 47 rfl) rfl (by decide) rfl ?_
      refine J_sub [3, 4, 0, 2, 1, 5] rfl ?_
      exact lk_X6_stay_b83 E hX hr htab N hf kb ke0
set_option maxRecDepth 100000 in
set_option maxHeartbeats 4000000 in
theorem lk_X6_stay_l19 {G : JG} {X : JX} (E : jE G X (RX6, cX6_stay, 6)) (hX : X.2.2.2.1 = jRm 5 1 6) (hr : X.2.2.2.2.2.2.2.2.1.sig.returnType = (some .int)) (htab : ∀ x ∈ X.2.2.2.2.2.2.2.2.2.exceptionTable.toList, False) (N : Nat) {Q : State → Prop} {v0 : Nat} {v1 : Int32} {v2 : Int32} {v3 : Int32} {v4 : Int32} {v5 : Int32}  {h : AH} {q : ((Int32 × Int32 × Int32 × Int32 × AH) ⊕ ((Int32 × AH)))} (hf : f_X6_stay_l19 N v0 v1 v2 v3 v4 v5 h = some q) (kb : ∀ s' : Int32 × Int32 × Int32 × Int32 × AH, q = .inl s' → JW G X (RX6, cX6_stay, 6) s'.2.2.2.2 [(0, .ref v0), (1, .int v1), (2, .int s'.1), (3, .int s'.2.1), (4, .int s'.2.2.1), (5, .int s'.2.2.2.1)] [] 19 1 6 Q) (ke0 : ∀ e : Int32 × AH, q = .inr e → JW G X (RX6, cX6_stay, 6) e.2 [(2, .int e.1)] [] 89 1 6 Q) : JW G X (RX6, cX6_stay, 6) h [(0, .ref v0), (1, .int v1), (2, .int v2), (3, .int v3), (4, .int v4), (5, .int v5)] [] 19 1 6 Q := by
  unfold f_X6_stay_l19 at hf
  refine J_iload E (jd dk_X6_stay_0 13 rfl) 5 rfl ?_
  refine J_bipush (v := 60) E (jd dk_X6_stay_0 14 rfl) (by decide) ?_
  refine J_icmp_gt (tgt := 89) E (jd dk_X6_stay_0 15 rfl) (by decide) (fun c9 => ?_) (fun c9 => ?_)
  · replace hf := jif_t c9 hf
    refine J_sub [2] rfl ?_
    exact ke0 _ (Option.some.inj hf).symm
  · replace hf := jif_f c9 hf
    refine J_aload_n E (jd dk_X6_stay_0 16 rfl) rfl 0 rfl ?_
    obtain ⟨x10, e11, hf⟩ := jbind hf
    refine J_getr E (jd dk_X6_stay_0 17 rfl) fl_RX6_51 e11 ?_
    refine J_aload_n E (jd dk_X6_stay_0 18 rfl) rfl 0 rfl ?_
    obtain ⟨x12, e13, hf⟩ := jbind hf
    refine J_getr E (jd dk_X6_stay_0 19 rfl) fl_RX6_30 e13 ?_
    refine J_iconst (v := 0) E (jd dk_X6_stay_0 20 rfl) rfl ?_
    obtain ⟨u16, e17, hf⟩ := jbind hf
    obtain ⟨r14, e15, hf⟩ := jbind hf
    refine J_callV E (jd dk_X6_stay_0 21 rfl) ml_RX6_201 cal_X5_pass e17 rfl (lk_X5_pass (jE_g E) (jE_tr E) N e15) rfl (Nat.le_of_ble_eq_true rfl) (jR_le hX (by decide) (by decide)) (jFx hX (by decide) (by decide)) rfl ?_
    rintro _ _ ⟨rfl, rfl⟩
    refine J_aload_n E (jd dk_X6_stay_0 22 rfl) rfl 0 rfl ?_
    obtain ⟨x18, e19, hf⟩ := jbind hf
    refine J_getr E (jd dk_X6_stay_0 23 rfl) fl_RX6_51 e19 ?_
    obtain ⟨x20, e21, hf⟩ := jbind hf
    refine J_getr E (jd dk_X6_stay_0 24 rfl) fl_RX6_179 e21 ?_
    refine J_iload_n E (jd dk_X6_stay_0 25 rfl) rfl 1 rfl ?_
    obtain ⟨x22, e23, hf⟩ := jbind hf
    refine J_iald E (jd dk_X6_stay_0 26 rfl) e23 ?_
    refine J_iload E (jd dk_X6_stay_0 27 rfl) 4 rfl ?_
    refine J_icmp_ne (tgt := 58) E (jd dk_X6_stay_0 28 rfl) (by decide) (fun c24 => ?_) (fun c24 => ?_)
    · replace hf := jif_f c24 hf
      refine J_iconst (v := 1) E (jd dk_X6_stay_0 33 rfl) rfl ?_
      refine J_sub [0, 1, 2, 5] rfl ?_
      exact lk_X6_stay_b59 E hX hr htab N hf kb ke0
    · replace hf := jif_t c24 hf
      refine J_iload_n E (jd dk_X6_stay_0 29 rfl) rfl 3 rfl ?_
      refine J_iconst (v := 1) E (jd dk_X6_stay_0 30 rfl) rfl ?_
      refine J_iadd E (jd dk_X6_stay_0 31 rfl) ?_
      refine J_goto (tgt := 59) E (jd dk_X6_stay_0 32 rfl) (by decide) ?_
      refine J_sub [0, 1, 2, 5] rfl ?_
      exact lk_X6_stay_b59 E hX hr htab N hf kb ke0
set_option maxRecDepth 100000 in
set_option maxHeartbeats 4000000 in
theorem lk_X6_stay_b19 {G : JG} {X : JX} (E : jE G X (RX6, cX6_stay, 6)) (hX : X.2.2.2.1 = jRm 5 1 6) (hr : X.2.2.2.2.2.2.2.2.1.sig.returnType = (some .int)) (htab : ∀ x ∈ X.2.2.2.2.2.2.2.2.2.exceptionTable.toList, False) (N : Nat) {v0 : Nat} {v1 : Int32} {v2 : Int32} {v3 : Int32} {v4 : Int32} {v5 : Int32} {h : AH}  {r : ((Nat ⊕ Int32) × AH)} (hf : f_X6_stay_b19 N v0 v1 v2 v3 v4 v5 h = some r) : JW G X (RX6, cX6_stay, 6) h [(0, .ref v0), (1, .int v1), (2, .int v2), (3, .int v3), (4, .int v4), (5, .int v5)] [] 19 1 6 (jEndX G X (jpXi r) (jpXx r) 1 6) := by
  unfold f_X6_stay_b19 at hf
  obtain ⟨q1, h1, hf⟩ := jbind hf
  refine jloop (P := fun s => JW G X (RX6, cX6_stay, 6) s.2.2.2.2 [(0, .ref v0), (1, .int v1), (2, .int s.1), (3, .int s.2.1), (4, .int s.2.2.1), (5, .int s.2.2.2.1)] [] 19 1 6 (jEndX G X (jpXi r) (jpXx r) 1 6)) (Ex := fun (e : Int32 × AH) => JW G X (RX6, cX6_stay, 6) e.2 [(2, .int e.1)] [] 89 1 6 (jEndX G X (jpXi r) (jpXx r) 1 6)) (fun s q hs hb hx => lk_X6_stay_l19 E hX hr htab N hs (fun s' hs => hb s' hs) (fun e he => hx e he)) N _ q1 h1 ?_
  generalize q1 = e at hf ⊢
  refine J_iload_n E (jd dk_X6_stay_1 0 rfl) rfl 0 rfl ?_
  cases hf
  exact J_x (J_iret E hr rfl (jd dk_X6_stay_1 1 rfl) (by decide) (by decide) ⟨_, rfl, rfl, rfl⟩)
set_option maxRecDepth 100000 in
set_option maxHeartbeats 4000000 in
theorem lk_X6_stay {G : JG} {l : Launch} (hG : jG G) (htr : l.stackTraces = false) (N : Nat) {h : AH} {a0 : Nat} {a1 : Int32} {r : ((Nat ⊕ Int32) × AH)} (hf : f_X6_stay N h a0 a1 = some r) : jMetX G l yX6_stay cX6_stay 6 (some .int) 5 1 6 [.ref a0, .int a1] h (jpXi r) (jpXx r) := by
  unfold f_X6_stay at hf
  refine jMetX_of hG htr (by decide) (Nat.le_of_ble_eq_true rfl) ?_
  intro X E hl9 hr hX htab
  show JW G X (RX6, cX6_stay, 6) h [(0, .ref a0), (1, .int a1)] [] 0 0 0 (jEndX G X (jpXi r) (jpXx r) 1 6)
  refine J_aload_n E (jd dk_X6_stay_0 0 rfl) rfl 0 rfl ?_
  refine J_iload_n E (jd dk_X6_stay_0 1 rfl) rfl 1 rfl ?_
  obtain ⟨u27, e28, hf⟩ := jbind hf
  obtain ⟨r25, e26, hf⟩ := jbind hf
  obtain ⟨r25a, r25b⟩ := r25
  refine J_callVX E (jd dk_X6_stay_0 2 rfl) ml_RX6_176 cal_X6_needJudge e28 rfl (lk_X6_needJudge (jE_g E) (jE_tr E) N e26) rfl (Nat.le_of_ble_eq_true rfl) (jR_le hX (by decide) (by decide)) (jFx hX (by decide) (by decide)) rfl ?_ ?_
  rotate_left
  · rintro _ _ ⟨k9, rfl, rfl, rfl⟩
    replace hf := Option.some.inj hf
    subst hf
    exact J_out E htab (by decide) (by decide) ⟨_, rfl, rfl, rfl⟩
  rintro _ _ ⟨rfl, rfl, rfl⟩
  replace hf : _ = some _ := hf
  refine J_aload_n E (jd dk_X6_stay_0 3 rfl) rfl 0 rfl ?_
  obtain ⟨u32, e33, hf⟩ := jbind hf
  obtain ⟨r30, e31, hf⟩ := jbind hf
  refine J_callV E (jd dk_X6_stay_0 4 rfl) ml_RX6_223 cal_X6_tryFromNow e33 rfl (lk_X6_tryFromNow (jE_g E) (jE_tr E) N e31) rfl (Nat.le_of_ble_eq_true rfl) (jR_le hX (by decide) (by decide)) (jFx hX (by decide) (by decide)) rfl ?_
  rintro _ _ ⟨rfl, rfl⟩
  refine J_iconst (v := 0) E (jd dk_X6_stay_0 5 rfl) rfl ?_
  refine J_istore_n (lv' := [(2, .int 0), (0, .ref a0), (1, .int a1)]) E (jd dk_X6_stay_0 6 rfl) rfl (by decide) rfl ?_
  refine J_iconst (v := 0) E (jd dk_X6_stay_0 7 rfl) rfl ?_
  refine J_istore_n (lv' := [(3, .int 0), (2, .int 0), (0, .ref a0), (1, .int a1)]) E (jd dk_X6_stay_0 8 rfl) rfl (by decide) rfl ?_
  refine J_iconst (v := (-1)) E (jd dk_X6_stay_0 9 rfl) rfl ?_
  refine J_istore (lv' := [(4, .int ((-1))), (3, .int 0), (2, .int 0), (0, .ref a0), (1, .int a1)]) E (jd dk_X6_stay_0 10 rfl) (by decide) rfl ?_
  refine J_iconst (v := 1) E (jd dk_X6_stay_0 11 rfl) rfl ?_
  refine J_istore (lv' := [(5, .int 1), (4, .int ((-1))), (3, .int 0), (2, .int 0), (0, .ref a0), (1, .int a1)]) E (jd dk_X6_stay_0 12 rfl) (by decide) rfl ?_
  refine J_sub [4, 5, 3, 2, 1, 0] rfl ?_
  exact lk_X6_stay_b19 E hX hr htab N hf
def f_X6_isSooner_b19 (N : Nat)  (h : AH) : Option (Int32 × AH) :=
  some (0, h)
def f_X6_isSooner_b15 (N : Nat)  (h : AH) : Option (Int32 × AH) :=
  some (1, h)
def f_X6_isSooner (N : Nat) (h : AH) (a0 : Int32) (a1 : Int32) : Option (Int32 × AH) :=
  if a0 = ((-1)) then f_X6_isSooner_b19 N  h
  else if a1 = ((-1)) then f_X6_isSooner_b15 N  h
  else if a1 ≤ a0 then f_X6_isSooner_b19 N  h
  else f_X6_isSooner_b15 N  h
set_option maxRecDepth 100000 in
set_option maxHeartbeats 4000000 in
theorem lk_X6_isSooner_b19 {G : JG} {X : JX} (E : jE G X (RX6, cX6_isSooner, 2)) (hX : X.2.2.2.1 = jRm 0 0 0) (hr : X.2.2.2.2.2.2.2.2.1.sig.returnType = (some .boolean)) (N : Nat)  {h : AH}  {r : (Int32 × AH)} (hf : f_X6_isSooner_b19 N  h = some r) : JW G X (RX6, cX6_isSooner, 2) h [] [] 19 0 0 (jEnd G X (jpi r) 0 0) := by
  unfold f_X6_isSooner_b19 at hf
  refine J_iconst (v := 0) E (jd dk_X6_isSooner_0 11 rfl) rfl ?_
  cases hf
  exact J_iret E hr rfl (jd dk_X6_isSooner_0 12 rfl) (Nat.le_refl _) (Nat.le_refl _) ⟨rfl, rfl⟩
set_option maxRecDepth 100000 in
set_option maxHeartbeats 4000000 in
theorem lk_X6_isSooner_b15 {G : JG} {X : JX} (E : jE G X (RX6, cX6_isSooner, 2)) (hX : X.2.2.2.1 = jRm 0 0 0) (hr : X.2.2.2.2.2.2.2.2.1.sig.returnType = (some .boolean)) (N : Nat)  {h : AH}  {r : (Int32 × AH)} (hf : f_X6_isSooner_b15 N  h = some r) : JW G X (RX6, cX6_isSooner, 2) h [] [] 15 0 0 (jEnd G X (jpi r) 0 0) := by
  unfold f_X6_isSooner_b15 at hf
  refine J_iconst (v := 1) E (jd dk_X6_isSooner_0 9 rfl) rfl ?_
  refine J_goto (tgt := 20) E (jd dk_X6_isSooner_0 10 rfl) (by decide) ?_
  cases hf
  exact J_iret E hr rfl (jd dk_X6_isSooner_0 12 rfl) (Nat.le_refl _) (Nat.le_refl _) ⟨rfl, rfl⟩
set_option maxRecDepth 100000 in
set_option maxHeartbeats 4000000 in
theorem lk_X6_isSooner {G : JG} {l : Launch} (hG : jG G) (htr : l.stackTraces = false) (N : Nat) {h : AH} {a0 : Int32} {a1 : Int32} {r : (Int32 × AH)} (hf : f_X6_isSooner N h a0 a1 = some r) : jMet G l yX6_isSooner cX6_isSooner 2 (some .boolean) 0 0 0 [.int a0, .int a1] h (jpi r) := by
  unfold f_X6_isSooner at hf
  refine jMet_of hG htr (by decide) (Nat.le_of_ble_eq_true rfl) ?_
  intro X E hl9 hr hX _ _
  show JW G X (RX6, cX6_isSooner, 2) h [(0, .int a0), (1, .int a1)] [] 0 0 0 (jEnd G X (jpi r) 0 0)
  refine J_iload_n E (jd dk_X6_isSooner_0 0 rfl) rfl 0 rfl ?_
  refine J_iconst (v := (-1)) E (jd dk_X6_isSooner_0 1 rfl) rfl ?_
  refine J_icmp_eq (tgt := 19) E (jd dk_X6_isSooner_0 2 rfl) (by decide) (fun c1 => ?_) (fun c1 => ?_)
  · replace hf := jif_t c1 hf
    refine J_sub [] rfl ?_
    exact lk_X6_isSooner_b19 E hX hr N hf
  · replace hf := jif_f c1 hf
    refine J_iload_n E (jd dk_X6_isSooner_0 3 rfl) rfl 1 rfl ?_
    refine J_iconst (v := (-1)) E (jd dk_X6_isSooner_0 4 rfl) rfl ?_
    refine J_icmp_eq (tgt := 15) E (jd dk_X6_isSooner_0 5 rfl) (by decide) (fun c2 => ?_) (fun c2 => ?_)
    · replace hf := jif_t c2 hf
      refine J_sub [] rfl ?_
      exact lk_X6_isSooner_b15 E hX hr N hf
    · replace hf := jif_f c2 hf
      refine J_iload_n E (jd dk_X6_isSooner_0 6 rfl) rfl 0 rfl ?_
      refine J_iload_n E (jd dk_X6_isSooner_0 7 rfl) rfl 1 rfl ?_
      refine J_icmp_ge (tgt := 19) E (jd dk_X6_isSooner_0 8 rfl) (by decide) (fun c3 => ?_) (fun c3 => ?_)
      · replace hf := jif_t c3 hf
        refine J_sub [] rfl ?_
        exact lk_X6_isSooner_b19 E hX hr N hf
      · replace hf := jif_f c3 hf
        refine J_sub [] rfl ?_
        exact lk_X6_isSooner_b15 E hX hr N hf
def f_X6_toSet_b69 (N : Nat) (v0 : Nat) (v1 : Int32) (v2 : Int32) (v3 : Int32) (v4 : Int32) (v5 : Int32) (h : AH) : Option ((Int32 × Int32 × Int32 × AH) ⊕ ((Int32 × Int32 × AH))) :=
  some (.inl ((v3, v4, v5 + 1, h)))
def f_X6_toSet_l18 (N : Nat) (v0 : Nat) (v1 : Int32) (v2 : Int32) (v3 : Int32) (v4 : Int32) (v5 : Int32) (h : AH) : Option ((Int32 × Int32 × Int32 × AH) ⊕ ((Int32 × Int32 × AH))) :=
  (jgr 6 h v0 4).bind fun x1 =>
  (jgi 1 h x1 0).bind fun x3 =>
  if x3 ≤ v5 then some (.inr ((v3, v4, h)))
  else (jck 6 h v0).bind fun _ =>
  (f_X6_tryFromNow N h v0).bind fun r6 =>
  (jgr 6 r6 v0 8).bind fun x10 =>
  (jgr 5 r6 x10 2).bind fun x12 =>
  (jas 0 r6 x12 v1 v5).bind fun h14 =>
  (jck 6 h14 v0).bind fun _ =>
  (f_X6_stepsTillFair N h14 v0 v1).bind fun r16 =>
  (f_X6_isSooner N r16.2 r16.1 v4).bind fun r20 =>
  if r20.1 = 0 then f_X6_toSet_b69 N v0 v1 v2 v3 v4 v5 r20.2
  else f_X6_toSet_b69 N v0 v1 v2 v5 r16.1 v5 r20.2
def f_X6_toSet_b18 (N : Nat) (v0 : Nat) (v1 : Int32) (v2 : Int32) (v3 : Int32) (v4 : Int32) (v5 : Int32) (h : AH) : Option ((Nat ⊕ Int32) × AH) :=
  (itr (fun s => f_X6_toSet_l18 N v0 v1 v2 s.1 s.2.1 s.2.2.1 s.2.2.2) N (v3, v4, v5, h)).bind (fun e => if v2 = 0 then some (.inr e.1, e.2.2)
  else some (.inr e.2.1, e.2.2))
def f_X6_toSet (N : Nat) (h : AH) (a0 : Nat) (a1 : Int32) (a2 : Int32) : Option ((Nat ⊕ Int32) × AH) :=
  (jck 6 h a0).bind fun _ =>
  (f_X6_needJudge N h a0 a1).bind fun r24 => Sum.elim (fun k => some (.inl k, r24.2)) (fun _ =>
  (f_X6_needWhat N r24.2 a2 1).bind fun r29 => Sum.elim (fun k => some (.inl k, r29.2)) (fun _ =>
  f_X6_toSet_b18 N a0 a1 a2 ((-1)) ((-1)) 0 r29.2) r29.1) r24.1
set_option maxRecDepth 100000 in
set_option maxHeartbeats 4000000 in
theorem lk_X6_toSet_b69 {G : JG} {X : JX} (E : jE G X (RX6, cX6_toSet, 7)) (hX : X.2.2.2.1 = jRm 6 2 12) (hr : X.2.2.2.2.2.2.2.2.1.sig.returnType = (some .int)) (htab : ∀ x ∈ X.2.2.2.2.2.2.2.2.2.exceptionTable.toList, False) (N : Nat) {Q : State → Prop} {v0 : Nat} {v1 : Int32} {v2 : Int32} {v3 : Int32} {v4 : Int32} {v5 : Int32} {h : AH}  {q : ((Int32 × Int32 × Int32 × AH) ⊕ ((Int32 × Int32 × AH)))} (hf : f_X6_toSet_b69 N v0 v1 v2 v3 v4 v5 h = some q) (kb : ∀ s' : Int32 × Int32 × Int32 × AH, q = .inl s' → JW G X (RX6, cX6_toSet, 7) s'.2.2.2 [(0, .ref v0), (1, .int v1), (2, .int v2), (3, .int s'.1), (4, .int s'.2.1), (5, .int s'.2.2.1)] [] 18 2 12 Q) (ke0 : ∀ e : Int32 × Int32 × AH, q = .inr e → JW G X (RX6, cX6_toSet, 7) e.2.2 [(2, .int v2), (3, .int e.1), (4, .int e.2.1)] [] 75 2 12 Q) : JW G X (RX6, cX6_toSet, 7) h [(0, .ref v0), (1, .int v1), (2, .int v2), (3, .int v3), (4, .int v4), (5, .int v5)] [] 69 2 12 Q := by
  unfold f_X6_toSet_b69 at hf
  refine J_iinc (v := v5 + 1) (lv' := [(5, .int (v5 + 1)), (0, .ref v0), (1, .int v1), (2, .int v2), (3, .int v3), (4, .int v4)]) E (jd dk_X6_toSet_0 37 rfl) 5 rfl rfl (by decide) rfl ?_
  refine J_goto (tgt := 18) E (jd dk_X6_toSet_0 38 rfl) (by decide) ?_
  refine J_sub [1, 2, 3, 4, 5, 0] rfl ?_
  exact kb _ (Option.some.inj hf).symm
set_option maxRecDepth 100000 in
set_option maxHeartbeats 4000000 in
theorem lk_X6_toSet_l18 {G : JG} {X : JX} (E : jE G X (RX6, cX6_toSet, 7)) (hX : X.2.2.2.1 = jRm 6 2 12) (hr : X.2.2.2.2.2.2.2.2.1.sig.returnType = (some .int)) (htab : ∀ x ∈ X.2.2.2.2.2.2.2.2.2.exceptionTable.toList, False) (N : Nat) {Q : State → Prop} {v0 : Nat} {v1 : Int32} {v2 : Int32} {v3 : Int32} {v4 : Int32} {v5 : Int32}  {h : AH} {q : ((Int32 × Int32 × Int32 × AH) ⊕ ((Int32 × Int32 × AH)))} (hf : f_X6_toSet_l18 N v0 v1 v2 v3 v4 v5 h = some q) (kb : ∀ s' : Int32 × Int32 × Int32 × AH, q = .inl s' → JW G X (RX6, cX6_toSet, 7) s'.2.2.2 [(0, .ref v0), (1, .int v1), (2, .int v2), (3, .int s'.1), (4, .int s'.2.1), (5, .int s'.2.2.1)] [] 18 2 12 Q) (ke0 : ∀ e : Int32 × Int32 × AH, q = .inr e → JW G X (RX6, cX6_toSet, 7) e.2.2 [(2, .int v2), (3, .int e.1), (4, .int e.2.1)] [] 75 2 12 Q) : JW G X (RX6, cX6_toSet, 7) h [(0, .ref v0), (1, .int v1), (2, .int v2), (3, .int v3), (4, .int v4), (5, .int v5)] [] 18 2 12 Q := by
  unfold f_X6_toSet_l18 at hf
  refine J_iload E (jd dk_X6_toSet_0 12 rfl) 5 rfl ?_
  refine J_aload_n E (jd dk_X6_toSet_0 13 rfl) rfl 0 rfl ?_
  obtain ⟨x1, e2, hf⟩ := jbind hf
  refine J_getr E (jd dk_X6_toSet_0 14 rfl) fl_RX6_30 e2 ?_
  obtain ⟨x3, e4, hf⟩ := jbind hf
  refine J_geti E (jd dk_X6_toSet_0 15 rfl) fl_RX6_104 e4 ?_
  refine J_icmp_ge (tgt := 75) E (jd dk_X6_toSet_0 16 rfl) (by decide) (fun c5 => ?_) (fun c5 => ?_)
  · replace hf := jif_t c5 hf
    refine J_sub [2, 3, 4] rfl ?_
    exact ke0 _ (Option.some.inj hf).symm
  · replace hf := jif_f c5 hf
    refine J_aload_n E (jd dk_X6_toSet_0 17 rfl) rfl 0 rfl ?_
    obtain ⟨u8, e9, hf⟩ := jbind hf
    obtain ⟨r6, e7, hf⟩ := jbind hf
    refine J_callV E (jd dk_X6_toSet_0 18 rfl) ml_RX6_223 cal_X6_tryFromNow e9 rfl (lk_X6_tryFromNow (jE_g E) (jE_tr E) N e7) rfl (Nat.le_of_ble_eq_true rfl) (jR_le hX (by decide) (by decide)) (jFx hX (by decide) (by decide)) rfl ?_
    rintro _ _ ⟨rfl, rfl⟩
    refine J_aload_n E (jd dk_X6_toSet_0 19 rfl) rfl 0 rfl ?_
    obtain ⟨x10, e11, hf⟩ := jbind hf
    refine J_getr E (jd dk_X6_toSet_0 20 rfl) fl_RX6_51 e11 ?_
    obtain ⟨x12, e13, hf⟩ := jbind hf
    refine J_getr E (jd dk_X6_toSet_0 21 rfl) fl_RX6_182 e13 ?_
    refine J_iload_n E (jd dk_X6_toSet_0 22 rfl) rfl 1 rfl ?_
    refine J_iload E (jd dk_X6_toSet_0 23 rfl) 5 rfl ?_
    obtain ⟨h14, e15, hf⟩ := jbind hf
    refine J_iast E (jd dk_X6_toSet_0 24 rfl) e15 ?_
    refine J_aload_n E (jd dk_X6_toSet_0 25 rfl) rfl 0 rfl ?_
    refine J_iload_n E (jd dk_X6_toSet_0 26 rfl) rfl 1 rfl ?_
    obtain ⟨u18, e19, hf⟩ := jbind hf
    obtain ⟨r16, e17, hf⟩ := jbind hf
    refine J_callV E (jd dk_X6_toSet_0 27 rfl) ml_RX6_226 cal_X6_stepsTillFair e19 rfl (lk_X6_stepsTillFair (jE_g E) (jE_tr E) N e17) rfl (Nat.le_of_ble_eq_true rfl) (jR_le hX (by decide) (by decide)) (jFx hX (by decide) (by decide)) rfl ?_
    rintro _ _ ⟨rfl, rfl⟩
    refine J_istore (lv' := [(6, .int r16.1), (0, .ref v0), (1, .int v1), (2, .int v2), (3, .int v3), (4, .int v4), (5, .int v5)]) E (jd dk_X6_toSet_0 28 rfl) (by decide) rfl ?_
    refine J_iload E (jd dk_X6_toSet_0 29 rfl) 0 rfl ?_
    refine J_iload E (jd dk_X6_toSet_0 30 rfl) 5 rfl ?_
    obtain ⟨r20, e21, hf⟩ := jbind hf
    refine J_callS E (jd dk_X6_toSet_0 31 rfl) ml_RX6_252 cal_X6_isSooner (lk_X6_isSooner (jE_g E) (jE_tr E) N e21) rfl (Nat.le_of_ble_eq_true rfl) (jR_le hX (by decide) (by decide)) (jFx hX (by decide) (by decide)) rfl ?_
    rintro _ _ ⟨rfl, rfl⟩
    refine J_if_eq (tgt := 69) E (jd dk_X6_toSet_0 32 rfl) (by decide) (fun c22 => ?_) (fun c22 => ?_)
    · replace hf := jif_t c22 hf
      refine J_sub [1, 2, 3, 4, 5, 6] rfl ?_
      exact lk_X6_toSet_b69 E hX hr htab N hf kb ke0
    · replace hf := jif_f c22 hf
      refine J_iload E (jd dk_X6_toSet_0 33 rfl) 0 rfl ?_
      refine J_istore (lv' := [(4, .int r16.1), (6, .int r16.1), (0, .ref v0), (1, .int v1), (2, .int v2), (3, .int v3), (5, .int v5)]) E (jd dk_X6_toSet_0 34 rfl) (by decide) rfl ?_
      refine J_iload E (jd dk_X6_toSet_0 35 rfl) 6 rfl ?_
      refine J_istore_n (lv' := [(3, .int v5), (4, .int r16.1), (6, .int r16.1), (0, .ref v0), (1, .int v1), (2, .int v2), (5, .int v5)]) E (jd dk_X6_toSet_0 36 rfl) rfl (by decide) rfl ?_
      refine J_sub [3, 4, 5, 0, 1, 6] rfl ?_
      exact lk_X6_toSet_b69 E hX hr htab N hf kb ke0
set_option maxRecDepth 100000 in
set_option maxHeartbeats 4000000 in
theorem lk_X6_toSet_b18 {G : JG} {X : JX} (E : jE G X (RX6, cX6_toSet, 7)) (hX : X.2.2.2.1 = jRm 6 2 12) (hr : X.2.2.2.2.2.2.2.2.1.sig.returnType = (some .int)) (htab : ∀ x ∈ X.2.2.2.2.2.2.2.2.2.exceptionTable.toList, False) (N : Nat) {v0 : Nat} {v1 : Int32} {v2 : Int32} {v3 : Int32} {v4 : Int32} {v5 : Int32} {h : AH}  {r : ((Nat ⊕ Int32) × AH)} (hf : f_X6_toSet_b18 N v0 v1 v2 v3 v4 v5 h = some r) : JW G X (RX6, cX6_toSet, 7) h [(0, .ref v0), (1, .int v1), (2, .int v2), (3, .int v3), (4, .int v4), (5, .int v5)] [] 18 2 12 (jEndX G X (jpXi r) (jpXx r) 2 12) := by
  unfold f_X6_toSet_b18 at hf
  obtain ⟨q1, h1, hf⟩ := jbind hf
  refine jloop (P := fun s => JW G X (RX6, cX6_toSet, 7) s.2.2.2 [(0, .ref v0), (1, .int v1), (2, .int v2), (3, .int s.1), (4, .int s.2.1), (5, .int s.2.2.1)] [] 18 2 12 (jEndX G X (jpXi r) (jpXx r) 2 12)) (Ex := fun (e : Int32 × Int32 × AH) => JW G X (RX6, cX6_toSet, 7) e.2.2 [(2, .int v2), (3, .int e.1), (4, .int e.2.1)] [] 75 2 12 (jEndX G X (jpXi r) (jpXx r) 2 12)) (fun s q hs hb hx => lk_X6_toSet_l18 E hX hr htab N hs (fun s' hs => hb s' hs) (fun e he => hx e he)) N _ q1 h1 ?_
  generalize q1 = e at hf ⊢
  refine J_iload_n E (jd dk_X6_toSet_0 39 rfl) rfl 0 rfl ?_
  refine J_if_ne (tgt := 83) E (jd dk_X6_toSet_0 40 rfl) (by decide) (fun c23 => ?_) (fun c23 => ?_)
  · replace hf := jif_f c23 hf
    refine J_iload E (jd dk_X6_toSet_0 43 rfl) 2 rfl ?_
    cases hf
    exact J_x (J_iret E hr rfl (jd dk_X6_toSet_0 44 rfl) (by decide) (by decide) ⟨_, rfl, rfl, rfl⟩)
  · replace hf := jif_t c23 hf
    refine J_iload_n E (jd dk_X6_toSet_0 41 rfl) rfl 1 rfl ?_
    refine J_goto (tgt := 85) E (jd dk_X6_toSet_0 42 rfl) (by decide) ?_
    cases hf
    exact J_x (J_iret E hr rfl (jd dk_X6_toSet_0 44 rfl) (by decide) (by decide) ⟨_, rfl, rfl, rfl⟩)
set_option maxRecDepth 100000 in
set_option maxHeartbeats 4000000 in
theorem lk_X6_toSet {G : JG} {l : Launch} (hG : jG G) (htr : l.stackTraces = false) (N : Nat) {h : AH} {a0 : Nat} {a1 : Int32} {a2 : Int32} {r : ((Nat ⊕ Int32) × AH)} (hf : f_X6_toSet N h a0 a1 a2 = some r) : jMetX G l yX6_toSet cX6_toSet 7 (some .int) 6 2 12 [.ref a0, .int a1, .int a2] h (jpXi r) (jpXx r) := by
  unfold f_X6_toSet at hf
  refine jMetX_of hG htr (by decide) (Nat.le_of_ble_eq_true rfl) ?_
  intro X E hl9 hr hX htab
  show JW G X (RX6, cX6_toSet, 7) h [(0, .ref a0), (1, .int a1), (2, .int a2)] [] 0 0 0 (jEndX G X (jpXi r) (jpXx r) 2 12)
  refine J_aload_n E (jd dk_X6_toSet_0 0 rfl) rfl 0 rfl ?_
  refine J_iload_n E (jd dk_X6_toSet_0 1 rfl) rfl 1 rfl ?_
  obtain ⟨u26, e27, hf⟩ := jbind hf
  obtain ⟨r24, e25, hf⟩ := jbind hf
  obtain ⟨r24a, r24b⟩ := r24
  refine J_callVX E (jd dk_X6_toSet_0 2 rfl) ml_RX6_176 cal_X6_needJudge e27 rfl (lk_X6_needJudge (jE_g E) (jE_tr E) N e25) rfl (Nat.le_of_ble_eq_true rfl) (jR_le hX (by decide) (by decide)) (jFx hX (by decide) (by decide)) rfl ?_ ?_
  rotate_left
  · rintro _ _ ⟨k9, rfl, rfl, rfl⟩
    replace hf := Option.some.inj hf
    subst hf
    exact J_out E htab (by decide) (by decide) ⟨_, rfl, rfl, rfl⟩
  rintro _ _ ⟨rfl, rfl, rfl⟩
  replace hf : _ = some _ := hf
  refine J_iload_n E (jd dk_X6_toSet_0 3 rfl) rfl 2 rfl ?_
  refine J_iconst (v := 1) E (jd dk_X6_toSet_0 4 rfl) rfl ?_
  obtain ⟨r29, e30, hf⟩ := jbind hf
  obtain ⟨r29a, r29b⟩ := r29
  refine J_callSX E (jd dk_X6_toSet_0 5 rfl) ml_RX6_162 cal_X6_needWhat (lk_X6_needWhat (jE_g E) (jE_tr E) N e30) rfl (Nat.le_of_ble_eq_true rfl) (jR_le hX (by decide) (by decide)) (jFx hX (by decide) (by decide)) rfl ?_ ?_
  rotate_left
  · rintro _ _ ⟨k9, rfl, rfl, rfl⟩
    replace hf := Option.some.inj hf
    subst hf
    exact J_out E htab (by decide) (by decide) ⟨_, rfl, rfl, rfl⟩
  rintro _ _ ⟨rfl, rfl, rfl⟩
  replace hf : _ = some _ := hf
  refine J_iconst (v := (-1)) E (jd dk_X6_toSet_0 6 rfl) rfl ?_
  refine J_istore_n (lv' := [(3, .int ((-1))), (0, .ref a0), (1, .int a1), (2, .int a2)]) E (jd dk_X6_toSet_0 7 rfl) rfl (by decide) rfl ?_
  refine J_iconst (v := (-1)) E (jd dk_X6_toSet_0 8 rfl) rfl ?_
  refine J_istore (lv' := [(4, .int ((-1))), (3, .int ((-1))), (0, .ref a0), (1, .int a1), (2, .int a2)]) E (jd dk_X6_toSet_0 9 rfl) (by decide) rfl ?_
  refine J_iconst (v := 0) E (jd dk_X6_toSet_0 10 rfl) rfl ?_
  refine J_istore (lv' := [(5, .int 0), (4, .int ((-1))), (3, .int ((-1))), (0, .ref a0), (1, .int a1), (2, .int a2)]) E (jd dk_X6_toSet_0 11 rfl) (by decide) rfl ?_
  refine J_sub [3, 4, 5, 2, 1, 0] rfl ?_
  exact lk_X6_toSet_b18 E hX hr htab N hf
def f_X6_toSpin_b84 (N : Nat) (v0 : Nat) (v1 : Int32) (v2 : Int32) (v3 : Int32) (v4 : Int32) (v5 : Int32) (v6 : Int32) (h : AH) : Option ((Int32 × Int32 × Int32 × AH) ⊕ ((Int32 × Int32 × AH))) :=
  some (.inl ((v4, v5, v6 + 1, h)))
def f_X6_toSpin_l26 (N : Nat) (v0 : Nat) (v1 : Int32) (v2 : Int32) (v3 : Int32) (v4 : Int32) (v5 : Int32) (v6 : Int32) (h : AH) : Option ((Int32 × Int32 × Int32 × AH) ⊕ ((Int32 × Int32 × AH))) :=
  if 7 < v6 then some (.inr ((v4, v5, h)))
  else (jck 6 h v0).bind fun _ =>
  (f_X6_tryFromNow N h v0).bind fun r2 =>
  (jgr 6 r2 v0 8).bind fun x6 =>
  (jgr 5 r2 x6 7).bind fun x8 =>
  (jas 0 r2 x8 v1 v6).bind fun h10 =>
  (jck 6 h10 v0).bind fun _ =>
  (f_X6_goOnTrying N h10 v0 v2).bind fun r12 =>
  (jgr 6 r12 v0 8).bind fun x16 =>
  (jgr 6 r12 v0 4).bind fun x18 =>
  (jck 5 r12 x16).bind fun _ =>
  (f_X5_fairOnes N r12 x16 x18).bind fun r20 =>
  (f_J6_bitCount_0f7a4 N r20.2 r20.1).bind fun r24 =>
  if r24.1 ≤ v5 then f_X6_toSpin_b84 N v0 v1 v2 v3 v4 v5 v6 r24.2
  else f_X6_toSpin_b84 N v0 v1 v2 v3 v6 r24.1 v6 r24.2
def f_X6_toSpin_b26 (N : Nat) (v0 : Nat) (v1 : Int32) (v2 : Int32) (v3 : Int32) (v4 : Int32) (v5 : Int32) (v6 : Int32) (h : AH) : Option ((Nat ⊕ Int32) × AH) :=
  (itr (fun s => f_X6_toSpin_l26 N v0 v1 v2 v3 s.1 s.2.1 s.2.2.1 s.2.2.2) N (v4, v5, v6, h)).bind (fun e => if v3 = 0 then some (.inr e.1, e.2.2)
  else some (.inr e.2.1, e.2.2))
def f_X6_toSpin (N : Nat) (h : AH) (a0 : Nat) (a1 : Int32) (a2 : Int32) (a3 : Int32) : Option ((Nat ⊕ Int32) × AH) :=
  (jck 6 h a0).bind fun _ =>
  (f_X6_needReach N h a0 a1).bind fun r28 => Sum.elim (fun k => some (.inl k, r28.2)) (fun _ =>
  (f_X6_needWhat N r28.2 a3 1).bind fun r33 => Sum.elim (fun k => some (.inl k, r33.2)) (fun _ =>
  (f_X6_needSteps N r33.2 a2 1 60).bind fun r36 => Sum.elim (fun k => some (.inl k, r36.2)) (fun _ =>
  f_X6_toSpin_b26 N a0 a1 a2 a3 0 ((-1)) 0 r36.2) r36.1) r33.1) r28.1
set_option maxRecDepth 100000 in
set_option maxHeartbeats 4000000 in
theorem lk_X6_toSpin_b84 {G : JG} {X : JX} (E : jE G X (RX6, cX6_toSpin, 8)) (hX : X.2.2.2.1 = jRm 6 3 18) (hr : X.2.2.2.2.2.2.2.2.1.sig.returnType = (some .int)) (htab : ∀ x ∈ X.2.2.2.2.2.2.2.2.2.exceptionTable.toList, False) (N : Nat) {Q : State → Prop} {v0 : Nat} {v1 : Int32} {v2 : Int32} {v3 : Int32} {v4 : Int32} {v5 : Int32} {v6 : Int32} {h : AH}  {q : ((Int32 × Int32 × Int32 × AH) ⊕ ((Int32 × Int32 × AH)))} (hf : f_X6_toSpin_b84 N v0 v1 v2 v3 v4 v5 v6 h = some q) (kb : ∀ s' : Int32 × Int32 × Int32 × AH, q = .inl s' → JW G X (RX6, cX6_toSpin, 8) s'.2.2.2 [(0, .ref v0), (1, .int v1), (2, .int v2), (3, .int v3), (4, .int s'.1), (5, .int s'.2.1), (6, .int s'.2.2.1)] [] 26 3 18 Q) (ke0 : ∀ e : Int32 × Int32 × AH, q = .inr e → JW G X (RX6, cX6_toSpin, 8) e.2.2 [(3, .int v3), (4, .int e.1), (5, .int e.2.1)] [] 90 3 18 Q) : JW G X (RX6, cX6_toSpin, 8) h [(0, .ref v0), (1, .int v1), (2, .int v2), (3, .int v3), (4, .int v4), (5, .int v5), (6, .int v6)] [] 84 3 18 Q := by
  unfold f_X6_toSpin_b84 at hf
  refine J_iinc (v := v6 + 1) (lv' := [(6, .int (v6 + 1)), (0, .ref v0), (1, .int v1), (2, .int v2), (3, .int v3), (4, .int v4), (5, .int v5)]) E (jd dk_X6_toSpin_0 44 rfl) 6 rfl rfl (by decide) rfl ?_
  refine J_goto (tgt := 26) E (jd dk_X6_toSpin_0 45 rfl) (by decide) ?_
  refine J_sub [1, 2, 3, 4, 5, 6, 0] rfl ?_
  exact kb _ (Option.some.inj hf).symm
set_option maxRecDepth 100000 in
set_option maxHeartbeats 4000000 in
theorem lk_X6_toSpin_l26 {G : JG} {X : JX} (E : jE G X (RX6, cX6_toSpin, 8)) (hX : X.2.2.2.1 = jRm 6 3 18) (hr : X.2.2.2.2.2.2.2.2.1.sig.returnType = (some .int)) (htab : ∀ x ∈ X.2.2.2.2.2.2.2.2.2.exceptionTable.toList, False) (N : Nat) {Q : State → Prop} {v0 : Nat} {v1 : Int32} {v2 : Int32} {v3 : Int32} {v4 : Int32} {v5 : Int32} {v6 : Int32}  {h : AH} {q : ((Int32 × Int32 × Int32 × AH) ⊕ ((Int32 × Int32 × AH)))} (hf : f_X6_toSpin_l26 N v0 v1 v2 v3 v4 v5 v6 h = some q) (kb : ∀ s' : Int32 × Int32 × Int32 × AH, q = .inl s' → JW G X (RX6, cX6_toSpin, 8) s'.2.2.2 [(0, .ref v0), (1, .int v1), (2, .int v2), (3, .int v3), (4, .int s'.1), (5, .int s'.2.1), (6, .int s'.2.2.1)] [] 26 3 18 Q) (ke0 : ∀ e : Int32 × Int32 × AH, q = .inr e → JW G X (RX6, cX6_toSpin, 8) e.2.2 [(3, .int v3), (4, .int e.1), (5, .int e.2.1)] [] 90 3 18 Q) : JW G X (RX6, cX6_toSpin, 8) h [(0, .ref v0), (1, .int v1), (2, .int v2), (3, .int v3), (4, .int v4), (5, .int v5), (6, .int v6)] [] 26 3 18 Q := by
  unfold f_X6_toSpin_l26 at hf
  refine J_iload E (jd dk_X6_toSpin_0 16 rfl) 6 rfl ?_
  refine J_bipush (v := 7) E (jd dk_X6_toSpin_0 17 rfl) (by decide) ?_
  refine J_icmp_gt (tgt := 90) E (jd dk_X6_toSpin_0 18 rfl) (by decide) (fun c1 => ?_) (fun c1 => ?_)
  · replace hf := jif_t c1 hf
    refine J_sub [3, 4, 5] rfl ?_
    exact ke0 _ (Option.some.inj hf).symm
  · replace hf := jif_f c1 hf
    refine J_aload_n E (jd dk_X6_toSpin_0 19 rfl) rfl 0 rfl ?_
    obtain ⟨u4, e5, hf⟩ := jbind hf
    obtain ⟨r2, e3, hf⟩ := jbind hf
    refine J_callV E (jd dk_X6_toSpin_0 20 rfl) ml_RX6_223 cal_X6_tryFromNow e5 rfl (lk_X6_tryFromNow (jE_g E) (jE_tr E) N e3) rfl (Nat.le_of_ble_eq_true rfl) (jR_le hX (by decide) (by decide)) (jFx hX (by decide) (by decide)) rfl ?_
    rintro _ _ ⟨rfl, rfl⟩
    refine J_aload_n E (jd dk_X6_toSpin_0 21 rfl) rfl 0 rfl ?_
    obtain ⟨x6, e7, hf⟩ := jbind hf
    refine J_getr E (jd dk_X6_toSpin_0 22 rfl) fl_RX6_51 e7 ?_
    obtain ⟨x8, e9, hf⟩ := jbind hf
    refine J_getr E (jd dk_X6_toSpin_0 23 rfl) fl_RX6_169 e9 ?_
    refine J_iload_n E (jd dk_X6_toSpin_0 24 rfl) rfl 1 rfl ?_
    refine J_iload E (jd dk_X6_toSpin_0 25 rfl) 6 rfl ?_
    obtain ⟨h10, e11, hf⟩ := jbind hf
    refine J_iast E (jd dk_X6_toSpin_0 26 rfl) e11 ?_
    refine J_aload_n E (jd dk_X6_toSpin_0 27 rfl) rfl 0 rfl ?_
    refine J_iload_n E (jd dk_X6_toSpin_0 28 rfl) rfl 2 rfl ?_
    obtain ⟨u14, e15, hf⟩ := jbind hf
    obtain ⟨r12, e13, hf⟩ := jbind hf
    refine J_callV E (jd dk_X6_toSpin_0 29 rfl) ml_RX6_256 cal_X6_goOnTrying e15 rfl (lk_X6_goOnTrying (jE_g E) (jE_tr E) N e13) rfl (Nat.le_of_ble_eq_true rfl) (jR_le hX (by decide) (by decide)) (jFx hX (by decide) (by decide)) rfl ?_
    rintro _ _ ⟨rfl, rfl⟩
    refine J_aload_n E (jd dk_X6_toSpin_0 30 rfl) rfl 0 rfl ?_
    obtain ⟨x16, e17, hf⟩ := jbind hf
    refine J_getr E (jd dk_X6_toSpin_0 31 rfl) fl_RX6_51 e17 ?_
    refine J_aload_n E (jd dk_X6_toSpin_0 32 rfl) rfl 0 rfl ?_
    obtain ⟨x18, e19, hf⟩ := jbind hf
    refine J_getr E (jd dk_X6_toSpin_0 33 rfl) fl_RX6_30 e19 ?_
    obtain ⟨u22, e23, hf⟩ := jbind hf
    obtain ⟨r20, e21, hf⟩ := jbind hf
    refine J_callV E (jd dk_X6_toSpin_0 34 rfl) ml_RX6_119 cal_X5_fairOnes e23 rfl (lk_X5_fairOnes (jE_g E) (jE_tr E) N e21) rfl (Nat.le_of_ble_eq_true rfl) (jR_le hX (by decide) (by decide)) (jFx hX (by decide) (by decide)) rfl ?_
    rintro _ _ ⟨rfl, rfl⟩
    obtain ⟨r24, e25, hf⟩ := jbind hf
    refine J_callS E (jd dk_X6_toSpin_0 35 rfl) ml_RX6_153 cal_J6_bitCount_0f7a4 (lk_J6_bitCount_0f7a4 (jE_g E) (jE_tr E) N e25) rfl (Nat.le_of_ble_eq_true rfl) (jR_le hX (by decide) (by decide)) (jFx hX (by decide) (by decide)) rfl ?_
    rintro _ _ ⟨rfl, rfl⟩
    refine J_istore (lv' := [(7, .int r24.1), (0, .ref v0), (1, .int v1), (2, .int v2), (3, .int v3), (4, .int v4), (5, .int v5), (6, .int v6)]) E (jd dk_X6_toSpin_0 36 rfl) (by decide) rfl ?_
    refine J_iload E (jd dk_X6_toSpin_0 37 rfl) 0 rfl ?_
    refine J_iload E (jd dk_X6_toSpin_0 38 rfl) 6 rfl ?_
    refine J_icmp_le (tgt := 84) E (jd dk_X6_toSpin_0 39 rfl) (by decide) (fun c26 => ?_) (fun c26 => ?_)
    · replace hf := jif_t c26 hf
      refine J_sub [1, 2, 3, 4, 5, 6, 7] rfl ?_
      exact lk_X6_toSpin_b84 E hX hr htab N hf kb ke0
    · replace hf := jif_f c26 hf
      refine J_iload E (jd dk_X6_toSpin_0 40 rfl) 0 rfl ?_
      refine J_istore (lv' := [(5, .int r24.1), (7, .int r24.1), (0, .ref v0), (1, .int v1), (2, .int v2), (3, .int v3), (4, .int v4), (6, .int v6)]) E (jd dk_X6_toSpin_0 41 rfl) (by decide) rfl ?_
      refine J_iload E (jd dk_X6_toSpin_0 42 rfl) 7 rfl ?_
      refine J_istore (lv' := [(4, .int v6), (5, .int r24.1), (7, .int r24.1), (0, .ref v0), (1, .int v1), (2, .int v2), (3, .int v3), (6, .int v6)]) E (jd dk_X6_toSpin_0 43 rfl) (by decide) rfl ?_
      refine J_sub [3, 4, 5, 6, 0, 1, 7] rfl ?_
      exact lk_X6_toSpin_b84 E hX hr htab N hf kb ke0
set_option maxRecDepth 100000 in
set_option maxHeartbeats 4000000 in
theorem lk_X6_toSpin_b26 {G : JG} {X : JX} (E : jE G X (RX6, cX6_toSpin, 8)) (hX : X.2.2.2.1 = jRm 6 3 18) (hr : X.2.2.2.2.2.2.2.2.1.sig.returnType = (some .int)) (htab : ∀ x ∈ X.2.2.2.2.2.2.2.2.2.exceptionTable.toList, False) (N : Nat) {v0 : Nat} {v1 : Int32} {v2 : Int32} {v3 : Int32} {v4 : Int32} {v5 : Int32} {v6 : Int32} {h : AH}  {r : ((Nat ⊕ Int32) × AH)} (hf : f_X6_toSpin_b26 N v0 v1 v2 v3 v4 v5 v6 h = some r) : JW G X (RX6, cX6_toSpin, 8) h [(0, .ref v0), (1, .int v1), (2, .int v2), (3, .int v3), (4, .int v4), (5, .int v5), (6, .int v6)] [] 26 3 18 (jEndX G X (jpXi r) (jpXx r) 3 18) := by
  unfold f_X6_toSpin_b26 at hf
  obtain ⟨q1, h1, hf⟩ := jbind hf
  refine jloop (P := fun s => JW G X (RX6, cX6_toSpin, 8) s.2.2.2 [(0, .ref v0), (1, .int v1), (2, .int v2), (3, .int v3), (4, .int s.1), (5, .int s.2.1), (6, .int s.2.2.1)] [] 26 3 18 (jEndX G X (jpXi r) (jpXx r) 3 18)) (Ex := fun (e : Int32 × Int32 × AH) => JW G X (RX6, cX6_toSpin, 8) e.2.2 [(3, .int v3), (4, .int e.1), (5, .int e.2.1)] [] 90 3 18 (jEndX G X (jpXi r) (jpXx r) 3 18)) (fun s q hs hb hx => lk_X6_toSpin_l26 E hX hr htab N hs (fun s' hs => hb s' hs) (fun e he => hx e he)) N _ q1 h1 ?_
  generalize q1 = e at hf ⊢
  refine J_iload_n E (jd dk_X6_toSpin_0 46 rfl) rfl 0 rfl ?_
  refine J_if_ne (tgt := 99) E (jd dk_X6_toSpin_0 47 rfl) (by decide) (fun c27 => ?_) (fun c27 => ?_)
  · replace hf := jif_f c27 hf
    refine J_iload E (jd dk_X6_toSpin_1 0 rfl) 2 rfl ?_
    cases hf
    exact J_x (J_iret E hr rfl (jd dk_X6_toSpin_1 1 rfl) (by decide) (by decide) ⟨_, rfl, rfl, rfl⟩)
  · replace hf := jif_t c27 hf
    refine J_iload E (jd dk_X6_toSpin_0 48 rfl) 1 rfl ?_
    refine J_goto (tgt := 101) E (jd dk_X6_toSpin_0 49 rfl) (by decide) ?_
    cases hf
    exact J_x (J_iret E hr rfl (jd dk_X6_toSpin_1 1 rfl) (by decide) (by decide) ⟨_, rfl, rfl, rfl⟩)
set_option maxRecDepth 100000 in
set_option maxHeartbeats 4000000 in
theorem lk_X6_toSpin {G : JG} {l : Launch} (hG : jG G) (htr : l.stackTraces = false) (N : Nat) {h : AH} {a0 : Nat} {a1 : Int32} {a2 : Int32} {a3 : Int32} {r : ((Nat ⊕ Int32) × AH)} (hf : f_X6_toSpin N h a0 a1 a2 a3 = some r) : jMetX G l yX6_toSpin cX6_toSpin 8 (some .int) 6 3 18 [.ref a0, .int a1, .int a2, .int a3] h (jpXi r) (jpXx r) := by
  unfold f_X6_toSpin at hf
  refine jMetX_of hG htr (by decide) (Nat.le_of_ble_eq_true rfl) ?_
  intro X E hl9 hr hX htab
  show JW G X (RX6, cX6_toSpin, 8) h [(0, .ref a0), (1, .int a1), (2, .int a2), (3, .int a3)] [] 0 0 0 (jEndX G X (jpXi r) (jpXx r) 3 18)
  refine J_aload_n E (jd dk_X6_toSpin_0 0 rfl) rfl 0 rfl ?_
  refine J_iload_n E (jd dk_X6_toSpin_0 1 rfl) rfl 1 rfl ?_
  obtain ⟨u30, e31, hf⟩ := jbind hf
  obtain ⟨r28, e29, hf⟩ := jbind hf
  obtain ⟨r28a, r28b⟩ := r28
  refine J_callVX E (jd dk_X6_toSpin_0 2 rfl) ml_RX6_159 cal_X6_needReach e31 rfl (lk_X6_needReach (jE_g E) (jE_tr E) N e29) rfl (Nat.le_of_ble_eq_true rfl) (jR_le hX (by decide) (by decide)) (jFx hX (by decide) (by decide)) rfl ?_ ?_
  rotate_left
  · rintro _ _ ⟨k9, rfl, rfl, rfl⟩
    replace hf := Option.some.inj hf
    subst hf
    exact J_out E htab (by decide) (by decide) ⟨_, rfl, rfl, rfl⟩
  rintro _ _ ⟨rfl, rfl, rfl⟩
  replace hf : _ = some _ := hf
  refine J_iload_n E (jd dk_X6_toSpin_0 3 rfl) rfl 3 rfl ?_
  refine J_iconst (v := 1) E (jd dk_X6_toSpin_0 4 rfl) rfl ?_
  obtain ⟨r33, e34, hf⟩ := jbind hf
  obtain ⟨r33a, r33b⟩ := r33
  refine J_callSX E (jd dk_X6_toSpin_0 5 rfl) ml_RX6_162 cal_X6_needWhat (lk_X6_needWhat (jE_g E) (jE_tr E) N e34) rfl (Nat.le_of_ble_eq_true rfl) (jR_le hX (by decide) (by decide)) (jFx hX (by decide) (by decide)) rfl ?_ ?_
  rotate_left
  · rintro _ _ ⟨k9, rfl, rfl, rfl⟩
    replace hf := Option.some.inj hf
    subst hf
    exact J_out E htab (by decide) (by decide) ⟨_, rfl, rfl, rfl⟩
  rintro _ _ ⟨rfl, rfl, rfl⟩
  replace hf : _ = some _ := hf
  refine J_iload_n E (jd dk_X6_toSpin_0 6 rfl) rfl 2 rfl ?_
  refine J_iconst (v := 1) E (jd dk_X6_toSpin_0 7 rfl) rfl ?_
  refine J_bipush (v := 60) E (jd dk_X6_toSpin_0 8 rfl) (by decide) ?_
  obtain ⟨r36, e37, hf⟩ := jbind hf
  obtain ⟨r36a, r36b⟩ := r36
  refine J_callSX E (jd dk_X6_toSpin_0 9 rfl) ml_RX6_216 cal_X6_needSteps (lk_X6_needSteps (jE_g E) (jE_tr E) N e37) rfl (Nat.le_of_ble_eq_true rfl) (jR_le hX (by decide) (by decide)) (jFx hX (by decide) (by decide)) rfl ?_ ?_
  rotate_left
  · rintro _ _ ⟨k9, rfl, rfl, rfl⟩
    replace hf := Option.some.inj hf
    subst hf
    exact J_out E htab (by decide) (by decide) ⟨_, rfl, rfl, rfl⟩
  rintro _ _ ⟨rfl, rfl, rfl⟩
  replace hf : _ = some _ := hf
  refine J_iconst (v := 0) E (jd dk_X6_toSpin_0 10 rfl) rfl ?_
  refine J_istore (lv' := [(4, .int 0), (0, .ref a0), (1, .int a1), (2, .int a2), (3, .int a3)]) E (jd dk_X6_toSpin_0 11 rfl) (by decide) rfl ?_
  refine J_iconst (v := (-1)) E (jd dk_X6_toSpin_0 12 rfl) rfl ?_
  refine J_istore (lv' := [(5, .int ((-1))), (4, .int 0), (0, .ref a0), (1, .int a1), (2, .int a2), (3, .int a3)]) E (jd dk_X6_toSpin_0 13 rfl) (by decide) rfl ?_
  refine J_iconst (v := 0) E (jd dk_X6_toSpin_0 14 rfl) rfl ?_
  refine J_istore (lv' := [(6, .int 0), (5, .int ((-1))), (4, .int 0), (0, .ref a0), (1, .int a1), (2, .int a2), (3, .int a3)]) E (jd dk_X6_toSpin_0 15 rfl) (by decide) rfl ?_
  refine J_sub [3, 4, 5, 6, 2, 1, 0] rfl ?_
  exact lk_X6_toSpin_b26 E hX hr htab N hf
def f_X6_toCall_b88 (N : Nat) (v0 : Nat) (v1 : Int32) (v2 : Int32) (v3 : Int32) (v4 : Int32) (h : AH) : Option ((Int32 × Int32 × Int32 × AH) ⊕ ((Int32 × AH))) :=
  some (.inl ((v2, v3, v4 + 1, h)))
def f_X6_toCall_l20 (N : Nat) (v0 : Nat) (v1 : Int32) (v2 : Int32) (v3 : Int32) (v4 : Int32) (h : AH) : Option ((Int32 × Int32 × Int32 × AH) ⊕ ((Int32 × AH))) :=
  (jgr 6 h v0 4).bind fun x1 =>
  (jgi 1 h x1 2).bind fun x3 =>
  if x3 ≤ v4 then some (.inr ((v3, h)))
  else (jgr 6 h v0 5).bind fun x6 =>
  (jgr 0 h x6 0).bind fun x8 =>
  (jgr 5 h x8 1).bind fun x10 =>
  (jal 0 h x10 v4).bind fun x12 =>
  if x12 < 0 then f_X6_toCall_b88 N v0 v1 v2 v3 v4 h
  else (jck 6 h v0).bind fun _ =>
  (f_X6_tryFromNow N h v0).bind fun r15 =>
  (jgr 6 r15 v0 8).bind fun x19 =>
  (jgr 6 r15 v0 4).bind fun x21 =>
  (jck 5 r15 x19).bind fun _ =>
  (f_X5_goOn N r15 x19 x21 v4 1).bind fun r23 =>
  (jck 6 r23 v0).bind fun _ =>
  (f_X6_stepsTillFair N r23 v0 v1).bind fun r27 =>
  (f_X6_isSooner N r27.2 r27.1 v2).bind fun r31 =>
  if r31.1 = 0 then f_X6_toCall_b88 N v0 v1 v2 v3 v4 r31.2
  else f_X6_toCall_b88 N v0 v1 r27.1 v4 v4 r31.2
def f_X6_toCall_b20 (N : Nat) (v0 : Nat) (v1 : Int32) (v2 : Int32) (v3 : Int32) (v4 : Int32) (h : AH) : Option ((Nat ⊕ Int32) × AH) :=
  (itr (fun s => f_X6_toCall_l20 N v0 v1 s.1 s.2.1 s.2.2.1 s.2.2.2) N (v2, v3, v4, h)).bind (fun e => some (.inr e.1, e.2))
def f_X6_toCall (N : Nat) (h : AH) (a0 : Nat) (a1 : Int32) : Option ((Nat ⊕ Int32) × AH) :=
  (jck 6 h a0).bind fun _ =>
  (f_X6_needJudge N h a0 a1).bind fun r34 => Sum.elim (fun k => some (.inl k, r34.2)) (fun _ =>
  (jck 6 r34.2 a0).bind fun _ =>
  (f_X6_tryFromNow N r34.2 a0).bind fun r39 =>
  (jck 6 r39 a0).bind fun _ =>
  (f_X6_stepsTillFair N r39 a0 a1).bind fun r43 =>
  f_X6_toCall_b20 N a0 a1 r43.1 ((-1)) 0 r43.2) r34.1
set_option maxRecDepth 100000 in
set_option maxHeartbeats 4000000 in
theorem lk_X6_toCall_b88 {G : JG} {X : JX} (E : jE G X (RX6, cX6_toCall, 6)) (hX : X.2.2.2.1 = jRm 6 1 6) (hr : X.2.2.2.2.2.2.2.2.1.sig.returnType = (some .int)) (htab : ∀ x ∈ X.2.2.2.2.2.2.2.2.2.exceptionTable.toList, False) (N : Nat) {Q : State → Prop} {v0 : Nat} {v1 : Int32} {v2 : Int32} {v3 : Int32} {v4 : Int32} {h : AH}  {q : ((Int32 × Int32 × Int32 × AH) ⊕ ((Int32 × AH)))} (hf : f_X6_toCall_b88 N v0 v1 v2 v3 v4 h = some q) (kb : ∀ s' : Int32 × Int32 × Int32 × AH, q = .inl s' → JW G X (RX6, cX6_toCall, 6) s'.2.2.2 [(0, .ref v0), (1, .int v1), (2, .int s'.1), (3, .int s'.2.1), (4, .int s'.2.2.1)] [] 20 1 6 Q) (ke0 : ∀ e : Int32 × AH, q = .inr e → JW G X (RX6, cX6_toCall, 6) e.2 [(3, .int e.1)] [] 94 1 6 Q) : JW G X (RX6, cX6_toCall, 6) h [(0, .ref v0), (1, .int v1), (2, .int v2), (3, .int v3), (4, .int v4)] [] 88 1 6 Q := by
  unfold f_X6_toCall_b88 at hf
  refine J_iinc (v := v4 + 1) (lv' := [(4, .int (v4 + 1)), (0, .ref v0), (1, .int v1), (2, .int v2), (3, .int v3)]) E (jd dk_X6_toCall_0 46 rfl) 4 rfl rfl (by decide) rfl ?_
  refine J_goto (tgt := 20) E (jd dk_X6_toCall_0 47 rfl) (by decide) ?_
  refine J_sub [1, 2, 3, 4, 0] rfl ?_
  exact kb _ (Option.some.inj hf).symm
set_option maxRecDepth 100000 in
set_option maxHeartbeats 4000000 in
theorem lk_X6_toCall_l20 {G : JG} {X : JX} (E : jE G X (RX6, cX6_toCall, 6)) (hX : X.2.2.2.1 = jRm 6 1 6) (hr : X.2.2.2.2.2.2.2.2.1.sig.returnType = (some .int)) (htab : ∀ x ∈ X.2.2.2.2.2.2.2.2.2.exceptionTable.toList, False) (N : Nat) {Q : State → Prop} {v0 : Nat} {v1 : Int32} {v2 : Int32} {v3 : Int32} {v4 : Int32}  {h : AH} {q : ((Int32 × Int32 × Int32 × AH) ⊕ ((Int32 × AH)))} (hf : f_X6_toCall_l20 N v0 v1 v2 v3 v4 h = some q) (kb : ∀ s' : Int32 × Int32 × Int32 × AH, q = .inl s' → JW G X (RX6, cX6_toCall, 6) s'.2.2.2 [(0, .ref v0), (1, .int v1), (2, .int s'.1), (3, .int s'.2.1), (4, .int s'.2.2.1)] [] 20 1 6 Q) (ke0 : ∀ e : Int32 × AH, q = .inr e → JW G X (RX6, cX6_toCall, 6) e.2 [(3, .int e.1)] [] 94 1 6 Q) : JW G X (RX6, cX6_toCall, 6) h [(0, .ref v0), (1, .int v1), (2, .int v2), (3, .int v3), (4, .int v4)] [] 20 1 6 Q := by
  unfold f_X6_toCall_l20 at hf
  refine J_iload E (jd dk_X6_toCall_0 13 rfl) 4 rfl ?_
  refine J_aload_n E (jd dk_X6_toCall_0 14 rfl) rfl 0 rfl ?_
  obtain ⟨x1, e2, hf⟩ := jbind hf
  refine J_getr E (jd dk_X6_toCall_0 15 rfl) fl_RX6_30 e2 ?_
  obtain ⟨x3, e4, hf⟩ := jbind hf
  refine J_geti E (jd dk_X6_toCall_0 16 rfl) fl_RX6_110 e4 ?_
  refine J_icmp_ge (tgt := 94) E (jd dk_X6_toCall_0 17 rfl) (by decide) (fun c5 => ?_) (fun c5 => ?_)
  · replace hf := jif_t c5 hf
    refine J_sub [3] rfl ?_
    exact ke0 _ (Option.some.inj hf).symm
  · replace hf := jif_f c5 hf
    refine J_aload_n E (jd dk_X6_toCall_0 18 rfl) rfl 0 rfl ?_
    obtain ⟨x6, e7, hf⟩ := jbind hf
    refine J_getr E (jd dk_X6_toCall_0 19 rfl) fl_RX6_37 e7 ?_
    obtain ⟨x8, e9, hf⟩ := jbind hf
    refine J_getr E (jd dk_X6_toCall_0 20 rfl) fl_RX6_113 e9 ?_
    obtain ⟨x10, e11, hf⟩ := jbind hf
    refine J_getr E (jd dk_X6_toCall_0 21 rfl) fl_RX6_179 e11 ?_
    refine J_iload E (jd dk_X6_toCall_0 22 rfl) 4 rfl ?_
    obtain ⟨x12, e13, hf⟩ := jbind hf
    refine J_iald E (jd dk_X6_toCall_0 23 rfl) e13 ?_
    refine J_if_lt (tgt := 88) E (jd dk_X6_toCall_0 24 rfl) (by decide) (fun c14 => ?_) (fun c14 => ?_)
    · replace hf := jif_t c14 hf
      exact lk_X6_toCall_b88 E hX hr htab N hf kb ke0
    · replace hf := jif_f c14 hf
      refine J_aload_n E (jd dk_X6_toCall_0 25 rfl) rfl 0 rfl ?_
      obtain ⟨u17, e18, hf⟩ := jbind hf
      obtain ⟨r15, e16, hf⟩ := jbind hf
      refine J_callV E (jd dk_X6_toCall_0 26 rfl) ml_RX6_223 cal_X6_tryFromNow e18 rfl (lk_X6_tryFromNow (jE_g E) (jE_tr E) N e16) rfl (Nat.le_of_ble_eq_true rfl) (jR_le hX (by decide) (by decide)) (jFx hX (by decide) (by decide)) rfl ?_
      rintro _ _ ⟨rfl, rfl⟩
      refine J_aload_n E (jd dk_X6_toCall_0 27 rfl) rfl 0 rfl ?_
      obtain ⟨x19, e20, hf⟩ := jbind hf
      refine J_getr E (jd dk_X6_toCall_0 28 rfl) fl_RX6_51 e20 ?_
      refine J_aload_n E (jd dk_X6_toCall_0 29 rfl) rfl 0 rfl ?_
      obtain ⟨x21, e22, hf⟩ := jbind hf
      refine J_getr E (jd dk_X6_toCall_0 30 rfl) fl_RX6_30 e22 ?_
      refine J_iload E (jd dk_X6_toCall_0 31 rfl) 4 rfl ?_
      refine J_iconst (v := 1) E (jd dk_X6_toCall_0 32 rfl) rfl ?_
      obtain ⟨u25, e26, hf⟩ := jbind hf
      obtain ⟨r23, e24, hf⟩ := jbind hf
      refine J_callV E (jd dk_X6_toCall_0 33 rfl) ml_RX6_205 cal_X5_goOn e26 rfl (lk_X5_goOn (jE_g E) (jE_tr E) N e24) rfl (Nat.le_of_ble_eq_true rfl) (jR_le hX (by decide) (by decide)) (jFx hX (by decide) (by decide)) rfl ?_
      rintro _ _ ⟨rfl, rfl⟩
      refine J_aload_n E (jd dk_X6_toCall_0 34 rfl) rfl 0 rfl ?_
      refine J_iload_n E (jd dk_X6_toCall_0 35 rfl) rfl 1 rfl ?_
      obtain ⟨u29, e30, hf⟩ := jbind hf
      obtain ⟨r27, e28, hf⟩ := jbind hf
      refine J_callV E (jd dk_X6_toCall_0 36 rfl) ml_RX6_226 cal_X6_stepsTillFair e30 rfl (lk_X6_stepsTillFair (jE_g E) (jE_tr E) N e28) rfl (Nat.le_of_ble_eq_true rfl) (jR_le hX (by decide) (by decide)) (jFx hX (by decide) (by decide)) rfl ?_
      rintro _ _ ⟨rfl, rfl⟩
      refine J_istore (lv' := [(5, .int r27.1), (0, .ref v0), (1, .int v1), (2, .int v2), (3, .int v3), (4, .int v4)]) E (jd dk_X6_toCall_0 37 rfl) (by decide) rfl ?_
      refine J_iload E (jd dk_X6_toCall_0 38 rfl) 0 rfl ?_
      refine J_iload_n E (jd dk_X6_toCall_0 39 rfl) rfl 3 rfl ?_
      obtain ⟨r31, e32, hf⟩ := jbind hf
      refine J_callS E (jd dk_X6_toCall_0 40 rfl) ml_RX6_252 cal_X6_isSooner (lk_X6_isSooner (jE_g E) (jE_tr E) N e32) rfl (Nat.le_of_ble_eq_true rfl) (jR_le hX (by decide) (by decide)) (jFx hX (by decide) (by decide)) rfl ?_
      rintro _ _ ⟨rfl, rfl⟩
      refine J_if_eq (tgt := 88) E (jd dk_X6_toCall_0 41 rfl) (by decide) (fun c33 => ?_) (fun c33 => ?_)
      · replace hf := jif_t c33 hf
        refine J_sub [1, 2, 3, 4, 5] rfl ?_
        exact lk_X6_toCall_b88 E hX hr htab N hf kb ke0
      · replace hf := jif_f c33 hf
        refine J_iload E (jd dk_X6_toCall_0 42 rfl) 0 rfl ?_
        refine J_istore_n (lv' := [(2, .int r27.1), (5, .int r27.1), (0, .ref v0), (1, .int v1), (3, .int v3), (4, .int v4)]) E (jd dk_X6_toCall_0 43 rfl) rfl (by decide) rfl ?_
        refine J_iload E (jd dk_X6_toCall_0 44 rfl) 5 rfl ?_
        refine J_istore_n (lv' := [(3, .int v4), (2, .int r27.1), (5, .int r27.1), (0, .ref v0), (1, .int v1), (4, .int v4)]) E (jd dk_X6_toCall_0 45 rfl) rfl (by decide) rfl ?_
        refine J_sub [3, 4, 1, 0, 5] rfl ?_
        exact lk_X6_toCall_b88 E hX hr htab N hf kb ke0
set_option maxRecDepth 100000 in
set_option maxHeartbeats 4000000 in
theorem lk_X6_toCall_b20 {G : JG} {X : JX} (E : jE G X (RX6, cX6_toCall, 6)) (hX : X.2.2.2.1 = jRm 6 1 6) (hr : X.2.2.2.2.2.2.2.2.1.sig.returnType = (some .int)) (htab : ∀ x ∈ X.2.2.2.2.2.2.2.2.2.exceptionTable.toList, False) (N : Nat) {v0 : Nat} {v1 : Int32} {v2 : Int32} {v3 : Int32} {v4 : Int32} {h : AH}  {r : ((Nat ⊕ Int32) × AH)} (hf : f_X6_toCall_b20 N v0 v1 v2 v3 v4 h = some r) : JW G X (RX6, cX6_toCall, 6) h [(0, .ref v0), (1, .int v1), (2, .int v2), (3, .int v3), (4, .int v4)] [] 20 1 6 (jEndX G X (jpXi r) (jpXx r) 1 6) := by
  unfold f_X6_toCall_b20 at hf
  obtain ⟨q1, h1, hf⟩ := jbind hf
  refine jloop (P := fun s => JW G X (RX6, cX6_toCall, 6) s.2.2.2 [(0, .ref v0), (1, .int v1), (2, .int s.1), (3, .int s.2.1), (4, .int s.2.2.1)] [] 20 1 6 (jEndX G X (jpXi r) (jpXx r) 1 6)) (Ex := fun (e : Int32 × AH) => JW G X (RX6, cX6_toCall, 6) e.2 [(3, .int e.1)] [] 94 1 6 (jEndX G X (jpXi r) (jpXx r) 1 6)) (fun s q hs hb hx => lk_X6_toCall_l20 E hX hr htab N hs (fun s' hs => hb s' hs) (fun e he => hx e he)) N _ q1 h1 ?_
  generalize q1 = e at hf ⊢
  refine J_iload_n E (jd dk_X6_toCall_0 48 rfl) rfl 0 rfl ?_
  cases hf
  exact J_x (J_iret E hr rfl (jd dk_X6_toCall_0 49 rfl) (by decide) (by decide) ⟨_, rfl, rfl, rfl⟩)
set_option maxRecDepth 100000 in
set_option maxHeartbeats 4000000 in
theorem lk_X6_toCall {G : JG} {l : Launch} (hG : jG G) (htr : l.stackTraces = false) (N : Nat) {h : AH} {a0 : Nat} {a1 : Int32} {r : ((Nat ⊕ Int32) × AH)} (hf : f_X6_toCall N h a0 a1 = some r) : jMetX G l yX6_toCall cX6_toCall 6 (some .int) 6 1 6 [.ref a0, .int a1] h (jpXi r) (jpXx r) := by
  unfold f_X6_toCall at hf
  refine jMetX_of hG htr (by decide) (Nat.le_of_ble_eq_true rfl) ?_
  intro X E hl9 hr hX htab
  show JW G X (RX6, cX6_toCall, 6) h [(0, .ref a0), (1, .int a1)] [] 0 0 0 (jEndX G X (jpXi r) (jpXx r) 1 6)
  refine J_aload_n E (jd dk_X6_toCall_0 0 rfl) rfl 0 rfl ?_
  refine J_iload_n E (jd dk_X6_toCall_0 1 rfl) rfl 1 rfl ?_
  obtain ⟨u36, e37, hf⟩ := jbind hf
  obtain ⟨r34, e35, hf⟩ := jbind hf
  obtain ⟨r34a, r34b⟩ := r34
  refine J_callVX E (jd dk_X6_toCall_0 2 rfl) ml_RX6_176 cal_X6_needJudge e37 rfl (lk_X6_needJudge (jE_g E) (jE_tr E) N e35) rfl (Nat.le_of_ble_eq_true rfl) (jR_le hX (by decide) (by decide)) (jFx hX (by decide) (by decide)) rfl ?_ ?_
  rotate_left
  · rintro _ _ ⟨k9, rfl, rfl, rfl⟩
    replace hf := Option.some.inj hf
    subst hf
    exact J_out E htab (by decide) (by decide) ⟨_, rfl, rfl, rfl⟩
  rintro _ _ ⟨rfl, rfl, rfl⟩
  replace hf : _ = some _ := hf
  refine J_aload_n E (jd dk_X6_toCall_0 3 rfl) rfl 0 rfl ?_
  obtain ⟨u41, e42, hf⟩ := jbind hf
  obtain ⟨r39, e40, hf⟩ := jbind hf
  refine J_callV E (jd dk_X6_toCall_0 4 rfl) ml_RX6_223 cal_X6_tryFromNow e42 rfl (lk_X6_tryFromNow (jE_g E) (jE_tr E) N e40) rfl (Nat.le_of_ble_eq_true rfl) (jR_le hX (by decide) (by decide)) (jFx hX (by decide) (by decide)) rfl ?_
  rintro _ _ ⟨rfl, rfl⟩
  refine J_aload_n E (jd dk_X6_toCall_0 5 rfl) rfl 0 rfl ?_
  refine J_iload_n E (jd dk_X6_toCall_0 6 rfl) rfl 1 rfl ?_
  obtain ⟨u45, e46, hf⟩ := jbind hf
  obtain ⟨r43, e44, hf⟩ := jbind hf
  refine J_callV E (jd dk_X6_toCall_0 7 rfl) ml_RX6_226 cal_X6_stepsTillFair e46 rfl (lk_X6_stepsTillFair (jE_g E) (jE_tr E) N e44) rfl (Nat.le_of_ble_eq_true rfl) (jR_le hX (by decide) (by decide)) (jFx hX (by decide) (by decide)) rfl ?_
  rintro _ _ ⟨rfl, rfl⟩
  refine J_istore_n (lv' := [(2, .int r43.1), (0, .ref a0), (1, .int a1)]) E (jd dk_X6_toCall_0 8 rfl) rfl (by decide) rfl ?_
  refine J_iconst (v := (-1)) E (jd dk_X6_toCall_0 9 rfl) rfl ?_
  refine J_istore_n (lv' := [(3, .int ((-1))), (2, .int r43.1), (0, .ref a0), (1, .int a1)]) E (jd dk_X6_toCall_0 10 rfl) rfl (by decide) rfl ?_
  refine J_iconst (v := 0) E (jd dk_X6_toCall_0 11 rfl) rfl ?_
  refine J_istore (lv' := [(4, .int 0), (3, .int ((-1))), (2, .int r43.1), (0, .ref a0), (1, .int a1)]) E (jd dk_X6_toCall_0 12 rfl) (by decide) rfl ?_
  refine J_sub [3, 4, 2, 1, 0] rfl ?_
  exact lk_X6_toCall_b20 E hX hr htab N hf
def f_X6_panel (N : Nat) (h : AH) (a0 : Nat) (a1 : Int32) : Option ((Nat ⊕ Int32) × AH) :=
  (f_X6_needWhat N h a1 1).bind fun r1 => Sum.elim (fun k => some (.inl k, r1.2)) (fun _ =>
  (jgr 6 r1.2 a0 9).bind fun x4 =>
  (jgr 6 r1.2 a0 4).bind fun x6 =>
  (jgr 6 r1.2 a0 5).bind fun x8 =>
  (jgr 0 r1.2 x8 0).bind fun x10 =>
  (jck 3 r1.2 x4).bind fun _ =>
  (f_X3_fill N r1.2 x4 x6 x10).bind fun r12 =>
  if a1 = 0 then (jgr 6 r12 a0 9).bind fun x21 =>
  (jgi 3 r12 x21 0).bind fun x23 =>
  some (.inr x23, r12)
  else (jgr 6 r12 a0 9).bind fun x17 =>
  (jgi 3 r12 x17 1).bind fun x19 =>
  some (.inr x19, r12)) r1.1
set_option maxRecDepth 100000 in
set_option maxHeartbeats 4000000 in
theorem lk_X6_panel {G : JG} {l : Launch} (hG : jG G) (htr : l.stackTraces = false) (N : Nat) {h : AH} {a0 : Nat} {a1 : Int32} {r : ((Nat ⊕ Int32) × AH)} (hf : f_X6_panel N h a0 a1 = some r) : jMetX G l yX6_panel cX6_panel 2 (some .int) 3 1 6 [.ref a0, .int a1] h (jpXi r) (jpXx r) := by
  unfold f_X6_panel at hf
  refine jMetX_of hG htr (by decide) (Nat.le_of_ble_eq_true rfl) ?_
  intro X E hl9 hr hX htab
  show JW G X (RX6, cX6_panel, 2) h [(0, .ref a0), (1, .int a1)] [] 0 0 0 (jEndX G X (jpXi r) (jpXx r) 1 6)
  refine J_iload_n E (jd dk_X6_panel_0 0 rfl) rfl 1 rfl ?_
  refine J_iconst (v := 1) E (jd dk_X6_panel_0 1 rfl) rfl ?_
  obtain ⟨r1, e2, hf⟩ := jbind hf
  obtain ⟨r1a, r1b⟩ := r1
  refine J_callSX E (jd dk_X6_panel_0 2 rfl) ml_RX6_162 cal_X6_needWhat (lk_X6_needWhat (jE_g E) (jE_tr E) N e2) rfl (Nat.le_of_ble_eq_true rfl) (jR_le hX (by decide) (by decide)) (jFx hX (by decide) (by decide)) rfl ?_ ?_
  rotate_left
  · rintro _ _ ⟨k9, rfl, rfl, rfl⟩
    replace hf := Option.some.inj hf
    subst hf
    exact J_out E htab (by decide) (by decide) ⟨_, rfl, rfl, rfl⟩
  rintro _ _ ⟨rfl, rfl, rfl⟩
  replace hf : _ = some _ := hf
  refine J_aload_n E (jd dk_X6_panel_0 3 rfl) rfl 0 rfl ?_
  obtain ⟨x4, e5, hf⟩ := jbind hf
  refine J_getr E (jd dk_X6_panel_0 4 rfl) fl_RX6_58 e5 ?_
  refine J_aload_n E (jd dk_X6_panel_0 5 rfl) rfl 0 rfl ?_
  obtain ⟨x6, e7, hf⟩ := jbind hf
  refine J_getr E (jd dk_X6_panel_0 6 rfl) fl_RX6_30 e7 ?_
  refine J_aload_n E (jd dk_X6_panel_0 7 rfl) rfl 0 rfl ?_
  obtain ⟨x8, e9, hf⟩ := jbind hf
  refine J_getr E (jd dk_X6_panel_0 8 rfl) fl_RX6_37 e9 ?_
  obtain ⟨x10, e11, hf⟩ := jbind hf
  refine J_getr E (jd dk_X6_panel_0 9 rfl) fl_RX6_113 e11 ?_
  obtain ⟨u14, e15, hf⟩ := jbind hf
  obtain ⟨r12, e13, hf⟩ := jbind hf
  refine J_callV E (jd dk_X6_panel_0 10 rfl) ml_RX6_259 cal_X3_fill e15 rfl (lk_X3_fill (jE_g E) (jE_tr E) N e13) rfl (Nat.le_of_ble_eq_true rfl) (jR_le hX (by decide) (by decide)) (jFx hX (by decide) (by decide)) rfl ?_
  rintro _ _ ⟨rfl, rfl⟩
  refine J_iload_n E (jd dk_X6_panel_0 11 rfl) rfl 1 rfl ?_
  refine J_if_ne (tgt := 37) E (jd dk_X6_panel_0 12 rfl) (by decide) (fun c16 => ?_) (fun c16 => ?_)
  · replace hf := jif_f c16 hf
    refine J_aload_n E (jd dk_X6_panel_0 17 rfl) rfl 0 rfl ?_
    obtain ⟨x17, e18, hf⟩ := jbind hf
    refine J_getr E (jd dk_X6_panel_0 18 rfl) fl_RX6_58 e18 ?_
    obtain ⟨x19, e20, hf⟩ := jbind hf
    refine J_geti E (jd dk_X6_panel_0 19 rfl) fl_RX6_266 e20 ?_
    cases hf
    exact J_x (J_iret E hr rfl (jd dk_X6_panel_0 20 rfl) (by decide) (by decide) ⟨_, rfl, rfl, rfl⟩)
  · replace hf := jif_t c16 hf
    refine J_aload_n E (jd dk_X6_panel_0 13 rfl) rfl 0 rfl ?_
    obtain ⟨x21, e22, hf⟩ := jbind hf
    refine J_getr E (jd dk_X6_panel_0 14 rfl) fl_RX6_58 e22 ?_
    obtain ⟨x23, e24, hf⟩ := jbind hf
    refine J_geti E (jd dk_X6_panel_0 15 rfl) fl_RX6_263 e24 ?_
    refine J_goto (tgt := 44) E (jd dk_X6_panel_0 16 rfl) (by decide) ?_
    cases hf
    exact J_x (J_iret E hr rfl (jd dk_X6_panel_0 20 rfl) (by decide) (by decide) ⟨_, rfl, rfl, rfl⟩)
def f_X6_seat (N : Nat) (h : AH) (a0 : Nat) (a1 : Int32) : Option ((Nat ⊕ Int32) × AH) :=
  (jck 6 h a0).bind fun _ =>
  (f_X6_needSide N h a0 a1).bind fun r1 => Sum.elim (fun k => some (.inl k, r1.2)) (fun _ =>
  (jgr 6 r1.2 a0 9).bind fun x6 =>
  (jgr 6 r1.2 a0 4).bind fun x8 =>
  (jgr 6 r1.2 a0 5).bind fun x10 =>
  (jgr 0 r1.2 x10 0).bind fun x12 =>
  (jck 3 r1.2 x6).bind fun _ =>
  (f_X3_fill N r1.2 x6 x8 x12).bind fun r14 =>
  (jgr 6 r14 a0 9).bind fun x18 =>
  (jgr 3 r14 x18 2).bind fun x20 =>
  (jal 0 r14 x20 a1).bind fun x22 =>
  some (.inr x22, r14)) r1.1
set_option maxRecDepth 100000 in
set_option maxHeartbeats 4000000 in
theorem lk_X6_seat {G : JG} {l : Launch} (hG : jG G) (htr : l.stackTraces = false) (N : Nat) {h : AH} {a0 : Nat} {a1 : Int32} {r : ((Nat ⊕ Int32) × AH)} (hf : f_X6_seat N h a0 a1 = some r) : jMetX G l yX6_seat cX6_seat 2 (some .int) 3 1 6 [.ref a0, .int a1] h (jpXi r) (jpXx r) := by
  unfold f_X6_seat at hf
  refine jMetX_of hG htr (by decide) (Nat.le_of_ble_eq_true rfl) ?_
  intro X E hl9 hr hX htab
  show JW G X (RX6, cX6_seat, 2) h [(0, .ref a0), (1, .int a1)] [] 0 0 0 (jEndX G X (jpXi r) (jpXx r) 1 6)
  refine J_aload_n E (jd dk_X6_seat_0 0 rfl) rfl 0 rfl ?_
  refine J_iload_n E (jd dk_X6_seat_0 1 rfl) rfl 1 rfl ?_
  obtain ⟨u3, e4, hf⟩ := jbind hf
  obtain ⟨r1, e2, hf⟩ := jbind hf
  obtain ⟨r1a, r1b⟩ := r1
  refine J_callVX E (jd dk_X6_seat_0 2 rfl) ml_RX6_209 cal_X6_needSide e4 rfl (lk_X6_needSide (jE_g E) (jE_tr E) N e2) rfl (Nat.le_of_ble_eq_true rfl) (jR_le hX (by decide) (by decide)) (jFx hX (by decide) (by decide)) rfl ?_ ?_
  rotate_left
  · rintro _ _ ⟨k9, rfl, rfl, rfl⟩
    replace hf := Option.some.inj hf
    subst hf
    exact J_out E htab (by decide) (by decide) ⟨_, rfl, rfl, rfl⟩
  rintro _ _ ⟨rfl, rfl, rfl⟩
  replace hf : _ = some _ := hf
  refine J_aload_n E (jd dk_X6_seat_0 3 rfl) rfl 0 rfl ?_
  obtain ⟨x6, e7, hf⟩ := jbind hf
  refine J_getr E (jd dk_X6_seat_0 4 rfl) fl_RX6_58 e7 ?_
  refine J_aload_n E (jd dk_X6_seat_0 5 rfl) rfl 0 rfl ?_
  obtain ⟨x8, e9, hf⟩ := jbind hf
  refine J_getr E (jd dk_X6_seat_0 6 rfl) fl_RX6_30 e9 ?_
  refine J_aload_n E (jd dk_X6_seat_0 7 rfl) rfl 0 rfl ?_
  obtain ⟨x10, e11, hf⟩ := jbind hf
  refine J_getr E (jd dk_X6_seat_0 8 rfl) fl_RX6_37 e11 ?_
  obtain ⟨x12, e13, hf⟩ := jbind hf
  refine J_getr E (jd dk_X6_seat_0 9 rfl) fl_RX6_113 e13 ?_
  obtain ⟨u16, e17, hf⟩ := jbind hf
  obtain ⟨r14, e15, hf⟩ := jbind hf
  refine J_callV E (jd dk_X6_seat_0 10 rfl) ml_RX6_259 cal_X3_fill e17 rfl (lk_X3_fill (jE_g E) (jE_tr E) N e15) rfl (Nat.le_of_ble_eq_true rfl) (jR_le hX (by decide) (by decide)) (jFx hX (by decide) (by decide)) rfl ?_
  rintro _ _ ⟨rfl, rfl⟩
  refine J_aload_n E (jd dk_X6_seat_0 11 rfl) rfl 0 rfl ?_
  obtain ⟨x18, e19, hf⟩ := jbind hf
  refine J_getr E (jd dk_X6_seat_0 12 rfl) fl_RX6_58 e19 ?_
  obtain ⟨x20, e21, hf⟩ := jbind hf
  refine J_getr E (jd dk_X6_seat_0 13 rfl) fl_RX6_269 e21 ?_
  refine J_iload_n E (jd dk_X6_seat_0 14 rfl) rfl 1 rfl ?_
  obtain ⟨x22, e23, hf⟩ := jbind hf
  refine J_iald E (jd dk_X6_seat_0 15 rfl) e23 ?_
  cases hf
  exact J_x (J_iret E hr rfl (jd dk_X6_seat_0 16 rfl) (by decide) (by decide) ⟨_, rfl, rfl, rfl⟩)
def f_X6_unlike (N : Nat) (h : AH) (a0 : Nat) (a1 : Int32) (a2 : Int32) : Option ((Nat ⊕ Int32) × AH) :=
  (jck 6 h a0).bind fun _ =>
  (f_X6_needJudge N h a0 a1).bind fun r1 => Sum.elim (fun k => some (.inl k, r1.2)) (fun _ =>
  (jck 6 r1.2 a0).bind fun _ =>
  (f_X6_needJudge N r1.2 a0 a2).bind fun r6 => Sum.elim (fun k => some (.inl k, r6.2)) (fun _ =>
  (jgr 6 r6.2 a0 5).bind fun x11 =>
  (jgr 0 r6.2 x11 0).bind fun x13 =>
  (jgr 5 r6.2 x13 3).bind fun x15 =>
  (jal 0 r6.2 x15 a1).bind fun x17 =>
  (jgr 6 r6.2 a0 5).bind fun x19 =>
  (jgr 0 r6.2 x19 0).bind fun x21 =>
  (jgr 5 r6.2 x21 3).bind fun x23 =>
  (jal 0 r6.2 x23 a2).bind fun x25 =>
  (f_J6_bitCount_0f7a4 N r6.2 (x17 ^^^ x25)).bind fun r27 =>
  some (.inr r27.1, r27.2)) r6.1) r1.1
set_option maxRecDepth 100000 in
set_option maxHeartbeats 4000000 in
theorem lk_X6_unlike {G : JG} {l : Launch} (hG : jG G) (htr : l.stackTraces = false) (N : Nat) {h : AH} {a0 : Nat} {a1 : Int32} {a2 : Int32} {r : ((Nat ⊕ Int32) × AH)} (hf : f_X6_unlike N h a0 a1 a2 = some r) : jMetX G l yX6_unlike cX6_unlike 3 (some .int) 2 2 12 [.ref a0, .int a1, .int a2] h (jpXi r) (jpXx r) := by
  unfold f_X6_unlike at hf
  refine jMetX_of hG htr (by decide) (Nat.le_of_ble_eq_true rfl) ?_
  intro X E hl9 hr hX htab
  show JW G X (RX6, cX6_unlike, 3) h [(0, .ref a0), (1, .int a1), (2, .int a2)] [] 0 0 0 (jEndX G X (jpXi r) (jpXx r) 2 12)
  refine J_aload_n E (jd dk_X6_unlike_0 0 rfl) rfl 0 rfl ?_
  refine J_iload_n E (jd dk_X6_unlike_0 1 rfl) rfl 1 rfl ?_
  obtain ⟨u3, e4, hf⟩ := jbind hf
  obtain ⟨r1, e2, hf⟩ := jbind hf
  obtain ⟨r1a, r1b⟩ := r1
  refine J_callVX E (jd dk_X6_unlike_0 2 rfl) ml_RX6_176 cal_X6_needJudge e4 rfl (lk_X6_needJudge (jE_g E) (jE_tr E) N e2) rfl (Nat.le_of_ble_eq_true rfl) (jR_le hX (by decide) (by decide)) (jFx hX (by decide) (by decide)) rfl ?_ ?_
  rotate_left
  · rintro _ _ ⟨k9, rfl, rfl, rfl⟩
    replace hf := Option.some.inj hf
    subst hf
    exact J_out E htab (by decide) (by decide) ⟨_, rfl, rfl, rfl⟩
  rintro _ _ ⟨rfl, rfl, rfl⟩
  replace hf : _ = some _ := hf
  refine J_aload_n E (jd dk_X6_unlike_0 3 rfl) rfl 0 rfl ?_
  refine J_iload_n E (jd dk_X6_unlike_0 4 rfl) rfl 2 rfl ?_
  obtain ⟨u8, e9, hf⟩ := jbind hf
  obtain ⟨r6, e7, hf⟩ := jbind hf
  obtain ⟨r6a, r6b⟩ := r6
  refine J_callVX E (jd dk_X6_unlike_0 5 rfl) ml_RX6_176 cal_X6_needJudge e9 rfl (lk_X6_needJudge (jE_g E) (jE_tr E) N e7) rfl (Nat.le_of_ble_eq_true rfl) (jR_le hX (by decide) (by decide)) (jFx hX (by decide) (by decide)) rfl ?_ ?_
  rotate_left
  · rintro _ _ ⟨k9, rfl, rfl, rfl⟩
    replace hf := Option.some.inj hf
    subst hf
    exact J_out E htab (by decide) (by decide) ⟨_, rfl, rfl, rfl⟩
  rintro _ _ ⟨rfl, rfl, rfl⟩
  replace hf : _ = some _ := hf
  refine J_aload_n E (jd dk_X6_unlike_0 6 rfl) rfl 0 rfl ?_
  obtain ⟨x11, e12, hf⟩ := jbind hf
  refine J_getr E (jd dk_X6_unlike_0 7 rfl) fl_RX6_37 e12 ?_
  obtain ⟨x13, e14, hf⟩ := jbind hf
  refine J_getr E (jd dk_X6_unlike_0 8 rfl) fl_RX6_113 e14 ?_
  obtain ⟨x15, e16, hf⟩ := jbind hf
  refine J_getr E (jd dk_X6_unlike_0 9 rfl) fl_RX6_147 e16 ?_
  refine J_iload_n E (jd dk_X6_unlike_0 10 rfl) rfl 1 rfl ?_
  obtain ⟨x17, e18, hf⟩ := jbind hf
  refine J_iald E (jd dk_X6_unlike_0 11 rfl) e18 ?_
  refine J_aload_n E (jd dk_X6_unlike_0 12 rfl) rfl 0 rfl ?_
  obtain ⟨x19, e20, hf⟩ := jbind hf
  refine J_getr E (jd dk_X6_unlike_0 13 rfl) fl_RX6_37 e20 ?_
  obtain ⟨x21, e22, hf⟩ := jbind hf
  refine J_getr E (jd dk_X6_unlike_0 14 rfl) fl_RX6_113 e22 ?_
  obtain ⟨x23, e24, hf⟩ := jbind hf
  refine J_getr E (jd dk_X6_unlike_0 15 rfl) fl_RX6_147 e24 ?_
  refine J_iload_n E (jd dk_X6_unlike_0 16 rfl) rfl 2 rfl ?_
  obtain ⟨x25, e26, hf⟩ := jbind hf
  refine J_iald E (jd dk_X6_unlike_0 17 rfl) e26 ?_
  refine J_ixor E (jd dk_X6_unlike_0 18 rfl) ?_
  obtain ⟨r27, e28, hf⟩ := jbind hf
  refine J_callS E (jd dk_X6_unlike_0 19 rfl) ml_RX6_153 cal_J6_bitCount_0f7a4 (lk_J6_bitCount_0f7a4 (jE_g E) (jE_tr E) N e28) rfl (Nat.le_of_ble_eq_true rfl) (jR_le hX (by decide) (by decide)) (jFx hX (by decide) (by decide)) rfl ?_
  rintro _ _ ⟨rfl, rfl⟩
  cases hf
  exact J_x (J_iret E hr rfl (jd dk_X6_unlike_0 20 rfl) (by decide) (by decide) ⟨_, rfl, rfl, rfl⟩)
def f_X6_sides_l31 (N : Nat) (v0 : Nat) (v2 : Int32) (v3 : Int32) (v4 : Int32) (v5 : Int32) (h : AH) : Option ((Int32 × Int32 × Int32 × AH) ⊕ ((Int32 × Int32 × AH))) :=
  (jgr 6 h v0 4).bind fun x1 =>
  (jgi 1 h x1 2).bind fun x3 =>
  if x3 ≤ v5 then some (.inr ((v3, v4, h)))
  else (jgr 6 h v0 8).bind fun x6 =>
  (jgr 5 h x6 3).bind fun x8 =>
  (jal 0 h x8 v5).bind fun x10 =>
  (jgr 6 h v0 8).bind fun x12 =>
  (jgr 5 h x12 3).bind fun x14 =>
  (jal 0 h x14 v5).bind fun x16 =>
  some (.inl ((v3 ||| x10, v4 &&& x16, v5 + 1, h)))
def f_X6_sides_b31 (N : Nat) (v0 : Nat) (v2 : Int32) (v3 : Int32) (v4 : Int32) (v5 : Int32) (h : AH) : Option ((Nat ⊕ Int32) × AH) :=
  (itr (fun s => f_X6_sides_l31 N v0 v2 s.1 s.2.1 s.2.2.1 s.2.2.2) N (v3, v4, v5, h)).bind (fun e => if v2 = 0 then some (.inr e.1, e.2.2)
  else some (.inr e.2.1, e.2.2))
def f_X6_sides (N : Nat) (h : AH) (a0 : Nat) (a1 : Int32) (a2 : Int32) : Option ((Nat ⊕ Int32) × AH) :=
  (f_X6_needWhat N h a2 1).bind fun r19 => Sum.elim (fun k => some (.inl k, r19.2)) (fun _ =>
  (f_X6_needSteps N r19.2 a1 0 60).bind fun r22 => Sum.elim (fun k => some (.inl k, r22.2)) (fun _ =>
  (jck 6 r22.2 a0).bind fun _ =>
  (f_X6_tryFor N r22.2 a0 a1).bind fun r25 =>
  (jgr 6 r25 a0 4).bind fun x29 =>
  (jck 1 r25 x29).bind fun _ =>
  (f_X1_allSides N r25 x29).bind fun r31 =>
  f_X6_sides_b31 N a0 a2 0 r31.1 0 r31.2) r22.1) r19.1
set_option maxRecDepth 100000 in
set_option maxHeartbeats 4000000 in
theorem lk_X6_sides_l31 {G : JG} {X : JX} (E : jE G X (RX6, cX6_sides, 6)) (hX : X.2.2.2.1 = jRm 7 2 12) (hr : X.2.2.2.2.2.2.2.2.1.sig.returnType = (some .int)) (htab : ∀ x ∈ X.2.2.2.2.2.2.2.2.2.exceptionTable.toList, False) (N : Nat) {Q : State → Prop} {v0 : Nat} {v2 : Int32} {v3 : Int32} {v4 : Int32} {v5 : Int32}  {h : AH} {q : ((Int32 × Int32 × Int32 × AH) ⊕ ((Int32 × Int32 × AH)))} (hf : f_X6_sides_l31 N v0 v2 v3 v4 v5 h = some q) (kb : ∀ s' : Int32 × Int32 × Int32 × AH, q = .inl s' → JW G X (RX6, cX6_sides, 6) s'.2.2.2 [(0, .ref v0), (2, .int v2), (3, .int s'.1), (4, .int s'.2.1), (5, .int s'.2.2.1)] [] 31 2 12 Q) (ke0 : ∀ e : Int32 × Int32 × AH, q = .inr e → JW G X (RX6, cX6_sides, 6) e.2.2 [(2, .int v2), (3, .int e.1), (4, .int e.2.1)] [] 77 2 12 Q) : JW G X (RX6, cX6_sides, 6) h [(0, .ref v0), (2, .int v2), (3, .int v3), (4, .int v4), (5, .int v5)] [] 31 2 12 Q := by
  unfold f_X6_sides_l31 at hf
  refine J_iload E (jd dk_X6_sides_0 18 rfl) 4 rfl ?_
  refine J_aload_n E (jd dk_X6_sides_0 19 rfl) rfl 0 rfl ?_
  obtain ⟨x1, e2, hf⟩ := jbind hf
  refine J_getr E (jd dk_X6_sides_0 20 rfl) fl_RX6_30 e2 ?_
  obtain ⟨x3, e4, hf⟩ := jbind hf
  refine J_geti E (jd dk_X6_sides_0 21 rfl) fl_RX6_110 e4 ?_
  refine J_icmp_ge (tgt := 77) E (jd dk_X6_sides_0 22 rfl) (by decide) (fun c5 => ?_) (fun c5 => ?_)
  · replace hf := jif_t c5 hf
    refine J_sub [1, 2, 3] rfl ?_
    exact ke0 _ (Option.some.inj hf).symm
  · replace hf := jif_f c5 hf
    refine J_iload_n E (jd dk_X6_sides_0 23 rfl) rfl 2 rfl ?_
    refine J_aload_n E (jd dk_X6_sides_0 24 rfl) rfl 0 rfl ?_
    obtain ⟨x6, e7, hf⟩ := jbind hf
    refine J_getr E (jd dk_X6_sides_0 25 rfl) fl_RX6_51 e7 ?_
    obtain ⟨x8, e9, hf⟩ := jbind hf
    refine J_getr E (jd dk_X6_sides_0 26 rfl) fl_RX6_147 e9 ?_
    refine J_iload E (jd dk_X6_sides_0 27 rfl) 4 rfl ?_
    obtain ⟨x10, e11, hf⟩ := jbind hf
    refine J_iald E (jd dk_X6_sides_0 28 rfl) e11 ?_
    refine J_ior E (jd dk_X6_sides_0 29 rfl) ?_
    refine J_istore_n (lv' := [(3, .int (v3 ||| x10)), (0, .ref v0), (2, .int v2), (4, .int v4), (5, .int v5)]) E (jd dk_X6_sides_0 30 rfl) rfl (by decide) rfl ?_
    refine J_iload E (jd dk_X6_sides_0 31 rfl) 3 rfl ?_
    refine J_aload_n E (jd dk_X6_sides_0 32 rfl) rfl 1 rfl ?_
    obtain ⟨x12, e13, hf⟩ := jbind hf
    refine J_getr E (jd dk_X6_sides_0 33 rfl) fl_RX6_51 e13 ?_
    obtain ⟨x14, e15, hf⟩ := jbind hf
    refine J_getr E (jd dk_X6_sides_0 34 rfl) fl_RX6_147 e15 ?_
    refine J_iload E (jd dk_X6_sides_0 35 rfl) 4 rfl ?_
    obtain ⟨x16, e17, hf⟩ := jbind hf
    refine J_iald E (jd dk_X6_sides_0 36 rfl) e17 ?_
    refine J_iand E (jd dk_X6_sides_0 37 rfl) ?_
    refine J_istore (lv' := [(4, .int (v4 &&& x16)), (3, .int (v3 ||| x10)), (0, .ref v0), (2, .int v2), (5, .int v5)]) E (jd dk_X6_sides_0 38 rfl) (by decide) rfl ?_
    refine J_iinc (v := v5 + 1) (lv' := [(5, .int (v5 + 1)), (4, .int (v4 &&& x16)), (3, .int (v3 ||| x10)), (0, .ref v0), (2, .int v2)]) E (jd dk_X6_sides_0 39 rfl) 4 rfl rfl (by decide) rfl ?_
    refine J_goto (tgt := 31) E (jd dk_X6_sides_0 40 rfl) (by decide) ?_
    refine J_sub [3, 4, 2, 1, 0] rfl ?_
    exact kb _ (Option.some.inj hf).symm
set_option maxRecDepth 100000 in
set_option maxHeartbeats 4000000 in
theorem lk_X6_sides_b31 {G : JG} {X : JX} (E : jE G X (RX6, cX6_sides, 6)) (hX : X.2.2.2.1 = jRm 7 2 12) (hr : X.2.2.2.2.2.2.2.2.1.sig.returnType = (some .int)) (htab : ∀ x ∈ X.2.2.2.2.2.2.2.2.2.exceptionTable.toList, False) (N : Nat) {v0 : Nat} {v2 : Int32} {v3 : Int32} {v4 : Int32} {v5 : Int32} {h : AH}  {r : ((Nat ⊕ Int32) × AH)} (hf : f_X6_sides_b31 N v0 v2 v3 v4 v5 h = some r) : JW G X (RX6, cX6_sides, 6) h [(0, .ref v0), (2, .int v2), (3, .int v3), (4, .int v4), (5, .int v5)] [] 31 2 12 (jEndX G X (jpXi r) (jpXx r) 2 12) := by
  unfold f_X6_sides_b31 at hf
  obtain ⟨q1, h1, hf⟩ := jbind hf
  refine jloop (P := fun s => JW G X (RX6, cX6_sides, 6) s.2.2.2 [(0, .ref v0), (2, .int v2), (3, .int s.1), (4, .int s.2.1), (5, .int s.2.2.1)] [] 31 2 12 (jEndX G X (jpXi r) (jpXx r) 2 12)) (Ex := fun (e : Int32 × Int32 × AH) => JW G X (RX6, cX6_sides, 6) e.2.2 [(2, .int v2), (3, .int e.1), (4, .int e.2.1)] [] 77 2 12 (jEndX G X (jpXi r) (jpXx r) 2 12)) (fun s q hs hb hx => lk_X6_sides_l31 E hX hr htab N hs (fun s' hs => hb s' hs) (fun e he => hx e he)) N _ q1 h1 ?_
  generalize q1 = e at hf ⊢
  refine J_iload_n E (jd dk_X6_sides_0 41 rfl) rfl 0 rfl ?_
  refine J_if_ne (tgt := 85) E (jd dk_X6_sides_0 42 rfl) (by decide) (fun c18 => ?_) (fun c18 => ?_)
  · replace hf := jif_f c18 hf
    refine J_iload E (jd dk_X6_sides_0 45 rfl) 2 rfl ?_
    cases hf
    exact J_x (J_iret E hr rfl (jd dk_X6_sides_0 46 rfl) (by decide) (by decide) ⟨_, rfl, rfl, rfl⟩)
  · replace hf := jif_t c18 hf
    refine J_iload_n E (jd dk_X6_sides_0 43 rfl) rfl 1 rfl ?_
    refine J_goto (tgt := 87) E (jd dk_X6_sides_0 44 rfl) (by decide) ?_
    cases hf
    exact J_x (J_iret E hr rfl (jd dk_X6_sides_0 46 rfl) (by decide) (by decide) ⟨_, rfl, rfl, rfl⟩)
set_option maxRecDepth 100000 in
set_option maxHeartbeats 4000000 in
theorem lk_X6_sides {G : JG} {l : Launch} (hG : jG G) (htr : l.stackTraces = false) (N : Nat) {h : AH} {a0 : Nat} {a1 : Int32} {a2 : Int32} {r : ((Nat ⊕ Int32) × AH)} (hf : f_X6_sides N h a0 a1 a2 = some r) : jMetX G l yX6_sides cX6_sides 6 (some .int) 7 2 12 [.ref a0, .int a1, .int a2] h (jpXi r) (jpXx r) := by
  unfold f_X6_sides at hf
  refine jMetX_of hG htr (by decide) (Nat.le_of_ble_eq_true rfl) ?_
  intro X E hl9 hr hX htab
  show JW G X (RX6, cX6_sides, 6) h [(0, .ref a0), (1, .int a1), (2, .int a2)] [] 0 0 0 (jEndX G X (jpXi r) (jpXx r) 2 12)
  refine J_iload_n E (jd dk_X6_sides_0 0 rfl) rfl 2 rfl ?_
  refine J_iconst (v := 1) E (jd dk_X6_sides_0 1 rfl) rfl ?_
  obtain ⟨r19, e20, hf⟩ := jbind hf
  obtain ⟨r19a, r19b⟩ := r19
  refine J_callSX E (jd dk_X6_sides_0 2 rfl) ml_RX6_162 cal_X6_needWhat (lk_X6_needWhat (jE_g E) (jE_tr E) N e20) rfl (Nat.le_of_ble_eq_true rfl) (jR_le hX (by decide) (by decide)) (jFx hX (by decide) (by decide)) rfl ?_ ?_
  rotate_left
  · rintro _ _ ⟨k9, rfl, rfl, rfl⟩
    replace hf := Option.some.inj hf
    subst hf
    exact J_out E htab (by decide) (by decide) ⟨_, rfl, rfl, rfl⟩
  rintro _ _ ⟨rfl, rfl, rfl⟩
  replace hf : _ = some _ := hf
  refine J_iload_n E (jd dk_X6_sides_0 3 rfl) rfl 1 rfl ?_
  refine J_iconst (v := 0) E (jd dk_X6_sides_0 4 rfl) rfl ?_
  refine J_bipush (v := 60) E (jd dk_X6_sides_0 5 rfl) (by decide) ?_
  obtain ⟨r22, e23, hf⟩ := jbind hf
  obtain ⟨r22a, r22b⟩ := r22
  refine J_callSX E (jd dk_X6_sides_0 6 rfl) ml_RX6_216 cal_X6_needSteps (lk_X6_needSteps (jE_g E) (jE_tr E) N e23) rfl (Nat.le_of_ble_eq_true rfl) (jR_le hX (by decide) (by decide)) (jFx hX (by decide) (by decide)) rfl ?_ ?_
  rotate_left
  · rintro _ _ ⟨k9, rfl, rfl, rfl⟩
    replace hf := Option.some.inj hf
    subst hf
    exact J_out E htab (by decide) (by decide) ⟨_, rfl, rfl, rfl⟩
  rintro _ _ ⟨rfl, rfl, rfl⟩
  replace hf : _ = some _ := hf
  refine J_aload_n E (jd dk_X6_sides_0 7 rfl) rfl 0 rfl ?_
  refine J_iload_n E (jd dk_X6_sides_0 8 rfl) rfl 1 rfl ?_
  obtain ⟨u27, e28, hf⟩ := jbind hf
  obtain ⟨r25, e26, hf⟩ := jbind hf
  refine J_callV E (jd dk_X6_sides_0 9 rfl) ml_RX6_220 cal_X6_tryFor e28 rfl (lk_X6_tryFor (jE_g E) (jE_tr E) N e26) rfl (Nat.le_of_ble_eq_true rfl) (jR_le hX (by decide) (by decide)) (jFx hX (by decide) (by decide)) rfl ?_
  rintro _ _ ⟨rfl, rfl⟩
  refine J_iconst (v := 0) E (jd dk_X6_sides_0 10 rfl) rfl ?_
  refine J_istore_n (lv' := [(3, .int 0), (0, .ref a0), (1, .int a1), (2, .int a2)]) E (jd dk_X6_sides_0 11 rfl) rfl (by decide) rfl ?_
  refine J_aload_n E (jd dk_X6_sides_0 12 rfl) rfl 1 rfl ?_
  obtain ⟨x29, e30, hf⟩ := jbind hf
  refine J_getr E (jd dk_X6_sides_0 13 rfl) fl_RX6_30 e30 ?_
  obtain ⟨u33, e34, hf⟩ := jbind hf
  obtain ⟨r31, e32, hf⟩ := jbind hf
  refine J_callV E (jd dk_X6_sides_0 14 rfl) ml_RX6_150 cal_X1_allSides e34 rfl (lk_X1_allSides (jE_g E) (jE_tr E) N e32) rfl (Nat.le_of_ble_eq_true rfl) (jR_le hX (by decide) (by decide)) (jFx hX (by decide) (by decide)) rfl ?_
  rintro _ _ ⟨rfl, rfl⟩
  refine J_istore (lv' := [(4, .int r31.1), (3, .int 0), (0, .ref a0), (1, .int a1), (2, .int a2)]) E (jd dk_X6_sides_0 15 rfl) (by decide) rfl ?_
  refine J_iconst (v := 0) E (jd dk_X6_sides_0 16 rfl) rfl ?_
  refine J_istore (lv' := [(5, .int 0), (4, .int r31.1), (3, .int 0), (0, .ref a0), (1, .int a1), (2, .int a2)]) E (jd dk_X6_sides_0 17 rfl) (by decide) rfl ?_
  refine J_sub [3, 5, 2, 1, 0] rfl ?_
  exact lk_X6_sides_b31 E hX hr htab N hf
def f_X6_facing_b68 (N : Nat) (v0 : Nat) (v1 : Int32) (v3 : Int32) (v4 : Int32) (h : AH) : Option ((Int32 × Int32 × AH) ⊕ ((Int32 × AH))) :=
  some (.inl ((v3, v4 + 1, h)))
def f_X6_facing_l22 (N : Nat) (v0 : Nat) (v1 : Int32) (v3 : Int32) (v4 : Int32) (h : AH) : Option ((Int32 × Int32 × AH) ⊕ ((Int32 × AH))) :=
  (jgr 6 h v0 4).bind fun x1 =>
  (jgi 1 h x1 2).bind fun x3 =>
  if x3 ≤ v4 then some (.inr ((v3, h)))
  else (jgr 6 h v0 8).bind fun x6 =>
  (jgr 5 h x6 1).bind fun x8 =>
  (jal 0 h x8 v4).bind fun x10 =>
  if x10 < 0 then f_X6_facing_b68 N v0 v1 v3 v4 h
  else (jgr 6 h v0 8).bind fun x13 =>
  (jgr 5 h x13 2).bind fun x15 =>
  (jal 0 h x15 v4).bind fun x17 =>
  if x17 = v1 then f_X6_facing_b68 N v0 v1 (v3 ||| ((1 : Int32) <<< (v4 &&& 31))) v4 h
  else f_X6_facing_b68 N v0 v1 v3 v4 h
def f_X6_facing_b22 (N : Nat) (v0 : Nat) (v1 : Int32) (v3 : Int32) (v4 : Int32) (h : AH) : Option ((Nat ⊕ Int32) × AH) :=
  (itr (fun s => f_X6_facing_l22 N v0 v1 s.1 s.2.1 s.2.2) N (v3, v4, h)).bind (fun e => some (.inr e.1, e.2))
def f_X6_facing (N : Nat) (h : AH) (a0 : Nat) (a1 : Int32) (a2 : Int32) : Option ((Nat ⊕ Int32) × AH) :=
  (jck 6 h a0).bind fun _ =>
  (f_X6_needSide N h a0 a1).bind fun r20 => Sum.elim (fun k => some (.inl k, r20.2)) (fun _ =>
  (f_X6_needSteps N r20.2 a2 0 60).bind fun r25 => Sum.elim (fun k => some (.inl k, r25.2)) (fun _ =>
  (jck 6 r25.2 a0).bind fun _ =>
  (f_X6_tryFor N r25.2 a0 a2).bind fun r28 =>
  f_X6_facing_b22 N a0 a1 0 0 r28) r25.1) r20.1
set_option maxRecDepth 100000 in
set_option maxHeartbeats 4000000 in
theorem lk_X6_facing_b68 {G : JG} {X : JX} (E : jE G X (RX6, cX6_facing, 5)) (hX : X.2.2.2.1 = jRm 7 2 12) (hr : X.2.2.2.2.2.2.2.2.1.sig.returnType = (some .int)) (htab : ∀ x ∈ X.2.2.2.2.2.2.2.2.2.exceptionTable.toList, False) (N : Nat) {Q : State → Prop} {v0 : Nat} {v1 : Int32} {v3 : Int32} {v4 : Int32} {h : AH}  {q : ((Int32 × Int32 × AH) ⊕ ((Int32 × AH)))} (hf : f_X6_facing_b68 N v0 v1 v3 v4 h = some q) (kb : ∀ s' : Int32 × Int32 × AH, q = .inl s' → JW G X (RX6, cX6_facing, 5) s'.2.2 [(0, .ref v0), (1, .int v1), (3, .int s'.1), (4, .int s'.2.1)] [] 22 2 12 Q) (ke0 : ∀ e : Int32 × AH, q = .inr e → JW G X (RX6, cX6_facing, 5) e.2 [(3, .int e.1)] [] 74 2 12 Q) : JW G X (RX6, cX6_facing, 5) h [(0, .ref v0), (1, .int v1), (3, .int v3), (4, .int v4)] [] 68 2 12 Q := by
  unfold f_X6_facing_b68 at hf
  refine J_iinc (v := v4 + 1) (lv' := [(4, .int (v4 + 1)), (0, .ref v0), (1, .int v1), (3, .int v3)]) E (jd dk_X6_facing_0 38 rfl) 3 rfl rfl (by decide) rfl ?_
  refine J_goto (tgt := 22) E (jd dk_X6_facing_0 39 rfl) (by decide) ?_
  refine J_sub [1, 2, 3, 0] rfl ?_
  exact kb _ (Option.some.inj hf).symm
set_option maxRecDepth 100000 in
set_option maxHeartbeats 4000000 in
theorem lk_X6_facing_l22 {G : JG} {X : JX} (E : jE G X (RX6, cX6_facing, 5)) (hX : X.2.2.2.1 = jRm 7 2 12) (hr : X.2.2.2.2.2.2.2.2.1.sig.returnType = (some .int)) (htab : ∀ x ∈ X.2.2.2.2.2.2.2.2.2.exceptionTable.toList, False) (N : Nat) {Q : State → Prop} {v0 : Nat} {v1 : Int32} {v3 : Int32} {v4 : Int32}  {h : AH} {q : ((Int32 × Int32 × AH) ⊕ ((Int32 × AH)))} (hf : f_X6_facing_l22 N v0 v1 v3 v4 h = some q) (kb : ∀ s' : Int32 × Int32 × AH, q = .inl s' → JW G X (RX6, cX6_facing, 5) s'.2.2 [(0, .ref v0), (1, .int v1), (3, .int s'.1), (4, .int s'.2.1)] [] 22 2 12 Q) (ke0 : ∀ e : Int32 × AH, q = .inr e → JW G X (RX6, cX6_facing, 5) e.2 [(3, .int e.1)] [] 74 2 12 Q) : JW G X (RX6, cX6_facing, 5) h [(0, .ref v0), (1, .int v1), (3, .int v3), (4, .int v4)] [] 22 2 12 Q := by
  unfold f_X6_facing_l22 at hf
  refine J_iload E (jd dk_X6_facing_0 14 rfl) 3 rfl ?_
  refine J_aload_n E (jd dk_X6_facing_0 15 rfl) rfl 0 rfl ?_
  obtain ⟨x1, e2, hf⟩ := jbind hf
  refine J_getr E (jd dk_X6_facing_0 16 rfl) fl_RX6_30 e2 ?_
  obtain ⟨x3, e4, hf⟩ := jbind hf
  refine J_geti E (jd dk_X6_facing_0 17 rfl) fl_RX6_110 e4 ?_
  refine J_icmp_ge (tgt := 74) E (jd dk_X6_facing_0 18 rfl) (by decide) (fun c5 => ?_) (fun c5 => ?_)
  · replace hf := jif_t c5 hf
    refine J_sub [2] rfl ?_
    exact ke0 _ (Option.some.inj hf).symm
  · replace hf := jif_f c5 hf
    refine J_aload_n E (jd dk_X6_facing_0 19 rfl) rfl 0 rfl ?_
    obtain ⟨x6, e7, hf⟩ := jbind hf
    refine J_getr E (jd dk_X6_facing_0 20 rfl) fl_RX6_51 e7 ?_
    obtain ⟨x8, e9, hf⟩ := jbind hf
    refine J_getr E (jd dk_X6_facing_0 21 rfl) fl_RX6_179 e9 ?_
    refine J_iload E (jd dk_X6_facing_0 22 rfl) 3 rfl ?_
    obtain ⟨x10, e11, hf⟩ := jbind hf
    refine J_iald E (jd dk_X6_facing_0 23 rfl) e11 ?_
    refine J_if_lt (tgt := 68) E (jd dk_X6_facing_0 24 rfl) (by decide) (fun c12 => ?_) (fun c12 => ?_)
    · replace hf := jif_t c12 hf
      exact lk_X6_facing_b68 E hX hr htab N hf kb ke0
    · replace hf := jif_f c12 hf
      refine J_aload_n E (jd dk_X6_facing_0 25 rfl) rfl 0 rfl ?_
      obtain ⟨x13, e14, hf⟩ := jbind hf
      refine J_getr E (jd dk_X6_facing_0 26 rfl) fl_RX6_51 e14 ?_
      obtain ⟨x15, e16, hf⟩ := jbind hf
      refine J_getr E (jd dk_X6_facing_0 27 rfl) fl_RX6_182 e16 ?_
      refine J_iload E (jd dk_X6_facing_0 28 rfl) 3 rfl ?_
      obtain ⟨x17, e18, hf⟩ := jbind hf
      refine J_iald E (jd dk_X6_facing_0 29 rfl) e18 ?_
      refine J_iload_n E (jd dk_X6_facing_0 30 rfl) rfl 1 rfl ?_
      refine J_icmp_ne (tgt := 68) E (jd dk_X6_facing_0 31 rfl) (by decide) (fun c19 => ?_) (fun c19 => ?_)
      · replace hf := jif_f c19 hf
        exact lk_X6_facing_b68 E hX hr htab N hf kb ke0
      · replace hf := jif_t c19 hf
        refine J_iload_n E (jd dk_X6_facing_0 32 rfl) rfl 2 rfl ?_
        refine J_iconst (v := 1) E (jd dk_X6_facing_0 33 rfl) rfl ?_
        refine J_iload E (jd dk_X6_facing_0 34 rfl) 3 rfl ?_
        refine J_ishl E (jd dk_X6_facing_0 35 rfl) ?_
        refine J_ior E (jd dk_X6_facing_0 36 rfl) ?_
        refine J_istore_n (lv' := [(3, .int (v3 ||| ((1 : Int32) <<< (v4 &&& 31)))), (0, .ref v0), (1, .int v1), (4, .int v4)]) E (jd dk_X6_facing_0 37 rfl) rfl (by decide) rfl ?_
        refine J_sub [1, 2, 0, 3] rfl ?_
        exact lk_X6_facing_b68 E hX hr htab N hf kb ke0
set_option maxRecDepth 100000 in
set_option maxHeartbeats 4000000 in
theorem lk_X6_facing_b22 {G : JG} {X : JX} (E : jE G X (RX6, cX6_facing, 5)) (hX : X.2.2.2.1 = jRm 7 2 12) (hr : X.2.2.2.2.2.2.2.2.1.sig.returnType = (some .int)) (htab : ∀ x ∈ X.2.2.2.2.2.2.2.2.2.exceptionTable.toList, False) (N : Nat) {v0 : Nat} {v1 : Int32} {v3 : Int32} {v4 : Int32} {h : AH}  {r : ((Nat ⊕ Int32) × AH)} (hf : f_X6_facing_b22 N v0 v1 v3 v4 h = some r) : JW G X (RX6, cX6_facing, 5) h [(0, .ref v0), (1, .int v1), (3, .int v3), (4, .int v4)] [] 22 2 12 (jEndX G X (jpXi r) (jpXx r) 2 12) := by
  unfold f_X6_facing_b22 at hf
  obtain ⟨q1, h1, hf⟩ := jbind hf
  refine jloop (P := fun s => JW G X (RX6, cX6_facing, 5) s.2.2 [(0, .ref v0), (1, .int v1), (3, .int s.1), (4, .int s.2.1)] [] 22 2 12 (jEndX G X (jpXi r) (jpXx r) 2 12)) (Ex := fun (e : Int32 × AH) => JW G X (RX6, cX6_facing, 5) e.2 [(3, .int e.1)] [] 74 2 12 (jEndX G X (jpXi r) (jpXx r) 2 12)) (fun s q hs hb hx => lk_X6_facing_l22 E hX hr htab N hs (fun s' hs => hb s' hs) (fun e he => hx e he)) N _ q1 h1 ?_
  generalize q1 = e at hf ⊢
  refine J_iload_n E (jd dk_X6_facing_0 40 rfl) rfl 0 rfl ?_
  cases hf
  exact J_x (J_iret E hr rfl (jd dk_X6_facing_0 41 rfl) (by decide) (by decide) ⟨_, rfl, rfl, rfl⟩)
set_option maxRecDepth 100000 in
set_option maxHeartbeats 4000000 in
theorem lk_X6_facing {G : JG} {l : Launch} (hG : jG G) (htr : l.stackTraces = false) (N : Nat) {h : AH} {a0 : Nat} {a1 : Int32} {a2 : Int32} {r : ((Nat ⊕ Int32) × AH)} (hf : f_X6_facing N h a0 a1 a2 = some r) : jMetX G l yX6_facing cX6_facing 5 (some .int) 7 2 12 [.ref a0, .int a1, .int a2] h (jpXi r) (jpXx r) := by
  unfold f_X6_facing at hf
  refine jMetX_of hG htr (by decide) (Nat.le_of_ble_eq_true rfl) ?_
  intro X E hl9 hr hX htab
  show JW G X (RX6, cX6_facing, 5) h [(0, .ref a0), (1, .int a1), (2, .int a2)] [] 0 0 0 (jEndX G X (jpXi r) (jpXx r) 2 12)
  refine J_aload_n E (jd dk_X6_facing_0 0 rfl) rfl 0 rfl ?_
  refine J_iload_n E (jd dk_X6_facing_0 1 rfl) rfl 1 rfl ?_
  obtain ⟨u22, e23, hf⟩ := jbind hf
  obtain ⟨r20, e21, hf⟩ := jbind hf
  obtain ⟨r20a, r20b⟩ := r20
  refine J_callVX E (jd dk_X6_facing_0 2 rfl) ml_RX6_209 cal_X6_needSide e23 rfl (lk_X6_needSide (jE_g E) (jE_tr E) N e21) rfl (Nat.le_of_ble_eq_true rfl) (jR_le hX (by decide) (by decide)) (jFx hX (by decide) (by decide)) rfl ?_ ?_
  rotate_left
  · rintro _ _ ⟨k9, rfl, rfl, rfl⟩
    replace hf := Option.some.inj hf
    subst hf
    exact J_out E htab (by decide) (by decide) ⟨_, rfl, rfl, rfl⟩
  rintro _ _ ⟨rfl, rfl, rfl⟩
  replace hf : _ = some _ := hf
  refine J_iload_n E (jd dk_X6_facing_0 3 rfl) rfl 2 rfl ?_
  refine J_iconst (v := 0) E (jd dk_X6_facing_0 4 rfl) rfl ?_
  refine J_bipush (v := 60) E (jd dk_X6_facing_0 5 rfl) (by decide) ?_
  obtain ⟨r25, e26, hf⟩ := jbind hf
  obtain ⟨r25a, r25b⟩ := r25
  refine J_callSX E (jd dk_X6_facing_0 6 rfl) ml_RX6_216 cal_X6_needSteps (lk_X6_needSteps (jE_g E) (jE_tr E) N e26) rfl (Nat.le_of_ble_eq_true rfl) (jR_le hX (by decide) (by decide)) (jFx hX (by decide) (by decide)) rfl ?_ ?_
  rotate_left
  · rintro _ _ ⟨k9, rfl, rfl, rfl⟩
    replace hf := Option.some.inj hf
    subst hf
    exact J_out E htab (by decide) (by decide) ⟨_, rfl, rfl, rfl⟩
  rintro _ _ ⟨rfl, rfl, rfl⟩
  replace hf : _ = some _ := hf
  refine J_aload_n E (jd dk_X6_facing_0 7 rfl) rfl 0 rfl ?_
  refine J_iload_n E (jd dk_X6_facing_0 8 rfl) rfl 2 rfl ?_
  obtain ⟨u30, e31, hf⟩ := jbind hf
  obtain ⟨r28, e29, hf⟩ := jbind hf
  refine J_callV E (jd dk_X6_facing_0 9 rfl) ml_RX6_220 cal_X6_tryFor e31 rfl (lk_X6_tryFor (jE_g E) (jE_tr E) N e29) rfl (Nat.le_of_ble_eq_true rfl) (jR_le hX (by decide) (by decide)) (jFx hX (by decide) (by decide)) rfl ?_
  rintro _ _ ⟨rfl, rfl⟩
  refine J_iconst (v := 0) E (jd dk_X6_facing_0 10 rfl) rfl ?_
  refine J_istore_n (lv' := [(3, .int 0), (0, .ref a0), (1, .int a1), (2, .int a2)]) E (jd dk_X6_facing_0 11 rfl) rfl (by decide) rfl ?_
  refine J_iconst (v := 0) E (jd dk_X6_facing_0 12 rfl) rfl ?_
  refine J_istore (lv' := [(4, .int 0), (3, .int 0), (0, .ref a0), (1, .int a1), (2, .int a2)]) E (jd dk_X6_facing_0 13 rfl) (by decide) rfl ?_
  refine J_sub [2, 3, 1, 0] rfl ?_
  exact lk_X6_facing_b22 E hX hr htab N hf
def f_X6_agree_b93 (N : Nat) (v0 : Nat) (v1 : Int32) (v2 : Int32) (v3 : Int32) (v4 : Int32) (v5 : Int32) (h : AH) : Option ((Int32 × Int32 × AH) ⊕ ((Int32 × AH))) :=
  some (.inl ((v4, v5 + 1, h)))
def f_X6_agree_l27 (N : Nat) (v0 : Nat) (v1 : Int32) (v2 : Int32) (v3 : Int32) (v4 : Int32) (v5 : Int32) (h : AH) : Option ((Int32 × Int32 × AH) ⊕ ((Int32 × AH))) :=
  if v3 < v5 then some (.inr ((v4, h)))
  else (jgr 6 h v0 8).bind fun x2 =>
  (jgr 6 h v0 4).bind fun x4 =>
  (jck 5 h x2).bind fun _ =>
  (f_X5_pass N h x2 x4 0).bind fun r6 =>
  (jgr 6 r6 v0 8).bind fun x10 =>
  (jgr 5 r6 x10 1).bind fun x12 =>
  (jal 0 r6 x12 v1).bind fun x14 =>
  if x14 < 0 then f_X6_agree_b93 N v0 v1 v2 v3 v4 v5 r6
  else (jgr 6 r6 v0 8).bind fun x17 =>
  (jgr 5 r6 x17 1).bind fun x19 =>
  (jal 0 r6 x19 v2).bind fun x21 =>
  if x21 < 0 then f_X6_agree_b93 N v0 v1 v2 v3 v4 v5 r6
  else (jgr 6 r6 v0 8).bind fun x24 =>
  (jgr 5 r6 x24 2).bind fun x26 =>
  (jal 0 r6 x26 v1).bind fun x28 =>
  (jgr 6 r6 v0 8).bind fun x30 =>
  (jgr 5 r6 x30 2).bind fun x32 =>
  (jal 0 r6 x32 v2).bind fun x34 =>
  if x28 = x34 then f_X6_agree_b93 N v0 v1 v2 v3 (v4 + 1) v5 r6
  else f_X6_agree_b93 N v0 v1 v2 v3 v4 v5 r6
def f_X6_agree_b27 (N : Nat) (v0 : Nat) (v1 : Int32) (v2 : Int32) (v3 : Int32) (v4 : Int32) (v5 : Int32) (h : AH) : Option ((Nat ⊕ Int32) × AH) :=
  (itr (fun s => f_X6_agree_l27 N v0 v1 v2 v3 s.1 s.2.1 s.2.2) N (v4, v5, h)).bind (fun e => some (.inr e.1, e.2))
def f_X6_agree (N : Nat) (h : AH) (a0 : Nat) (a1 : Int32) (a2 : Int32) (a3 : Int32) : Option ((Nat ⊕ Int32) × AH) :=
  (jck 6 h a0).bind fun _ =>
  (f_X6_needJudge N h a0 a1).bind fun r37 => Sum.elim (fun k => some (.inl k, r37.2)) (fun _ =>
  (jck 6 r37.2 a0).bind fun _ =>
  (f_X6_needJudge N r37.2 a0 a2).bind fun r42 => Sum.elim (fun k => some (.inl k, r42.2)) (fun _ =>
  (f_X6_needSteps N r42.2 a3 1 60).bind fun r47 => Sum.elim (fun k => some (.inl k, r47.2)) (fun _ =>
  (jck 6 r47.2 a0).bind fun _ =>
  (f_X6_tryFromNow N r47.2 a0).bind fun r50 =>
  f_X6_agree_b27 N a0 a1 a2 a3 0 1 r50) r47.1) r42.1) r37.1
set_option maxRecDepth 100000 in
set_option maxHeartbeats 4000000 in
theorem lk_X6_agree_b93 {G : JG} {X : JX} (E : jE G X (RX6, cX6_agree, 6)) (hX : X.2.2.2.1 = jRm 5 3 18) (hr : X.2.2.2.2.2.2.2.2.1.sig.returnType = (some .int)) (htab : ∀ x ∈ X.2.2.2.2.2.2.2.2.2.exceptionTable.toList, False) (N : Nat) {Q : State → Prop} {v0 : Nat} {v1 : Int32} {v2 : Int32} {v3 : Int32} {v4 : Int32} {v5 : Int32} {h : AH}  {q : ((Int32 × Int32 × AH) ⊕ ((Int32 × AH)))} (hf : f_X6_agree_b93 N v0 v1 v2 v3 v4 v5 h = some q) (kb : ∀ s' : Int32 × Int32 × AH, q = .inl s' → JW G X (RX6, cX6_agree, 6) s'.2.2 [(0, .ref v0), (1, .int v1), (2, .int v2), (3, .int v3), (4, .int s'.1), (5, .int s'.2.1)] [] 27 3 18 Q) (ke0 : ∀ e : Int32 × AH, q = .inr e → JW G X (RX6, cX6_agree, 6) e.2 [(4, .int e.1)] [] 99 3 18 Q) : JW G X (RX6, cX6_agree, 6) h [(0, .ref v0), (1, .int v1), (2, .int v2), (3, .int v3), (4, .int v4), (5, .int v5)] [] 93 3 18 Q := by
  unfold f_X6_agree_b93 at hf
  refine J_iinc (v := v5 + 1) (lv' := [(5, .int (v5 + 1)), (0, .ref v0), (1, .int v1), (2, .int v2), (3, .int v3), (4, .int v4)]) E (jd dk_X6_agree_0 49 rfl) 5 rfl rfl (by decide) rfl ?_
  refine J_goto (tgt := 27) E (jd dk_X6_agree_1 0 rfl) (by decide) ?_
  refine J_sub [1, 2, 3, 4, 5, 0] rfl ?_
  exact kb _ (Option.some.inj hf).symm
set_option maxRecDepth 100000 in
set_option maxHeartbeats 4000000 in
theorem lk_X6_agree_l27 {G : JG} {X : JX} (E : jE G X (RX6, cX6_agree, 6)) (hX : X.2.2.2.1 = jRm 5 3 18) (hr : X.2.2.2.2.2.2.2.2.1.sig.returnType = (some .int)) (htab : ∀ x ∈ X.2.2.2.2.2.2.2.2.2.exceptionTable.toList, False) (N : Nat) {Q : State → Prop} {v0 : Nat} {v1 : Int32} {v2 : Int32} {v3 : Int32} {v4 : Int32} {v5 : Int32}  {h : AH} {q : ((Int32 × Int32 × AH) ⊕ ((Int32 × AH)))} (hf : f_X6_agree_l27 N v0 v1 v2 v3 v4 v5 h = some q) (kb : ∀ s' : Int32 × Int32 × AH, q = .inl s' → JW G X (RX6, cX6_agree, 6) s'.2.2 [(0, .ref v0), (1, .int v1), (2, .int v2), (3, .int v3), (4, .int s'.1), (5, .int s'.2.1)] [] 27 3 18 Q) (ke0 : ∀ e : Int32 × AH, q = .inr e → JW G X (RX6, cX6_agree, 6) e.2 [(4, .int e.1)] [] 99 3 18 Q) : JW G X (RX6, cX6_agree, 6) h [(0, .ref v0), (1, .int v1), (2, .int v2), (3, .int v3), (4, .int v4), (5, .int v5)] [] 27 3 18 Q := by
  unfold f_X6_agree_l27 at hf
  refine J_iload E (jd dk_X6_agree_0 16 rfl) 5 rfl ?_
  refine J_iload_n E (jd dk_X6_agree_0 17 rfl) rfl 3 rfl ?_
  refine J_icmp_gt (tgt := 99) E (jd dk_X6_agree_0 18 rfl) (by decide) (fun c1 => ?_) (fun c1 => ?_)
  · replace hf := jif_t c1 hf
    refine J_sub [4] rfl ?_
    exact ke0 _ (Option.some.inj hf).symm
  · replace hf := jif_f c1 hf
    refine J_aload_n E (jd dk_X6_agree_0 19 rfl) rfl 0 rfl ?_
    obtain ⟨x2, e3, hf⟩ := jbind hf
    refine J_getr E (jd dk_X6_agree_0 20 rfl) fl_RX6_51 e3 ?_
    refine J_aload_n E (jd dk_X6_agree_0 21 rfl) rfl 0 rfl ?_
    obtain ⟨x4, e5, hf⟩ := jbind hf
    refine J_getr E (jd dk_X6_agree_0 22 rfl) fl_RX6_30 e5 ?_
    refine J_iconst (v := 0) E (jd dk_X6_agree_0 23 rfl) rfl ?_
    obtain ⟨u8, e9, hf⟩ := jbind hf
    obtain ⟨r6, e7, hf⟩ := jbind hf
    refine J_callV E (jd dk_X6_agree_0 24 rfl) ml_RX6_201 cal_X5_pass e9 rfl (lk_X5_pass (jE_g E) (jE_tr E) N e7) rfl (Nat.le_of_ble_eq_true rfl) (jR_le hX (by decide) (by decide)) (jFx hX (by decide) (by decide)) rfl ?_
    rintro _ _ ⟨rfl, rfl⟩
    refine J_aload_n E (jd dk_X6_agree_0 25 rfl) rfl 0 rfl ?_
    obtain ⟨x10, e11, hf⟩ := jbind hf
    refine J_getr E (jd dk_X6_agree_0 26 rfl) fl_RX6_51 e11 ?_
    obtain ⟨x12, e13, hf⟩ := jbind hf
    refine J_getr E (jd dk_X6_agree_0 27 rfl) fl_RX6_179 e13 ?_
    refine J_iload_n E (jd dk_X6_agree_0 28 rfl) rfl 1 rfl ?_
    obtain ⟨x14, e15, hf⟩ := jbind hf
    refine J_iald E (jd dk_X6_agree_0 29 rfl) e15 ?_
    refine J_if_lt (tgt := 93) E (jd dk_X6_agree_0 30 rfl) (by decide) (fun c16 => ?_) (fun c16 => ?_)
    · replace hf := jif_t c16 hf
      exact lk_X6_agree_b93 E hX hr htab N hf kb ke0
    · replace hf := jif_f c16 hf
      refine J_aload_n E (jd dk_X6_agree_0 31 rfl) rfl 0 rfl ?_
      obtain ⟨x17, e18, hf⟩ := jbind hf
      refine J_getr E (jd dk_X6_agree_0 32 rfl) fl_RX6_51 e18 ?_
      obtain ⟨x19, e20, hf⟩ := jbind hf
      refine J_getr E (jd dk_X6_agree_0 33 rfl) fl_RX6_179 e20 ?_
      refine J_iload_n E (jd dk_X6_agree_0 34 rfl) rfl 2 rfl ?_
      obtain ⟨x21, e22, hf⟩ := jbind hf
      refine J_iald E (jd dk_X6_agree_0 35 rfl) e22 ?_
      refine J_if_lt (tgt := 93) E (jd dk_X6_agree_0 36 rfl) (by decide) (fun c23 => ?_) (fun c23 => ?_)
      · replace hf := jif_t c23 hf
        exact lk_X6_agree_b93 E hX hr htab N hf kb ke0
      · replace hf := jif_f c23 hf
        refine J_aload_n E (jd dk_X6_agree_0 37 rfl) rfl 0 rfl ?_
        obtain ⟨x24, e25, hf⟩ := jbind hf
        refine J_getr E (jd dk_X6_agree_0 38 rfl) fl_RX6_51 e25 ?_
        obtain ⟨x26, e27, hf⟩ := jbind hf
        refine J_getr E (jd dk_X6_agree_0 39 rfl) fl_RX6_182 e27 ?_
        refine J_iload_n E (jd dk_X6_agree_0 40 rfl) rfl 1 rfl ?_
        obtain ⟨x28, e29, hf⟩ := jbind hf
        refine J_iald E (jd dk_X6_agree_0 41 rfl) e29 ?_
        refine J_aload_n E (jd dk_X6_agree_0 42 rfl) rfl 0 rfl ?_
        obtain ⟨x30, e31, hf⟩ := jbind hf
        refine J_getr E (jd dk_X6_agree_0 43 rfl) fl_RX6_51 e31 ?_
        obtain ⟨x32, e33, hf⟩ := jbind hf
        refine J_getr E (jd dk_X6_agree_0 44 rfl) fl_RX6_182 e33 ?_
        refine J_iload_n E (jd dk_X6_agree_0 45 rfl) rfl 2 rfl ?_
        obtain ⟨x34, e35, hf⟩ := jbind hf
        refine J_iald E (jd dk_X6_agree_0 46 rfl) e35 ?_
        refine J_icmp_ne (tgt := 93) E (jd dk_X6_agree_0 47 rfl) (by decide) (fun c36 => ?_) (fun c36 => ?_)
        · replace hf := jif_f c36 hf
          exact lk_X6_agree_b93 E hX hr htab N hf kb ke0
        · replace hf := jif_t c36 hf
          refine J_iinc (v := v4 + 1) (lv' := [(4, .int (v4 + 1)), (0, .ref v0), (1, .int v1), (2, .int v2), (3, .int v3), (5, .int v5)]) E (jd dk_X6_agree_0 48 rfl) 4 rfl rfl (by decide) rfl ?_
          refine J_sub [1, 2, 3, 4, 0, 5] rfl ?_
          exact lk_X6_agree_b93 E hX hr htab N hf kb ke0
set_option maxRecDepth 100000 in
set_option maxHeartbeats 4000000 in
theorem lk_X6_agree_b27 {G : JG} {X : JX} (E : jE G X (RX6, cX6_agree, 6)) (hX : X.2.2.2.1 = jRm 5 3 18) (hr : X.2.2.2.2.2.2.2.2.1.sig.returnType = (some .int)) (htab : ∀ x ∈ X.2.2.2.2.2.2.2.2.2.exceptionTable.toList, False) (N : Nat) {v0 : Nat} {v1 : Int32} {v2 : Int32} {v3 : Int32} {v4 : Int32} {v5 : Int32} {h : AH}  {r : ((Nat ⊕ Int32) × AH)} (hf : f_X6_agree_b27 N v0 v1 v2 v3 v4 v5 h = some r) : JW G X (RX6, cX6_agree, 6) h [(0, .ref v0), (1, .int v1), (2, .int v2), (3, .int v3), (4, .int v4), (5, .int v5)] [] 27 3 18 (jEndX G X (jpXi r) (jpXx r) 3 18) := by
  unfold f_X6_agree_b27 at hf
  obtain ⟨q1, h1, hf⟩ := jbind hf
  refine jloop (P := fun s => JW G X (RX6, cX6_agree, 6) s.2.2 [(0, .ref v0), (1, .int v1), (2, .int v2), (3, .int v3), (4, .int s.1), (5, .int s.2.1)] [] 27 3 18 (jEndX G X (jpXi r) (jpXx r) 3 18)) (Ex := fun (e : Int32 × AH) => JW G X (RX6, cX6_agree, 6) e.2 [(4, .int e.1)] [] 99 3 18 (jEndX G X (jpXi r) (jpXx r) 3 18)) (fun s q hs hb hx => lk_X6_agree_l27 E hX hr htab N hs (fun s' hs => hb s' hs) (fun e he => hx e he)) N _ q1 h1 ?_
  generalize q1 = e at hf ⊢
  refine J_iload E (jd dk_X6_agree_1 1 rfl) 0 rfl ?_
  cases hf
  exact J_x (J_iret E hr rfl (jd dk_X6_agree_1 2 rfl) (by decide) (by decide) ⟨_, rfl, rfl, rfl⟩)
set_option maxRecDepth 100000 in
set_option maxHeartbeats 4000000 in
theorem lk_X6_agree {G : JG} {l : Launch} (hG : jG G) (htr : l.stackTraces = false) (N : Nat) {h : AH} {a0 : Nat} {a1 : Int32} {a2 : Int32} {a3 : Int32} {r : ((Nat ⊕ Int32) × AH)} (hf : f_X6_agree N h a0 a1 a2 a3 = some r) : jMetX G l yX6_agree cX6_agree 6 (some .int) 5 3 18 [.ref a0, .int a1, .int a2, .int a3] h (jpXi r) (jpXx r) := by
  unfold f_X6_agree at hf
  refine jMetX_of hG htr (by decide) (Nat.le_of_ble_eq_true rfl) ?_
  intro X E hl9 hr hX htab
  show JW G X (RX6, cX6_agree, 6) h [(0, .ref a0), (1, .int a1), (2, .int a2), (3, .int a3)] [] 0 0 0 (jEndX G X (jpXi r) (jpXx r) 3 18)
  refine J_aload_n E (jd dk_X6_agree_0 0 rfl) rfl 0 rfl ?_
  refine J_iload_n E (jd dk_X6_agree_0 1 rfl) rfl 1 rfl ?_
  obtain ⟨u39, e40, hf⟩ := jbind hf
  obtain ⟨r37, e38, hf⟩ := jbind hf
  obtain ⟨r37a, r37b⟩ := r37
  refine J_callVX E (jd dk_X6_agree_0 2 rfl) ml_RX6_176 cal_X6_needJudge e40 rfl (lk_X6_needJudge (jE_g E) (jE_tr E) N e38) rfl (Nat.le_of_ble_eq_true rfl) (jR_le hX (by decide) (by decide)) (jFx hX (by decide) (by decide)) rfl ?_ ?_
  rotate_left
  · rintro _ _ ⟨k9, rfl, rfl, rfl⟩
    replace hf := Option.some.inj hf
    subst hf
    exact J_out E htab (by decide) (by decide) ⟨_, rfl, rfl, rfl⟩
  rintro _ _ ⟨rfl, rfl, rfl⟩
  replace hf : _ = some _ := hf
  refine J_aload_n E (jd dk_X6_agree_0 3 rfl) rfl 0 rfl ?_
  refine J_iload_n E (jd dk_X6_agree_0 4 rfl) rfl 2 rfl ?_
  obtain ⟨u44, e45, hf⟩ := jbind hf
  obtain ⟨r42, e43, hf⟩ := jbind hf
  obtain ⟨r42a, r42b⟩ := r42
  refine J_callVX E (jd dk_X6_agree_0 5 rfl) ml_RX6_176 cal_X6_needJudge e45 rfl (lk_X6_needJudge (jE_g E) (jE_tr E) N e43) rfl (Nat.le_of_ble_eq_true rfl) (jR_le hX (by decide) (by decide)) (jFx hX (by decide) (by decide)) rfl ?_ ?_
  rotate_left
  · rintro _ _ ⟨k9, rfl, rfl, rfl⟩
    replace hf := Option.some.inj hf
    subst hf
    exact J_out E htab (by decide) (by decide) ⟨_, rfl, rfl, rfl⟩
  rintro _ _ ⟨rfl, rfl, rfl⟩
  replace hf : _ = some _ := hf
  refine J_iload_n E (jd dk_X6_agree_0 6 rfl) rfl 3 rfl ?_
  refine J_iconst (v := 1) E (jd dk_X6_agree_0 7 rfl) rfl ?_
  refine J_bipush (v := 60) E (jd dk_X6_agree_0 8 rfl) (by decide) ?_
  obtain ⟨r47, e48, hf⟩ := jbind hf
  obtain ⟨r47a, r47b⟩ := r47
  refine J_callSX E (jd dk_X6_agree_0 9 rfl) ml_RX6_216 cal_X6_needSteps (lk_X6_needSteps (jE_g E) (jE_tr E) N e48) rfl (Nat.le_of_ble_eq_true rfl) (jR_le hX (by decide) (by decide)) (jFx hX (by decide) (by decide)) rfl ?_ ?_
  rotate_left
  · rintro _ _ ⟨k9, rfl, rfl, rfl⟩
    replace hf := Option.some.inj hf
    subst hf
    exact J_out E htab (by decide) (by decide) ⟨_, rfl, rfl, rfl⟩
  rintro _ _ ⟨rfl, rfl, rfl⟩
  replace hf : _ = some _ := hf
  refine J_aload_n E (jd dk_X6_agree_0 10 rfl) rfl 0 rfl ?_
  obtain ⟨u52, e53, hf⟩ := jbind hf
  obtain ⟨r50, e51, hf⟩ := jbind hf
  refine J_callV E (jd dk_X6_agree_0 11 rfl) ml_RX6_223 cal_X6_tryFromNow e53 rfl (lk_X6_tryFromNow (jE_g E) (jE_tr E) N e51) rfl (Nat.le_of_ble_eq_true rfl) (jR_le hX (by decide) (by decide)) (jFx hX (by decide) (by decide)) rfl ?_
  rintro _ _ ⟨rfl, rfl⟩
  refine J_iconst (v := 0) E (jd dk_X6_agree_0 12 rfl) rfl ?_
  refine J_istore (lv' := [(4, .int 0), (0, .ref a0), (1, .int a1), (2, .int a2), (3, .int a3)]) E (jd dk_X6_agree_0 13 rfl) (by decide) rfl ?_
  refine J_iconst (v := 1) E (jd dk_X6_agree_0 14 rfl) rfl ?_
  refine J_istore (lv' := [(5, .int 1), (4, .int 0), (0, .ref a0), (1, .int a1), (2, .int a2), (3, .int a3)]) E (jd dk_X6_agree_0 15 rfl) (by decide) rfl ?_
  refine J_sub [2, 3, 4, 5, 1, 0] rfl ?_
  exact lk_X6_agree_b27 E hX hr htab N hf
def f_X6_see_b42 (N : Nat) (v0 : Nat) (h : AH) : Option ((Nat ⊕ Int32) × AH) :=
  (jck 6 h v0).bind fun _ =>
  (f_X6_refuse N h v0 2).bind fun r1 =>
  some (.inr r1.1, r1.2)
def f_X6_see (N : Nat) (h : AH) (a0 : Nat) (a1 : Int32) (a2 : Int32) (a3 : Int32) : Option ((Nat ⊕ Int32) × AH) :=
  (jck 6 h a0).bind fun _ =>
  (f_X6_needJudge N h a0 a1).bind fun r5 => Sum.elim (fun k => some (.inl k, r5.2)) (fun _ =>
  (jgr 6 r5.2 a0 5).bind fun x10 =>
  (jgi 0 r5.2 x10 3).bind fun x12 =>
  if 8 ≤ x12 then f_X6_see_b42 N a0 r5.2
  else if a2 < 0 then f_X6_see_b42 N a0 r5.2
  else if 20 < a2 then f_X6_see_b42 N a0 r5.2
  else if a3 < 0 then f_X6_see_b42 N a0 r5.2
  else (jgr 6 r5.2 a0 4).bind fun x18 =>
  (jgi 1 r5.2 x18 0).bind fun x20 =>
  if a3 < x20 then (jgr 6 r5.2 a0 5).bind fun x23 =>
  (jck 0 r5.2 x23).bind fun _ =>
  (f_X0_keepSighting N r5.2 x23 a1 a2 a3).bind fun r25 =>
  (jgr 6 r25 a0 5).bind fun x29 =>
  (jgi 0 r25 x29 3).bind fun x31 =>
  some (.inr x31, r25)
  else f_X6_see_b42 N a0 r5.2) r5.1
set_option maxRecDepth 100000 in
set_option maxHeartbeats 4000000 in
theorem lk_X6_see_b42 {G : JG} {X : JX} (E : jE G X (RX6, cX6_see, 4)) (hX : X.2.2.2.1 = jRm 2 1 6) (hr : X.2.2.2.2.2.2.2.2.1.sig.returnType = (some .int)) (htab : ∀ x ∈ X.2.2.2.2.2.2.2.2.2.exceptionTable.toList, False) (N : Nat) {v0 : Nat} {h : AH}  {r : ((Nat ⊕ Int32) × AH)} (hf : f_X6_see_b42 N v0 h = some r) : JW G X (RX6, cX6_see, 4) h [(0, .ref v0)] [] 42 1 6 (jEndX G X (jpXi r) (jpXx r) 1 6) := by
  unfold f_X6_see_b42 at hf
  refine J_aload_n E (jd dk_X6_see_0 20 rfl) rfl 0 rfl ?_
  refine J_iconst (v := 2) E (jd dk_X6_see_0 21 rfl) rfl ?_
  obtain ⟨u3, e4, hf⟩ := jbind hf
  obtain ⟨r1, e2, hf⟩ := jbind hf
  refine J_callV E (jd dk_X6_see_0 22 rfl) ml_RX6_195 cal_X6_refuse e4 rfl (lk_X6_refuse (jE_g E) (jE_tr E) N e2) rfl (Nat.le_of_ble_eq_true rfl) (jR_le hX (by decide) (by decide)) (jFx hX (by decide) (by decide)) rfl ?_
  rintro _ _ ⟨rfl, rfl⟩
  cases hf
  exact J_x (J_iret E hr rfl (jd dk_X6_see_0 23 rfl) (by decide) (by decide) ⟨_, rfl, rfl, rfl⟩)
set_option maxRecDepth 100000 in
set_option maxHeartbeats 4000000 in
theorem lk_X6_see {G : JG} {l : Launch} (hG : jG G) (htr : l.stackTraces = false) (N : Nat) {h : AH} {a0 : Nat} {a1 : Int32} {a2 : Int32} {a3 : Int32} {r : ((Nat ⊕ Int32) × AH)} (hf : f_X6_see N h a0 a1 a2 a3 = some r) : jMetX G l yX6_see cX6_see 4 (some .int) 2 1 6 [.ref a0, .int a1, .int a2, .int a3] h (jpXi r) (jpXx r) := by
  unfold f_X6_see at hf
  refine jMetX_of hG htr (by decide) (Nat.le_of_ble_eq_true rfl) ?_
  intro X E hl9 hr hX htab
  show JW G X (RX6, cX6_see, 4) h [(0, .ref a0), (1, .int a1), (2, .int a2), (3, .int a3)] [] 0 0 0 (jEndX G X (jpXi r) (jpXx r) 1 6)
  refine J_aload_n E (jd dk_X6_see_0 0 rfl) rfl 0 rfl ?_
  refine J_iload_n E (jd dk_X6_see_0 1 rfl) rfl 1 rfl ?_
  obtain ⟨u7, e8, hf⟩ := jbind hf
  obtain ⟨r5, e6, hf⟩ := jbind hf
  obtain ⟨r5a, r5b⟩ := r5
  refine J_callVX E (jd dk_X6_see_0 2 rfl) ml_RX6_176 cal_X6_needJudge e8 rfl (lk_X6_needJudge (jE_g E) (jE_tr E) N e6) rfl (Nat.le_of_ble_eq_true rfl) (jR_le hX (by decide) (by decide)) (jFx hX (by decide) (by decide)) rfl ?_ ?_
  rotate_left
  · rintro _ _ ⟨k9, rfl, rfl, rfl⟩
    replace hf := Option.some.inj hf
    subst hf
    exact J_out E htab (by decide) (by decide) ⟨_, rfl, rfl, rfl⟩
  rintro _ _ ⟨rfl, rfl, rfl⟩
  replace hf : _ = some _ := hf
  refine J_aload_n E (jd dk_X6_see_0 3 rfl) rfl 0 rfl ?_
  obtain ⟨x10, e11, hf⟩ := jbind hf
  refine J_getr E (jd dk_X6_see_0 4 rfl) fl_RX6_37 e11 ?_
  obtain ⟨x12, e13, hf⟩ := jbind hf
  refine J_geti E (jd dk_X6_see_0 5 rfl) fl_RX6_139 e13 ?_
  refine J_bipush (v := 8) E (jd dk_X6_see_0 6 rfl) (by decide) ?_
  refine J_icmp_ge (tgt := 42) E (jd dk_X6_see_0 7 rfl) (by decide) (fun c14 => ?_) (fun c14 => ?_)
  · replace hf := jif_t c14 hf
    refine J_sub [0] rfl ?_
    exact lk_X6_see_b42 E hX hr htab N hf
  · replace hf := jif_f c14 hf
    refine J_iload_n E (jd dk_X6_see_0 8 rfl) rfl 2 rfl ?_
    refine J_if_lt (tgt := 42) E (jd dk_X6_see_0 9 rfl) (by decide) (fun c15 => ?_) (fun c15 => ?_)
    · replace hf := jif_t c15 hf
      refine J_sub [0] rfl ?_
      exact lk_X6_see_b42 E hX hr htab N hf
    · replace hf := jif_f c15 hf
      refine J_iload_n E (jd dk_X6_see_0 10 rfl) rfl 2 rfl ?_
      refine J_bipush (v := 20) E (jd dk_X6_see_0 11 rfl) (by decide) ?_
      refine J_icmp_gt (tgt := 42) E (jd dk_X6_see_0 12 rfl) (by decide) (fun c16 => ?_) (fun c16 => ?_)
      · replace hf := jif_t c16 hf
        refine J_sub [0] rfl ?_
        exact lk_X6_see_b42 E hX hr htab N hf
      · replace hf := jif_f c16 hf
        refine J_iload_n E (jd dk_X6_see_0 13 rfl) rfl 3 rfl ?_
        refine J_if_lt (tgt := 42) E (jd dk_X6_see_0 14 rfl) (by decide) (fun c17 => ?_) (fun c17 => ?_)
        · replace hf := jif_t c17 hf
          refine J_sub [0] rfl ?_
          exact lk_X6_see_b42 E hX hr htab N hf
        · replace hf := jif_f c17 hf
          refine J_iload_n E (jd dk_X6_see_0 15 rfl) rfl 3 rfl ?_
          refine J_aload_n E (jd dk_X6_see_0 16 rfl) rfl 0 rfl ?_
          obtain ⟨x18, e19, hf⟩ := jbind hf
          refine J_getr E (jd dk_X6_see_0 17 rfl) fl_RX6_30 e19 ?_
          obtain ⟨x20, e21, hf⟩ := jbind hf
          refine J_geti E (jd dk_X6_see_0 18 rfl) fl_RX6_104 e21 ?_
          refine J_icmp_lt (tgt := 48) E (jd dk_X6_see_0 19 rfl) (by decide) (fun c22 => ?_) (fun c22 => ?_)
          · replace hf := jif_t c22 hf
            refine J_aload_n E (jd dk_X6_see_0 24 rfl) rfl 0 rfl ?_
            obtain ⟨x23, e24, hf⟩ := jbind hf
            refine J_getr E (jd dk_X6_see_0 25 rfl) fl_RX6_37 e24 ?_
            refine J_iload_n E (jd dk_X6_see_0 26 rfl) rfl 1 rfl ?_
            refine J_iload_n E (jd dk_X6_see_0 27 rfl) rfl 2 rfl ?_
            refine J_iload_n E (jd dk_X6_see_0 28 rfl) rfl 3 rfl ?_
            obtain ⟨u27, e28, hf⟩ := jbind hf
            obtain ⟨r25, e26, hf⟩ := jbind hf
            refine J_callV E (jd dk_X6_see_0 29 rfl) ml_RX6_272 cal_X0_keepSighting e28 rfl (lk_X0_keepSighting (jE_g E) (jE_tr E) N e26) rfl (Nat.le_of_ble_eq_true rfl) (jR_le hX (by decide) (by decide)) (jFx hX (by decide) (by decide)) rfl ?_
            rintro _ _ ⟨rfl, rfl⟩
            refine J_aload_n E (jd dk_X6_see_0 30 rfl) rfl 0 rfl ?_
            obtain ⟨x29, e30, hf⟩ := jbind hf
            refine J_getr E (jd dk_X6_see_0 31 rfl) fl_RX6_37 e30 ?_
            obtain ⟨x31, e32, hf⟩ := jbind hf
            refine J_geti E (jd dk_X6_see_0 32 rfl) fl_RX6_139 e32 ?_
            cases hf
            exact J_x (J_iret E hr rfl (jd dk_X6_see_0 33 rfl) (by decide) (by decide) ⟨_, rfl, rfl, rfl⟩)
          · replace hf := jif_f c22 hf
            refine J_sub [0] rfl ?_
            exact lk_X6_see_b42 E hX hr htab N hf
def f_X6_sightingsHold_b88 (N : Nat) (v0 : Nat) (v1 : Int32) (v2 : Int32) (v3 : Int32) (h : AH) : Option ((Int32 × AH) ⊕ ((AH) ⊕ (AH))) :=
  some (.inl ((v3 + 1, h)))
def f_X6_sightingsHold_l33 (N : Nat) (v0 : Nat) (v1 : Int32) (v2 : Int32) (v3 : Int32) (h : AH) : Option ((Int32 × AH) ⊕ ((AH) ⊕ (AH))) :=
  (jgr 6 h v0 5).bind fun x1 =>
  (jgi 0 h x1 3).bind fun x3 =>
  if x3 ≤ v3 then some (.inr (.inr h))
  else (jgr 6 h v0 5).bind fun x6 =>
  (jgr 0 h x6 5).bind fun x8 =>
  (jal 0 h x8 v3).bind fun x10 =>
  if x10 = v2 then (jgr 6 h v0 8).bind fun x13 =>
  (jgr 5 h x13 2).bind fun x15 =>
  (jgr 6 h v0 5).bind fun x17 =>
  (jgr 0 h x17 4).bind fun x19 =>
  (jal 0 h x19 v3).bind fun x21 =>
  (jal 0 h x15 x21).bind fun x23 =>
  (jgr 6 h v0 5).bind fun x25 =>
  (jgr 0 h x25 6).bind fun x27 =>
  (jal 0 h x27 v3).bind fun x29 =>
  if x23 = x29 then f_X6_sightingsHold_b88 N v0 v1 v2 v3 h
  else some (.inr (.inl h))
  else f_X6_sightingsHold_b88 N v0 v1 v2 v3 h
def f_X6_sightingsHold_b33 (N : Nat) (v0 : Nat) (v1 : Int32) (v2 : Int32) (v3 : Int32) (h : AH) : Option ((Int32 × AH) ⊕ ((AH) ⊕ (AH))) :=
  (itr (fun s => f_X6_sightingsHold_l33 N v0 v1 v2 s.1 s.2) N (v3, h)).bind (Sum.elim (fun e => some (.inr (.inl e))) (fun e => some (.inl ((v2 + 1, e)))))
def f_X6_sightingsHold_b31 (N : Nat) (v0 : Nat) (v1 : Int32) (v2 : Int32) (h : AH) : Option ((Int32 × AH) ⊕ ((AH) ⊕ (AH))) :=
  f_X6_sightingsHold_b33 N v0 v1 v2 0 h
def f_X6_sightingsHold_l10 (N : Nat) (v0 : Nat) (v1 : Int32) (v2 : Int32) (h : AH) : Option ((Int32 × AH) ⊕ ((AH) ⊕ (AH))) :=
  if v1 < v2 then some (.inr (.inr h))
  else if v2 ≤ 0 then f_X6_sightingsHold_b31 N v0 v1 v2 h
  else (jgr 6 h v0 8).bind fun x34 =>
  (jgr 6 h v0 4).bind fun x36 =>
  (jck 5 h x34).bind fun _ =>
  (f_X5_pass N h x34 x36 0).bind fun r38 =>
  f_X6_sightingsHold_b31 N v0 v1 v2 r38
def f_X6_sightingsHold_b10 (N : Nat) (v0 : Nat) (v1 : Int32) (v2 : Int32) (h : AH) : Option (Int32 × AH) :=
  (itr (fun s => f_X6_sightingsHold_l10 N v0 v1 s.1 s.2) N (v2, h)).bind (Sum.elim (fun e => some (0, e)) (fun e => some (1, e)))
def f_X6_sightingsHold (N : Nat) (h : AH) (a0 : Nat) : Option (Int32 × AH) :=
  (jgr 6 h a0 5).bind fun x42 =>
  (jck 0 h x42).bind fun _ =>
  (f_X0_lastSightingStep N h x42).bind fun r44 =>
  f_X6_sightingsHold_b10 N a0 r44.1 0 r44.2
set_option maxRecDepth 100000 in
set_option maxHeartbeats 4000000 in
theorem lk_X6_sightingsHold_b88 {G : JG} {X : JX} (E : jE G X (RX6, cX6_sightingsHold, 4)) (hX : X.2.2.2.1 = jRm 5 0 0) (hr : X.2.2.2.2.2.2.2.2.1.sig.returnType = (some .boolean)) (N : Nat) {Q : State → Prop} {v0 : Nat} {v1 : Int32} {v2 : Int32} {v3 : Int32} {h : AH}  {q : ((Int32 × AH) ⊕ ((AH) ⊕ (AH)))} (hf : f_X6_sightingsHold_b88 N v0 v1 v2 v3 h = some q) (kb : ∀ s' : Int32 × AH, q = .inl s' → JW G X (RX6, cX6_sightingsHold, 4) s'.2 [(0, .ref v0), (1, .int v1), (2, .int v2), (3, .int s'.1)] [] 33 0 0 Q) (ke0 : ∀ e : AH, q = .inr (.inl e) → JW G X (RX6, cX6_sightingsHold, 4) e [] [] 86 0 0 Q) (ke1 : ∀ e : AH, q = .inr (.inr e) → JW G X (RX6, cX6_sightingsHold, 4) e [(0, .ref v0), (1, .int v1), (2, .int v2)] [] 94 0 0 Q) : JW G X (RX6, cX6_sightingsHold, 4) h [(0, .ref v0), (1, .int v1), (2, .int v2), (3, .int v3)] [] 88 0 0 Q := by
  unfold f_X6_sightingsHold_b88 at hf
  refine J_iinc (v := v3 + 1) (lv' := [(3, .int (v3 + 1)), (0, .ref v0), (1, .int v1), (2, .int v2)]) E (jd dk_X6_sightingsHold_0 48 rfl) 3 rfl rfl (by decide) rfl ?_
  refine J_goto (tgt := 33) E (jd dk_X6_sightingsHold_0 49 rfl) (by decide) ?_
  refine J_sub [1, 2, 3, 0] rfl ?_
  exact kb _ (Option.some.inj hf).symm
set_option maxRecDepth 100000 in
set_option maxHeartbeats 4000000 in
theorem lk_X6_sightingsHold_l33 {G : JG} {X : JX} (E : jE G X (RX6, cX6_sightingsHold, 4)) (hX : X.2.2.2.1 = jRm 5 0 0) (hr : X.2.2.2.2.2.2.2.2.1.sig.returnType = (some .boolean)) (N : Nat) {Q : State → Prop} {v0 : Nat} {v1 : Int32} {v2 : Int32} {v3 : Int32}  {h : AH} {q : ((Int32 × AH) ⊕ ((AH) ⊕ (AH)))} (hf : f_X6_sightingsHold_l33 N v0 v1 v2 v3 h = some q) (kb : ∀ s' : Int32 × AH, q = .inl s' → JW G X (RX6, cX6_sightingsHold, 4) s'.2 [(0, .ref v0), (1, .int v1), (2, .int v2), (3, .int s'.1)] [] 33 0 0 Q) (ke0 : ∀ e : AH, q = .inr (.inl e) → JW G X (RX6, cX6_sightingsHold, 4) e [] [] 86 0 0 Q) (ke1 : ∀ e : AH, q = .inr (.inr e) → JW G X (RX6, cX6_sightingsHold, 4) e [(0, .ref v0), (1, .int v1), (2, .int v2)] [] 94 0 0 Q) : JW G X (RX6, cX6_sightingsHold, 4) h [(0, .ref v0), (1, .int v1), (2, .int v2), (3, .int v3)] [] 33 0 0 Q := by
  unfold f_X6_sightingsHold_l33 at hf
  refine J_iload_n E (jd dk_X6_sightingsHold_0 19 rfl) rfl 3 rfl ?_
  refine J_aload_n E (jd dk_X6_sightingsHold_0 20 rfl) rfl 0 rfl ?_
  obtain ⟨x1, e2, hf⟩ := jbind hf
  refine J_getr E (jd dk_X6_sightingsHold_0 21 rfl) fl_RX6_37 e2 ?_
  obtain ⟨x3, e4, hf⟩ := jbind hf
  refine J_geti E (jd dk_X6_sightingsHold_0 22 rfl) fl_RX6_139 e4 ?_
  refine J_icmp_ge (tgt := 94) E (jd dk_X6_sightingsHold_0 23 rfl) (by decide) (fun c5 => ?_) (fun c5 => ?_)
  · replace hf := jif_t c5 hf
    refine J_sub [0, 1, 2] rfl ?_
    exact ke1 _ (Option.some.inj hf).symm
  · replace hf := jif_f c5 hf
    refine J_aload_n E (jd dk_X6_sightingsHold_0 24 rfl) rfl 0 rfl ?_
    obtain ⟨x6, e7, hf⟩ := jbind hf
    refine J_getr E (jd dk_X6_sightingsHold_0 25 rfl) fl_RX6_37 e7 ?_
    obtain ⟨x8, e9, hf⟩ := jbind hf
    refine J_getr E (jd dk_X6_sightingsHold_0 26 rfl) fl_RX6_285 e9 ?_
    refine J_iload_n E (jd dk_X6_sightingsHold_0 27 rfl) rfl 3 rfl ?_
    obtain ⟨x10, e11, hf⟩ := jbind hf
    refine J_iald E (jd dk_X6_sightingsHold_0 28 rfl) e11 ?_
    refine J_iload_n E (jd dk_X6_sightingsHold_0 29 rfl) rfl 2 rfl ?_
    refine J_icmp_ne (tgt := 88) E (jd dk_X6_sightingsHold_0 30 rfl) (by decide) (fun c12 => ?_) (fun c12 => ?_)
    · replace hf := jif_f c12 hf
      exact lk_X6_sightingsHold_b88 E hX hr N hf kb ke0 ke1
    · replace hf := jif_t c12 hf
      refine J_aload_n E (jd dk_X6_sightingsHold_0 31 rfl) rfl 0 rfl ?_
      obtain ⟨x13, e14, hf⟩ := jbind hf
      refine J_getr E (jd dk_X6_sightingsHold_0 32 rfl) fl_RX6_51 e14 ?_
      obtain ⟨x15, e16, hf⟩ := jbind hf
      refine J_getr E (jd dk_X6_sightingsHold_0 33 rfl) fl_RX6_182 e16 ?_
      refine J_aload_n E (jd dk_X6_sightingsHold_0 34 rfl) rfl 0 rfl ?_
      obtain ⟨x17, e18, hf⟩ := jbind hf
      refine J_getr E (jd dk_X6_sightingsHold_0 35 rfl) fl_RX6_37 e18 ?_
      obtain ⟨x19, e20, hf⟩ := jbind hf
      refine J_getr E (jd dk_X6_sightingsHold_0 36 rfl) fl_RX6_288 e20 ?_
      refine J_iload_n E (jd dk_X6_sightingsHold_0 37 rfl) rfl 3 rfl ?_
      obtain ⟨x21, e22, hf⟩ := jbind hf
      refine J_iald E (jd dk_X6_sightingsHold_0 38 rfl) e22 ?_
      obtain ⟨x23, e24, hf⟩ := jbind hf
      refine J_iald E (jd dk_X6_sightingsHold_0 39 rfl) e24 ?_
      refine J_aload_n E (jd dk_X6_sightingsHold_0 40 rfl) rfl 0 rfl ?_
      obtain ⟨x25, e26, hf⟩ := jbind hf
      refine J_getr E (jd dk_X6_sightingsHold_0 41 rfl) fl_RX6_37 e26 ?_
      obtain ⟨x27, e28, hf⟩ := jbind hf
      refine J_getr E (jd dk_X6_sightingsHold_0 42 rfl) fl_RX6_291 e28 ?_
      refine J_iload_n E (jd dk_X6_sightingsHold_0 43 rfl) rfl 3 rfl ?_
      obtain ⟨x29, e30, hf⟩ := jbind hf
      refine J_iald E (jd dk_X6_sightingsHold_0 44 rfl) e30 ?_
      refine J_icmp_eq (tgt := 88) E (jd dk_X6_sightingsHold_0 45 rfl) (by decide) (fun c31 => ?_) (fun c31 => ?_)
      · replace hf := jif_t c31 hf
        exact lk_X6_sightingsHold_b88 E hX hr N hf kb ke0 ke1
      · replace hf := jif_f c31 hf
        refine J_sub [] rfl ?_
        exact ke0 _ (Option.some.inj hf).symm
set_option maxRecDepth 100000 in
set_option maxHeartbeats 4000000 in
theorem lk_X6_sightingsHold_b33 {G : JG} {X : JX} (E : jE G X (RX6, cX6_sightingsHold, 4)) (hX : X.2.2.2.1 = jRm 5 0 0) (hr : X.2.2.2.2.2.2.2.2.1.sig.returnType = (some .boolean)) (N : Nat) {Q : State → Prop} {v0 : Nat} {v1 : Int32} {v2 : Int32} {v3 : Int32} {h : AH}  {q : ((Int32 × AH) ⊕ ((AH) ⊕ (AH)))} (hf : f_X6_sightingsHold_b33 N v0 v1 v2 v3 h = some q) (kb : ∀ s' : Int32 × AH, q = .inl s' → JW G X (RX6, cX6_sightingsHold, 4) s'.2 [(0, .ref v0), (1, .int v1), (2, .int s'.1)] [] 10 0 0 Q) (ke0 : ∀ e : AH, q = .inr (.inl e) → JW G X (RX6, cX6_sightingsHold, 4) e [] [] 86 0 0 Q) (ke1 : ∀ e : AH, q = .inr (.inr e) → JW G X (RX6, cX6_sightingsHold, 4) e [] [] 100 0 0 Q) : JW G X (RX6, cX6_sightingsHold, 4) h [(0, .ref v0), (1, .int v1), (2, .int v2), (3, .int v3)] [] 33 0 0 Q := by
  unfold f_X6_sightingsHold_b33 at hf
  obtain ⟨q1, h1, hf⟩ := jbind hf
  refine jloop (P := fun s => JW G X (RX6, cX6_sightingsHold, 4) s.2 [(0, .ref v0), (1, .int v1), (2, .int v2), (3, .int s.1)] [] 33 0 0 Q) (Ex := Sum.elim (fun (e : AH) => JW G X (RX6, cX6_sightingsHold, 4) e [] [] 86 0 0 Q) (fun (e : AH) => JW G X (RX6, cX6_sightingsHold, 4) e [(0, .ref v0), (1, .int v1), (2, .int v2)] [] 94 0 0 Q)) (fun s q hs hb hx => lk_X6_sightingsHold_l33 E hX hr N hs (fun s' hs => hb s' hs) (fun e he => hx _ he) (fun e he => hx _ he)) N _ q1 h1 ?_
  rcases q1 with e | e
  · exact ke0 _ (Option.some.inj hf).symm
  · refine J_iinc (v := v2 + 1) (lv' := [(2, .int (v2 + 1)), (0, .ref v0), (1, .int v1)]) E (jd dk_X6_sightingsHold_1 0 rfl) 2 rfl rfl (by decide) rfl ?_
    refine J_goto (tgt := 10) E (jd dk_X6_sightingsHold_1 1 rfl) (by decide) ?_
    refine J_sub [1, 2, 0] rfl ?_
    exact kb _ (Option.some.inj hf).symm
set_option maxRecDepth 100000 in
set_option maxHeartbeats 4000000 in
theorem lk_X6_sightingsHold_b31 {G : JG} {X : JX} (E : jE G X (RX6, cX6_sightingsHold, 4)) (hX : X.2.2.2.1 = jRm 5 0 0) (hr : X.2.2.2.2.2.2.2.2.1.sig.returnType = (some .boolean)) (N : Nat) {Q : State → Prop} {v0 : Nat} {v1 : Int32} {v2 : Int32} {h : AH}  {q : ((Int32 × AH) ⊕ ((AH) ⊕ (AH)))} (hf : f_X6_sightingsHold_b31 N v0 v1 v2 h = some q) (kb : ∀ s' : Int32 × AH, q = .inl s' → JW G X (RX6, cX6_sightingsHold, 4) s'.2 [(0, .ref v0), (1, .int v1), (2, .int s'.1)] [] 10 0 0 Q) (ke0 : ∀ e : AH, q = .inr (.inl e) → JW G X (RX6, cX6_sightingsHold, 4) e [] [] 86 0 0 Q) (ke1 : ∀ e : AH, q = .inr (.inr e) → JW G X (RX6, cX6_sightingsHold, 4) e [] [] 100 0 0 Q) : JW G X (RX6, cX6_sightingsHold, 4) h [(0, .ref v0), (1, .int v1), (2, .int v2)] [] 31 0 0 Q := by
  unfold f_X6_sightingsHold_b31 at hf
  refine J_iconst (v := 0) E (jd dk_X6_sightingsHold_0 17 rfl) rfl ?_
  refine J_istore_n (lv' := [(3, .int 0), (0, .ref v0), (1, .int v1), (2, .int v2)]) E (jd dk_X6_sightingsHold_0 18 rfl) rfl (by decide) rfl ?_
  refine J_sub [1, 2, 3, 0] rfl ?_
  exact lk_X6_sightingsHold_b33 E hX hr N hf kb ke0 ke1
set_option maxRecDepth 100000 in
set_option maxHeartbeats 4000000 in
theorem lk_X6_sightingsHold_l10 {G : JG} {X : JX} (E : jE G X (RX6, cX6_sightingsHold, 4)) (hX : X.2.2.2.1 = jRm 5 0 0) (hr : X.2.2.2.2.2.2.2.2.1.sig.returnType = (some .boolean)) (N : Nat) {Q : State → Prop} {v0 : Nat} {v1 : Int32} {v2 : Int32}  {h : AH} {q : ((Int32 × AH) ⊕ ((AH) ⊕ (AH)))} (hf : f_X6_sightingsHold_l10 N v0 v1 v2 h = some q) (kb : ∀ s' : Int32 × AH, q = .inl s' → JW G X (RX6, cX6_sightingsHold, 4) s'.2 [(0, .ref v0), (1, .int v1), (2, .int s'.1)] [] 10 0 0 Q) (ke0 : ∀ e : AH, q = .inr (.inl e) → JW G X (RX6, cX6_sightingsHold, 4) e [] [] 86 0 0 Q) (ke1 : ∀ e : AH, q = .inr (.inr e) → JW G X (RX6, cX6_sightingsHold, 4) e [] [] 100 0 0 Q) : JW G X (RX6, cX6_sightingsHold, 4) h [(0, .ref v0), (1, .int v1), (2, .int v2)] [] 10 0 0 Q := by
  unfold f_X6_sightingsHold_l10 at hf
  refine J_iload_n E (jd dk_X6_sightingsHold_0 6 rfl) rfl 2 rfl ?_
  refine J_iload_n E (jd dk_X6_sightingsHold_0 7 rfl) rfl 1 rfl ?_
  refine J_icmp_gt (tgt := 100) E (jd dk_X6_sightingsHold_0 8 rfl) (by decide) (fun c32 => ?_) (fun c32 => ?_)
  · replace hf := jif_t c32 hf
    refine J_sub [] rfl ?_
    exact ke1 _ (Option.some.inj hf).symm
  · replace hf := jif_f c32 hf
    refine J_iload_n E (jd dk_X6_sightingsHold_0 9 rfl) rfl 2 rfl ?_
    refine J_if_le (tgt := 31) E (jd dk_X6_sightingsHold_0 10 rfl) (by decide) (fun c33 => ?_) (fun c33 => ?_)
    · replace hf := jif_t c33 hf
      exact lk_X6_sightingsHold_b31 E hX hr N hf kb ke0 ke1
    · replace hf := jif_f c33 hf
      refine J_aload_n E (jd dk_X6_sightingsHold_0 11 rfl) rfl 0 rfl ?_
      obtain ⟨x34, e35, hf⟩ := jbind hf
      refine J_getr E (jd dk_X6_sightingsHold_0 12 rfl) fl_RX6_51 e35 ?_
      refine J_aload_n E (jd dk_X6_sightingsHold_0 13 rfl) rfl 0 rfl ?_
      obtain ⟨x36, e37, hf⟩ := jbind hf
      refine J_getr E (jd dk_X6_sightingsHold_0 14 rfl) fl_RX6_30 e37 ?_
      refine J_iconst (v := 0) E (jd dk_X6_sightingsHold_0 15 rfl) rfl ?_
      obtain ⟨u40, e41, hf⟩ := jbind hf
      obtain ⟨r38, e39, hf⟩ := jbind hf
      refine J_callV E (jd dk_X6_sightingsHold_0 16 rfl) ml_RX6_201 cal_X5_pass e41 rfl (lk_X5_pass (jE_g E) (jE_tr E) N e39) rfl (Nat.le_of_ble_eq_true rfl) (jR_le hX (by decide) (by decide)) (jF0 hX) rfl ?_
      rintro _ _ ⟨rfl, rfl⟩
      exact lk_X6_sightingsHold_b31 E hX hr N hf kb ke0 ke1
set_option maxRecDepth 100000 in
set_option maxHeartbeats 4000000 in
theorem lk_X6_sightingsHold_b10 {G : JG} {X : JX} (E : jE G X (RX6, cX6_sightingsHold, 4)) (hX : X.2.2.2.1 = jRm 5 0 0) (hr : X.2.2.2.2.2.2.2.2.1.sig.returnType = (some .boolean)) (N : Nat) {v0 : Nat} {v1 : Int32} {v2 : Int32} {h : AH}  {r : (Int32 × AH)} (hf : f_X6_sightingsHold_b10 N v0 v1 v2 h = some r) : JW G X (RX6, cX6_sightingsHold, 4) h [(0, .ref v0), (1, .int v1), (2, .int v2)] [] 10 0 0 (jEnd G X (jpi r) 0 0) := by
  unfold f_X6_sightingsHold_b10 at hf
  obtain ⟨q1, h1, hf⟩ := jbind hf
  refine jloop (P := fun s => JW G X (RX6, cX6_sightingsHold, 4) s.2 [(0, .ref v0), (1, .int v1), (2, .int s.1)] [] 10 0 0 (jEnd G X (jpi r) 0 0)) (Ex := Sum.elim (fun (e : AH) => JW G X (RX6, cX6_sightingsHold, 4) e [] [] 86 0 0 (jEnd G X (jpi r) 0 0)) (fun (e : AH) => JW G X (RX6, cX6_sightingsHold, 4) e [] [] 100 0 0 (jEnd G X (jpi r) 0 0))) (fun s q hs hb hx => lk_X6_sightingsHold_l10 E hX hr N hs (fun s' hs => hb s' hs) (fun e he => hx _ he) (fun e he => hx _ he)) N _ q1 h1 ?_
  rcases q1 with e | e
  · refine J_iconst (v := 0) E (jd dk_X6_sightingsHold_0 46 rfl) rfl ?_
    cases hf
    exact J_iret E hr rfl (jd dk_X6_sightingsHold_0 47 rfl) (Nat.le_refl _) (Nat.le_refl _) ⟨rfl, rfl⟩
  · refine J_iconst (v := 1) E (jd dk_X6_sightingsHold_1 2 rfl) rfl ?_
    cases hf
    exact J_iret E hr rfl (jd dk_X6_sightingsHold_1 3 rfl) (Nat.le_refl _) (Nat.le_refl _) ⟨rfl, rfl⟩
set_option maxRecDepth 100000 in
set_option maxHeartbeats 4000000 in
theorem lk_X6_sightingsHold {G : JG} {l : Launch} (hG : jG G) (htr : l.stackTraces = false) (N : Nat) {h : AH} {a0 : Nat} {r : (Int32 × AH)} (hf : f_X6_sightingsHold N h a0 = some r) : jMet G l yX6_sightingsHold cX6_sightingsHold 4 (some .boolean) 5 0 0 [.ref a0] h (jpi r) := by
  unfold f_X6_sightingsHold at hf
  refine jMet_of hG htr (by decide) (Nat.le_of_ble_eq_true rfl) ?_
  intro X E hl9 hr hX _ _
  show JW G X (RX6, cX6_sightingsHold, 4) h [(0, .ref a0)] [] 0 0 0 (jEnd G X (jpi r) 0 0)
  refine J_aload_n E (jd dk_X6_sightingsHold_0 0 rfl) rfl 0 rfl ?_
  obtain ⟨x42, e43, hf⟩ := jbind hf
  refine J_getr E (jd dk_X6_sightingsHold_0 1 rfl) fl_RX6_37 e43 ?_
  obtain ⟨u46, e47, hf⟩ := jbind hf
  obtain ⟨r44, e45, hf⟩ := jbind hf
  refine J_callV E (jd dk_X6_sightingsHold_0 2 rfl) ml_RX6_282 cal_X0_lastSightingStep e47 rfl (lk_X0_lastSightingStep (jE_g E) (jE_tr E) N e45) rfl (Nat.le_of_ble_eq_true rfl) (jR_le hX (by decide) (by decide)) (jF0 hX) rfl ?_
  rintro _ _ ⟨rfl, rfl⟩
  refine J_istore_n (lv' := [(1, .int r44.1), (0, .ref a0)]) E (jd dk_X6_sightingsHold_0 3 rfl) rfl (by decide) rfl ?_
  refine J_iconst (v := 0) E (jd dk_X6_sightingsHold_0 4 rfl) rfl ?_
  refine J_istore_n (lv' := [(2, .int 0), (1, .int r44.1), (0, .ref a0)]) E (jd dk_X6_sightingsHold_0 5 rfl) rfl (by decide) rfl ?_
  refine J_sub [2, 1, 0] rfl ?_
  exact lk_X6_sightingsHold_b10 E hX hr N hf
def f_X6_tryGuess (N : Nat) (h : AH) (a0 : Nat) (a1 : Int32) : Option (Int32 × AH) :=
  (jck 6 h a0).bind fun _ =>
  (f_X6_tryFromNow N h a0).bind fun r1 =>
  (jgr 6 r1 a0 8).bind fun x5 =>
  (jgr 5 r1 x5 4).bind fun x7 =>
  (jas 0 r1 x7 (a1 / 10) (a1 - a1 / 10 * 10)).bind fun h9 =>
  (jgr 6 h9 a0 4).bind fun x11 =>
  (jgr 1 h9 x11 6).bind fun x13 =>
  (jal 0 h9 x13 (a1 / 10)).bind fun x15 =>
  if x15 = (a1 - a1 / 10 * 10) then some (0, h9)
  else some (1, h9)
set_option maxRecDepth 100000 in
set_option maxHeartbeats 4000000 in
theorem lk_X6_tryGuess {G : JG} {l : Launch} (hG : jG G) (htr : l.stackTraces = false) (N : Nat) {h : AH} {a0 : Nat} {a1 : Int32} {r : (Int32 × AH)} (hf : f_X6_tryGuess N h a0 a1 = some r) : jMet G l yX6_tryGuess cX6_tryGuess 4 (some .boolean) 3 0 0 [.ref a0, .int a1] h (jpi r) := by
  unfold f_X6_tryGuess at hf
  refine jMet_of hG htr (by decide) (Nat.le_of_ble_eq_true rfl) ?_
  intro X E hl9 hr hX _ _
  show JW G X (RX6, cX6_tryGuess, 4) h [(0, .ref a0), (1, .int a1)] [] 0 0 0 (jEnd G X (jpi r) 0 0)
  refine J_iload_n E (jd dk_X6_tryGuess_0 0 rfl) rfl 1 rfl ?_
  refine J_bipush (v := 10) E (jd dk_X6_tryGuess_0 1 rfl) (by decide) ?_
  refine J_idiv E (jd dk_X6_tryGuess_0 2 rfl) (by decide) ?_
  refine J_istore_n (lv' := [(2, .int (a1 / 10)), (0, .ref a0), (1, .int a1)]) E (jd dk_X6_tryGuess_0 3 rfl) rfl (by decide) rfl ?_
  refine J_iload_n E (jd dk_X6_tryGuess_0 4 rfl) rfl 2 rfl ?_
  refine J_bipush (v := 10) E (jd dk_X6_tryGuess_0 5 rfl) (by decide) ?_
  refine J_irem E (jd dk_X6_tryGuess_0 6 rfl) (by decide) ?_
  refine J_istore_n (lv' := [(3, .int (a1 - a1 / 10 * 10)), (2, .int (a1 / 10)), (0, .ref a0), (1, .int a1)]) E (jd dk_X6_tryGuess_0 7 rfl) rfl (by decide) rfl ?_
  refine J_aload_n E (jd dk_X6_tryGuess_0 8 rfl) rfl 2 rfl ?_
  obtain ⟨u3, e4, hf⟩ := jbind hf
  obtain ⟨r1, e2, hf⟩ := jbind hf
  refine J_callV E (jd dk_X6_tryGuess_0 9 rfl) ml_RX6_223 cal_X6_tryFromNow e4 rfl (lk_X6_tryFromNow (jE_g E) (jE_tr E) N e2) rfl (Nat.le_of_ble_eq_true rfl) (jR_le hX (by decide) (by decide)) (jF0 hX) rfl ?_
  rintro _ _ ⟨rfl, rfl⟩
  refine J_aload_n E (jd dk_X6_tryGuess_0 10 rfl) rfl 2 rfl ?_
  obtain ⟨x5, e6, hf⟩ := jbind hf
  refine J_getr E (jd dk_X6_tryGuess_0 11 rfl) fl_RX6_51 e6 ?_
  obtain ⟨x7, e8, hf⟩ := jbind hf
  refine J_getr E (jd dk_X6_tryGuess_0 12 rfl) fl_RX6_281 e8 ?_
  refine J_iload_n E (jd dk_X6_tryGuess_0 13 rfl) rfl 1 rfl ?_
  refine J_iload_n E (jd dk_X6_tryGuess_0 14 rfl) rfl 0 rfl ?_
  obtain ⟨h9, e10, hf⟩ := jbind hf
  refine J_iast E (jd dk_X6_tryGuess_0 15 rfl) e10 ?_
  refine J_aload_n E (jd dk_X6_tryGuess_0 16 rfl) rfl 2 rfl ?_
  obtain ⟨x11, e12, hf⟩ := jbind hf
  refine J_getr E (jd dk_X6_tryGuess_0 17 rfl) fl_RX6_30 e12 ?_
  obtain ⟨x13, e14, hf⟩ := jbind hf
  refine J_getr E (jd dk_X6_tryGuess_0 18 rfl) fl_RX6_185 e14 ?_
  refine J_iload_n E (jd dk_X6_tryGuess_0 19 rfl) rfl 1 rfl ?_
  obtain ⟨x15, e16, hf⟩ := jbind hf
  refine J_iald E (jd dk_X6_tryGuess_0 20 rfl) e16 ?_
  refine J_iload_n E (jd dk_X6_tryGuess_0 21 rfl) rfl 0 rfl ?_
  refine J_icmp_eq (tgt := 41) E (jd dk_X6_tryGuess_0 22 rfl) (by decide) (fun c17 => ?_) (fun c17 => ?_)
  · replace hf := jif_t c17 hf
    refine J_iconst (v := 0) E (jd dk_X6_tryGuess_0 25 rfl) rfl ?_
    cases hf
    exact J_iret E hr rfl (jd dk_X6_tryGuess_0 26 rfl) (Nat.le_refl _) (Nat.le_refl _) ⟨rfl, rfl⟩
  · replace hf := jif_f c17 hf
    refine J_iconst (v := 1) E (jd dk_X6_tryGuess_0 23 rfl) rfl ?_
    refine J_goto (tgt := 42) E (jd dk_X6_tryGuess_0 24 rfl) (by decide) ?_
    cases hf
    exact J_iret E hr rfl (jd dk_X6_tryGuess_0 26 rfl) (Nat.le_refl _) (Nat.le_refl _) ⟨rfl, rfl⟩
def f_X6_leans_b70 (N : Nat) (v0 : Nat) (v1 : Int32) (v2 : Int32) (v3 : Int32) (h : AH) : Option ((Int32 × Int32 × AH) ⊕ ((Int32 × AH) ⊕ (Int32 × AH))) :=
  some (.inl ((v2, v3 + 1, h)))
def f_X6_leans_l31 (N : Nat) (v0 : Nat) (v1 : Int32) (v2 : Int32) (v3 : Int32) (h : AH) : Option ((Int32 × Int32 × AH) ⊕ ((Int32 × AH) ⊕ (Int32 × AH))) :=
  (jgr 6 h v0 4).bind fun x1 =>
  (jgi 1 h x1 2).bind fun x3 =>
  if ((10 : Int32) * x3) ≤ v3 then some (.inr (.inr ((v2, h))))
  else (jck 6 h v0).bind fun _ =>
  (f_X6_tryGuess N h v0 v3).bind fun r6 =>
  if r6.1 = 0 then f_X6_leans_b70 N v0 v1 v2 v3 r6.2
  else (jck 6 r6.2 v0).bind fun _ =>
  (f_X6_sightingsHold N r6.2 v0).bind fun r11 =>
  if r11.1 = 0 then f_X6_leans_b70 N v0 v1 v2 v3 r11.2
  else if v1 = 1 then some (.inr (.inl ((v3, r11.2))))
  else f_X6_leans_b70 N v0 v1 (v2 + 1) v3 r11.2
def f_X6_leans_b31 (N : Nat) (v0 : Nat) (v1 : Int32) (v2 : Int32) (v3 : Int32) (h : AH) : Option ((Nat ⊕ Int32) × AH) :=
  (itr (fun s => f_X6_leans_l31 N v0 v1 s.1 s.2.1 s.2.2) N (v2, v3, h)).bind (Sum.elim (fun e => some (.inr e.1, e.2)) (fun e => if v1 = 1 then some (.inr ((-1)), e.2)
  else some (.inr e.1, e.2)))
def f_X6_leans (N : Nat) (h : AH) (a0 : Nat) (a1 : Int32) : Option ((Nat ⊕ Int32) × AH) :=
  (f_X6_needWhat N h a1 2).bind fun r18 => Sum.elim (fun k => some (.inl k, r18.2)) (fun _ =>
  if a1 = 2 then (jck 6 r18.2 a0).bind fun _ =>
  (f_X6_tryFromNow N r18.2 a0).bind fun r22 =>
  (jck 6 r22 a0).bind fun _ =>
  (f_X6_sightingsHold N r22 a0).bind fun r26 =>
  if r26.1 = 0 then some (.inr 0, r26.2)
  else some (.inr 1, r26.2)
  else f_X6_leans_b31 N a0 a1 0 0 r18.2) r18.1
set_option maxRecDepth 100000 in
set_option maxHeartbeats 4000000 in
theorem lk_X6_leans_b70 {G : JG} {X : JX} (E : jE G X (RX6, cX6_leans, 4)) (hX : X.2.2.2.1 = jRm 6 1 6) (hr : X.2.2.2.2.2.2.2.2.1.sig.returnType = (some .int)) (htab : ∀ x ∈ X.2.2.2.2.2.2.2.2.2.exceptionTable.toList, False) (N : Nat) {Q : State → Prop} {v0 : Nat} {v1 : Int32} {v2 : Int32} {v3 : Int32} {h : AH}  {q : ((Int32 × Int32 × AH) ⊕ ((Int32 × AH) ⊕ (Int32 × AH)))} (hf : f_X6_leans_b70 N v0 v1 v2 v3 h = some q) (kb : ∀ s' : Int32 × Int32 × AH, q = .inl s' → JW G X (RX6, cX6_leans, 4) s'.2.2 [(0, .ref v0), (1, .int v1), (2, .int s'.1), (3, .int s'.2.1)] [] 31 1 6 Q) (ke0 : ∀ e : Int32 × AH, q = .inr (.inl e) → JW G X (RX6, cX6_leans, 4) e.2 [(3, .int e.1)] [] 65 1 6 Q) (ke1 : ∀ e : Int32 × AH, q = .inr (.inr e) → JW G X (RX6, cX6_leans, 4) e.2 [(1, .int v1), (2, .int e.1)] [] 76 1 6 Q) : JW G X (RX6, cX6_leans, 4) h [(0, .ref v0), (1, .int v1), (2, .int v2), (3, .int v3)] [] 70 1 6 Q := by
  unfold f_X6_leans_b70 at hf
  refine J_iinc (v := v3 + 1) (lv' := [(3, .int (v3 + 1)), (0, .ref v0), (1, .int v1), (2, .int v2)]) E (jd dk_X6_leans_0 39 rfl) 3 rfl rfl (by decide) rfl ?_
  refine J_goto (tgt := 31) E (jd dk_X6_leans_0 40 rfl) (by decide) ?_
  refine J_sub [1, 2, 3, 0] rfl ?_
  exact kb _ (Option.some.inj hf).symm
set_option maxRecDepth 100000 in
set_option maxHeartbeats 4000000 in
theorem lk_X6_leans_l31 {G : JG} {X : JX} (E : jE G X (RX6, cX6_leans, 4)) (hX : X.2.2.2.1 = jRm 6 1 6) (hr : X.2.2.2.2.2.2.2.2.1.sig.returnType = (some .int)) (htab : ∀ x ∈ X.2.2.2.2.2.2.2.2.2.exceptionTable.toList, False) (N : Nat) {Q : State → Prop} {v0 : Nat} {v1 : Int32} {v2 : Int32} {v3 : Int32}  {h : AH} {q : ((Int32 × Int32 × AH) ⊕ ((Int32 × AH) ⊕ (Int32 × AH)))} (hf : f_X6_leans_l31 N v0 v1 v2 v3 h = some q) (kb : ∀ s' : Int32 × Int32 × AH, q = .inl s' → JW G X (RX6, cX6_leans, 4) s'.2.2 [(0, .ref v0), (1, .int v1), (2, .int s'.1), (3, .int s'.2.1)] [] 31 1 6 Q) (ke0 : ∀ e : Int32 × AH, q = .inr (.inl e) → JW G X (RX6, cX6_leans, 4) e.2 [(3, .int e.1)] [] 65 1 6 Q) (ke1 : ∀ e : Int32 × AH, q = .inr (.inr e) → JW G X (RX6, cX6_leans, 4) e.2 [(1, .int v1), (2, .int e.1)] [] 76 1 6 Q) : JW G X (RX6, cX6_leans, 4) h [(0, .ref v0), (1, .int v1), (2, .int v2), (3, .int v3)] [] 31 1 6 Q := by
  unfold f_X6_leans_l31 at hf
  refine J_iload_n E (jd dk_X6_leans_0 19 rfl) rfl 3 rfl ?_
  refine J_bipush (v := 10) E (jd dk_X6_leans_0 20 rfl) (by decide) ?_
  refine J_aload_n E (jd dk_X6_leans_0 21 rfl) rfl 0 rfl ?_
  obtain ⟨x1, e2, hf⟩ := jbind hf
  refine J_getr E (jd dk_X6_leans_0 22 rfl) fl_RX6_30 e2 ?_
  obtain ⟨x3, e4, hf⟩ := jbind hf
  refine J_geti E (jd dk_X6_leans_0 23 rfl) fl_RX6_110 e4 ?_
  refine J_imul E (jd dk_X6_leans_0 24 rfl) ?_
  refine J_icmp_ge (tgt := 76) E (jd dk_X6_leans_0 25 rfl) (by decide) (fun c5 => ?_) (fun c5 => ?_)
  · replace hf := jif_t c5 hf
    refine J_sub [1, 2] rfl ?_
    exact ke1 _ (Option.some.inj hf).symm
  · replace hf := jif_f c5 hf
    refine J_aload_n E (jd dk_X6_leans_0 26 rfl) rfl 0 rfl ?_
    refine J_iload_n E (jd dk_X6_leans_0 27 rfl) rfl 3 rfl ?_
    obtain ⟨u8, e9, hf⟩ := jbind hf
    obtain ⟨r6, e7, hf⟩ := jbind hf
    refine J_callV E (jd dk_X6_leans_0 28 rfl) ml_RX6_278 cal_X6_tryGuess e9 rfl (lk_X6_tryGuess (jE_g E) (jE_tr E) N e7) rfl (Nat.le_of_ble_eq_true rfl) (jR_le hX (by decide) (by decide)) (jFx hX (by decide) (by decide)) rfl ?_
    rintro _ _ ⟨rfl, rfl⟩
    refine J_if_eq (tgt := 70) E (jd dk_X6_leans_0 29 rfl) (by decide) (fun c10 => ?_) (fun c10 => ?_)
    · replace hf := jif_t c10 hf
      exact lk_X6_leans_b70 E hX hr htab N hf kb ke0 ke1
    · replace hf := jif_f c10 hf
      refine J_aload_n E (jd dk_X6_leans_0 30 rfl) rfl 0 rfl ?_
      obtain ⟨u13, e14, hf⟩ := jbind hf
      obtain ⟨r11, e12, hf⟩ := jbind hf
      refine J_callV E (jd dk_X6_leans_0 31 rfl) ml_RX6_275 cal_X6_sightingsHold e14 rfl (lk_X6_sightingsHold (jE_g E) (jE_tr E) N e12) rfl (Nat.le_of_ble_eq_true rfl) (jR_le hX (by decide) (by decide)) (jFx hX (by decide) (by decide)) rfl ?_
      rintro _ _ ⟨rfl, rfl⟩
      refine J_if_eq (tgt := 70) E (jd dk_X6_leans_0 32 rfl) (by decide) (fun c15 => ?_) (fun c15 => ?_)
      · replace hf := jif_t c15 hf
        exact lk_X6_leans_b70 E hX hr htab N hf kb ke0 ke1
      · replace hf := jif_f c15 hf
        refine J_iload_n E (jd dk_X6_leans_0 33 rfl) rfl 1 rfl ?_
        refine J_iconst (v := 1) E (jd dk_X6_leans_0 34 rfl) rfl ?_
        refine J_icmp_ne (tgt := 67) E (jd dk_X6_leans_0 35 rfl) (by decide) (fun c16 => ?_) (fun c16 => ?_)
        · replace hf := jif_f c16 hf
          refine J_iinc (v := v2 + 1) (lv' := [(2, .int (v2 + 1)), (0, .ref v0), (1, .int v1), (3, .int v3)]) E (jd dk_X6_leans_0 38 rfl) 2 rfl rfl (by decide) rfl ?_
          refine J_sub [1, 2, 0, 3] rfl ?_
          exact lk_X6_leans_b70 E hX hr htab N hf kb ke0 ke1
        · replace hf := jif_t c16 hf
          refine J_sub [3] rfl ?_
          exact ke0 _ (Option.some.inj hf).symm
set_option maxRecDepth 100000 in
set_option maxHeartbeats 4000000 in
theorem lk_X6_leans_b31 {G : JG} {X : JX} (E : jE G X (RX6, cX6_leans, 4)) (hX : X.2.2.2.1 = jRm 6 1 6) (hr : X.2.2.2.2.2.2.2.2.1.sig.returnType = (some .int)) (htab : ∀ x ∈ X.2.2.2.2.2.2.2.2.2.exceptionTable.toList, False) (N : Nat) {v0 : Nat} {v1 : Int32} {v2 : Int32} {v3 : Int32} {h : AH}  {r : ((Nat ⊕ Int32) × AH)} (hf : f_X6_leans_b31 N v0 v1 v2 v3 h = some r) : JW G X (RX6, cX6_leans, 4) h [(0, .ref v0), (1, .int v1), (2, .int v2), (3, .int v3)] [] 31 1 6 (jEndX G X (jpXi r) (jpXx r) 1 6) := by
  unfold f_X6_leans_b31 at hf
  obtain ⟨q1, h1, hf⟩ := jbind hf
  refine jloop (P := fun s => JW G X (RX6, cX6_leans, 4) s.2.2 [(0, .ref v0), (1, .int v1), (2, .int s.1), (3, .int s.2.1)] [] 31 1 6 (jEndX G X (jpXi r) (jpXx r) 1 6)) (Ex := Sum.elim (fun (e : Int32 × AH) => JW G X (RX6, cX6_leans, 4) e.2 [(3, .int e.1)] [] 65 1 6 (jEndX G X (jpXi r) (jpXx r) 1 6)) (fun (e : Int32 × AH) => JW G X (RX6, cX6_leans, 4) e.2 [(1, .int v1), (2, .int e.1)] [] 76 1 6 (jEndX G X (jpXi r) (jpXx r) 1 6))) (fun s q hs hb hx => lk_X6_leans_l31 E hX hr htab N hs (fun s' hs => hb s' hs) (fun e he => hx _ he) (fun e he => hx _ he)) N _ q1 h1 ?_
  rcases q1 with e | e
  · refine J_iload_n E (jd dk_X6_leans_0 36 rfl) rfl 0 rfl ?_
    cases hf
    exact J_x (J_iret E hr rfl (jd dk_X6_leans_0 37 rfl) (by decide) (by decide) ⟨_, rfl, rfl, rfl⟩)
  · refine J_iload_n E (jd dk_X6_leans_0 41 rfl) rfl 0 rfl ?_
    refine J_iconst (v := 1) E (jd dk_X6_leans_0 42 rfl) rfl ?_
    refine J_icmp_ne (tgt := 85) E (jd dk_X6_leans_0 43 rfl) (by decide) (fun c17 => ?_) (fun c17 => ?_)
    · replace hf := jif_f c17 hf
      refine J_iload_n E (jd dk_X6_leans_0 46 rfl) rfl 1 rfl ?_
      cases hf
      exact J_x (J_iret E hr rfl (jd dk_X6_leans_0 47 rfl) (by decide) (by decide) ⟨_, rfl, rfl, rfl⟩)
    · replace hf := jif_t c17 hf
      refine J_iconst (v := (-1)) E (jd dk_X6_leans_0 44 rfl) rfl ?_
      refine J_goto (tgt := 86) E (jd dk_X6_leans_0 45 rfl) (by decide) ?_
      cases hf
      exact J_x (J_iret E hr rfl (jd dk_X6_leans_0 47 rfl) (by decide) (by decide) ⟨_, rfl, rfl, rfl⟩)
set_option maxRecDepth 100000 in
set_option maxHeartbeats 4000000 in
theorem lk_X6_leans {G : JG} {l : Launch} (hG : jG G) (htr : l.stackTraces = false) (N : Nat) {h : AH} {a0 : Nat} {a1 : Int32} {r : ((Nat ⊕ Int32) × AH)} (hf : f_X6_leans N h a0 a1 = some r) : jMetX G l yX6_leans cX6_leans 4 (some .int) 6 1 6 [.ref a0, .int a1] h (jpXi r) (jpXx r) := by
  unfold f_X6_leans at hf
  refine jMetX_of hG htr (by decide) (Nat.le_of_ble_eq_true rfl) ?_
  intro X E hl9 hr hX htab
  show JW G X (RX6, cX6_leans, 4) h [(0, .ref a0), (1, .int a1)] [] 0 0 0 (jEndX G X (jpXi r) (jpXx r) 1 6)
  refine J_iload_n E (jd dk_X6_leans_0 0 rfl) rfl 1 rfl ?_
  refine J_iconst (v := 2) E (jd dk_X6_leans_0 1 rfl) rfl ?_
  obtain ⟨r18, e19, hf⟩ := jbind hf
  obtain ⟨r18a, r18b⟩ := r18
  refine J_callSX E (jd dk_X6_leans_0 2 rfl) ml_RX6_162 cal_X6_needWhat (lk_X6_needWhat (jE_g E) (jE_tr E) N e19) rfl (Nat.le_of_ble_eq_true rfl) (jR_le hX (by decide) (by decide)) (jFx hX (by decide) (by decide)) rfl ?_ ?_
  rotate_left
  · rintro _ _ ⟨k9, rfl, rfl, rfl⟩
    replace hf := Option.some.inj hf
    subst hf
    exact J_out E htab (by decide) (by decide) ⟨_, rfl, rfl, rfl⟩
  rintro _ _ ⟨rfl, rfl, rfl⟩
  replace hf : _ = some _ := hf
  refine J_iload_n E (jd dk_X6_leans_0 3 rfl) rfl 1 rfl ?_
  refine J_iconst (v := 2) E (jd dk_X6_leans_0 4 rfl) rfl ?_
  refine J_icmp_ne (tgt := 27) E (jd dk_X6_leans_0 5 rfl) (by decide) (fun c21 => ?_) (fun c21 => ?_)
  · replace hf := jif_f c21 hf
    refine J_iconst (v := 0) E (jd dk_X6_leans_0 15 rfl) rfl ?_
    refine J_istore_n (lv' := [(2, .int 0), (0, .ref a0), (1, .int a1)]) E (jd dk_X6_leans_0 16 rfl) rfl (by decide) rfl ?_
    refine J_iconst (v := 0) E (jd dk_X6_leans_0 17 rfl) rfl ?_
    refine J_istore_n (lv' := [(3, .int 0), (2, .int 0), (0, .ref a0), (1, .int a1)]) E (jd dk_X6_leans_0 18 rfl) rfl (by decide) rfl ?_
    refine J_sub [2, 3, 1, 0] rfl ?_
    exact lk_X6_leans_b31 E hX hr htab N hf
  · replace hf := jif_t c21 hf
    refine J_aload_n E (jd dk_X6_leans_0 6 rfl) rfl 0 rfl ?_
    obtain ⟨u24, e25, hf⟩ := jbind hf
    obtain ⟨r22, e23, hf⟩ := jbind hf
    refine J_callV E (jd dk_X6_leans_0 7 rfl) ml_RX6_223 cal_X6_tryFromNow e25 rfl (lk_X6_tryFromNow (jE_g E) (jE_tr E) N e23) rfl (Nat.le_of_ble_eq_true rfl) (jR_le hX (by decide) (by decide)) (jFx hX (by decide) (by decide)) rfl ?_
    rintro _ _ ⟨rfl, rfl⟩
    refine J_aload_n E (jd dk_X6_leans_0 8 rfl) rfl 0 rfl ?_
    obtain ⟨u28, e29, hf⟩ := jbind hf
    obtain ⟨r26, e27, hf⟩ := jbind hf
    refine J_callV E (jd dk_X6_leans_0 9 rfl) ml_RX6_275 cal_X6_sightingsHold e29 rfl (lk_X6_sightingsHold (jE_g E) (jE_tr E) N e27) rfl (Nat.le_of_ble_eq_true rfl) (jR_le hX (by decide) (by decide)) (jFx hX (by decide) (by decide)) rfl ?_
    rintro _ _ ⟨rfl, rfl⟩
    refine J_if_eq (tgt := 25) E (jd dk_X6_leans_0 10 rfl) (by decide) (fun c30 => ?_) (fun c30 => ?_)
    · replace hf := jif_t c30 hf
      refine J_iconst (v := 0) E (jd dk_X6_leans_0 13 rfl) rfl ?_
      cases hf
      exact J_x (J_iret E hr rfl (jd dk_X6_leans_0 14 rfl) (by decide) (by decide) ⟨_, rfl, rfl, rfl⟩)
    · replace hf := jif_f c30 hf
      refine J_iconst (v := 1) E (jd dk_X6_leans_0 11 rfl) rfl ?_
      refine J_goto (tgt := 26) E (jd dk_X6_leans_0 12 rfl) (by decide) ?_
      cases hf
      exact J_x (J_iret E hr rfl (jd dk_X6_leans_0 14 rfl) (by decide) (by decide) ⟨_, rfl, rfl, rfl⟩)
def f_X6_addPlaces_l14 (N : Nat) (v0 : Nat) (v2 : Int32) (h : AH) : Option ((Int32 × AH) ⊕ ((AH))) :=
  (jgr 6 h v0 4).bind fun x1 =>
  (jgi 1 h x1 2).bind fun x3 =>
  if x3 ≤ v2 then some (.inr h)
  else (jgr 6 h v0 10).bind fun x6 =>
  (jal 0 h x6 v2).bind fun x8 =>
  (jgr 6 h v0 8).bind fun x10 =>
  (jgr 5 h x10 1).bind fun x12 =>
  (jal 0 h x12 v2).bind fun x14 =>
  (jas 0 h x6 v2 (x8 ||| ((1 : Int32) <<< ((x14 - ((-2))) &&& 31)))).bind fun h16 =>
  some (.inl ((v2 + 1, h16)))
def f_X6_addPlaces_b14 (N : Nat) (v0 : Nat) (v2 : Int32) (h : AH) : Option AH :=
  (itr (fun s => f_X6_addPlaces_l14 N v0 s.1 s.2) N (v2, h)).bind (fun e => some e)
def f_X6_addPlaces (N : Nat) (h : AH) (a0 : Nat) (a1 : Int32) : Option AH :=
  (jck 6 h a0).bind fun _ =>
  (f_X6_tryGuess N h a0 a1).bind fun r18 =>
  (jck 6 r18.2 a0).bind fun _ =>
  (f_X6_goOnTrying N r18.2 a0 6).bind fun r22 =>
  f_X6_addPlaces_b14 N a0 0 r22
set_option maxRecDepth 100000 in
set_option maxHeartbeats 4000000 in
theorem lk_X6_addPlaces_l14 {G : JG} {X : JX} (E : jE G X (RX6, cX6_addPlaces, 3)) (hX : X.2.2.2.1 = jRm 6 0 0) (hr : X.2.2.2.2.2.2.2.2.1.sig.returnType = none) (N : Nat) {Q : State → Prop} {v0 : Nat} {v2 : Int32}  {h : AH} {q : ((Int32 × AH) ⊕ ((AH)))} (hf : f_X6_addPlaces_l14 N v0 v2 h = some q) (kb : ∀ s' : Int32 × AH, q = .inl s' → JW G X (RX6, cX6_addPlaces, 3) s'.2 [(0, .ref v0), (2, .int s'.1)] [] 14 0 0 Q) (ke0 : ∀ e : AH, q = .inr e → JW G X (RX6, cX6_addPlaces, 3) e [] [] 54 0 0 Q) : JW G X (RX6, cX6_addPlaces, 3) h [(0, .ref v0), (2, .int v2)] [] 14 0 0 Q := by
  unfold f_X6_addPlaces_l14 at hf
  refine J_iload_n E (jd dk_X6_addPlaces_0 9 rfl) rfl 1 rfl ?_
  refine J_aload_n E (jd dk_X6_addPlaces_0 10 rfl) rfl 0 rfl ?_
  obtain ⟨x1, e2, hf⟩ := jbind hf
  refine J_getr E (jd dk_X6_addPlaces_0 11 rfl) fl_RX6_30 e2 ?_
  obtain ⟨x3, e4, hf⟩ := jbind hf
  refine J_geti E (jd dk_X6_addPlaces_0 12 rfl) fl_RX6_110 e4 ?_
  refine J_icmp_ge (tgt := 54) E (jd dk_X6_addPlaces_0 13 rfl) (by decide) (fun c5 => ?_) (fun c5 => ?_)
  · replace hf := jif_t c5 hf
    refine J_sub [] rfl ?_
    exact ke0 _ (Option.some.inj hf).symm
  · replace hf := jif_f c5 hf
    refine J_aload_n E (jd dk_X6_addPlaces_0 14 rfl) rfl 0 rfl ?_
    obtain ⟨x6, e7, hf⟩ := jbind hf
    refine J_getr E (jd dk_X6_addPlaces_0 15 rfl) fl_RX6_62 e7 ?_
    refine J_iload_n E (jd dk_X6_addPlaces_0 16 rfl) rfl 1 rfl ?_
    refine J_dup2 E (jd dk_X6_addPlaces_0 17 rfl) rfl rfl ?_
    obtain ⟨x8, e9, hf⟩ := jbind hf
    refine J_iald E (jd dk_X6_addPlaces_0 18 rfl) e9 ?_
    refine J_iconst (v := 1) E (jd dk_X6_addPlaces_0 19 rfl) rfl ?_
    refine J_aload_n E (jd dk_X6_addPlaces_0 20 rfl) rfl 0 rfl ?_
    obtain ⟨x10, e11, hf⟩ := jbind hf
    refine J_getr E (jd dk_X6_addPlaces_0 21 rfl) fl_RX6_51 e11 ?_
    obtain ⟨x12, e13, hf⟩ := jbind hf
    refine J_getr E (jd dk_X6_addPlaces_0 22 rfl) fl_RX6_179 e13 ?_
    refine J_iload_n E (jd dk_X6_addPlaces_0 23 rfl) rfl 1 rfl ?_
    obtain ⟨x14, e15, hf⟩ := jbind hf
    refine J_iald E (jd dk_X6_addPlaces_0 24 rfl) e15 ?_
    refine J_bipush (v := (-2)) E (jd dk_X6_addPlaces_0 25 rfl) (by decide) ?_
    refine J_isub E (jd dk_X6_addPlaces_0 26 rfl) ?_
    refine J_ishl E (jd dk_X6_addPlaces_0 27 rfl) ?_
    refine J_ior E (jd dk_X6_addPlaces_0 28 rfl) ?_
    obtain ⟨h16, e17, hf⟩ := jbind hf
    refine J_iast E (jd dk_X6_addPlaces_0 29 rfl) e17 ?_
    refine J_iinc (v := v2 + 1) (lv' := [(2, .int (v2 + 1)), (0, .ref v0)]) E (jd dk_X6_addPlaces_0 30 rfl) 1 rfl rfl (by decide) rfl ?_
    refine J_goto (tgt := 14) E (jd dk_X6_addPlaces_0 31 rfl) (by decide) ?_
    refine J_sub [1, 0] rfl ?_
    exact kb _ (Option.some.inj hf).symm
set_option maxRecDepth 100000 in
set_option maxHeartbeats 4000000 in
theorem lk_X6_addPlaces_b14 {G : JG} {X : JX} (E : jE G X (RX6, cX6_addPlaces, 3)) (hX : X.2.2.2.1 = jRm 6 0 0) (hr : X.2.2.2.2.2.2.2.2.1.sig.returnType = none) (N : Nat) {v0 : Nat} {v2 : Int32} {h : AH}  {r : AH} (hf : f_X6_addPlaces_b14 N v0 v2 h = some r) : JW G X (RX6, cX6_addPlaces, 3) h [(0, .ref v0), (2, .int v2)] [] 14 0 0 (jEnd G X (jpv r) 0 0) := by
  unfold f_X6_addPlaces_b14 at hf
  obtain ⟨q1, h1, hf⟩ := jbind hf
  refine jloop (P := fun s => JW G X (RX6, cX6_addPlaces, 3) s.2 [(0, .ref v0), (2, .int s.1)] [] 14 0 0 (jEnd G X (jpv r) 0 0)) (Ex := fun (e : AH) => JW G X (RX6, cX6_addPlaces, 3) e [] [] 54 0 0 (jEnd G X (jpv r) 0 0)) (fun s q hs hb hx => lk_X6_addPlaces_l14 E hX hr N hs (fun s' hs => hb s' hs) (fun e he => hx e he)) N _ q1 h1 ?_
  generalize q1 = e at hf ⊢
  cases hf
  exact J_vret E hr (jd dk_X6_addPlaces_0 32 rfl) (Nat.le_refl _) (Nat.le_refl _) ⟨rfl, rfl⟩
set_option maxRecDepth 100000 in
set_option maxHeartbeats 4000000 in
theorem lk_X6_addPlaces {G : JG} {l : Launch} (hG : jG G) (htr : l.stackTraces = false) (N : Nat) {h : AH} {a0 : Nat} {a1 : Int32} {r : AH} (hf : f_X6_addPlaces N h a0 a1 = some r) : jMet G l yX6_addPlaces cX6_addPlaces 3 none 6 0 0 [.ref a0, .int a1] h (jpv r) := by
  unfold f_X6_addPlaces at hf
  refine jMet_of hG htr (by decide) (Nat.le_of_ble_eq_true rfl) ?_
  intro X E hl9 hr hX _ _
  show JW G X (RX6, cX6_addPlaces, 3) h [(0, .ref a0), (1, .int a1)] [] 0 0 0 (jEnd G X (jpv r) 0 0)
  refine J_aload_n E (jd dk_X6_addPlaces_0 0 rfl) rfl 0 rfl ?_
  refine J_iload_n E (jd dk_X6_addPlaces_0 1 rfl) rfl 1 rfl ?_
  obtain ⟨u20, e21, hf⟩ := jbind hf
  obtain ⟨r18, e19, hf⟩ := jbind hf
  refine J_callV E (jd dk_X6_addPlaces_0 2 rfl) ml_RX6_278 cal_X6_tryGuess e21 rfl (lk_X6_tryGuess (jE_g E) (jE_tr E) N e19) rfl (Nat.le_of_ble_eq_true rfl) (jR_le hX (by decide) (by decide)) (jF0 hX) rfl ?_
  rintro _ _ ⟨rfl, rfl⟩
  refine J_pop E (jd dk_X6_addPlaces_0 3 rfl) rfl ?_
  refine J_aload_n E (jd dk_X6_addPlaces_0 4 rfl) rfl 0 rfl ?_
  refine J_bipush (v := 6) E (jd dk_X6_addPlaces_0 5 rfl) (by decide) ?_
  obtain ⟨u24, e25, hf⟩ := jbind hf
  obtain ⟨r22, e23, hf⟩ := jbind hf
  refine J_callV E (jd dk_X6_addPlaces_0 6 rfl) ml_RX6_256 cal_X6_goOnTrying e25 rfl (lk_X6_goOnTrying (jE_g E) (jE_tr E) N e23) rfl (Nat.le_of_ble_eq_true rfl) (jR_le hX (by decide) (by decide)) (jF0 hX) rfl ?_
  rintro _ _ ⟨rfl, rfl⟩
  refine J_iconst (v := 0) E (jd dk_X6_addPlaces_0 7 rfl) rfl ?_
  refine J_istore_n (lv' := [(2, .int 0), (0, .ref a0), (1, .int a1)]) E (jd dk_X6_addPlaces_0 8 rfl) rfl (by decide) rfl ?_
  refine J_sub [1, 0] rfl ?_
  exact lk_X6_addPlaces_b14 E hX hr N hf
def f_X6_watch_b98 (N : Nat) (v0 : Nat) (v1 : Int32) (v2 : Int32) (v3 : Int32) (v4 : Int32) (h : AH) : Option ((Int32 × Int32 × Int32 × AH) ⊕ ((Int32 × Int32 × AH))) :=
  some (.inl ((v2, v3, v4 + 1, h)))
def f_X6_watch_l62 (N : Nat) (v0 : Nat) (v1 : Int32) (v2 : Int32) (v3 : Int32) (v4 : Int32) (h : AH) : Option ((Int32 × Int32 × Int32 × AH) ⊕ ((Int32 × Int32 × AH))) :=
  (jgr 6 h v0 4).bind fun x1 =>
  (jgi 1 h x1 2).bind fun x3 =>
  if x3 ≤ v4 then some (.inr ((v2, v3, h)))
  else (jgr 6 h v0 10).bind fun x6 =>
  (jal 0 h x6 v4).bind fun x8 =>
  (f_J6_bitCount_0f7a4 N h x8).bind fun r10 =>
  if r10.1 ≤ v3 then f_X6_watch_b98 N v0 v1 v2 v3 v4 r10.2
  else f_X6_watch_b98 N v0 v1 v4 r10.1 v4 r10.2
def f_X6_watch_b62 (N : Nat) (v0 : Nat) (v1 : Int32) (v2 : Int32) (v3 : Int32) (v4 : Int32) (h : AH) : Option ((Nat ⊕ Int32) × AH) :=
  (itr (fun s => f_X6_watch_l62 N v0 v1 s.1 s.2.1 s.2.2.1 s.2.2.2) N (v2, v3, v4, h)).bind (fun e => if v1 = 0 then some (.inr e.1, e.2.2)
  else some (.inr e.2.1, e.2.2))
def f_X6_watch_b49 (N : Nat) (v0 : Nat) (v1 : Int32) (v2 : Int32) (h : AH) : Option ((Int32 × AH) ⊕ ((AH))) :=
  some (.inl ((v2 + 1, h)))
def f_X6_watch_l15 (N : Nat) (v0 : Nat) (v1 : Int32) (v2 : Int32) (h : AH) : Option ((Int32 × AH) ⊕ ((AH))) :=
  (jgr 6 h v0 4).bind fun x14 =>
  (jgi 1 h x14 2).bind fun x16 =>
  if ((10 : Int32) * x16) ≤ v2 then some (.inr h)
  else (jck 6 h v0).bind fun _ =>
  (f_X6_tryGuess N h v0 v2).bind fun r19 =>
  if r19.1 = 0 then f_X6_watch_b49 N v0 v1 v2 r19.2
  else (jck 6 r19.2 v0).bind fun _ =>
  (f_X6_sightingsHold N r19.2 v0).bind fun r24 =>
  if r24.1 = 0 then f_X6_watch_b49 N v0 v1 v2 r24.2
  else (jck 6 r24.2 v0).bind fun _ =>
  (f_X6_addPlaces N r24.2 v0 v2).bind fun r29 =>
  f_X6_watch_b49 N v0 v1 v2 r29
def f_X6_watch_b15 (N : Nat) (v0 : Nat) (v1 : Int32) (v2 : Int32) (h : AH) : Option ((Nat ⊕ Int32) × AH) :=
  (itr (fun s => f_X6_watch_l15 N v0 v1 s.1 s.2) N (v2, h)).bind (fun e => f_X6_watch_b62 N v0 v1 ((-1)) 0 0 e)
def f_X6_watch (N : Nat) (h : AH) (a0 : Nat) (a1 : Int32) : Option ((Nat ⊕ Int32) × AH) :=
  (f_X6_needWhat N h a1 1).bind fun r33 => Sum.elim (fun k => some (.inl k, r33.2)) (fun _ =>
  (jgr 6 r33.2 a0 10).bind fun x36 =>
  (f_J7_fill_53178 N r33.2 x36 0).bind fun r38 =>
  f_X6_watch_b15 N a0 a1 0 r38) r33.1
set_option maxRecDepth 100000 in
set_option maxHeartbeats 4000000 in
theorem lk_X6_watch_b98 {G : JG} {X : JX} (E : jE G X (RX6, cX6_watch, 6)) (hX : X.2.2.2.1 = jRm 7 1 6) (hr : X.2.2.2.2.2.2.2.2.1.sig.returnType = (some .int)) (htab : ∀ x ∈ X.2.2.2.2.2.2.2.2.2.exceptionTable.toList, False) (N : Nat) {Q : State → Prop} {v0 : Nat} {v1 : Int32} {v2 : Int32} {v3 : Int32} {v4 : Int32} {h : AH}  {q : ((Int32 × Int32 × Int32 × AH) ⊕ ((Int32 × Int32 × AH)))} (hf : f_X6_watch_b98 N v0 v1 v2 v3 v4 h = some q) (kb : ∀ s' : Int32 × Int32 × Int32 × AH, q = .inl s' → JW G X (RX6, cX6_watch, 6) s'.2.2.2 [(0, .ref v0), (1, .int v1), (2, .int s'.1), (3, .int s'.2.1), (4, .int s'.2.2.1)] [] 62 1 6 Q) (ke0 : ∀ e : Int32 × Int32 × AH, q = .inr e → JW G X (RX6, cX6_watch, 6) e.2.2 [(1, .int v1), (2, .int e.1), (3, .int e.2.1)] [] 104 1 6 Q) : JW G X (RX6, cX6_watch, 6) h [(0, .ref v0), (1, .int v1), (2, .int v2), (3, .int v3), (4, .int v4)] [] 98 1 6 Q := by
  unfold f_X6_watch_b98 at hf
  refine J_iinc (v := v4 + 1) (lv' := [(4, .int (v4 + 1)), (0, .ref v0), (1, .int v1), (2, .int v2), (3, .int v3)]) E (jd dk_X6_watch_1 2 rfl) 4 rfl rfl (by decide) rfl ?_
  refine J_goto (tgt := 62) E (jd dk_X6_watch_1 3 rfl) (by decide) ?_
  refine J_sub [1, 2, 3, 4, 0] rfl ?_
  exact kb _ (Option.some.inj hf).symm
set_option maxRecDepth 100000 in
set_option maxHeartbeats 4000000 in
theorem lk_X6_watch_l62 {G : JG} {X : JX} (E : jE G X (RX6, cX6_watch, 6)) (hX : X.2.2.2.1 = jRm 7 1 6) (hr : X.2.2.2.2.2.2.2.2.1.sig.returnType = (some .int)) (htab : ∀ x ∈ X.2.2.2.2.2.2.2.2.2.exceptionTable.toList, False) (N : Nat) {Q : State → Prop} {v0 : Nat} {v1 : Int32} {v2 : Int32} {v3 : Int32} {v4 : Int32}  {h : AH} {q : ((Int32 × Int32 × Int32 × AH) ⊕ ((Int32 × Int32 × AH)))} (hf : f_X6_watch_l62 N v0 v1 v2 v3 v4 h = some q) (kb : ∀ s' : Int32 × Int32 × Int32 × AH, q = .inl s' → JW G X (RX6, cX6_watch, 6) s'.2.2.2 [(0, .ref v0), (1, .int v1), (2, .int s'.1), (3, .int s'.2.1), (4, .int s'.2.2.1)] [] 62 1 6 Q) (ke0 : ∀ e : Int32 × Int32 × AH, q = .inr e → JW G X (RX6, cX6_watch, 6) e.2.2 [(1, .int v1), (2, .int e.1), (3, .int e.2.1)] [] 104 1 6 Q) : JW G X (RX6, cX6_watch, 6) h [(0, .ref v0), (1, .int v1), (2, .int v2), (3, .int v3), (4, .int v4)] [] 62 1 6 Q := by
  unfold f_X6_watch_l62 at hf
  refine J_iload E (jd dk_X6_watch_0 34 rfl) 4 rfl ?_
  refine J_aload_n E (jd dk_X6_watch_0 35 rfl) rfl 0 rfl ?_
  obtain ⟨x1, e2, hf⟩ := jbind hf
  refine J_getr E (jd dk_X6_watch_0 36 rfl) fl_RX6_30 e2 ?_
  obtain ⟨x3, e4, hf⟩ := jbind hf
  refine J_geti E (jd dk_X6_watch_0 37 rfl) fl_RX6_110 e4 ?_
  refine J_icmp_ge (tgt := 104) E (jd dk_X6_watch_0 38 rfl) (by decide) (fun c5 => ?_) (fun c5 => ?_)
  · replace hf := jif_t c5 hf
    refine J_sub [1, 2, 3] rfl ?_
    exact ke0 _ (Option.some.inj hf).symm
  · replace hf := jif_f c5 hf
    refine J_aload_n E (jd dk_X6_watch_0 39 rfl) rfl 0 rfl ?_
    obtain ⟨x6, e7, hf⟩ := jbind hf
    refine J_getr E (jd dk_X6_watch_0 40 rfl) fl_RX6_62 e7 ?_
    refine J_iload E (jd dk_X6_watch_0 41 rfl) 4 rfl ?_
    obtain ⟨x8, e9, hf⟩ := jbind hf
    refine J_iald E (jd dk_X6_watch_0 42 rfl) e9 ?_
    obtain ⟨r10, e11, hf⟩ := jbind hf
    refine J_callS E (jd dk_X6_watch_0 43 rfl) ml_RX6_153 cal_J6_bitCount_0f7a4 (lk_J6_bitCount_0f7a4 (jE_g E) (jE_tr E) N e11) rfl (Nat.le_of_ble_eq_true rfl) (jR_le hX (by decide) (by decide)) (jFx hX (by decide) (by decide)) rfl ?_
    rintro _ _ ⟨rfl, rfl⟩
    refine J_istore (lv' := [(5, .int r10.1), (0, .ref v0), (1, .int v1), (2, .int v2), (3, .int v3), (4, .int v4)]) E (jd dk_X6_watch_0 44 rfl) (by decide) rfl ?_
    refine J_iload E (jd dk_X6_watch_0 45 rfl) 0 rfl ?_
    refine J_iload_n E (jd dk_X6_watch_0 46 rfl) rfl 4 rfl ?_
    refine J_icmp_le (tgt := 98) E (jd dk_X6_watch_0 47 rfl) (by decide) (fun c12 => ?_) (fun c12 => ?_)
    · replace hf := jif_t c12 hf
      refine J_sub [1, 2, 3, 4, 5] rfl ?_
      exact lk_X6_watch_b98 E hX hr htab N hf kb ke0
    · replace hf := jif_f c12 hf
      refine J_iload E (jd dk_X6_watch_0 48 rfl) 0 rfl ?_
      refine J_istore_n (lv' := [(3, .int r10.1), (5, .int r10.1), (0, .ref v0), (1, .int v1), (2, .int v2), (4, .int v4)]) E (jd dk_X6_watch_0 49 rfl) rfl (by decide) rfl ?_
      refine J_iload E (jd dk_X6_watch_1 0 rfl) 5 rfl ?_
      refine J_istore_n (lv' := [(2, .int v4), (3, .int r10.1), (5, .int r10.1), (0, .ref v0), (1, .int v1), (4, .int v4)]) E (jd dk_X6_watch_1 1 rfl) rfl (by decide) rfl ?_
      refine J_sub [3, 4, 0, 1, 5] rfl ?_
      exact lk_X6_watch_b98 E hX hr htab N hf kb ke0
set_option maxRecDepth 100000 in
set_option maxHeartbeats 4000000 in
theorem lk_X6_watch_b62 {G : JG} {X : JX} (E : jE G X (RX6, cX6_watch, 6)) (hX : X.2.2.2.1 = jRm 7 1 6) (hr : X.2.2.2.2.2.2.2.2.1.sig.returnType = (some .int)) (htab : ∀ x ∈ X.2.2.2.2.2.2.2.2.2.exceptionTable.toList, False) (N : Nat) {v0 : Nat} {v1 : Int32} {v2 : Int32} {v3 : Int32} {v4 : Int32} {h : AH}  {r : ((Nat ⊕ Int32) × AH)} (hf : f_X6_watch_b62 N v0 v1 v2 v3 v4 h = some r) : JW G X (RX6, cX6_watch, 6) h [(0, .ref v0), (1, .int v1), (2, .int v2), (3, .int v3), (4, .int v4)] [] 62 1 6 (jEndX G X (jpXi r) (jpXx r) 1 6) := by
  unfold f_X6_watch_b62 at hf
  obtain ⟨q1, h1, hf⟩ := jbind hf
  refine jloop (P := fun s => JW G X (RX6, cX6_watch, 6) s.2.2.2 [(0, .ref v0), (1, .int v1), (2, .int s.1), (3, .int s.2.1), (4, .int s.2.2.1)] [] 62 1 6 (jEndX G X (jpXi r) (jpXx r) 1 6)) (Ex := fun (e : Int32 × Int32 × AH) => JW G X (RX6, cX6_watch, 6) e.2.2 [(1, .int v1), (2, .int e.1), (3, .int e.2.1)] [] 104 1 6 (jEndX G X (jpXi r) (jpXx r) 1 6)) (fun s q hs hb hx => lk_X6_watch_l62 E hX hr htab N hs (fun s' hs => hb s' hs) (fun e he => hx e he)) N _ q1 h1 ?_
  generalize q1 = e at hf ⊢
  refine J_iload_n E (jd dk_X6_watch_1 4 rfl) rfl 0 rfl ?_
  refine J_if_ne (tgt := 112) E (jd dk_X6_watch_1 5 rfl) (by decide) (fun c13 => ?_) (fun c13 => ?_)
  · replace hf := jif_f c13 hf
    refine J_iload_n E (jd dk_X6_watch_1 8 rfl) rfl 2 rfl ?_
    cases hf
    exact J_x (J_iret E hr rfl (jd dk_X6_watch_1 9 rfl) (by decide) (by decide) ⟨_, rfl, rfl, rfl⟩)
  · replace hf := jif_t c13 hf
    refine J_iload_n E (jd dk_X6_watch_1 6 rfl) rfl 1 rfl ?_
    refine J_goto (tgt := 113) E (jd dk_X6_watch_1 7 rfl) (by decide) ?_
    cases hf
    exact J_x (J_iret E hr rfl (jd dk_X6_watch_1 9 rfl) (by decide) (by decide) ⟨_, rfl, rfl, rfl⟩)
set_option maxRecDepth 100000 in
set_option maxHeartbeats 4000000 in
theorem lk_X6_watch_b49 {G : JG} {X : JX} (E : jE G X (RX6, cX6_watch, 6)) (hX : X.2.2.2.1 = jRm 7 1 6) (hr : X.2.2.2.2.2.2.2.2.1.sig.returnType = (some .int)) (htab : ∀ x ∈ X.2.2.2.2.2.2.2.2.2.exceptionTable.toList, False) (N : Nat) {Q : State → Prop} {v0 : Nat} {v1 : Int32} {v2 : Int32} {h : AH}  {q : ((Int32 × AH) ⊕ ((AH)))} (hf : f_X6_watch_b49 N v0 v1 v2 h = some q) (kb : ∀ s' : Int32 × AH, q = .inl s' → JW G X (RX6, cX6_watch, 6) s'.2 [(0, .ref v0), (1, .int v1), (2, .int s'.1)] [] 15 1 6 Q) (ke0 : ∀ e : AH, q = .inr e → JW G X (RX6, cX6_watch, 6) e [(0, .ref v0), (1, .int v1)] [] 55 1 6 Q) : JW G X (RX6, cX6_watch, 6) h [(0, .ref v0), (1, .int v1), (2, .int v2)] [] 49 1 6 Q := by
  unfold f_X6_watch_b49 at hf
  refine J_iinc (v := v2 + 1) (lv' := [(2, .int (v2 + 1)), (0, .ref v0), (1, .int v1)]) E (jd dk_X6_watch_0 26 rfl) 2 rfl rfl (by decide) rfl ?_
  refine J_goto (tgt := 15) E (jd dk_X6_watch_0 27 rfl) (by decide) ?_
  refine J_sub [1, 2, 0] rfl ?_
  exact kb _ (Option.some.inj hf).symm
set_option maxRecDepth 100000 in
set_option maxHeartbeats 4000000 in
theorem lk_X6_watch_l15 {G : JG} {X : JX} (E : jE G X (RX6, cX6_watch, 6)) (hX : X.2.2.2.1 = jRm 7 1 6) (hr : X.2.2.2.2.2.2.2.2.1.sig.returnType = (some .int)) (htab : ∀ x ∈ X.2.2.2.2.2.2.2.2.2.exceptionTable.toList, False) (N : Nat) {Q : State → Prop} {v0 : Nat} {v1 : Int32} {v2 : Int32}  {h : AH} {q : ((Int32 × AH) ⊕ ((AH)))} (hf : f_X6_watch_l15 N v0 v1 v2 h = some q) (kb : ∀ s' : Int32 × AH, q = .inl s' → JW G X (RX6, cX6_watch, 6) s'.2 [(0, .ref v0), (1, .int v1), (2, .int s'.1)] [] 15 1 6 Q) (ke0 : ∀ e : AH, q = .inr e → JW G X (RX6, cX6_watch, 6) e [(0, .ref v0), (1, .int v1)] [] 55 1 6 Q) : JW G X (RX6, cX6_watch, 6) h [(0, .ref v0), (1, .int v1), (2, .int v2)] [] 15 1 6 Q := by
  unfold f_X6_watch_l15 at hf
  refine J_iload_n E (jd dk_X6_watch_0 9 rfl) rfl 2 rfl ?_
  refine J_bipush (v := 10) E (jd dk_X6_watch_0 10 rfl) (by decide) ?_
  refine J_aload_n E (jd dk_X6_watch_0 11 rfl) rfl 0 rfl ?_
  obtain ⟨x14, e15, hf⟩ := jbind hf
  refine J_getr E (jd dk_X6_watch_0 12 rfl) fl_RX6_30 e15 ?_
  obtain ⟨x16, e17, hf⟩ := jbind hf
  refine J_geti E (jd dk_X6_watch_0 13 rfl) fl_RX6_110 e17 ?_
  refine J_imul E (jd dk_X6_watch_0 14 rfl) ?_
  refine J_icmp_ge (tgt := 55) E (jd dk_X6_watch_0 15 rfl) (by decide) (fun c18 => ?_) (fun c18 => ?_)
  · replace hf := jif_t c18 hf
    refine J_sub [0, 1] rfl ?_
    exact ke0 _ (Option.some.inj hf).symm
  · replace hf := jif_f c18 hf
    refine J_aload_n E (jd dk_X6_watch_0 16 rfl) rfl 0 rfl ?_
    refine J_iload_n E (jd dk_X6_watch_0 17 rfl) rfl 2 rfl ?_
    obtain ⟨u21, e22, hf⟩ := jbind hf
    obtain ⟨r19, e20, hf⟩ := jbind hf
    refine J_callV E (jd dk_X6_watch_0 18 rfl) ml_RX6_278 cal_X6_tryGuess e22 rfl (lk_X6_tryGuess (jE_g E) (jE_tr E) N e20) rfl (Nat.le_of_ble_eq_true rfl) (jR_le hX (by decide) (by decide)) (jFx hX (by decide) (by decide)) rfl ?_
    rintro _ _ ⟨rfl, rfl⟩
    refine J_if_eq (tgt := 49) E (jd dk_X6_watch_0 19 rfl) (by decide) (fun c23 => ?_) (fun c23 => ?_)
    · replace hf := jif_t c23 hf
      exact lk_X6_watch_b49 E hX hr htab N hf kb ke0
    · replace hf := jif_f c23 hf
      refine J_aload_n E (jd dk_X6_watch_0 20 rfl) rfl 0 rfl ?_
      obtain ⟨u26, e27, hf⟩ := jbind hf
      obtain ⟨r24, e25, hf⟩ := jbind hf
      refine J_callV E (jd dk_X6_watch_0 21 rfl) ml_RX6_275 cal_X6_sightingsHold e27 rfl (lk_X6_sightingsHold (jE_g E) (jE_tr E) N e25) rfl (Nat.le_of_ble_eq_true rfl) (jR_le hX (by decide) (by decide)) (jFx hX (by decide) (by decide)) rfl ?_
      rintro _ _ ⟨rfl, rfl⟩
      refine J_if_eq (tgt := 49) E (jd dk_X6_watch_0 22 rfl) (by decide) (fun c28 => ?_) (fun c28 => ?_)
      · replace hf := jif_t c28 hf
        exact lk_X6_watch_b49 E hX hr htab N hf kb ke0
      · replace hf := jif_f c28 hf
        refine J_aload_n E (jd dk_X6_watch_0 23 rfl) rfl 0 rfl ?_
        refine J_iload_n E (jd dk_X6_watch_0 24 rfl) rfl 2 rfl ?_
        obtain ⟨u31, e32, hf⟩ := jbind hf
        obtain ⟨r29, e30, hf⟩ := jbind hf
        refine J_callV E (jd dk_X6_watch_0 25 rfl) ml_RX6_299 cal_X6_addPlaces e32 rfl (lk_X6_addPlaces (jE_g E) (jE_tr E) N e30) rfl (Nat.le_of_ble_eq_true rfl) (jR_le hX (by decide) (by decide)) (jFx hX (by decide) (by decide)) rfl ?_
        rintro _ _ ⟨rfl, rfl⟩
        exact lk_X6_watch_b49 E hX hr htab N hf kb ke0
set_option maxRecDepth 100000 in
set_option maxHeartbeats 4000000 in
theorem lk_X6_watch_b15 {G : JG} {X : JX} (E : jE G X (RX6, cX6_watch, 6)) (hX : X.2.2.2.1 = jRm 7 1 6) (hr : X.2.2.2.2.2.2.2.2.1.sig.returnType = (some .int)) (htab : ∀ x ∈ X.2.2.2.2.2.2.2.2.2.exceptionTable.toList, False) (N : Nat) {v0 : Nat} {v1 : Int32} {v2 : Int32} {h : AH}  {r : ((Nat ⊕ Int32) × AH)} (hf : f_X6_watch_b15 N v0 v1 v2 h = some r) : JW G X (RX6, cX6_watch, 6) h [(0, .ref v0), (1, .int v1), (2, .int v2)] [] 15 1 6 (jEndX G X (jpXi r) (jpXx r) 1 6) := by
  unfold f_X6_watch_b15 at hf
  obtain ⟨q1, h1, hf⟩ := jbind hf
  refine jloop (P := fun s => JW G X (RX6, cX6_watch, 6) s.2 [(0, .ref v0), (1, .int v1), (2, .int s.1)] [] 15 1 6 (jEndX G X (jpXi r) (jpXx r) 1 6)) (Ex := fun (e : AH) => JW G X (RX6, cX6_watch, 6) e [(0, .ref v0), (1, .int v1)] [] 55 1 6 (jEndX G X (jpXi r) (jpXx r) 1 6)) (fun s q hs hb hx => lk_X6_watch_l15 E hX hr htab N hs (fun s' hs => hb s' hs) (fun e he => hx e he)) N _ q1 h1 ?_
  generalize q1 = e at hf ⊢
  refine J_iconst (v := (-1)) E (jd dk_X6_watch_0 28 rfl) rfl ?_
  refine J_istore_n (lv' := [(2, .int ((-1))), (0, .ref v0), (1, .int v1)]) E (jd dk_X6_watch_0 29 rfl) rfl (by decide) rfl ?_
  refine J_iconst (v := 0) E (jd dk_X6_watch_0 30 rfl) rfl ?_
  refine J_istore_n (lv' := [(3, .int 0), (2, .int ((-1))), (0, .ref v0), (1, .int v1)]) E (jd dk_X6_watch_0 31 rfl) rfl (by decide) rfl ?_
  refine J_iconst (v := 0) E (jd dk_X6_watch_0 32 rfl) rfl ?_
  refine J_istore (lv' := [(4, .int 0), (3, .int 0), (2, .int ((-1))), (0, .ref v0), (1, .int v1)]) E (jd dk_X6_watch_0 33 rfl) (by decide) rfl ?_
  refine J_sub [3, 4, 2, 1, 0] rfl ?_
  exact lk_X6_watch_b62 E hX hr htab N hf
set_option maxRecDepth 100000 in
set_option maxHeartbeats 4000000 in
theorem lk_X6_watch {G : JG} {l : Launch} (hG : jG G) (htr : l.stackTraces = false) (N : Nat) {h : AH} {a0 : Nat} {a1 : Int32} {r : ((Nat ⊕ Int32) × AH)} (hf : f_X6_watch N h a0 a1 = some r) : jMetX G l yX6_watch cX6_watch 6 (some .int) 7 1 6 [.ref a0, .int a1] h (jpXi r) (jpXx r) := by
  unfold f_X6_watch at hf
  refine jMetX_of hG htr (by decide) (Nat.le_of_ble_eq_true rfl) ?_
  intro X E hl9 hr hX htab
  show JW G X (RX6, cX6_watch, 6) h [(0, .ref a0), (1, .int a1)] [] 0 0 0 (jEndX G X (jpXi r) (jpXx r) 1 6)
  refine J_iload_n E (jd dk_X6_watch_0 0 rfl) rfl 1 rfl ?_
  refine J_iconst (v := 1) E (jd dk_X6_watch_0 1 rfl) rfl ?_
  obtain ⟨r33, e34, hf⟩ := jbind hf
  obtain ⟨r33a, r33b⟩ := r33
  refine J_callSX E (jd dk_X6_watch_0 2 rfl) ml_RX6_162 cal_X6_needWhat (lk_X6_needWhat (jE_g E) (jE_tr E) N e34) rfl (Nat.le_of_ble_eq_true rfl) (jR_le hX (by decide) (by decide)) (jFx hX (by decide) (by decide)) rfl ?_ ?_
  rotate_left
  · rintro _ _ ⟨k9, rfl, rfl, rfl⟩
    replace hf := Option.some.inj hf
    subst hf
    exact J_out E htab (by decide) (by decide) ⟨_, rfl, rfl, rfl⟩
  rintro _ _ ⟨rfl, rfl, rfl⟩
  replace hf : _ = some _ := hf
  refine J_aload_n E (jd dk_X6_watch_0 3 rfl) rfl 0 rfl ?_
  obtain ⟨x36, e37, hf⟩ := jbind hf
  refine J_getr E (jd dk_X6_watch_0 4 rfl) fl_RX6_62 e37 ?_
  refine J_iconst (v := 0) E (jd dk_X6_watch_0 5 rfl) rfl ?_
  obtain ⟨r38, e39, hf⟩ := jbind hf
  refine J_callS E (jd dk_X6_watch_0 6 rfl) ml_RX6_294 cal_J7_fill_53178 (lk_J7_fill_53178 (jE_g E) (jE_tr E) N e39) rfl (Nat.le_of_ble_eq_true rfl) (jR_le hX (by decide) (by decide)) (jFx hX (by decide) (by decide)) rfl ?_
  rintro _ _ ⟨rfl, rfl⟩
  refine J_iconst (v := 0) E (jd dk_X6_watch_0 7 rfl) rfl ?_
  refine J_istore_n (lv' := [(2, .int 0), (0, .ref a0), (1, .int a1)]) E (jd dk_X6_watch_0 8 rfl) rfl (by decide) rfl ?_
  refine J_sub [1, 2, 0] rfl ?_
  exact lk_X6_watch_b15 E hX hr htab N hf
def f_X6_forget (N : Nat) (h : AH) (a0 : Nat) : Option AH :=
  (jgr 6 h a0 5).bind fun x1 =>
  (jwi 0 h x1 3 0).bind fun h3 =>
  some h3
set_option maxRecDepth 100000 in
set_option maxHeartbeats 4000000 in
theorem lk_X6_forget {G : JG} {l : Launch} (hG : jG G) (htr : l.stackTraces = false) (N : Nat) {h : AH} {a0 : Nat} {r : AH} (hf : f_X6_forget N h a0 = some r) : jMet G l yX6_forget cX6_forget 1 none 0 0 0 [.ref a0] h (jpv r) := by
  unfold f_X6_forget at hf
  refine jMet_of hG htr (by decide) (Nat.le_of_ble_eq_true rfl) ?_
  intro X E hl9 hr hX _ _
  show JW G X (RX6, cX6_forget, 1) h [(0, .ref a0)] [] 0 0 0 (jEnd G X (jpv r) 0 0)
  refine J_aload_n E (jd dk_X6_forget_0 0 rfl) rfl 0 rfl ?_
  obtain ⟨x1, e2, hf⟩ := jbind hf
  refine J_getr E (jd dk_X6_forget_0 1 rfl) fl_RX6_37 e2 ?_
  refine J_iconst (v := 0) E (jd dk_X6_forget_0 2 rfl) rfl ?_
  obtain ⟨h3, e4, hf⟩ := jbind hf
  refine J_put E (jd dk_X6_forget_0 3 rfl) fl_RX6_139 e4 (fun _ => rfl) (fun _ => rfl) ?_
  cases hf
  exact J_vret E hr (jd dk_X6_forget_0 4 rfl) (Nat.le_refl _) (Nat.le_refl _) ⟨rfl, rfl⟩
def f_X6_floods_b21 (N : Nat)  (h : AH) : Option ((Nat ⊕ Int32) × AH) :=
  some (.inl 2, h)
def f_X6_floods_b139 (N : Nat) (v0 : Nat) (v1 : Int32) (v2 : Int32) (v3 : Int32) (v4 : Int32) (v5 : Int32) (h : AH) : Option ((Int32 × Int32 × AH) ⊕ ((Int32 × AH))) :=
  some (.inl ((v4, v5 + 1, h)))
def f_X6_floods_b95 (N : Nat) (v0 : Nat) (v1 : Int32) (v2 : Int32) (v3 : Int32) (v4 : Int32) (v5 : Int32) (v7 : Int32) (v8 : Int32) (w0 : Int32) (w1 : Int32) (h : AH) : Option ((Int32 × Int32 × AH) ⊕ ((Int32 × AH))) :=
  (jgr 6 h v0 8).bind fun x1 =>
  (jgr 6 h v0 4).bind fun x3 =>
  (jck 5 h x1).bind fun _ =>
  (f_X5_pass N h x1 x3 v8).bind fun r5 =>
  some (.inl ((w0 * w1, v7 + 1, r5)))
def f_X6_floods_b78 (N : Nat) (v0 : Nat) (v1 : Int32) (v2 : Int32) (v3 : Int32) (v4 : Int32) (v5 : Int32) (v6 : Int32) (v7 : Int32) (w0 : Int32) (h : AH) : Option ((Int32 × Int32 × AH) ⊕ ((Int32 × AH))) :=
  if w0 = 0 then f_X6_floods_b95 N v0 v1 v2 v3 v4 v5 v7 w0 v6 ((10 : Int32) - v3) h
  else f_X6_floods_b95 N v0 v1 v2 v3 v4 v5 v7 w0 v6 v3 h
def f_X6_floods_l56 (N : Nat) (v0 : Nat) (v1 : Int32) (v2 : Int32) (v3 : Int32) (v4 : Int32) (v5 : Int32) (v6 : Int32) (v7 : Int32) (h : AH) : Option ((Int32 × Int32 × AH) ⊕ ((Int32 × AH))) :=
  if v2 ≤ v7 then some (.inr ((v6, h)))
  else if ((v5 >>> (v7 &&& 31)) &&& 1) = 1 then f_X6_floods_b78 N v0 v1 v2 v3 v4 v5 v6 v7 1 h
  else f_X6_floods_b78 N v0 v1 v2 v3 v4 v5 v6 v7 0 h
def f_X6_floods_b56 (N : Nat) (v0 : Nat) (v1 : Int32) (v2 : Int32) (v3 : Int32) (v4 : Int32) (v5 : Int32) (v6 : Int32) (v7 : Int32) (h : AH) : Option ((Int32 × Int32 × AH) ⊕ ((Int32 × AH))) :=
  (itr (fun s => f_X6_floods_l56 N v0 v1 v2 v3 v4 v5 s.1 s.2.1 s.2.2) N (v6, v7, h)).bind (fun e => (jgr 6 e.2 v0 8).bind fun x12 =>
  (jgr 6 e.2 v0 4).bind fun x14 =>
  (jck 5 e.2 x12).bind fun _ =>
  (f_X5_isFair N e.2 x12 x14 v1).bind fun r16 =>
  if r16.1 = 0 then f_X6_floods_b139 N v0 v1 v2 v3 v4 v5 r16.2
  else f_X6_floods_b139 N v0 v1 v2 v3 (v4 + e.1) v5 r16.2)
def f_X6_floods_l38 (N : Nat) (v0 : Nat) (v1 : Int32) (v2 : Int32) (v3 : Int32) (v4 : Int32) (v5 : Int32) (h : AH) : Option ((Int32 × Int32 × AH) ⊕ ((Int32 × AH))) :=
  if ((1 : Int32) <<< (v2 &&& 31)) ≤ v5 then some (.inr ((v4, h)))
  else (jck 6 h v0).bind fun _ =>
  (f_X6_tryFromNow N h v0).bind fun r22 =>
  f_X6_floods_b56 N v0 v1 v2 v3 v4 v5 1 0 r22
def f_X6_floods_b38 (N : Nat) (v0 : Nat) (v1 : Int32) (v2 : Int32) (v3 : Int32) (v4 : Int32) (v5 : Int32) (h : AH) : Option ((Nat ⊕ Int32) × AH) :=
  (itr (fun s => f_X6_floods_l38 N v0 v1 v2 v3 s.1 s.2.1 s.2.2) N (v4, v5, h)).bind (fun e => some (.inr e.1, e.2))
def f_X6_floods (N : Nat) (h : AH) (a0 : Nat) (a1 : Int32) (a2 : Int32) (a3 : Int32) : Option ((Nat ⊕ Int32) × AH) :=
  (jck 6 h a0).bind fun _ =>
  (f_X6_needJudge N h a0 a1).bind fun r26 => Sum.elim (fun k => some (.inl k, r26.2)) (fun _ =>
  (f_X6_needSteps N r26.2 a2 1 5).bind fun r31 => Sum.elim (fun k => some (.inl k, r31.2)) (fun _ =>
  if a3 < 0 then f_X6_floods_b21 N  r31.2
  else if a3 ≤ 10 then f_X6_floods_b38 N a0 a1 a2 a3 0 0 r31.2
  else f_X6_floods_b21 N  r31.2) r31.1) r26.1
set_option maxRecDepth 100000 in
set_option maxHeartbeats 4000000 in
theorem lk_X6_floods_b21 {G : JG} {X : JX} (E : jE G X (RX6, cX6_floods, 9)) (hX : X.2.2.2.1 = jRm 5 3 18) (hr : X.2.2.2.2.2.2.2.2.1.sig.returnType = (some .int)) (htab : ∀ x ∈ X.2.2.2.2.2.2.2.2.2.exceptionTable.toList, False) (N : Nat)  {h : AH}  {r : ((Nat ⊕ Int32) × AH)} (hf : f_X6_floods_b21 N  h = some r) : JW G X (RX6, cX6_floods, 9) h [] [] 21 2 12 (jEndX G X (jpXi r) (jpXx r) 3 18) := by
  unfold f_X6_floods_b21 at hf
  cases hf
  exact J_throwW (j := 22) (text := "not 0 to 10 tenths") E thr_2 rfl htab (jd dk_X6_floods_0 12 rfl) (jd dk_X6_floods_0 13 rfl) (jd dk_X6_floods_0 14 rfl) (jd dk_X6_floods_0 15 rfl) (jd dk_X6_floods_0 16 rfl) (Nat.le_of_ble_eq_true rfl) (jRc hX (by decide) (by decide)) (by decide) (by decide) ⟨2, rfl, rfl, rfl⟩
set_option maxRecDepth 100000 in
set_option maxHeartbeats 4000000 in
theorem lk_X6_floods_b139 {G : JG} {X : JX} (E : jE G X (RX6, cX6_floods, 9)) (hX : X.2.2.2.1 = jRm 5 3 18) (hr : X.2.2.2.2.2.2.2.2.1.sig.returnType = (some .int)) (htab : ∀ x ∈ X.2.2.2.2.2.2.2.2.2.exceptionTable.toList, False) (N : Nat) {Q : State → Prop} {v0 : Nat} {v1 : Int32} {v2 : Int32} {v3 : Int32} {v4 : Int32} {v5 : Int32} {h : AH}  {q : ((Int32 × Int32 × AH) ⊕ ((Int32 × AH)))} (hf : f_X6_floods_b139 N v0 v1 v2 v3 v4 v5 h = some q) (kb : ∀ s' : Int32 × Int32 × AH, q = .inl s' → JW G X (RX6, cX6_floods, 9) s'.2.2 [(0, .ref v0), (1, .int v1), (2, .int v2), (3, .int v3), (4, .int s'.1), (5, .int s'.2.1)] [] 38 2 12 Q) (ke0 : ∀ e : Int32 × AH, q = .inr e → JW G X (RX6, cX6_floods, 9) e.2 [(4, .int e.1)] [] 145 2 12 Q) : JW G X (RX6, cX6_floods, 9) h [(0, .ref v0), (1, .int v1), (2, .int v2), (3, .int v3), (4, .int v4), (5, .int v5)] [] 139 2 12 Q := by
  unfold f_X6_floods_b139 at hf
  refine J_iinc (v := v5 + 1) (lv' := [(5, .int (v5 + 1)), (0, .ref v0), (1, .int v1), (2, .int v2), (3, .int v3), (4, .int v4)]) E (jd dk_X6_floods_1 25 rfl) 5 rfl rfl (by decide) rfl ?_
  refine J_goto (tgt := 38) E (jd dk_X6_floods_1 26 rfl) (by decide) ?_
  refine J_sub [1, 2, 3, 4, 5, 0] rfl ?_
  exact kb _ (Option.some.inj hf).symm
set_option maxRecDepth 100000 in
set_option maxHeartbeats 4000000 in
theorem lk_X6_floods_b95 {G : JG} {X : JX} (E : jE G X (RX6, cX6_floods, 9)) (hX : X.2.2.2.1 = jRm 5 3 18) (hr : X.2.2.2.2.2.2.2.2.1.sig.returnType = (some .int)) (htab : ∀ x ∈ X.2.2.2.2.2.2.2.2.2.exceptionTable.toList, False) (N : Nat) {Q : State → Prop} {v0 : Nat} {v1 : Int32} {v2 : Int32} {v3 : Int32} {v4 : Int32} {v5 : Int32} {v7 : Int32} {v8 : Int32} {w0 : Int32} {w1 : Int32} {h : AH}  {q : ((Int32 × Int32 × AH) ⊕ ((Int32 × AH)))} (hf : f_X6_floods_b95 N v0 v1 v2 v3 v4 v5 v7 v8 w0 w1 h = some q) (kb : ∀ s' : Int32 × Int32 × AH, q = .inl s' → JW G X (RX6, cX6_floods, 9) s'.2.2 [(0, .ref v0), (1, .int v1), (2, .int v2), (3, .int v3), (4, .int v4), (5, .int v5), (6, .int s'.1), (7, .int s'.2.1)] [] 56 2 12 Q) (ke0 : ∀ e : Int32 × AH, q = .inr e → JW G X (RX6, cX6_floods, 9) e.2 [(0, .ref v0), (1, .int v1), (2, .int v2), (3, .int v3), (4, .int v4), (5, .int v5), (6, .int e.1)] [] 117 2 12 Q) : JW G X (RX6, cX6_floods, 9) h [(0, .ref v0), (1, .int v1), (2, .int v2), (3, .int v3), (4, .int v4), (5, .int v5), (7, .int v7), (8, .int v8)] [.int w1, .int w0] 95 2 12 Q := by
  unfold f_X6_floods_b95 at hf
  refine J_imul E (jd dk_X6_floods_1 4 rfl) ?_
  refine J_istore (lv' := [(6, .int (w0 * w1)), (0, .ref v0), (1, .int v1), (2, .int v2), (3, .int v3), (4, .int v4), (5, .int v5), (7, .int v7), (8, .int v8)]) E (jd dk_X6_floods_1 5 rfl) (by decide) rfl ?_
  refine J_aload_n E (jd dk_X6_floods_1 6 rfl) rfl 1 rfl ?_
  obtain ⟨x1, e2, hf⟩ := jbind hf
  refine J_getr E (jd dk_X6_floods_1 7 rfl) fl_RX6_51 e2 ?_
  refine J_aload_n E (jd dk_X6_floods_1 8 rfl) rfl 1 rfl ?_
  obtain ⟨x3, e4, hf⟩ := jbind hf
  refine J_getr E (jd dk_X6_floods_1 9 rfl) fl_RX6_30 e4 ?_
  refine J_iload E (jd dk_X6_floods_1 10 rfl) 8 rfl ?_
  obtain ⟨u7, e8, hf⟩ := jbind hf
  obtain ⟨r5, e6, hf⟩ := jbind hf
  refine J_callV E (jd dk_X6_floods_1 11 rfl) ml_RX6_201 cal_X5_pass e8 rfl (lk_X5_pass (jE_g E) (jE_tr E) N e6) rfl (Nat.le_of_ble_eq_true rfl) (jR_le hX (by decide) (by decide)) (jFx hX (by decide) (by decide)) rfl ?_
  rintro _ _ ⟨rfl, rfl⟩
  refine J_iinc (v := v7 + 1) (lv' := [(7, .int (v7 + 1)), (6, .int (w0 * w1)), (0, .ref v0), (1, .int v1), (2, .int v2), (3, .int v3), (4, .int v4), (5, .int v5), (8, .int v8)]) E (jd dk_X6_floods_1 12 rfl) 7 rfl rfl (by decide) rfl ?_
  refine J_goto (tgt := 56) E (jd dk_X6_floods_1 13 rfl) (by decide) ?_
  refine J_sub [2, 3, 4, 5, 6, 7, 1, 0] rfl ?_
  exact kb _ (Option.some.inj hf).symm
set_option maxRecDepth 100000 in
set_option maxHeartbeats 4000000 in
theorem lk_X6_floods_b78 {G : JG} {X : JX} (E : jE G X (RX6, cX6_floods, 9)) (hX : X.2.2.2.1 = jRm 5 3 18) (hr : X.2.2.2.2.2.2.2.2.1.sig.returnType = (some .int)) (htab : ∀ x ∈ X.2.2.2.2.2.2.2.2.2.exceptionTable.toList, False) (N : Nat) {Q : State → Prop} {v0 : Nat} {v1 : Int32} {v2 : Int32} {v3 : Int32} {v4 : Int32} {v5 : Int32} {v6 : Int32} {v7 : Int32} {w0 : Int32} {h : AH}  {q : ((Int32 × Int32 × AH) ⊕ ((Int32 × AH)))} (hf : f_X6_floods_b78 N v0 v1 v2 v3 v4 v5 v6 v7 w0 h = some q) (kb : ∀ s' : Int32 × Int32 × AH, q = .inl s' → JW G X (RX6, cX6_floods, 9) s'.2.2 [(0, .ref v0), (1, .int v1), (2, .int v2), (3, .int v3), (4, .int v4), (5, .int v5), (6, .int s'.1), (7, .int s'.2.1)] [] 56 2 12 Q) (ke0 : ∀ e : Int32 × AH, q = .inr e → JW G X (RX6, cX6_floods, 9) e.2 [(0, .ref v0), (1, .int v1), (2, .int v2), (3, .int v3), (4, .int v4), (5, .int v5), (6, .int e.1)] [] 117 2 12 Q) : JW G X (RX6, cX6_floods, 9) h [(0, .ref v0), (1, .int v1), (2, .int v2), (3, .int v3), (4, .int v4), (5, .int v5), (6, .int v6), (7, .int v7)] [.int w0] 78 2 12 Q := by
  unfold f_X6_floods_b78 at hf
  refine J_istore (lv' := [(8, .int w0), (0, .ref v0), (1, .int v1), (2, .int v2), (3, .int v3), (4, .int v4), (5, .int v5), (6, .int v6), (7, .int v7)]) E (jd dk_X6_floods_0 45 rfl) (by decide) rfl ?_
  refine J_iload E (jd dk_X6_floods_0 46 rfl) 7 rfl ?_
  refine J_iload E (jd dk_X6_floods_0 47 rfl) 0 rfl ?_
  refine J_if_eq (tgt := 91) E (jd dk_X6_floods_0 48 rfl) (by decide) (fun c9 => ?_) (fun c9 => ?_)
  · replace hf := jif_t c9 hf
    refine J_bipush (v := 10) E (jd dk_X6_floods_1 1 rfl) (by decide) ?_
    refine J_iload_n E (jd dk_X6_floods_1 2 rfl) rfl 4 rfl ?_
    refine J_isub E (jd dk_X6_floods_1 3 rfl) ?_
    refine J_sub [1, 2, 3, 4, 5, 6, 8, 0] rfl ?_
    exact lk_X6_floods_b95 E hX hr htab N hf kb ke0
  · replace hf := jif_f c9 hf
    refine J_iload_n E (jd dk_X6_floods_0 49 rfl) rfl 4 rfl ?_
    refine J_goto (tgt := 95) E (jd dk_X6_floods_1 0 rfl) (by decide) ?_
    refine J_sub [1, 2, 3, 4, 5, 6, 8, 0] rfl ?_
    exact lk_X6_floods_b95 E hX hr htab N hf kb ke0
set_option maxRecDepth 100000 in
set_option maxHeartbeats 4000000 in
theorem lk_X6_floods_l56 {G : JG} {X : JX} (E : jE G X (RX6, cX6_floods, 9)) (hX : X.2.2.2.1 = jRm 5 3 18) (hr : X.2.2.2.2.2.2.2.2.1.sig.returnType = (some .int)) (htab : ∀ x ∈ X.2.2.2.2.2.2.2.2.2.exceptionTable.toList, False) (N : Nat) {Q : State → Prop} {v0 : Nat} {v1 : Int32} {v2 : Int32} {v3 : Int32} {v4 : Int32} {v5 : Int32} {v6 : Int32} {v7 : Int32}  {h : AH} {q : ((Int32 × Int32 × AH) ⊕ ((Int32 × AH)))} (hf : f_X6_floods_l56 N v0 v1 v2 v3 v4 v5 v6 v7 h = some q) (kb : ∀ s' : Int32 × Int32 × AH, q = .inl s' → JW G X (RX6, cX6_floods, 9) s'.2.2 [(0, .ref v0), (1, .int v1), (2, .int v2), (3, .int v3), (4, .int v4), (5, .int v5), (6, .int s'.1), (7, .int s'.2.1)] [] 56 2 12 Q) (ke0 : ∀ e : Int32 × AH, q = .inr e → JW G X (RX6, cX6_floods, 9) e.2 [(0, .ref v0), (1, .int v1), (2, .int v2), (3, .int v3), (4, .int v4), (5, .int v5), (6, .int e.1)] [] 117 2 12 Q) : JW G X (RX6, cX6_floods, 9) h [(0, .ref v0), (1, .int v1), (2, .int v2), (3, .int v3), (4, .int v4), (5, .int v5), (6, .int v6), (7, .int v7)] [] 56 2 12 Q := by
  unfold f_X6_floods_l56 at hf
  refine J_iload E (jd dk_X6_floods_0 32 rfl) 7 rfl ?_
  refine J_iload_n E (jd dk_X6_floods_0 33 rfl) rfl 2 rfl ?_
  refine J_icmp_ge (tgt := 117) E (jd dk_X6_floods_0 34 rfl) (by decide) (fun c10 => ?_) (fun c10 => ?_)
  · replace hf := jif_t c10 hf
    refine J_sub [0, 1, 2, 3, 4, 5, 6] rfl ?_
    exact ke0 _ (Option.some.inj hf).symm
  · replace hf := jif_f c10 hf
    refine J_iload E (jd dk_X6_floods_0 35 rfl) 5 rfl ?_
    refine J_iload E (jd dk_X6_floods_0 36 rfl) 7 rfl ?_
    refine J_ishr E (jd dk_X6_floods_0 37 rfl) ?_
    refine J_iconst (v := 1) E (jd dk_X6_floods_0 38 rfl) rfl ?_
    refine J_iand E (jd dk_X6_floods_0 39 rfl) ?_
    refine J_iconst (v := 1) E (jd dk_X6_floods_0 40 rfl) rfl ?_
    refine J_icmp_ne (tgt := 77) E (jd dk_X6_floods_0 41 rfl) (by decide) (fun c11 => ?_) (fun c11 => ?_)
    · replace hf := jif_f c11 hf
      refine J_iconst (v := 0) E (jd dk_X6_floods_0 44 rfl) rfl ?_
      exact lk_X6_floods_b78 E hX hr htab N hf kb ke0
    · replace hf := jif_t c11 hf
      refine J_iconst (v := 1) E (jd dk_X6_floods_0 42 rfl) rfl ?_
      refine J_goto (tgt := 78) E (jd dk_X6_floods_0 43 rfl) (by decide) ?_
      exact lk_X6_floods_b78 E hX hr htab N hf kb ke0
set_option maxRecDepth 100000 in
set_option maxHeartbeats 4000000 in
theorem lk_X6_floods_b56 {G : JG} {X : JX} (E : jE G X (RX6, cX6_floods, 9)) (hX : X.2.2.2.1 = jRm 5 3 18) (hr : X.2.2.2.2.2.2.2.2.1.sig.returnType = (some .int)) (htab : ∀ x ∈ X.2.2.2.2.2.2.2.2.2.exceptionTable.toList, False) (N : Nat) {Q : State → Prop} {v0 : Nat} {v1 : Int32} {v2 : Int32} {v3 : Int32} {v4 : Int32} {v5 : Int32} {v6 : Int32} {v7 : Int32} {h : AH}  {q : ((Int32 × Int32 × AH) ⊕ ((Int32 × AH)))} (hf : f_X6_floods_b56 N v0 v1 v2 v3 v4 v5 v6 v7 h = some q) (kb : ∀ s' : Int32 × Int32 × AH, q = .inl s' → JW G X (RX6, cX6_floods, 9) s'.2.2 [(0, .ref v0), (1, .int v1), (2, .int v2), (3, .int v3), (4, .int s'.1), (5, .int s'.2.1)] [] 38 2 12 Q) (ke0 : ∀ e : Int32 × AH, q = .inr e → JW G X (RX6, cX6_floods, 9) e.2 [(4, .int e.1)] [] 145 2 12 Q) : JW G X (RX6, cX6_floods, 9) h [(0, .ref v0), (1, .int v1), (2, .int v2), (3, .int v3), (4, .int v4), (5, .int v5), (6, .int v6), (7, .int v7)] [] 56 2 12 Q := by
  unfold f_X6_floods_b56 at hf
  obtain ⟨q1, h1, hf⟩ := jbind hf
  refine jloop (P := fun s => JW G X (RX6, cX6_floods, 9) s.2.2 [(0, .ref v0), (1, .int v1), (2, .int v2), (3, .int v3), (4, .int v4), (5, .int v5), (6, .int s.1), (7, .int s.2.1)] [] 56 2 12 Q) (Ex := fun (e : Int32 × AH) => JW G X (RX6, cX6_floods, 9) e.2 [(0, .ref v0), (1, .int v1), (2, .int v2), (3, .int v3), (4, .int v4), (5, .int v5), (6, .int e.1)] [] 117 2 12 Q) (fun s q hs hb hx => lk_X6_floods_l56 E hX hr htab N hs (fun s' hs => hb s' hs) (fun e he => hx e he)) N _ q1 h1 ?_
  generalize q1 = e at hf ⊢
  refine J_aload_n E (jd dk_X6_floods_1 14 rfl) rfl 0 rfl ?_
  obtain ⟨x12, e13, hf⟩ := jbind hf
  refine J_getr E (jd dk_X6_floods_1 15 rfl) fl_RX6_51 e13 ?_
  refine J_aload_n E (jd dk_X6_floods_1 16 rfl) rfl 0 rfl ?_
  obtain ⟨x14, e15, hf⟩ := jbind hf
  refine J_getr E (jd dk_X6_floods_1 17 rfl) fl_RX6_30 e15 ?_
  refine J_iload_n E (jd dk_X6_floods_1 18 rfl) rfl 1 rfl ?_
  obtain ⟨u18, e19, hf⟩ := jbind hf
  obtain ⟨r16, e17, hf⟩ := jbind hf
  refine J_callV E (jd dk_X6_floods_1 19 rfl) ml_RX6_232 cal_X5_isFair e19 rfl (lk_X5_isFair (jE_g E) (jE_tr E) N e17) rfl (Nat.le_of_ble_eq_true rfl) (jR_le hX (by decide) (by decide)) (jFx hX (by decide) (by decide)) rfl ?_
  rintro _ _ ⟨rfl, rfl⟩
  refine J_if_eq (tgt := 139) E (jd dk_X6_floods_1 20 rfl) (by decide) (fun c20 => ?_) (fun c20 => ?_)
  · replace hf := jif_t c20 hf
    refine J_sub [0, 1, 2, 3, 4, 5] rfl ?_
    exact lk_X6_floods_b139 E hX hr htab N hf kb ke0
  · replace hf := jif_f c20 hf
    refine J_iload E (jd dk_X6_floods_1 21 rfl) 4 rfl ?_
    refine J_iload E (jd dk_X6_floods_1 22 rfl) 6 rfl ?_
    refine J_iadd E (jd dk_X6_floods_1 23 rfl) ?_
    refine J_istore (lv' := [(4, .int (v4 + e.1)), (0, .ref v0), (1, .int v1), (2, .int v2), (3, .int v3), (5, .int v5), (6, .int e.1)]) E (jd dk_X6_floods_1 24 rfl) (by decide) rfl ?_
    refine J_sub [1, 2, 3, 4, 0, 5] rfl ?_
    exact lk_X6_floods_b139 E hX hr htab N hf kb ke0
set_option maxRecDepth 100000 in
set_option maxHeartbeats 4000000 in
theorem lk_X6_floods_l38 {G : JG} {X : JX} (E : jE G X (RX6, cX6_floods, 9)) (hX : X.2.2.2.1 = jRm 5 3 18) (hr : X.2.2.2.2.2.2.2.2.1.sig.returnType = (some .int)) (htab : ∀ x ∈ X.2.2.2.2.2.2.2.2.2.exceptionTable.toList, False) (N : Nat) {Q : State → Prop} {v0 : Nat} {v1 : Int32} {v2 : Int32} {v3 : Int32} {v4 : Int32} {v5 : Int32}  {h : AH} {q : ((Int32 × Int32 × AH) ⊕ ((Int32 × AH)))} (hf : f_X6_floods_l38 N v0 v1 v2 v3 v4 v5 h = some q) (kb : ∀ s' : Int32 × Int32 × AH, q = .inl s' → JW G X (RX6, cX6_floods, 9) s'.2.2 [(0, .ref v0), (1, .int v1), (2, .int v2), (3, .int v3), (4, .int s'.1), (5, .int s'.2.1)] [] 38 2 12 Q) (ke0 : ∀ e : Int32 × AH, q = .inr e → JW G X (RX6, cX6_floods, 9) e.2 [(4, .int e.1)] [] 145 2 12 Q) : JW G X (RX6, cX6_floods, 9) h [(0, .ref v0), (1, .int v1), (2, .int v2), (3, .int v3), (4, .int v4), (5, .int v5)] [] 38 2 12 Q := by
  unfold f_X6_floods_l38 at hf
  refine J_iload E (jd dk_X6_floods_0 21 rfl) 5 rfl ?_
  refine J_iconst (v := 1) E (jd dk_X6_floods_0 22 rfl) rfl ?_
  refine J_iload_n E (jd dk_X6_floods_0 23 rfl) rfl 2 rfl ?_
  refine J_ishl E (jd dk_X6_floods_0 24 rfl) ?_
  refine J_icmp_ge (tgt := 145) E (jd dk_X6_floods_0 25 rfl) (by decide) (fun c21 => ?_) (fun c21 => ?_)
  · replace hf := jif_t c21 hf
    refine J_sub [4] rfl ?_
    exact ke0 _ (Option.some.inj hf).symm
  · replace hf := jif_f c21 hf
    refine J_aload_n E (jd dk_X6_floods_0 26 rfl) rfl 0 rfl ?_
    obtain ⟨u24, e25, hf⟩ := jbind hf
    obtain ⟨r22, e23, hf⟩ := jbind hf
    refine J_callV E (jd dk_X6_floods_0 27 rfl) ml_RX6_223 cal_X6_tryFromNow e25 rfl (lk_X6_tryFromNow (jE_g E) (jE_tr E) N e23) rfl (Nat.le_of_ble_eq_true rfl) (jR_le hX (by decide) (by decide)) (jFx hX (by decide) (by decide)) rfl ?_
    rintro _ _ ⟨rfl, rfl⟩
    refine J_iconst (v := 1) E (jd dk_X6_floods_0 28 rfl) rfl ?_
    refine J_istore (lv' := [(6, .int 1), (0, .ref v0), (1, .int v1), (2, .int v2), (3, .int v3), (4, .int v4), (5, .int v5)]) E (jd dk_X6_floods_0 29 rfl) (by decide) rfl ?_
    refine J_iconst (v := 0) E (jd dk_X6_floods_0 30 rfl) rfl ?_
    refine J_istore (lv' := [(7, .int 0), (6, .int 1), (0, .ref v0), (1, .int v1), (2, .int v2), (3, .int v3), (4, .int v4), (5, .int v5)]) E (jd dk_X6_floods_0 31 rfl) (by decide) rfl ?_
    refine J_sub [2, 3, 4, 5, 6, 7, 1, 0] rfl ?_
    exact lk_X6_floods_b56 E hX hr htab N hf kb ke0
set_option maxRecDepth 100000 in
set_option maxHeartbeats 4000000 in
theorem lk_X6_floods_b38 {G : JG} {X : JX} (E : jE G X (RX6, cX6_floods, 9)) (hX : X.2.2.2.1 = jRm 5 3 18) (hr : X.2.2.2.2.2.2.2.2.1.sig.returnType = (some .int)) (htab : ∀ x ∈ X.2.2.2.2.2.2.2.2.2.exceptionTable.toList, False) (N : Nat) {v0 : Nat} {v1 : Int32} {v2 : Int32} {v3 : Int32} {v4 : Int32} {v5 : Int32} {h : AH}  {r : ((Nat ⊕ Int32) × AH)} (hf : f_X6_floods_b38 N v0 v1 v2 v3 v4 v5 h = some r) : JW G X (RX6, cX6_floods, 9) h [(0, .ref v0), (1, .int v1), (2, .int v2), (3, .int v3), (4, .int v4), (5, .int v5)] [] 38 2 12 (jEndX G X (jpXi r) (jpXx r) 3 18) := by
  unfold f_X6_floods_b38 at hf
  obtain ⟨q1, h1, hf⟩ := jbind hf
  refine jloop (P := fun s => JW G X (RX6, cX6_floods, 9) s.2.2 [(0, .ref v0), (1, .int v1), (2, .int v2), (3, .int v3), (4, .int s.1), (5, .int s.2.1)] [] 38 2 12 (jEndX G X (jpXi r) (jpXx r) 3 18)) (Ex := fun (e : Int32 × AH) => JW G X (RX6, cX6_floods, 9) e.2 [(4, .int e.1)] [] 145 2 12 (jEndX G X (jpXi r) (jpXx r) 3 18)) (fun s q hs hb hx => lk_X6_floods_l38 E hX hr htab N hs (fun s' hs => hb s' hs) (fun e he => hx e he)) N _ q1 h1 ?_
  generalize q1 = e at hf ⊢
  refine J_iload E (jd dk_X6_floods_1 27 rfl) 0 rfl ?_
  cases hf
  exact J_x (J_iret E hr rfl (jd dk_X6_floods_1 28 rfl) (by decide) (by decide) ⟨_, rfl, rfl, rfl⟩)
set_option maxRecDepth 100000 in
set_option maxHeartbeats 4000000 in
theorem lk_X6_floods {G : JG} {l : Launch} (hG : jG G) (htr : l.stackTraces = false) (N : Nat) {h : AH} {a0 : Nat} {a1 : Int32} {a2 : Int32} {a3 : Int32} {r : ((Nat ⊕ Int32) × AH)} (hf : f_X6_floods N h a0 a1 a2 a3 = some r) : jMetX G l yX6_floods cX6_floods 9 (some .int) 5 3 18 [.ref a0, .int a1, .int a2, .int a3] h (jpXi r) (jpXx r) := by
  unfold f_X6_floods at hf
  refine jMetX_of hG htr (by decide) (Nat.le_of_ble_eq_true rfl) ?_
  intro X E hl9 hr hX htab
  show JW G X (RX6, cX6_floods, 9) h [(0, .ref a0), (1, .int a1), (2, .int a2), (3, .int a3)] [] 0 0 0 (jEndX G X (jpXi r) (jpXx r) 3 18)
  refine J_aload_n E (jd dk_X6_floods_0 0 rfl) rfl 0 rfl ?_
  refine J_iload_n E (jd dk_X6_floods_0 1 rfl) rfl 1 rfl ?_
  obtain ⟨u28, e29, hf⟩ := jbind hf
  obtain ⟨r26, e27, hf⟩ := jbind hf
  obtain ⟨r26a, r26b⟩ := r26
  refine J_callVX E (jd dk_X6_floods_0 2 rfl) ml_RX6_176 cal_X6_needJudge e29 rfl (lk_X6_needJudge (jE_g E) (jE_tr E) N e27) rfl (Nat.le_of_ble_eq_true rfl) (jR_le hX (by decide) (by decide)) (jFx hX (by decide) (by decide)) rfl ?_ ?_
  rotate_left
  · rintro _ _ ⟨k9, rfl, rfl, rfl⟩
    replace hf := Option.some.inj hf
    subst hf
    exact J_out E htab (by decide) (by decide) ⟨_, rfl, rfl, rfl⟩
  rintro _ _ ⟨rfl, rfl, rfl⟩
  replace hf : _ = some _ := hf
  refine J_iload_n E (jd dk_X6_floods_0 3 rfl) rfl 2 rfl ?_
  refine J_iconst (v := 1) E (jd dk_X6_floods_0 4 rfl) rfl ?_
  refine J_iconst (v := 5) E (jd dk_X6_floods_0 5 rfl) rfl ?_
  obtain ⟨r31, e32, hf⟩ := jbind hf
  obtain ⟨r31a, r31b⟩ := r31
  refine J_callSX E (jd dk_X6_floods_0 6 rfl) ml_RX6_216 cal_X6_needSteps (lk_X6_needSteps (jE_g E) (jE_tr E) N e32) rfl (Nat.le_of_ble_eq_true rfl) (jR_le hX (by decide) (by decide)) (jFx hX (by decide) (by decide)) rfl ?_ ?_
  rotate_left
  · rintro _ _ ⟨k9, rfl, rfl, rfl⟩
    replace hf := Option.some.inj hf
    subst hf
    exact J_out E htab (by decide) (by decide) ⟨_, rfl, rfl, rfl⟩
  rintro _ _ ⟨rfl, rfl, rfl⟩
  replace hf : _ = some _ := hf
  refine J_iload_n E (jd dk_X6_floods_0 7 rfl) rfl 3 rfl ?_
  refine J_if_lt (tgt := 21) E (jd dk_X6_floods_0 8 rfl) (by decide) (fun c34 => ?_) (fun c34 => ?_)
  · replace hf := jif_t c34 hf
    refine J_sub [] rfl ?_
    exact lk_X6_floods_b21 E hX hr htab N hf
  · replace hf := jif_f c34 hf
    refine J_iload_n E (jd dk_X6_floods_0 9 rfl) rfl 3 rfl ?_
    refine J_bipush (v := 10) E (jd dk_X6_floods_0 10 rfl) (by decide) ?_
    refine J_icmp_le (tgt := 32) E (jd dk_X6_floods_0 11 rfl) (by decide) (fun c35 => ?_) (fun c35 => ?_)
    · replace hf := jif_t c35 hf
      refine J_iconst (v := 0) E (jd dk_X6_floods_0 17 rfl) rfl ?_
      refine J_istore (lv' := [(4, .int 0), (0, .ref a0), (1, .int a1), (2, .int a2), (3, .int a3)]) E (jd dk_X6_floods_0 18 rfl) (by decide) rfl ?_
      refine J_iconst (v := 0) E (jd dk_X6_floods_0 19 rfl) rfl ?_
      refine J_istore (lv' := [(5, .int 0), (4, .int 0), (0, .ref a0), (1, .int a1), (2, .int a2), (3, .int a3)]) E (jd dk_X6_floods_0 20 rfl) (by decide) rfl ?_
      refine J_sub [2, 3, 4, 5, 1, 0] rfl ?_
      exact lk_X6_floods_b38 E hX hr htab N hf
    · replace hf := jif_f c35 hf
      refine J_sub [] rfl ?_
      exact lk_X6_floods_b21 E hX hr htab N hf
def f_X6_play_b42 (N : Nat) (v0 : Nat) (v1 : Int32) (v2 : Int32) (v3 : Int32) (h : AH) : Option AH :=
  (jck 6 h v0).bind fun _ =>
  (f_X6_goOnTrying N h v0 5).bind fun r1 =>
  (jgr 6 r1 v0 8).bind fun x5 =>
  (jgr 5 r1 x5 3).bind fun x7 =>
  (jal 0 r1 x7 v1).bind fun x9 =>
  (jgr 6 r1 v0 8).bind fun x11 =>
  (jgr 5 r1 x11 3).bind fun x13 =>
  (jal 0 r1 x13 v2).bind fun x15 =>
  (jgr 6 r1 v0 11).bind fun x17 =>
  (f_J6_bitCount_0f7a4 N r1 (x9 &&& (x15 ^^^ ((-1))))).bind fun r19 =>
  (jas 0 r19.2 x17 v3 (((2 : Int32) * r19.1) - (v3 >>> ((1 : Int32) &&& 31)))).bind fun h21 =>
  (jgr 6 h21 v0 12).bind fun x23 =>
  (f_J6_bitCount_0f7a4 N h21 (x15 &&& (x9 ^^^ ((-1))))).bind fun r25 =>
  (jas 0 r25.2 x23 v3 (((2 : Int32) * r25.1) - (v3 &&& 1))).bind fun h27 =>
  some h27
def f_X6_play_b23 (N : Nat) (v0 : Nat) (v1 : Int32) (v2 : Int32) (v3 : Int32) (h : AH) : Option AH :=
  if (v3 &&& 1) = 0 then f_X6_play_b42 N v0 v1 v2 v3 h
  else (jgr 6 h v0 8).bind fun x30 =>
  (jgr 6 h v0 4).bind fun x32 =>
  (jck 5 h x30).bind fun _ =>
  (f_X5_turnBy N h x30 x32 v2 1).bind fun r34 =>
  f_X6_play_b42 N v0 v1 v2 v3 r34
def f_X6_play (N : Nat) (h : AH) (a0 : Nat) (a1 : Int32) (a2 : Int32) (a3 : Int32) : Option AH :=
  (jck 6 h a0).bind fun _ =>
  (f_X6_tryFromNow N h a0).bind fun r38 =>
  if (a3 &&& 2) = 0 then f_X6_play_b23 N a0 a1 a2 a3 r38
  else (jgr 6 r38 a0 8).bind fun x43 =>
  (jgr 6 r38 a0 4).bind fun x45 =>
  (jck 5 r38 x43).bind fun _ =>
  (f_X5_turnBy N r38 x43 x45 a1 1).bind fun r47 =>
  f_X6_play_b23 N a0 a1 a2 a3 r47
set_option maxRecDepth 100000 in
set_option maxHeartbeats 4000000 in
theorem lk_X6_play_b42 {G : JG} {X : JX} (E : jE G X (RX6, cX6_play, 6)) (hX : X.2.2.2.1 = jRm 6 0 0) (hr : X.2.2.2.2.2.2.2.2.1.sig.returnType = none) (N : Nat) {v0 : Nat} {v1 : Int32} {v2 : Int32} {v3 : Int32} {h : AH}  {r : AH} (hf : f_X6_play_b42 N v0 v1 v2 v3 h = some r) : JW G X (RX6, cX6_play, 6) h [(0, .ref v0), (1, .int v1), (2, .int v2), (3, .int v3)] [] 42 0 0 (jEnd G X (jpv r) 0 0) := by
  unfold f_X6_play_b42 at hf
  refine J_aload_n E (jd dk_X6_play_0 24 rfl) rfl 0 rfl ?_
  refine J_iconst (v := 5) E (jd dk_X6_play_0 25 rfl) rfl ?_
  obtain ⟨u3, e4, hf⟩ := jbind hf
  obtain ⟨r1, e2, hf⟩ := jbind hf
  refine J_callV E (jd dk_X6_play_0 26 rfl) ml_RX6_256 cal_X6_goOnTrying e4 rfl (lk_X6_goOnTrying (jE_g E) (jE_tr E) N e2) rfl (Nat.le_of_ble_eq_true rfl) (jR_le hX (by decide) (by decide)) (jF0 hX) rfl ?_
  rintro _ _ ⟨rfl, rfl⟩
  refine J_aload_n E (jd dk_X6_play_0 27 rfl) rfl 0 rfl ?_
  obtain ⟨x5, e6, hf⟩ := jbind hf
  refine J_getr E (jd dk_X6_play_0 28 rfl) fl_RX6_51 e6 ?_
  obtain ⟨x7, e8, hf⟩ := jbind hf
  refine J_getr E (jd dk_X6_play_0 29 rfl) fl_RX6_147 e8 ?_
  refine J_iload_n E (jd dk_X6_play_0 30 rfl) rfl 1 rfl ?_
  obtain ⟨x9, e10, hf⟩ := jbind hf
  refine J_iald E (jd dk_X6_play_0 31 rfl) e10 ?_
  refine J_istore (lv' := [(4, .int x9), (0, .ref v0), (1, .int v1), (2, .int v2), (3, .int v3)]) E (jd dk_X6_play_0 32 rfl) (by decide) rfl ?_
  refine J_aload_n E (jd dk_X6_play_0 33 rfl) rfl 1 rfl ?_
  obtain ⟨x11, e12, hf⟩ := jbind hf
  refine J_getr E (jd dk_X6_play_0 34 rfl) fl_RX6_51 e12 ?_
  obtain ⟨x13, e14, hf⟩ := jbind hf
  refine J_getr E (jd dk_X6_play_0 35 rfl) fl_RX6_147 e14 ?_
  refine J_iload_n E (jd dk_X6_play_0 36 rfl) rfl 3 rfl ?_
  obtain ⟨x15, e16, hf⟩ := jbind hf
  refine J_iald E (jd dk_X6_play_0 37 rfl) e16 ?_
  refine J_istore (lv' := [(5, .int x15), (4, .int x9), (0, .ref v0), (1, .int v1), (2, .int v2), (3, .int v3)]) E (jd dk_X6_play_0 38 rfl) (by decide) rfl ?_
  refine J_aload_n E (jd dk_X6_play_0 39 rfl) rfl 2 rfl ?_
  obtain ⟨x17, e18, hf⟩ := jbind hf
  refine J_getr E (jd dk_X6_play_0 40 rfl) fl_RX6_66 e18 ?_
  refine J_iload_n E (jd dk_X6_play_0 41 rfl) rfl 5 rfl ?_
  refine J_iconst (v := 2) E (jd dk_X6_play_0 42 rfl) rfl ?_
  refine J_iload E (jd dk_X6_play_0 43 rfl) 1 rfl ?_
  refine J_iload E (jd dk_X6_play_0 44 rfl) 0 rfl ?_
  refine J_iconst (v := (-1)) E (jd dk_X6_play_0 45 rfl) rfl ?_
  refine J_ixor E (jd dk_X6_play_0 46 rfl) ?_
  refine J_iand E (jd dk_X6_play_0 47 rfl) ?_
  obtain ⟨r19, e20, hf⟩ := jbind hf
  refine J_callS E (jd dk_X6_play_0 48 rfl) ml_RX6_153 cal_J6_bitCount_0f7a4 (lk_J6_bitCount_0f7a4 (jE_g E) (jE_tr E) N e20) rfl (Nat.le_of_ble_eq_true rfl) (jR_le hX (by decide) (by decide)) (jF0 hX) rfl ?_
  rintro _ _ ⟨rfl, rfl⟩
  refine J_imul E (jd dk_X6_play_0 49 rfl) ?_
  refine J_iload_n E (jd dk_X6_play_1 0 rfl) rfl 5 rfl ?_
  refine J_iconst (v := 1) E (jd dk_X6_play_1 1 rfl) rfl ?_
  refine J_ishr E (jd dk_X6_play_1 2 rfl) ?_
  refine J_isub E (jd dk_X6_play_1 3 rfl) ?_
  obtain ⟨h21, e22, hf⟩ := jbind hf
  refine J_iast E (jd dk_X6_play_1 4 rfl) e22 ?_
  refine J_aload_n E (jd dk_X6_play_1 5 rfl) rfl 2 rfl ?_
  obtain ⟨x23, e24, hf⟩ := jbind hf
  refine J_getr E (jd dk_X6_play_1 6 rfl) fl_RX6_69 e24 ?_
  refine J_iload_n E (jd dk_X6_play_1 7 rfl) rfl 5 rfl ?_
  refine J_iconst (v := 2) E (jd dk_X6_play_1 8 rfl) rfl ?_
  refine J_iload E (jd dk_X6_play_1 9 rfl) 0 rfl ?_
  refine J_iload E (jd dk_X6_play_1 10 rfl) 1 rfl ?_
  refine J_iconst (v := (-1)) E (jd dk_X6_play_1 11 rfl) rfl ?_
  refine J_ixor E (jd dk_X6_play_1 12 rfl) ?_
  refine J_iand E (jd dk_X6_play_1 13 rfl) ?_
  obtain ⟨r25, e26, hf⟩ := jbind hf
  refine J_callS E (jd dk_X6_play_1 14 rfl) ml_RX6_153 cal_J6_bitCount_0f7a4 (lk_J6_bitCount_0f7a4 (jE_g E) (jE_tr E) N e26) rfl (Nat.le_of_ble_eq_true rfl) (jR_le hX (by decide) (by decide)) (jF0 hX) rfl ?_
  rintro _ _ ⟨rfl, rfl⟩
  refine J_imul E (jd dk_X6_play_1 15 rfl) ?_
  refine J_iload_n E (jd dk_X6_play_1 16 rfl) rfl 5 rfl ?_
  refine J_iconst (v := 1) E (jd dk_X6_play_1 17 rfl) rfl ?_
  refine J_iand E (jd dk_X6_play_1 18 rfl) ?_
  refine J_isub E (jd dk_X6_play_1 19 rfl) ?_
  obtain ⟨h27, e28, hf⟩ := jbind hf
  refine J_iast E (jd dk_X6_play_1 20 rfl) e28 ?_
  cases hf
  exact J_vret E hr (jd dk_X6_play_1 21 rfl) (Nat.le_refl _) (Nat.le_refl _) ⟨rfl, rfl⟩
set_option maxRecDepth 100000 in
set_option maxHeartbeats 4000000 in
theorem lk_X6_play_b23 {G : JG} {X : JX} (E : jE G X (RX6, cX6_play, 6)) (hX : X.2.2.2.1 = jRm 6 0 0) (hr : X.2.2.2.2.2.2.2.2.1.sig.returnType = none) (N : Nat) {v0 : Nat} {v1 : Int32} {v2 : Int32} {v3 : Int32} {h : AH}  {r : AH} (hf : f_X6_play_b23 N v0 v1 v2 v3 h = some r) : JW G X (RX6, cX6_play, 6) h [(0, .ref v0), (1, .int v1), (2, .int v2), (3, .int v3)] [] 23 0 0 (jEnd G X (jpv r) 0 0) := by
  unfold f_X6_play_b23 at hf
  refine J_iload_n E (jd dk_X6_play_0 13 rfl) rfl 3 rfl ?_
  refine J_iconst (v := 1) E (jd dk_X6_play_0 14 rfl) rfl ?_
  refine J_iand E (jd dk_X6_play_0 15 rfl) ?_
  refine J_if_eq (tgt := 42) E (jd dk_X6_play_0 16 rfl) (by decide) (fun c29 => ?_) (fun c29 => ?_)
  · replace hf := jif_t c29 hf
    exact lk_X6_play_b42 E hX hr N hf
  · replace hf := jif_f c29 hf
    refine J_aload_n E (jd dk_X6_play_0 17 rfl) rfl 0 rfl ?_
    obtain ⟨x30, e31, hf⟩ := jbind hf
    refine J_getr E (jd dk_X6_play_0 18 rfl) fl_RX6_51 e31 ?_
    refine J_aload_n E (jd dk_X6_play_0 19 rfl) rfl 0 rfl ?_
    obtain ⟨x32, e33, hf⟩ := jbind hf
    refine J_getr E (jd dk_X6_play_0 20 rfl) fl_RX6_30 e33 ?_
    refine J_iload_n E (jd dk_X6_play_0 21 rfl) rfl 2 rfl ?_
    refine J_iconst (v := 1) E (jd dk_X6_play_0 22 rfl) rfl ?_
    obtain ⟨u36, e37, hf⟩ := jbind hf
    obtain ⟨r34, e35, hf⟩ := jbind hf
    refine J_callV E (jd dk_X6_play_0 23 rfl) ml_RX6_312 cal_X5_turnBy e37 rfl (lk_X5_turnBy (jE_g E) (jE_tr E) N e35) rfl (Nat.le_of_ble_eq_true rfl) (jR_le hX (by decide) (by decide)) (jF0 hX) rfl ?_
    rintro _ _ ⟨rfl, rfl⟩
    exact lk_X6_play_b42 E hX hr N hf
set_option maxRecDepth 100000 in
set_option maxHeartbeats 4000000 in
theorem lk_X6_play {G : JG} {l : Launch} (hG : jG G) (htr : l.stackTraces = false) (N : Nat) {h : AH} {a0 : Nat} {a1 : Int32} {a2 : Int32} {a3 : Int32} {r : AH} (hf : f_X6_play N h a0 a1 a2 a3 = some r) : jMet G l yX6_play cX6_play 6 none 6 0 0 [.ref a0, .int a1, .int a2, .int a3] h (jpv r) := by
  unfold f_X6_play at hf
  refine jMet_of hG htr (by decide) (Nat.le_of_ble_eq_true rfl) ?_
  intro X E hl9 hr hX _ _
  show JW G X (RX6, cX6_play, 6) h [(0, .ref a0), (1, .int a1), (2, .int a2), (3, .int a3)] [] 0 0 0 (jEnd G X (jpv r) 0 0)
  refine J_aload_n E (jd dk_X6_play_0 0 rfl) rfl 0 rfl ?_
  obtain ⟨u40, e41, hf⟩ := jbind hf
  obtain ⟨r38, e39, hf⟩ := jbind hf
  refine J_callV E (jd dk_X6_play_0 1 rfl) ml_RX6_223 cal_X6_tryFromNow e41 rfl (lk_X6_tryFromNow (jE_g E) (jE_tr E) N e39) rfl (Nat.le_of_ble_eq_true rfl) (jR_le hX (by decide) (by decide)) (jF0 hX) rfl ?_
  rintro _ _ ⟨rfl, rfl⟩
  refine J_iload_n E (jd dk_X6_play_0 2 rfl) rfl 3 rfl ?_
  refine J_iconst (v := 2) E (jd dk_X6_play_0 3 rfl) rfl ?_
  refine J_iand E (jd dk_X6_play_0 4 rfl) ?_
  refine J_if_eq (tgt := 23) E (jd dk_X6_play_0 5 rfl) (by decide) (fun c42 => ?_) (fun c42 => ?_)
  · replace hf := jif_t c42 hf
    exact lk_X6_play_b23 E hX hr N hf
  · replace hf := jif_f c42 hf
    refine J_aload_n E (jd dk_X6_play_0 6 rfl) rfl 0 rfl ?_
    obtain ⟨x43, e44, hf⟩ := jbind hf
    refine J_getr E (jd dk_X6_play_0 7 rfl) fl_RX6_51 e44 ?_
    refine J_aload_n E (jd dk_X6_play_0 8 rfl) rfl 0 rfl ?_
    obtain ⟨x45, e46, hf⟩ := jbind hf
    refine J_getr E (jd dk_X6_play_0 9 rfl) fl_RX6_30 e46 ?_
    refine J_iload_n E (jd dk_X6_play_0 10 rfl) rfl 1 rfl ?_
    refine J_iconst (v := 1) E (jd dk_X6_play_0 11 rfl) rfl ?_
    obtain ⟨u49, e50, hf⟩ := jbind hf
    obtain ⟨r47, e48, hf⟩ := jbind hf
    refine J_callV E (jd dk_X6_play_0 12 rfl) ml_RX6_312 cal_X5_turnBy e50 rfl (lk_X5_turnBy (jE_g E) (jE_tr E) N e48) rfl (Nat.le_of_ble_eq_true rfl) (jR_le hX (by decide) (by decide)) (jF0 hX) rfl ?_
    rintro _ _ ⟨rfl, rfl⟩
    exact lk_X6_play_b23 E hX hr N hf
def f_X6_rests_b42 (N : Nat)  (h : AH) : Option (Int32 × AH) :=
  some (0, h)
def f_X6_rests (N : Nat) (h : AH) (a0 : Nat) (a1 : Int32) (a2 : Int32) : Option (Int32 × AH) :=
  (jgr 6 h a0 11).bind fun x1 =>
  (jal 0 h x1 (a1 ^^^ (a2 &&& 2))).bind fun x3 =>
  (jgr 6 h a0 11).bind fun x5 =>
  (jal 0 h x5 a1).bind fun x7 =>
  if x7 < x3 then f_X6_rests_b42 N  h
  else (jgr 6 h a0 12).bind fun x10 =>
  (jal 0 h x10 (a1 ^^^ (a2 &&& 1))).bind fun x12 =>
  (jgr 6 h a0 12).bind fun x14 =>
  (jal 0 h x14 a1).bind fun x16 =>
  if x16 < x12 then f_X6_rests_b42 N  h
  else some (1, h)
set_option maxRecDepth 100000 in
set_option maxHeartbeats 4000000 in
theorem lk_X6_rests_b42 {G : JG} {X : JX} (E : jE G X (RX6, cX6_rests, 3)) (hX : X.2.2.2.1 = jRm 0 0 0) (hr : X.2.2.2.2.2.2.2.2.1.sig.returnType = (some .boolean)) (N : Nat)  {h : AH}  {r : (Int32 × AH)} (hf : f_X6_rests_b42 N  h = some r) : JW G X (RX6, cX6_rests, 3) h [] [] 42 0 0 (jEnd G X (jpi r) 0 0) := by
  unfold f_X6_rests_b42 at hf
  refine J_iconst (v := 0) E (jd dk_X6_rests_0 28 rfl) rfl ?_
  cases hf
  exact J_iret E hr rfl (jd dk_X6_rests_0 29 rfl) (Nat.le_refl _) (Nat.le_refl _) ⟨rfl, rfl⟩
set_option maxRecDepth 100000 in
set_option maxHeartbeats 4000000 in
theorem lk_X6_rests {G : JG} {l : Launch} (hG : jG G) (htr : l.stackTraces = false) (N : Nat) {h : AH} {a0 : Nat} {a1 : Int32} {a2 : Int32} {r : (Int32 × AH)} (hf : f_X6_rests N h a0 a1 a2 = some r) : jMet G l yX6_rests cX6_rests 3 (some .boolean) 0 0 0 [.ref a0, .int a1, .int a2] h (jpi r) := by
  unfold f_X6_rests at hf
  refine jMet_of hG htr (by decide) (Nat.le_of_ble_eq_true rfl) ?_
  intro X E hl9 hr hX _ _
  show JW G X (RX6, cX6_rests, 3) h [(0, .ref a0), (1, .int a1), (2, .int a2)] [] 0 0 0 (jEnd G X (jpi r) 0 0)
  refine J_aload_n E (jd dk_X6_rests_0 0 rfl) rfl 0 rfl ?_
  obtain ⟨x1, e2, hf⟩ := jbind hf
  refine J_getr E (jd dk_X6_rests_0 1 rfl) fl_RX6_66 e2 ?_
  refine J_iload_n E (jd dk_X6_rests_0 2 rfl) rfl 1 rfl ?_
  refine J_iload_n E (jd dk_X6_rests_0 3 rfl) rfl 2 rfl ?_
  refine J_iconst (v := 2) E (jd dk_X6_rests_0 4 rfl) rfl ?_
  refine J_iand E (jd dk_X6_rests_0 5 rfl) ?_
  refine J_ixor E (jd dk_X6_rests_0 6 rfl) ?_
  obtain ⟨x3, e4, hf⟩ := jbind hf
  refine J_iald E (jd dk_X6_rests_0 7 rfl) e4 ?_
  refine J_aload_n E (jd dk_X6_rests_0 8 rfl) rfl 0 rfl ?_
  obtain ⟨x5, e6, hf⟩ := jbind hf
  refine J_getr E (jd dk_X6_rests_0 9 rfl) fl_RX6_66 e6 ?_
  refine J_iload_n E (jd dk_X6_rests_0 10 rfl) rfl 1 rfl ?_
  obtain ⟨x7, e8, hf⟩ := jbind hf
  refine J_iald E (jd dk_X6_rests_0 11 rfl) e8 ?_
  refine J_icmp_gt (tgt := 42) E (jd dk_X6_rests_0 12 rfl) (by decide) (fun c9 => ?_) (fun c9 => ?_)
  · replace hf := jif_t c9 hf
    refine J_sub [] rfl ?_
    exact lk_X6_rests_b42 E hX hr N hf
  · replace hf := jif_f c9 hf
    refine J_aload_n E (jd dk_X6_rests_0 13 rfl) rfl 0 rfl ?_
    obtain ⟨x10, e11, hf⟩ := jbind hf
    refine J_getr E (jd dk_X6_rests_0 14 rfl) fl_RX6_69 e11 ?_
    refine J_iload_n E (jd dk_X6_rests_0 15 rfl) rfl 1 rfl ?_
    refine J_iload_n E (jd dk_X6_rests_0 16 rfl) rfl 2 rfl ?_
    refine J_iconst (v := 1) E (jd dk_X6_rests_0 17 rfl) rfl ?_
    refine J_iand E (jd dk_X6_rests_0 18 rfl) ?_
    refine J_ixor E (jd dk_X6_rests_0 19 rfl) ?_
    obtain ⟨x12, e13, hf⟩ := jbind hf
    refine J_iald E (jd dk_X6_rests_0 20 rfl) e13 ?_
    refine J_aload_n E (jd dk_X6_rests_0 21 rfl) rfl 0 rfl ?_
    obtain ⟨x14, e15, hf⟩ := jbind hf
    refine J_getr E (jd dk_X6_rests_0 22 rfl) fl_RX6_69 e15 ?_
    refine J_iload_n E (jd dk_X6_rests_0 23 rfl) rfl 1 rfl ?_
    obtain ⟨x16, e17, hf⟩ := jbind hf
    refine J_iald E (jd dk_X6_rests_0 24 rfl) e17 ?_
    refine J_icmp_gt (tgt := 42) E (jd dk_X6_rests_0 25 rfl) (by decide) (fun c18 => ?_) (fun c18 => ?_)
    · replace hf := jif_t c18 hf
      refine J_sub [] rfl ?_
      exact lk_X6_rests_b42 E hX hr N hf
    · replace hf := jif_f c18 hf
      refine J_iconst (v := 1) E (jd dk_X6_rests_0 26 rfl) rfl ?_
      refine J_goto (tgt := 43) E (jd dk_X6_rests_0 27 rfl) (by decide) ?_
      cases hf
      exact J_iret E hr rfl (jd dk_X6_rests_0 29 rfl) (Nat.le_refl _) (Nat.le_refl _) ⟨rfl, rfl⟩
def f_X6_game_b165 (N : Nat) (v0 : Nat) (v3 : Int32) (v4 : Int32) (v5 : Int32) (v6 : Int32) (v7 : Int32) (h : AH) : Option ((Int32 × Int32 × Int32 × AH) ⊕ ((Int32 × Int32 × AH))) :=
  some (.inl ((v5, v6, v7 + 1, h)))
def f_X6_game_l115 (N : Nat) (v0 : Nat) (v3 : Int32) (v4 : Int32) (v5 : Int32) (v6 : Int32) (v7 : Int32) (h : AH) : Option ((Int32 × Int32 × Int32 × AH) ⊕ ((Int32 × Int32 × AH))) :=
  if 4 ≤ v7 then some (.inr ((v5, v6, h)))
  else if (v7 &&& (v4 ^^^ ((-1)))) = 0 then (jck 6 h v0).bind fun _ =>
  (f_X6_rests N h v0 v7 v4).bind fun r3 =>
  if r3.1 = 0 then f_X6_game_b165 N v0 v3 v4 v5 v6 v7 r3.2
  else if v6 = ((-1)) then f_X6_game_b165 N v0 v3 v4 (v5 + 1) (((10 : Int32) * (v7 >>> ((1 : Int32) &&& 31))) + (v7 &&& 1)) v7 r3.2
  else f_X6_game_b165 N v0 v3 v4 (v5 + 1) v6 v7 r3.2
  else f_X6_game_b165 N v0 v3 v4 v5 v6 v7 h
def f_X6_game_b115 (N : Nat) (v0 : Nat) (v3 : Int32) (v4 : Int32) (v5 : Int32) (v6 : Int32) (v7 : Int32) (h : AH) : Option ((Nat ⊕ Int32) × AH) :=
  (itr (fun s => f_X6_game_l115 N v0 v3 v4 s.1 s.2.1 s.2.2.1 s.2.2.2) N (v5, v6, v7, h)).bind (fun e => if v3 = 0 then some (.inr e.1, e.2.2)
  else some (.inr e.2.1, e.2.2))
def f_X6_game_l83 (N : Nat) (v0 : Nat) (v1 : Int32) (v2 : Int32) (v3 : Int32) (v4 : Int32) (v5 : Int32) (h : AH) : Option ((Int32 × AH) ⊕ ((AH))) :=
  if 4 ≤ v5 then some (.inr h)
  else (jck 6 h v0).bind fun _ =>
  (f_X6_play N h v0 v1 v2 (v5 &&& v4)).bind fun r11 =>
  some (.inl ((v5 + 1, r11)))
def f_X6_game_b83 (N : Nat) (v0 : Nat) (v1 : Int32) (v2 : Int32) (v3 : Int32) (v4 : Int32) (v5 : Int32) (h : AH) : Option ((Nat ⊕ Int32) × AH) :=
  (itr (fun s => f_X6_game_l83 N v0 v1 v2 v3 v4 s.1 s.2) N (v5, h)).bind (fun e => f_X6_game_b115 N v0 v3 v4 0 ((-1)) 0 e)
def f_X6_game_b80 (N : Nat) (v0 : Nat) (v1 : Int32) (v2 : Int32) (v3 : Int32) (v4 : Int32) (h : AH) : Option ((Nat ⊕ Int32) × AH) :=
  f_X6_game_b83 N v0 v1 v2 v3 v4 0 h
def f_X6_game_b57 (N : Nat) (v0 : Nat) (v1 : Int32) (v2 : Int32) (v3 : Int32) (v4 : Int32) (h : AH) : Option ((Nat ⊕ Int32) × AH) :=
  (jgr 6 h v0 5).bind fun x15 =>
  (jgr 0 h x15 0).bind fun x17 =>
  (jgr 5 h x17 1).bind fun x19 =>
  (jal 0 h x19 v2).bind fun x21 =>
  if x21 = ((-2)) then f_X6_game_b80 N v0 v1 v2 v3 v4 h
  else f_X6_game_b80 N v0 v1 v2 v3 (v4 ||| 1) h
def f_X6_game (N : Nat) (h : AH) (a0 : Nat) (a1 : Int32) (a2 : Int32) (a3 : Int32) : Option ((Nat ⊕ Int32) × AH) :=
  (jck 6 h a0).bind fun _ =>
  (f_X6_needJudge N h a0 a1).bind fun r24 => Sum.elim (fun k => some (.inl k, r24.2)) (fun _ =>
  (jck 6 r24.2 a0).bind fun _ =>
  (f_X6_needJudge N r24.2 a0 a2).bind fun r29 => Sum.elim (fun k => some (.inl k, r29.2)) (fun _ =>
  (f_X6_needWhat N r29.2 a3 1).bind fun r34 => Sum.elim (fun k => some (.inl k, r34.2)) (fun _ =>
  if a1 = a2 then some (.inl 2, r34.2)
  else (jgr 6 r34.2 a0 5).bind fun x38 =>
  (jgr 0 r34.2 x38 0).bind fun x40 =>
  (jgr 5 r34.2 x40 1).bind fun x42 =>
  (jal 0 r34.2 x42 a1).bind fun x44 =>
  if x44 = ((-2)) then f_X6_game_b57 N a0 a1 a2 a3 0 r34.2
  else f_X6_game_b57 N a0 a1 a2 a3 ((0 : Int32) ||| 2) r34.2) r34.1) r29.1) r24.1
set_option maxRecDepth 100000 in
set_option maxHeartbeats 4000000 in
theorem lk_X6_game_b165 {G : JG} {X : JX} (E : jE G X (RX6, cX6_game, 8)) (hX : X.2.2.2.1 = jRm 7 4 24) (hr : X.2.2.2.2.2.2.2.2.1.sig.returnType = (some .int)) (htab : ∀ x ∈ X.2.2.2.2.2.2.2.2.2.exceptionTable.toList, False) (N : Nat) {Q : State → Prop} {v0 : Nat} {v3 : Int32} {v4 : Int32} {v5 : Int32} {v6 : Int32} {v7 : Int32} {h : AH}  {q : ((Int32 × Int32 × Int32 × AH) ⊕ ((Int32 × Int32 × AH)))} (hf : f_X6_game_b165 N v0 v3 v4 v5 v6 v7 h = some q) (kb : ∀ s' : Int32 × Int32 × Int32 × AH, q = .inl s' → JW G X (RX6, cX6_game, 8) s'.2.2.2 [(0, .ref v0), (3, .int v3), (4, .int v4), (5, .int s'.1), (6, .int s'.2.1), (7, .int s'.2.2.1)] [] 115 3 18 Q) (ke0 : ∀ e : Int32 × Int32 × AH, q = .inr e → JW G X (RX6, cX6_game, 8) e.2.2 [(3, .int v3), (5, .int e.1), (6, .int e.2.1)] [] 171 3 18 Q) : JW G X (RX6, cX6_game, 8) h [(0, .ref v0), (3, .int v3), (4, .int v4), (5, .int v5), (6, .int v6), (7, .int v7)] [] 165 3 18 Q := by
  unfold f_X6_game_b165 at hf
  refine J_iinc (v := v7 + 1) (lv' := [(7, .int (v7 + 1)), (0, .ref v0), (3, .int v3), (4, .int v4), (5, .int v5), (6, .int v6)]) E (jd dk_X6_game_1 41 rfl) 5 rfl rfl (by decide) rfl ?_
  refine J_goto (tgt := 115) E (jd dk_X6_game_1 42 rfl) (by decide) ?_
  refine J_sub [1, 2, 3, 4, 5, 0] rfl ?_
  exact kb _ (Option.some.inj hf).symm
set_option maxRecDepth 100000 in
set_option maxHeartbeats 4000000 in
theorem lk_X6_game_l115 {G : JG} {X : JX} (E : jE G X (RX6, cX6_game, 8)) (hX : X.2.2.2.1 = jRm 7 4 24) (hr : X.2.2.2.2.2.2.2.2.1.sig.returnType = (some .int)) (htab : ∀ x ∈ X.2.2.2.2.2.2.2.2.2.exceptionTable.toList, False) (N : Nat) {Q : State → Prop} {v0 : Nat} {v3 : Int32} {v4 : Int32} {v5 : Int32} {v6 : Int32} {v7 : Int32}  {h : AH} {q : ((Int32 × Int32 × Int32 × AH) ⊕ ((Int32 × Int32 × AH)))} (hf : f_X6_game_l115 N v0 v3 v4 v5 v6 v7 h = some q) (kb : ∀ s' : Int32 × Int32 × Int32 × AH, q = .inl s' → JW G X (RX6, cX6_game, 8) s'.2.2.2 [(0, .ref v0), (3, .int v3), (4, .int v4), (5, .int s'.1), (6, .int s'.2.1), (7, .int s'.2.2.1)] [] 115 3 18 Q) (ke0 : ∀ e : Int32 × Int32 × AH, q = .inr e → JW G X (RX6, cX6_game, 8) e.2.2 [(3, .int v3), (5, .int e.1), (6, .int e.2.1)] [] 171 3 18 Q) : JW G X (RX6, cX6_game, 8) h [(0, .ref v0), (3, .int v3), (4, .int v4), (5, .int v5), (6, .int v6), (7, .int v7)] [] 115 3 18 Q := by
  unfold f_X6_game_l115 at hf
  refine J_iload E (jd dk_X6_game_1 13 rfl) 5 rfl ?_
  refine J_iconst (v := 4) E (jd dk_X6_game_1 14 rfl) rfl ?_
  refine J_icmp_ge (tgt := 171) E (jd dk_X6_game_1 15 rfl) (by decide) (fun c1 => ?_) (fun c1 => ?_)
  · replace hf := jif_t c1 hf
    refine J_sub [1, 3, 4] rfl ?_
    exact ke0 _ (Option.some.inj hf).symm
  · replace hf := jif_f c1 hf
    refine J_iload E (jd dk_X6_game_1 16 rfl) 5 rfl ?_
    refine J_iload E (jd dk_X6_game_1 17 rfl) 2 rfl ?_
    refine J_iconst (v := (-1)) E (jd dk_X6_game_1 18 rfl) rfl ?_
    refine J_ixor E (jd dk_X6_game_1 19 rfl) ?_
    refine J_iand E (jd dk_X6_game_1 20 rfl) ?_
    refine J_if_ne (tgt := 165) E (jd dk_X6_game_1 21 rfl) (by decide) (fun c2 => ?_) (fun c2 => ?_)
    · replace hf := jif_f c2 hf
      exact lk_X6_game_b165 E hX hr htab N hf kb ke0
    · replace hf := jif_t c2 hf
      refine J_aload_n E (jd dk_X6_game_1 22 rfl) rfl 0 rfl ?_
      refine J_iload E (jd dk_X6_game_1 23 rfl) 5 rfl ?_
      refine J_iload E (jd dk_X6_game_1 24 rfl) 2 rfl ?_
      obtain ⟨u5, e6, hf⟩ := jbind hf
      obtain ⟨r3, e4, hf⟩ := jbind hf
      refine J_callV E (jd dk_X6_game_1 25 rfl) ml_RX6_309 cal_X6_rests e6 rfl (lk_X6_rests (jE_g E) (jE_tr E) N e4) rfl (Nat.le_of_ble_eq_true rfl) (jR_le hX (by decide) (by decide)) (jFx hX (by decide) (by decide)) rfl ?_
      rintro _ _ ⟨rfl, rfl⟩
      refine J_if_eq (tgt := 165) E (jd dk_X6_game_1 26 rfl) (by decide) (fun c7 => ?_) (fun c7 => ?_)
      · replace hf := jif_t c7 hf
        exact lk_X6_game_b165 E hX hr htab N hf kb ke0
      · replace hf := jif_f c7 hf
        refine J_iinc (v := v5 + 1) (lv' := [(5, .int (v5 + 1)), (0, .ref v0), (3, .int v3), (4, .int v4), (6, .int v6), (7, .int v7)]) E (jd dk_X6_game_1 27 rfl) 3 rfl rfl (by decide) rfl ?_
        refine J_iload E (jd dk_X6_game_1 28 rfl) 4 rfl ?_
        refine J_iconst (v := (-1)) E (jd dk_X6_game_1 29 rfl) rfl ?_
        refine J_icmp_ne (tgt := 165) E (jd dk_X6_game_1 30 rfl) (by decide) (fun c8 => ?_) (fun c8 => ?_)
        · replace hf := jif_f c8 hf
          refine J_sub [1, 2, 3, 0, 4, 5] rfl ?_
          exact lk_X6_game_b165 E hX hr htab N hf kb ke0
        · replace hf := jif_t c8 hf
          refine J_bipush (v := 10) E (jd dk_X6_game_1 31 rfl) (by decide) ?_
          refine J_iload E (jd dk_X6_game_1 32 rfl) 5 rfl ?_
          refine J_iconst (v := 1) E (jd dk_X6_game_1 33 rfl) rfl ?_
          refine J_ishr E (jd dk_X6_game_1 34 rfl) ?_
          refine J_imul E (jd dk_X6_game_1 35 rfl) ?_
          refine J_iload E (jd dk_X6_game_1 36 rfl) 5 rfl ?_
          refine J_iconst (v := 1) E (jd dk_X6_game_1 37 rfl) rfl ?_
          refine J_iand E (jd dk_X6_game_1 38 rfl) ?_
          refine J_iadd E (jd dk_X6_game_1 39 rfl) ?_
          refine J_istore (lv' := [(6, .int (((10 : Int32) * (v7 >>> ((1 : Int32) &&& 31))) + (v7 &&& 1))), (5, .int (v5 + 1)), (0, .ref v0), (3, .int v3), (4, .int v4), (7, .int v7)]) E (jd dk_X6_game_1 40 rfl) (by decide) rfl ?_
          refine J_sub [2, 3, 4, 1, 0, 5] rfl ?_
          exact lk_X6_game_b165 E hX hr htab N hf kb ke0
set_option maxRecDepth 100000 in
set_option maxHeartbeats 4000000 in
theorem lk_X6_game_b115 {G : JG} {X : JX} (E : jE G X (RX6, cX6_game, 8)) (hX : X.2.2.2.1 = jRm 7 4 24) (hr : X.2.2.2.2.2.2.2.2.1.sig.returnType = (some .int)) (htab : ∀ x ∈ X.2.2.2.2.2.2.2.2.2.exceptionTable.toList, False) (N : Nat) {v0 : Nat} {v3 : Int32} {v4 : Int32} {v5 : Int32} {v6 : Int32} {v7 : Int32} {h : AH}  {r : ((Nat ⊕ Int32) × AH)} (hf : f_X6_game_b115 N v0 v3 v4 v5 v6 v7 h = some r) : JW G X (RX6, cX6_game, 8) h [(0, .ref v0), (3, .int v3), (4, .int v4), (5, .int v5), (6, .int v6), (7, .int v7)] [] 115 3 18 (jEndX G X (jpXi r) (jpXx r) 4 24) := by
  unfold f_X6_game_b115 at hf
  obtain ⟨q1, h1, hf⟩ := jbind hf
  refine jloop (P := fun s => JW G X (RX6, cX6_game, 8) s.2.2.2 [(0, .ref v0), (3, .int v3), (4, .int v4), (5, .int s.1), (6, .int s.2.1), (7, .int s.2.2.1)] [] 115 3 18 (jEndX G X (jpXi r) (jpXx r) 4 24)) (Ex := fun (e : Int32 × Int32 × AH) => JW G X (RX6, cX6_game, 8) e.2.2 [(3, .int v3), (5, .int e.1), (6, .int e.2.1)] [] 171 3 18 (jEndX G X (jpXi r) (jpXx r) 4 24)) (fun s q hs hb hx => lk_X6_game_l115 E hX hr htab N hs (fun s' hs => hb s' hs) (fun e he => hx e he)) N _ q1 h1 ?_
  generalize q1 = e at hf ⊢
  refine J_iload_n E (jd dk_X6_game_1 43 rfl) rfl 0 rfl ?_
  refine J_if_ne (tgt := 180) E (jd dk_X6_game_1 44 rfl) (by decide) (fun c9 => ?_) (fun c9 => ?_)
  · replace hf := jif_f c9 hf
    refine J_iload E (jd dk_X6_game_1 47 rfl) 2 rfl ?_
    cases hf
    exact J_x (J_iret E hr rfl (jd dk_X6_game_1 48 rfl) (by decide) (by decide) ⟨_, rfl, rfl, rfl⟩)
  · replace hf := jif_t c9 hf
    refine J_iload E (jd dk_X6_game_1 45 rfl) 1 rfl ?_
    refine J_goto (tgt := 182) E (jd dk_X6_game_1 46 rfl) (by decide) ?_
    cases hf
    exact J_x (J_iret E hr rfl (jd dk_X6_game_1 48 rfl) (by decide) (by decide) ⟨_, rfl, rfl, rfl⟩)
set_option maxRecDepth 100000 in
set_option maxHeartbeats 4000000 in
theorem lk_X6_game_l83 {G : JG} {X : JX} (E : jE G X (RX6, cX6_game, 8)) (hX : X.2.2.2.1 = jRm 7 4 24) (hr : X.2.2.2.2.2.2.2.2.1.sig.returnType = (some .int)) (htab : ∀ x ∈ X.2.2.2.2.2.2.2.2.2.exceptionTable.toList, False) (N : Nat) {Q : State → Prop} {v0 : Nat} {v1 : Int32} {v2 : Int32} {v3 : Int32} {v4 : Int32} {v5 : Int32}  {h : AH} {q : ((Int32 × AH) ⊕ ((AH)))} (hf : f_X6_game_l83 N v0 v1 v2 v3 v4 v5 h = some q) (kb : ∀ s' : Int32 × AH, q = .inl s' → JW G X (RX6, cX6_game, 8) s'.2 [(0, .ref v0), (1, .int v1), (2, .int v2), (3, .int v3), (4, .int v4), (5, .int s'.1)] [] 83 3 18 Q) (ke0 : ∀ e : AH, q = .inr e → JW G X (RX6, cX6_game, 8) e [(0, .ref v0), (3, .int v3), (4, .int v4)] [] 106 3 18 Q) : JW G X (RX6, cX6_game, 8) h [(0, .ref v0), (1, .int v1), (2, .int v2), (3, .int v3), (4, .int v4), (5, .int v5)] [] 83 3 18 Q := by
  unfold f_X6_game_l83 at hf
  refine J_iload E (jd dk_X6_game_0 45 rfl) 5 rfl ?_
  refine J_iconst (v := 4) E (jd dk_X6_game_0 46 rfl) rfl ?_
  refine J_icmp_ge (tgt := 106) E (jd dk_X6_game_0 47 rfl) (by decide) (fun c10 => ?_) (fun c10 => ?_)
  · replace hf := jif_t c10 hf
    refine J_sub [0, 3, 4] rfl ?_
    exact ke0 _ (Option.some.inj hf).symm
  · replace hf := jif_f c10 hf
    refine J_aload_n E (jd dk_X6_game_0 48 rfl) rfl 0 rfl ?_
    refine J_iload_n E (jd dk_X6_game_0 49 rfl) rfl 1 rfl ?_
    refine J_iload_n E (jd dk_X6_game_1 0 rfl) rfl 2 rfl ?_
    refine J_iload E (jd dk_X6_game_1 1 rfl) 5 rfl ?_
    refine J_iload E (jd dk_X6_game_1 2 rfl) 4 rfl ?_
    refine J_iand E (jd dk_X6_game_1 3 rfl) ?_
    obtain ⟨u13, e14, hf⟩ := jbind hf
    obtain ⟨r11, e12, hf⟩ := jbind hf
    refine J_callV E (jd dk_X6_game_1 4 rfl) ml_RX6_306 cal_X6_play e14 rfl (lk_X6_play (jE_g E) (jE_tr E) N e12) rfl (Nat.le_of_ble_eq_true rfl) (jR_le hX (by decide) (by decide)) (jFx hX (by decide) (by decide)) rfl ?_
    rintro _ _ ⟨rfl, rfl⟩
    refine J_iinc (v := v5 + 1) (lv' := [(5, .int (v5 + 1)), (0, .ref v0), (1, .int v1), (2, .int v2), (3, .int v3), (4, .int v4)]) E (jd dk_X6_game_1 5 rfl) 5 rfl rfl (by decide) rfl ?_
    refine J_goto (tgt := 83) E (jd dk_X6_game_1 6 rfl) (by decide) ?_
    refine J_sub [1, 2, 3, 4, 5, 0] rfl ?_
    exact kb _ (Option.some.inj hf).symm
set_option maxRecDepth 100000 in
set_option maxHeartbeats 4000000 in
theorem lk_X6_game_b83 {G : JG} {X : JX} (E : jE G X (RX6, cX6_game, 8)) (hX : X.2.2.2.1 = jRm 7 4 24) (hr : X.2.2.2.2.2.2.2.2.1.sig.returnType = (some .int)) (htab : ∀ x ∈ X.2.2.2.2.2.2.2.2.2.exceptionTable.toList, False) (N : Nat) {v0 : Nat} {v1 : Int32} {v2 : Int32} {v3 : Int32} {v4 : Int32} {v5 : Int32} {h : AH}  {r : ((Nat ⊕ Int32) × AH)} (hf : f_X6_game_b83 N v0 v1 v2 v3 v4 v5 h = some r) : JW G X (RX6, cX6_game, 8) h [(0, .ref v0), (1, .int v1), (2, .int v2), (3, .int v3), (4, .int v4), (5, .int v5)] [] 83 3 18 (jEndX G X (jpXi r) (jpXx r) 4 24) := by
  unfold f_X6_game_b83 at hf
  obtain ⟨q1, h1, hf⟩ := jbind hf
  refine jloop (P := fun s => JW G X (RX6, cX6_game, 8) s.2 [(0, .ref v0), (1, .int v1), (2, .int v2), (3, .int v3), (4, .int v4), (5, .int s.1)] [] 83 3 18 (jEndX G X (jpXi r) (jpXx r) 4 24)) (Ex := fun (e : AH) => JW G X (RX6, cX6_game, 8) e [(0, .ref v0), (3, .int v3), (4, .int v4)] [] 106 3 18 (jEndX G X (jpXi r) (jpXx r) 4 24)) (fun s q hs hb hx => lk_X6_game_l83 E hX hr htab N hs (fun s' hs => hb s' hs) (fun e he => hx e he)) N _ q1 h1 ?_
  generalize q1 = e at hf ⊢
  refine J_iconst (v := 0) E (jd dk_X6_game_1 7 rfl) rfl ?_
  refine J_istore (lv' := [(5, .int 0), (0, .ref v0), (3, .int v3), (4, .int v4)]) E (jd dk_X6_game_1 8 rfl) (by decide) rfl ?_
  refine J_iconst (v := (-1)) E (jd dk_X6_game_1 9 rfl) rfl ?_
  refine J_istore (lv' := [(6, .int ((-1))), (5, .int 0), (0, .ref v0), (3, .int v3), (4, .int v4)]) E (jd dk_X6_game_1 10 rfl) (by decide) rfl ?_
  refine J_iconst (v := 0) E (jd dk_X6_game_1 11 rfl) rfl ?_
  refine J_istore (lv' := [(7, .int 0), (6, .int ((-1))), (5, .int 0), (0, .ref v0), (3, .int v3), (4, .int v4)]) E (jd dk_X6_game_1 12 rfl) (by decide) rfl ?_
  refine J_sub [3, 4, 5, 2, 1, 0] rfl ?_
  exact lk_X6_game_b115 E hX hr htab N hf
set_option maxRecDepth 100000 in
set_option maxHeartbeats 4000000 in
theorem lk_X6_game_b80 {G : JG} {X : JX} (E : jE G X (RX6, cX6_game, 8)) (hX : X.2.2.2.1 = jRm 7 4 24) (hr : X.2.2.2.2.2.2.2.2.1.sig.returnType = (some .int)) (htab : ∀ x ∈ X.2.2.2.2.2.2.2.2.2.exceptionTable.toList, False) (N : Nat) {v0 : Nat} {v1 : Int32} {v2 : Int32} {v3 : Int32} {v4 : Int32} {h : AH}  {r : ((Nat ⊕ Int32) × AH)} (hf : f_X6_game_b80 N v0 v1 v2 v3 v4 h = some r) : JW G X (RX6, cX6_game, 8) h [(0, .ref v0), (1, .int v1), (2, .int v2), (3, .int v3), (4, .int v4)] [] 80 3 18 (jEndX G X (jpXi r) (jpXx r) 4 24) := by
  unfold f_X6_game_b80 at hf
  refine J_iconst (v := 0) E (jd dk_X6_game_0 43 rfl) rfl ?_
  refine J_istore (lv' := [(5, .int 0), (0, .ref v0), (1, .int v1), (2, .int v2), (3, .int v3), (4, .int v4)]) E (jd dk_X6_game_0 44 rfl) (by decide) rfl ?_
  refine J_sub [1, 2, 3, 4, 5, 0] rfl ?_
  exact lk_X6_game_b83 E hX hr htab N hf
set_option maxRecDepth 100000 in
set_option maxHeartbeats 4000000 in
theorem lk_X6_game_b57 {G : JG} {X : JX} (E : jE G X (RX6, cX6_game, 8)) (hX : X.2.2.2.1 = jRm 7 4 24) (hr : X.2.2.2.2.2.2.2.2.1.sig.returnType = (some .int)) (htab : ∀ x ∈ X.2.2.2.2.2.2.2.2.2.exceptionTable.toList, False) (N : Nat) {v0 : Nat} {v1 : Int32} {v2 : Int32} {v3 : Int32} {v4 : Int32} {h : AH}  {r : ((Nat ⊕ Int32) × AH)} (hf : f_X6_game_b57 N v0 v1 v2 v3 v4 h = some r) : JW G X (RX6, cX6_game, 8) h [(0, .ref v0), (1, .int v1), (2, .int v2), (3, .int v3), (4, .int v4)] [] 57 3 18 (jEndX G X (jpXi r) (jpXx r) 4 24) := by
  unfold f_X6_game_b57 at hf
  refine J_aload_n E (jd dk_X6_game_0 31 rfl) rfl 0 rfl ?_
  obtain ⟨x15, e16, hf⟩ := jbind hf
  refine J_getr E (jd dk_X6_game_0 32 rfl) fl_RX6_37 e16 ?_
  obtain ⟨x17, e18, hf⟩ := jbind hf
  refine J_getr E (jd dk_X6_game_0 33 rfl) fl_RX6_113 e18 ?_
  obtain ⟨x19, e20, hf⟩ := jbind hf
  refine J_getr E (jd dk_X6_game_0 34 rfl) fl_RX6_179 e20 ?_
  refine J_iload_n E (jd dk_X6_game_0 35 rfl) rfl 2 rfl ?_
  obtain ⟨x21, e22, hf⟩ := jbind hf
  refine J_iald E (jd dk_X6_game_0 36 rfl) e22 ?_
  refine J_bipush (v := (-2)) E (jd dk_X6_game_0 37 rfl) (by decide) ?_
  refine J_icmp_eq (tgt := 80) E (jd dk_X6_game_0 38 rfl) (by decide) (fun c23 => ?_) (fun c23 => ?_)
  · replace hf := jif_t c23 hf
    exact lk_X6_game_b80 E hX hr htab N hf
  · replace hf := jif_f c23 hf
    refine J_iload E (jd dk_X6_game_0 39 rfl) 4 rfl ?_
    refine J_iconst (v := 1) E (jd dk_X6_game_0 40 rfl) rfl ?_
    refine J_ior E (jd dk_X6_game_0 41 rfl) ?_
    refine J_istore (lv' := [(4, .int (v4 ||| 1)), (0, .ref v0), (1, .int v1), (2, .int v2), (3, .int v3)]) E (jd dk_X6_game_0 42 rfl) (by decide) rfl ?_
    refine J_sub [1, 2, 3, 4, 0] rfl ?_
    exact lk_X6_game_b80 E hX hr htab N hf
set_option maxRecDepth 100000 in
set_option maxHeartbeats 4000000 in
theorem lk_X6_game {G : JG} {l : Launch} (hG : jG G) (htr : l.stackTraces = false) (N : Nat) {h : AH} {a0 : Nat} {a1 : Int32} {a2 : Int32} {a3 : Int32} {r : ((Nat ⊕ Int32) × AH)} (hf : f_X6_game N h a0 a1 a2 a3 = some r) : jMetX G l yX6_game cX6_game 8 (some .int) 7 4 24 [.ref a0, .int a1, .int a2, .int a3] h (jpXi r) (jpXx r) := by
  unfold f_X6_game at hf
  refine jMetX_of hG htr (by decide) (Nat.le_of_ble_eq_true rfl) ?_
  intro X E hl9 hr hX htab
  show JW G X (RX6, cX6_game, 8) h [(0, .ref a0), (1, .int a1), (2, .int a2), (3, .int a3)] [] 0 0 0 (jEndX G X (jpXi r) (jpXx r) 4 24)
  refine J_aload_n E (jd dk_X6_game_0 0 rfl) rfl 0 rfl ?_
  refine J_iload_n E (jd dk_X6_game_0 1 rfl) rfl 1 rfl ?_
  obtain ⟨u26, e27, hf⟩ := jbind hf
  obtain ⟨r24, e25, hf⟩ := jbind hf
  obtain ⟨r24a, r24b⟩ := r24
  refine J_callVX E (jd dk_X6_game_0 2 rfl) ml_RX6_176 cal_X6_needJudge e27 rfl (lk_X6_needJudge (jE_g E) (jE_tr E) N e25) rfl (Nat.le_of_ble_eq_true rfl) (jR_le hX (by decide) (by decide)) (jFx hX (by decide) (by decide)) rfl ?_ ?_
  rotate_left
  · rintro _ _ ⟨k9, rfl, rfl, rfl⟩
    replace hf := Option.some.inj hf
    subst hf
    exact J_out E htab (by decide) (by decide) ⟨_, rfl, rfl, rfl⟩
  rintro _ _ ⟨rfl, rfl, rfl⟩
  replace hf : _ = some _ := hf
  refine J_aload_n E (jd dk_X6_game_0 3 rfl) rfl 0 rfl ?_
  refine J_iload_n E (jd dk_X6_game_0 4 rfl) rfl 2 rfl ?_
  obtain ⟨u31, e32, hf⟩ := jbind hf
  obtain ⟨r29, e30, hf⟩ := jbind hf
  obtain ⟨r29a, r29b⟩ := r29
  refine J_callVX E (jd dk_X6_game_0 5 rfl) ml_RX6_176 cal_X6_needJudge e32 rfl (lk_X6_needJudge (jE_g E) (jE_tr E) N e30) rfl (Nat.le_of_ble_eq_true rfl) (jR_le hX (by decide) (by decide)) (jFx hX (by decide) (by decide)) rfl ?_ ?_
  rotate_left
  · rintro _ _ ⟨k9, rfl, rfl, rfl⟩
    replace hf := Option.some.inj hf
    subst hf
    exact J_out E htab (by decide) (by decide) ⟨_, rfl, rfl, rfl⟩
  rintro _ _ ⟨rfl, rfl, rfl⟩
  replace hf : _ = some _ := hf
  refine J_iload_n E (jd dk_X6_game_0 6 rfl) rfl 3 rfl ?_
  refine J_iconst (v := 1) E (jd dk_X6_game_0 7 rfl) rfl ?_
  obtain ⟨r34, e35, hf⟩ := jbind hf
  obtain ⟨r34a, r34b⟩ := r34
  refine J_callSX E (jd dk_X6_game_0 8 rfl) ml_RX6_162 cal_X6_needWhat (lk_X6_needWhat (jE_g E) (jE_tr E) N e35) rfl (Nat.le_of_ble_eq_true rfl) (jR_le hX (by decide) (by decide)) (jFx hX (by decide) (by decide)) rfl ?_ ?_
  rotate_left
  · rintro _ _ ⟨k9, rfl, rfl, rfl⟩
    replace hf := Option.some.inj hf
    subst hf
    exact J_out E htab (by decide) (by decide) ⟨_, rfl, rfl, rfl⟩
  rintro _ _ ⟨rfl, rfl, rfl⟩
  replace hf : _ = some _ := hf
  refine J_iload_n E (jd dk_X6_game_0 9 rfl) rfl 1 rfl ?_
  refine J_iload_n E (jd dk_X6_game_0 10 rfl) rfl 2 rfl ?_
  refine J_icmp_ne (tgt := 31) E (jd dk_X6_game_0 11 rfl) (by decide) (fun c37 => ?_) (fun c37 => ?_)
  · replace hf := jif_f c37 hf
    refine J_iconst (v := 0) E (jd dk_X6_game_0 17 rfl) rfl ?_
    refine J_istore (lv' := [(4, .int 0), (0, .ref a0), (1, .int a1), (2, .int a2), (3, .int a3)]) E (jd dk_X6_game_0 18 rfl) (by decide) rfl ?_
    refine J_aload_n E (jd dk_X6_game_0 19 rfl) rfl 1 rfl ?_
    obtain ⟨x38, e39, hf⟩ := jbind hf
    refine J_getr E (jd dk_X6_game_0 20 rfl) fl_RX6_37 e39 ?_
    obtain ⟨x40, e41, hf⟩ := jbind hf
    refine J_getr E (jd dk_X6_game_0 21 rfl) fl_RX6_113 e41 ?_
    obtain ⟨x42, e43, hf⟩ := jbind hf
    refine J_getr E (jd dk_X6_game_0 22 rfl) fl_RX6_179 e43 ?_
    refine J_iload_n E (jd dk_X6_game_0 23 rfl) rfl 2 rfl ?_
    obtain ⟨x44, e45, hf⟩ := jbind hf
    refine J_iald E (jd dk_X6_game_0 24 rfl) e45 ?_
    refine J_bipush (v := (-2)) E (jd dk_X6_game_0 25 rfl) (by decide) ?_
    refine J_icmp_eq (tgt := 57) E (jd dk_X6_game_0 26 rfl) (by decide) (fun c46 => ?_) (fun c46 => ?_)
    · replace hf := jif_t c46 hf
      refine J_sub [1, 2, 3, 4, 0] rfl ?_
      exact lk_X6_game_b57 E hX hr htab N hf
    · replace hf := jif_f c46 hf
      refine J_iload E (jd dk_X6_game_0 27 rfl) 0 rfl ?_
      refine J_iconst (v := 2) E (jd dk_X6_game_0 28 rfl) rfl ?_
      refine J_ior E (jd dk_X6_game_0 29 rfl) ?_
      refine J_istore (lv' := [(4, .int ((0 : Int32) ||| 2)), (0, .ref a0), (1, .int a1), (2, .int a2), (3, .int a3)]) E (jd dk_X6_game_0 30 rfl) (by decide) rfl ?_
      refine J_sub [1, 2, 3, 4, 0] rfl ?_
      exact lk_X6_game_b57 E hX hr htab N hf
  · replace hf := jif_t c37 hf
    cases hf
    exact J_throwW (j := 23) (text := "both are one") E thr_2 rfl htab (jd dk_X6_game_0 12 rfl) (jd dk_X6_game_0 13 rfl) (jd dk_X6_game_0 14 rfl) (jd dk_X6_game_0 15 rfl) (jd dk_X6_game_0 16 rfl) (Nat.le_of_ble_eq_true rfl) (jRc hX (by decide) (by decide)) (by decide) (by decide) ⟨2, rfl, rfl, rfl⟩
def f_X6_stir (N : Nat) (h : AH) (a0 : Int32) : Option (Int32 × AH) :=
  some ((a0 * 1103515245) + 12345, h)
set_option maxRecDepth 100000 in
set_option maxHeartbeats 4000000 in
theorem lk_X6_stir {G : JG} {l : Launch} (hG : jG G) (htr : l.stackTraces = false) (N : Nat) {h : AH} {a0 : Int32} {r : (Int32 × AH)} (hf : f_X6_stir N h a0 = some r) : jMet G l yX6_stir cX6_stir 1 (some .int) 0 0 0 [.int a0] h (jpi r) := by
  unfold f_X6_stir at hf
  refine jMet_of hG htr (by decide) (Nat.le_of_ble_eq_true rfl) ?_
  intro X E hl9 hr hX _ _
  show JW G X (RX6, cX6_stir, 1) h [(0, .int a0)] [] 0 0 0 (jEnd G X (jpi r) 0 0)
  refine J_iload_n E (jd dk_X6_stir_0 0 rfl) rfl 0 rfl ?_
  refine J_ldcw (v := 1103515245) E (jd dk_X6_stir_0 1 rfl) (jl23_in _ (List.mem_of_getElem? (i := 21) rfl)) ?_
  refine J_imul E (jd dk_X6_stir_0 2 rfl) ?_
  refine J_sipush (v := 12345) E (jd dk_X6_stir_0 3 rfl) (by decide) ?_
  refine J_iadd E (jd dk_X6_stir_0 4 rfl) ?_
  cases hf
  exact J_iret E hr rfl (jd dk_X6_stir_0 5 rfl) (Nat.le_refl _) (Nat.le_refl _) ⟨rfl, rfl⟩
def f_X6_draw (N : Nat) (h : AH) (a0 : Int32) (a1 : Int32) : Option (Int32 × AH) :=
  (f_X6_rest N h ((a0 >>> ((16 : Int32) &&& 31)) &&& 32767) a1).bind fun r1 =>
  some (r1.1, r1.2)
set_option maxRecDepth 100000 in
set_option maxHeartbeats 4000000 in
theorem lk_X6_draw {G : JG} {l : Launch} (hG : jG G) (htr : l.stackTraces = false) (N : Nat) {h : AH} {a0 : Int32} {a1 : Int32} {r : (Int32 × AH)} (hf : f_X6_draw N h a0 a1 = some r) : jMet G l yX6_draw cX6_draw 2 (some .int) 1 0 0 [.int a0, .int a1] h (jpi r) := by
  unfold f_X6_draw at hf
  refine jMet_of hG htr (by decide) (Nat.le_of_ble_eq_true rfl) ?_
  intro X E hl9 hr hX _ _
  show JW G X (RX6, cX6_draw, 2) h [(0, .int a0), (1, .int a1)] [] 0 0 0 (jEnd G X (jpi r) 0 0)
  refine J_iload_n E (jd dk_X6_draw_0 0 rfl) rfl 0 rfl ?_
  refine J_bipush (v := 16) E (jd dk_X6_draw_0 1 rfl) (by decide) ?_
  refine J_ishr E (jd dk_X6_draw_0 2 rfl) ?_
  refine J_sipush (v := 32767) E (jd dk_X6_draw_0 3 rfl) (by decide) ?_
  refine J_iand E (jd dk_X6_draw_0 4 rfl) ?_
  refine J_iload_n E (jd dk_X6_draw_0 5 rfl) rfl 1 rfl ?_
  obtain ⟨r1, e2, hf⟩ := jbind hf
  refine J_callS E (jd dk_X6_draw_0 6 rfl) ml_RX6_329 cal_X6_rest (lk_X6_rest (jE_g E) (jE_tr E) N e2) rfl (Nat.le_of_ble_eq_true rfl) (jR_le hX (by decide) (by decide)) (jF0 hX) rfl ?_
  rintro _ _ ⟨rfl, rfl⟩
  cases hf
  exact J_iret E hr rfl (jd dk_X6_draw_0 7 rfl) (Nat.le_refl _) (Nat.le_refl _) ⟨rfl, rfl⟩
def f_X6_befall_b66 (N : Nat) (v0 : Nat) (v2 : Int32) (v3 : Int32) (h : AH) : Option (Int32 × AH) :=
  if 1 < v3 then some (v2, h)
  else (jgr 6 h v0 4).bind fun x2 =>
  (jgi 1 h x2 2).bind fun x4 =>
  if x4 = 0 then some (v2, h)
  else (f_X6_stir N h v2).bind fun r7 =>
  (jgr 6 r7.2 v0 4).bind fun x9 =>
  (jgi 1 r7.2 x9 2).bind fun x11 =>
  (f_X6_draw N r7.2 r7.1 x11).bind fun r13 =>
  if v3 = 0 then (jgr 6 r13.2 v0 8).bind fun x37 =>
  (jgr 6 r13.2 v0 4).bind fun x39 =>
  (jck 5 r13.2 x37).bind fun _ =>
  (f_X5_goOn N r13.2 x37 x39 r13.1 1).bind fun r41 =>
  some (r7.1, r41)
  else (f_X6_stir N r13.2 r7.1).bind fun r16 =>
  (jgr 6 r16.2 v0 8).bind fun x18 =>
  (jgr 5 r16.2 x18 1).bind fun x20 =>
  (jal 0 r16.2 x20 r13.1).bind fun x22 =>
  if x22 = ((-2)) then some (r16.1, r16.2)
  else (jgr 6 r16.2 v0 8).bind fun x25 =>
  (jgr 5 r16.2 x25 2).bind fun x27 =>
  (jgr 6 r16.2 v0 4).bind fun x29 =>
  (jgi 1 r16.2 x29 0).bind fun x31 =>
  (f_X6_draw N r16.2 r16.1 x31).bind fun r33 =>
  (jas 0 r33.2 x27 r13.1 r33.1).bind fun h35 =>
  some (r16.1, h35)
def f_X6_befall (N : Nat) (h : AH) (a0 : Nat) (a1 : Int32) : Option (Int32 × AH) :=
  (f_X6_stir N h a1).bind fun r45 =>
  (f_X6_draw N r45.2 r45.1 6).bind fun r47 =>
  if r47.1 = 2 then (jgr 6 r47.2 a0 4).bind fun x50 =>
  (jgi 1 r47.2 x50 1).bind fun x52 =>
  if x52 ≤ 0 then f_X6_befall_b66 N a0 r45.1 r47.1 r47.2
  else (f_X6_stir N r47.2 r45.1).bind fun r55 =>
  (jgr 6 r55.2 a0 4).bind fun x57 =>
  (jgi 1 r55.2 x57 1).bind fun x59 =>
  (f_X6_draw N r55.2 r55.1 x59).bind fun r61 =>
  (f_X6_stir N r61.2 r55.1).bind fun r63 =>
  (jgr 6 r63.2 a0 8).bind fun x65 =>
  (jgr 5 r63.2 x65 7).bind fun x67 =>
  (f_X6_draw N r63.2 r63.1 8).bind fun r69 =>
  (jas 0 r69.2 x67 r61.1 r69.1).bind fun h71 =>
  f_X6_befall_b66 N a0 r63.1 r47.1 h71
  else f_X6_befall_b66 N a0 r45.1 r47.1 r47.2
set_option maxRecDepth 100000 in
set_option maxHeartbeats 4000000 in
theorem lk_X6_befall_b66 {G : JG} {X : JX} (E : jE G X (RX6, cX6_befall, 5)) (hX : X.2.2.2.1 = jRm 2 0 0) (hr : X.2.2.2.2.2.2.2.2.1.sig.returnType = (some .int)) (N : Nat) {v0 : Nat} {v2 : Int32} {v3 : Int32} {h : AH}  {r : (Int32 × AH)} (hf : f_X6_befall_b66 N v0 v2 v3 h = some r) : JW G X (RX6, cX6_befall, 5) h [(0, .ref v0), (2, .int v2), (3, .int v3)] [] 66 0 0 (jEnd G X (jpi r) 0 0) := by
  unfold f_X6_befall_b66 at hf
  refine J_iload_n E (jd dk_X6_befall_0 34 rfl) rfl 2 rfl ?_
  refine J_iconst (v := 1) E (jd dk_X6_befall_0 35 rfl) rfl ?_
  refine J_icmp_gt (tgt := 81) E (jd dk_X6_befall_0 36 rfl) (by decide) (fun c1 => ?_) (fun c1 => ?_)
  · replace hf := jif_t c1 hf
    refine J_iload_n E (jd dk_X6_befall_0 41 rfl) rfl 1 rfl ?_
    cases hf
    exact J_iret E hr rfl (jd dk_X6_befall_0 42 rfl) (Nat.le_refl _) (Nat.le_refl _) ⟨rfl, rfl⟩
  · replace hf := jif_f c1 hf
    refine J_aload_n E (jd dk_X6_befall_0 37 rfl) rfl 0 rfl ?_
    obtain ⟨x2, e3, hf⟩ := jbind hf
    refine J_getr E (jd dk_X6_befall_0 38 rfl) fl_RX6_30 e3 ?_
    obtain ⟨x4, e5, hf⟩ := jbind hf
    refine J_geti E (jd dk_X6_befall_0 39 rfl) fl_RX6_110 e5 ?_
    refine J_if_ne (tgt := 83) E (jd dk_X6_befall_0 40 rfl) (by decide) (fun c6 => ?_) (fun c6 => ?_)
    · replace hf := jif_f c6 hf
      refine J_iload_n E (jd dk_X6_befall_0 43 rfl) rfl 1 rfl ?_
      obtain ⟨r7, e8, hf⟩ := jbind hf
      refine J_callS E (jd dk_X6_befall_0 44 rfl) ml_RX6_321 cal_X6_stir (lk_X6_stir (jE_g E) (jE_tr E) N e8) rfl (Nat.le_of_ble_eq_true rfl) (jR_le hX (by decide) (by decide)) (jF0 hX) rfl ?_
      rintro _ _ ⟨rfl, rfl⟩
      refine J_istore_n (lv' := [(2, .int r7.1), (0, .ref v0), (3, .int v3)]) E (jd dk_X6_befall_0 45 rfl) rfl (by decide) rfl ?_
      refine J_iload_n E (jd dk_X6_befall_0 46 rfl) rfl 0 rfl ?_
      refine J_aload_n E (jd dk_X6_befall_0 47 rfl) rfl 1 rfl ?_
      obtain ⟨x9, e10, hf⟩ := jbind hf
      refine J_getr E (jd dk_X6_befall_0 48 rfl) fl_RX6_30 e10 ?_
      obtain ⟨x11, e12, hf⟩ := jbind hf
      refine J_geti E (jd dk_X6_befall_0 49 rfl) fl_RX6_110 e12 ?_
      obtain ⟨r13, e14, hf⟩ := jbind hf
      refine J_callS E (jd dk_X6_befall_1 0 rfl) ml_RX6_324 cal_X6_draw (lk_X6_draw (jE_g E) (jE_tr E) N e14) rfl (Nat.le_of_ble_eq_true rfl) (jR_le hX (by decide) (by decide)) (jF0 hX) rfl ?_
      rintro _ _ ⟨rfl, rfl⟩
      refine J_istore (lv' := [(4, .int r13.1), (2, .int r7.1), (0, .ref v0), (3, .int v3)]) E (jd dk_X6_befall_1 1 rfl) (by decide) rfl ?_
      refine J_iload_n E (jd dk_X6_befall_1 2 rfl) rfl 3 rfl ?_
      refine J_if_ne (tgt := 121) E (jd dk_X6_befall_1 3 rfl) (by decide) (fun c15 => ?_) (fun c15 => ?_)
      · replace hf := jif_f c15 hf
        refine J_iload_n E (jd dk_X6_befall_1 13 rfl) rfl 1 rfl ?_
        obtain ⟨r16, e17, hf⟩ := jbind hf
        refine J_callS E (jd dk_X6_befall_1 14 rfl) ml_RX6_321 cal_X6_stir (lk_X6_stir (jE_g E) (jE_tr E) N e17) rfl (Nat.le_of_ble_eq_true rfl) (jR_le hX (by decide) (by decide)) (jF0 hX) rfl ?_
        rintro _ _ ⟨rfl, rfl⟩
        refine J_istore_n (lv' := [(2, .int r16.1), (4, .int r13.1), (0, .ref v0), (3, .int v3)]) E (jd dk_X6_befall_1 15 rfl) rfl (by decide) rfl ?_
        refine J_aload_n E (jd dk_X6_befall_1 16 rfl) rfl 2 rfl ?_
        obtain ⟨x18, e19, hf⟩ := jbind hf
        refine J_getr E (jd dk_X6_befall_1 17 rfl) fl_RX6_51 e19 ?_
        obtain ⟨x20, e21, hf⟩ := jbind hf
        refine J_getr E (jd dk_X6_befall_1 18 rfl) fl_RX6_179 e21 ?_
        refine J_iload E (jd dk_X6_befall_1 19 rfl) 1 rfl ?_
        obtain ⟨x22, e23, hf⟩ := jbind hf
        refine J_iald E (jd dk_X6_befall_1 20 rfl) e23 ?_
        refine J_bipush (v := (-2)) E (jd dk_X6_befall_1 21 rfl) (by decide) ?_
        refine J_icmp_eq (tgt := 162) E (jd dk_X6_befall_1 22 rfl) (by decide) (fun c24 => ?_) (fun c24 => ?_)
        · replace hf := jif_t c24 hf
          refine J_iload_n E (jd dk_X6_befall_1 33 rfl) rfl 0 rfl ?_
          cases hf
          exact J_iret E hr rfl (jd dk_X6_befall_1 34 rfl) (Nat.le_refl _) (Nat.le_refl _) ⟨rfl, rfl⟩
        · replace hf := jif_f c24 hf
          refine J_aload_n E (jd dk_X6_befall_1 23 rfl) rfl 2 rfl ?_
          obtain ⟨x25, e26, hf⟩ := jbind hf
          refine J_getr E (jd dk_X6_befall_1 24 rfl) fl_RX6_51 e26 ?_
          obtain ⟨x27, e28, hf⟩ := jbind hf
          refine J_getr E (jd dk_X6_befall_1 25 rfl) fl_RX6_182 e28 ?_
          refine J_iload E (jd dk_X6_befall_1 26 rfl) 1 rfl ?_
          refine J_iload_n E (jd dk_X6_befall_1 27 rfl) rfl 0 rfl ?_
          refine J_aload_n E (jd dk_X6_befall_1 28 rfl) rfl 2 rfl ?_
          obtain ⟨x29, e30, hf⟩ := jbind hf
          refine J_getr E (jd dk_X6_befall_1 29 rfl) fl_RX6_30 e30 ?_
          obtain ⟨x31, e32, hf⟩ := jbind hf
          refine J_geti E (jd dk_X6_befall_1 30 rfl) fl_RX6_104 e32 ?_
          obtain ⟨r33, e34, hf⟩ := jbind hf
          refine J_callS E (jd dk_X6_befall_1 31 rfl) ml_RX6_324 cal_X6_draw (lk_X6_draw (jE_g E) (jE_tr E) N e34) rfl (Nat.le_of_ble_eq_true rfl) (jR_le hX (by decide) (by decide)) (jF0 hX) rfl ?_
          rintro _ _ ⟨rfl, rfl⟩
          obtain ⟨h35, e36, hf⟩ := jbind hf
          refine J_iast E (jd dk_X6_befall_1 32 rfl) e36 ?_
          refine J_iload_n E (jd dk_X6_befall_1 33 rfl) rfl 0 rfl ?_
          cases hf
          exact J_iret E hr rfl (jd dk_X6_befall_1 34 rfl) (Nat.le_refl _) (Nat.le_refl _) ⟨rfl, rfl⟩
      · replace hf := jif_t c15 hf
        refine J_aload_n E (jd dk_X6_befall_1 4 rfl) rfl 2 rfl ?_
        obtain ⟨x37, e38, hf⟩ := jbind hf
        refine J_getr E (jd dk_X6_befall_1 5 rfl) fl_RX6_51 e38 ?_
        refine J_aload_n E (jd dk_X6_befall_1 6 rfl) rfl 2 rfl ?_
        obtain ⟨x39, e40, hf⟩ := jbind hf
        refine J_getr E (jd dk_X6_befall_1 7 rfl) fl_RX6_30 e40 ?_
        refine J_iload E (jd dk_X6_befall_1 8 rfl) 0 rfl ?_
        refine J_iconst (v := 1) E (jd dk_X6_befall_1 9 rfl) rfl ?_
        obtain ⟨u43, e44, hf⟩ := jbind hf
        obtain ⟨r41, e42, hf⟩ := jbind hf
        refine J_callV E (jd dk_X6_befall_1 10 rfl) ml_RX6_205 cal_X5_goOn e44 rfl (lk_X5_goOn (jE_g E) (jE_tr E) N e42) rfl (Nat.le_of_ble_eq_true rfl) (jR_le hX (by decide) (by decide)) (jF0 hX) rfl ?_
        rintro _ _ ⟨rfl, rfl⟩
        refine J_iload_n E (jd dk_X6_befall_1 11 rfl) rfl 1 rfl ?_
        cases hf
        exact J_iret E hr rfl (jd dk_X6_befall_1 12 rfl) (Nat.le_refl _) (Nat.le_refl _) ⟨rfl, rfl⟩
    · replace hf := jif_t c6 hf
      refine J_iload_n E (jd dk_X6_befall_0 41 rfl) rfl 1 rfl ?_
      cases hf
      exact J_iret E hr rfl (jd dk_X6_befall_0 42 rfl) (Nat.le_refl _) (Nat.le_refl _) ⟨rfl, rfl⟩
set_option maxRecDepth 100000 in
set_option maxHeartbeats 4000000 in
theorem lk_X6_befall {G : JG} {l : Launch} (hG : jG G) (htr : l.stackTraces = false) (N : Nat) {h : AH} {a0 : Nat} {a1 : Int32} {r : (Int32 × AH)} (hf : f_X6_befall N h a0 a1 = some r) : jMet G l yX6_befall cX6_befall 5 (some .int) 2 0 0 [.ref a0, .int a1] h (jpi r) := by
  unfold f_X6_befall at hf
  refine jMet_of hG htr (by decide) (Nat.le_of_ble_eq_true rfl) ?_
  intro X E hl9 hr hX _ _
  show JW G X (RX6, cX6_befall, 5) h [(0, .ref a0), (1, .int a1)] [] 0 0 0 (jEnd G X (jpi r) 0 0)
  refine J_iload_n E (jd dk_X6_befall_0 0 rfl) rfl 1 rfl ?_
  obtain ⟨r45, e46, hf⟩ := jbind hf
  refine J_callS E (jd dk_X6_befall_0 1 rfl) ml_RX6_321 cal_X6_stir (lk_X6_stir (jE_g E) (jE_tr E) N e46) rfl (Nat.le_of_ble_eq_true rfl) (jR_le hX (by decide) (by decide)) (jF0 hX) rfl ?_
  rintro _ _ ⟨rfl, rfl⟩
  refine J_istore_n (lv' := [(2, .int r45.1), (0, .ref a0), (1, .int a1)]) E (jd dk_X6_befall_0 2 rfl) rfl (by decide) rfl ?_
  refine J_iload_n E (jd dk_X6_befall_0 3 rfl) rfl 0 rfl ?_
  refine J_bipush (v := 6) E (jd dk_X6_befall_0 4 rfl) (by decide) ?_
  obtain ⟨r47, e48, hf⟩ := jbind hf
  refine J_callS E (jd dk_X6_befall_0 5 rfl) ml_RX6_324 cal_X6_draw (lk_X6_draw (jE_g E) (jE_tr E) N e48) rfl (Nat.le_of_ble_eq_true rfl) (jR_le hX (by decide) (by decide)) (jF0 hX) rfl ?_
  rintro _ _ ⟨rfl, rfl⟩
  refine J_istore_n (lv' := [(3, .int r47.1), (2, .int r45.1), (0, .ref a0), (1, .int a1)]) E (jd dk_X6_befall_0 6 rfl) rfl (by decide) rfl ?_
  refine J_iload_n E (jd dk_X6_befall_0 7 rfl) rfl 0 rfl ?_
  refine J_iconst (v := 2) E (jd dk_X6_befall_0 8 rfl) rfl ?_
  refine J_icmp_ne (tgt := 66) E (jd dk_X6_befall_0 9 rfl) (by decide) (fun c49 => ?_) (fun c49 => ?_)
  · replace hf := jif_f c49 hf
    refine J_sub [2, 1, 0] rfl ?_
    exact lk_X6_befall_b66 E hX hr N hf
  · replace hf := jif_t c49 hf
    refine J_aload_n E (jd dk_X6_befall_0 10 rfl) rfl 2 rfl ?_
    obtain ⟨x50, e51, hf⟩ := jbind hf
    refine J_getr E (jd dk_X6_befall_0 11 rfl) fl_RX6_30 e51 ?_
    obtain ⟨x52, e53, hf⟩ := jbind hf
    refine J_geti E (jd dk_X6_befall_0 12 rfl) fl_RX6_107 e53 ?_
    refine J_if_le (tgt := 66) E (jd dk_X6_befall_0 13 rfl) (by decide) (fun c54 => ?_) (fun c54 => ?_)
    · replace hf := jif_t c54 hf
      refine J_sub [2, 1, 0] rfl ?_
      exact lk_X6_befall_b66 E hX hr N hf
    · replace hf := jif_f c54 hf
      refine J_iload_n E (jd dk_X6_befall_0 14 rfl) rfl 1 rfl ?_
      obtain ⟨r55, e56, hf⟩ := jbind hf
      refine J_callS E (jd dk_X6_befall_0 15 rfl) ml_RX6_321 cal_X6_stir (lk_X6_stir (jE_g E) (jE_tr E) N e56) rfl (Nat.le_of_ble_eq_true rfl) (jR_le hX (by decide) (by decide)) (jF0 hX) rfl ?_
      rintro _ _ ⟨rfl, rfl⟩
      refine J_istore_n (lv' := [(2, .int r55.1), (3, .int r47.1), (0, .ref a0), (1, .int a1)]) E (jd dk_X6_befall_0 16 rfl) rfl (by decide) rfl ?_
      refine J_iload_n E (jd dk_X6_befall_0 17 rfl) rfl 0 rfl ?_
      refine J_aload_n E (jd dk_X6_befall_0 18 rfl) rfl 2 rfl ?_
      obtain ⟨x57, e58, hf⟩ := jbind hf
      refine J_getr E (jd dk_X6_befall_0 19 rfl) fl_RX6_30 e58 ?_
      obtain ⟨x59, e60, hf⟩ := jbind hf
      refine J_geti E (jd dk_X6_befall_0 20 rfl) fl_RX6_107 e60 ?_
      obtain ⟨r61, e62, hf⟩ := jbind hf
      refine J_callS E (jd dk_X6_befall_0 21 rfl) ml_RX6_324 cal_X6_draw (lk_X6_draw (jE_g E) (jE_tr E) N e62) rfl (Nat.le_of_ble_eq_true rfl) (jR_le hX (by decide) (by decide)) (jF0 hX) rfl ?_
      rintro _ _ ⟨rfl, rfl⟩
      refine J_istore (lv' := [(4, .int r61.1), (2, .int r55.1), (3, .int r47.1), (0, .ref a0), (1, .int a1)]) E (jd dk_X6_befall_0 22 rfl) (by decide) rfl ?_
      refine J_iload_n E (jd dk_X6_befall_0 23 rfl) rfl 1 rfl ?_
      obtain ⟨r63, e64, hf⟩ := jbind hf
      refine J_callS E (jd dk_X6_befall_0 24 rfl) ml_RX6_321 cal_X6_stir (lk_X6_stir (jE_g E) (jE_tr E) N e64) rfl (Nat.le_of_ble_eq_true rfl) (jR_le hX (by decide) (by decide)) (jF0 hX) rfl ?_
      rintro _ _ ⟨rfl, rfl⟩
      refine J_istore_n (lv' := [(2, .int r63.1), (4, .int r61.1), (3, .int r47.1), (0, .ref a0), (1, .int a1)]) E (jd dk_X6_befall_0 25 rfl) rfl (by decide) rfl ?_
      refine J_aload_n E (jd dk_X6_befall_0 26 rfl) rfl 3 rfl ?_
      obtain ⟨x65, e66, hf⟩ := jbind hf
      refine J_getr E (jd dk_X6_befall_0 27 rfl) fl_RX6_51 e66 ?_
      obtain ⟨x67, e68, hf⟩ := jbind hf
      refine J_getr E (jd dk_X6_befall_0 28 rfl) fl_RX6_169 e68 ?_
      refine J_iload E (jd dk_X6_befall_0 29 rfl) 1 rfl ?_
      refine J_iload_n E (jd dk_X6_befall_0 30 rfl) rfl 0 rfl ?_
      refine J_bipush (v := 8) E (jd dk_X6_befall_0 31 rfl) (by decide) ?_
      obtain ⟨r69, e70, hf⟩ := jbind hf
      refine J_callS E (jd dk_X6_befall_0 32 rfl) ml_RX6_324 cal_X6_draw (lk_X6_draw (jE_g E) (jE_tr E) N e70) rfl (Nat.le_of_ble_eq_true rfl) (jR_le hX (by decide) (by decide)) (jF0 hX) rfl ?_
      rintro _ _ ⟨rfl, rfl⟩
      obtain ⟨h71, e72, hf⟩ := jbind hf
      refine J_iast E (jd dk_X6_befall_0 33 rfl) e72 ?_
      refine J_sub [3, 0, 2] rfl ?_
      exact lk_X6_befall_b66 E hX hr N hf
def f_X6_years_l22 (N : Nat) (v0 : Nat) (v2 : Int32) (v3 : Int32) (v4 : Int32) (v5 : Int32) (h : AH) : Option ((Int32 × Int32 × AH) ⊕ ((AH))) :=
  if v2 ≤ v5 then some (.inr h)
  else (jck 6 h v0).bind fun _ =>
  (f_X6_befall N h v0 v4).bind fun r2 =>
  (jgr 6 r2.2 v0 8).bind fun x6 =>
  (jgr 6 r2.2 v0 4).bind fun x8 =>
  (jck 5 r2.2 x6).bind fun _ =>
  (f_X5_pass N r2.2 x6 x8 0).bind fun r10 =>
  some (.inl ((r2.1, v5 + 1, r10)))
def f_X6_years_b22 (N : Nat) (v0 : Nat) (v2 : Int32) (v3 : Int32) (v4 : Int32) (v5 : Int32) (h : AH) : Option ((Nat ⊕ Int32) × AH) :=
  (itr (fun s => f_X6_years_l22 N v0 v2 v3 s.1 s.2.1 s.2.2) N (v4, v5, h)).bind (fun e => if v3 = 0 then (jgr 6 e v0 8).bind fun x34 =>
  (jgr 6 e v0 4).bind fun x36 =>
  (jck 5 e x34).bind fun _ =>
  (f_X5_landedOnes N e x34 x36).bind fun r38 =>
  (jgr 6 r38.2 v0 5).bind fun x42 =>
  (jgr 0 r38.2 x42 0).bind fun x44 =>
  (jgr 6 r38.2 v0 4).bind fun x46 =>
  (jck 5 r38.2 x44).bind fun _ =>
  (f_X5_landedOnes N r38.2 x44 x46).bind fun r48 =>
  (f_J6_bitCount_0f7a4 N r48.2 (r38.1 &&& (r48.1 ^^^ ((-1))))).bind fun r52 =>
  some (.inr r52.1, r52.2)
  else if v3 = 1 then (jgr 6 e v0 8).bind fun x24 =>
  (jgr 6 e v0 4).bind fun x26 =>
  (jck 5 e x24).bind fun _ =>
  (f_X5_fairOnes N e x24 x26).bind fun r28 =>
  (f_J6_bitCount_0f7a4 N r28.2 r28.1).bind fun r32 =>
  some (.inr r32.1, r32.2)
  else (jgr 6 e v0 8).bind fun x16 =>
  (jgr 6 e v0 4).bind fun x18 =>
  (jck 5 e x16).bind fun _ =>
  (f_X5_turnedByAll N e x16 x18).bind fun r20 =>
  some (.inr r20.1, r20.2))
def f_X6_years (N : Nat) (h : AH) (a0 : Nat) (a1 : Int32) (a2 : Int32) (a3 : Int32) : Option ((Nat ⊕ Int32) × AH) :=
  (f_X6_needWhat N h a3 2).bind fun r54 => Sum.elim (fun k => some (.inl k, r54.2)) (fun _ =>
  (f_X6_needSteps N r54.2 a2 0 60).bind fun r57 => Sum.elim (fun k => some (.inl k, r57.2)) (fun _ =>
  (jck 6 r57.2 a0).bind fun _ =>
  (f_X6_tryFromNow N r57.2 a0).bind fun r60 =>
  f_X6_years_b22 N a0 a2 a3 a1 0 r60) r57.1) r54.1
set_option maxRecDepth 100000 in
set_option maxHeartbeats 4000000 in
theorem lk_X6_years_l22 {G : JG} {X : JX} (E : jE G X (RX6, cX6_years, 6)) (hX : X.2.2.2.1 = jRm 5 2 12) (hr : X.2.2.2.2.2.2.2.2.1.sig.returnType = (some .int)) (htab : ∀ x ∈ X.2.2.2.2.2.2.2.2.2.exceptionTable.toList, False) (N : Nat) {Q : State → Prop} {v0 : Nat} {v2 : Int32} {v3 : Int32} {v4 : Int32} {v5 : Int32}  {h : AH} {q : ((Int32 × Int32 × AH) ⊕ ((AH)))} (hf : f_X6_years_l22 N v0 v2 v3 v4 v5 h = some q) (kb : ∀ s' : Int32 × Int32 × AH, q = .inl s' → JW G X (RX6, cX6_years, 6) s'.2.2 [(0, .ref v0), (2, .int v2), (3, .int v3), (4, .int s'.1), (5, .int s'.2.1)] [] 22 2 12 Q) (ke0 : ∀ e : AH, q = .inr e → JW G X (RX6, cX6_years, 6) e [(0, .ref v0), (3, .int v3)] [] 54 2 12 Q) : JW G X (RX6, cX6_years, 6) h [(0, .ref v0), (2, .int v2), (3, .int v3), (4, .int v4), (5, .int v5)] [] 22 2 12 Q := by
  unfold f_X6_years_l22 at hf
  refine J_iload E (jd dk_X6_years_0 13 rfl) 4 rfl ?_
  refine J_iload_n E (jd dk_X6_years_0 14 rfl) rfl 1 rfl ?_
  refine J_icmp_ge (tgt := 54) E (jd dk_X6_years_0 15 rfl) (by decide) (fun c1 => ?_) (fun c1 => ?_)
  · replace hf := jif_t c1 hf
    refine J_sub [0, 2] rfl ?_
    exact ke0 _ (Option.some.inj hf).symm
  · replace hf := jif_f c1 hf
    refine J_aload_n E (jd dk_X6_years_0 16 rfl) rfl 0 rfl ?_
    refine J_iload E (jd dk_X6_years_0 17 rfl) 3 rfl ?_
    obtain ⟨u4, e5, hf⟩ := jbind hf
    obtain ⟨r2, e3, hf⟩ := jbind hf
    refine J_callV E (jd dk_X6_years_0 18 rfl) ml_RX6_315 cal_X6_befall e5 rfl (lk_X6_befall (jE_g E) (jE_tr E) N e3) rfl (Nat.le_of_ble_eq_true rfl) (jR_le hX (by decide) (by decide)) (jFx hX (by decide) (by decide)) rfl ?_
    rintro _ _ ⟨rfl, rfl⟩
    refine J_istore (lv' := [(4, .int r2.1), (0, .ref v0), (2, .int v2), (3, .int v3), (5, .int v5)]) E (jd dk_X6_years_0 19 rfl) (by decide) rfl ?_
    refine J_aload_n E (jd dk_X6_years_0 20 rfl) rfl 1 rfl ?_
    obtain ⟨x6, e7, hf⟩ := jbind hf
    refine J_getr E (jd dk_X6_years_0 21 rfl) fl_RX6_51 e7 ?_
    refine J_aload_n E (jd dk_X6_years_0 22 rfl) rfl 1 rfl ?_
    obtain ⟨x8, e9, hf⟩ := jbind hf
    refine J_getr E (jd dk_X6_years_0 23 rfl) fl_RX6_30 e9 ?_
    refine J_iconst (v := 0) E (jd dk_X6_years_0 24 rfl) rfl ?_
    obtain ⟨u12, e13, hf⟩ := jbind hf
    obtain ⟨r10, e11, hf⟩ := jbind hf
    refine J_callV E (jd dk_X6_years_0 25 rfl) ml_RX6_201 cal_X5_pass e13 rfl (lk_X5_pass (jE_g E) (jE_tr E) N e11) rfl (Nat.le_of_ble_eq_true rfl) (jR_le hX (by decide) (by decide)) (jFx hX (by decide) (by decide)) rfl ?_
    rintro _ _ ⟨rfl, rfl⟩
    refine J_iinc (v := v5 + 1) (lv' := [(5, .int (v5 + 1)), (4, .int r2.1), (0, .ref v0), (2, .int v2), (3, .int v3)]) E (jd dk_X6_years_0 26 rfl) 4 rfl rfl (by decide) rfl ?_
    refine J_goto (tgt := 22) E (jd dk_X6_years_0 27 rfl) (by decide) ?_
    refine J_sub [2, 3, 4, 1, 0] rfl ?_
    exact kb _ (Option.some.inj hf).symm
set_option maxRecDepth 100000 in
set_option maxHeartbeats 4000000 in
theorem lk_X6_years_b22 {G : JG} {X : JX} (E : jE G X (RX6, cX6_years, 6)) (hX : X.2.2.2.1 = jRm 5 2 12) (hr : X.2.2.2.2.2.2.2.2.1.sig.returnType = (some .int)) (htab : ∀ x ∈ X.2.2.2.2.2.2.2.2.2.exceptionTable.toList, False) (N : Nat) {v0 : Nat} {v2 : Int32} {v3 : Int32} {v4 : Int32} {v5 : Int32} {h : AH}  {r : ((Nat ⊕ Int32) × AH)} (hf : f_X6_years_b22 N v0 v2 v3 v4 v5 h = some r) : JW G X (RX6, cX6_years, 6) h [(0, .ref v0), (2, .int v2), (3, .int v3), (4, .int v4), (5, .int v5)] [] 22 2 12 (jEndX G X (jpXi r) (jpXx r) 2 12) := by
  unfold f_X6_years_b22 at hf
  obtain ⟨q1, h1, hf⟩ := jbind hf
  refine jloop (P := fun s => JW G X (RX6, cX6_years, 6) s.2.2 [(0, .ref v0), (2, .int v2), (3, .int v3), (4, .int s.1), (5, .int s.2.1)] [] 22 2 12 (jEndX G X (jpXi r) (jpXx r) 2 12)) (Ex := fun (e : AH) => JW G X (RX6, cX6_years, 6) e [(0, .ref v0), (3, .int v3)] [] 54 2 12 (jEndX G X (jpXi r) (jpXx r) 2 12)) (fun s q hs hb hx => lk_X6_years_l22 E hX hr htab N hs (fun s' hs => hb s' hs) (fun e he => hx e he)) N _ q1 h1 ?_
  generalize q1 = e at hf ⊢
  refine J_iload_n E (jd dk_X6_years_0 28 rfl) rfl 1 rfl ?_
  refine J_if_ne (tgt := 90) E (jd dk_X6_years_0 29 rfl) (by decide) (fun c14 => ?_) (fun c14 => ?_)
  · replace hf := jif_f c14 hf
    refine J_iload_n E (jd dk_X6_years_0 46 rfl) rfl 1 rfl ?_
    refine J_iconst (v := 1) E (jd dk_X6_years_0 47 rfl) rfl ?_
    refine J_icmp_ne (tgt := 112) E (jd dk_X6_years_0 48 rfl) (by decide) (fun c15 => ?_) (fun c15 => ?_)
    · replace hf := jif_f c15 hf
      refine J_aload_n E (jd dk_X6_years_1 6 rfl) rfl 0 rfl ?_
      obtain ⟨x16, e17, hf⟩ := jbind hf
      refine J_getr E (jd dk_X6_years_1 7 rfl) fl_RX6_51 e17 ?_
      refine J_aload_n E (jd dk_X6_years_1 8 rfl) rfl 0 rfl ?_
      obtain ⟨x18, e19, hf⟩ := jbind hf
      refine J_getr E (jd dk_X6_years_1 9 rfl) fl_RX6_30 e19 ?_
      obtain ⟨u22, e23, hf⟩ := jbind hf
      obtain ⟨r20, e21, hf⟩ := jbind hf
      refine J_callV E (jd dk_X6_years_1 10 rfl) ml_RX6_318 cal_X5_turnedByAll e23 rfl (lk_X5_turnedByAll (jE_g E) (jE_tr E) N e21) rfl (Nat.le_of_ble_eq_true rfl) (jR_le hX (by decide) (by decide)) (jFx hX (by decide) (by decide)) rfl ?_
      rintro _ _ ⟨rfl, rfl⟩
      cases hf
      exact J_x (J_iret E hr rfl (jd dk_X6_years_1 11 rfl) (by decide) (by decide) ⟨_, rfl, rfl, rfl⟩)
    · replace hf := jif_t c15 hf
      refine J_aload_n E (jd dk_X6_years_0 49 rfl) rfl 0 rfl ?_
      obtain ⟨x24, e25, hf⟩ := jbind hf
      refine J_getr E (jd dk_X6_years_1 0 rfl) fl_RX6_51 e25 ?_
      refine J_aload_n E (jd dk_X6_years_1 1 rfl) rfl 0 rfl ?_
      obtain ⟨x26, e27, hf⟩ := jbind hf
      refine J_getr E (jd dk_X6_years_1 2 rfl) fl_RX6_30 e27 ?_
      obtain ⟨u30, e31, hf⟩ := jbind hf
      obtain ⟨r28, e29, hf⟩ := jbind hf
      refine J_callV E (jd dk_X6_years_1 3 rfl) ml_RX6_119 cal_X5_fairOnes e31 rfl (lk_X5_fairOnes (jE_g E) (jE_tr E) N e29) rfl (Nat.le_of_ble_eq_true rfl) (jR_le hX (by decide) (by decide)) (jFx hX (by decide) (by decide)) rfl ?_
      rintro _ _ ⟨rfl, rfl⟩
      obtain ⟨r32, e33, hf⟩ := jbind hf
      refine J_callS E (jd dk_X6_years_1 4 rfl) ml_RX6_153 cal_J6_bitCount_0f7a4 (lk_J6_bitCount_0f7a4 (jE_g E) (jE_tr E) N e33) rfl (Nat.le_of_ble_eq_true rfl) (jR_le hX (by decide) (by decide)) (jFx hX (by decide) (by decide)) rfl ?_
      rintro _ _ ⟨rfl, rfl⟩
      refine J_goto (tgt := 123) E (jd dk_X6_years_1 5 rfl) (by decide) ?_
      cases hf
      exact J_x (J_iret E hr rfl (jd dk_X6_years_1 11 rfl) (by decide) (by decide) ⟨_, rfl, rfl, rfl⟩)
  · replace hf := jif_t c14 hf
    refine J_aload_n E (jd dk_X6_years_0 30 rfl) rfl 0 rfl ?_
    obtain ⟨x34, e35, hf⟩ := jbind hf
    refine J_getr E (jd dk_X6_years_0 31 rfl) fl_RX6_51 e35 ?_
    refine J_aload_n E (jd dk_X6_years_0 32 rfl) rfl 0 rfl ?_
    obtain ⟨x36, e37, hf⟩ := jbind hf
    refine J_getr E (jd dk_X6_years_0 33 rfl) fl_RX6_30 e37 ?_
    obtain ⟨u40, e41, hf⟩ := jbind hf
    obtain ⟨r38, e39, hf⟩ := jbind hf
    refine J_callV E (jd dk_X6_years_0 34 rfl) ml_RX6_123 cal_X5_landedOnes e41 rfl (lk_X5_landedOnes (jE_g E) (jE_tr E) N e39) rfl (Nat.le_of_ble_eq_true rfl) (jR_le hX (by decide) (by decide)) (jFx hX (by decide) (by decide)) rfl ?_
    rintro _ _ ⟨rfl, rfl⟩
    refine J_aload_n E (jd dk_X6_years_0 35 rfl) rfl 0 rfl ?_
    obtain ⟨x42, e43, hf⟩ := jbind hf
    refine J_getr E (jd dk_X6_years_0 36 rfl) fl_RX6_37 e43 ?_
    obtain ⟨x44, e45, hf⟩ := jbind hf
    refine J_getr E (jd dk_X6_years_0 37 rfl) fl_RX6_113 e45 ?_
    refine J_aload_n E (jd dk_X6_years_0 38 rfl) rfl 0 rfl ?_
    obtain ⟨x46, e47, hf⟩ := jbind hf
    refine J_getr E (jd dk_X6_years_0 39 rfl) fl_RX6_30 e47 ?_
    obtain ⟨u50, e51, hf⟩ := jbind hf
    obtain ⟨r48, e49, hf⟩ := jbind hf
    refine J_callV E (jd dk_X6_years_0 40 rfl) ml_RX6_123 cal_X5_landedOnes e51 rfl (lk_X5_landedOnes (jE_g E) (jE_tr E) N e49) rfl (Nat.le_of_ble_eq_true rfl) (jR_le hX (by decide) (by decide)) (jFx hX (by decide) (by decide)) rfl ?_
    rintro _ _ ⟨rfl, rfl⟩
    refine J_iconst (v := (-1)) E (jd dk_X6_years_0 41 rfl) rfl ?_
    refine J_ixor E (jd dk_X6_years_0 42 rfl) ?_
    refine J_iand E (jd dk_X6_years_0 43 rfl) ?_
    obtain ⟨r52, e53, hf⟩ := jbind hf
    refine J_callS E (jd dk_X6_years_0 44 rfl) ml_RX6_153 cal_J6_bitCount_0f7a4 (lk_J6_bitCount_0f7a4 (jE_g E) (jE_tr E) N e53) rfl (Nat.le_of_ble_eq_true rfl) (jR_le hX (by decide) (by decide)) (jFx hX (by decide) (by decide)) rfl ?_
    rintro _ _ ⟨rfl, rfl⟩
    cases hf
    exact J_x (J_iret E hr rfl (jd dk_X6_years_0 45 rfl) (by decide) (by decide) ⟨_, rfl, rfl, rfl⟩)
set_option maxRecDepth 100000 in
set_option maxHeartbeats 4000000 in
theorem lk_X6_years {G : JG} {l : Launch} (hG : jG G) (htr : l.stackTraces = false) (N : Nat) {h : AH} {a0 : Nat} {a1 : Int32} {a2 : Int32} {a3 : Int32} {r : ((Nat ⊕ Int32) × AH)} (hf : f_X6_years N h a0 a1 a2 a3 = some r) : jMetX G l yX6_years cX6_years 6 (some .int) 5 2 12 [.ref a0, .int a1, .int a2, .int a3] h (jpXi r) (jpXx r) := by
  unfold f_X6_years at hf
  refine jMetX_of hG htr (by decide) (Nat.le_of_ble_eq_true rfl) ?_
  intro X E hl9 hr hX htab
  show JW G X (RX6, cX6_years, 6) h [(0, .ref a0), (1, .int a1), (2, .int a2), (3, .int a3)] [] 0 0 0 (jEndX G X (jpXi r) (jpXx r) 2 12)
  refine J_iload_n E (jd dk_X6_years_0 0 rfl) rfl 3 rfl ?_
  refine J_iconst (v := 2) E (jd dk_X6_years_0 1 rfl) rfl ?_
  obtain ⟨r54, e55, hf⟩ := jbind hf
  obtain ⟨r54a, r54b⟩ := r54
  refine J_callSX E (jd dk_X6_years_0 2 rfl) ml_RX6_162 cal_X6_needWhat (lk_X6_needWhat (jE_g E) (jE_tr E) N e55) rfl (Nat.le_of_ble_eq_true rfl) (jR_le hX (by decide) (by decide)) (jFx hX (by decide) (by decide)) rfl ?_ ?_
  rotate_left
  · rintro _ _ ⟨k9, rfl, rfl, rfl⟩
    replace hf := Option.some.inj hf
    subst hf
    exact J_out E htab (by decide) (by decide) ⟨_, rfl, rfl, rfl⟩
  rintro _ _ ⟨rfl, rfl, rfl⟩
  replace hf : _ = some _ := hf
  refine J_iload_n E (jd dk_X6_years_0 3 rfl) rfl 2 rfl ?_
  refine J_iconst (v := 0) E (jd dk_X6_years_0 4 rfl) rfl ?_
  refine J_bipush (v := 60) E (jd dk_X6_years_0 5 rfl) (by decide) ?_
  obtain ⟨r57, e58, hf⟩ := jbind hf
  obtain ⟨r57a, r57b⟩ := r57
  refine J_callSX E (jd dk_X6_years_0 6 rfl) ml_RX6_216 cal_X6_needSteps (lk_X6_needSteps (jE_g E) (jE_tr E) N e58) rfl (Nat.le_of_ble_eq_true rfl) (jR_le hX (by decide) (by decide)) (jFx hX (by decide) (by decide)) rfl ?_ ?_
  rotate_left
  · rintro _ _ ⟨k9, rfl, rfl, rfl⟩
    replace hf := Option.some.inj hf
    subst hf
    exact J_out E htab (by decide) (by decide) ⟨_, rfl, rfl, rfl⟩
  rintro _ _ ⟨rfl, rfl, rfl⟩
  replace hf : _ = some _ := hf
  refine J_aload_n E (jd dk_X6_years_0 7 rfl) rfl 0 rfl ?_
  obtain ⟨u62, e63, hf⟩ := jbind hf
  obtain ⟨r60, e61, hf⟩ := jbind hf
  refine J_callV E (jd dk_X6_years_0 8 rfl) ml_RX6_223 cal_X6_tryFromNow e63 rfl (lk_X6_tryFromNow (jE_g E) (jE_tr E) N e61) rfl (Nat.le_of_ble_eq_true rfl) (jR_le hX (by decide) (by decide)) (jFx hX (by decide) (by decide)) rfl ?_
  rintro _ _ ⟨rfl, rfl⟩
  refine J_iload_n E (jd dk_X6_years_0 9 rfl) rfl 1 rfl ?_
  refine J_istore (lv' := [(4, .int a1), (0, .ref a0), (1, .int a1), (2, .int a2), (3, .int a3)]) E (jd dk_X6_years_0 10 rfl) (by decide) rfl ?_
  refine J_iconst (v := 0) E (jd dk_X6_years_0 11 rfl) rfl ?_
  refine J_istore (lv' := [(5, .int 0), (4, .int a1), (0, .ref a0), (1, .int a1), (2, .int a2), (3, .int a3)]) E (jd dk_X6_years_0 12 rfl) (by decide) rfl ?_
  refine J_sub [2, 4, 5, 1, 0] rfl ?_
  exact lk_X6_years_b22 E hX hr htab N hf
def f_X6_image (N : Nat) (h : AH) (a0 : Nat) : Option AH :=
  (jgr 6 h a0 6).bind fun x1 =>
  (jgr 6 h a0 5).bind fun x3 =>
  (jck 0 h x1).bind fun _ =>
  (f_X0_copyFrom N h x1 x3).bind fun r5 =>
  (jwz 6 r5 a0 7 1).bind fun h9 =>
  some h9
set_option maxRecDepth 100000 in
set_option maxHeartbeats 4000000 in
theorem lk_X6_image {G : JG} {l : Launch} (hG : jG G) (htr : l.stackTraces = false) (N : Nat) {h : AH} {a0 : Nat} {r : AH} (hf : f_X6_image N h a0 = some r) : jMet G l yX6_image cX6_image 1 none 3 0 0 [.ref a0] h (jpv r) := by
  unfold f_X6_image at hf
  refine jMet_of hG htr (by decide) (Nat.le_of_ble_eq_true rfl) ?_
  intro X E hl9 hr hX _ _
  show JW G X (RX6, cX6_image, 1) h [(0, .ref a0)] [] 0 0 0 (jEnd G X (jpv r) 0 0)
  refine J_aload_n E (jd dk_X6_image_0 0 rfl) rfl 0 rfl ?_
  obtain ⟨x1, e2, hf⟩ := jbind hf
  refine J_getr E (jd dk_X6_image_0 1 rfl) fl_RX6_41 e2 ?_
  refine J_aload_n E (jd dk_X6_image_0 2 rfl) rfl 0 rfl ?_
  obtain ⟨x3, e4, hf⟩ := jbind hf
  refine J_getr E (jd dk_X6_image_0 3 rfl) fl_RX6_37 e4 ?_
  obtain ⟨u7, e8, hf⟩ := jbind hf
  obtain ⟨r5, e6, hf⟩ := jbind hf
  refine J_callV E (jd dk_X6_image_0 4 rfl) ml_RX6_332 cal_X0_copyFrom e8 rfl (lk_X0_copyFrom (jE_g E) (jE_tr E) N e6) rfl (Nat.le_of_ble_eq_true rfl) (jR_le hX (by decide) (by decide)) (jF0 hX) rfl ?_
  rintro _ _ ⟨rfl, rfl⟩
  refine J_aload_n E (jd dk_X6_image_0 5 rfl) rfl 0 rfl ?_
  refine J_iconst (v := 1) E (jd dk_X6_image_0 6 rfl) rfl ?_
  obtain ⟨h9, e10, hf⟩ := jbind hf
  refine J_putz E (jd dk_X6_image_0 7 rfl) fl_RX6_44 e10 ?_
  cases hf
  exact J_vret E hr (jd dk_X6_image_0 8 rfl) (Nat.le_refl _) (Nat.le_refl _) ⟨rfl, rfl⟩
def f_X6_restore (N : Nat) (h : AH) (a0 : Nat) : Option (Int32 × AH) :=
  (jgi 6 h a0 7).bind fun x1 =>
  if x1 = 0 then some (0, h)
  else (jgr 6 h a0 5).bind fun x4 =>
  (jgr 6 h a0 6).bind fun x6 =>
  (jck 0 h x4).bind fun _ =>
  (f_X0_copyFrom N h x4 x6).bind fun r8 =>
  some (1, r8)
set_option maxRecDepth 100000 in
set_option maxHeartbeats 4000000 in
theorem lk_X6_restore {G : JG} {l : Launch} (hG : jG G) (htr : l.stackTraces = false) (N : Nat) {h : AH} {a0 : Nat} {r : (Int32 × AH)} (hf : f_X6_restore N h a0 = some r) : jMet G l yX6_restore cX6_restore 1 (some .boolean) 3 0 0 [.ref a0] h (jpi r) := by
  unfold f_X6_restore at hf
  refine jMet_of hG htr (by decide) (Nat.le_of_ble_eq_true rfl) ?_
  intro X E hl9 hr hX _ _
  show JW G X (RX6, cX6_restore, 1) h [(0, .ref a0)] [] 0 0 0 (jEnd G X (jpi r) 0 0)
  refine J_aload_n E (jd dk_X6_restore_0 0 rfl) rfl 0 rfl ?_
  obtain ⟨x1, e2, hf⟩ := jbind hf
  refine J_geti E (jd dk_X6_restore_0 1 rfl) fl_RX6_44 e2 ?_
  refine J_if_ne (tgt := 9) E (jd dk_X6_restore_0 2 rfl) (by decide) (fun c3 => ?_) (fun c3 => ?_)
  · replace hf := jif_f c3 hf
    refine J_aload_n E (jd dk_X6_restore_0 5 rfl) rfl 0 rfl ?_
    obtain ⟨x4, e5, hf⟩ := jbind hf
    refine J_getr E (jd dk_X6_restore_0 6 rfl) fl_RX6_37 e5 ?_
    refine J_aload_n E (jd dk_X6_restore_0 7 rfl) rfl 0 rfl ?_
    obtain ⟨x6, e7, hf⟩ := jbind hf
    refine J_getr E (jd dk_X6_restore_0 8 rfl) fl_RX6_41 e7 ?_
    obtain ⟨u10, e11, hf⟩ := jbind hf
    obtain ⟨r8, e9, hf⟩ := jbind hf
    refine J_callV E (jd dk_X6_restore_0 9 rfl) ml_RX6_332 cal_X0_copyFrom e11 rfl (lk_X0_copyFrom (jE_g E) (jE_tr E) N e9) rfl (Nat.le_of_ble_eq_true rfl) (jR_le hX (by decide) (by decide)) (jF0 hX) rfl ?_
    rintro _ _ ⟨rfl, rfl⟩
    refine J_iconst (v := 1) E (jd dk_X6_restore_0 10 rfl) rfl ?_
    cases hf
    exact J_iret E hr rfl (jd dk_X6_restore_0 11 rfl) (Nat.le_refl _) (Nat.le_refl _) ⟨rfl, rfl⟩
  · replace hf := jif_t c3 hf
    refine J_iconst (v := 0) E (jd dk_X6_restore_0 3 rfl) rfl ?_
    cases hf
    exact J_iret E hr rfl (jd dk_X6_restore_0 4 rfl) (Nat.le_refl _) (Nat.le_refl _) ⟨rfl, rfl⟩
