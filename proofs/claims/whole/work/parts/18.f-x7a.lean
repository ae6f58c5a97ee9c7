def f_X7_thrown (N : Nat) (h : AH) (a0 : Nat) : Option (Int32 × AH) :=
  (jgi 7 h a0 4).bind fun x1 =>
  some (x1, h)
set_option maxRecDepth 100000 in
set_option maxHeartbeats 4000000 in
theorem lk_X7_thrown {G : JG} {l : Launch} (hG : jG G) (htr : l.stackTraces = false) (N : Nat) {h : AH} {a0 : Nat} {r : (Int32 × AH)} (hf : f_X7_thrown N h a0 = some r) : jMet G l yX7_thrown cX7_thrown 1 (some .int) 0 0 0 [.ref a0] h (jpi r) := by
  unfold f_X7_thrown at hf
  refine jMet_of hG htr (by decide) (Nat.le_of_ble_eq_true rfl) ?_
  intro X E hl9 hr hX _ _
  show JW G X (RX7, cX7_thrown, 1) h [(0, .ref a0)] [] 0 0 0 (jEnd G X (jpi r) 0 0)
  refine J_aload_n E (jd dk_X7_thrown_0 0 rfl) rfl 0 rfl ?_
  obtain ⟨x1, e2, hf⟩ := jbind hf
  refine J_geti E (jd dk_X7_thrown_0 1 rfl) fl_RX7_151 e2 ?_
  cases hf
  exact J_iret E hr rfl (jd dk_X7_thrown_0 2 rfl) (Nat.le_refl _) (Nat.le_refl _) ⟨rfl, rfl⟩
def f_X7_fail (N : Nat) (h : AH) (a0 : Nat) (a1 : Int32) : Option (Int32 × AH) :=
  (jwi 7 h a0 4 a1).bind fun h1 =>
  some (0, h1)
set_option maxRecDepth 100000 in
set_option maxHeartbeats 4000000 in
theorem lk_X7_fail {G : JG} {l : Launch} (hG : jG G) (htr : l.stackTraces = false) (N : Nat) {h : AH} {a0 : Nat} {a1 : Int32} {r : (Int32 × AH)} (hf : f_X7_fail N h a0 a1 = some r) : jMet G l yX7_fail cX7_fail 2 (some .int) 0 0 0 [.ref a0, .int a1] h (jpi r) := by
  unfold f_X7_fail at hf
  refine jMet_of hG htr (by decide) (Nat.le_of_ble_eq_true rfl) ?_
  intro X E hl9 hr hX _ _
  show JW G X (RX7, cX7_fail, 2) h [(0, .ref a0), (1, .int a1)] [] 0 0 0 (jEnd G X (jpi r) 0 0)
  refine J_aload_n E (jd dk_X7_fail_0 0 rfl) rfl 0 rfl ?_
  refine J_iload_n E (jd dk_X7_fail_0 1 rfl) rfl 1 rfl ?_
  obtain ⟨h1, e2, hf⟩ := jbind hf
  refine J_put E (jd dk_X7_fail_0 2 rfl) fl_RX7_151 e2 (fun _ => rfl) (fun _ => rfl) ?_
  refine J_iconst (v := 0) E (jd dk_X7_fail_0 3 rfl) rfl ?_
  cases hf
  exact J_iret E hr rfl (jd dk_X7_fail_0 4 rfl) (Nat.le_refl _) (Nat.le_refl _) ⟨rfl, rfl⟩
def f_X7_isIn_b17 (N : Nat)  (h : AH) : Option (Int32 × AH) :=
  some (0, h)
def f_X7_isIn (N : Nat) (h : AH) (a0 : Int64) (a1 : Int64) (a2 : Int64) : Option (Int32 × AH) :=
  if (lg_cmp a0 a1) < 0 then f_X7_isIn_b17 N  h
  else if 0 < (lg_cmp a0 a2) then f_X7_isIn_b17 N  h
  else some (1, h)
set_option maxRecDepth 100000 in
set_option maxHeartbeats 4000000 in
theorem lk_X7_isIn_b17 {G : JG} {X : JX} (E : jE G X (RX7, cX7_isIn, 6)) (hX : X.2.2.2.1 = jRm 0 0 0) (hr : X.2.2.2.2.2.2.2.2.1.sig.returnType = (some .boolean)) (N : Nat)  {h : AH}  {r : (Int32 × AH)} (hf : f_X7_isIn_b17 N  h = some r) : JW G X (RX7, cX7_isIn, 6) h [] [] 17 0 0 (jEnd G X (jpi r) 0 0) := by
  unfold f_X7_isIn_b17 at hf
  refine J_iconst (v := 0) E (jd dk_X7_isIn_0 10 rfl) rfl ?_
  cases hf
  exact J_iret E hr rfl (jd dk_X7_isIn_0 11 rfl) (Nat.le_refl _) (Nat.le_refl _) ⟨rfl, rfl⟩
set_option maxRecDepth 100000 in
set_option maxHeartbeats 4000000 in
theorem lk_X7_isIn {G : JG} {l : Launch} (hG : jG G) (htr : l.stackTraces = false) (N : Nat) {h : AH} {a0 : Int64} {a1 : Int64} {a2 : Int64} {r : (Int32 × AH)} (hf : f_X7_isIn N h a0 a1 a2 = some r) : jMet G l yX7_isIn cX7_isIn 6 (some .boolean) 0 0 0 [.long a0, .long a1, .long a2] h (jpi r) := by
  unfold f_X7_isIn at hf
  refine jMet_of hG htr (by decide) (Nat.le_of_ble_eq_true rfl) ?_
  intro X E hl9 hr hX _ _
  show JW G X (RX7, cX7_isIn, 6) h [(0, .long a0), (2, .long a1), (4, .long a2)] [] 0 0 0 (jEnd G X (jpi r) 0 0)
  refine J_lload_n E (jd dk_X7_isIn_0 0 rfl) rfl 0 rfl ?_
  refine J_lload_n E (jd dk_X7_isIn_0 1 rfl) rfl 1 rfl ?_
  refine J_lcmp E (jd dk_X7_isIn_0 2 rfl) ?_
  refine J_if_lt (tgt := 17) E (jd dk_X7_isIn_0 3 rfl) (by decide) (fun c1 => ?_) (fun c1 => ?_)
  · replace hf := jif_t c1 hf
    refine J_sub [] rfl ?_
    exact lk_X7_isIn_b17 E hX hr N hf
  · replace hf := jif_f c1 hf
    refine J_lload_n E (jd dk_X7_isIn_0 4 rfl) rfl 0 rfl ?_
    refine J_lload E (jd dk_X7_isIn_0 5 rfl) 2 rfl ?_
    refine J_lcmp E (jd dk_X7_isIn_0 6 rfl) ?_
    refine J_if_gt (tgt := 17) E (jd dk_X7_isIn_0 7 rfl) (by decide) (fun c2 => ?_) (fun c2 => ?_)
    · replace hf := jif_t c2 hf
      refine J_sub [] rfl ?_
      exact lk_X7_isIn_b17 E hX hr N hf
    · replace hf := jif_f c2 hf
      refine J_iconst (v := 1) E (jd dk_X7_isIn_0 8 rfl) rfl ?_
      refine J_goto (tgt := 18) E (jd dk_X7_isIn_0 9 rfl) (by decide) ?_
      cases hf
      exact J_iret E hr rfl (jd dk_X7_isIn_0 11 rfl) (Nat.le_refl _) (Nat.le_refl _) ⟨rfl, rfl⟩
def f_X7_isOf (N : Nat) (h : AH) (a0 : Int32) (a1 : Int32) : Option (Int32 × AH) :=
  if ((a0 >>> (a1 &&& 31)) &&& 1) = 1 then some (1, h)
  else some (0, h)
set_option maxRecDepth 100000 in
set_option maxHeartbeats 4000000 in
theorem lk_X7_isOf {G : JG} {l : Launch} (hG : jG G) (htr : l.stackTraces = false) (N : Nat) {h : AH} {a0 : Int32} {a1 : Int32} {r : (Int32 × AH)} (hf : f_X7_isOf N h a0 a1 = some r) : jMet G l yX7_isOf cX7_isOf 2 (some .boolean) 0 0 0 [.int a0, .int a1] h (jpi r) := by
  unfold f_X7_isOf at hf
  refine jMet_of hG htr (by decide) (Nat.le_of_ble_eq_true rfl) ?_
  intro X E hl9 hr hX _ _
  show JW G X (RX7, cX7_isOf, 2) h [(0, .int a0), (1, .int a1)] [] 0 0 0 (jEnd G X (jpi r) 0 0)
  refine J_iload_n E (jd dk_X7_isOf_0 0 rfl) rfl 0 rfl ?_
  refine J_iload_n E (jd dk_X7_isOf_0 1 rfl) rfl 1 rfl ?_
  refine J_ishr E (jd dk_X7_isOf_0 2 rfl) ?_
  refine J_iconst (v := 1) E (jd dk_X7_isOf_0 3 rfl) rfl ?_
  refine J_iand E (jd dk_X7_isOf_0 4 rfl) ?_
  refine J_iconst (v := 1) E (jd dk_X7_isOf_0 5 rfl) rfl ?_
  refine J_icmp_ne (tgt := 13) E (jd dk_X7_isOf_0 6 rfl) (by decide) (fun c1 => ?_) (fun c1 => ?_)
  · replace hf := jif_f c1 hf
    refine J_iconst (v := 0) E (jd dk_X7_isOf_0 9 rfl) rfl ?_
    cases hf
    exact J_iret E hr rfl (jd dk_X7_isOf_0 10 rfl) (Nat.le_refl _) (Nat.le_refl _) ⟨rfl, rfl⟩
  · replace hf := jif_t c1 hf
    refine J_iconst (v := 1) E (jd dk_X7_isOf_0 7 rfl) rfl ?_
    refine J_goto (tgt := 14) E (jd dk_X7_isOf_0 8 rfl) (by decide) ?_
    cases hf
    exact J_iret E hr rfl (jd dk_X7_isOf_0 10 rfl) (Nat.le_refl _) (Nat.le_refl _) ⟨rfl, rfl⟩
def f_X7_bitsOf_l4 (N : Nat)  (v1 : Int32) (v2 : Int32) (h : AH) : Option ((Int32 × Int32 × AH) ⊕ ((Int32 × AH))) :=
  if v2 = 0 then some (.inr ((v1, h)))
  else some (.inl ((v1 + 1, v2 &&& (v2 - 1), h)))
def f_X7_bitsOf_b4 (N : Nat) (v1 : Int32) (v2 : Int32) (h : AH) : Option (Int32 × AH) :=
  (itr (fun s => f_X7_bitsOf_l4 N  s.1 s.2.1 s.2.2) N (v1, v2, h)).bind (fun e => some (e.1, e.2))
def f_X7_bitsOf (N : Nat) (h : AH) (a0 : Int32) : Option (Int32 × AH) :=
  f_X7_bitsOf_b4 N 0 a0 h
set_option maxRecDepth 100000 in
set_option maxHeartbeats 4000000 in
theorem lk_X7_bitsOf_l4 {G : JG} {X : JX} (E : jE G X (RX7, cX7_bitsOf, 3)) (hX : X.2.2.2.1 = jRm 0 0 0) (hr : X.2.2.2.2.2.2.2.2.1.sig.returnType = (some .int)) (N : Nat) {Q : State → Prop}  {v1 : Int32} {v2 : Int32}  {h : AH} {q : ((Int32 × Int32 × AH) ⊕ ((Int32 × AH)))} (hf : f_X7_bitsOf_l4 N v1 v2 h = some q) (kb : ∀ s' : Int32 × Int32 × AH, q = .inl s' → JW G X (RX7, cX7_bitsOf, 3) s'.2.2 [(1, .int s'.1), (2, .int s'.2.1)] [] 4 0 0 Q) (ke0 : ∀ e : Int32 × AH, q = .inr e → JW G X (RX7, cX7_bitsOf, 3) e.2 [(1, .int e.1)] [] 20 0 0 Q) : JW G X (RX7, cX7_bitsOf, 3) h [(1, .int v1), (2, .int v2)] [] 4 0 0 Q := by
  unfold f_X7_bitsOf_l4 at hf
  refine J_iload_n E (jd dk_X7_bitsOf_0 4 rfl) rfl 1 rfl ?_
  refine J_if_eq (tgt := 20) E (jd dk_X7_bitsOf_0 5 rfl) (by decide) (fun c1 => ?_) (fun c1 => ?_)
  · replace hf := jif_t c1 hf
    refine J_sub [0] rfl ?_
    exact ke0 _ (Option.some.inj hf).symm
  · replace hf := jif_f c1 hf
    refine J_iinc (v := v1 + 1) (lv' := [(1, .int (v1 + 1)), (2, .int v2)]) E (jd dk_X7_bitsOf_0 6 rfl) 0 rfl rfl (by decide) rfl ?_
    refine J_iload_n E (jd dk_X7_bitsOf_0 7 rfl) rfl 1 rfl ?_
    refine J_iload_n E (jd dk_X7_bitsOf_0 8 rfl) rfl 1 rfl ?_
    refine J_iconst (v := 1) E (jd dk_X7_bitsOf_0 9 rfl) rfl ?_
    refine J_isub E (jd dk_X7_bitsOf_0 10 rfl) ?_
    refine J_iand E (jd dk_X7_bitsOf_0 11 rfl) ?_
    refine J_istore_n (lv' := [(2, .int (v2 &&& (v2 - 1))), (1, .int (v1 + 1))]) E (jd dk_X7_bitsOf_0 12 rfl) rfl (by decide) rfl ?_
    refine J_goto (tgt := 4) E (jd dk_X7_bitsOf_0 13 rfl) (by decide) ?_
    refine J_sub [1, 0] rfl ?_
    exact kb _ (Option.some.inj hf).symm
set_option maxRecDepth 100000 in
set_option maxHeartbeats 4000000 in
theorem lk_X7_bitsOf_b4 {G : JG} {X : JX} (E : jE G X (RX7, cX7_bitsOf, 3)) (hX : X.2.2.2.1 = jRm 0 0 0) (hr : X.2.2.2.2.2.2.2.2.1.sig.returnType = (some .int)) (N : Nat) {v1 : Int32} {v2 : Int32} {h : AH}  {r : (Int32 × AH)} (hf : f_X7_bitsOf_b4 N v1 v2 h = some r) : JW G X (RX7, cX7_bitsOf, 3) h [(1, .int v1), (2, .int v2)] [] 4 0 0 (jEnd G X (jpi r) 0 0) := by
  unfold f_X7_bitsOf_b4 at hf
  obtain ⟨q1, h1, hf⟩ := jbind hf
  refine jloop (P := fun s => JW G X (RX7, cX7_bitsOf, 3) s.2.2 [(1, .int s.1), (2, .int s.2.1)] [] 4 0 0 (jEnd G X (jpi r) 0 0)) (Ex := fun (e : Int32 × AH) => JW G X (RX7, cX7_bitsOf, 3) e.2 [(1, .int e.1)] [] 20 0 0 (jEnd G X (jpi r) 0 0)) (fun s q hs hb hx => lk_X7_bitsOf_l4 E hX hr N hs (fun s' hs => hb s' hs) (fun e he => hx e he)) N _ q1 h1 ?_
  generalize q1 = e at hf ⊢
  refine J_iload_n E (jd dk_X7_bitsOf_0 14 rfl) rfl 0 rfl ?_
  cases hf
  exact J_iret E hr rfl (jd dk_X7_bitsOf_0 15 rfl) (Nat.le_refl _) (Nat.le_refl _) ⟨rfl, rfl⟩
set_option maxRecDepth 100000 in
set_option maxHeartbeats 4000000 in
theorem lk_X7_bitsOf {G : JG} {l : Launch} (hG : jG G) (htr : l.stackTraces = false) (N : Nat) {h : AH} {a0 : Int32} {r : (Int32 × AH)} (hf : f_X7_bitsOf N h a0 = some r) : jMet G l yX7_bitsOf cX7_bitsOf 3 (some .int) 0 0 0 [.int a0] h (jpi r) := by
  unfold f_X7_bitsOf at hf
  refine jMet_of hG htr (by decide) (Nat.le_of_ble_eq_true rfl) ?_
  intro X E hl9 hr hX _ _
  show JW G X (RX7, cX7_bitsOf, 3) h [(0, .int a0)] [] 0 0 0 (jEnd G X (jpi r) 0 0)
  refine J_iconst (v := 0) E (jd dk_X7_bitsOf_0 0 rfl) rfl ?_
  refine J_istore_n (lv' := [(1, .int 0), (0, .int a0)]) E (jd dk_X7_bitsOf_0 1 rfl) rfl (by decide) rfl ?_
  refine J_iload_n E (jd dk_X7_bitsOf_0 2 rfl) rfl 1 rfl ?_
  refine J_istore_n (lv' := [(2, .int a0), (1, .int 0), (0, .int a0)]) E (jd dk_X7_bitsOf_0 3 rfl) rfl (by decide) rfl ?_
  refine J_sub [1, 0] rfl ?_
  exact lk_X7_bitsOf_b4 E hX hr N hf
def f_X7_isSide (N : Nat) (h : AH) (a0 : Nat) (a1 : Int32) : Option (Int32 × AH) :=
  (jgr 7 h a0 5).bind fun x1 =>
  (jal 0 h x1 0).bind fun x3 =>
  (f_X7_isIn N h (Int32.toInt64 a1) 0 (Int32.toInt64 (x3 - 1))).bind fun r5 =>
  if narrow .boolean (.int r5.1) = .int r5.1 then some (r5.1, r5.2) else none
set_option maxRecDepth 100000 in
set_option maxHeartbeats 4000000 in
theorem lk_X7_isSide {G : JG} {l : Launch} (hG : jG G) (htr : l.stackTraces = false) (N : Nat) {h : AH} {a0 : Nat} {a1 : Int32} {r : (Int32 × AH)} (hf : f_X7_isSide N h a0 a1 = some r) : jMet G l yX7_isSide cX7_isSide 2 (some .boolean) 1 0 0 [.ref a0, .int a1] h (jpi r) := by
  unfold f_X7_isSide at hf
  refine jMet_of hG htr (by decide) (Nat.le_of_ble_eq_true rfl) ?_
  intro X E hl9 hr hX _ _
  show JW G X (RX7, cX7_isSide, 2) h [(0, .ref a0), (1, .int a1)] [] 0 0 0 (jEnd G X (jpi r) 0 0)
  refine J_iload_n E (jd dk_X7_isSide_0 0 rfl) rfl 1 rfl ?_
  refine J_i2l E (jd dk_X7_isSide_0 1 rfl) ?_
  refine J_lconst (v := 0) E (jd dk_X7_isSide_0 2 rfl) (by decide) ?_
  refine J_aload_n E (jd dk_X7_isSide_0 3 rfl) rfl 0 rfl ?_
  obtain ⟨x1, e2, hf⟩ := jbind hf
  refine J_getr E (jd dk_X7_isSide_0 4 rfl) fl_RX7_42 e2 ?_
  refine J_iconst (v := 0) E (jd dk_X7_isSide_0 5 rfl) rfl ?_
  obtain ⟨x3, e4, hf⟩ := jbind hf
  refine J_iald E (jd dk_X7_isSide_0 6 rfl) e4 ?_
  refine J_iconst (v := 1) E (jd dk_X7_isSide_0 7 rfl) rfl ?_
  refine J_isub E (jd dk_X7_isSide_0 8 rfl) ?_
  refine J_i2l E (jd dk_X7_isSide_0 9 rfl) ?_
  obtain ⟨r5, e6, hf⟩ := jbind hf
  refine J_callS E (jd dk_X7_isSide_0 10 rfl) ml_RX7_154 cal_X7_isIn (lk_X7_isIn (jE_g E) (jE_tr E) N e6) rfl (Nat.le_of_ble_eq_true rfl) (jR_le hX (by decide) (by decide)) (jF0 hX) rfl ?_
  rintro _ _ ⟨rfl, rfl⟩
  obtain ⟨n7, hf⟩ := jnw hf
  cases hf
  exact J_iret E hr n7 (jd dk_X7_isSide_0 11 rfl) (Nat.le_refl _) (Nat.le_refl _) ⟨rfl, rfl⟩
def f_X7_isReach (N : Nat) (h : AH) (a0 : Nat) (a1 : Int32) : Option (Int32 × AH) :=
  (jgr 7 h a0 5).bind fun x1 =>
  (jal 0 h x1 1).bind fun x3 =>
  (f_X7_isIn N h (Int32.toInt64 a1) 0 (Int32.toInt64 (x3 - 1))).bind fun r5 =>
  if narrow .boolean (.int r5.1) = .int r5.1 then some (r5.1, r5.2) else none
set_option maxRecDepth 100000 in
set_option maxHeartbeats 4000000 in
theorem lk_X7_isReach {G : JG} {l : Launch} (hG : jG G) (htr : l.stackTraces = false) (N : Nat) {h : AH} {a0 : Nat} {a1 : Int32} {r : (Int32 × AH)} (hf : f_X7_isReach N h a0 a1 = some r) : jMet G l yX7_isReach cX7_isReach 2 (some .boolean) 1 0 0 [.ref a0, .int a1] h (jpi r) := by
  unfold f_X7_isReach at hf
  refine jMet_of hG htr (by decide) (Nat.le_of_ble_eq_true rfl) ?_
  intro X E hl9 hr hX _ _
  show JW G X (RX7, cX7_isReach, 2) h [(0, .ref a0), (1, .int a1)] [] 0 0 0 (jEnd G X (jpi r) 0 0)
  refine J_iload_n E (jd dk_X7_isReach_0 0 rfl) rfl 1 rfl ?_
  refine J_i2l E (jd dk_X7_isReach_0 1 rfl) ?_
  refine J_lconst (v := 0) E (jd dk_X7_isReach_0 2 rfl) (by decide) ?_
  refine J_aload_n E (jd dk_X7_isReach_0 3 rfl) rfl 0 rfl ?_
  obtain ⟨x1, e2, hf⟩ := jbind hf
  refine J_getr E (jd dk_X7_isReach_0 4 rfl) fl_RX7_42 e2 ?_
  refine J_iconst (v := 1) E (jd dk_X7_isReach_0 5 rfl) rfl ?_
  obtain ⟨x3, e4, hf⟩ := jbind hf
  refine J_iald E (jd dk_X7_isReach_0 6 rfl) e4 ?_
  refine J_iconst (v := 1) E (jd dk_X7_isReach_0 7 rfl) rfl ?_
  refine J_isub E (jd dk_X7_isReach_0 8 rfl) ?_
  refine J_i2l E (jd dk_X7_isReach_0 9 rfl) ?_
  obtain ⟨r5, e6, hf⟩ := jbind hf
  refine J_callS E (jd dk_X7_isReach_0 10 rfl) ml_RX7_154 cal_X7_isIn (lk_X7_isIn (jE_g E) (jE_tr E) N e6) rfl (Nat.le_of_ble_eq_true rfl) (jR_le hX (by decide) (by decide)) (jF0 hX) rfl ?_
  rintro _ _ ⟨rfl, rfl⟩
  obtain ⟨n7, hf⟩ := jnw hf
  cases hf
  exact J_iret E hr n7 (jd dk_X7_isReach_0 11 rfl) (Nat.le_refl _) (Nat.le_refl _) ⟨rfl, rfl⟩
def f_X7_isJudge (N : Nat) (h : AH) (a0 : Nat) (a1 : Int32) : Option (Int32 × AH) :=
  (jgr 7 h a0 5).bind fun x1 =>
  (jal 0 h x1 2).bind fun x3 =>
  (f_X7_isIn N h (Int32.toInt64 a1) 0 (Int32.toInt64 (x3 - 1))).bind fun r5 =>
  if narrow .boolean (.int r5.1) = .int r5.1 then some (r5.1, r5.2) else none
set_option maxRecDepth 100000 in
set_option maxHeartbeats 4000000 in
theorem lk_X7_isJudge {G : JG} {l : Launch} (hG : jG G) (htr : l.stackTraces = false) (N : Nat) {h : AH} {a0 : Nat} {a1 : Int32} {r : (Int32 × AH)} (hf : f_X7_isJudge N h a0 a1 = some r) : jMet G l yX7_isJudge cX7_isJudge 2 (some .boolean) 1 0 0 [.ref a0, .int a1] h (jpi r) := by
  unfold f_X7_isJudge at hf
  refine jMet_of hG htr (by decide) (Nat.le_of_ble_eq_true rfl) ?_
  intro X E hl9 hr hX _ _
  show JW G X (RX7, cX7_isJudge, 2) h [(0, .ref a0), (1, .int a1)] [] 0 0 0 (jEnd G X (jpi r) 0 0)
  refine J_iload_n E (jd dk_X7_isJudge_0 0 rfl) rfl 1 rfl ?_
  refine J_i2l E (jd dk_X7_isJudge_0 1 rfl) ?_
  refine J_lconst (v := 0) E (jd dk_X7_isJudge_0 2 rfl) (by decide) ?_
  refine J_aload_n E (jd dk_X7_isJudge_0 3 rfl) rfl 0 rfl ?_
  obtain ⟨x1, e2, hf⟩ := jbind hf
  refine J_getr E (jd dk_X7_isJudge_0 4 rfl) fl_RX7_42 e2 ?_
  refine J_iconst (v := 2) E (jd dk_X7_isJudge_0 5 rfl) rfl ?_
  obtain ⟨x3, e4, hf⟩ := jbind hf
  refine J_iald E (jd dk_X7_isJudge_0 6 rfl) e4 ?_
  refine J_iconst (v := 1) E (jd dk_X7_isJudge_0 7 rfl) rfl ?_
  refine J_isub E (jd dk_X7_isJudge_0 8 rfl) ?_
  refine J_i2l E (jd dk_X7_isJudge_0 9 rfl) ?_
  obtain ⟨r5, e6, hf⟩ := jbind hf
  refine J_callS E (jd dk_X7_isJudge_0 10 rfl) ml_RX7_154 cal_X7_isIn (lk_X7_isIn (jE_g E) (jE_tr E) N e6) rfl (Nat.le_of_ble_eq_true rfl) (jR_le hX (by decide) (by decide)) (jF0 hX) rfl ?_
  rintro _ _ ⟨rfl, rfl⟩
  obtain ⟨n7, hf⟩ := jnw hf
  cases hf
  exact J_iret E hr n7 (jd dk_X7_isJudge_0 11 rfl) (Nat.le_refl _) (Nat.le_refl _) ⟨rfl, rfl⟩
def f_X7_allSides (N : Nat) (h : AH) (a0 : Nat) : Option (Int32 × AH) :=
  (jgr 7 h a0 5).bind fun x1 =>
  (jal 0 h x1 0).bind fun x3 =>
  some (((1 : Int32) <<< (x3 &&& 31)) - 1, h)
set_option maxRecDepth 100000 in
set_option maxHeartbeats 4000000 in
theorem lk_X7_allSides {G : JG} {l : Launch} (hG : jG G) (htr : l.stackTraces = false) (N : Nat) {h : AH} {a0 : Nat} {r : (Int32 × AH)} (hf : f_X7_allSides N h a0 = some r) : jMet G l yX7_allSides cX7_allSides 1 (some .int) 0 0 0 [.ref a0] h (jpi r) := by
  unfold f_X7_allSides at hf
  refine jMet_of hG htr (by decide) (Nat.le_of_ble_eq_true rfl) ?_
  intro X E hl9 hr hX _ _
  show JW G X (RX7, cX7_allSides, 1) h [(0, .ref a0)] [] 0 0 0 (jEnd G X (jpi r) 0 0)
  refine J_iconst (v := 1) E (jd dk_X7_allSides_0 0 rfl) rfl ?_
  refine J_aload_n E (jd dk_X7_allSides_0 1 rfl) rfl 0 rfl ?_
  obtain ⟨x1, e2, hf⟩ := jbind hf
  refine J_getr E (jd dk_X7_allSides_0 2 rfl) fl_RX7_42 e2 ?_
  refine J_iconst (v := 0) E (jd dk_X7_allSides_0 3 rfl) rfl ?_
  obtain ⟨x3, e4, hf⟩ := jbind hf
  refine J_iald E (jd dk_X7_allSides_0 4 rfl) e4 ?_
  refine J_ishl E (jd dk_X7_allSides_0 5 rfl) ?_
  refine J_iconst (v := 1) E (jd dk_X7_allSides_0 6 rfl) rfl ?_
  refine J_isub E (jd dk_X7_allSides_0 7 rfl) ?_
  cases hf
  exact J_iret E hr rfl (jd dk_X7_allSides_0 8 rfl) (Nat.le_refl _) (Nat.le_refl _) ⟨rfl, rfl⟩
def f_X7_feed_b76 (N : Nat) (v0 : Nat) (v1 : Int32) (v2 : Int32) (v3 : Int32) (v4 : Int32) (v5 : Int32) (v6 : Int32) (w0 : Int32) (h : AH) : Option ((Int32 × AH) ⊕ ((AH))) :=
  (jgr 7 h v0 16).bind fun x1 =>
  (jgi 7 h v0 17).bind fun x3 =>
  (jas 0 h x1 x3 ((w0 >>> (((24 : Int32) - ((8 : Int32) * (v6 - v6 / 4 * 4))) &&& 31)) &&& 255)).bind fun h5 =>
  (jgi 7 h5 v0 17).bind fun x7 =>
  (jwi 7 h5 v0 17 (x7 + 1)).bind fun h9 =>
  some (.inl ((v6 + 1, h9)))
def f_X7_feed_l23 (N : Nat) (v0 : Nat) (v1 : Int32) (v2 : Int32) (v3 : Int32) (v4 : Int32) (v5 : Int32) (v6 : Int32) (h : AH) : Option ((Int32 × AH) ⊕ ((AH))) :=
  if 20 ≤ v6 then some (.inr h)
  else if 4 ≤ v6 then if 8 ≤ v6 then if 12 ≤ v6 then if 16 ≤ v6 then f_X7_feed_b76 N v0 v1 v2 v3 v4 v5 v6 v5 h
  else f_X7_feed_b76 N v0 v1 v2 v3 v4 v5 v6 v4 h
  else f_X7_feed_b76 N v0 v1 v2 v3 v4 v5 v6 v3 h
  else f_X7_feed_b76 N v0 v1 v2 v3 v4 v5 v6 v2 h
  else f_X7_feed_b76 N v0 v1 v2 v3 v4 v5 v6 v1 h
def f_X7_feed_b23 (N : Nat) (v0 : Nat) (v1 : Int32) (v2 : Int32) (v3 : Int32) (v4 : Int32) (v5 : Int32) (v6 : Int32) (h : AH) : Option (Int32 × AH) :=
  (itr (fun s => f_X7_feed_l23 N v0 v1 v2 v3 v4 v5 s.1 s.2) N (v6, h)).bind (fun e => (jgi 7 e v0 17).bind fun x16 =>
  some (x16, e))
def f_X7_feed (N : Nat) (h : AH) (a0 : Nat) (a1 : Int32) (a2 : Int32) (a3 : Int32) (a4 : Int32) (a5 : Int32) : Option (Int32 × AH) :=
  (jwi 7 h a0 4 0).bind fun h18 =>
  (jgi 7 h18 a0 17).bind fun x20 =>
  if (x20 + 20) ≤ 700 then f_X7_feed_b23 N a0 a1 a2 a3 a4 a5 0 h18
  else some ((-1), h18)
set_option maxRecDepth 100000 in
set_option maxHeartbeats 4000000 in
theorem lk_X7_feed_b76 {G : JG} {X : JX} (E : jE G X (RX7, cX7_feed, 8)) (hX : X.2.2.2.1 = jRm 0 0 0) (hr : X.2.2.2.2.2.2.2.2.1.sig.returnType = (some .int)) (N : Nat) {Q : State → Prop} {v0 : Nat} {v1 : Int32} {v2 : Int32} {v3 : Int32} {v4 : Int32} {v5 : Int32} {v6 : Int32} {w0 : Int32} {h : AH}  {q : ((Int32 × AH) ⊕ ((AH)))} (hf : f_X7_feed_b76 N v0 v1 v2 v3 v4 v5 v6 w0 h = some q) (kb : ∀ s' : Int32 × AH, q = .inl s' → JW G X (RX7, cX7_feed, 8) s'.2 [(0, .ref v0), (1, .int v1), (2, .int v2), (3, .int v3), (4, .int v4), (5, .int v5), (6, .int s'.1)] [] 23 0 0 Q) (ke0 : ∀ e : AH, q = .inr e → JW G X (RX7, cX7_feed, 8) e [(0, .ref v0)] [] 120 0 0 Q) : JW G X (RX7, cX7_feed, 8) h [(0, .ref v0), (1, .int v1), (2, .int v2), (3, .int v3), (4, .int v4), (5, .int v5), (6, .int v6)] [.int w0] 76 0 0 Q := by
  unfold f_X7_feed_b76 at hf
  refine J_istore (lv' := [(7, .int w0), (0, .ref v0), (1, .int v1), (2, .int v2), (3, .int v3), (4, .int v4), (5, .int v5), (6, .int v6)]) E (jd dk_X7_feed_0 37 rfl) (by decide) rfl ?_
  refine J_aload_n E (jd dk_X7_feed_0 38 rfl) rfl 1 rfl ?_
  obtain ⟨x1, e2, hf⟩ := jbind hf
  refine J_getr E (jd dk_X7_feed_0 39 rfl) fl_RX7_74 e2 ?_
  refine J_aload_n E (jd dk_X7_feed_0 40 rfl) rfl 1 rfl ?_
  obtain ⟨x3, e4, hf⟩ := jbind hf
  refine J_geti E (jd dk_X7_feed_0 41 rfl) fl_RX7_158 e4 ?_
  refine J_iload E (jd dk_X7_feed_0 42 rfl) 0 rfl ?_
  refine J_bipush (v := 24) E (jd dk_X7_feed_0 43 rfl) (by decide) ?_
  refine J_bipush (v := 8) E (jd dk_X7_feed_0 44 rfl) (by decide) ?_
  refine J_iload E (jd dk_X7_feed_0 45 rfl) 7 rfl ?_
  refine J_iconst (v := 4) E (jd dk_X7_feed_0 46 rfl) rfl ?_
  refine J_irem E (jd dk_X7_feed_0 47 rfl) (by decide) ?_
  refine J_imul E (jd dk_X7_feed_0 48 rfl) ?_
  refine J_isub E (jd dk_X7_feed_0 49 rfl) ?_
  refine J_ishr E (jd dk_X7_feed_1 0 rfl) ?_
  refine J_sipush (v := 255) E (jd dk_X7_feed_1 1 rfl) (by decide) ?_
  refine J_iand E (jd dk_X7_feed_1 2 rfl) ?_
  obtain ⟨h5, e6, hf⟩ := jbind hf
  refine J_iast E (jd dk_X7_feed_1 3 rfl) e6 ?_
  refine J_aload_n E (jd dk_X7_feed_1 4 rfl) rfl 1 rfl ?_
  refine J_dup E (jd dk_X7_feed_1 5 rfl) rfl ?_
  obtain ⟨x7, e8, hf⟩ := jbind hf
  refine J_geti E (jd dk_X7_feed_1 6 rfl) fl_RX7_158 e8 ?_
  refine J_iconst (v := 1) E (jd dk_X7_feed_1 7 rfl) rfl ?_
  refine J_iadd E (jd dk_X7_feed_1 8 rfl) ?_
  obtain ⟨h9, e10, hf⟩ := jbind hf
  refine J_put E (jd dk_X7_feed_1 9 rfl) fl_RX7_158 e10 (fun _ => rfl) (fun _ => rfl) ?_
  refine J_iinc (v := v6 + 1) (lv' := [(6, .int (v6 + 1)), (7, .int w0), (0, .ref v0), (1, .int v1), (2, .int v2), (3, .int v3), (4, .int v4), (5, .int v5)]) E (jd dk_X7_feed_1 10 rfl) 7 rfl rfl (by decide) rfl ?_
  refine J_goto (tgt := 23) E (jd dk_X7_feed_1 11 rfl) (by decide) ?_
  refine J_sub [2, 3, 4, 5, 6, 7, 0] rfl ?_
  exact kb _ (Option.some.inj hf).symm
set_option maxRecDepth 100000 in
set_option maxHeartbeats 4000000 in
theorem lk_X7_feed_l23 {G : JG} {X : JX} (E : jE G X (RX7, cX7_feed, 8)) (hX : X.2.2.2.1 = jRm 0 0 0) (hr : X.2.2.2.2.2.2.2.2.1.sig.returnType = (some .int)) (N : Nat) {Q : State → Prop} {v0 : Nat} {v1 : Int32} {v2 : Int32} {v3 : Int32} {v4 : Int32} {v5 : Int32} {v6 : Int32}  {h : AH} {q : ((Int32 × AH) ⊕ ((AH)))} (hf : f_X7_feed_l23 N v0 v1 v2 v3 v4 v5 v6 h = some q) (kb : ∀ s' : Int32 × AH, q = .inl s' → JW G X (RX7, cX7_feed, 8) s'.2 [(0, .ref v0), (1, .int v1), (2, .int v2), (3, .int v3), (4, .int v4), (5, .int v5), (6, .int s'.1)] [] 23 0 0 Q) (ke0 : ∀ e : AH, q = .inr e → JW G X (RX7, cX7_feed, 8) e [(0, .ref v0)] [] 120 0 0 Q) : JW G X (RX7, cX7_feed, 8) h [(0, .ref v0), (1, .int v1), (2, .int v2), (3, .int v3), (4, .int v4), (5, .int v5), (6, .int v6)] [] 23 0 0 Q := by
  unfold f_X7_feed_l23 at hf
  refine J_iload E (jd dk_X7_feed_0 13 rfl) 6 rfl ?_
  refine J_bipush (v := 20) E (jd dk_X7_feed_0 14 rfl) (by decide) ?_
  refine J_icmp_ge (tgt := 120) E (jd dk_X7_feed_0 15 rfl) (by decide) (fun c11 => ?_) (fun c11 => ?_)
  · replace hf := jif_t c11 hf
    refine J_sub [0] rfl ?_
    exact ke0 _ (Option.some.inj hf).symm
  · replace hf := jif_f c11 hf
    refine J_iload E (jd dk_X7_feed_0 16 rfl) 6 rfl ?_
    refine J_iconst (v := 4) E (jd dk_X7_feed_0 17 rfl) rfl ?_
    refine J_icmp_ge (tgt := 40) E (jd dk_X7_feed_0 18 rfl) (by decide) (fun c12 => ?_) (fun c12 => ?_)
    · replace hf := jif_t c12 hf
      refine J_iload E (jd dk_X7_feed_0 21 rfl) 6 rfl ?_
      refine J_bipush (v := 8) E (jd dk_X7_feed_0 22 rfl) (by decide) ?_
      refine J_icmp_ge (tgt := 51) E (jd dk_X7_feed_0 23 rfl) (by decide) (fun c13 => ?_) (fun c13 => ?_)
      · replace hf := jif_t c13 hf
        refine J_iload E (jd dk_X7_feed_0 26 rfl) 6 rfl ?_
        refine J_bipush (v := 12) E (jd dk_X7_feed_0 27 rfl) (by decide) ?_
        refine J_icmp_ge (tgt := 62) E (jd dk_X7_feed_0 28 rfl) (by decide) (fun c14 => ?_) (fun c14 => ?_)
        · replace hf := jif_t c14 hf
          refine J_iload E (jd dk_X7_feed_0 31 rfl) 6 rfl ?_
          refine J_bipush (v := 16) E (jd dk_X7_feed_0 32 rfl) (by decide) ?_
          refine J_icmp_ge (tgt := 74) E (jd dk_X7_feed_0 33 rfl) (by decide) (fun c15 => ?_) (fun c15 => ?_)
          · replace hf := jif_t c15 hf
            refine J_iload E (jd dk_X7_feed_0 36 rfl) 5 rfl ?_
            exact lk_X7_feed_b76 E hX hr N hf kb ke0
          · replace hf := jif_f c15 hf
            refine J_iload E (jd dk_X7_feed_0 34 rfl) 4 rfl ?_
            refine J_goto (tgt := 76) E (jd dk_X7_feed_0 35 rfl) (by decide) ?_
            exact lk_X7_feed_b76 E hX hr N hf kb ke0
        · replace hf := jif_f c14 hf
          refine J_iload_n E (jd dk_X7_feed_0 29 rfl) rfl 3 rfl ?_
          refine J_goto (tgt := 76) E (jd dk_X7_feed_0 30 rfl) (by decide) ?_
          exact lk_X7_feed_b76 E hX hr N hf kb ke0
      · replace hf := jif_f c13 hf
        refine J_iload_n E (jd dk_X7_feed_0 24 rfl) rfl 2 rfl ?_
        refine J_goto (tgt := 76) E (jd dk_X7_feed_0 25 rfl) (by decide) ?_
        exact lk_X7_feed_b76 E hX hr N hf kb ke0
    · replace hf := jif_f c12 hf
      refine J_iload_n E (jd dk_X7_feed_0 19 rfl) rfl 1 rfl ?_
      refine J_goto (tgt := 76) E (jd dk_X7_feed_0 20 rfl) (by decide) ?_
      exact lk_X7_feed_b76 E hX hr N hf kb ke0
set_option maxRecDepth 100000 in
set_option maxHeartbeats 4000000 in
theorem lk_X7_feed_b23 {G : JG} {X : JX} (E : jE G X (RX7, cX7_feed, 8)) (hX : X.2.2.2.1 = jRm 0 0 0) (hr : X.2.2.2.2.2.2.2.2.1.sig.returnType = (some .int)) (N : Nat) {v0 : Nat} {v1 : Int32} {v2 : Int32} {v3 : Int32} {v4 : Int32} {v5 : Int32} {v6 : Int32} {h : AH}  {r : (Int32 × AH)} (hf : f_X7_feed_b23 N v0 v1 v2 v3 v4 v5 v6 h = some r) : JW G X (RX7, cX7_feed, 8) h [(0, .ref v0), (1, .int v1), (2, .int v2), (3, .int v3), (4, .int v4), (5, .int v5), (6, .int v6)] [] 23 0 0 (jEnd G X (jpi r) 0 0) := by
  unfold f_X7_feed_b23 at hf
  obtain ⟨q1, h1, hf⟩ := jbind hf
  refine jloop (P := fun s => JW G X (RX7, cX7_feed, 8) s.2 [(0, .ref v0), (1, .int v1), (2, .int v2), (3, .int v3), (4, .int v4), (5, .int v5), (6, .int s.1)] [] 23 0 0 (jEnd G X (jpi r) 0 0)) (Ex := fun (e : AH) => JW G X (RX7, cX7_feed, 8) e [(0, .ref v0)] [] 120 0 0 (jEnd G X (jpi r) 0 0)) (fun s q hs hb hx => lk_X7_feed_l23 E hX hr N hs (fun s' hs => hb s' hs) (fun e he => hx e he)) N _ q1 h1 ?_
  generalize q1 = e at hf ⊢
  refine J_aload_n E (jd dk_X7_feed_1 12 rfl) rfl 0 rfl ?_
  obtain ⟨x16, e17, hf⟩ := jbind hf
  refine J_geti E (jd dk_X7_feed_1 13 rfl) fl_RX7_158 e17 ?_
  cases hf
  exact J_iret E hr rfl (jd dk_X7_feed_1 14 rfl) (Nat.le_refl _) (Nat.le_refl _) ⟨rfl, rfl⟩
set_option maxRecDepth 100000 in
set_option maxHeartbeats 4000000 in
theorem lk_X7_feed {G : JG} {l : Launch} (hG : jG G) (htr : l.stackTraces = false) (N : Nat) {h : AH} {a0 : Nat} {a1 : Int32} {a2 : Int32} {a3 : Int32} {a4 : Int32} {a5 : Int32} {r : (Int32 × AH)} (hf : f_X7_feed N h a0 a1 a2 a3 a4 a5 = some r) : jMet G l yX7_feed cX7_feed 8 (some .int) 0 0 0 [.ref a0, .int a1, .int a2, .int a3, .int a4, .int a5] h (jpi r) := by
  unfold f_X7_feed at hf
  refine jMet_of hG htr (by decide) (Nat.le_of_ble_eq_true rfl) ?_
  intro X E hl9 hr hX _ _
  show JW G X (RX7, cX7_feed, 8) h [(0, .ref a0), (1, .int a1), (2, .int a2), (3, .int a3), (4, .int a4), (5, .int a5)] [] 0 0 0 (jEnd G X (jpi r) 0 0)
  refine J_aload_n E (jd dk_X7_feed_0 0 rfl) rfl 0 rfl ?_
  refine J_iconst (v := 0) E (jd dk_X7_feed_0 1 rfl) rfl ?_
  obtain ⟨h18, e19, hf⟩ := jbind hf
  refine J_put E (jd dk_X7_feed_0 2 rfl) fl_RX7_151 e19 (fun _ => rfl) (fun _ => rfl) ?_
  refine J_aload_n E (jd dk_X7_feed_0 3 rfl) rfl 0 rfl ?_
  obtain ⟨x20, e21, hf⟩ := jbind hf
  refine J_geti E (jd dk_X7_feed_0 4 rfl) fl_RX7_158 e21 ?_
  refine J_bipush (v := 20) E (jd dk_X7_feed_0 5 rfl) (by decide) ?_
  refine J_iadd E (jd dk_X7_feed_0 6 rfl) ?_
  refine J_sipush (v := 700) E (jd dk_X7_feed_0 7 rfl) (by decide) ?_
  refine J_icmp_le (tgt := 20) E (jd dk_X7_feed_0 8 rfl) (by decide) (fun c22 => ?_) (fun c22 => ?_)
  · replace hf := jif_t c22 hf
    refine J_iconst (v := 0) E (jd dk_X7_feed_0 11 rfl) rfl ?_
    refine J_istore (lv' := [(6, .int 0), (0, .ref a0), (1, .int a1), (2, .int a2), (3, .int a3), (4, .int a4), (5, .int a5)]) E (jd dk_X7_feed_0 12 rfl) (by decide) rfl ?_
    refine J_sub [1, 2, 3, 4, 5, 6, 0] rfl ?_
    exact lk_X7_feed_b23 E hX hr N hf
  · replace hf := jif_f c22 hf
    refine J_iconst (v := (-1)) E (jd dk_X7_feed_0 9 rfl) rfl ?_
    cases hf
    exact J_iret E hr rfl (jd dk_X7_feed_0 10 rfl) (Nat.le_refl _) (Nat.le_refl _) ⟨rfl, rfl⟩
def f_X7_byteAt (N : Nat) (h : AH) (a0 : Nat) (a1 : Int32) : Option (Int32 × AH) :=
  (jgi 7 h a0 19).bind fun x1 =>
  if x1 ≤ a1 then some ((-1), h)
  else (jgr 7 h a0 16).bind fun x4 =>
  (jal 0 h x4 a1).bind fun x6 =>
  some (x6, h)
set_option maxRecDepth 100000 in
set_option maxHeartbeats 4000000 in
theorem lk_X7_byteAt {G : JG} {l : Launch} (hG : jG G) (htr : l.stackTraces = false) (N : Nat) {h : AH} {a0 : Nat} {a1 : Int32} {r : (Int32 × AH)} (hf : f_X7_byteAt N h a0 a1 = some r) : jMet G l yX7_byteAt cX7_byteAt 2 (some .int) 0 0 0 [.ref a0, .int a1] h (jpi r) := by
  unfold f_X7_byteAt at hf
  refine jMet_of hG htr (by decide) (Nat.le_of_ble_eq_true rfl) ?_
  intro X E hl9 hr hX _ _
  show JW G X (RX7, cX7_byteAt, 2) h [(0, .ref a0), (1, .int a1)] [] 0 0 0 (jEnd G X (jpi r) 0 0)
  refine J_iload_n E (jd dk_X7_byteAt_0 0 rfl) rfl 1 rfl ?_
  refine J_aload_n E (jd dk_X7_byteAt_0 1 rfl) rfl 0 rfl ?_
  obtain ⟨x1, e2, hf⟩ := jbind hf
  refine J_geti E (jd dk_X7_byteAt_0 2 rfl) fl_RX7_161 e2 ?_
  refine J_icmp_ge (tgt := 17) E (jd dk_X7_byteAt_0 3 rfl) (by decide) (fun c3 => ?_) (fun c3 => ?_)
  · replace hf := jif_t c3 hf
    refine J_iconst (v := (-1)) E (jd dk_X7_byteAt_0 9 rfl) rfl ?_
    cases hf
    exact J_iret E hr rfl (jd dk_X7_byteAt_0 10 rfl) (Nat.le_refl _) (Nat.le_refl _) ⟨rfl, rfl⟩
  · replace hf := jif_f c3 hf
    refine J_aload_n E (jd dk_X7_byteAt_0 4 rfl) rfl 0 rfl ?_
    obtain ⟨x4, e5, hf⟩ := jbind hf
    refine J_getr E (jd dk_X7_byteAt_0 5 rfl) fl_RX7_74 e5 ?_
    refine J_iload_n E (jd dk_X7_byteAt_0 6 rfl) rfl 1 rfl ?_
    obtain ⟨x6, e7, hf⟩ := jbind hf
    refine J_iald E (jd dk_X7_byteAt_0 7 rfl) e7 ?_
    refine J_goto (tgt := 18) E (jd dk_X7_byteAt_0 8 rfl) (by decide) ?_
    cases hf
    exact J_iret E hr rfl (jd dk_X7_byteAt_0 10 rfl) (Nat.le_refl _) (Nat.le_refl _) ⟨rfl, rfl⟩
def f_X7_isLetter_b16 (N : Nat)  (h : AH) : Option (Int32 × AH) :=
  some (0, h)
def f_X7_isLetter (N : Nat) (h : AH) (a0 : Int32) : Option (Int32 × AH) :=
  if a0 < 97 then f_X7_isLetter_b16 N  h
  else if 122 < a0 then f_X7_isLetter_b16 N  h
  else some (1, h)
set_option maxRecDepth 100000 in
set_option maxHeartbeats 4000000 in
theorem lk_X7_isLetter_b16 {G : JG} {X : JX} (E : jE G X (RX7, cX7_isLetter, 1)) (hX : X.2.2.2.1 = jRm 0 0 0) (hr : X.2.2.2.2.2.2.2.2.1.sig.returnType = (some .boolean)) (N : Nat)  {h : AH}  {r : (Int32 × AH)} (hf : f_X7_isLetter_b16 N  h = some r) : JW G X (RX7, cX7_isLetter, 1) h [] [] 16 0 0 (jEnd G X (jpi r) 0 0) := by
  unfold f_X7_isLetter_b16 at hf
  refine J_iconst (v := 0) E (jd dk_X7_isLetter_0 8 rfl) rfl ?_
  cases hf
  exact J_iret E hr rfl (jd dk_X7_isLetter_0 9 rfl) (Nat.le_refl _) (Nat.le_refl _) ⟨rfl, rfl⟩
set_option maxRecDepth 100000 in
set_option maxHeartbeats 4000000 in
theorem lk_X7_isLetter {G : JG} {l : Launch} (hG : jG G) (htr : l.stackTraces = false) (N : Nat) {h : AH} {a0 : Int32} {r : (Int32 × AH)} (hf : f_X7_isLetter N h a0 = some r) : jMet G l yX7_isLetter cX7_isLetter 1 (some .boolean) 0 0 0 [.int a0] h (jpi r) := by
  unfold f_X7_isLetter at hf
  refine jMet_of hG htr (by decide) (Nat.le_of_ble_eq_true rfl) ?_
  intro X E hl9 hr hX _ _
  show JW G X (RX7, cX7_isLetter, 1) h [(0, .int a0)] [] 0 0 0 (jEnd G X (jpi r) 0 0)
  refine J_iload_n E (jd dk_X7_isLetter_0 0 rfl) rfl 0 rfl ?_
  refine J_bipush (v := 97) E (jd dk_X7_isLetter_0 1 rfl) (by decide) ?_
  refine J_icmp_lt (tgt := 16) E (jd dk_X7_isLetter_0 2 rfl) (by decide) (fun c1 => ?_) (fun c1 => ?_)
  · replace hf := jif_t c1 hf
    refine J_sub [] rfl ?_
    exact lk_X7_isLetter_b16 E hX hr N hf
  · replace hf := jif_f c1 hf
    refine J_iload_n E (jd dk_X7_isLetter_0 3 rfl) rfl 0 rfl ?_
    refine J_bipush (v := 122) E (jd dk_X7_isLetter_0 4 rfl) (by decide) ?_
    refine J_icmp_gt (tgt := 16) E (jd dk_X7_isLetter_0 5 rfl) (by decide) (fun c2 => ?_) (fun c2 => ?_)
    · replace hf := jif_t c2 hf
      refine J_sub [] rfl ?_
      exact lk_X7_isLetter_b16 E hX hr N hf
    · replace hf := jif_f c2 hf
      refine J_iconst (v := 1) E (jd dk_X7_isLetter_0 6 rfl) rfl ?_
      refine J_goto (tgt := 17) E (jd dk_X7_isLetter_0 7 rfl) (by decide) ?_
      cases hf
      exact J_iret E hr rfl (jd dk_X7_isLetter_0 9 rfl) (Nat.le_refl _) (Nat.le_refl _) ⟨rfl, rfl⟩
def f_X7_isDigit_b16 (N : Nat)  (h : AH) : Option (Int32 × AH) :=
  some (0, h)
def f_X7_isDigit (N : Nat) (h : AH) (a0 : Int32) : Option (Int32 × AH) :=
  if a0 < 48 then f_X7_isDigit_b16 N  h
  else if 57 < a0 then f_X7_isDigit_b16 N  h
  else some (1, h)
set_option maxRecDepth 100000 in
set_option maxHeartbeats 4000000 in
theorem lk_X7_isDigit_b16 {G : JG} {X : JX} (E : jE G X (RX7, cX7_isDigit, 1)) (hX : X.2.2.2.1 = jRm 0 0 0) (hr : X.2.2.2.2.2.2.2.2.1.sig.returnType = (some .boolean)) (N : Nat)  {h : AH}  {r : (Int32 × AH)} (hf : f_X7_isDigit_b16 N  h = some r) : JW G X (RX7, cX7_isDigit, 1) h [] [] 16 0 0 (jEnd G X (jpi r) 0 0) := by
  unfold f_X7_isDigit_b16 at hf
  refine J_iconst (v := 0) E (jd dk_X7_isDigit_0 8 rfl) rfl ?_
  cases hf
  exact J_iret E hr rfl (jd dk_X7_isDigit_0 9 rfl) (Nat.le_refl _) (Nat.le_refl _) ⟨rfl, rfl⟩
set_option maxRecDepth 100000 in
set_option maxHeartbeats 4000000 in
theorem lk_X7_isDigit {G : JG} {l : Launch} (hG : jG G) (htr : l.stackTraces = false) (N : Nat) {h : AH} {a0 : Int32} {r : (Int32 × AH)} (hf : f_X7_isDigit N h a0 = some r) : jMet G l yX7_isDigit cX7_isDigit 1 (some .boolean) 0 0 0 [.int a0] h (jpi r) := by
  unfold f_X7_isDigit at hf
  refine jMet_of hG htr (by decide) (Nat.le_of_ble_eq_true rfl) ?_
  intro X E hl9 hr hX _ _
  show JW G X (RX7, cX7_isDigit, 1) h [(0, .int a0)] [] 0 0 0 (jEnd G X (jpi r) 0 0)
  refine J_iload_n E (jd dk_X7_isDigit_0 0 rfl) rfl 0 rfl ?_
  refine J_bipush (v := 48) E (jd dk_X7_isDigit_0 1 rfl) (by decide) ?_
  refine J_icmp_lt (tgt := 16) E (jd dk_X7_isDigit_0 2 rfl) (by decide) (fun c1 => ?_) (fun c1 => ?_)
  · replace hf := jif_t c1 hf
    refine J_sub [] rfl ?_
    exact lk_X7_isDigit_b16 E hX hr N hf
  · replace hf := jif_f c1 hf
    refine J_iload_n E (jd dk_X7_isDigit_0 3 rfl) rfl 0 rfl ?_
    refine J_bipush (v := 57) E (jd dk_X7_isDigit_0 4 rfl) (by decide) ?_
    refine J_icmp_gt (tgt := 16) E (jd dk_X7_isDigit_0 5 rfl) (by decide) (fun c2 => ?_) (fun c2 => ?_)
    · replace hf := jif_t c2 hf
      refine J_sub [] rfl ?_
      exact lk_X7_isDigit_b16 E hX hr N hf
    · replace hf := jif_f c2 hf
      refine J_iconst (v := 1) E (jd dk_X7_isDigit_0 6 rfl) rfl ?_
      refine J_goto (tgt := 17) E (jd dk_X7_isDigit_0 7 rfl) (by decide) ?_
      cases hf
      exact J_iret E hr rfl (jd dk_X7_isDigit_0 9 rfl) (Nat.le_refl _) (Nat.le_refl _) ⟨rfl, rfl⟩
def f_X7_isMark_b54 (N : Nat)  (h : AH) : Option (Int32 × AH) :=
  some (1, h)
def f_X7_isMark (N : Nat) (h : AH) (a0 : Int32) : Option (Int32 × AH) :=
  if a0 = 59 then f_X7_isMark_b54 N  h
  else if a0 = 40 then f_X7_isMark_b54 N  h
  else if a0 = 41 then f_X7_isMark_b54 N  h
  else if a0 = 43 then f_X7_isMark_b54 N  h
  else if a0 = 45 then f_X7_isMark_b54 N  h
  else if a0 = 42 then f_X7_isMark_b54 N  h
  else if a0 = 47 then f_X7_isMark_b54 N  h
  else if a0 = 60 then f_X7_isMark_b54 N  h
  else if a0 = 61 then f_X7_isMark_b54 N  h
  else some (0, h)
set_option maxRecDepth 100000 in
set_option maxHeartbeats 4000000 in
theorem lk_X7_isMark_b54 {G : JG} {X : JX} (E : jE G X (RX7, cX7_isMark, 1)) (hX : X.2.2.2.1 = jRm 0 0 0) (hr : X.2.2.2.2.2.2.2.2.1.sig.returnType = (some .boolean)) (N : Nat)  {h : AH}  {r : (Int32 × AH)} (hf : f_X7_isMark_b54 N  h = some r) : JW G X (RX7, cX7_isMark, 1) h [] [] 54 0 0 (jEnd G X (jpi r) 0 0) := by
  unfold f_X7_isMark_b54 at hf
  refine J_iconst (v := 1) E (jd dk_X7_isMark_0 27 rfl) rfl ?_
  refine J_goto (tgt := 59) E (jd dk_X7_isMark_0 28 rfl) (by decide) ?_
  cases hf
  exact J_iret E hr rfl (jd dk_X7_isMark_0 30 rfl) (Nat.le_refl _) (Nat.le_refl _) ⟨rfl, rfl⟩
set_option maxRecDepth 100000 in
set_option maxHeartbeats 4000000 in
theorem lk_X7_isMark {G : JG} {l : Launch} (hG : jG G) (htr : l.stackTraces = false) (N : Nat) {h : AH} {a0 : Int32} {r : (Int32 × AH)} (hf : f_X7_isMark N h a0 = some r) : jMet G l yX7_isMark cX7_isMark 1 (some .boolean) 0 0 0 [.int a0] h (jpi r) := by
  unfold f_X7_isMark at hf
  refine jMet_of hG htr (by decide) (Nat.le_of_ble_eq_true rfl) ?_
  intro X E hl9 hr hX _ _
  show JW G X (RX7, cX7_isMark, 1) h [(0, .int a0)] [] 0 0 0 (jEnd G X (jpi r) 0 0)
  refine J_iload_n E (jd dk_X7_isMark_0 0 rfl) rfl 0 rfl ?_
  refine J_bipush (v := 59) E (jd dk_X7_isMark_0 1 rfl) (by decide) ?_
  refine J_icmp_eq (tgt := 54) E (jd dk_X7_isMark_0 2 rfl) (by decide) (fun c1 => ?_) (fun c1 => ?_)
  · replace hf := jif_t c1 hf
    refine J_sub [] rfl ?_
    exact lk_X7_isMark_b54 E hX hr N hf
  · replace hf := jif_f c1 hf
    refine J_iload_n E (jd dk_X7_isMark_0 3 rfl) rfl 0 rfl ?_
    refine J_bipush (v := 40) E (jd dk_X7_isMark_0 4 rfl) (by decide) ?_
    refine J_icmp_eq (tgt := 54) E (jd dk_X7_isMark_0 5 rfl) (by decide) (fun c2 => ?_) (fun c2 => ?_)
    · replace hf := jif_t c2 hf
      refine J_sub [] rfl ?_
      exact lk_X7_isMark_b54 E hX hr N hf
    · replace hf := jif_f c2 hf
      refine J_iload_n E (jd dk_X7_isMark_0 6 rfl) rfl 0 rfl ?_
      refine J_bipush (v := 41) E (jd dk_X7_isMark_0 7 rfl) (by decide) ?_
      refine J_icmp_eq (tgt := 54) E (jd dk_X7_isMark_0 8 rfl) (by decide) (fun c3 => ?_) (fun c3 => ?_)
      · replace hf := jif_t c3 hf
        refine J_sub [] rfl ?_
        exact lk_X7_isMark_b54 E hX hr N hf
      · replace hf := jif_f c3 hf
        refine J_iload_n E (jd dk_X7_isMark_0 9 rfl) rfl 0 rfl ?_
        refine J_bipush (v := 43) E (jd dk_X7_isMark_0 10 rfl) (by decide) ?_
        refine J_icmp_eq (tgt := 54) E (jd dk_X7_isMark_0 11 rfl) (by decide) (fun c4 => ?_) (fun c4 => ?_)
        · replace hf := jif_t c4 hf
          refine J_sub [] rfl ?_
          exact lk_X7_isMark_b54 E hX hr N hf
        · replace hf := jif_f c4 hf
          refine J_iload_n E (jd dk_X7_isMark_0 12 rfl) rfl 0 rfl ?_
          refine J_bipush (v := 45) E (jd dk_X7_isMark_0 13 rfl) (by decide) ?_
          refine J_icmp_eq (tgt := 54) E (jd dk_X7_isMark_0 14 rfl) (by decide) (fun c5 => ?_) (fun c5 => ?_)
          · replace hf := jif_t c5 hf
            refine J_sub [] rfl ?_
            exact lk_X7_isMark_b54 E hX hr N hf
          · replace hf := jif_f c5 hf
            refine J_iload_n E (jd dk_X7_isMark_0 15 rfl) rfl 0 rfl ?_
            refine J_bipush (v := 42) E (jd dk_X7_isMark_0 16 rfl) (by decide) ?_
            refine J_icmp_eq (tgt := 54) E (jd dk_X7_isMark_0 17 rfl) (by decide) (fun c6 => ?_) (fun c6 => ?_)
            · replace hf := jif_t c6 hf
              refine J_sub [] rfl ?_
              exact lk_X7_isMark_b54 E hX hr N hf
            · replace hf := jif_f c6 hf
              refine J_iload_n E (jd dk_X7_isMark_0 18 rfl) rfl 0 rfl ?_
              refine J_bipush (v := 47) E (jd dk_X7_isMark_0 19 rfl) (by decide) ?_
              refine J_icmp_eq (tgt := 54) E (jd dk_X7_isMark_0 20 rfl) (by decide) (fun c7 => ?_) (fun c7 => ?_)
              · replace hf := jif_t c7 hf
                refine J_sub [] rfl ?_
                exact lk_X7_isMark_b54 E hX hr N hf
              · replace hf := jif_f c7 hf
                refine J_iload_n E (jd dk_X7_isMark_0 21 rfl) rfl 0 rfl ?_
                refine J_bipush (v := 60) E (jd dk_X7_isMark_0 22 rfl) (by decide) ?_
                refine J_icmp_eq (tgt := 54) E (jd dk_X7_isMark_0 23 rfl) (by decide) (fun c8 => ?_) (fun c8 => ?_)
                · replace hf := jif_t c8 hf
                  refine J_sub [] rfl ?_
                  exact lk_X7_isMark_b54 E hX hr N hf
                · replace hf := jif_f c8 hf
                  refine J_iload_n E (jd dk_X7_isMark_0 24 rfl) rfl 0 rfl ?_
                  refine J_bipush (v := 61) E (jd dk_X7_isMark_0 25 rfl) (by decide) ?_
                  refine J_icmp_ne (tgt := 58) E (jd dk_X7_isMark_0 26 rfl) (by decide) (fun c9 => ?_) (fun c9 => ?_)
                  · replace hf := jif_f c9 hf
                    refine J_iconst (v := 0) E (jd dk_X7_isMark_0 29 rfl) rfl ?_
                    cases hf
                    exact J_iret E hr rfl (jd dk_X7_isMark_0 30 rfl) (Nat.le_refl _) (Nat.le_refl _) ⟨rfl, rfl⟩
                  · replace hf := jif_t c9 hf
                    refine J_sub [] rfl ?_
                    exact lk_X7_isMark_b54 E hX hr N hf
def f_X7_stepOn_b26 (N : Nat) (v0 : Nat) (h : AH) : Option ((AH) ⊕ ((AH))) :=
  (jgi 7 h v0 18).bind fun x1 =>
  (jwi 7 h v0 18 (x1 + 1)).bind fun h3 =>
  some (.inl h3)
def f_X7_stepOn_b212 (N : Nat) (v0 : Nat) (h : AH) : Option AH :=
  (jgi 7 h v0 18).bind fun x5 =>
  (jwi 7 h v0 23 x5).bind fun h7 =>
  some h7
def f_X7_stepOn_b209 (N : Nat) (v0 : Nat) (w0 : Nat) (w1 : Int32) (h : AH) : Option AH :=
  (jwi 7 h w0 20 w1).bind fun h9 =>
  f_X7_stepOn_b212 N v0 h9
def f_X7_stepOn_l123 (N : Nat) (v0 : Nat)  (h : AH) : Option ((AH) ⊕ ((AH))) :=
  (jgi 7 h v0 18).bind fun x11 =>
  (jck 7 h v0).bind fun _ =>
  (f_X7_byteAt N h v0 x11).bind fun r13 =>
  (f_X7_isDigit N r13.2 r13.1).bind fun r17 =>
  if r17.1 = 0 then some (.inr r17.2)
  else (jgi 7 r17.2 v0 21).bind fun x20 =>
  (jgi 7 r17.2 v0 18).bind fun x22 =>
  (jck 7 r17.2 v0).bind fun _ =>
  (f_X7_byteAt N r17.2 v0 x22).bind fun r24 =>
  (jwi 7 r24.2 v0 21 (jmn 100000 ((((10 : Int32) * x20) + r24.1) - 48))).bind fun h28 =>
  (jgi 7 h28 v0 18).bind fun x30 =>
  (jwi 7 h28 v0 18 (x30 + 1)).bind fun h32 =>
  some (.inl h32)
def f_X7_stepOn_b123 (N : Nat) (v0 : Nat) (h : AH) : Option AH :=
  (itr (fun s => f_X7_stepOn_l123 N v0 s) N h).bind (fun e => (jwi 7 e v0 20 2).bind fun h34 =>
  f_X7_stepOn_b212 N v0 h34)
def f_X7_stepOn_l76 (N : Nat) (v0 : Nat)  (h : AH) : Option ((AH) ⊕ ((AH))) :=
  (jgi 7 h v0 18).bind fun x36 =>
  (jck 7 h v0).bind fun _ =>
  (f_X7_byteAt N h v0 x36).bind fun r38 =>
  (f_X7_isLetter N r38.2 r38.1).bind fun r42 =>
  if r42.1 = 0 then some (.inr r42.2)
  else (jgi 7 r42.2 v0 18).bind fun x45 =>
  (jwi 7 r42.2 v0 18 (x45 + 1)).bind fun h47 =>
  some (.inl h47)
def f_X7_stepOn_b76 (N : Nat) (v0 : Nat) (h : AH) : Option AH :=
  (itr (fun s => f_X7_stepOn_l76 N v0 s) N h).bind (fun e => (jwi 7 e v0 20 1).bind fun h49 =>
  f_X7_stepOn_b212 N v0 h49)
def f_X7_stepOn_l0 (N : Nat) (v0 : Nat)  (h : AH) : Option ((AH) ⊕ ((AH))) :=
  (jgi 7 h v0 18).bind fun x51 =>
  (jck 7 h v0).bind fun _ =>
  (f_X7_byteAt N h v0 x51).bind fun r53 =>
  if r53.1 = 32 then f_X7_stepOn_b26 N v0 r53.2
  else (jgi 7 r53.2 v0 18).bind fun x58 =>
  (jck 7 r53.2 v0).bind fun _ =>
  (f_X7_byteAt N r53.2 v0 x58).bind fun r60 =>
  if r60.1 = 10 then f_X7_stepOn_b26 N v0 r60.2
  else some (.inr r60.2)
def f_X7_stepOn_b0 (N : Nat) (v0 : Nat) (h : AH) : Option AH :=
  (itr (fun s => f_X7_stepOn_l0 N v0 s) N h).bind (fun e => (jgi 7 e v0 18).bind fun x65 =>
  (jwi 7 e v0 22 x65).bind fun h67 =>
  (jgi 7 h67 v0 18).bind fun x69 =>
  (jck 7 h67 v0).bind fun _ =>
  (f_X7_byteAt N h67 v0 x69).bind fun r71 =>
  if r71.1 = ((-1)) then (jwi 7 r71.2 v0 20 0).bind fun h91 =>
  f_X7_stepOn_b212 N v0 h91
  else (f_X7_isLetter N r71.2 r71.1).bind fun r76 =>
  if r76.1 = 0 then (f_X7_isDigit N r76.2 r71.1).bind fun r79 =>
  if r79.1 = 0 then (jgi 7 r79.2 v0 18).bind fun x82 =>
  (jwi 7 r79.2 v0 18 (x82 + 1)).bind fun h84 =>
  (f_X7_isMark N h84 r71.1).bind fun r86 =>
  if r86.1 = 0 then f_X7_stepOn_b209 N v0 v0 4 r86.2
  else f_X7_stepOn_b209 N v0 v0 3 r86.2
  else (jwi 7 r79.2 v0 21 0).bind fun h89 =>
  f_X7_stepOn_b123 N v0 h89
  else f_X7_stepOn_b76 N v0 r76.2)
def f_X7_stepOn (N : Nat) (h : AH) (a0 : Nat) : Option AH :=
  f_X7_stepOn_b0 N a0 h
set_option maxRecDepth 100000 in
set_option maxHeartbeats 4000000 in
theorem lk_X7_stepOn_b26 {G : JG} {X : JX} (E : jE G X (RX7, cX7_stepOn, 2)) (hX : X.2.2.2.1 = jRm 1 0 0) (hr : X.2.2.2.2.2.2.2.2.1.sig.returnType = none) (N : Nat) {Q : State → Prop} {v0 : Nat} {h : AH}  {q : ((AH) ⊕ ((AH)))} (hf : f_X7_stepOn_b26 N v0 h = some q) (kb : ∀ s' : AH, q = .inl s' → JW G X (RX7, cX7_stepOn, 2) s' [(0, .ref v0)] [] 0 0 0 Q) (ke0 : ∀ e : AH, q = .inr e → JW G X (RX7, cX7_stepOn, 2) e [(0, .ref v0)] [] 39 0 0 Q) : JW G X (RX7, cX7_stepOn, 2) h [(0, .ref v0)] [] 26 0 0 Q := by
  unfold f_X7_stepOn_b26 at hf
  refine J_aload_n E (jd dk_X7_stepOn_0 12 rfl) rfl 0 rfl ?_
  refine J_dup E (jd dk_X7_stepOn_0 13 rfl) rfl ?_
  obtain ⟨x1, e2, hf⟩ := jbind hf
  refine J_geti E (jd dk_X7_stepOn_0 14 rfl) fl_RX7_164 e2 ?_
  refine J_iconst (v := 1) E (jd dk_X7_stepOn_0 15 rfl) rfl ?_
  refine J_iadd E (jd dk_X7_stepOn_0 16 rfl) ?_
  obtain ⟨h3, e4, hf⟩ := jbind hf
  refine J_put E (jd dk_X7_stepOn_0 17 rfl) fl_RX7_164 e4 (fun _ => rfl) (fun _ => rfl) ?_
  refine J_goto (tgt := 0) E (jd dk_X7_stepOn_0 18 rfl) (by decide) ?_
  exact kb _ (Option.some.inj hf).symm
set_option maxRecDepth 100000 in
set_option maxHeartbeats 4000000 in
theorem lk_X7_stepOn_b212 {G : JG} {X : JX} (E : jE G X (RX7, cX7_stepOn, 2)) (hX : X.2.2.2.1 = jRm 1 0 0) (hr : X.2.2.2.2.2.2.2.2.1.sig.returnType = none) (N : Nat) {v0 : Nat} {h : AH}  {r : AH} (hf : f_X7_stepOn_b212 N v0 h = some r) : JW G X (RX7, cX7_stepOn, 2) h [(0, .ref v0)] [] 212 0 0 (jEnd G X (jpv r) 0 0) := by
  unfold f_X7_stepOn_b212 at hf
  refine J_aload_n E (jd dk_X7_stepOn_2 7 rfl) rfl 0 rfl ?_
  refine J_aload_n E (jd dk_X7_stepOn_2 8 rfl) rfl 0 rfl ?_
  obtain ⟨x5, e6, hf⟩ := jbind hf
  refine J_geti E (jd dk_X7_stepOn_2 9 rfl) fl_RX7_164 e6 ?_
  obtain ⟨h7, e8, hf⟩ := jbind hf
  refine J_put E (jd dk_X7_stepOn_2 10 rfl) fl_RX7_197 e8 (fun _ => rfl) (fun _ => rfl) ?_
  cases hf
  exact J_vret E hr (jd dk_X7_stepOn_2 11 rfl) (Nat.le_refl _) (Nat.le_refl _) ⟨rfl, rfl⟩
set_option maxRecDepth 100000 in
set_option maxHeartbeats 4000000 in
theorem lk_X7_stepOn_b209 {G : JG} {X : JX} (E : jE G X (RX7, cX7_stepOn, 2)) (hX : X.2.2.2.1 = jRm 1 0 0) (hr : X.2.2.2.2.2.2.2.2.1.sig.returnType = none) (N : Nat) {v0 : Nat} {w0 : Nat} {w1 : Int32} {h : AH}  {r : AH} (hf : f_X7_stepOn_b209 N v0 w0 w1 h = some r) : JW G X (RX7, cX7_stepOn, 2) h [(0, .ref v0)] [.int w1, .ref w0] 209 0 0 (jEnd G X (jpv r) 0 0) := by
  unfold f_X7_stepOn_b209 at hf
  obtain ⟨h9, e10, hf⟩ := jbind hf
  refine J_put E (jd dk_X7_stepOn_2 6 rfl) fl_RX7_174 e10 (fun _ => rfl) (fun _ => rfl) ?_
  exact lk_X7_stepOn_b212 E hX hr N hf
set_option maxRecDepth 100000 in
set_option maxHeartbeats 4000000 in
theorem lk_X7_stepOn_l123 {G : JG} {X : JX} (E : jE G X (RX7, cX7_stepOn, 2)) (hX : X.2.2.2.1 = jRm 1 0 0) (hr : X.2.2.2.2.2.2.2.2.1.sig.returnType = none) (N : Nat) {Q : State → Prop} {v0 : Nat}   {h : AH} {q : ((AH) ⊕ ((AH)))} (hf : f_X7_stepOn_l123 N v0 h = some q) (kb : ∀ s' : AH, q = .inl s' → JW G X (RX7, cX7_stepOn, 2) s' [(0, .ref v0)] [] 123 0 0 Q) (ke0 : ∀ e : AH, q = .inr e → JW G X (RX7, cX7_stepOn, 2) e [(0, .ref v0)] [] 178 0 0 Q) : JW G X (RX7, cX7_stepOn, 2) h [(0, .ref v0)] [] 123 0 0 Q := by
  unfold f_X7_stepOn_l123 at hf
  refine J_aload_n E (jd dk_X7_stepOn_1 11 rfl) rfl 0 rfl ?_
  refine J_aload_n E (jd dk_X7_stepOn_1 12 rfl) rfl 0 rfl ?_
  obtain ⟨x11, e12, hf⟩ := jbind hf
  refine J_geti E (jd dk_X7_stepOn_1 13 rfl) fl_RX7_164 e12 ?_
  obtain ⟨u15, e16, hf⟩ := jbind hf
  obtain ⟨r13, e14, hf⟩ := jbind hf
  refine J_callV E (jd dk_X7_stepOn_1 14 rfl) ml_RX7_167 cal_X7_byteAt e16 rfl (lk_X7_byteAt (jE_g E) (jE_tr E) N e14) rfl (Nat.le_of_ble_eq_true rfl) (jR_le hX (by decide) (by decide)) (jF0 hX) rfl ?_
  rintro _ _ ⟨rfl, rfl⟩
  obtain ⟨r17, e18, hf⟩ := jbind hf
  refine J_callS E (jd dk_X7_stepOn_1 15 rfl) ml_RX7_181 cal_X7_isDigit (lk_X7_isDigit (jE_g E) (jE_tr E) N e18) rfl (Nat.le_of_ble_eq_true rfl) (jR_le hX (by decide) (by decide)) (jF0 hX) rfl ?_
  rintro _ _ ⟨rfl, rfl⟩
  refine J_if_eq (tgt := 178) E (jd dk_X7_stepOn_1 16 rfl) (by decide) (fun c19 => ?_) (fun c19 => ?_)
  · replace hf := jif_t c19 hf
    exact ke0 _ (Option.some.inj hf).symm
  · replace hf := jif_f c19 hf
    refine J_aload_n E (jd dk_X7_stepOn_1 17 rfl) rfl 0 rfl ?_
    refine J_ldc (v := 100000) E (jd dk_X7_stepOn_1 18 rfl) (jl26_in _ (List.mem_of_getElem? (i := 27) rfl)) ?_
    refine J_bipush (v := 10) E (jd dk_X7_stepOn_1 19 rfl) (by decide) ?_
    refine J_aload_n E (jd dk_X7_stepOn_1 20 rfl) rfl 0 rfl ?_
    obtain ⟨x20, e21, hf⟩ := jbind hf
    refine J_geti E (jd dk_X7_stepOn_1 21 rfl) fl_RX7_184 e21 ?_
    refine J_imul E (jd dk_X7_stepOn_1 22 rfl) ?_
    refine J_aload_n E (jd dk_X7_stepOn_1 23 rfl) rfl 0 rfl ?_
    refine J_aload_n E (jd dk_X7_stepOn_1 24 rfl) rfl 0 rfl ?_
    obtain ⟨x22, e23, hf⟩ := jbind hf
    refine J_geti E (jd dk_X7_stepOn_1 25 rfl) fl_RX7_164 e23 ?_
    obtain ⟨u26, e27, hf⟩ := jbind hf
    obtain ⟨r24, e25, hf⟩ := jbind hf
    refine J_callV E (jd dk_X7_stepOn_1 26 rfl) ml_RX7_167 cal_X7_byteAt e27 rfl (lk_X7_byteAt (jE_g E) (jE_tr E) N e25) rfl (Nat.le_of_ble_eq_true rfl) (jR_le hX (by decide) (by decide)) (jF0 hX) rfl ?_
    rintro _ _ ⟨rfl, rfl⟩
    refine J_iadd E (jd dk_X7_stepOn_1 27 rfl) ?_
    refine J_bipush (v := 48) E (jd dk_X7_stepOn_1 28 rfl) (by decide) ?_
    refine J_isub E (jd dk_X7_stepOn_1 29 rfl) ?_
    refine J_min E (jd dk_X7_stepOn_1 30 rfl) ml_RX7_188 (Nat.le_of_ble_eq_true rfl) (by rw [hX]; exact ⟨Nat.zero_le _, Nat.zero_le _⟩) ?_
    obtain ⟨h28, e29, hf⟩ := jbind hf
    refine J_put E (jd dk_X7_stepOn_1 31 rfl) fl_RX7_184 e29 (fun _ => rfl) (fun _ => rfl) ?_
    refine J_aload_n E (jd dk_X7_stepOn_1 32 rfl) rfl 0 rfl ?_
    refine J_dup E (jd dk_X7_stepOn_1 33 rfl) rfl ?_
    obtain ⟨x30, e31, hf⟩ := jbind hf
    refine J_geti E (jd dk_X7_stepOn_1 34 rfl) fl_RX7_164 e31 ?_
    refine J_iconst (v := 1) E (jd dk_X7_stepOn_1 35 rfl) rfl ?_
    refine J_iadd E (jd dk_X7_stepOn_1 36 rfl) ?_
    obtain ⟨h32, e33, hf⟩ := jbind hf
    refine J_put E (jd dk_X7_stepOn_1 37 rfl) fl_RX7_164 e33 (fun _ => rfl) (fun _ => rfl) ?_
    refine J_goto (tgt := 123) E (jd dk_X7_stepOn_1 38 rfl) (by decide) ?_
    exact kb _ (Option.some.inj hf).symm
set_option maxRecDepth 100000 in
set_option maxHeartbeats 4000000 in
theorem lk_X7_stepOn_b123 {G : JG} {X : JX} (E : jE G X (RX7, cX7_stepOn, 2)) (hX : X.2.2.2.1 = jRm 1 0 0) (hr : X.2.2.2.2.2.2.2.2.1.sig.returnType = none) (N : Nat) {v0 : Nat} {h : AH}  {r : AH} (hf : f_X7_stepOn_b123 N v0 h = some r) : JW G X (RX7, cX7_stepOn, 2) h [(0, .ref v0)] [] 123 0 0 (jEnd G X (jpv r) 0 0) := by
  unfold f_X7_stepOn_b123 at hf
  obtain ⟨q1, h1, hf⟩ := jbind hf
  refine jloop (P := fun s => JW G X (RX7, cX7_stepOn, 2) s [(0, .ref v0)] [] 123 0 0 (jEnd G X (jpv r) 0 0)) (Ex := fun (e : AH) => JW G X (RX7, cX7_stepOn, 2) e [(0, .ref v0)] [] 178 0 0 (jEnd G X (jpv r) 0 0)) (fun s q hs hb hx => lk_X7_stepOn_l123 E hX hr N hs (fun s' hs => hb s' hs) (fun e he => hx e he)) N _ q1 h1 ?_
  generalize q1 = e at hf ⊢
  refine J_aload_n E (jd dk_X7_stepOn_1 39 rfl) rfl 0 rfl ?_
  refine J_iconst (v := 2) E (jd dk_X7_stepOn_1 40 rfl) rfl ?_
  obtain ⟨h34, e35, hf⟩ := jbind hf
  refine J_put E (jd dk_X7_stepOn_1 41 rfl) fl_RX7_174 e35 (fun _ => rfl) (fun _ => rfl) ?_
  refine J_goto (tgt := 212) E (jd dk_X7_stepOn_1 42 rfl) (by decide) ?_
  exact lk_X7_stepOn_b212 E hX hr N hf
set_option maxRecDepth 100000 in
set_option maxHeartbeats 4000000 in
theorem lk_X7_stepOn_l76 {G : JG} {X : JX} (E : jE G X (RX7, cX7_stepOn, 2)) (hX : X.2.2.2.1 = jRm 1 0 0) (hr : X.2.2.2.2.2.2.2.2.1.sig.returnType = none) (N : Nat) {Q : State → Prop} {v0 : Nat}   {h : AH} {q : ((AH) ⊕ ((AH)))} (hf : f_X7_stepOn_l76 N v0 h = some q) (kb : ∀ s' : AH, q = .inl s' → JW G X (RX7, cX7_stepOn, 2) s' [(0, .ref v0)] [] 76 0 0 Q) (ke0 : ∀ e : AH, q = .inr e → JW G X (RX7, cX7_stepOn, 2) e [(0, .ref v0)] [] 103 0 0 Q) : JW G X (RX7, cX7_stepOn, 2) h [(0, .ref v0)] [] 76 0 0 Q := by
  unfold f_X7_stepOn_l76 at hf
  refine J_aload_n E (jd dk_X7_stepOn_0 38 rfl) rfl 0 rfl ?_
  refine J_aload_n E (jd dk_X7_stepOn_0 39 rfl) rfl 0 rfl ?_
  obtain ⟨x36, e37, hf⟩ := jbind hf
  refine J_geti E (jd dk_X7_stepOn_0 40 rfl) fl_RX7_164 e37 ?_
  obtain ⟨u40, e41, hf⟩ := jbind hf
  obtain ⟨r38, e39, hf⟩ := jbind hf
  refine J_callV E (jd dk_X7_stepOn_0 41 rfl) ml_RX7_167 cal_X7_byteAt e41 rfl (lk_X7_byteAt (jE_g E) (jE_tr E) N e39) rfl (Nat.le_of_ble_eq_true rfl) (jR_le hX (by decide) (by decide)) (jF0 hX) rfl ?_
  rintro _ _ ⟨rfl, rfl⟩
  obtain ⟨r42, e43, hf⟩ := jbind hf
  refine J_callS E (jd dk_X7_stepOn_0 42 rfl) ml_RX7_177 cal_X7_isLetter (lk_X7_isLetter (jE_g E) (jE_tr E) N e43) rfl (Nat.le_of_ble_eq_true rfl) (jR_le hX (by decide) (by decide)) (jF0 hX) rfl ?_
  rintro _ _ ⟨rfl, rfl⟩
  refine J_if_eq (tgt := 103) E (jd dk_X7_stepOn_0 43 rfl) (by decide) (fun c44 => ?_) (fun c44 => ?_)
  · replace hf := jif_t c44 hf
    exact ke0 _ (Option.some.inj hf).symm
  · replace hf := jif_f c44 hf
    refine J_aload_n E (jd dk_X7_stepOn_0 44 rfl) rfl 0 rfl ?_
    refine J_dup E (jd dk_X7_stepOn_0 45 rfl) rfl ?_
    obtain ⟨x45, e46, hf⟩ := jbind hf
    refine J_geti E (jd dk_X7_stepOn_0 46 rfl) fl_RX7_164 e46 ?_
    refine J_iconst (v := 1) E (jd dk_X7_stepOn_0 47 rfl) rfl ?_
    refine J_iadd E (jd dk_X7_stepOn_0 48 rfl) ?_
    obtain ⟨h47, e48, hf⟩ := jbind hf
    refine J_put E (jd dk_X7_stepOn_0 49 rfl) fl_RX7_164 e48 (fun _ => rfl) (fun _ => rfl) ?_
    refine J_goto (tgt := 76) E (jd dk_X7_stepOn_1 0 rfl) (by decide) ?_
    exact kb _ (Option.some.inj hf).symm
set_option maxRecDepth 100000 in
set_option maxHeartbeats 4000000 in
theorem lk_X7_stepOn_b76 {G : JG} {X : JX} (E : jE G X (RX7, cX7_stepOn, 2)) (hX : X.2.2.2.1 = jRm 1 0 0) (hr : X.2.2.2.2.2.2.2.2.1.sig.returnType = none) (N : Nat) {v0 : Nat} {h : AH}  {r : AH} (hf : f_X7_stepOn_b76 N v0 h = some r) : JW G X (RX7, cX7_stepOn, 2) h [(0, .ref v0)] [] 76 0 0 (jEnd G X (jpv r) 0 0) := by
  unfold f_X7_stepOn_b76 at hf
  obtain ⟨q1, h1, hf⟩ := jbind hf
  refine jloop (P := fun s => JW G X (RX7, cX7_stepOn, 2) s [(0, .ref v0)] [] 76 0 0 (jEnd G X (jpv r) 0 0)) (Ex := fun (e : AH) => JW G X (RX7, cX7_stepOn, 2) e [(0, .ref v0)] [] 103 0 0 (jEnd G X (jpv r) 0 0)) (fun s q hs hb hx => lk_X7_stepOn_l76 E hX hr N hs (fun s' hs => hb s' hs) (fun e he => hx e he)) N _ q1 h1 ?_
  generalize q1 = e at hf ⊢
  refine J_aload_n E (jd dk_X7_stepOn_1 1 rfl) rfl 0 rfl ?_
  refine J_iconst (v := 1) E (jd dk_X7_stepOn_1 2 rfl) rfl ?_
  obtain ⟨h49, e50, hf⟩ := jbind hf
  refine J_put E (jd dk_X7_stepOn_1 3 rfl) fl_RX7_174 e50 (fun _ => rfl) (fun _ => rfl) ?_
  refine J_goto (tgt := 212) E (jd dk_X7_stepOn_1 4 rfl) (by decide) ?_
  exact lk_X7_stepOn_b212 E hX hr N hf
set_option maxRecDepth 100000 in
set_option maxHeartbeats 4000000 in
theorem lk_X7_stepOn_l0 {G : JG} {X : JX} (E : jE G X (RX7, cX7_stepOn, 2)) (hX : X.2.2.2.1 = jRm 1 0 0) (hr : X.2.2.2.2.2.2.2.2.1.sig.returnType = none) (N : Nat) {Q : State → Prop} {v0 : Nat}   {h : AH} {q : ((AH) ⊕ ((AH)))} (hf : f_X7_stepOn_l0 N v0 h = some q) (kb : ∀ s' : AH, q = .inl s' → JW G X (RX7, cX7_stepOn, 2) s' [(0, .ref v0)] [] 0 0 0 Q) (ke0 : ∀ e : AH, q = .inr e → JW G X (RX7, cX7_stepOn, 2) e [(0, .ref v0)] [] 39 0 0 Q) : JW G X (RX7, cX7_stepOn, 2) h [(0, .ref v0)] [] 0 0 0 Q := by
  unfold f_X7_stepOn_l0 at hf
  refine J_aload_n E (jd dk_X7_stepOn_0 0 rfl) rfl 0 rfl ?_
  refine J_aload_n E (jd dk_X7_stepOn_0 1 rfl) rfl 0 rfl ?_
  obtain ⟨x51, e52, hf⟩ := jbind hf
  refine J_geti E (jd dk_X7_stepOn_0 2 rfl) fl_RX7_164 e52 ?_
  obtain ⟨u55, e56, hf⟩ := jbind hf
  obtain ⟨r53, e54, hf⟩ := jbind hf
  refine J_callV E (jd dk_X7_stepOn_0 3 rfl) ml_RX7_167 cal_X7_byteAt e56 rfl (lk_X7_byteAt (jE_g E) (jE_tr E) N e54) rfl (Nat.le_of_ble_eq_true rfl) (jR_le hX (by decide) (by decide)) (jF0 hX) rfl ?_
  rintro _ _ ⟨rfl, rfl⟩
  refine J_bipush (v := 32) E (jd dk_X7_stepOn_0 4 rfl) (by decide) ?_
  refine J_icmp_eq (tgt := 26) E (jd dk_X7_stepOn_0 5 rfl) (by decide) (fun c57 => ?_) (fun c57 => ?_)
  · replace hf := jif_t c57 hf
    exact lk_X7_stepOn_b26 E hX hr N hf kb ke0
  · replace hf := jif_f c57 hf
    refine J_aload_n E (jd dk_X7_stepOn_0 6 rfl) rfl 0 rfl ?_
    refine J_aload_n E (jd dk_X7_stepOn_0 7 rfl) rfl 0 rfl ?_
    obtain ⟨x58, e59, hf⟩ := jbind hf
    refine J_geti E (jd dk_X7_stepOn_0 8 rfl) fl_RX7_164 e59 ?_
    obtain ⟨u62, e63, hf⟩ := jbind hf
    obtain ⟨r60, e61, hf⟩ := jbind hf
    refine J_callV E (jd dk_X7_stepOn_0 9 rfl) ml_RX7_167 cal_X7_byteAt e63 rfl (lk_X7_byteAt (jE_g E) (jE_tr E) N e61) rfl (Nat.le_of_ble_eq_true rfl) (jR_le hX (by decide) (by decide)) (jF0 hX) rfl ?_
    rintro _ _ ⟨rfl, rfl⟩
    refine J_bipush (v := 10) E (jd dk_X7_stepOn_0 10 rfl) (by decide) ?_
    refine J_icmp_ne (tgt := 39) E (jd dk_X7_stepOn_0 11 rfl) (by decide) (fun c64 => ?_) (fun c64 => ?_)
    · replace hf := jif_f c64 hf
      exact ke0 _ (Option.some.inj hf).symm
    · replace hf := jif_t c64 hf
      exact lk_X7_stepOn_b26 E hX hr N hf kb ke0
set_option maxRecDepth 100000 in
set_option maxHeartbeats 4000000 in
theorem lk_X7_stepOn_b0 {G : JG} {X : JX} (E : jE G X (RX7, cX7_stepOn, 2)) (hX : X.2.2.2.1 = jRm 1 0 0) (hr : X.2.2.2.2.2.2.2.2.1.sig.returnType = none) (N : Nat) {v0 : Nat} {h : AH}  {r : AH} (hf : f_X7_stepOn_b0 N v0 h = some r) : JW G X (RX7, cX7_stepOn, 2) h [(0, .ref v0)] [] 0 0 0 (jEnd G X (jpv r) 0 0) := by
  unfold f_X7_stepOn_b0 at hf
  obtain ⟨q1, h1, hf⟩ := jbind hf
  refine jloop (P := fun s => JW G X (RX7, cX7_stepOn, 2) s [(0, .ref v0)] [] 0 0 0 (jEnd G X (jpv r) 0 0)) (Ex := fun (e : AH) => JW G X (RX7, cX7_stepOn, 2) e [(0, .ref v0)] [] 39 0 0 (jEnd G X (jpv r) 0 0)) (fun s q hs hb hx => lk_X7_stepOn_l0 E hX hr N hs (fun s' hs => hb s' hs) (fun e he => hx e he)) N _ q1 h1 ?_
  generalize q1 = e at hf ⊢
  refine J_aload_n E (jd dk_X7_stepOn_0 19 rfl) rfl 0 rfl ?_
  refine J_aload_n E (jd dk_X7_stepOn_0 20 rfl) rfl 0 rfl ?_
  obtain ⟨x65, e66, hf⟩ := jbind hf
  refine J_geti E (jd dk_X7_stepOn_0 21 rfl) fl_RX7_164 e66 ?_
  obtain ⟨h67, e68, hf⟩ := jbind hf
  refine J_put E (jd dk_X7_stepOn_0 22 rfl) fl_RX7_171 e68 (fun _ => rfl) (fun _ => rfl) ?_
  refine J_aload_n E (jd dk_X7_stepOn_0 23 rfl) rfl 0 rfl ?_
  refine J_aload_n E (jd dk_X7_stepOn_0 24 rfl) rfl 0 rfl ?_
  obtain ⟨x69, e70, hf⟩ := jbind hf
  refine J_geti E (jd dk_X7_stepOn_0 25 rfl) fl_RX7_164 e70 ?_
  obtain ⟨u73, e74, hf⟩ := jbind hf
  obtain ⟨r71, e72, hf⟩ := jbind hf
  refine J_callV E (jd dk_X7_stepOn_0 26 rfl) ml_RX7_167 cal_X7_byteAt e74 rfl (lk_X7_byteAt (jE_g E) (jE_tr E) N e72) rfl (Nat.le_of_ble_eq_true rfl) (jR_le hX (by decide) (by decide)) (jF0 hX) rfl ?_
  rintro _ _ ⟨rfl, rfl⟩
  refine J_istore_n (lv' := [(1, .int r71.1), (0, .ref v0)]) E (jd dk_X7_stepOn_0 27 rfl) rfl (by decide) rfl ?_
  refine J_iload_n E (jd dk_X7_stepOn_0 28 rfl) rfl 0 rfl ?_
  refine J_iconst (v := (-1)) E (jd dk_X7_stepOn_0 29 rfl) rfl ?_
  refine J_icmp_ne (tgt := 69) E (jd dk_X7_stepOn_0 30 rfl) (by decide) (fun c75 => ?_) (fun c75 => ?_)
  · replace hf := jif_f c75 hf
    refine J_iload_n E (jd dk_X7_stepOn_0 35 rfl) rfl 0 rfl ?_
    obtain ⟨r76, e77, hf⟩ := jbind hf
    refine J_callS E (jd dk_X7_stepOn_0 36 rfl) ml_RX7_177 cal_X7_isLetter (lk_X7_isLetter (jE_g E) (jE_tr E) N e77) rfl (Nat.le_of_ble_eq_true rfl) (jR_le hX (by decide) (by decide)) (jF0 hX) rfl ?_
    rintro _ _ ⟨rfl, rfl⟩
    refine J_if_eq (tgt := 111) E (jd dk_X7_stepOn_0 37 rfl) (by decide) (fun c78 => ?_) (fun c78 => ?_)
    · replace hf := jif_t c78 hf
      refine J_iload_n E (jd dk_X7_stepOn_1 5 rfl) rfl 0 rfl ?_
      obtain ⟨r79, e80, hf⟩ := jbind hf
      refine J_callS E (jd dk_X7_stepOn_1 6 rfl) ml_RX7_181 cal_X7_isDigit (lk_X7_isDigit (jE_g E) (jE_tr E) N e80) rfl (Nat.le_of_ble_eq_true rfl) (jR_le hX (by decide) (by decide)) (jF0 hX) rfl ?_
      rintro _ _ ⟨rfl, rfl⟩
      refine J_if_eq (tgt := 186) E (jd dk_X7_stepOn_1 7 rfl) (by decide) (fun c81 => ?_) (fun c81 => ?_)
      · replace hf := jif_t c81 hf
        refine J_aload_n E (jd dk_X7_stepOn_1 43 rfl) rfl 1 rfl ?_
        refine J_dup E (jd dk_X7_stepOn_1 44 rfl) rfl ?_
        obtain ⟨x82, e83, hf⟩ := jbind hf
        refine J_geti E (jd dk_X7_stepOn_1 45 rfl) fl_RX7_164 e83 ?_
        refine J_iconst (v := 1) E (jd dk_X7_stepOn_1 46 rfl) rfl ?_
        refine J_iadd E (jd dk_X7_stepOn_1 47 rfl) ?_
        obtain ⟨h84, e85, hf⟩ := jbind hf
        refine J_put E (jd dk_X7_stepOn_1 48 rfl) fl_RX7_164 e85 (fun _ => rfl) (fun _ => rfl) ?_
        refine J_aload_n E (jd dk_X7_stepOn_1 49 rfl) rfl 1 rfl ?_
        refine J_iload_n E (jd dk_X7_stepOn_2 0 rfl) rfl 0 rfl ?_
        obtain ⟨r86, e87, hf⟩ := jbind hf
        refine J_callS E (jd dk_X7_stepOn_2 1 rfl) ml_RX7_194 cal_X7_isMark (lk_X7_isMark (jE_g E) (jE_tr E) N e87) rfl (Nat.le_of_ble_eq_true rfl) (jR_le hX (by decide) (by decide)) (jF0 hX) rfl ?_
        rintro _ _ ⟨rfl, rfl⟩
        refine J_if_eq (tgt := 208) E (jd dk_X7_stepOn_2 2 rfl) (by decide) (fun c88 => ?_) (fun c88 => ?_)
        · replace hf := jif_t c88 hf
          refine J_iconst (v := 4) E (jd dk_X7_stepOn_2 5 rfl) rfl ?_
          refine J_sub [1] rfl ?_
          exact lk_X7_stepOn_b209 E hX hr N hf
        · replace hf := jif_f c88 hf
          refine J_iconst (v := 3) E (jd dk_X7_stepOn_2 3 rfl) rfl ?_
          refine J_goto (tgt := 209) E (jd dk_X7_stepOn_2 4 rfl) (by decide) ?_
          refine J_sub [1] rfl ?_
          exact lk_X7_stepOn_b209 E hX hr N hf
      · replace hf := jif_f c81 hf
        refine J_aload_n E (jd dk_X7_stepOn_1 8 rfl) rfl 1 rfl ?_
        refine J_iconst (v := 0) E (jd dk_X7_stepOn_1 9 rfl) rfl ?_
        obtain ⟨h89, e90, hf⟩ := jbind hf
        refine J_put E (jd dk_X7_stepOn_1 10 rfl) fl_RX7_184 e90 (fun _ => rfl) (fun _ => rfl) ?_
        refine J_sub [1] rfl ?_
        exact lk_X7_stepOn_b123 E hX hr N hf
    · replace hf := jif_f c78 hf
      refine J_sub [1] rfl ?_
      exact lk_X7_stepOn_b76 E hX hr N hf
  · replace hf := jif_t c75 hf
    refine J_aload_n E (jd dk_X7_stepOn_0 31 rfl) rfl 1 rfl ?_
    refine J_iconst (v := 0) E (jd dk_X7_stepOn_0 32 rfl) rfl ?_
    obtain ⟨h91, e92, hf⟩ := jbind hf
    refine J_put E (jd dk_X7_stepOn_0 33 rfl) fl_RX7_174 e92 (fun _ => rfl) (fun _ => rfl) ?_
    refine J_goto (tgt := 212) E (jd dk_X7_stepOn_0 34 rfl) (by decide) ?_
    refine J_sub [1] rfl ?_
    exact lk_X7_stepOn_b212 E hX hr N hf
set_option maxRecDepth 100000 in
set_option maxHeartbeats 4000000 in
theorem lk_X7_stepOn {G : JG} {l : Launch} (hG : jG G) (htr : l.stackTraces = false) (N : Nat) {h : AH} {a0 : Nat} {r : AH} (hf : f_X7_stepOn N h a0 = some r) : jMet G l yX7_stepOn cX7_stepOn 2 none 1 0 0 [.ref a0] h (jpv r) := by
  unfold f_X7_stepOn at hf
  refine jMet_of hG htr (by decide) (Nat.le_of_ble_eq_true rfl) ?_
  intro X E hl9 hr hX _ _
  show JW G X (RX7, cX7_stepOn, 2) h [(0, .ref a0)] [] 0 0 0 (jEnd G X (jpv r) 0 0)
  exact lk_X7_stepOn_b0 E hX hr N hf
def f_X7_wrong (N : Nat) (h : AH) (a0 : Nat) (a1 : Int32) : Option AH :=
  (jgi 7 h a0 24).bind fun x1 =>
  if x1 = 0 then (jwi 7 h a0 24 a1).bind fun h4 =>
  (jgi 7 h4 a0 22).bind fun x6 =>
  (jwi 7 h4 a0 25 x6).bind fun h8 =>
  some h8
  else some h
set_option maxRecDepth 100000 in
set_option maxHeartbeats 4000000 in
theorem lk_X7_wrong {G : JG} {l : Launch} (hG : jG G) (htr : l.stackTraces = false) (N : Nat) {h : AH} {a0 : Nat} {a1 : Int32} {r : AH} (hf : f_X7_wrong N h a0 a1 = some r) : jMet G l yX7_wrong cX7_wrong 2 none 0 0 0 [.ref a0, .int a1] h (jpv r) := by
  unfold f_X7_wrong at hf
  refine jMet_of hG htr (by decide) (Nat.le_of_ble_eq_true rfl) ?_
  intro X E hl9 hr hX _ _
  show JW G X (RX7, cX7_wrong, 2) h [(0, .ref a0), (1, .int a1)] [] 0 0 0 (jEnd G X (jpv r) 0 0)
  refine J_aload_n E (jd dk_X7_wrong_0 0 rfl) rfl 0 rfl ?_
  obtain ⟨x1, e2, hf⟩ := jbind hf
  refine J_geti E (jd dk_X7_wrong_0 1 rfl) fl_RX7_200 e2 ?_
  refine J_if_eq (tgt := 8) E (jd dk_X7_wrong_0 2 rfl) (by decide) (fun c3 => ?_) (fun c3 => ?_)
  · replace hf := jif_t c3 hf
    refine J_aload_n E (jd dk_X7_wrong_0 4 rfl) rfl 0 rfl ?_
    refine J_iload_n E (jd dk_X7_wrong_0 5 rfl) rfl 1 rfl ?_
    obtain ⟨h4, e5, hf⟩ := jbind hf
    refine J_put E (jd dk_X7_wrong_0 6 rfl) fl_RX7_200 e5 (fun _ => rfl) (fun _ => rfl) ?_
    refine J_aload_n E (jd dk_X7_wrong_0 7 rfl) rfl 0 rfl ?_
    refine J_aload_n E (jd dk_X7_wrong_0 8 rfl) rfl 0 rfl ?_
    obtain ⟨x6, e7, hf⟩ := jbind hf
    refine J_geti E (jd dk_X7_wrong_0 9 rfl) fl_RX7_171 e7 ?_
    obtain ⟨h8, e9, hf⟩ := jbind hf
    refine J_put E (jd dk_X7_wrong_0 10 rfl) fl_RX7_203 e9 (fun _ => rfl) (fun _ => rfl) ?_
    cases hf
    exact J_vret E hr (jd dk_X7_wrong_0 11 rfl) (Nat.le_refl _) (Nat.le_refl _) ⟨rfl, rfl⟩
  · replace hf := jif_f c3 hf
    cases hf
    exact J_vret E hr (jd dk_X7_wrong_0 3 rfl) (Nat.le_refl _) (Nat.le_refl _) ⟨rfl, rfl⟩
def f_X7_isMarked_b32 (N : Nat)  (h : AH) : Option (Int32 × AH) :=
  some (0, h)
def f_X7_isMarked (N : Nat) (h : AH) (a0 : Nat) (a1 : Int32) : Option (Int32 × AH) :=
  (jgi 7 h a0 24).bind fun x1 =>
  if x1 = 0 then (jgi 7 h a0 20).bind fun x4 =>
  if x4 = 3 then (jgr 7 h a0 16).bind fun x7 =>
  (jgi 7 h a0 22).bind fun x9 =>
  (jal 0 h x7 x9).bind fun x11 =>
  if x11 = a1 then some (1, h)
  else f_X7_isMarked_b32 N  h
  else f_X7_isMarked_b32 N  h
  else f_X7_isMarked_b32 N  h
set_option maxRecDepth 100000 in
set_option maxHeartbeats 4000000 in
theorem lk_X7_isMarked_b32 {G : JG} {X : JX} (E : jE G X (RX7, cX7_isMarked, 2)) (hX : X.2.2.2.1 = jRm 0 0 0) (hr : X.2.2.2.2.2.2.2.2.1.sig.returnType = (some .boolean)) (N : Nat)  {h : AH}  {r : (Int32 × AH)} (hf : f_X7_isMarked_b32 N  h = some r) : JW G X (RX7, cX7_isMarked, 2) h [] [] 32 0 0 (jEnd G X (jpi r) 0 0) := by
  unfold f_X7_isMarked_b32 at hf
  refine J_iconst (v := 0) E (jd dk_X7_isMarked_0 16 rfl) rfl ?_
  cases hf
  exact J_iret E hr rfl (jd dk_X7_isMarked_0 17 rfl) (Nat.le_refl _) (Nat.le_refl _) ⟨rfl, rfl⟩
set_option maxRecDepth 100000 in
set_option maxHeartbeats 4000000 in
theorem lk_X7_isMarked {G : JG} {l : Launch} (hG : jG G) (htr : l.stackTraces = false) (N : Nat) {h : AH} {a0 : Nat} {a1 : Int32} {r : (Int32 × AH)} (hf : f_X7_isMarked N h a0 a1 = some r) : jMet G l yX7_isMarked cX7_isMarked 2 (some .boolean) 0 0 0 [.ref a0, .int a1] h (jpi r) := by
  unfold f_X7_isMarked at hf
  refine jMet_of hG htr (by decide) (Nat.le_of_ble_eq_true rfl) ?_
  intro X E hl9 hr hX _ _
  show JW G X (RX7, cX7_isMarked, 2) h [(0, .ref a0), (1, .int a1)] [] 0 0 0 (jEnd G X (jpi r) 0 0)
  refine J_aload_n E (jd dk_X7_isMarked_0 0 rfl) rfl 0 rfl ?_
  obtain ⟨x1, e2, hf⟩ := jbind hf
  refine J_geti E (jd dk_X7_isMarked_0 1 rfl) fl_RX7_200 e2 ?_
  refine J_if_ne (tgt := 32) E (jd dk_X7_isMarked_0 2 rfl) (by decide) (fun c3 => ?_) (fun c3 => ?_)
  · replace hf := jif_f c3 hf
    refine J_sub [] rfl ?_
    exact lk_X7_isMarked_b32 E hX hr N hf
  · replace hf := jif_t c3 hf
    refine J_aload_n E (jd dk_X7_isMarked_0 3 rfl) rfl 0 rfl ?_
    obtain ⟨x4, e5, hf⟩ := jbind hf
    refine J_geti E (jd dk_X7_isMarked_0 4 rfl) fl_RX7_174 e5 ?_
    refine J_iconst (v := 3) E (jd dk_X7_isMarked_0 5 rfl) rfl ?_
    refine J_icmp_ne (tgt := 32) E (jd dk_X7_isMarked_0 6 rfl) (by decide) (fun c6 => ?_) (fun c6 => ?_)
    · replace hf := jif_f c6 hf
      refine J_sub [] rfl ?_
      exact lk_X7_isMarked_b32 E hX hr N hf
    · replace hf := jif_t c6 hf
      refine J_aload_n E (jd dk_X7_isMarked_0 7 rfl) rfl 0 rfl ?_
      obtain ⟨x7, e8, hf⟩ := jbind hf
      refine J_getr E (jd dk_X7_isMarked_0 8 rfl) fl_RX7_74 e8 ?_
      refine J_aload_n E (jd dk_X7_isMarked_0 9 rfl) rfl 0 rfl ?_
      obtain ⟨x9, e10, hf⟩ := jbind hf
      refine J_geti E (jd dk_X7_isMarked_0 10 rfl) fl_RX7_171 e10 ?_
      obtain ⟨x11, e12, hf⟩ := jbind hf
      refine J_iald E (jd dk_X7_isMarked_0 11 rfl) e12 ?_
      refine J_iload_n E (jd dk_X7_isMarked_0 12 rfl) rfl 1 rfl ?_
      refine J_icmp_ne (tgt := 32) E (jd dk_X7_isMarked_0 13 rfl) (by decide) (fun c13 => ?_) (fun c13 => ?_)
      · replace hf := jif_f c13 hf
        refine J_sub [] rfl ?_
        exact lk_X7_isMarked_b32 E hX hr N hf
      · replace hf := jif_t c13 hf
        refine J_iconst (v := 1) E (jd dk_X7_isMarked_0 14 rfl) rfl ?_
        refine J_goto (tgt := 33) E (jd dk_X7_isMarked_0 15 rfl) (by decide) ?_
        cases hf
        exact J_iret E hr rfl (jd dk_X7_isMarked_0 17 rfl) (Nat.le_refl _) (Nat.le_refl _) ⟨rfl, rfl⟩
def f_X7_mark_b20 (N : Nat) (v0 : Nat) (h : AH) : Option AH :=
  (jgi 7 h v0 24).bind fun x1 =>
  if x1 = 0 then (jck 7 h v0).bind fun _ =>
  (f_X7_stepOn N h v0).bind fun r4 =>
  some r4
  else some h
def f_X7_mark (N : Nat) (h : AH) (a0 : Nat) (a1 : Int32) : Option AH :=
  (jgi 7 h a0 24).bind fun x8 =>
  if x8 = 0 then (jck 7 h a0).bind fun _ =>
  (f_X7_isMarked N h a0 a1).bind fun r11 =>
  if r11.1 = 0 then (jck 7 r11.2 a0).bind fun _ =>
  (f_X7_wrong N r11.2 a0 1).bind fun r16 =>
  f_X7_mark_b20 N a0 r16
  else f_X7_mark_b20 N a0 r11.2
  else f_X7_mark_b20 N a0 h
set_option maxRecDepth 100000 in
set_option maxHeartbeats 4000000 in
theorem lk_X7_mark_b20 {G : JG} {X : JX} (E : jE G X (RX7, cX7_mark, 2)) (hX : X.2.2.2.1 = jRm 2 0 0) (hr : X.2.2.2.2.2.2.2.2.1.sig.returnType = none) (N : Nat) {v0 : Nat} {h : AH}  {r : AH} (hf : f_X7_mark_b20 N v0 h = some r) : JW G X (RX7, cX7_mark, 2) h [(0, .ref v0)] [] 20 0 0 (jEnd G X (jpv r) 0 0) := by
  unfold f_X7_mark_b20 at hf
  refine J_aload_n E (jd dk_X7_mark_0 10 rfl) rfl 0 rfl ?_
  obtain ⟨x1, e2, hf⟩ := jbind hf
  refine J_geti E (jd dk_X7_mark_0 11 rfl) fl_RX7_200 e2 ?_
  refine J_if_ne (tgt := 31) E (jd dk_X7_mark_0 12 rfl) (by decide) (fun c3 => ?_) (fun c3 => ?_)
  · replace hf := jif_f c3 hf
    cases hf
    exact J_vret E hr (jd dk_X7_mark_0 15 rfl) (Nat.le_refl _) (Nat.le_refl _) ⟨rfl, rfl⟩
  · replace hf := jif_t c3 hf
    refine J_aload_n E (jd dk_X7_mark_0 13 rfl) rfl 0 rfl ?_
    obtain ⟨u6, e7, hf⟩ := jbind hf
    obtain ⟨r4, e5, hf⟩ := jbind hf
    refine J_callV E (jd dk_X7_mark_0 14 rfl) ml_RX7_225 cal_X7_stepOn e7 rfl (lk_X7_stepOn (jE_g E) (jE_tr E) N e5) rfl (Nat.le_of_ble_eq_true rfl) (jR_le hX (by decide) (by decide)) (jF0 hX) rfl ?_
    rintro _ _ ⟨rfl, rfl⟩
    cases hf
    exact J_vret E hr (jd dk_X7_mark_0 15 rfl) (Nat.le_refl _) (Nat.le_refl _) ⟨rfl, rfl⟩
set_option maxRecDepth 100000 in
set_option maxHeartbeats 4000000 in
theorem lk_X7_mark {G : JG} {l : Launch} (hG : jG G) (htr : l.stackTraces = false) (N : Nat) {h : AH} {a0 : Nat} {a1 : Int32} {r : AH} (hf : f_X7_mark N h a0 a1 = some r) : jMet G l yX7_mark cX7_mark 2 none 2 0 0 [.ref a0, .int a1] h (jpv r) := by
  unfold f_X7_mark at hf
  refine jMet_of hG htr (by decide) (Nat.le_of_ble_eq_true rfl) ?_
  intro X E hl9 hr hX _ _
  show JW G X (RX7, cX7_mark, 2) h [(0, .ref a0), (1, .int a1)] [] 0 0 0 (jEnd G X (jpv r) 0 0)
  refine J_aload_n E (jd dk_X7_mark_0 0 rfl) rfl 0 rfl ?_
  obtain ⟨x8, e9, hf⟩ := jbind hf
  refine J_geti E (jd dk_X7_mark_0 1 rfl) fl_RX7_200 e9 ?_
  refine J_if_ne (tgt := 20) E (jd dk_X7_mark_0 2 rfl) (by decide) (fun c10 => ?_) (fun c10 => ?_)
  · replace hf := jif_f c10 hf
    refine J_sub [0] rfl ?_
    exact lk_X7_mark_b20 E hX hr N hf
  · replace hf := jif_t c10 hf
    refine J_aload_n E (jd dk_X7_mark_0 3 rfl) rfl 0 rfl ?_
    refine J_iload_n E (jd dk_X7_mark_0 4 rfl) rfl 1 rfl ?_
    obtain ⟨u13, e14, hf⟩ := jbind hf
    obtain ⟨r11, e12, hf⟩ := jbind hf
    refine J_callV E (jd dk_X7_mark_0 5 rfl) ml_RX7_218 cal_X7_isMarked e14 rfl (lk_X7_isMarked (jE_g E) (jE_tr E) N e12) rfl (Nat.le_of_ble_eq_true rfl) (jR_le hX (by decide) (by decide)) (jF0 hX) rfl ?_
    rintro _ _ ⟨rfl, rfl⟩
    refine J_if_ne (tgt := 20) E (jd dk_X7_mark_0 6 rfl) (by decide) (fun c15 => ?_) (fun c15 => ?_)
    · replace hf := jif_f c15 hf
      refine J_sub [0] rfl ?_
      exact lk_X7_mark_b20 E hX hr N hf
    · replace hf := jif_t c15 hf
      refine J_aload_n E (jd dk_X7_mark_0 7 rfl) rfl 0 rfl ?_
      refine J_iconst (v := 1) E (jd dk_X7_mark_0 8 rfl) rfl ?_
      obtain ⟨u18, e19, hf⟩ := jbind hf
      obtain ⟨r16, e17, hf⟩ := jbind hf
      refine J_callV E (jd dk_X7_mark_0 9 rfl) ml_RX7_221 cal_X7_wrong e19 rfl (lk_X7_wrong (jE_g E) (jE_tr E) N e17) rfl (Nat.le_of_ble_eq_true rfl) (jR_le hX (by decide) (by decide)) (jF0 hX) rfl ?_
      rintro _ _ ⟨rfl, rfl⟩
      refine J_sub [0] rfl ?_
      exact lk_X7_mark_b20 E hX hr N hf
def f_X7_numberNow_b59 (N : Nat) (v0 : Nat) (h : AH) : Option (Int32 × AH) :=
  (jgi 7 h v0 24).bind fun x1 =>
  if x1 = 0 then (jgi 7 h v0 21).bind fun x4 =>
  some (x4, h)
  else some (0, h)
def f_X7_numberNow_b54 (N : Nat) (v0 : Nat) (h : AH) : Option (Int32 × AH) :=
  (jck 7 h v0).bind fun _ =>
  (f_X7_wrong N h v0 2).bind fun r6 =>
  f_X7_numberNow_b59 N v0 r6
def f_X7_numberNow (N : Nat) (h : AH) (a0 : Nat) (a1 : Int32) (a2 : Int32) : Option (Int32 × AH) :=
  (jgi 7 h a0 24).bind fun x10 =>
  if x10 = 0 then (jgi 7 h a0 20).bind fun x13 =>
  if x13 = 2 then (jgi 7 h a0 23).bind fun x16 =>
  (jgi 7 h a0 22).bind fun x18 =>
  if 4 < (x16 - x18) then f_X7_numberNow_b54 N a0 h
  else (jgi 7 h a0 21).bind fun x21 =>
  if x21 < a1 then f_X7_numberNow_b54 N a0 h
  else (jgi 7 h a0 21).bind fun x24 =>
  if x24 ≤ a2 then f_X7_numberNow_b59 N a0 h
  else f_X7_numberNow_b54 N a0 h
  else (jck 7 h a0).bind fun _ =>
  (f_X7_wrong N h a0 1).bind fun r27 =>
  f_X7_numberNow_b59 N a0 r27
  else some (0, h)
set_option maxRecDepth 100000 in
set_option maxHeartbeats 4000000 in
theorem lk_X7_numberNow_b59 {G : JG} {X : JX} (E : jE G X (RX7, cX7_numberNow, 3)) (hX : X.2.2.2.1 = jRm 1 0 0) (hr : X.2.2.2.2.2.2.2.2.1.sig.returnType = (some .int)) (N : Nat) {v0 : Nat} {h : AH}  {r : (Int32 × AH)} (hf : f_X7_numberNow_b59 N v0 h = some r) : JW G X (RX7, cX7_numberNow, 3) h [(0, .ref v0)] [] 59 0 0 (jEnd G X (jpi r) 0 0) := by
  unfold f_X7_numberNow_b59 at hf
  refine J_aload_n E (jd dk_X7_numberNow_0 31 rfl) rfl 0 rfl ?_
  obtain ⟨x1, e2, hf⟩ := jbind hf
  refine J_geti E (jd dk_X7_numberNow_0 32 rfl) fl_RX7_200 e2 ?_
  refine J_if_ne (tgt := 73) E (jd dk_X7_numberNow_0 33 rfl) (by decide) (fun c3 => ?_) (fun c3 => ?_)
  · replace hf := jif_f c3 hf
    refine J_iconst (v := 0) E (jd dk_X7_numberNow_0 37 rfl) rfl ?_
    cases hf
    exact J_iret E hr rfl (jd dk_X7_numberNow_0 38 rfl) (Nat.le_refl _) (Nat.le_refl _) ⟨rfl, rfl⟩
  · replace hf := jif_t c3 hf
    refine J_aload_n E (jd dk_X7_numberNow_0 34 rfl) rfl 0 rfl ?_
    obtain ⟨x4, e5, hf⟩ := jbind hf
    refine J_geti E (jd dk_X7_numberNow_0 35 rfl) fl_RX7_184 e5 ?_
    refine J_goto (tgt := 74) E (jd dk_X7_numberNow_0 36 rfl) (by decide) ?_
    cases hf
    exact J_iret E hr rfl (jd dk_X7_numberNow_0 38 rfl) (Nat.le_refl _) (Nat.le_refl _) ⟨rfl, rfl⟩
set_option maxRecDepth 100000 in
set_option maxHeartbeats 4000000 in
theorem lk_X7_numberNow_b54 {G : JG} {X : JX} (E : jE G X (RX7, cX7_numberNow, 3)) (hX : X.2.2.2.1 = jRm 1 0 0) (hr : X.2.2.2.2.2.2.2.2.1.sig.returnType = (some .int)) (N : Nat) {v0 : Nat} {h : AH}  {r : (Int32 × AH)} (hf : f_X7_numberNow_b54 N v0 h = some r) : JW G X (RX7, cX7_numberNow, 3) h [(0, .ref v0)] [] 54 0 0 (jEnd G X (jpi r) 0 0) := by
  unfold f_X7_numberNow_b54 at hf
  refine J_aload_n E (jd dk_X7_numberNow_0 28 rfl) rfl 0 rfl ?_
  refine J_iconst (v := 2) E (jd dk_X7_numberNow_0 29 rfl) rfl ?_
  obtain ⟨u8, e9, hf⟩ := jbind hf
  obtain ⟨r6, e7, hf⟩ := jbind hf
  refine J_callV E (jd dk_X7_numberNow_0 30 rfl) ml_RX7_221 cal_X7_wrong e9 rfl (lk_X7_wrong (jE_g E) (jE_tr E) N e7) rfl (Nat.le_of_ble_eq_true rfl) (jR_le hX (by decide) (by decide)) (jF0 hX) rfl ?_
  rintro _ _ ⟨rfl, rfl⟩
  exact lk_X7_numberNow_b59 E hX hr N hf
set_option maxRecDepth 100000 in
set_option maxHeartbeats 4000000 in
theorem lk_X7_numberNow {G : JG} {l : Launch} (hG : jG G) (htr : l.stackTraces = false) (N : Nat) {h : AH} {a0 : Nat} {a1 : Int32} {a2 : Int32} {r : (Int32 × AH)} (hf : f_X7_numberNow N h a0 a1 a2 = some r) : jMet G l yX7_numberNow cX7_numberNow 3 (some .int) 1 0 0 [.ref a0, .int a1, .int a2] h (jpi r) := by
  unfold f_X7_numberNow at hf
  refine jMet_of hG htr (by decide) (Nat.le_of_ble_eq_true rfl) ?_
  intro X E hl9 hr hX _ _
  show JW G X (RX7, cX7_numberNow, 3) h [(0, .ref a0), (1, .int a1), (2, .int a2)] [] 0 0 0 (jEnd G X (jpi r) 0 0)
  refine J_aload_n E (jd dk_X7_numberNow_0 0 rfl) rfl 0 rfl ?_
  obtain ⟨x10, e11, hf⟩ := jbind hf
  refine J_geti E (jd dk_X7_numberNow_0 1 rfl) fl_RX7_200 e11 ?_
  refine J_if_eq (tgt := 9) E (jd dk_X7_numberNow_0 2 rfl) (by decide) (fun c12 => ?_) (fun c12 => ?_)
  · replace hf := jif_t c12 hf
    refine J_aload_n E (jd dk_X7_numberNow_0 5 rfl) rfl 0 rfl ?_
    obtain ⟨x13, e14, hf⟩ := jbind hf
    refine J_geti E (jd dk_X7_numberNow_0 6 rfl) fl_RX7_174 e14 ?_
    refine J_iconst (v := 2) E (jd dk_X7_numberNow_0 7 rfl) rfl ?_
    refine J_icmp_eq (tgt := 25) E (jd dk_X7_numberNow_0 8 rfl) (by decide) (fun c15 => ?_) (fun c15 => ?_)
    · replace hf := jif_t c15 hf
      refine J_aload_n E (jd dk_X7_numberNow_0 13 rfl) rfl 0 rfl ?_
      obtain ⟨x16, e17, hf⟩ := jbind hf
      refine J_geti E (jd dk_X7_numberNow_0 14 rfl) fl_RX7_197 e17 ?_
      refine J_aload_n E (jd dk_X7_numberNow_0 15 rfl) rfl 0 rfl ?_
      obtain ⟨x18, e19, hf⟩ := jbind hf
      refine J_geti E (jd dk_X7_numberNow_0 16 rfl) fl_RX7_171 e19 ?_
      refine J_isub E (jd dk_X7_numberNow_0 17 rfl) ?_
      refine J_iconst (v := 4) E (jd dk_X7_numberNow_0 18 rfl) rfl ?_
      refine J_icmp_gt (tgt := 54) E (jd dk_X7_numberNow_0 19 rfl) (by decide) (fun c20 => ?_) (fun c20 => ?_)
      · replace hf := jif_t c20 hf
        refine J_sub [0] rfl ?_
        exact lk_X7_numberNow_b54 E hX hr N hf
      · replace hf := jif_f c20 hf
        refine J_aload_n E (jd dk_X7_numberNow_0 20 rfl) rfl 0 rfl ?_
        obtain ⟨x21, e22, hf⟩ := jbind hf
        refine J_geti E (jd dk_X7_numberNow_0 21 rfl) fl_RX7_184 e22 ?_
        refine J_iload_n E (jd dk_X7_numberNow_0 22 rfl) rfl 1 rfl ?_
        refine J_icmp_lt (tgt := 54) E (jd dk_X7_numberNow_0 23 rfl) (by decide) (fun c23 => ?_) (fun c23 => ?_)
        · replace hf := jif_t c23 hf
          refine J_sub [0] rfl ?_
          exact lk_X7_numberNow_b54 E hX hr N hf
        · replace hf := jif_f c23 hf
          refine J_aload_n E (jd dk_X7_numberNow_0 24 rfl) rfl 0 rfl ?_
          obtain ⟨x24, e25, hf⟩ := jbind hf
          refine J_geti E (jd dk_X7_numberNow_0 25 rfl) fl_RX7_184 e25 ?_
          refine J_iload_n E (jd dk_X7_numberNow_0 26 rfl) rfl 2 rfl ?_
          refine J_icmp_le (tgt := 59) E (jd dk_X7_numberNow_0 27 rfl) (by decide) (fun c26 => ?_) (fun c26 => ?_)
          · replace hf := jif_t c26 hf
            refine J_sub [0] rfl ?_
            exact lk_X7_numberNow_b59 E hX hr N hf
          · replace hf := jif_f c26 hf
            refine J_sub [0] rfl ?_
            exact lk_X7_numberNow_b54 E hX hr N hf
    · replace hf := jif_f c15 hf
      refine J_aload_n E (jd dk_X7_numberNow_0 9 rfl) rfl 0 rfl ?_
      refine J_iconst (v := 1) E (jd dk_X7_numberNow_0 10 rfl) rfl ?_
      obtain ⟨u29, e30, hf⟩ := jbind hf
      obtain ⟨r27, e28, hf⟩ := jbind hf
      refine J_callV E (jd dk_X7_numberNow_0 11 rfl) ml_RX7_221 cal_X7_wrong e30 rfl (lk_X7_wrong (jE_g E) (jE_tr E) N e28) rfl (Nat.le_of_ble_eq_true rfl) (jR_le hX (by decide) (by decide)) (jF0 hX) rfl ?_
      rintro _ _ ⟨rfl, rfl⟩
      refine J_goto (tgt := 59) E (jd dk_X7_numberNow_0 12 rfl) (by decide) ?_
      refine J_sub [0] rfl ?_
      exact lk_X7_numberNow_b59 E hX hr N hf
  · replace hf := jif_f c12 hf
    refine J_iconst (v := 0) E (jd dk_X7_numberNow_0 3 rfl) rfl ?_
    cases hf
    exact J_iret E hr rfl (jd dk_X7_numberNow_0 4 rfl) (Nat.le_refl _) (Nat.le_refl _) ⟨rfl, rfl⟩
def f_X7_readNumber (N : Nat) (h : AH) (a0 : Nat) (a1 : Int32) (a2 : Int32) : Option (Int32 × AH) :=
  (jck 7 h a0).bind fun _ =>
  (f_X7_numberNow N h a0 a1 a2).bind fun r1 =>
  (jgi 7 r1.2 a0 24).bind fun x5 =>
  if x5 = 0 then (jck 7 r1.2 a0).bind fun _ =>
  (f_X7_stepOn N r1.2 a0).bind fun r8 =>
  some (r1.1, r8)
  else some (r1.1, r1.2)
set_option maxRecDepth 100000 in
set_option maxHeartbeats 4000000 in
theorem lk_X7_readNumber {G : JG} {l : Launch} (hG : jG G) (htr : l.stackTraces = false) (N : Nat) {h : AH} {a0 : Nat} {a1 : Int32} {a2 : Int32} {r : (Int32 × AH)} (hf : f_X7_readNumber N h a0 a1 a2 = some r) : jMet G l yX7_readNumber cX7_readNumber 4 (some .int) 2 0 0 [.ref a0, .int a1, .int a2] h (jpi r) := by
  unfold f_X7_readNumber at hf
  refine jMet_of hG htr (by decide) (Nat.le_of_ble_eq_true rfl) ?_
  intro X E hl9 hr hX _ _
  show JW G X (RX7, cX7_readNumber, 4) h [(0, .ref a0), (1, .int a1), (2, .int a2)] [] 0 0 0 (jEnd G X (jpi r) 0 0)
  refine J_aload_n E (jd dk_X7_readNumber_0 0 rfl) rfl 0 rfl ?_
  refine J_iload_n E (jd dk_X7_readNumber_0 1 rfl) rfl 1 rfl ?_
  refine J_iload_n E (jd dk_X7_readNumber_0 2 rfl) rfl 2 rfl ?_
  obtain ⟨u3, e4, hf⟩ := jbind hf
  obtain ⟨r1, e2, hf⟩ := jbind hf
  refine J_callV E (jd dk_X7_readNumber_0 3 rfl) ml_RX7_228 cal_X7_numberNow e4 rfl (lk_X7_numberNow (jE_g E) (jE_tr E) N e2) rfl (Nat.le_of_ble_eq_true rfl) (jR_le hX (by decide) (by decide)) (jF0 hX) rfl ?_
  rintro _ _ ⟨rfl, rfl⟩
  refine J_istore_n (lv' := [(3, .int r1.1), (0, .ref a0), (1, .int a1), (2, .int a2)]) E (jd dk_X7_readNumber_0 4 rfl) rfl (by decide) rfl ?_
  refine J_aload_n E (jd dk_X7_readNumber_0 5 rfl) rfl 1 rfl ?_
  obtain ⟨x5, e6, hf⟩ := jbind hf
  refine J_geti E (jd dk_X7_readNumber_0 6 rfl) fl_RX7_200 e6 ?_
  refine J_if_ne (tgt := 18) E (jd dk_X7_readNumber_0 7 rfl) (by decide) (fun c7 => ?_) (fun c7 => ?_)
  · replace hf := jif_f c7 hf
    refine J_iload_n E (jd dk_X7_readNumber_0 10 rfl) rfl 0 rfl ?_
    cases hf
    exact J_iret E hr rfl (jd dk_X7_readNumber_0 11 rfl) (Nat.le_refl _) (Nat.le_refl _) ⟨rfl, rfl⟩
  · replace hf := jif_t c7 hf
    refine J_aload_n E (jd dk_X7_readNumber_0 8 rfl) rfl 1 rfl ?_
    obtain ⟨u10, e11, hf⟩ := jbind hf
    obtain ⟨r8, e9, hf⟩ := jbind hf
    refine J_callV E (jd dk_X7_readNumber_0 9 rfl) ml_RX7_225 cal_X7_stepOn e11 rfl (lk_X7_stepOn (jE_g E) (jE_tr E) N e9) rfl (Nat.le_of_ble_eq_true rfl) (jR_le hX (by decide) (by decide)) (jF0 hX) rfl ?_
    rintro _ _ ⟨rfl, rfl⟩
    refine J_iload_n E (jd dk_X7_readNumber_0 10 rfl) rfl 0 rfl ?_
    cases hf
    exact J_iret E hr rfl (jd dk_X7_readNumber_0 11 rfl) (Nat.le_refl _) (Nat.le_refl _) ⟨rfl, rfl⟩
def f_X7_lay_b41 (N : Nat) (v0 : Nat) (v1 : Int32) (v2 : Int32) (w0 : Nat) (h : AH) : Option AH :=
  (jgr 7 h v0 5).bind fun x1 =>
  (jal 0 h x1 v2).bind fun x3 =>
  (jas 0 h w0 ((700 : Int32) + x3) v1).bind fun h5 =>
  (jgr 7 h5 v0 5).bind fun x7 =>
  (jal 0 h5 x7 v2).bind fun x9 =>
  (jas 0 h5 x7 v2 (x9 + 1)).bind fun h11 =>
  some h11
def f_X7_lay_b21 (N : Nat) (v0 : Nat) (v1 : Int32) (w0 : Int32) (w1 : Int32) (h : AH) : Option AH :=
  (jgi 7 h v0 27).bind fun x13 =>
  if x13 = 0 then (jgr 7 h v0 12).bind fun x16 =>
  f_X7_lay_b41 N v0 v1 (w0 + w1) x16 h
  else (jgr 7 h v0 13).bind fun x18 =>
  f_X7_lay_b41 N v0 v1 (w0 + w1) x18 h
def f_X7_lay (N : Nat) (h : AH) (a0 : Nat) (a1 : Int32) : Option AH :=
  (jgi 7 h a0 24).bind fun x20 =>
  if x20 = 0 then (jgi 7 h a0 27).bind fun x23 =>
  if x23 = 0 then f_X7_lay_b21 N a0 a1 5 3 h
  else f_X7_lay_b21 N a0 a1 5 4 h
  else some h
set_option maxRecDepth 100000 in
set_option maxHeartbeats 4000000 in
theorem lk_X7_lay_b41 {G : JG} {X : JX} (E : jE G X (RX7, cX7_lay, 4)) (hX : X.2.2.2.1 = jRm 0 0 0) (hr : X.2.2.2.2.2.2.2.2.1.sig.returnType = none) (N : Nat) {v0 : Nat} {v1 : Int32} {v2 : Int32} {w0 : Nat} {h : AH}  {r : AH} (hf : f_X7_lay_b41 N v0 v1 v2 w0 h = some r) : JW G X (RX7, cX7_lay, 4) h [(0, .ref v0), (1, .int v1), (2, .int v2)] [.ref w0] 41 0 0 (jEnd G X (jpv r) 0 0) := by
  unfold f_X7_lay_b41 at hf
  refine J_astore_n (lv' := [(3, .ref w0), (0, .ref v0), (1, .int v1), (2, .int v2)]) E (jd dk_X7_lay_0 21 rfl) rfl (by decide) rfl ?_
  refine J_aload_n E (jd dk_X7_lay_0 22 rfl) rfl 0 rfl ?_
  refine J_sipush (v := 700) E (jd dk_X7_lay_0 23 rfl) (by decide) ?_
  refine J_aload_n E (jd dk_X7_lay_0 24 rfl) rfl 1 rfl ?_
  obtain ⟨x1, e2, hf⟩ := jbind hf
  refine J_getr E (jd dk_X7_lay_0 25 rfl) fl_RX7_42 e2 ?_
  refine J_iload_n E (jd dk_X7_lay_0 26 rfl) rfl 3 rfl ?_
  obtain ⟨x3, e4, hf⟩ := jbind hf
  refine J_iald E (jd dk_X7_lay_0 27 rfl) e4 ?_
  refine J_iadd E (jd dk_X7_lay_0 28 rfl) ?_
  refine J_iload_n E (jd dk_X7_lay_0 29 rfl) rfl 2 rfl ?_
  obtain ⟨h5, e6, hf⟩ := jbind hf
  refine J_iast E (jd dk_X7_lay_0 30 rfl) e6 ?_
  refine J_aload_n E (jd dk_X7_lay_0 31 rfl) rfl 1 rfl ?_
  obtain ⟨x7, e8, hf⟩ := jbind hf
  refine J_getr E (jd dk_X7_lay_0 32 rfl) fl_RX7_42 e8 ?_
  refine J_iload_n E (jd dk_X7_lay_0 33 rfl) rfl 3 rfl ?_
  refine J_dup2 E (jd dk_X7_lay_0 34 rfl) rfl rfl ?_
  obtain ⟨x9, e10, hf⟩ := jbind hf
  refine J_iald E (jd dk_X7_lay_0 35 rfl) e10 ?_
  refine J_iconst (v := 1) E (jd dk_X7_lay_0 36 rfl) rfl ?_
  refine J_iadd E (jd dk_X7_lay_0 37 rfl) ?_
  obtain ⟨h11, e12, hf⟩ := jbind hf
  refine J_iast E (jd dk_X7_lay_0 38 rfl) e12 ?_
  cases hf
  exact J_vret E hr (jd dk_X7_lay_0 39 rfl) (Nat.le_refl _) (Nat.le_refl _) ⟨rfl, rfl⟩
set_option maxRecDepth 100000 in
set_option maxHeartbeats 4000000 in
theorem lk_X7_lay_b21 {G : JG} {X : JX} (E : jE G X (RX7, cX7_lay, 4)) (hX : X.2.2.2.1 = jRm 0 0 0) (hr : X.2.2.2.2.2.2.2.2.1.sig.returnType = none) (N : Nat) {v0 : Nat} {v1 : Int32} {w0 : Int32} {w1 : Int32} {h : AH}  {r : AH} (hf : f_X7_lay_b21 N v0 v1 w0 w1 h = some r) : JW G X (RX7, cX7_lay, 4) h [(0, .ref v0), (1, .int v1)] [.int w1, .int w0] 21 0 0 (jEnd G X (jpv r) 0 0) := by
  unfold f_X7_lay_b21 at hf
  refine J_iadd E (jd dk_X7_lay_0 11 rfl) ?_
  refine J_istore_n (lv' := [(2, .int (w0 + w1)), (0, .ref v0), (1, .int v1)]) E (jd dk_X7_lay_0 12 rfl) rfl (by decide) rfl ?_
  refine J_aload_n E (jd dk_X7_lay_0 13 rfl) rfl 1 rfl ?_
  obtain ⟨x13, e14, hf⟩ := jbind hf
  refine J_geti E (jd dk_X7_lay_0 14 rfl) fl_RX7_231 e14 ?_
  refine J_if_eq (tgt := 37) E (jd dk_X7_lay_0 15 rfl) (by decide) (fun c15 => ?_) (fun c15 => ?_)
  · replace hf := jif_t c15 hf
    refine J_aload_n E (jd dk_X7_lay_0 19 rfl) rfl 1 rfl ?_
    obtain ⟨x16, e17, hf⟩ := jbind hf
    refine J_getr E (jd dk_X7_lay_0 20 rfl) fl_RX7_63 e17 ?_
    refine J_sub [1, 2, 0] rfl ?_
    exact lk_X7_lay_b41 E hX hr N hf
  · replace hf := jif_f c15 hf
    refine J_aload_n E (jd dk_X7_lay_0 16 rfl) rfl 1 rfl ?_
    obtain ⟨x18, e19, hf⟩ := jbind hf
    refine J_getr E (jd dk_X7_lay_0 17 rfl) fl_RX7_66 e19 ?_
    refine J_goto (tgt := 41) E (jd dk_X7_lay_0 18 rfl) (by decide) ?_
    refine J_sub [1, 2, 0] rfl ?_
    exact lk_X7_lay_b41 E hX hr N hf
set_option maxRecDepth 100000 in
set_option maxHeartbeats 4000000 in
theorem lk_X7_lay {G : JG} {l : Launch} (hG : jG G) (htr : l.stackTraces = false) (N : Nat) {h : AH} {a0 : Nat} {a1 : Int32} {r : AH} (hf : f_X7_lay N h a0 a1 = some r) : jMet G l yX7_lay cX7_lay 4 none 0 0 0 [.ref a0, .int a1] h (jpv r) := by
  unfold f_X7_lay at hf
  refine jMet_of hG htr (by decide) (Nat.le_of_ble_eq_true rfl) ?_
  intro X E hl9 hr hX _ _
  show JW G X (RX7, cX7_lay, 4) h [(0, .ref a0), (1, .int a1)] [] 0 0 0 (jEnd G X (jpv r) 0 0)
  refine J_aload_n E (jd dk_X7_lay_0 0 rfl) rfl 0 rfl ?_
  obtain ⟨x20, e21, hf⟩ := jbind hf
  refine J_geti E (jd dk_X7_lay_0 1 rfl) fl_RX7_200 e21 ?_
  refine J_if_eq (tgt := 8) E (jd dk_X7_lay_0 2 rfl) (by decide) (fun c22 => ?_) (fun c22 => ?_)
  · replace hf := jif_t c22 hf
    refine J_iconst (v := 5) E (jd dk_X7_lay_0 4 rfl) rfl ?_
    refine J_aload_n E (jd dk_X7_lay_0 5 rfl) rfl 0 rfl ?_
    obtain ⟨x23, e24, hf⟩ := jbind hf
    refine J_geti E (jd dk_X7_lay_0 6 rfl) fl_RX7_231 e24 ?_
    refine J_if_eq (tgt := 20) E (jd dk_X7_lay_0 7 rfl) (by decide) (fun c25 => ?_) (fun c25 => ?_)
    · replace hf := jif_t c25 hf
      refine J_iconst (v := 3) E (jd dk_X7_lay_0 10 rfl) rfl ?_
      exact lk_X7_lay_b21 E hX hr N hf
    · replace hf := jif_f c25 hf
      refine J_iconst (v := 4) E (jd dk_X7_lay_0 8 rfl) rfl ?_
      refine J_goto (tgt := 21) E (jd dk_X7_lay_0 9 rfl) (by decide) ?_
      exact lk_X7_lay_b21 E hX hr N hf
  · replace hf := jif_f c22 hf
    cases hf
    exact J_vret E hr (jd dk_X7_lay_0 3 rfl) (Nat.le_refl _) (Nat.le_refl _) ⟨rfl, rfl⟩
def f_X7_another_b17 (N : Nat) (v0 : Nat) (h : AH) : Option (Int32 × AH) :=
  (jgi 7 h v0 24).bind fun x1 =>
  if x1 = 0 then (jck 7 h v0).bind fun _ =>
  (f_X7_stepOn N h v0).bind fun r4 =>
  some (1, r4)
  else some (0, h)
def f_X7_another (N : Nat) (h : AH) (a0 : Nat) (a1 : Int32) (a2 : Int32) : Option (Int32 × AH) :=
  (jgr 7 h a0 5).bind fun x8 =>
  (jal 0 h x8 ((5 : Int32) + a1)).bind fun x10 =>
  if x10 = a2 then (jck 7 h a0).bind fun _ =>
  (f_X7_wrong N h a0 2).bind fun r13 =>
  f_X7_another_b17 N a0 r13
  else f_X7_another_b17 N a0 h
set_option maxRecDepth 100000 in
set_option maxHeartbeats 4000000 in
theorem lk_X7_another_b17 {G : JG} {X : JX} (E : jE G X (RX7, cX7_another, 3)) (hX : X.2.2.2.1 = jRm 2 0 0) (hr : X.2.2.2.2.2.2.2.2.1.sig.returnType = (some .boolean)) (N : Nat) {v0 : Nat} {h : AH}  {r : (Int32 × AH)} (hf : f_X7_another_b17 N v0 h = some r) : JW G X (RX7, cX7_another, 3) h [(0, .ref v0)] [] 17 0 0 (jEnd G X (jpi r) 0 0) := by
  unfold f_X7_another_b17 at hf
  refine J_aload_n E (jd dk_X7_another_0 11 rfl) rfl 0 rfl ?_
  obtain ⟨x1, e2, hf⟩ := jbind hf
  refine J_geti E (jd dk_X7_another_0 12 rfl) fl_RX7_200 e2 ?_
  refine J_if_eq (tgt := 26) E (jd dk_X7_another_0 13 rfl) (by decide) (fun c3 => ?_) (fun c3 => ?_)
  · replace hf := jif_t c3 hf
    refine J_aload_n E (jd dk_X7_another_0 16 rfl) rfl 0 rfl ?_
    obtain ⟨u6, e7, hf⟩ := jbind hf
    obtain ⟨r4, e5, hf⟩ := jbind hf
    refine J_callV E (jd dk_X7_another_0 17 rfl) ml_RX7_225 cal_X7_stepOn e7 rfl (lk_X7_stepOn (jE_g E) (jE_tr E) N e5) rfl (Nat.le_of_ble_eq_true rfl) (jR_le hX (by decide) (by decide)) (jF0 hX) rfl ?_
    rintro _ _ ⟨rfl, rfl⟩
    refine J_iconst (v := 1) E (jd dk_X7_another_0 18 rfl) rfl ?_
    cases hf
    exact J_iret E hr rfl (jd dk_X7_another_0 19 rfl) (Nat.le_refl _) (Nat.le_refl _) ⟨rfl, rfl⟩
  · replace hf := jif_f c3 hf
    refine J_iconst (v := 0) E (jd dk_X7_another_0 14 rfl) rfl ?_
    cases hf
    exact J_iret E hr rfl (jd dk_X7_another_0 15 rfl) (Nat.le_refl _) (Nat.le_refl _) ⟨rfl, rfl⟩
set_option maxRecDepth 100000 in
set_option maxHeartbeats 4000000 in
theorem lk_X7_another {G : JG} {l : Launch} (hG : jG G) (htr : l.stackTraces = false) (N : Nat) {h : AH} {a0 : Nat} {a1 : Int32} {a2 : Int32} {r : (Int32 × AH)} (hf : f_X7_another N h a0 a1 a2 = some r) : jMet G l yX7_another cX7_another 3 (some .boolean) 2 0 0 [.ref a0, .int a1, .int a2] h (jpi r) := by
  unfold f_X7_another at hf
  refine jMet_of hG htr (by decide) (Nat.le_of_ble_eq_true rfl) ?_
  intro X E hl9 hr hX _ _
  show JW G X (RX7, cX7_another, 3) h [(0, .ref a0), (1, .int a1), (2, .int a2)] [] 0 0 0 (jEnd G X (jpi r) 0 0)
  refine J_aload_n E (jd dk_X7_another_0 0 rfl) rfl 0 rfl ?_
  obtain ⟨x8, e9, hf⟩ := jbind hf
  refine J_getr E (jd dk_X7_another_0 1 rfl) fl_RX7_42 e9 ?_
  refine J_iconst (v := 5) E (jd dk_X7_another_0 2 rfl) rfl ?_
  refine J_iload_n E (jd dk_X7_another_0 3 rfl) rfl 1 rfl ?_
  refine J_iadd E (jd dk_X7_another_0 4 rfl) ?_
  obtain ⟨x10, e11, hf⟩ := jbind hf
  refine J_iald E (jd dk_X7_another_0 5 rfl) e11 ?_
  refine J_iload_n E (jd dk_X7_another_0 6 rfl) rfl 2 rfl ?_
  refine J_icmp_ne (tgt := 17) E (jd dk_X7_another_0 7 rfl) (by decide) (fun c12 => ?_) (fun c12 => ?_)
  · replace hf := jif_f c12 hf
    refine J_sub [0] rfl ?_
    exact lk_X7_another_b17 E hX hr N hf
  · replace hf := jif_t c12 hf
    refine J_aload_n E (jd dk_X7_another_0 8 rfl) rfl 0 rfl ?_
    refine J_iconst (v := 2) E (jd dk_X7_another_0 9 rfl) rfl ?_
    obtain ⟨u15, e16, hf⟩ := jbind hf
    obtain ⟨r13, e14, hf⟩ := jbind hf
    refine J_callV E (jd dk_X7_another_0 10 rfl) ml_RX7_221 cal_X7_wrong e16 rfl (lk_X7_wrong (jE_g E) (jE_tr E) N e14) rfl (Nat.le_of_ble_eq_true rfl) (jR_le hX (by decide) (by decide)) (jF0 hX) rfl ?_
    rintro _ _ ⟨rfl, rfl⟩
    refine J_sub [0] rfl ?_
    exact lk_X7_another_b17 E hX hr N hf
def f_X7_sayReach (N : Nat) (h : AH) (a0 : Nat) : Option AH :=
  (jck 7 h a0).bind fun _ =>
  (f_X7_another N h a0 1 9).bind fun r1 =>
  if r1.1 = 0 then some r1.2
  else (jgr 7 r1.2 a0 5).bind fun x6 =>
  (jal 0 r1.2 x6 6).bind fun x8 =>
  (jgr 7 r1.2 a0 6).bind fun x10 =>
  (jck 7 r1.2 a0).bind fun _ =>
  (f_X7_readNumber N r1.2 a0 0 3).bind fun r12 =>
  (jas 0 r12.2 x10 ((9 : Int32) + x8) r12.1).bind fun h16 =>
  (jgr 7 h16 a0 7).bind fun x18 =>
  (jck 7 h16 a0).bind fun _ =>
  (f_X7_readNumber N h16 a0 0 7).bind fun r20 =>
  (jas 0 r20.2 x18 ((9 : Int32) + x8) r20.1).bind fun h24 =>
  (jgr 7 h24 a0 5).bind fun x26 =>
  (jal 0 h24 x26 6).bind fun x28 =>
  (jas 0 h24 x26 6 (x28 + 1)).bind fun h30 =>
  some h30
set_option maxRecDepth 100000 in
set_option maxHeartbeats 4000000 in
theorem lk_X7_sayReach {G : JG} {l : Launch} (hG : jG G) (htr : l.stackTraces = false) (N : Nat) {h : AH} {a0 : Nat} {r : AH} (hf : f_X7_sayReach N h a0 = some r) : jMet G l yX7_sayReach cX7_sayReach 2 none 3 0 0 [.ref a0] h (jpv r) := by
  unfold f_X7_sayReach at hf
  refine jMet_of hG htr (by decide) (Nat.le_of_ble_eq_true rfl) ?_
  intro X E hl9 hr hX _ _
  show JW G X (RX7, cX7_sayReach, 2) h [(0, .ref a0)] [] 0 0 0 (jEnd G X (jpv r) 0 0)
  refine J_aload_n E (jd dk_X7_sayReach_0 0 rfl) rfl 0 rfl ?_
  refine J_iconst (v := 1) E (jd dk_X7_sayReach_0 1 rfl) rfl ?_
  refine J_bipush (v := 9) E (jd dk_X7_sayReach_0 2 rfl) (by decide) ?_
  obtain ⟨u3, e4, hf⟩ := jbind hf
  obtain ⟨r1, e2, hf⟩ := jbind hf
  refine J_callV E (jd dk_X7_sayReach_0 3 rfl) ml_RX7_272 cal_X7_another e4 rfl (lk_X7_another (jE_g E) (jE_tr E) N e2) rfl (Nat.le_of_ble_eq_true rfl) (jR_le hX (by decide) (by decide)) (jF0 hX) rfl ?_
  rintro _ _ ⟨rfl, rfl⟩
  refine J_if_ne (tgt := 11) E (jd dk_X7_sayReach_0 4 rfl) (by decide) (fun c5 => ?_) (fun c5 => ?_)
  · replace hf := jif_f c5 hf
    refine J_bipush (v := 9) E (jd dk_X7_sayReach_0 6 rfl) (by decide) ?_
    refine J_aload_n E (jd dk_X7_sayReach_0 7 rfl) rfl 0 rfl ?_
    obtain ⟨x6, e7, hf⟩ := jbind hf
    refine J_getr E (jd dk_X7_sayReach_0 8 rfl) fl_RX7_42 e7 ?_
    refine J_bipush (v := 6) E (jd dk_X7_sayReach_0 9 rfl) (by decide) ?_
    obtain ⟨x8, e9, hf⟩ := jbind hf
    refine J_iald E (jd dk_X7_sayReach_0 10 rfl) e9 ?_
    refine J_iadd E (jd dk_X7_sayReach_0 11 rfl) ?_
    refine J_istore_n (lv' := [(1, .int ((9 : Int32) + x8)), (0, .ref a0)]) E (jd dk_X7_sayReach_0 12 rfl) rfl (by decide) rfl ?_
    refine J_aload_n E (jd dk_X7_sayReach_0 13 rfl) rfl 1 rfl ?_
    obtain ⟨x10, e11, hf⟩ := jbind hf
    refine J_getr E (jd dk_X7_sayReach_0 14 rfl) fl_RX7_46 e11 ?_
    refine J_iload_n E (jd dk_X7_sayReach_0 15 rfl) rfl 0 rfl ?_
    refine J_aload_n E (jd dk_X7_sayReach_0 16 rfl) rfl 1 rfl ?_
    refine J_iconst (v := 0) E (jd dk_X7_sayReach_0 17 rfl) rfl ?_
    refine J_iconst (v := 3) E (jd dk_X7_sayReach_0 18 rfl) rfl ?_
    obtain ⟨u14, e15, hf⟩ := jbind hf
    obtain ⟨r12, e13, hf⟩ := jbind hf
    refine J_callV E (jd dk_X7_sayReach_0 19 rfl) ml_RX7_235 cal_X7_readNumber e15 rfl (lk_X7_readNumber (jE_g E) (jE_tr E) N e13) rfl (Nat.le_of_ble_eq_true rfl) (jR_le hX (by decide) (by decide)) (jF0 hX) rfl ?_
    rintro _ _ ⟨rfl, rfl⟩
    obtain ⟨h16, e17, hf⟩ := jbind hf
    refine J_iast E (jd dk_X7_sayReach_0 20 rfl) e17 ?_
    refine J_aload_n E (jd dk_X7_sayReach_0 21 rfl) rfl 1 rfl ?_
    obtain ⟨x18, e19, hf⟩ := jbind hf
    refine J_getr E (jd dk_X7_sayReach_0 22 rfl) fl_RX7_49 e19 ?_
    refine J_iload_n E (jd dk_X7_sayReach_0 23 rfl) rfl 0 rfl ?_
    refine J_aload_n E (jd dk_X7_sayReach_0 24 rfl) rfl 1 rfl ?_
    refine J_iconst (v := 0) E (jd dk_X7_sayReach_0 25 rfl) rfl ?_
    refine J_bipush (v := 7) E (jd dk_X7_sayReach_0 26 rfl) (by decide) ?_
    obtain ⟨u22, e23, hf⟩ := jbind hf
    obtain ⟨r20, e21, hf⟩ := jbind hf
    refine J_callV E (jd dk_X7_sayReach_0 27 rfl) ml_RX7_235 cal_X7_readNumber e23 rfl (lk_X7_readNumber (jE_g E) (jE_tr E) N e21) rfl (Nat.le_of_ble_eq_true rfl) (jR_le hX (by decide) (by decide)) (jF0 hX) rfl ?_
    rintro _ _ ⟨rfl, rfl⟩
    obtain ⟨h24, e25, hf⟩ := jbind hf
    refine J_iast E (jd dk_X7_sayReach_0 28 rfl) e25 ?_
    refine J_aload_n E (jd dk_X7_sayReach_0 29 rfl) rfl 1 rfl ?_
    obtain ⟨x26, e27, hf⟩ := jbind hf
    refine J_getr E (jd dk_X7_sayReach_0 30 rfl) fl_RX7_42 e27 ?_
    refine J_bipush (v := 6) E (jd dk_X7_sayReach_0 31 rfl) (by decide) ?_
    refine J_dup2 E (jd dk_X7_sayReach_0 32 rfl) rfl rfl ?_
    obtain ⟨x28, e29, hf⟩ := jbind hf
    refine J_iald E (jd dk_X7_sayReach_0 33 rfl) e29 ?_
    refine J_iconst (v := 1) E (jd dk_X7_sayReach_0 34 rfl) rfl ?_
    refine J_iadd E (jd dk_X7_sayReach_0 35 rfl) ?_
    obtain ⟨h30, e31, hf⟩ := jbind hf
    refine J_iast E (jd dk_X7_sayReach_0 36 rfl) e31 ?_
    cases hf
    exact J_vret E hr (jd dk_X7_sayReach_0 37 rfl) (Nat.le_refl _) (Nat.le_refl _) ⟨rfl, rfl⟩
  · replace hf := jif_t c5 hf
    cases hf
    exact J_vret E hr (jd dk_X7_sayReach_0 5 rfl) (Nat.le_refl _) (Nat.le_refl _) ⟨rfl, rfl⟩
def f_X7_sayJudge_b71 (N : Nat) (v0 : Nat) (v2 : Int32) (v3 : Int32) (h : AH) : Option AH :=
  (jgr 7 h v0 9).bind fun x1 =>
  (jas 0 h x1 v2 v3).bind fun h3 =>
  (jgr 7 h3 v0 10).bind fun x5 =>
  (jck 7 h3 v0).bind fun _ =>
  (f_X7_readNumber N h3 v0 0 9).bind fun r7 =>
  (jas 0 r7.2 x5 v2 r7.1).bind fun h11 =>
  (jgr 7 h11 v0 11).bind fun x13 =>
  (jck 7 h11 v0).bind fun _ =>
  (f_X7_readNumber N h11 v0 0 20).bind fun r15 =>
  (jas 0 r15.2 x13 v2 r15.1).bind fun h19 =>
  (jgr 7 h19 v0 5).bind fun x21 =>
  (jal 0 h19 x21 7).bind fun x23 =>
  (jas 0 h19 x21 7 (x23 + 1)).bind fun h25 =>
  some h25
def f_X7_sayJudge_b60 (N : Nat) (v0 : Nat) (v2 : Int32) (v3 : Int32) (h : AH) : Option AH :=
  (jgi 7 h v0 24).bind fun x27 =>
  if x27 = 0 then (jck 7 h v0).bind fun _ =>
  (f_X7_stepOn N h v0).bind fun r30 =>
  f_X7_sayJudge_b71 N v0 v2 v3 r30
  else f_X7_sayJudge_b71 N v0 v2 v3 h
def f_X7_sayJudge (N : Nat) (h : AH) (a0 : Nat) (a1 : Int32) : Option AH :=
  (jck 7 h a0).bind fun _ =>
  (f_X7_another N h a0 2 8).bind fun r34 =>
  if r34.1 = 0 then some r34.2
  else (jgr 7 r34.2 a0 5).bind fun x39 =>
  (jal 0 r34.2 x39 7).bind fun x41 =>
  (jgr 7 r34.2 a0 8).bind fun x43 =>
  (jas 0 r34.2 x43 ((8 : Int32) + x41) a1).bind fun h45 =>
  (jck 7 h45 a0).bind fun _ =>
  (f_X7_numberNow N h45 a0 0 9999).bind fun r47 =>
  (jgi 7 r47.2 a0 24).bind fun x51 =>
  if x51 = 0 then (jgr 7 r47.2 a0 5).bind fun x54 =>
  (jal 0 r47.2 x54 5).bind fun x56 =>
  if r47.1 < x56 then f_X7_sayJudge_b60 N a0 ((8 : Int32) + x41) r47.1 r47.2
  else (jck 7 r47.2 a0).bind fun _ =>
  (f_X7_wrong N r47.2 a0 3).bind fun r59 =>
  f_X7_sayJudge_b60 N a0 ((8 : Int32) + x41) r47.1 r59
  else f_X7_sayJudge_b60 N a0 ((8 : Int32) + x41) r47.1 r47.2
set_option maxRecDepth 100000 in
set_option maxHeartbeats 4000000 in
theorem lk_X7_sayJudge_b71 {G : JG} {X : JX} (E : jE G X (RX7, cX7_sayJudge, 4)) (hX : X.2.2.2.1 = jRm 3 0 0) (hr : X.2.2.2.2.2.2.2.2.1.sig.returnType = none) (N : Nat) {v0 : Nat} {v2 : Int32} {v3 : Int32} {h : AH}  {r : AH} (hf : f_X7_sayJudge_b71 N v0 v2 v3 h = some r) : JW G X (RX7, cX7_sayJudge, 4) h [(0, .ref v0), (2, .int v2), (3, .int v3)] [] 71 0 0 (jEnd G X (jpv r) 0 0) := by
  unfold f_X7_sayJudge_b71 at hf
  refine J_aload_n E (jd dk_X7_sayJudge_0 40 rfl) rfl 0 rfl ?_
  obtain ⟨x1, e2, hf⟩ := jbind hf
  refine J_getr E (jd dk_X7_sayJudge_0 41 rfl) fl_RX7_54 e2 ?_
  refine J_iload_n E (jd dk_X7_sayJudge_0 42 rfl) rfl 1 rfl ?_
  refine J_iload_n E (jd dk_X7_sayJudge_0 43 rfl) rfl 2 rfl ?_
  obtain ⟨h3, e4, hf⟩ := jbind hf
  refine J_iast E (jd dk_X7_sayJudge_0 44 rfl) e4 ?_
  refine J_aload_n E (jd dk_X7_sayJudge_0 45 rfl) rfl 0 rfl ?_
  obtain ⟨x5, e6, hf⟩ := jbind hf
  refine J_getr E (jd dk_X7_sayJudge_0 46 rfl) fl_RX7_57 e6 ?_
  refine J_iload_n E (jd dk_X7_sayJudge_0 47 rfl) rfl 1 rfl ?_
  refine J_aload_n E (jd dk_X7_sayJudge_0 48 rfl) rfl 0 rfl ?_
  refine J_iconst (v := 0) E (jd dk_X7_sayJudge_0 49 rfl) rfl ?_
  refine J_bipush (v := 9) E (jd dk_X7_sayJudge_1 0 rfl) (by decide) ?_
  obtain ⟨u9, e10, hf⟩ := jbind hf
  obtain ⟨r7, e8, hf⟩ := jbind hf
  refine J_callV E (jd dk_X7_sayJudge_1 1 rfl) ml_RX7_235 cal_X7_readNumber e10 rfl (lk_X7_readNumber (jE_g E) (jE_tr E) N e8) rfl (Nat.le_of_ble_eq_true rfl) (jR_le hX (by decide) (by decide)) (jF0 hX) rfl ?_
  rintro _ _ ⟨rfl, rfl⟩
  obtain ⟨h11, e12, hf⟩ := jbind hf
  refine J_iast E (jd dk_X7_sayJudge_1 2 rfl) e12 ?_
  refine J_aload_n E (jd dk_X7_sayJudge_1 3 rfl) rfl 0 rfl ?_
  obtain ⟨x13, e14, hf⟩ := jbind hf
  refine J_getr E (jd dk_X7_sayJudge_1 4 rfl) fl_RX7_60 e14 ?_
  refine J_iload_n E (jd dk_X7_sayJudge_1 5 rfl) rfl 1 rfl ?_
  refine J_aload_n E (jd dk_X7_sayJudge_1 6 rfl) rfl 0 rfl ?_
  refine J_iconst (v := 0) E (jd dk_X7_sayJudge_1 7 rfl) rfl ?_
  refine J_bipush (v := 20) E (jd dk_X7_sayJudge_1 8 rfl) (by decide) ?_
  obtain ⟨u17, e18, hf⟩ := jbind hf
  obtain ⟨r15, e16, hf⟩ := jbind hf
  refine J_callV E (jd dk_X7_sayJudge_1 9 rfl) ml_RX7_235 cal_X7_readNumber e18 rfl (lk_X7_readNumber (jE_g E) (jE_tr E) N e16) rfl (Nat.le_of_ble_eq_true rfl) (jR_le hX (by decide) (by decide)) (jF0 hX) rfl ?_
  rintro _ _ ⟨rfl, rfl⟩
  obtain ⟨h19, e20, hf⟩ := jbind hf
  refine J_iast E (jd dk_X7_sayJudge_1 10 rfl) e20 ?_
  refine J_aload_n E (jd dk_X7_sayJudge_1 11 rfl) rfl 0 rfl ?_
  obtain ⟨x21, e22, hf⟩ := jbind hf
  refine J_getr E (jd dk_X7_sayJudge_1 12 rfl) fl_RX7_42 e22 ?_
  refine J_bipush (v := 7) E (jd dk_X7_sayJudge_1 13 rfl) (by decide) ?_
  refine J_dup2 E (jd dk_X7_sayJudge_1 14 rfl) rfl rfl ?_
  obtain ⟨x23, e24, hf⟩ := jbind hf
  refine J_iald E (jd dk_X7_sayJudge_1 15 rfl) e24 ?_
  refine J_iconst (v := 1) E (jd dk_X7_sayJudge_1 16 rfl) rfl ?_
  refine J_iadd E (jd dk_X7_sayJudge_1 17 rfl) ?_
  obtain ⟨h25, e26, hf⟩ := jbind hf
  refine J_iast E (jd dk_X7_sayJudge_1 18 rfl) e26 ?_
  cases hf
  exact J_vret E hr (jd dk_X7_sayJudge_1 19 rfl) (Nat.le_refl _) (Nat.le_refl _) ⟨rfl, rfl⟩
set_option maxRecDepth 100000 in
set_option maxHeartbeats 4000000 in
theorem lk_X7_sayJudge_b60 {G : JG} {X : JX} (E : jE G X (RX7, cX7_sayJudge, 4)) (hX : X.2.2.2.1 = jRm 3 0 0) (hr : X.2.2.2.2.2.2.2.2.1.sig.returnType = none) (N : Nat) {v0 : Nat} {v2 : Int32} {v3 : Int32} {h : AH}  {r : AH} (hf : f_X7_sayJudge_b60 N v0 v2 v3 h = some r) : JW G X (RX7, cX7_sayJudge, 4) h [(0, .ref v0), (2, .int v2), (3, .int v3)] [] 60 0 0 (jEnd G X (jpv r) 0 0) := by
  unfold f_X7_sayJudge_b60 at hf
  refine J_aload_n E (jd dk_X7_sayJudge_0 35 rfl) rfl 0 rfl ?_
  obtain ⟨x27, e28, hf⟩ := jbind hf
  refine J_geti E (jd dk_X7_sayJudge_0 36 rfl) fl_RX7_200 e28 ?_
  refine J_if_ne (tgt := 71) E (jd dk_X7_sayJudge_0 37 rfl) (by decide) (fun c29 => ?_) (fun c29 => ?_)
  · replace hf := jif_f c29 hf
    exact lk_X7_sayJudge_b71 E hX hr N hf
  · replace hf := jif_t c29 hf
    refine J_aload_n E (jd dk_X7_sayJudge_0 38 rfl) rfl 0 rfl ?_
    obtain ⟨u32, e33, hf⟩ := jbind hf
    obtain ⟨r30, e31, hf⟩ := jbind hf
    refine J_callV E (jd dk_X7_sayJudge_0 39 rfl) ml_RX7_225 cal_X7_stepOn e33 rfl (lk_X7_stepOn (jE_g E) (jE_tr E) N e31) rfl (Nat.le_of_ble_eq_true rfl) (jR_le hX (by decide) (by decide)) (jF0 hX) rfl ?_
    rintro _ _ ⟨rfl, rfl⟩
    exact lk_X7_sayJudge_b71 E hX hr N hf
set_option maxRecDepth 100000 in
set_option maxHeartbeats 4000000 in
theorem lk_X7_sayJudge {G : JG} {l : Launch} (hG : jG G) (htr : l.stackTraces = false) (N : Nat) {h : AH} {a0 : Nat} {a1 : Int32} {r : AH} (hf : f_X7_sayJudge N h a0 a1 = some r) : jMet G l yX7_sayJudge cX7_sayJudge 4 none 3 0 0 [.ref a0, .int a1] h (jpv r) := by
  unfold f_X7_sayJudge at hf
  refine jMet_of hG htr (by decide) (Nat.le_of_ble_eq_true rfl) ?_
  intro X E hl9 hr hX _ _
  show JW G X (RX7, cX7_sayJudge, 4) h [(0, .ref a0), (1, .int a1)] [] 0 0 0 (jEnd G X (jpv r) 0 0)
  refine J_aload_n E (jd dk_X7_sayJudge_0 0 rfl) rfl 0 rfl ?_
  refine J_iconst (v := 2) E (jd dk_X7_sayJudge_0 1 rfl) rfl ?_
  refine J_bipush (v := 8) E (jd dk_X7_sayJudge_0 2 rfl) (by decide) ?_
  obtain ⟨u36, e37, hf⟩ := jbind hf
  obtain ⟨r34, e35, hf⟩ := jbind hf
  refine J_callV E (jd dk_X7_sayJudge_0 3 rfl) ml_RX7_272 cal_X7_another e37 rfl (lk_X7_another (jE_g E) (jE_tr E) N e35) rfl (Nat.le_of_ble_eq_true rfl) (jR_le hX (by decide) (by decide)) (jF0 hX) rfl ?_
  rintro _ _ ⟨rfl, rfl⟩
  refine J_if_ne (tgt := 11) E (jd dk_X7_sayJudge_0 4 rfl) (by decide) (fun c38 => ?_) (fun c38 => ?_)
  · replace hf := jif_f c38 hf
    refine J_bipush (v := 8) E (jd dk_X7_sayJudge_0 6 rfl) (by decide) ?_
    refine J_aload_n E (jd dk_X7_sayJudge_0 7 rfl) rfl 0 rfl ?_
    obtain ⟨x39, e40, hf⟩ := jbind hf
    refine J_getr E (jd dk_X7_sayJudge_0 8 rfl) fl_RX7_42 e40 ?_
    refine J_bipush (v := 7) E (jd dk_X7_sayJudge_0 9 rfl) (by decide) ?_
    obtain ⟨x41, e42, hf⟩ := jbind hf
    refine J_iald E (jd dk_X7_sayJudge_0 10 rfl) e42 ?_
    refine J_iadd E (jd dk_X7_sayJudge_0 11 rfl) ?_
    refine J_istore_n (lv' := [(2, .int ((8 : Int32) + x41)), (0, .ref a0), (1, .int a1)]) E (jd dk_X7_sayJudge_0 12 rfl) rfl (by decide) rfl ?_
    refine J_aload_n E (jd dk_X7_sayJudge_0 13 rfl) rfl 1 rfl ?_
    obtain ⟨x43, e44, hf⟩ := jbind hf
    refine J_getr E (jd dk_X7_sayJudge_0 14 rfl) fl_RX7_52 e44 ?_
    refine J_iload_n E (jd dk_X7_sayJudge_0 15 rfl) rfl 0 rfl ?_
    refine J_iload_n E (jd dk_X7_sayJudge_0 16 rfl) rfl 2 rfl ?_
    obtain ⟨h45, e46, hf⟩ := jbind hf
    refine J_iast E (jd dk_X7_sayJudge_0 17 rfl) e46 ?_
    refine J_aload_n E (jd dk_X7_sayJudge_0 18 rfl) rfl 1 rfl ?_
    refine J_iconst (v := 0) E (jd dk_X7_sayJudge_0 19 rfl) rfl ?_
    refine J_sipush (v := 9999) E (jd dk_X7_sayJudge_0 20 rfl) (by decide) ?_
    obtain ⟨u49, e50, hf⟩ := jbind hf
    obtain ⟨r47, e48, hf⟩ := jbind hf
    refine J_callV E (jd dk_X7_sayJudge_0 21 rfl) ml_RX7_228 cal_X7_numberNow e50 rfl (lk_X7_numberNow (jE_g E) (jE_tr E) N e48) rfl (Nat.le_of_ble_eq_true rfl) (jR_le hX (by decide) (by decide)) (jF0 hX) rfl ?_
    rintro _ _ ⟨rfl, rfl⟩
    refine J_istore_n (lv' := [(3, .int r47.1), (2, .int ((8 : Int32) + x41)), (0, .ref a0), (1, .int a1)]) E (jd dk_X7_sayJudge_0 22 rfl) rfl (by decide) rfl ?_
    refine J_aload_n E (jd dk_X7_sayJudge_0 23 rfl) rfl 2 rfl ?_
    obtain ⟨x51, e52, hf⟩ := jbind hf
    refine J_geti E (jd dk_X7_sayJudge_0 24 rfl) fl_RX7_200 e52 ?_
    refine J_if_ne (tgt := 60) E (jd dk_X7_sayJudge_0 25 rfl) (by decide) (fun c53 => ?_) (fun c53 => ?_)
    · replace hf := jif_f c53 hf
      refine J_sub [2, 1, 0] rfl ?_
      exact lk_X7_sayJudge_b60 E hX hr N hf
    · replace hf := jif_t c53 hf
      refine J_iload_n E (jd dk_X7_sayJudge_0 26 rfl) rfl 0 rfl ?_
      refine J_aload_n E (jd dk_X7_sayJudge_0 27 rfl) rfl 2 rfl ?_
      obtain ⟨x54, e55, hf⟩ := jbind hf
      refine J_getr E (jd dk_X7_sayJudge_0 28 rfl) fl_RX7_42 e55 ?_
      refine J_iconst (v := 5) E (jd dk_X7_sayJudge_0 29 rfl) rfl ?_
      obtain ⟨x56, e57, hf⟩ := jbind hf
      refine J_iald E (jd dk_X7_sayJudge_0 30 rfl) e57 ?_
      refine J_icmp_lt (tgt := 60) E (jd dk_X7_sayJudge_0 31 rfl) (by decide) (fun c58 => ?_) (fun c58 => ?_)
      · replace hf := jif_t c58 hf
        refine J_sub [2, 1, 0] rfl ?_
        exact lk_X7_sayJudge_b60 E hX hr N hf
      · replace hf := jif_f c58 hf
        refine J_aload_n E (jd dk_X7_sayJudge_0 32 rfl) rfl 2 rfl ?_
        refine J_iconst (v := 3) E (jd dk_X7_sayJudge_0 33 rfl) rfl ?_
        obtain ⟨u61, e62, hf⟩ := jbind hf
        obtain ⟨r59, e60, hf⟩ := jbind hf
        refine J_callV E (jd dk_X7_sayJudge_0 34 rfl) ml_RX7_221 cal_X7_wrong e62 rfl (lk_X7_wrong (jE_g E) (jE_tr E) N e60) rfl (Nat.le_of_ble_eq_true rfl) (jR_le hX (by decide) (by decide)) (jF0 hX) rfl ?_
        rintro _ _ ⟨rfl, rfl⟩
        refine J_sub [2, 1, 0] rfl ?_
        exact lk_X7_sayJudge_b60 E hX hr N hf
  · replace hf := jif_t c38 hf
    cases hf
    exact J_vret E hr (jd dk_X7_sayJudge_0 5 rfl) (Nat.le_refl _) (Nat.le_refl _) ⟨rfl, rfl⟩
def f_X7_takeHalf_l2 (N : Nat) (v0 : Nat) (v1 : Int32) (h : AH) : Option ((Int32 × AH) ⊕ ((AH))) :=
  (jln 0 h v0).bind fun x1 =>
  if (x1 / 2) ≤ v1 then some (.inr h)
  else (jln 0 h v0).bind fun x4 =>
  (jal 0 h v0 ((x4 / 2) + v1)).bind fun x6 =>
  (jas 0 h v0 v1 x6).bind fun h8 =>
  some (.inl ((v1 + 1, h8)))
def f_X7_takeHalf_b2 (N : Nat) (v0 : Nat) (v1 : Int32) (h : AH) : Option AH :=
  (itr (fun s => f_X7_takeHalf_l2 N v0 s.1 s.2) N (v1, h)).bind (fun e => some e)
def f_X7_takeHalf (N : Nat) (h : AH) (a0 : Nat) : Option AH :=
  f_X7_takeHalf_b2 N a0 0 h
set_option maxRecDepth 100000 in
set_option maxHeartbeats 4000000 in
theorem lk_X7_takeHalf_l2 {G : JG} {X : JX} (E : jE G X (RX7, cX7_takeHalf, 2)) (hX : X.2.2.2.1 = jRm 0 0 0) (hr : X.2.2.2.2.2.2.2.2.1.sig.returnType = none) (N : Nat) {Q : State → Prop} {v0 : Nat} {v1 : Int32}  {h : AH} {q : ((Int32 × AH) ⊕ ((AH)))} (hf : f_X7_takeHalf_l2 N v0 v1 h = some q) (kb : ∀ s' : Int32 × AH, q = .inl s' → JW G X (RX7, cX7_takeHalf, 2) s'.2 [(0, .ref v0), (1, .int s'.1)] [] 2 0 0 Q) (ke0 : ∀ e : AH, q = .inr e → JW G X (RX7, cX7_takeHalf, 2) e [] [] 27 0 0 Q) : JW G X (RX7, cX7_takeHalf, 2) h [(0, .ref v0), (1, .int v1)] [] 2 0 0 Q := by
  unfold f_X7_takeHalf_l2 at hf
  refine J_iload_n E (jd dk_X7_takeHalf_0 2 rfl) rfl 1 rfl ?_
  refine J_aload_n E (jd dk_X7_takeHalf_0 3 rfl) rfl 0 rfl ?_
  obtain ⟨x1, e2, hf⟩ := jbind hf
  refine J_alen E (by decide) (jd dk_X7_takeHalf_0 4 rfl) e2 ?_
  refine J_iconst (v := 2) E (jd dk_X7_takeHalf_0 5 rfl) rfl ?_
  refine J_idiv E (jd dk_X7_takeHalf_0 6 rfl) (by decide) ?_
  refine J_icmp_ge (tgt := 27) E (jd dk_X7_takeHalf_0 7 rfl) (by decide) (fun c3 => ?_) (fun c3 => ?_)
  · replace hf := jif_t c3 hf
    refine J_sub [] rfl ?_
    exact ke0 _ (Option.some.inj hf).symm
  · replace hf := jif_f c3 hf
    refine J_aload_n E (jd dk_X7_takeHalf_0 8 rfl) rfl 0 rfl ?_
    refine J_iload_n E (jd dk_X7_takeHalf_0 9 rfl) rfl 1 rfl ?_
    refine J_aload_n E (jd dk_X7_takeHalf_0 10 rfl) rfl 0 rfl ?_
    refine J_aload_n E (jd dk_X7_takeHalf_0 11 rfl) rfl 0 rfl ?_
    obtain ⟨x4, e5, hf⟩ := jbind hf
    refine J_alen E (by decide) (jd dk_X7_takeHalf_0 12 rfl) e5 ?_
    refine J_iconst (v := 2) E (jd dk_X7_takeHalf_0 13 rfl) rfl ?_
    refine J_idiv E (jd dk_X7_takeHalf_0 14 rfl) (by decide) ?_
    refine J_iload_n E (jd dk_X7_takeHalf_0 15 rfl) rfl 1 rfl ?_
    refine J_iadd E (jd dk_X7_takeHalf_0 16 rfl) ?_
    obtain ⟨x6, e7, hf⟩ := jbind hf
    refine J_iald E (jd dk_X7_takeHalf_0 17 rfl) e7 ?_
    obtain ⟨h8, e9, hf⟩ := jbind hf
    refine J_iast E (jd dk_X7_takeHalf_0 18 rfl) e9 ?_
    refine J_iinc (v := v1 + 1) (lv' := [(1, .int (v1 + 1)), (0, .ref v0)]) E (jd dk_X7_takeHalf_0 19 rfl) 1 rfl rfl (by decide) rfl ?_
    refine J_goto (tgt := 2) E (jd dk_X7_takeHalf_0 20 rfl) (by decide) ?_
    refine J_sub [1, 0] rfl ?_
    exact kb _ (Option.some.inj hf).symm
set_option maxRecDepth 100000 in
set_option maxHeartbeats 4000000 in
theorem lk_X7_takeHalf_b2 {G : JG} {X : JX} (E : jE G X (RX7, cX7_takeHalf, 2)) (hX : X.2.2.2.1 = jRm 0 0 0) (hr : X.2.2.2.2.2.2.2.2.1.sig.returnType = none) (N : Nat) {v0 : Nat} {v1 : Int32} {h : AH}  {r : AH} (hf : f_X7_takeHalf_b2 N v0 v1 h = some r) : JW G X (RX7, cX7_takeHalf, 2) h [(0, .ref v0), (1, .int v1)] [] 2 0 0 (jEnd G X (jpv r) 0 0) := by
  unfold f_X7_takeHalf_b2 at hf
  obtain ⟨q1, h1, hf⟩ := jbind hf
  refine jloop (P := fun s => JW G X (RX7, cX7_takeHalf, 2) s.2 [(0, .ref v0), (1, .int s.1)] [] 2 0 0 (jEnd G X (jpv r) 0 0)) (Ex := fun (e : AH) => JW G X (RX7, cX7_takeHalf, 2) e [] [] 27 0 0 (jEnd G X (jpv r) 0 0)) (fun s q hs hb hx => lk_X7_takeHalf_l2 E hX hr N hs (fun s' hs => hb s' hs) (fun e he => hx e he)) N _ q1 h1 ?_
  generalize q1 = e at hf ⊢
  cases hf
  exact J_vret E hr (jd dk_X7_takeHalf_0 21 rfl) (Nat.le_refl _) (Nat.le_refl _) ⟨rfl, rfl⟩
set_option maxRecDepth 100000 in
set_option maxHeartbeats 4000000 in
theorem lk_X7_takeHalf {G : JG} {l : Launch} (hG : jG G) (htr : l.stackTraces = false) (N : Nat) {h : AH} {a0 : Nat} {r : AH} (hf : f_X7_takeHalf N h a0 = some r) : jMet G l yX7_takeHalf cX7_takeHalf 2 none 0 0 0 [.ref a0] h (jpv r) := by
  unfold f_X7_takeHalf at hf
  refine jMet_of hG htr (by decide) (Nat.le_of_ble_eq_true rfl) ?_
  intro X E hl9 hr hX _ _
  show JW G X (RX7, cX7_takeHalf, 2) h [(0, .ref a0)] [] 0 0 0 (jEnd G X (jpv r) 0 0)
  refine J_iconst (v := 0) E (jd dk_X7_takeHalf_0 0 rfl) rfl ?_
  refine J_istore_n (lv' := [(1, .int 0), (0, .ref a0)]) E (jd dk_X7_takeHalf_0 1 rfl) rfl (by decide) rfl ?_
  refine J_sub [1, 0] rfl ?_
  exact lk_X7_takeHalf_b2 E hX hr N hf
def f_X7_takeOver_b211 (N : Nat) (v0 : Nat) (v1 : Int32) (w0 : Nat) (w1 : Int32) (w2 : Int32) (h : AH) : Option ((Int32 × AH) ⊕ ((AH))) :=
  (jas 0 h w0 w1 w2).bind fun h1 =>
  some (.inl ((v1 + 1, h1)))
def f_X7_takeOver_b185 (N : Nat) (v0 : Nat) (v1 : Int32) (w0 : Nat) (w1 : Int32) (w2 : Int32) (h : AH) : Option ((Int32 × AH) ⊕ ((AH))) :=
  (jas 0 h w0 w1 w2).bind fun h3 =>
  (jgr 7 h3 v0 32).bind fun x5 =>
  (jgr 7 h3 v0 5).bind fun x7 =>
  (jal 0 h3 x7 1).bind fun x9 =>
  if x9 ≤ v1 then f_X7_takeOver_b211 N v0 v1 x5 v1 0 h3
  else (jgr 7 h3 v0 7).bind fun x12 =>
  (jal 0 h3 x12 v1).bind fun x14 =>
  f_X7_takeOver_b211 N v0 v1 x5 v1 x14 h3
def f_X7_takeOver_l154 (N : Nat) (v0 : Nat) (v1 : Int32) (h : AH) : Option ((Int32 × AH) ⊕ ((AH))) :=
  if 9 ≤ v1 then some (.inr h)
  else (jgr 7 h v0 31).bind fun x17 =>
  (jgr 7 h v0 5).bind fun x19 =>
  (jal 0 h x19 1).bind fun x21 =>
  if x21 ≤ v1 then f_X7_takeOver_b185 N v0 v1 x17 v1 0 h
  else (jgr 7 h v0 6).bind fun x24 =>
  (jal 0 h x24 v1).bind fun x26 =>
  f_X7_takeOver_b185 N v0 v1 x17 v1 x26 h
def f_X7_takeOver_b154 (N : Nat) (v0 : Nat) (v1 : Int32) (h : AH) : Option AH :=
  (itr (fun s => f_X7_takeOver_l154 N v0 s.1 s.2) N (v1, h)).bind (fun e => (jwi 7 e v0 35 0).bind fun h28 =>
  (jwi 7 h28 v0 36 0).bind fun h30 =>
  (jwz 7 h30 v0 52 0).bind fun h32 =>
  some h32)
def f_X7_takeOver_b138 (N : Nat) (v0 : Nat) (v1 : Int32) (w0 : Nat) (w1 : Int32) (w2 : Int32) (h : AH) : Option ((Int32 × AH) ⊕ ((AH))) :=
  (jas 0 h w0 w1 w2).bind fun h34 =>
  (jgr 7 h34 v0 30).bind fun x36 =>
  (jas 0 h34 x36 v1 0).bind fun h38 =>
  some (.inl ((v1 + 1, h38)))
def f_X7_takeOver_b111 (N : Nat) (v0 : Nat) (v1 : Int32) (v2 : Int32) (w0 : Nat) (w1 : Int32) (w2 : Int32) (h : AH) : Option ((Int32 × AH) ⊕ ((AH))) :=
  (jas 0 h w0 w1 w2).bind fun h40 =>
  (jgr 7 h40 v0 28).bind fun x42 =>
  (jas 0 h40 x42 v1 ((-1))).bind fun h44 =>
  (jgr 7 h44 v0 29).bind fun x46 =>
  if v2 = 0 then f_X7_takeOver_b138 N v0 v1 x46 v1 0 h44
  else (jgr 7 h44 v0 9).bind fun x49 =>
  (jal 0 h44 x49 v1).bind fun x51 =>
  f_X7_takeOver_b138 N v0 v1 x46 v1 x51 h44
def f_X7_takeOver_b91 (N : Nat) (v0 : Nat) (v1 : Int32) (w0 : Int32) (h : AH) : Option ((Int32 × AH) ⊕ ((AH))) :=
  (jgr 7 h v0 15).bind fun x53 =>
  if w0 = 0 then f_X7_takeOver_b111 N v0 v1 w0 x53 v1 0 h
  else (jgr 7 h v0 10).bind fun x56 =>
  (jal 0 h x56 v1).bind fun x58 =>
  f_X7_takeOver_b111 N v0 v1 w0 x53 v1 x58 h
def f_X7_takeOver_l70 (N : Nat) (v0 : Nat) (v1 : Int32) (h : AH) : Option ((Int32 × AH) ⊕ ((AH))) :=
  if 8 ≤ v1 then some (.inr h)
  else (jgr 7 h v0 5).bind fun x61 =>
  (jal 0 h x61 2).bind fun x63 =>
  if x63 ≤ v1 then f_X7_takeOver_b91 N v0 v1 0 h
  else f_X7_takeOver_b91 N v0 v1 1 h
def f_X7_takeOver_b70 (N : Nat) (v0 : Nat) (v1 : Int32) (h : AH) : Option AH :=
  (itr (fun s => f_X7_takeOver_l70 N v0 s.1 s.2) N (v1, h)).bind (fun e => f_X7_takeOver_b154 N v0 0 e)
def f_X7_takeOver (N : Nat) (h : AH) (a0 : Nat) : Option AH :=
  (jgr 7 h a0 5).bind fun x66 =>
  (f_X7_takeHalf N h x66).bind fun r68 =>
  (jgr 7 r68 a0 6).bind fun x70 =>
  (f_X7_takeHalf N r68 x70).bind fun r72 =>
  (jgr 7 r72 a0 7).bind fun x74 =>
  (f_X7_takeHalf N r72 x74).bind fun r76 =>
  (jgr 7 r76 a0 8).bind fun x78 =>
  (f_X7_takeHalf N r76 x78).bind fun r80 =>
  (jgr 7 r80 a0 9).bind fun x82 =>
  (f_X7_takeHalf N r80 x82).bind fun r84 =>
  (jgr 7 r84 a0 10).bind fun x86 =>
  (f_X7_takeHalf N r84 x86).bind fun r88 =>
  (jgr 7 r88 a0 11).bind fun x90 =>
  (f_X7_takeHalf N r88 x90).bind fun r92 =>
  (jgr 7 r92 a0 12).bind fun x94 =>
  (f_X7_takeHalf N r92 x94).bind fun r96 =>
  (jgr 7 r96 a0 13).bind fun x98 =>
  (f_X7_takeHalf N r96 x98).bind fun r100 =>
  (jwi 7 r100 a0 34 0).bind fun h102 =>
  f_X7_takeOver_b70 N a0 0 h102
set_option maxRecDepth 100000 in
set_option maxHeartbeats 4000000 in
theorem lk_X7_takeOver_b211 {G : JG} {X : JX} (E : jE G X (RX7, cX7_takeOver, 3)) (hX : X.2.2.2.1 = jRm 1 0 0) (hr : X.2.2.2.2.2.2.2.2.1.sig.returnType = none) (N : Nat) {Q : State → Prop} {v0 : Nat} {v1 : Int32} {w0 : Nat} {w1 : Int32} {w2 : Int32} {h : AH}  {q : ((Int32 × AH) ⊕ ((AH)))} (hf : f_X7_takeOver_b211 N v0 v1 w0 w1 w2 h = some q) (kb : ∀ s' : Int32 × AH, q = .inl s' → JW G X (RX7, cX7_takeOver, 3) s'.2 [(0, .ref v0), (1, .int s'.1)] [] 154 0 0 Q) (ke0 : ∀ e : AH, q = .inr e → JW G X (RX7, cX7_takeOver, 3) e [(0, .ref v0)] [] 218 0 0 Q) : JW G X (RX7, cX7_takeOver, 3) h [(0, .ref v0), (1, .int v1)] [.int w2, .int w1, .ref w0] 211 0 0 Q := by
  unfold f_X7_takeOver_b211 at hf
  obtain ⟨h1, e2, hf⟩ := jbind hf
  refine J_iast E (jd dk_X7_takeOver_2 17 rfl) e2 ?_
  refine J_iinc (v := v1 + 1) (lv' := [(1, .int (v1 + 1)), (0, .ref v0)]) E (jd dk_X7_takeOver_2 18 rfl) 1 rfl rfl (by decide) rfl ?_
  refine J_goto (tgt := 154) E (jd dk_X7_takeOver_2 19 rfl) (by decide) ?_
  refine J_sub [1, 0] rfl ?_
  exact kb _ (Option.some.inj hf).symm
set_option maxRecDepth 100000 in
set_option maxHeartbeats 4000000 in
theorem lk_X7_takeOver_b185 {G : JG} {X : JX} (E : jE G X (RX7, cX7_takeOver, 3)) (hX : X.2.2.2.1 = jRm 1 0 0) (hr : X.2.2.2.2.2.2.2.2.1.sig.returnType = none) (N : Nat) {Q : State → Prop} {v0 : Nat} {v1 : Int32} {w0 : Nat} {w1 : Int32} {w2 : Int32} {h : AH}  {q : ((Int32 × AH) ⊕ ((AH)))} (hf : f_X7_takeOver_b185 N v0 v1 w0 w1 w2 h = some q) (kb : ∀ s' : Int32 × AH, q = .inl s' → JW G X (RX7, cX7_takeOver, 3) s'.2 [(0, .ref v0), (1, .int s'.1)] [] 154 0 0 Q) (ke0 : ∀ e : AH, q = .inr e → JW G X (RX7, cX7_takeOver, 3) e [(0, .ref v0)] [] 218 0 0 Q) : JW G X (RX7, cX7_takeOver, 3) h [(0, .ref v0), (1, .int v1)] [.int w2, .int w1, .ref w0] 185 0 0 Q := by
  unfold f_X7_takeOver_b185 at hf
  obtain ⟨h3, e4, hf⟩ := jbind hf
  refine J_iast E (jd dk_X7_takeOver_2 1 rfl) e4 ?_
  refine J_aload_n E (jd dk_X7_takeOver_2 2 rfl) rfl 0 rfl ?_
  obtain ⟨x5, e6, hf⟩ := jbind hf
  refine J_getr E (jd dk_X7_takeOver_2 3 rfl) fl_RX7_92 e6 ?_
  refine J_iload_n E (jd dk_X7_takeOver_2 4 rfl) rfl 1 rfl ?_
  refine J_iload_n E (jd dk_X7_takeOver_2 5 rfl) rfl 1 rfl ?_
  refine J_aload_n E (jd dk_X7_takeOver_2 6 rfl) rfl 0 rfl ?_
  obtain ⟨x7, e8, hf⟩ := jbind hf
  refine J_getr E (jd dk_X7_takeOver_2 7 rfl) fl_RX7_42 e8 ?_
  refine J_iconst (v := 1) E (jd dk_X7_takeOver_2 8 rfl) rfl ?_
  obtain ⟨x9, e10, hf⟩ := jbind hf
  refine J_iald E (jd dk_X7_takeOver_2 9 rfl) e10 ?_
  refine J_icmp_ge (tgt := 210) E (jd dk_X7_takeOver_2 10 rfl) (by decide) (fun c11 => ?_) (fun c11 => ?_)
  · replace hf := jif_t c11 hf
    refine J_iconst (v := 0) E (jd dk_X7_takeOver_2 16 rfl) rfl ?_
    exact lk_X7_takeOver_b211 E hX hr N hf kb ke0
  · replace hf := jif_f c11 hf
    refine J_aload_n E (jd dk_X7_takeOver_2 11 rfl) rfl 0 rfl ?_
    obtain ⟨x12, e13, hf⟩ := jbind hf
    refine J_getr E (jd dk_X7_takeOver_2 12 rfl) fl_RX7_49 e13 ?_
    refine J_iload_n E (jd dk_X7_takeOver_2 13 rfl) rfl 1 rfl ?_
    obtain ⟨x14, e15, hf⟩ := jbind hf
    refine J_iald E (jd dk_X7_takeOver_2 14 rfl) e15 ?_
    refine J_goto (tgt := 211) E (jd dk_X7_takeOver_2 15 rfl) (by decide) ?_
    exact lk_X7_takeOver_b211 E hX hr N hf kb ke0
set_option maxRecDepth 100000 in
set_option maxHeartbeats 4000000 in
theorem lk_X7_takeOver_l154 {G : JG} {X : JX} (E : jE G X (RX7, cX7_takeOver, 3)) (hX : X.2.2.2.1 = jRm 1 0 0) (hr : X.2.2.2.2.2.2.2.2.1.sig.returnType = none) (N : Nat) {Q : State → Prop} {v0 : Nat} {v1 : Int32}  {h : AH} {q : ((Int32 × AH) ⊕ ((AH)))} (hf : f_X7_takeOver_l154 N v0 v1 h = some q) (kb : ∀ s' : Int32 × AH, q = .inl s' → JW G X (RX7, cX7_takeOver, 3) s'.2 [(0, .ref v0), (1, .int s'.1)] [] 154 0 0 Q) (ke0 : ∀ e : AH, q = .inr e → JW G X (RX7, cX7_takeOver, 3) e [(0, .ref v0)] [] 218 0 0 Q) : JW G X (RX7, cX7_takeOver, 3) h [(0, .ref v0), (1, .int v1)] [] 154 0 0 Q := by
  unfold f_X7_takeOver_l154 at hf
  refine J_iload_n E (jd dk_X7_takeOver_1 33 rfl) rfl 1 rfl ?_
  refine J_bipush (v := 9) E (jd dk_X7_takeOver_1 34 rfl) (by decide) ?_
  refine J_icmp_ge (tgt := 218) E (jd dk_X7_takeOver_1 35 rfl) (by decide) (fun c16 => ?_) (fun c16 => ?_)
  · replace hf := jif_t c16 hf
    refine J_sub [0] rfl ?_
    exact ke0 _ (Option.some.inj hf).symm
  · replace hf := jif_f c16 hf
    refine J_aload_n E (jd dk_X7_takeOver_1 36 rfl) rfl 0 rfl ?_
    obtain ⟨x17, e18, hf⟩ := jbind hf
    refine J_getr E (jd dk_X7_takeOver_1 37 rfl) fl_RX7_90 e18 ?_
    refine J_iload_n E (jd dk_X7_takeOver_1 38 rfl) rfl 1 rfl ?_
    refine J_iload_n E (jd dk_X7_takeOver_1 39 rfl) rfl 1 rfl ?_
    refine J_aload_n E (jd dk_X7_takeOver_1 40 rfl) rfl 0 rfl ?_
    obtain ⟨x19, e20, hf⟩ := jbind hf
    refine J_getr E (jd dk_X7_takeOver_1 41 rfl) fl_RX7_42 e20 ?_
    refine J_iconst (v := 1) E (jd dk_X7_takeOver_1 42 rfl) rfl ?_
    obtain ⟨x21, e22, hf⟩ := jbind hf
    refine J_iald E (jd dk_X7_takeOver_1 43 rfl) e22 ?_
    refine J_icmp_ge (tgt := 184) E (jd dk_X7_takeOver_1 44 rfl) (by decide) (fun c23 => ?_) (fun c23 => ?_)
    · replace hf := jif_t c23 hf
      refine J_iconst (v := 0) E (jd dk_X7_takeOver_2 0 rfl) rfl ?_
      exact lk_X7_takeOver_b185 E hX hr N hf kb ke0
    · replace hf := jif_f c23 hf
      refine J_aload_n E (jd dk_X7_takeOver_1 45 rfl) rfl 0 rfl ?_
      obtain ⟨x24, e25, hf⟩ := jbind hf
      refine J_getr E (jd dk_X7_takeOver_1 46 rfl) fl_RX7_46 e25 ?_
      refine J_iload_n E (jd dk_X7_takeOver_1 47 rfl) rfl 1 rfl ?_
      obtain ⟨x26, e27, hf⟩ := jbind hf
      refine J_iald E (jd dk_X7_takeOver_1 48 rfl) e27 ?_
      refine J_goto (tgt := 185) E (jd dk_X7_takeOver_1 49 rfl) (by decide) ?_
      exact lk_X7_takeOver_b185 E hX hr N hf kb ke0
set_option maxRecDepth 100000 in
set_option maxHeartbeats 4000000 in
theorem lk_X7_takeOver_b154 {G : JG} {X : JX} (E : jE G X (RX7, cX7_takeOver, 3)) (hX : X.2.2.2.1 = jRm 1 0 0) (hr : X.2.2.2.2.2.2.2.2.1.sig.returnType = none) (N : Nat) {v0 : Nat} {v1 : Int32} {h : AH}  {r : AH} (hf : f_X7_takeOver_b154 N v0 v1 h = some r) : JW G X (RX7, cX7_takeOver, 3) h [(0, .ref v0), (1, .int v1)] [] 154 0 0 (jEnd G X (jpv r) 0 0) := by
  unfold f_X7_takeOver_b154 at hf
  obtain ⟨q1, h1, hf⟩ := jbind hf
  refine jloop (P := fun s => JW G X (RX7, cX7_takeOver, 3) s.2 [(0, .ref v0), (1, .int s.1)] [] 154 0 0 (jEnd G X (jpv r) 0 0)) (Ex := fun (e : AH) => JW G X (RX7, cX7_takeOver, 3) e [(0, .ref v0)] [] 218 0 0 (jEnd G X (jpv r) 0 0)) (fun s q hs hb hx => lk_X7_takeOver_l154 E hX hr N hs (fun s' hs => hb s' hs) (fun e he => hx e he)) N _ q1 h1 ?_
  generalize q1 = e at hf ⊢
  refine J_aload_n E (jd dk_X7_takeOver_2 20 rfl) rfl 0 rfl ?_
  refine J_iconst (v := 0) E (jd dk_X7_takeOver_2 21 rfl) rfl ?_
  obtain ⟨h28, e29, hf⟩ := jbind hf
  refine J_put E (jd dk_X7_takeOver_2 22 rfl) fl_RX7_309 e29 (fun _ => rfl) (fun _ => rfl) ?_
  refine J_aload_n E (jd dk_X7_takeOver_2 23 rfl) rfl 0 rfl ?_
  refine J_iconst (v := 0) E (jd dk_X7_takeOver_2 24 rfl) rfl ?_
  obtain ⟨h30, e31, hf⟩ := jbind hf
  refine J_put E (jd dk_X7_takeOver_2 25 rfl) fl_RX7_312 e31 (fun _ => rfl) (fun _ => rfl) ?_
  refine J_aload_n E (jd dk_X7_takeOver_2 26 rfl) rfl 0 rfl ?_
  refine J_iconst (v := 0) E (jd dk_X7_takeOver_2 27 rfl) rfl ?_
  obtain ⟨h32, e33, hf⟩ := jbind hf
  refine J_putz E (jd dk_X7_takeOver_2 28 rfl) fl_RX7_314 e33 ?_
  cases hf
  exact J_vret E hr (jd dk_X7_takeOver_2 29 rfl) (Nat.le_refl _) (Nat.le_refl _) ⟨rfl, rfl⟩
set_option maxRecDepth 100000 in
set_option maxHeartbeats 4000000 in
theorem lk_X7_takeOver_b138 {G : JG} {X : JX} (E : jE G X (RX7, cX7_takeOver, 3)) (hX : X.2.2.2.1 = jRm 1 0 0) (hr : X.2.2.2.2.2.2.2.2.1.sig.returnType = none) (N : Nat) {Q : State → Prop} {v0 : Nat} {v1 : Int32} {w0 : Nat} {w1 : Int32} {w2 : Int32} {h : AH}  {q : ((Int32 × AH) ⊕ ((AH)))} (hf : f_X7_takeOver_b138 N v0 v1 w0 w1 w2 h = some q) (kb : ∀ s' : Int32 × AH, q = .inl s' → JW G X (RX7, cX7_takeOver, 3) s'.2 [(0, .ref v0), (1, .int s'.1)] [] 70 0 0 Q) (ke0 : ∀ e : AH, q = .inr e → JW G X (RX7, cX7_takeOver, 3) e [(0, .ref v0)] [] 152 0 0 Q) : JW G X (RX7, cX7_takeOver, 3) h [(0, .ref v0), (1, .int v1)] [.int w2, .int w1, .ref w0] 138 0 0 Q := by
  unfold f_X7_takeOver_b138 at hf
  obtain ⟨h34, e35, hf⟩ := jbind hf
  refine J_iast E (jd dk_X7_takeOver_1 23 rfl) e35 ?_
  refine J_aload_n E (jd dk_X7_takeOver_1 24 rfl) rfl 0 rfl ?_
  obtain ⟨x36, e37, hf⟩ := jbind hf
  refine J_getr E (jd dk_X7_takeOver_1 25 rfl) fl_RX7_87 e37 ?_
  refine J_iload_n E (jd dk_X7_takeOver_1 26 rfl) rfl 1 rfl ?_
  refine J_iconst (v := 0) E (jd dk_X7_takeOver_1 27 rfl) rfl ?_
  obtain ⟨h38, e39, hf⟩ := jbind hf
  refine J_iast E (jd dk_X7_takeOver_1 28 rfl) e39 ?_
  refine J_iinc (v := v1 + 1) (lv' := [(1, .int (v1 + 1)), (0, .ref v0)]) E (jd dk_X7_takeOver_1 29 rfl) 1 rfl rfl (by decide) rfl ?_
  refine J_goto (tgt := 70) E (jd dk_X7_takeOver_1 30 rfl) (by decide) ?_
  refine J_sub [1, 0] rfl ?_
  exact kb _ (Option.some.inj hf).symm
set_option maxRecDepth 100000 in
set_option maxHeartbeats 4000000 in
theorem lk_X7_takeOver_b111 {G : JG} {X : JX} (E : jE G X (RX7, cX7_takeOver, 3)) (hX : X.2.2.2.1 = jRm 1 0 0) (hr : X.2.2.2.2.2.2.2.2.1.sig.returnType = none) (N : Nat) {Q : State → Prop} {v0 : Nat} {v1 : Int32} {v2 : Int32} {w0 : Nat} {w1 : Int32} {w2 : Int32} {h : AH}  {q : ((Int32 × AH) ⊕ ((AH)))} (hf : f_X7_takeOver_b111 N v0 v1 v2 w0 w1 w2 h = some q) (kb : ∀ s' : Int32 × AH, q = .inl s' → JW G X (RX7, cX7_takeOver, 3) s'.2 [(0, .ref v0), (1, .int s'.1)] [] 70 0 0 Q) (ke0 : ∀ e : AH, q = .inr e → JW G X (RX7, cX7_takeOver, 3) e [(0, .ref v0)] [] 152 0 0 Q) : JW G X (RX7, cX7_takeOver, 3) h [(0, .ref v0), (1, .int v1), (2, .int v2)] [.int w2, .int w1, .ref w0] 111 0 0 Q := by
  unfold f_X7_takeOver_b111 at hf
  obtain ⟨h40, e41, hf⟩ := jbind hf
  refine J_iast E (jd dk_X7_takeOver_1 6 rfl) e41 ?_
  refine J_aload_n E (jd dk_X7_takeOver_1 7 rfl) rfl 0 rfl ?_
  obtain ⟨x42, e43, hf⟩ := jbind hf
  refine J_getr E (jd dk_X7_takeOver_1 8 rfl) fl_RX7_81 e43 ?_
  refine J_iload_n E (jd dk_X7_takeOver_1 9 rfl) rfl 1 rfl ?_
  refine J_iconst (v := (-1)) E (jd dk_X7_takeOver_1 10 rfl) rfl ?_
  obtain ⟨h44, e45, hf⟩ := jbind hf
  refine J_iast E (jd dk_X7_takeOver_1 11 rfl) e45 ?_
  refine J_aload_n E (jd dk_X7_takeOver_1 12 rfl) rfl 0 rfl ?_
  obtain ⟨x46, e47, hf⟩ := jbind hf
  refine J_getr E (jd dk_X7_takeOver_1 13 rfl) fl_RX7_84 e47 ?_
  refine J_iload_n E (jd dk_X7_takeOver_1 14 rfl) rfl 1 rfl ?_
  refine J_iload_n E (jd dk_X7_takeOver_1 15 rfl) rfl 2 rfl ?_
  refine J_if_eq (tgt := 137) E (jd dk_X7_takeOver_1 16 rfl) (by decide) (fun c48 => ?_) (fun c48 => ?_)
  · replace hf := jif_t c48 hf
    refine J_iconst (v := 0) E (jd dk_X7_takeOver_1 22 rfl) rfl ?_
    refine J_sub [0, 1] rfl ?_
    exact lk_X7_takeOver_b138 E hX hr N hf kb ke0
  · replace hf := jif_f c48 hf
    refine J_aload_n E (jd dk_X7_takeOver_1 17 rfl) rfl 0 rfl ?_
    obtain ⟨x49, e50, hf⟩ := jbind hf
    refine J_getr E (jd dk_X7_takeOver_1 18 rfl) fl_RX7_54 e50 ?_
    refine J_iload_n E (jd dk_X7_takeOver_1 19 rfl) rfl 1 rfl ?_
    obtain ⟨x51, e52, hf⟩ := jbind hf
    refine J_iald E (jd dk_X7_takeOver_1 20 rfl) e52 ?_
    refine J_goto (tgt := 138) E (jd dk_X7_takeOver_1 21 rfl) (by decide) ?_
    refine J_sub [0, 1] rfl ?_
    exact lk_X7_takeOver_b138 E hX hr N hf kb ke0
set_option maxRecDepth 100000 in
set_option maxHeartbeats 4000000 in
theorem lk_X7_takeOver_b91 {G : JG} {X : JX} (E : jE G X (RX7, cX7_takeOver, 3)) (hX : X.2.2.2.1 = jRm 1 0 0) (hr : X.2.2.2.2.2.2.2.2.1.sig.returnType = none) (N : Nat) {Q : State → Prop} {v0 : Nat} {v1 : Int32} {w0 : Int32} {h : AH}  {q : ((Int32 × AH) ⊕ ((AH)))} (hf : f_X7_takeOver_b91 N v0 v1 w0 h = some q) (kb : ∀ s' : Int32 × AH, q = .inl s' → JW G X (RX7, cX7_takeOver, 3) s'.2 [(0, .ref v0), (1, .int s'.1)] [] 70 0 0 Q) (ke0 : ∀ e : AH, q = .inr e → JW G X (RX7, cX7_takeOver, 3) e [(0, .ref v0)] [] 152 0 0 Q) : JW G X (RX7, cX7_takeOver, 3) h [(0, .ref v0), (1, .int v1)] [.int w0] 91 0 0 Q := by
  unfold f_X7_takeOver_b91 at hf
  refine J_istore_n (lv' := [(2, .int w0), (0, .ref v0), (1, .int v1)]) E (jd dk_X7_takeOver_0 44 rfl) rfl (by decide) rfl ?_
  refine J_aload_n E (jd dk_X7_takeOver_0 45 rfl) rfl 1 rfl ?_
  obtain ⟨x53, e54, hf⟩ := jbind hf
  refine J_getr E (jd dk_X7_takeOver_0 46 rfl) fl_RX7_72 e54 ?_
  refine J_iload_n E (jd dk_X7_takeOver_0 47 rfl) rfl 2 rfl ?_
  refine J_iload_n E (jd dk_X7_takeOver_0 48 rfl) rfl 0 rfl ?_
  refine J_if_eq (tgt := 110) E (jd dk_X7_takeOver_0 49 rfl) (by decide) (fun c55 => ?_) (fun c55 => ?_)
  · replace hf := jif_t c55 hf
    refine J_iconst (v := 0) E (jd dk_X7_takeOver_1 5 rfl) rfl ?_
    refine J_sub [1, 2, 0] rfl ?_
    exact lk_X7_takeOver_b111 E hX hr N hf kb ke0
  · replace hf := jif_f c55 hf
    refine J_aload_n E (jd dk_X7_takeOver_1 0 rfl) rfl 1 rfl ?_
    obtain ⟨x56, e57, hf⟩ := jbind hf
    refine J_getr E (jd dk_X7_takeOver_1 1 rfl) fl_RX7_57 e57 ?_
    refine J_iload_n E (jd dk_X7_takeOver_1 2 rfl) rfl 2 rfl ?_
    obtain ⟨x58, e59, hf⟩ := jbind hf
    refine J_iald E (jd dk_X7_takeOver_1 3 rfl) e59 ?_
    refine J_goto (tgt := 111) E (jd dk_X7_takeOver_1 4 rfl) (by decide) ?_
    refine J_sub [1, 2, 0] rfl ?_
    exact lk_X7_takeOver_b111 E hX hr N hf kb ke0
set_option maxRecDepth 100000 in
set_option maxHeartbeats 4000000 in
theorem lk_X7_takeOver_l70 {G : JG} {X : JX} (E : jE G X (RX7, cX7_takeOver, 3)) (hX : X.2.2.2.1 = jRm 1 0 0) (hr : X.2.2.2.2.2.2.2.2.1.sig.returnType = none) (N : Nat) {Q : State → Prop} {v0 : Nat} {v1 : Int32}  {h : AH} {q : ((Int32 × AH) ⊕ ((AH)))} (hf : f_X7_takeOver_l70 N v0 v1 h = some q) (kb : ∀ s' : Int32 × AH, q = .inl s' → JW G X (RX7, cX7_takeOver, 3) s'.2 [(0, .ref v0), (1, .int s'.1)] [] 70 0 0 Q) (ke0 : ∀ e : AH, q = .inr e → JW G X (RX7, cX7_takeOver, 3) e [(0, .ref v0)] [] 152 0 0 Q) : JW G X (RX7, cX7_takeOver, 3) h [(0, .ref v0), (1, .int v1)] [] 70 0 0 Q := by
  unfold f_X7_takeOver_l70 at hf
  refine J_iload_n E (jd dk_X7_takeOver_0 32 rfl) rfl 1 rfl ?_
  refine J_bipush (v := 8) E (jd dk_X7_takeOver_0 33 rfl) (by decide) ?_
  refine J_icmp_ge (tgt := 152) E (jd dk_X7_takeOver_0 34 rfl) (by decide) (fun c60 => ?_) (fun c60 => ?_)
  · replace hf := jif_t c60 hf
    refine J_sub [0] rfl ?_
    exact ke0 _ (Option.some.inj hf).symm
  · replace hf := jif_f c60 hf
    refine J_iload_n E (jd dk_X7_takeOver_0 35 rfl) rfl 1 rfl ?_
    refine J_aload_n E (jd dk_X7_takeOver_0 36 rfl) rfl 0 rfl ?_
    obtain ⟨x61, e62, hf⟩ := jbind hf
    refine J_getr E (jd dk_X7_takeOver_0 37 rfl) fl_RX7_42 e62 ?_
    refine J_iconst (v := 2) E (jd dk_X7_takeOver_0 38 rfl) rfl ?_
    obtain ⟨x63, e64, hf⟩ := jbind hf
    refine J_iald E (jd dk_X7_takeOver_0 39 rfl) e64 ?_
    refine J_icmp_ge (tgt := 90) E (jd dk_X7_takeOver_0 40 rfl) (by decide) (fun c65 => ?_) (fun c65 => ?_)
    · replace hf := jif_t c65 hf
      refine J_iconst (v := 0) E (jd dk_X7_takeOver_0 43 rfl) rfl ?_
      exact lk_X7_takeOver_b91 E hX hr N hf kb ke0
    · replace hf := jif_f c65 hf
      refine J_iconst (v := 1) E (jd dk_X7_takeOver_0 41 rfl) rfl ?_
      refine J_goto (tgt := 91) E (jd dk_X7_takeOver_0 42 rfl) (by decide) ?_
      exact lk_X7_takeOver_b91 E hX hr N hf kb ke0
set_option maxRecDepth 100000 in
set_option maxHeartbeats 4000000 in
theorem lk_X7_takeOver_b70 {G : JG} {X : JX} (E : jE G X (RX7, cX7_takeOver, 3)) (hX : X.2.2.2.1 = jRm 1 0 0) (hr : X.2.2.2.2.2.2.2.2.1.sig.returnType = none) (N : Nat) {v0 : Nat} {v1 : Int32} {h : AH}  {r : AH} (hf : f_X7_takeOver_b70 N v0 v1 h = some r) : JW G X (RX7, cX7_takeOver, 3) h [(0, .ref v0), (1, .int v1)] [] 70 0 0 (jEnd G X (jpv r) 0 0) := by
  unfold f_X7_takeOver_b70 at hf
  obtain ⟨q1, h1, hf⟩ := jbind hf
  refine jloop (P := fun s => JW G X (RX7, cX7_takeOver, 3) s.2 [(0, .ref v0), (1, .int s.1)] [] 70 0 0 (jEnd G X (jpv r) 0 0)) (Ex := fun (e : AH) => JW G X (RX7, cX7_takeOver, 3) e [(0, .ref v0)] [] 152 0 0 (jEnd G X (jpv r) 0 0)) (fun s q hs hb hx => lk_X7_takeOver_l70 E hX hr N hs (fun s' hs => hb s' hs) (fun e he => hx e he)) N _ q1 h1 ?_
  generalize q1 = e at hf ⊢
  refine J_iconst (v := 0) E (jd dk_X7_takeOver_1 31 rfl) rfl ?_
  refine J_istore_n (lv' := [(1, .int 0), (0, .ref v0)]) E (jd dk_X7_takeOver_1 32 rfl) rfl (by decide) rfl ?_
  refine J_sub [1, 0] rfl ?_
  exact lk_X7_takeOver_b154 E hX hr N hf
set_option maxRecDepth 100000 in
set_option maxHeartbeats 4000000 in
theorem lk_X7_takeOver {G : JG} {l : Launch} (hG : jG G) (htr : l.stackTraces = false) (N : Nat) {h : AH} {a0 : Nat} {r : AH} (hf : f_X7_takeOver N h a0 = some r) : jMet G l yX7_takeOver cX7_takeOver 3 none 1 0 0 [.ref a0] h (jpv r) := by
  unfold f_X7_takeOver at hf
  refine jMet_of hG htr (by decide) (Nat.le_of_ble_eq_true rfl) ?_
  intro X E hl9 hr hX _ _
  show JW G X (RX7, cX7_takeOver, 3) h [(0, .ref a0)] [] 0 0 0 (jEnd G X (jpv r) 0 0)
  refine J_aload_n E (jd dk_X7_takeOver_0 0 rfl) rfl 0 rfl ?_
  obtain ⟨x66, e67, hf⟩ := jbind hf
  refine J_getr E (jd dk_X7_takeOver_0 1 rfl) fl_RX7_42 e67 ?_
  obtain ⟨r68, e69, hf⟩ := jbind hf
  refine J_callS E (jd dk_X7_takeOver_0 2 rfl) ml_RX7_302 cal_X7_takeHalf (lk_X7_takeHalf (jE_g E) (jE_tr E) N e69) rfl (Nat.le_of_ble_eq_true rfl) (jR_le hX (by decide) (by decide)) (jF0 hX) rfl ?_
  rintro _ _ ⟨rfl, rfl⟩
  refine J_aload_n E (jd dk_X7_takeOver_0 3 rfl) rfl 0 rfl ?_
  obtain ⟨x70, e71, hf⟩ := jbind hf
  refine J_getr E (jd dk_X7_takeOver_0 4 rfl) fl_RX7_46 e71 ?_
  obtain ⟨r72, e73, hf⟩ := jbind hf
  refine J_callS E (jd dk_X7_takeOver_0 5 rfl) ml_RX7_302 cal_X7_takeHalf (lk_X7_takeHalf (jE_g E) (jE_tr E) N e73) rfl (Nat.le_of_ble_eq_true rfl) (jR_le hX (by decide) (by decide)) (jF0 hX) rfl ?_
  rintro _ _ ⟨rfl, rfl⟩
  refine J_aload_n E (jd dk_X7_takeOver_0 6 rfl) rfl 0 rfl ?_
  obtain ⟨x74, e75, hf⟩ := jbind hf
  refine J_getr E (jd dk_X7_takeOver_0 7 rfl) fl_RX7_49 e75 ?_
  obtain ⟨r76, e77, hf⟩ := jbind hf
  refine J_callS E (jd dk_X7_takeOver_0 8 rfl) ml_RX7_302 cal_X7_takeHalf (lk_X7_takeHalf (jE_g E) (jE_tr E) N e77) rfl (Nat.le_of_ble_eq_true rfl) (jR_le hX (by decide) (by decide)) (jF0 hX) rfl ?_
  rintro _ _ ⟨rfl, rfl⟩
  refine J_aload_n E (jd dk_X7_takeOver_0 9 rfl) rfl 0 rfl ?_
  obtain ⟨x78, e79, hf⟩ := jbind hf
  refine J_getr E (jd dk_X7_takeOver_0 10 rfl) fl_RX7_52 e79 ?_
  obtain ⟨r80, e81, hf⟩ := jbind hf
  refine J_callS E (jd dk_X7_takeOver_0 11 rfl) ml_RX7_302 cal_X7_takeHalf (lk_X7_takeHalf (jE_g E) (jE_tr E) N e81) rfl (Nat.le_of_ble_eq_true rfl) (jR_le hX (by decide) (by decide)) (jF0 hX) rfl ?_
  rintro _ _ ⟨rfl, rfl⟩
  refine J_aload_n E (jd dk_X7_takeOver_0 12 rfl) rfl 0 rfl ?_
  obtain ⟨x82, e83, hf⟩ := jbind hf
  refine J_getr E (jd dk_X7_takeOver_0 13 rfl) fl_RX7_54 e83 ?_
  obtain ⟨r84, e85, hf⟩ := jbind hf
  refine J_callS E (jd dk_X7_takeOver_0 14 rfl) ml_RX7_302 cal_X7_takeHalf (lk_X7_takeHalf (jE_g E) (jE_tr E) N e85) rfl (Nat.le_of_ble_eq_true rfl) (jR_le hX (by decide) (by decide)) (jF0 hX) rfl ?_
  rintro _ _ ⟨rfl, rfl⟩
  refine J_aload_n E (jd dk_X7_takeOver_0 15 rfl) rfl 0 rfl ?_
  obtain ⟨x86, e87, hf⟩ := jbind hf
  refine J_getr E (jd dk_X7_takeOver_0 16 rfl) fl_RX7_57 e87 ?_
  obtain ⟨r88, e89, hf⟩ := jbind hf
  refine J_callS E (jd dk_X7_takeOver_0 17 rfl) ml_RX7_302 cal_X7_takeHalf (lk_X7_takeHalf (jE_g E) (jE_tr E) N e89) rfl (Nat.le_of_ble_eq_true rfl) (jR_le hX (by decide) (by decide)) (jF0 hX) rfl ?_
  rintro _ _ ⟨rfl, rfl⟩
  refine J_aload_n E (jd dk_X7_takeOver_0 18 rfl) rfl 0 rfl ?_
  obtain ⟨x90, e91, hf⟩ := jbind hf
  refine J_getr E (jd dk_X7_takeOver_0 19 rfl) fl_RX7_60 e91 ?_
  obtain ⟨r92, e93, hf⟩ := jbind hf
  refine J_callS E (jd dk_X7_takeOver_0 20 rfl) ml_RX7_302 cal_X7_takeHalf (lk_X7_takeHalf (jE_g E) (jE_tr E) N e93) rfl (Nat.le_of_ble_eq_true rfl) (jR_le hX (by decide) (by decide)) (jF0 hX) rfl ?_
  rintro _ _ ⟨rfl, rfl⟩
  refine J_aload_n E (jd dk_X7_takeOver_0 21 rfl) rfl 0 rfl ?_
  obtain ⟨x94, e95, hf⟩ := jbind hf
  refine J_getr E (jd dk_X7_takeOver_0 22 rfl) fl_RX7_63 e95 ?_
  obtain ⟨r96, e97, hf⟩ := jbind hf
  refine J_callS E (jd dk_X7_takeOver_0 23 rfl) ml_RX7_302 cal_X7_takeHalf (lk_X7_takeHalf (jE_g E) (jE_tr E) N e97) rfl (Nat.le_of_ble_eq_true rfl) (jR_le hX (by decide) (by decide)) (jF0 hX) rfl ?_
  rintro _ _ ⟨rfl, rfl⟩
  refine J_aload_n E (jd dk_X7_takeOver_0 24 rfl) rfl 0 rfl ?_
  obtain ⟨x98, e99, hf⟩ := jbind hf
  refine J_getr E (jd dk_X7_takeOver_0 25 rfl) fl_RX7_66 e99 ?_
  obtain ⟨r100, e101, hf⟩ := jbind hf
  refine J_callS E (jd dk_X7_takeOver_0 26 rfl) ml_RX7_302 cal_X7_takeHalf (lk_X7_takeHalf (jE_g E) (jE_tr E) N e101) rfl (Nat.le_of_ble_eq_true rfl) (jR_le hX (by decide) (by decide)) (jF0 hX) rfl ?_
  rintro _ _ ⟨rfl, rfl⟩
  refine J_aload_n E (jd dk_X7_takeOver_0 27 rfl) rfl 0 rfl ?_
  refine J_iconst (v := 0) E (jd dk_X7_takeOver_0 28 rfl) rfl ?_
  obtain ⟨h102, e103, hf⟩ := jbind hf
  refine J_put E (jd dk_X7_takeOver_0 29 rfl) fl_RX7_306 e103 (fun _ => rfl) (fun _ => rfl) ?_
  refine J_iconst (v := 0) E (jd dk_X7_takeOver_0 30 rfl) rfl ?_
  refine J_istore_n (lv' := [(1, .int 0), (0, .ref a0)]) E (jd dk_X7_takeOver_0 31 rfl) rfl (by decide) rfl ?_
  refine J_sub [1, 0] rfl ?_
  exact lk_X7_takeOver_b70 E hX hr N hf
def f_X7_fault (N : Nat) (h : AH) (a0 : Nat) : Option (Int32 × AH) :=
  (jwi 7 h a0 4 0).bind fun h1 =>
  (jgi 7 h1 a0 26).bind fun x3 =>
  some (x3, h1)
set_option maxRecDepth 100000 in
set_option maxHeartbeats 4000000 in
theorem lk_X7_fault {G : JG} {l : Launch} (hG : jG G) (htr : l.stackTraces = false) (N : Nat) {h : AH} {a0 : Nat} {r : (Int32 × AH)} (hf : f_X7_fault N h a0 = some r) : jMet G l yX7_fault cX7_fault 1 (some .int) 0 0 0 [.ref a0] h (jpi r) := by
  unfold f_X7_fault at hf
  refine jMet_of hG htr (by decide) (Nat.le_of_ble_eq_true rfl) ?_
  intro X E hl9 hr hX _ _
  show JW G X (RX7, cX7_fault, 1) h [(0, .ref a0)] [] 0 0 0 (jEnd G X (jpi r) 0 0)
  refine J_aload_n E (jd dk_X7_fault_0 0 rfl) rfl 0 rfl ?_
  refine J_iconst (v := 0) E (jd dk_X7_fault_0 1 rfl) rfl ?_
  obtain ⟨h1, e2, hf⟩ := jbind hf
  refine J_put E (jd dk_X7_fault_0 2 rfl) fl_RX7_151 e2 (fun _ => rfl) (fun _ => rfl) ?_
  refine J_aload_n E (jd dk_X7_fault_0 3 rfl) rfl 0 rfl ?_
  obtain ⟨x3, e4, hf⟩ := jbind hf
  refine J_geti E (jd dk_X7_fault_0 4 rfl) fl_RX7_77 e4 ?_
  cases hf
  exact J_iret E hr rfl (jd dk_X7_fault_0 5 rfl) (Nat.le_refl _) (Nat.le_refl _) ⟨rfl, rfl⟩
def f_X7_pack_l68 (N : Nat) (v0 : Nat) (v1 : Nat) (v2 : Int32) (v3 : Int32) (h : AH) : Option ((Int32 × AH) ⊕ ((AH))) :=
  if 9 ≤ v3 then some (.inr h)
  else (jgr 7 h v0 31).bind fun x2 =>
  (jal 0 h x2 v3).bind fun x4 =>
  (jas 0 h v1 (((v2 + 1) + 24) + v3) x4).bind fun h6 =>
  (jgr 7 h6 v0 32).bind fun x8 =>
  (jal 0 h6 x8 v3).bind fun x10 =>
  (jas 0 h6 v1 ((((v2 + 1) + 24) + 9) + v3) x10).bind fun h12 =>
  some (.inl ((v3 + 1, h12)))
def f_X7_pack_b68 (N : Nat) (v0 : Nat) (v1 : Nat) (v2 : Int32) (v3 : Int32) (h : AH) : Option AH :=
  (itr (fun s => f_X7_pack_l68 N v0 v1 v2 s.1 s.2) N (v3, h)).bind (fun e => some e)
def f_X7_pack_l9 (N : Nat) (v0 : Nat) (v1 : Nat) (v2 : Int32) (v3 : Int32) (h : AH) : Option ((Int32 × AH) ⊕ ((AH))) :=
  if 8 ≤ v3 then some (.inr h)
  else (jgr 7 h v0 28).bind fun x15 =>
  (jal 0 h x15 v3).bind fun x17 =>
  (jas 0 h v1 ((v2 + 1) + v3) x17).bind fun h19 =>
  (jgr 7 h19 v0 29).bind fun x21 =>
  (jal 0 h19 x21 v3).bind fun x23 =>
  (jas 0 h19 v1 (((v2 + 1) + 8) + v3) x23).bind fun h25 =>
  (jgr 7 h25 v0 30).bind fun x27 =>
  (jal 0 h25 x27 v3).bind fun x29 =>
  (jas 0 h25 v1 (((v2 + 1) + 16) + v3) x29).bind fun h31 =>
  some (.inl ((v3 + 1, h31)))
def f_X7_pack_b9 (N : Nat) (v0 : Nat) (v1 : Nat) (v2 : Int32) (v3 : Int32) (h : AH) : Option AH :=
  (itr (fun s => f_X7_pack_l9 N v0 v1 v2 s.1 s.2) N (v3, h)).bind (fun e => f_X7_pack_b68 N v0 v1 v2 0 e)
def f_X7_pack (N : Nat) (h : AH) (a0 : Nat) (a1 : Nat) (a2 : Int32) : Option AH :=
  (jgi 7 h a0 34).bind fun x33 =>
  (jas 0 h a1 a2 x33).bind fun h35 =>
  f_X7_pack_b9 N a0 a1 a2 0 h35
set_option maxRecDepth 100000 in
set_option maxHeartbeats 4000000 in
theorem lk_X7_pack_l68 {G : JG} {X : JX} (E : jE G X (RX7, cX7_pack, 4)) (hX : X.2.2.2.1 = jRm 0 0 0) (hr : X.2.2.2.2.2.2.2.2.1.sig.returnType = none) (N : Nat) {Q : State → Prop} {v0 : Nat} {v1 : Nat} {v2 : Int32} {v3 : Int32}  {h : AH} {q : ((Int32 × AH) ⊕ ((AH)))} (hf : f_X7_pack_l68 N v0 v1 v2 v3 h = some q) (kb : ∀ s' : Int32 × AH, q = .inl s' → JW G X (RX7, cX7_pack, 4) s'.2 [(0, .ref v0), (1, .ref v1), (2, .int v2), (3, .int s'.1)] [] 68 0 0 Q) (ke0 : ∀ e : AH, q = .inr e → JW G X (RX7, cX7_pack, 4) e [] [] 115 0 0 Q) : JW G X (RX7, cX7_pack, 4) h [(0, .ref v0), (1, .ref v1), (2, .int v2), (3, .int v3)] [] 68 0 0 Q := by
  unfold f_X7_pack_l68 at hf
  refine J_iload_n E (jd dk_X7_pack_1 1 rfl) rfl 3 rfl ?_
  refine J_bipush (v := 9) E (jd dk_X7_pack_1 2 rfl) (by decide) ?_
  refine J_icmp_ge (tgt := 115) E (jd dk_X7_pack_1 3 rfl) (by decide) (fun c1 => ?_) (fun c1 => ?_)
  · replace hf := jif_t c1 hf
    refine J_sub [] rfl ?_
    exact ke0 _ (Option.some.inj hf).symm
  · replace hf := jif_f c1 hf
    refine J_aload_n E (jd dk_X7_pack_1 4 rfl) rfl 1 rfl ?_
    refine J_iload_n E (jd dk_X7_pack_1 5 rfl) rfl 2 rfl ?_
    refine J_iconst (v := 1) E (jd dk_X7_pack_1 6 rfl) rfl ?_
    refine J_iadd E (jd dk_X7_pack_1 7 rfl) ?_
    refine J_bipush (v := 24) E (jd dk_X7_pack_1 8 rfl) (by decide) ?_
    refine J_iadd E (jd dk_X7_pack_1 9 rfl) ?_
    refine J_iload_n E (jd dk_X7_pack_1 10 rfl) rfl 3 rfl ?_
    refine J_iadd E (jd dk_X7_pack_1 11 rfl) ?_
    refine J_aload_n E (jd dk_X7_pack_1 12 rfl) rfl 0 rfl ?_
    obtain ⟨x2, e3, hf⟩ := jbind hf
    refine J_getr E (jd dk_X7_pack_1 13 rfl) fl_RX7_90 e3 ?_
    refine J_iload_n E (jd dk_X7_pack_1 14 rfl) rfl 3 rfl ?_
    obtain ⟨x4, e5, hf⟩ := jbind hf
    refine J_iald E (jd dk_X7_pack_1 15 rfl) e5 ?_
    obtain ⟨h6, e7, hf⟩ := jbind hf
    refine J_iast E (jd dk_X7_pack_1 16 rfl) e7 ?_
    refine J_aload_n E (jd dk_X7_pack_1 17 rfl) rfl 1 rfl ?_
    refine J_iload_n E (jd dk_X7_pack_1 18 rfl) rfl 2 rfl ?_
    refine J_iconst (v := 1) E (jd dk_X7_pack_1 19 rfl) rfl ?_
    refine J_iadd E (jd dk_X7_pack_1 20 rfl) ?_
    refine J_bipush (v := 24) E (jd dk_X7_pack_1 21 rfl) (by decide) ?_
    refine J_iadd E (jd dk_X7_pack_1 22 rfl) ?_
    refine J_bipush (v := 9) E (jd dk_X7_pack_1 23 rfl) (by decide) ?_
    refine J_iadd E (jd dk_X7_pack_1 24 rfl) ?_
    refine J_iload_n E (jd dk_X7_pack_1 25 rfl) rfl 3 rfl ?_
    refine J_iadd E (jd dk_X7_pack_1 26 rfl) ?_
    refine J_aload_n E (jd dk_X7_pack_1 27 rfl) rfl 0 rfl ?_
    obtain ⟨x8, e9, hf⟩ := jbind hf
    refine J_getr E (jd dk_X7_pack_1 28 rfl) fl_RX7_92 e9 ?_
    refine J_iload_n E (jd dk_X7_pack_1 29 rfl) rfl 3 rfl ?_
    obtain ⟨x10, e11, hf⟩ := jbind hf
    refine J_iald E (jd dk_X7_pack_1 30 rfl) e11 ?_
    obtain ⟨h12, e13, hf⟩ := jbind hf
    refine J_iast E (jd dk_X7_pack_1 31 rfl) e13 ?_
    refine J_iinc (v := v3 + 1) (lv' := [(3, .int (v3 + 1)), (0, .ref v0), (1, .ref v1), (2, .int v2)]) E (jd dk_X7_pack_1 32 rfl) 3 rfl rfl (by decide) rfl ?_
    refine J_goto (tgt := 68) E (jd dk_X7_pack_1 33 rfl) (by decide) ?_
    refine J_sub [1, 2, 3, 0] rfl ?_
    exact kb _ (Option.some.inj hf).symm
set_option maxRecDepth 100000 in
set_option maxHeartbeats 4000000 in
theorem lk_X7_pack_b68 {G : JG} {X : JX} (E : jE G X (RX7, cX7_pack, 4)) (hX : X.2.2.2.1 = jRm 0 0 0) (hr : X.2.2.2.2.2.2.2.2.1.sig.returnType = none) (N : Nat) {v0 : Nat} {v1 : Nat} {v2 : Int32} {v3 : Int32} {h : AH}  {r : AH} (hf : f_X7_pack_b68 N v0 v1 v2 v3 h = some r) : JW G X (RX7, cX7_pack, 4) h [(0, .ref v0), (1, .ref v1), (2, .int v2), (3, .int v3)] [] 68 0 0 (jEnd G X (jpv r) 0 0) := by
  unfold f_X7_pack_b68 at hf
  obtain ⟨q1, h1, hf⟩ := jbind hf
  refine jloop (P := fun s => JW G X (RX7, cX7_pack, 4) s.2 [(0, .ref v0), (1, .ref v1), (2, .int v2), (3, .int s.1)] [] 68 0 0 (jEnd G X (jpv r) 0 0)) (Ex := fun (e : AH) => JW G X (RX7, cX7_pack, 4) e [] [] 115 0 0 (jEnd G X (jpv r) 0 0)) (fun s q hs hb hx => lk_X7_pack_l68 E hX hr N hs (fun s' hs => hb s' hs) (fun e he => hx e he)) N _ q1 h1 ?_
  generalize q1 = e at hf ⊢
  cases hf
  exact J_vret E hr (jd dk_X7_pack_1 34 rfl) (Nat.le_refl _) (Nat.le_refl _) ⟨rfl, rfl⟩
set_option maxRecDepth 100000 in
set_option maxHeartbeats 4000000 in
theorem lk_X7_pack_l9 {G : JG} {X : JX} (E : jE G X (RX7, cX7_pack, 4)) (hX : X.2.2.2.1 = jRm 0 0 0) (hr : X.2.2.2.2.2.2.2.2.1.sig.returnType = none) (N : Nat) {Q : State → Prop} {v0 : Nat} {v1 : Nat} {v2 : Int32} {v3 : Int32}  {h : AH} {q : ((Int32 × AH) ⊕ ((AH)))} (hf : f_X7_pack_l9 N v0 v1 v2 v3 h = some q) (kb : ∀ s' : Int32 × AH, q = .inl s' → JW G X (RX7, cX7_pack, 4) s'.2 [(0, .ref v0), (1, .ref v1), (2, .int v2), (3, .int s'.1)] [] 9 0 0 Q) (ke0 : ∀ e : AH, q = .inr e → JW G X (RX7, cX7_pack, 4) e [(0, .ref v0), (1, .ref v1), (2, .int v2)] [] 66 0 0 Q) : JW G X (RX7, cX7_pack, 4) h [(0, .ref v0), (1, .ref v1), (2, .int v2), (3, .int v3)] [] 9 0 0 Q := by
  unfold f_X7_pack_l9 at hf
  refine J_iload_n E (jd dk_X7_pack_0 7 rfl) rfl 3 rfl ?_
  refine J_bipush (v := 8) E (jd dk_X7_pack_0 8 rfl) (by decide) ?_
  refine J_icmp_ge (tgt := 66) E (jd dk_X7_pack_0 9 rfl) (by decide) (fun c14 => ?_) (fun c14 => ?_)
  · replace hf := jif_t c14 hf
    refine J_sub [0, 1, 2] rfl ?_
    exact ke0 _ (Option.some.inj hf).symm
  · replace hf := jif_f c14 hf
    refine J_aload_n E (jd dk_X7_pack_0 10 rfl) rfl 1 rfl ?_
    refine J_iload_n E (jd dk_X7_pack_0 11 rfl) rfl 2 rfl ?_
    refine J_iconst (v := 1) E (jd dk_X7_pack_0 12 rfl) rfl ?_
    refine J_iadd E (jd dk_X7_pack_0 13 rfl) ?_
    refine J_iload_n E (jd dk_X7_pack_0 14 rfl) rfl 3 rfl ?_
    refine J_iadd E (jd dk_X7_pack_0 15 rfl) ?_
    refine J_aload_n E (jd dk_X7_pack_0 16 rfl) rfl 0 rfl ?_
    obtain ⟨x15, e16, hf⟩ := jbind hf
    refine J_getr E (jd dk_X7_pack_0 17 rfl) fl_RX7_81 e16 ?_
    refine J_iload_n E (jd dk_X7_pack_0 18 rfl) rfl 3 rfl ?_
    obtain ⟨x17, e18, hf⟩ := jbind hf
    refine J_iald E (jd dk_X7_pack_0 19 rfl) e18 ?_
    obtain ⟨h19, e20, hf⟩ := jbind hf
    refine J_iast E (jd dk_X7_pack_0 20 rfl) e20 ?_
    refine J_aload_n E (jd dk_X7_pack_0 21 rfl) rfl 1 rfl ?_
    refine J_iload_n E (jd dk_X7_pack_0 22 rfl) rfl 2 rfl ?_
    refine J_iconst (v := 1) E (jd dk_X7_pack_0 23 rfl) rfl ?_
    refine J_iadd E (jd dk_X7_pack_0 24 rfl) ?_
    refine J_bipush (v := 8) E (jd dk_X7_pack_0 25 rfl) (by decide) ?_
    refine J_iadd E (jd dk_X7_pack_0 26 rfl) ?_
    refine J_iload_n E (jd dk_X7_pack_0 27 rfl) rfl 3 rfl ?_
    refine J_iadd E (jd dk_X7_pack_0 28 rfl) ?_
    refine J_aload_n E (jd dk_X7_pack_0 29 rfl) rfl 0 rfl ?_
    obtain ⟨x21, e22, hf⟩ := jbind hf
    refine J_getr E (jd dk_X7_pack_0 30 rfl) fl_RX7_84 e22 ?_
    refine J_iload_n E (jd dk_X7_pack_0 31 rfl) rfl 3 rfl ?_
    obtain ⟨x23, e24, hf⟩ := jbind hf
    refine J_iald E (jd dk_X7_pack_0 32 rfl) e24 ?_
    obtain ⟨h25, e26, hf⟩ := jbind hf
    refine J_iast E (jd dk_X7_pack_0 33 rfl) e26 ?_
    refine J_aload_n E (jd dk_X7_pack_0 34 rfl) rfl 1 rfl ?_
    refine J_iload_n E (jd dk_X7_pack_0 35 rfl) rfl 2 rfl ?_
    refine J_iconst (v := 1) E (jd dk_X7_pack_0 36 rfl) rfl ?_
    refine J_iadd E (jd dk_X7_pack_0 37 rfl) ?_
    refine J_bipush (v := 16) E (jd dk_X7_pack_0 38 rfl) (by decide) ?_
    refine J_iadd E (jd dk_X7_pack_0 39 rfl) ?_
    refine J_iload_n E (jd dk_X7_pack_0 40 rfl) rfl 3 rfl ?_
    refine J_iadd E (jd dk_X7_pack_0 41 rfl) ?_
    refine J_aload_n E (jd dk_X7_pack_0 42 rfl) rfl 0 rfl ?_
    obtain ⟨x27, e28, hf⟩ := jbind hf
    refine J_getr E (jd dk_X7_pack_0 43 rfl) fl_RX7_87 e28 ?_
    refine J_iload_n E (jd dk_X7_pack_0 44 rfl) rfl 3 rfl ?_
    obtain ⟨x29, e30, hf⟩ := jbind hf
    refine J_iald E (jd dk_X7_pack_0 45 rfl) e30 ?_
    obtain ⟨h31, e32, hf⟩ := jbind hf
    refine J_iast E (jd dk_X7_pack_0 46 rfl) e32 ?_
    refine J_iinc (v := v3 + 1) (lv' := [(3, .int (v3 + 1)), (0, .ref v0), (1, .ref v1), (2, .int v2)]) E (jd dk_X7_pack_0 47 rfl) 3 rfl rfl (by decide) rfl ?_
    refine J_goto (tgt := 9) E (jd dk_X7_pack_0 48 rfl) (by decide) ?_
    refine J_sub [1, 2, 3, 0] rfl ?_
    exact kb _ (Option.some.inj hf).symm
set_option maxRecDepth 100000 in
set_option maxHeartbeats 4000000 in
theorem lk_X7_pack_b9 {G : JG} {X : JX} (E : jE G X (RX7, cX7_pack, 4)) (hX : X.2.2.2.1 = jRm 0 0 0) (hr : X.2.2.2.2.2.2.2.2.1.sig.returnType = none) (N : Nat) {v0 : Nat} {v1 : Nat} {v2 : Int32} {v3 : Int32} {h : AH}  {r : AH} (hf : f_X7_pack_b9 N v0 v1 v2 v3 h = some r) : JW G X (RX7, cX7_pack, 4) h [(0, .ref v0), (1, .ref v1), (2, .int v2), (3, .int v3)] [] 9 0 0 (jEnd G X (jpv r) 0 0) := by
  unfold f_X7_pack_b9 at hf
  obtain ⟨q1, h1, hf⟩ := jbind hf
  refine jloop (P := fun s => JW G X (RX7, cX7_pack, 4) s.2 [(0, .ref v0), (1, .ref v1), (2, .int v2), (3, .int s.1)] [] 9 0 0 (jEnd G X (jpv r) 0 0)) (Ex := fun (e : AH) => JW G X (RX7, cX7_pack, 4) e [(0, .ref v0), (1, .ref v1), (2, .int v2)] [] 66 0 0 (jEnd G X (jpv r) 0 0)) (fun s q hs hb hx => lk_X7_pack_l9 E hX hr N hs (fun s' hs => hb s' hs) (fun e he => hx e he)) N _ q1 h1 ?_
  generalize q1 = e at hf ⊢
  refine J_iconst (v := 0) E (jd dk_X7_pack_0 49 rfl) rfl ?_
  refine J_istore_n (lv' := [(3, .int 0), (0, .ref v0), (1, .ref v1), (2, .int v2)]) E (jd dk_X7_pack_1 0 rfl) rfl (by decide) rfl ?_
  refine J_sub [1, 2, 3, 0] rfl ?_
  exact lk_X7_pack_b68 E hX hr N hf
set_option maxRecDepth 100000 in
set_option maxHeartbeats 4000000 in
theorem lk_X7_pack {G : JG} {l : Launch} (hG : jG G) (htr : l.stackTraces = false) (N : Nat) {h : AH} {a0 : Nat} {a1 : Nat} {a2 : Int32} {r : AH} (hf : f_X7_pack N h a0 a1 a2 = some r) : jMet G l yX7_pack cX7_pack 4 none 0 0 0 [.ref a0, .ref a1, .int a2] h (jpv r) := by
  unfold f_X7_pack at hf
  refine jMet_of hG htr (by decide) (Nat.le_of_ble_eq_true rfl) ?_
  intro X E hl9 hr hX _ _
  show JW G X (RX7, cX7_pack, 4) h [(0, .ref a0), (1, .ref a1), (2, .int a2)] [] 0 0 0 (jEnd G X (jpv r) 0 0)
  refine J_aload_n E (jd dk_X7_pack_0 0 rfl) rfl 1 rfl ?_
  refine J_iload_n E (jd dk_X7_pack_0 1 rfl) rfl 2 rfl ?_
  refine J_aload_n E (jd dk_X7_pack_0 2 rfl) rfl 0 rfl ?_
  obtain ⟨x33, e34, hf⟩ := jbind hf
  refine J_geti E (jd dk_X7_pack_0 3 rfl) fl_RX7_306 e34 ?_
  obtain ⟨h35, e36, hf⟩ := jbind hf
  refine J_iast E (jd dk_X7_pack_0 4 rfl) e36 ?_
  refine J_iconst (v := 0) E (jd dk_X7_pack_0 5 rfl) rfl ?_
  refine J_istore_n (lv' := [(3, .int 0), (0, .ref a0), (1, .ref a1), (2, .int a2)]) E (jd dk_X7_pack_0 6 rfl) rfl (by decide) rfl ?_
  refine J_sub [1, 2, 3, 0] rfl ?_
  exact lk_X7_pack_b9 E hX hr N hf
def f_X7_unpack_l68 (N : Nat) (v0 : Nat) (v1 : Nat) (v2 : Int32) (v3 : Int32) (h : AH) : Option ((Int32 × AH) ⊕ ((AH))) :=
  if 9 ≤ v3 then some (.inr h)
  else (jgr 7 h v0 31).bind fun x2 =>
  (jal 0 h v1 (((v2 + 1) + 24) + v3)).bind fun x4 =>
  (jas 0 h x2 v3 x4).bind fun h6 =>
  (jgr 7 h6 v0 32).bind fun x8 =>
  (jal 0 h6 v1 ((((v2 + 1) + 24) + 9) + v3)).bind fun x10 =>
  (jas 0 h6 x8 v3 x10).bind fun h12 =>
  some (.inl ((v3 + 1, h12)))
def f_X7_unpack_b68 (N : Nat) (v0 : Nat) (v1 : Nat) (v2 : Int32) (v3 : Int32) (h : AH) : Option AH :=
  (itr (fun s => f_X7_unpack_l68 N v0 v1 v2 s.1 s.2) N (v3, h)).bind (fun e => some e)
def f_X7_unpack_l9 (N : Nat) (v0 : Nat) (v1 : Nat) (v2 : Int32) (v3 : Int32) (h : AH) : Option ((Int32 × AH) ⊕ ((AH))) :=
  if 8 ≤ v3 then some (.inr h)
  else (jgr 7 h v0 28).bind fun x15 =>
  (jal 0 h v1 ((v2 + 1) + v3)).bind fun x17 =>
  (jas 0 h x15 v3 x17).bind fun h19 =>
  (jgr 7 h19 v0 29).bind fun x21 =>
  (jal 0 h19 v1 (((v2 + 1) + 8) + v3)).bind fun x23 =>
  (jas 0 h19 x21 v3 x23).bind fun h25 =>
  (jgr 7 h25 v0 30).bind fun x27 =>
  (jal 0 h25 v1 (((v2 + 1) + 16) + v3)).bind fun x29 =>
  (jas 0 h25 x27 v3 x29).bind fun h31 =>
  some (.inl ((v3 + 1, h31)))
def f_X7_unpack_b9 (N : Nat) (v0 : Nat) (v1 : Nat) (v2 : Int32) (v3 : Int32) (h : AH) : Option AH :=
  (itr (fun s => f_X7_unpack_l9 N v0 v1 v2 s.1 s.2) N (v3, h)).bind (fun e => f_X7_unpack_b68 N v0 v1 v2 0 e)
def f_X7_unpack (N : Nat) (h : AH) (a0 : Nat) (a1 : Nat) (a2 : Int32) : Option AH :=
  (jal 0 h a1 a2).bind fun x33 =>
  (jwi 7 h a0 34 x33).bind fun h35 =>
  f_X7_unpack_b9 N a0 a1 a2 0 h35
set_option maxRecDepth 100000 in
set_option maxHeartbeats 4000000 in
theorem lk_X7_unpack_l68 {G : JG} {X : JX} (E : jE G X (RX7, cX7_unpack, 4)) (hX : X.2.2.2.1 = jRm 0 0 0) (hr : X.2.2.2.2.2.2.2.2.1.sig.returnType = none) (N : Nat) {Q : State → Prop} {v0 : Nat} {v1 : Nat} {v2 : Int32} {v3 : Int32}  {h : AH} {q : ((Int32 × AH) ⊕ ((AH)))} (hf : f_X7_unpack_l68 N v0 v1 v2 v3 h = some q) (kb : ∀ s' : Int32 × AH, q = .inl s' → JW G X (RX7, cX7_unpack, 4) s'.2 [(0, .ref v0), (1, .ref v1), (2, .int v2), (3, .int s'.1)] [] 68 0 0 Q) (ke0 : ∀ e : AH, q = .inr e → JW G X (RX7, cX7_unpack, 4) e [] [] 115 0 0 Q) : JW G X (RX7, cX7_unpack, 4) h [(0, .ref v0), (1, .ref v1), (2, .int v2), (3, .int v3)] [] 68 0 0 Q := by
  unfold f_X7_unpack_l68 at hf
  refine J_iload_n E (jd dk_X7_unpack_1 1 rfl) rfl 3 rfl ?_
  refine J_bipush (v := 9) E (jd dk_X7_unpack_1 2 rfl) (by decide) ?_
  refine J_icmp_ge (tgt := 115) E (jd dk_X7_unpack_1 3 rfl) (by decide) (fun c1 => ?_) (fun c1 => ?_)
  · replace hf := jif_t c1 hf
    refine J_sub [] rfl ?_
    exact ke0 _ (Option.some.inj hf).symm
  · replace hf := jif_f c1 hf
    refine J_aload_n E (jd dk_X7_unpack_1 4 rfl) rfl 0 rfl ?_
    obtain ⟨x2, e3, hf⟩ := jbind hf
    refine J_getr E (jd dk_X7_unpack_1 5 rfl) fl_RX7_90 e3 ?_
    refine J_iload_n E (jd dk_X7_unpack_1 6 rfl) rfl 3 rfl ?_
    refine J_aload_n E (jd dk_X7_unpack_1 7 rfl) rfl 1 rfl ?_
    refine J_iload_n E (jd dk_X7_unpack_1 8 rfl) rfl 2 rfl ?_
    refine J_iconst (v := 1) E (jd dk_X7_unpack_1 9 rfl) rfl ?_
    refine J_iadd E (jd dk_X7_unpack_1 10 rfl) ?_
    refine J_bipush (v := 24) E (jd dk_X7_unpack_1 11 rfl) (by decide) ?_
    refine J_iadd E (jd dk_X7_unpack_1 12 rfl) ?_
    refine J_iload_n E (jd dk_X7_unpack_1 13 rfl) rfl 3 rfl ?_
    refine J_iadd E (jd dk_X7_unpack_1 14 rfl) ?_
    obtain ⟨x4, e5, hf⟩ := jbind hf
    refine J_iald E (jd dk_X7_unpack_1 15 rfl) e5 ?_
    obtain ⟨h6, e7, hf⟩ := jbind hf
    refine J_iast E (jd dk_X7_unpack_1 16 rfl) e7 ?_
    refine J_aload_n E (jd dk_X7_unpack_1 17 rfl) rfl 0 rfl ?_
    obtain ⟨x8, e9, hf⟩ := jbind hf
    refine J_getr E (jd dk_X7_unpack_1 18 rfl) fl_RX7_92 e9 ?_
    refine J_iload_n E (jd dk_X7_unpack_1 19 rfl) rfl 3 rfl ?_
    refine J_aload_n E (jd dk_X7_unpack_1 20 rfl) rfl 1 rfl ?_
    refine J_iload_n E (jd dk_X7_unpack_1 21 rfl) rfl 2 rfl ?_
    refine J_iconst (v := 1) E (jd dk_X7_unpack_1 22 rfl) rfl ?_
    refine J_iadd E (jd dk_X7_unpack_1 23 rfl) ?_
    refine J_bipush (v := 24) E (jd dk_X7_unpack_1 24 rfl) (by decide) ?_
    refine J_iadd E (jd dk_X7_unpack_1 25 rfl) ?_
    refine J_bipush (v := 9) E (jd dk_X7_unpack_1 26 rfl) (by decide) ?_
    refine J_iadd E (jd dk_X7_unpack_1 27 rfl) ?_
    refine J_iload_n E (jd dk_X7_unpack_1 28 rfl) rfl 3 rfl ?_
    refine J_iadd E (jd dk_X7_unpack_1 29 rfl) ?_
    obtain ⟨x10, e11, hf⟩ := jbind hf
    refine J_iald E (jd dk_X7_unpack_1 30 rfl) e11 ?_
    obtain ⟨h12, e13, hf⟩ := jbind hf
    refine J_iast E (jd dk_X7_unpack_1 31 rfl) e13 ?_
    refine J_iinc (v := v3 + 1) (lv' := [(3, .int (v3 + 1)), (0, .ref v0), (1, .ref v1), (2, .int v2)]) E (jd dk_X7_unpack_1 32 rfl) 3 rfl rfl (by decide) rfl ?_
    refine J_goto (tgt := 68) E (jd dk_X7_unpack_1 33 rfl) (by decide) ?_
    refine J_sub [1, 2, 3, 0] rfl ?_
    exact kb _ (Option.some.inj hf).symm
set_option maxRecDepth 100000 in
set_option maxHeartbeats 4000000 in
theorem lk_X7_unpack_b68 {G : JG} {X : JX} (E : jE G X (RX7, cX7_unpack, 4)) (hX : X.2.2.2.1 = jRm 0 0 0) (hr : X.2.2.2.2.2.2.2.2.1.sig.returnType = none) (N : Nat) {v0 : Nat} {v1 : Nat} {v2 : Int32} {v3 : Int32} {h : AH}  {r : AH} (hf : f_X7_unpack_b68 N v0 v1 v2 v3 h = some r) : JW G X (RX7, cX7_unpack, 4) h [(0, .ref v0), (1, .ref v1), (2, .int v2), (3, .int v3)] [] 68 0 0 (jEnd G X (jpv r) 0 0) := by
  unfold f_X7_unpack_b68 at hf
  obtain ⟨q1, h1, hf⟩ := jbind hf
  refine jloop (P := fun s => JW G X (RX7, cX7_unpack, 4) s.2 [(0, .ref v0), (1, .ref v1), (2, .int v2), (3, .int s.1)] [] 68 0 0 (jEnd G X (jpv r) 0 0)) (Ex := fun (e : AH) => JW G X (RX7, cX7_unpack, 4) e [] [] 115 0 0 (jEnd G X (jpv r) 0 0)) (fun s q hs hb hx => lk_X7_unpack_l68 E hX hr N hs (fun s' hs => hb s' hs) (fun e he => hx e he)) N _ q1 h1 ?_
  generalize q1 = e at hf ⊢
  cases hf
  exact J_vret E hr (jd dk_X7_unpack_1 34 rfl) (Nat.le_refl _) (Nat.le_refl _) ⟨rfl, rfl⟩
set_option maxRecDepth 100000 in
set_option maxHeartbeats 4000000 in
theorem lk_X7_unpack_l9 {G : JG} {X : JX} (E : jE G X (RX7, cX7_unpack, 4)) (hX : X.2.2.2.1 = jRm 0 0 0) (hr : X.2.2.2.2.2.2.2.2.1.sig.returnType = none) (N : Nat) {Q : State → Prop} {v0 : Nat} {v1 : Nat} {v2 : Int32} {v3 : Int32}  {h : AH} {q : ((Int32 × AH) ⊕ ((AH)))} (hf : f_X7_unpack_l9 N v0 v1 v2 v3 h = some q) (kb : ∀ s' : Int32 × AH, q = .inl s' → JW G X (RX7, cX7_unpack, 4) s'.2 [(0, .ref v0), (1, .ref v1), (2, .int v2), (3, .int s'.1)] [] 9 0 0 Q) (ke0 : ∀ e : AH, q = .inr e → JW G X (RX7, cX7_unpack, 4) e [(0, .ref v0), (1, .ref v1), (2, .int v2)] [] 66 0 0 Q) : JW G X (RX7, cX7_unpack, 4) h [(0, .ref v0), (1, .ref v1), (2, .int v2), (3, .int v3)] [] 9 0 0 Q := by
  unfold f_X7_unpack_l9 at hf
  refine J_iload_n E (jd dk_X7_unpack_0 7 rfl) rfl 3 rfl ?_
  refine J_bipush (v := 8) E (jd dk_X7_unpack_0 8 rfl) (by decide) ?_
  refine J_icmp_ge (tgt := 66) E (jd dk_X7_unpack_0 9 rfl) (by decide) (fun c14 => ?_) (fun c14 => ?_)
  · replace hf := jif_t c14 hf
    refine J_sub [0, 1, 2] rfl ?_
    exact ke0 _ (Option.some.inj hf).symm
  · replace hf := jif_f c14 hf
    refine J_aload_n E (jd dk_X7_unpack_0 10 rfl) rfl 0 rfl ?_
    obtain ⟨x15, e16, hf⟩ := jbind hf
    refine J_getr E (jd dk_X7_unpack_0 11 rfl) fl_RX7_81 e16 ?_
    refine J_iload_n E (jd dk_X7_unpack_0 12 rfl) rfl 3 rfl ?_
    refine J_aload_n E (jd dk_X7_unpack_0 13 rfl) rfl 1 rfl ?_
    refine J_iload_n E (jd dk_X7_unpack_0 14 rfl) rfl 2 rfl ?_
    refine J_iconst (v := 1) E (jd dk_X7_unpack_0 15 rfl) rfl ?_
    refine J_iadd E (jd dk_X7_unpack_0 16 rfl) ?_
    refine J_iload_n E (jd dk_X7_unpack_0 17 rfl) rfl 3 rfl ?_
    refine J_iadd E (jd dk_X7_unpack_0 18 rfl) ?_
    obtain ⟨x17, e18, hf⟩ := jbind hf
    refine J_iald E (jd dk_X7_unpack_0 19 rfl) e18 ?_
    obtain ⟨h19, e20, hf⟩ := jbind hf
    refine J_iast E (jd dk_X7_unpack_0 20 rfl) e20 ?_
    refine J_aload_n E (jd dk_X7_unpack_0 21 rfl) rfl 0 rfl ?_
    obtain ⟨x21, e22, hf⟩ := jbind hf
    refine J_getr E (jd dk_X7_unpack_0 22 rfl) fl_RX7_84 e22 ?_
    refine J_iload_n E (jd dk_X7_unpack_0 23 rfl) rfl 3 rfl ?_
    refine J_aload_n E (jd dk_X7_unpack_0 24 rfl) rfl 1 rfl ?_
    refine J_iload_n E (jd dk_X7_unpack_0 25 rfl) rfl 2 rfl ?_
    refine J_iconst (v := 1) E (jd dk_X7_unpack_0 26 rfl) rfl ?_
    refine J_iadd E (jd dk_X7_unpack_0 27 rfl) ?_
    refine J_bipush (v := 8) E (jd dk_X7_unpack_0 28 rfl) (by decide) ?_
    refine J_iadd E (jd dk_X7_unpack_0 29 rfl) ?_
    refine J_iload_n E (jd dk_X7_unpack_0 30 rfl) rfl 3 rfl ?_
    refine J_iadd E (jd dk_X7_unpack_0 31 rfl) ?_
    obtain ⟨x23, e24, hf⟩ := jbind hf
    refine J_iald E (jd dk_X7_unpack_0 32 rfl) e24 ?_
    obtain ⟨h25, e26, hf⟩ := jbind hf
    refine J_iast E (jd dk_X7_unpack_0 33 rfl) e26 ?_
    refine J_aload_n E (jd dk_X7_unpack_0 34 rfl) rfl 0 rfl ?_
    obtain ⟨x27, e28, hf⟩ := jbind hf
    refine J_getr E (jd dk_X7_unpack_0 35 rfl) fl_RX7_87 e28 ?_
    refine J_iload_n E (jd dk_X7_unpack_0 36 rfl) rfl 3 rfl ?_
    refine J_aload_n E (jd dk_X7_unpack_0 37 rfl) rfl 1 rfl ?_
    refine J_iload_n E (jd dk_X7_unpack_0 38 rfl) rfl 2 rfl ?_
    refine J_iconst (v := 1) E (jd dk_X7_unpack_0 39 rfl) rfl ?_
    refine J_iadd E (jd dk_X7_unpack_0 40 rfl) ?_
    refine J_bipush (v := 16) E (jd dk_X7_unpack_0 41 rfl) (by decide) ?_
    refine J_iadd E (jd dk_X7_unpack_0 42 rfl) ?_
    refine J_iload_n E (jd dk_X7_unpack_0 43 rfl) rfl 3 rfl ?_
    refine J_iadd E (jd dk_X7_unpack_0 44 rfl) ?_
    obtain ⟨x29, e30, hf⟩ := jbind hf
    refine J_iald E (jd dk_X7_unpack_0 45 rfl) e30 ?_
    obtain ⟨h31, e32, hf⟩ := jbind hf
    refine J_iast E (jd dk_X7_unpack_0 46 rfl) e32 ?_
    refine J_iinc (v := v3 + 1) (lv' := [(3, .int (v3 + 1)), (0, .ref v0), (1, .ref v1), (2, .int v2)]) E (jd dk_X7_unpack_0 47 rfl) 3 rfl rfl (by decide) rfl ?_
    refine J_goto (tgt := 9) E (jd dk_X7_unpack_0 48 rfl) (by decide) ?_
    refine J_sub [1, 2, 3, 0] rfl ?_
    exact kb _ (Option.some.inj hf).symm
set_option maxRecDepth 100000 in
set_option maxHeartbeats 4000000 in
theorem lk_X7_unpack_b9 {G : JG} {X : JX} (E : jE G X (RX7, cX7_unpack, 4)) (hX : X.2.2.2.1 = jRm 0 0 0) (hr : X.2.2.2.2.2.2.2.2.1.sig.returnType = none) (N : Nat) {v0 : Nat} {v1 : Nat} {v2 : Int32} {v3 : Int32} {h : AH}  {r : AH} (hf : f_X7_unpack_b9 N v0 v1 v2 v3 h = some r) : JW G X (RX7, cX7_unpack, 4) h [(0, .ref v0), (1, .ref v1), (2, .int v2), (3, .int v3)] [] 9 0 0 (jEnd G X (jpv r) 0 0) := by
  unfold f_X7_unpack_b9 at hf
  obtain ⟨q1, h1, hf⟩ := jbind hf
  refine jloop (P := fun s => JW G X (RX7, cX7_unpack, 4) s.2 [(0, .ref v0), (1, .ref v1), (2, .int v2), (3, .int s.1)] [] 9 0 0 (jEnd G X (jpv r) 0 0)) (Ex := fun (e : AH) => JW G X (RX7, cX7_unpack, 4) e [(0, .ref v0), (1, .ref v1), (2, .int v2)] [] 66 0 0 (jEnd G X (jpv r) 0 0)) (fun s q hs hb hx => lk_X7_unpack_l9 E hX hr N hs (fun s' hs => hb s' hs) (fun e he => hx e he)) N _ q1 h1 ?_
  generalize q1 = e at hf ⊢
  refine J_iconst (v := 0) E (jd dk_X7_unpack_0 49 rfl) rfl ?_
  refine J_istore_n (lv' := [(3, .int 0), (0, .ref v0), (1, .ref v1), (2, .int v2)]) E (jd dk_X7_unpack_1 0 rfl) rfl (by decide) rfl ?_
  refine J_sub [1, 2, 3, 0] rfl ?_
  exact lk_X7_unpack_b68 E hX hr N hf
set_option maxRecDepth 100000 in
set_option maxHeartbeats 4000000 in
theorem lk_X7_unpack {G : JG} {l : Launch} (hG : jG G) (htr : l.stackTraces = false) (N : Nat) {h : AH} {a0 : Nat} {a1 : Nat} {a2 : Int32} {r : AH} (hf : f_X7_unpack N h a0 a1 a2 = some r) : jMet G l yX7_unpack cX7_unpack 4 none 0 0 0 [.ref a0, .ref a1, .int a2] h (jpv r) := by
  unfold f_X7_unpack at hf
  refine jMet_of hG htr (by decide) (Nat.le_of_ble_eq_true rfl) ?_
  intro X E hl9 hr hX _ _
  show JW G X (RX7, cX7_unpack, 4) h [(0, .ref a0), (1, .ref a1), (2, .int a2)] [] 0 0 0 (jEnd G X (jpv r) 0 0)
  refine J_aload_n E (jd dk_X7_unpack_0 0 rfl) rfl 0 rfl ?_
  refine J_aload_n E (jd dk_X7_unpack_0 1 rfl) rfl 1 rfl ?_
  refine J_iload_n E (jd dk_X7_unpack_0 2 rfl) rfl 2 rfl ?_
  obtain ⟨x33, e34, hf⟩ := jbind hf
  refine J_iald E (jd dk_X7_unpack_0 3 rfl) e34 ?_
  obtain ⟨h35, e36, hf⟩ := jbind hf
  refine J_put E (jd dk_X7_unpack_0 4 rfl) fl_RX7_306 e36 (fun _ => rfl) (fun _ => rfl) ?_
  refine J_iconst (v := 0) E (jd dk_X7_unpack_0 5 rfl) rfl ?_
  refine J_istore_n (lv' := [(3, .int 0), (0, .ref a0), (1, .ref a1), (2, .int a2)]) E (jd dk_X7_unpack_0 6 rfl) rfl (by decide) rfl ?_
  refine J_sub [1, 2, 3, 0] rfl ?_
  exact lk_X7_unpack_b9 E hX hr N hf
def f_X7_reckon_b112 (N : Nat)  (h : AH) : Option (Int32 × AH) :=
  some (1, h)
def f_X7_reckon_b102 (N : Nat)  (h : AH) : Option (Int32 × AH) :=
  some (0, h)
def f_X7_reckon (N : Nat) (h : AH) (a0 : Int32) (a1 : Int32) (a2 : Int32) : Option (Int32 × AH) :=
  if a0 = (-26) then if a1 = 0 then f_X7_reckon_b102 N  h
  else if a2 = 0 then f_X7_reckon_b102 N  h
  else some (1, h)
  else if a0 = (-25) then if a1 = a2 then some (1, h)
  else some (0, h)
  else if a0 = (-24) then if a2 ≤ a1 then some (0, h)
  else some (1, h)
  else if a0 = (-23) then if a2 = 0 then some (0, h)
  else if a2 = 0 then none else
  some (a1 / a2, h)
  else if a0 = (-22) then some (a1 * a2, h)
  else if a0 = (-21) then some (a1 - a2, h)
  else if a0 = (-20) then some (a1 + a2, h)
  else if a1 = 0 then if a2 = 0 then some (0, h)
  else f_X7_reckon_b112 N  h
  else f_X7_reckon_b112 N  h
set_option maxRecDepth 100000 in
set_option maxHeartbeats 4000000 in
theorem lk_X7_reckon_b112 {G : JG} {X : JX} (E : jE G X (RX7, cX7_reckon, 3)) (hX : X.2.2.2.1 = jRm 0 0 0) (hr : X.2.2.2.2.2.2.2.2.1.sig.returnType = (some .int)) (N : Nat)  {h : AH}  {r : (Int32 × AH)} (hf : f_X7_reckon_b112 N  h = some r) : JW G X (RX7, cX7_reckon, 3) h [] [] 112 0 0 (jEnd G X (jpi r) 0 0) := by
  unfold f_X7_reckon_b112 at hf
  refine J_iconst (v := 1) E (jd dk_X7_reckon_0 48 rfl) rfl ?_
  refine J_goto (tgt := 117) E (jd dk_X7_reckon_0 49 rfl) (by decide) ?_
  cases hf
  exact J_iret E hr rfl (jd dk_X7_reckon_1 1 rfl) (Nat.le_refl _) (Nat.le_refl _) ⟨rfl, rfl⟩
set_option maxRecDepth 100000 in
set_option maxHeartbeats 4000000 in
theorem lk_X7_reckon_b102 {G : JG} {X : JX} (E : jE G X (RX7, cX7_reckon, 3)) (hX : X.2.2.2.1 = jRm 0 0 0) (hr : X.2.2.2.2.2.2.2.2.1.sig.returnType = (some .int)) (N : Nat)  {h : AH}  {r : (Int32 × AH)} (hf : f_X7_reckon_b102 N  h = some r) : JW G X (RX7, cX7_reckon, 3) h [] [] 102 0 0 (jEnd G X (jpi r) 0 0) := by
  unfold f_X7_reckon_b102 at hf
  refine J_iconst (v := 0) E (jd dk_X7_reckon_0 42 rfl) rfl ?_
  cases hf
  exact J_iret E hr rfl (jd dk_X7_reckon_0 43 rfl) (Nat.le_refl _) (Nat.le_refl _) ⟨rfl, rfl⟩
set_option maxRecDepth 100000 in
set_option maxHeartbeats 4000000 in
theorem lk_X7_reckon {G : JG} {l : Launch} (hG : jG G) (htr : l.stackTraces = false) (N : Nat) {h : AH} {a0 : Int32} {a1 : Int32} {a2 : Int32} {r : (Int32 × AH)} (hf : f_X7_reckon N h a0 a1 a2 = some r) : jMet G l yX7_reckon cX7_reckon 3 (some .int) 0 0 0 [.int a0, .int a1, .int a2] h (jpi r) := by
  unfold f_X7_reckon at hf
  refine jMet_of hG htr (by decide) (Nat.le_of_ble_eq_true rfl) ?_
  intro X E hl9 hr hX _ _
  show JW G X (RX7, cX7_reckon, 3) h [(0, .int a0), (1, .int a1), (2, .int a2)] [] 0 0 0 (jEnd G X (jpi r) 0 0)
  refine J_iload_n E (jd dk_X7_reckon_0 0 rfl) rfl 0 rfl ?_
  by_cases c1_m26 : a0 = (-26)
  · replace hf := jif_t c1_m26 hf
    refine J_tableIn (off := 89) (tgt := 90) E (jd dk_X7_reckon_0 1 rfl) (by rw [c1_m26]; decide) (by rw [c1_m26]; decide) (by rw [c1_m26]; decide) (by decide) ?_
    refine J_iload_n E (jd dk_X7_reckon_0 36 rfl) rfl 1 rfl ?_
    refine J_if_eq (tgt := 102) E (jd dk_X7_reckon_0 37 rfl) (by decide) (fun c1 => ?_) (fun c1 => ?_)
    · replace hf := jif_t c1 hf
      refine J_sub [] rfl ?_
      exact lk_X7_reckon_b102 E hX hr N hf
    · replace hf := jif_f c1 hf
      refine J_iload_n E (jd dk_X7_reckon_0 38 rfl) rfl 2 rfl ?_
      refine J_if_eq (tgt := 102) E (jd dk_X7_reckon_0 39 rfl) (by decide) (fun c2 => ?_) (fun c2 => ?_)
      · replace hf := jif_t c2 hf
        refine J_sub [] rfl ?_
        exact lk_X7_reckon_b102 E hX hr N hf
      · replace hf := jif_f c2 hf
        refine J_iconst (v := 1) E (jd dk_X7_reckon_0 40 rfl) rfl ?_
        refine J_goto (tgt := 103) E (jd dk_X7_reckon_0 41 rfl) (by decide) ?_
        cases hf
        exact J_iret E hr rfl (jd dk_X7_reckon_0 43 rfl) (Nat.le_refl _) (Nat.le_refl _) ⟨rfl, rfl⟩
  replace hf := jif_f c1_m26 hf
  by_cases c1_m25 : a0 = (-25)
  · replace hf := jif_t c1_m25 hf
    refine J_tableIn (off := 78) (tgt := 79) E (jd dk_X7_reckon_0 1 rfl) (by rw [c1_m25]; decide) (by rw [c1_m25]; decide) (by rw [c1_m25]; decide) (by decide) ?_
    refine J_iload_n E (jd dk_X7_reckon_0 29 rfl) rfl 1 rfl ?_
    refine J_iload_n E (jd dk_X7_reckon_0 30 rfl) rfl 2 rfl ?_
    refine J_icmp_ne (tgt := 88) E (jd dk_X7_reckon_0 31 rfl) (by decide) (fun c3 => ?_) (fun c3 => ?_)
    · replace hf := jif_f c3 hf
      refine J_iconst (v := 0) E (jd dk_X7_reckon_0 34 rfl) rfl ?_
      cases hf
      exact J_iret E hr rfl (jd dk_X7_reckon_0 35 rfl) (Nat.le_refl _) (Nat.le_refl _) ⟨rfl, rfl⟩
    · replace hf := jif_t c3 hf
      refine J_iconst (v := 1) E (jd dk_X7_reckon_0 32 rfl) rfl ?_
      refine J_goto (tgt := 89) E (jd dk_X7_reckon_0 33 rfl) (by decide) ?_
      cases hf
      exact J_iret E hr rfl (jd dk_X7_reckon_0 35 rfl) (Nat.le_refl _) (Nat.le_refl _) ⟨rfl, rfl⟩
  replace hf := jif_f c1_m25 hf
  by_cases c1_m24 : a0 = (-24)
  · replace hf := jif_t c1_m24 hf
    refine J_tableIn (off := 67) (tgt := 68) E (jd dk_X7_reckon_0 1 rfl) (by rw [c1_m24]; decide) (by rw [c1_m24]; decide) (by rw [c1_m24]; decide) (by decide) ?_
    refine J_iload_n E (jd dk_X7_reckon_0 22 rfl) rfl 1 rfl ?_
    refine J_iload_n E (jd dk_X7_reckon_0 23 rfl) rfl 2 rfl ?_
    refine J_icmp_ge (tgt := 77) E (jd dk_X7_reckon_0 24 rfl) (by decide) (fun c4 => ?_) (fun c4 => ?_)
    · replace hf := jif_t c4 hf
      refine J_iconst (v := 0) E (jd dk_X7_reckon_0 27 rfl) rfl ?_
      cases hf
      exact J_iret E hr rfl (jd dk_X7_reckon_0 28 rfl) (Nat.le_refl _) (Nat.le_refl _) ⟨rfl, rfl⟩
    · replace hf := jif_f c4 hf
      refine J_iconst (v := 1) E (jd dk_X7_reckon_0 25 rfl) rfl ?_
      refine J_goto (tgt := 78) E (jd dk_X7_reckon_0 26 rfl) (by decide) ?_
      cases hf
      exact J_iret E hr rfl (jd dk_X7_reckon_0 28 rfl) (Nat.le_refl _) (Nat.le_refl _) ⟨rfl, rfl⟩
  replace hf := jif_f c1_m24 hf
  by_cases c1_m23 : a0 = (-23)
  · replace hf := jif_t c1_m23 hf
    refine J_tableIn (off := 55) (tgt := 56) E (jd dk_X7_reckon_0 1 rfl) (by rw [c1_m23]; decide) (by rw [c1_m23]; decide) (by rw [c1_m23]; decide) (by decide) ?_
    refine J_iload_n E (jd dk_X7_reckon_0 14 rfl) rfl 2 rfl ?_
    refine J_if_ne (tgt := 64) E (jd dk_X7_reckon_0 15 rfl) (by decide) (fun c5 => ?_) (fun c5 => ?_)
    · replace hf := jif_f c5 hf
      refine J_iload_n E (jd dk_X7_reckon_0 18 rfl) rfl 1 rfl ?_
      refine J_iload_n E (jd dk_X7_reckon_0 19 rfl) rfl 2 rfl ?_
      obtain ⟨z6, hf⟩ := jnz hf
      refine J_idiv E (jd dk_X7_reckon_0 20 rfl) z6 ?_
      cases hf
      exact J_iret E hr rfl (jd dk_X7_reckon_0 21 rfl) (Nat.le_refl _) (Nat.le_refl _) ⟨rfl, rfl⟩
    · replace hf := jif_t c5 hf
      refine J_iconst (v := 0) E (jd dk_X7_reckon_0 16 rfl) rfl ?_
      refine J_goto (tgt := 67) E (jd dk_X7_reckon_0 17 rfl) (by decide) ?_
      cases hf
      exact J_iret E hr rfl (jd dk_X7_reckon_0 21 rfl) (Nat.le_refl _) (Nat.le_refl _) ⟨rfl, rfl⟩
  replace hf := jif_f c1_m23 hf
  by_cases c1_m22 : a0 = (-22)
  · replace hf := jif_t c1_m22 hf
    refine J_tableIn (off := 51) (tgt := 52) E (jd dk_X7_reckon_0 1 rfl) (by rw [c1_m22]; decide) (by rw [c1_m22]; decide) (by rw [c1_m22]; decide) (by decide) ?_
    refine J_iload_n E (jd dk_X7_reckon_0 10 rfl) rfl 1 rfl ?_
    refine J_iload_n E (jd dk_X7_reckon_0 11 rfl) rfl 2 rfl ?_
    refine J_imul E (jd dk_X7_reckon_0 12 rfl) ?_
    cases hf
    exact J_iret E hr rfl (jd dk_X7_reckon_0 13 rfl) (Nat.le_refl _) (Nat.le_refl _) ⟨rfl, rfl⟩
  replace hf := jif_f c1_m22 hf
  by_cases c1_m21 : a0 = (-21)
  · replace hf := jif_t c1_m21 hf
    refine J_tableIn (off := 47) (tgt := 48) E (jd dk_X7_reckon_0 1 rfl) (by rw [c1_m21]; decide) (by rw [c1_m21]; decide) (by rw [c1_m21]; decide) (by decide) ?_
    refine J_iload_n E (jd dk_X7_reckon_0 6 rfl) rfl 1 rfl ?_
    refine J_iload_n E (jd dk_X7_reckon_0 7 rfl) rfl 2 rfl ?_
    refine J_isub E (jd dk_X7_reckon_0 8 rfl) ?_
    cases hf
    exact J_iret E hr rfl (jd dk_X7_reckon_0 9 rfl) (Nat.le_refl _) (Nat.le_refl _) ⟨rfl, rfl⟩
  replace hf := jif_f c1_m21 hf
  by_cases c1_m20 : a0 = (-20)
  · replace hf := jif_t c1_m20 hf
    refine J_tableIn (off := 43) (tgt := 44) E (jd dk_X7_reckon_0 1 rfl) (by rw [c1_m20]; decide) (by rw [c1_m20]; decide) (by rw [c1_m20]; decide) (by decide) ?_
    refine J_iload_n E (jd dk_X7_reckon_0 2 rfl) rfl 1 rfl ?_
    refine J_iload_n E (jd dk_X7_reckon_0 3 rfl) rfl 2 rfl ?_
    refine J_iadd E (jd dk_X7_reckon_0 4 rfl) ?_
    cases hf
    exact J_iret E hr rfl (jd dk_X7_reckon_0 5 rfl) (Nat.le_refl _) (Nat.le_refl _) ⟨rfl, rfl⟩
  replace hf := jif_f c1_m20 hf
  refine J_tableOut (tgt := 104) E (jd dk_X7_reckon_0 1 rfl) (jsw (v := (-20)) (jsw (v := (-21)) (jsw (v := (-22)) (jsw (v := (-23)) (jsw (v := (-24)) (jsw (v := (-25)) (jsw (v := (-26)) (jsw0 (x := a0) (-26)) (by decide) c1_m26) (by decide) c1_m25) (by decide) c1_m24) (by decide) c1_m23) (by decide) c1_m22) (by decide) c1_m21) (by decide) c1_m20) (by decide) ?_
  refine J_iload_n E (jd dk_X7_reckon_0 44 rfl) rfl 1 rfl ?_
  refine J_if_ne (tgt := 112) E (jd dk_X7_reckon_0 45 rfl) (by decide) (fun c7 => ?_) (fun c7 => ?_)
  · replace hf := jif_f c7 hf
    refine J_sub [] rfl ?_
    exact lk_X7_reckon_b112 E hX hr N hf
  · replace hf := jif_t c7 hf
    refine J_iload_n E (jd dk_X7_reckon_0 46 rfl) rfl 2 rfl ?_
    refine J_if_eq (tgt := 116) E (jd dk_X7_reckon_0 47 rfl) (by decide) (fun c8 => ?_) (fun c8 => ?_)
    · replace hf := jif_t c8 hf
      refine J_iconst (v := 0) E (jd dk_X7_reckon_1 0 rfl) rfl ?_
      cases hf
      exact J_iret E hr rfl (jd dk_X7_reckon_1 1 rfl) (Nat.le_refl _) (Nat.le_refl _) ⟨rfl, rfl⟩
    · replace hf := jif_f c8 hf
      refine J_sub [] rfl ?_
      exact lk_X7_reckon_b112 E hX hr N hf
def f_X7_valueNow_b119 (N : Nat) (v0 : Nat) (v1 : Nat) (v2 : Int32) (v3 : Int32) (v4 : Int32) (h : AH) : Option ((Int32 × Int32 × AH) ⊕ ((AH))) :=
  some (.inl ((v3, v4 + 1, h)))
def f_X7_valueNow_b85 (N : Nat) (v0 : Nat) (v1 : Nat) (v2 : Int32) (v3 : Int32) (v4 : Int32) (w0 : Nat) (w1 : Int32) (w2 : Int32) (h : AH) : Option ((Int32 × Int32 × AH) ⊕ ((AH))) :=
  (jas 0 h w0 w1 w2).bind fun h1 =>
  f_X7_valueNow_b119 N v0 v1 v2 v3 v4 h1
def f_X7_valueNow_b48 (N : Nat) (v0 : Nat) (v1 : Nat) (v2 : Int32) (v3 : Int32) (v4 : Int32) (w0 : Nat) (w1 : Int32) (w2 : Int32) (h : AH) : Option ((Int32 × Int32 × AH) ⊕ ((AH))) :=
  (jas 0 h w0 w1 w2).bind fun h3 =>
  f_X7_valueNow_b119 N v0 v1 v2 (v3 + 1) v4 h3
def f_X7_valueNow_l5 (N : Nat) (v0 : Nat) (v1 : Nat) (v2 : Int32) (v3 : Int32) (v4 : Int32) (h : AH) : Option ((Int32 × Int32 × AH) ⊕ ((AH))) :=
  if v2 ≤ v4 then some (.inr h)
  else (jal 0 h v1 v4).bind fun x6 =>
  if x6 ≤ ((-20)) then if x6 = ((-28)) then (jgr 7 h v0 38).bind fun x24 =>
  (jgr 7 h v0 38).bind fun x26 =>
  (jal 0 h x26 (v3 - 1)).bind fun x28 =>
  if x28 = 0 then f_X7_valueNow_b85 N v0 v1 v2 v3 v4 x24 (v3 - 1) 1 h
  else f_X7_valueNow_b85 N v0 v1 v2 v3 v4 x24 (v3 - 1) 0 h
  else (jgr 7 h v0 38).bind fun x10 =>
  (jgr 7 h v0 38).bind fun x12 =>
  (jal 0 h x12 ((v3 + (-1)) - 1)).bind fun x14 =>
  (jgr 7 h v0 38).bind fun x16 =>
  (jal 0 h x16 (v3 + (-1))).bind fun x18 =>
  (f_X7_reckon N h x6 x14 x18).bind fun r20 =>
  (jas 0 r20.2 x10 ((v3 + (-1)) - 1) r20.1).bind fun h22 =>
  f_X7_valueNow_b119 N v0 v1 v2 (v3 + (-1)) v4 h22
  else (jgr 7 h v0 38).bind fun x31 =>
  if x6 < 0 then (jgr 7 h v0 37).bind fun x34 =>
  (jal 0 h x34 ((-1 : Int32) - x6)).bind fun x36 =>
  f_X7_valueNow_b48 N v0 v1 v2 v3 v4 x31 v3 x36 h
  else f_X7_valueNow_b48 N v0 v1 v2 v3 v4 x31 v3 x6 h
def f_X7_valueNow_b5 (N : Nat) (v0 : Nat) (v1 : Nat) (v2 : Int32) (v3 : Int32) (v4 : Int32) (h : AH) : Option (Int32 × AH) :=
  (itr (fun s => f_X7_valueNow_l5 N v0 v1 v2 s.1 s.2.1 s.2.2) N (v3, v4, h)).bind (fun e => (jgr 7 e v0 38).bind fun x38 =>
  (jal 0 e x38 0).bind fun x40 =>
  some (x40, e))
def f_X7_valueNow (N : Nat) (h : AH) (a0 : Nat) (a1 : Nat) (a2 : Int32) : Option (Int32 × AH) :=
  f_X7_valueNow_b5 N a0 a1 a2 0 0 h
set_option maxRecDepth 100000 in
set_option maxHeartbeats 4000000 in
theorem lk_X7_valueNow_b119 {G : JG} {X : JX} (E : jE G X (RX7, cX7_valueNow, 6)) (hX : X.2.2.2.1 = jRm 1 0 0) (hr : X.2.2.2.2.2.2.2.2.1.sig.returnType = (some .int)) (N : Nat) {Q : State → Prop} {v0 : Nat} {v1 : Nat} {v2 : Int32} {v3 : Int32} {v4 : Int32} {h : AH}  {q : ((Int32 × Int32 × AH) ⊕ ((AH)))} (hf : f_X7_valueNow_b119 N v0 v1 v2 v3 v4 h = some q) (kb : ∀ s' : Int32 × Int32 × AH, q = .inl s' → JW G X (RX7, cX7_valueNow, 6) s'.2.2 [(0, .ref v0), (1, .ref v1), (2, .int v2), (3, .int s'.1), (4, .int s'.2.1)] [] 5 0 0 Q) (ke0 : ∀ e : AH, q = .inr e → JW G X (RX7, cX7_valueNow, 6) e [(0, .ref v0)] [] 125 0 0 Q) : JW G X (RX7, cX7_valueNow, 6) h [(0, .ref v0), (1, .ref v1), (2, .int v2), (3, .int v3), (4, .int v4)] [] 119 0 0 Q := by
  unfold f_X7_valueNow_b119 at hf
  refine J_iinc (v := v4 + 1) (lv' := [(4, .int (v4 + 1)), (0, .ref v0), (1, .ref v1), (2, .int v2), (3, .int v3)]) E (jd dk_X7_valueNow_1 19 rfl) 4 rfl rfl (by decide) rfl ?_
  refine J_goto (tgt := 5) E (jd dk_X7_valueNow_1 20 rfl) (by decide) ?_
  refine J_sub [1, 2, 3, 4, 0] rfl ?_
  exact kb _ (Option.some.inj hf).symm
set_option maxRecDepth 100000 in
set_option maxHeartbeats 4000000 in
theorem lk_X7_valueNow_b85 {G : JG} {X : JX} (E : jE G X (RX7, cX7_valueNow, 6)) (hX : X.2.2.2.1 = jRm 1 0 0) (hr : X.2.2.2.2.2.2.2.2.1.sig.returnType = (some .int)) (N : Nat) {Q : State → Prop} {v0 : Nat} {v1 : Nat} {v2 : Int32} {v3 : Int32} {v4 : Int32} {w0 : Nat} {w1 : Int32} {w2 : Int32} {h : AH}  {q : ((Int32 × Int32 × AH) ⊕ ((AH)))} (hf : f_X7_valueNow_b85 N v0 v1 v2 v3 v4 w0 w1 w2 h = some q) (kb : ∀ s' : Int32 × Int32 × AH, q = .inl s' → JW G X (RX7, cX7_valueNow, 6) s'.2.2 [(0, .ref v0), (1, .ref v1), (2, .int v2), (3, .int s'.1), (4, .int s'.2.1)] [] 5 0 0 Q) (ke0 : ∀ e : AH, q = .inr e → JW G X (RX7, cX7_valueNow, 6) e [(0, .ref v0)] [] 125 0 0 Q) : JW G X (RX7, cX7_valueNow, 6) h [(0, .ref v0), (1, .ref v1), (2, .int v2), (3, .int v3), (4, .int v4)] [.int w2, .int w1, .ref w0] 85 0 0 Q := by
  unfold f_X7_valueNow_b85 at hf
  obtain ⟨h1, e2, hf⟩ := jbind hf
  refine J_iast E (jd dk_X7_valueNow_0 48 rfl) e2 ?_
  refine J_goto (tgt := 119) E (jd dk_X7_valueNow_0 49 rfl) (by decide) ?_
  exact lk_X7_valueNow_b119 E hX hr N hf kb ke0
set_option maxRecDepth 100000 in
set_option maxHeartbeats 4000000 in
theorem lk_X7_valueNow_b48 {G : JG} {X : JX} (E : jE G X (RX7, cX7_valueNow, 6)) (hX : X.2.2.2.1 = jRm 1 0 0) (hr : X.2.2.2.2.2.2.2.2.1.sig.returnType = (some .int)) (N : Nat) {Q : State → Prop} {v0 : Nat} {v1 : Nat} {v2 : Int32} {v3 : Int32} {v4 : Int32} {w0 : Nat} {w1 : Int32} {w2 : Int32} {h : AH}  {q : ((Int32 × Int32 × AH) ⊕ ((AH)))} (hf : f_X7_valueNow_b48 N v0 v1 v2 v3 v4 w0 w1 w2 h = some q) (kb : ∀ s' : Int32 × Int32 × AH, q = .inl s' → JW G X (RX7, cX7_valueNow, 6) s'.2.2 [(0, .ref v0), (1, .ref v1), (2, .int v2), (3, .int s'.1), (4, .int s'.2.1)] [] 5 0 0 Q) (ke0 : ∀ e : AH, q = .inr e → JW G X (RX7, cX7_valueNow, 6) e [(0, .ref v0)] [] 125 0 0 Q) : JW G X (RX7, cX7_valueNow, 6) h [(0, .ref v0), (1, .ref v1), (2, .int v2), (3, .int v3), (4, .int v4)] [.int w2, .int w1, .ref w0] 48 0 0 Q := by
  unfold f_X7_valueNow_b48 at hf
  obtain ⟨h3, e4, hf⟩ := jbind hf
  refine J_iast E (jd dk_X7_valueNow_0 27 rfl) e4 ?_
  refine J_iinc (v := v3 + 1) (lv' := [(3, .int (v3 + 1)), (0, .ref v0), (1, .ref v1), (2, .int v2), (4, .int v4)]) E (jd dk_X7_valueNow_0 28 rfl) 3 rfl rfl (by decide) rfl ?_
  refine J_goto (tgt := 119) E (jd dk_X7_valueNow_0 29 rfl) (by decide) ?_
  refine J_sub [1, 2, 3, 0, 4] rfl ?_
  exact lk_X7_valueNow_b119 E hX hr N hf kb ke0
set_option maxRecDepth 100000 in
set_option maxHeartbeats 4000000 in
theorem lk_X7_valueNow_l5 {G : JG} {X : JX} (E : jE G X (RX7, cX7_valueNow, 6)) (hX : X.2.2.2.1 = jRm 1 0 0) (hr : X.2.2.2.2.2.2.2.2.1.sig.returnType = (some .int)) (N : Nat) {Q : State → Prop} {v0 : Nat} {v1 : Nat} {v2 : Int32} {v3 : Int32} {v4 : Int32}  {h : AH} {q : ((Int32 × Int32 × AH) ⊕ ((AH)))} (hf : f_X7_valueNow_l5 N v0 v1 v2 v3 v4 h = some q) (kb : ∀ s' : Int32 × Int32 × AH, q = .inl s' → JW G X (RX7, cX7_valueNow, 6) s'.2.2 [(0, .ref v0), (1, .ref v1), (2, .int v2), (3, .int s'.1), (4, .int s'.2.1)] [] 5 0 0 Q) (ke0 : ∀ e : AH, q = .inr e → JW G X (RX7, cX7_valueNow, 6) e [(0, .ref v0)] [] 125 0 0 Q) : JW G X (RX7, cX7_valueNow, 6) h [(0, .ref v0), (1, .ref v1), (2, .int v2), (3, .int v3), (4, .int v4)] [] 5 0 0 Q := by
  unfold f_X7_valueNow_l5 at hf
  refine J_iload E (jd dk_X7_valueNow_0 4 rfl) 4 rfl ?_
  refine J_iload_n E (jd dk_X7_valueNow_0 5 rfl) rfl 2 rfl ?_
  refine J_icmp_ge (tgt := 125) E (jd dk_X7_valueNow_0 6 rfl) (by decide) (fun c5 => ?_) (fun c5 => ?_)
  · replace hf := jif_t c5 hf
    refine J_sub [0] rfl ?_
    exact ke0 _ (Option.some.inj hf).symm
  · replace hf := jif_f c5 hf
    refine J_aload_n E (jd dk_X7_valueNow_0 7 rfl) rfl 1 rfl ?_
    refine J_iload E (jd dk_X7_valueNow_0 8 rfl) 4 rfl ?_
    obtain ⟨x6, e7, hf⟩ := jbind hf
    refine J_iald E (jd dk_X7_valueNow_0 9 rfl) e7 ?_
    refine J_istore (lv' := [(5, .int x6), (0, .ref v0), (1, .ref v1), (2, .int v2), (3, .int v3), (4, .int v4)]) E (jd dk_X7_valueNow_0 10 rfl) (by decide) rfl ?_
    refine J_iload E (jd dk_X7_valueNow_0 11 rfl) 0 rfl ?_
    refine J_bipush (v := (-20)) E (jd dk_X7_valueNow_0 12 rfl) (by decide) ?_
    refine J_icmp_le (tgt := 55) E (jd dk_X7_valueNow_0 13 rfl) (by decide) (fun c8 => ?_) (fun c8 => ?_)
    · replace hf := jif_t c8 hf
      refine J_iload E (jd dk_X7_valueNow_0 30 rfl) 0 rfl ?_
      refine J_bipush (v := (-28)) E (jd dk_X7_valueNow_0 31 rfl) (by decide) ?_
      refine J_icmp_ne (tgt := 89) E (jd dk_X7_valueNow_0 32 rfl) (by decide) (fun c9 => ?_) (fun c9 => ?_)
      · replace hf := jif_f c9 hf
        refine J_iinc (v := v3 + (-1)) (lv' := [(3, .int (v3 + (-1))), (5, .int x6), (0, .ref v0), (1, .ref v1), (2, .int v2), (4, .int v4)]) E (jd dk_X7_valueNow_1 0 rfl) 4 rfl rfl (by decide) rfl ?_
        refine J_aload_n E (jd dk_X7_valueNow_1 1 rfl) rfl 2 rfl ?_
        obtain ⟨x10, e11, hf⟩ := jbind hf
        refine J_getr E (jd dk_X7_valueNow_1 2 rfl) fl_RX7_100 e11 ?_
        refine J_iload_n E (jd dk_X7_valueNow_1 3 rfl) rfl 0 rfl ?_
        refine J_iconst (v := 1) E (jd dk_X7_valueNow_1 4 rfl) rfl ?_
        refine J_isub E (jd dk_X7_valueNow_1 5 rfl) ?_
        refine J_iload E (jd dk_X7_valueNow_1 6 rfl) 1 rfl ?_
        refine J_aload_n E (jd dk_X7_valueNow_1 7 rfl) rfl 2 rfl ?_
        obtain ⟨x12, e13, hf⟩ := jbind hf
        refine J_getr E (jd dk_X7_valueNow_1 8 rfl) fl_RX7_100 e13 ?_
        refine J_iload_n E (jd dk_X7_valueNow_1 9 rfl) rfl 0 rfl ?_
        refine J_iconst (v := 1) E (jd dk_X7_valueNow_1 10 rfl) rfl ?_
        refine J_isub E (jd dk_X7_valueNow_1 11 rfl) ?_
        obtain ⟨x14, e15, hf⟩ := jbind hf
        refine J_iald E (jd dk_X7_valueNow_1 12 rfl) e15 ?_
        refine J_aload_n E (jd dk_X7_valueNow_1 13 rfl) rfl 2 rfl ?_
        obtain ⟨x16, e17, hf⟩ := jbind hf
        refine J_getr E (jd dk_X7_valueNow_1 14 rfl) fl_RX7_100 e17 ?_
        refine J_iload_n E (jd dk_X7_valueNow_1 15 rfl) rfl 0 rfl ?_
        obtain ⟨x18, e19, hf⟩ := jbind hf
        refine J_iald E (jd dk_X7_valueNow_1 16 rfl) e19 ?_
        obtain ⟨r20, e21, hf⟩ := jbind hf
        refine J_callS E (jd dk_X7_valueNow_1 17 rfl) ml_RX7_317 cal_X7_reckon (lk_X7_reckon (jE_g E) (jE_tr E) N e21) rfl (Nat.le_of_ble_eq_true rfl) (jR_le hX (by decide) (by decide)) (jF0 hX) rfl ?_
        rintro _ _ ⟨rfl, rfl⟩
        obtain ⟨h22, e23, hf⟩ := jbind hf
        refine J_iast E (jd dk_X7_valueNow_1 18 rfl) e23 ?_
        refine J_sub [2, 3, 4, 0, 5] rfl ?_
        exact lk_X7_valueNow_b119 E hX hr N hf kb ke0
      · replace hf := jif_t c9 hf
        refine J_aload_n E (jd dk_X7_valueNow_0 33 rfl) rfl 1 rfl ?_
        obtain ⟨x24, e25, hf⟩ := jbind hf
        refine J_getr E (jd dk_X7_valueNow_0 34 rfl) fl_RX7_100 e25 ?_
        refine J_iload_n E (jd dk_X7_valueNow_0 35 rfl) rfl 4 rfl ?_
        refine J_iconst (v := 1) E (jd dk_X7_valueNow_0 36 rfl) rfl ?_
        refine J_isub E (jd dk_X7_valueNow_0 37 rfl) ?_
        refine J_aload_n E (jd dk_X7_valueNow_0 38 rfl) rfl 1 rfl ?_
        obtain ⟨x26, e27, hf⟩ := jbind hf
        refine J_getr E (jd dk_X7_valueNow_0 39 rfl) fl_RX7_100 e27 ?_
        refine J_iload_n E (jd dk_X7_valueNow_0 40 rfl) rfl 4 rfl ?_
        refine J_iconst (v := 1) E (jd dk_X7_valueNow_0 41 rfl) rfl ?_
        refine J_isub E (jd dk_X7_valueNow_0 42 rfl) ?_
        obtain ⟨x28, e29, hf⟩ := jbind hf
        refine J_iald E (jd dk_X7_valueNow_0 43 rfl) e29 ?_
        refine J_if_eq (tgt := 84) E (jd dk_X7_valueNow_0 44 rfl) (by decide) (fun c30 => ?_) (fun c30 => ?_)
        · replace hf := jif_t c30 hf
          refine J_iconst (v := 1) E (jd dk_X7_valueNow_0 47 rfl) rfl ?_
          refine J_sub [1, 2, 3, 4, 5] rfl ?_
          exact lk_X7_valueNow_b85 E hX hr N hf kb ke0
        · replace hf := jif_f c30 hf
          refine J_iconst (v := 0) E (jd dk_X7_valueNow_0 45 rfl) rfl ?_
          refine J_goto (tgt := 85) E (jd dk_X7_valueNow_0 46 rfl) (by decide) ?_
          refine J_sub [1, 2, 3, 4, 5] rfl ?_
          exact lk_X7_valueNow_b85 E hX hr N hf kb ke0
    · replace hf := jif_f c8 hf
      refine J_aload_n E (jd dk_X7_valueNow_0 14 rfl) rfl 1 rfl ?_
      obtain ⟨x31, e32, hf⟩ := jbind hf
      refine J_getr E (jd dk_X7_valueNow_0 15 rfl) fl_RX7_100 e32 ?_
      refine J_iload_n E (jd dk_X7_valueNow_0 16 rfl) rfl 4 rfl ?_
      refine J_iload E (jd dk_X7_valueNow_0 17 rfl) 0 rfl ?_
      refine J_if_lt (tgt := 39) E (jd dk_X7_valueNow_0 18 rfl) (by decide) (fun c33 => ?_) (fun c33 => ?_)
      · replace hf := jif_t c33 hf
        refine J_aload_n E (jd dk_X7_valueNow_0 21 rfl) rfl 1 rfl ?_
        obtain ⟨x34, e35, hf⟩ := jbind hf
        refine J_getr E (jd dk_X7_valueNow_0 22 rfl) fl_RX7_97 e35 ?_
        refine J_iconst (v := (-1)) E (jd dk_X7_valueNow_0 23 rfl) rfl ?_
        refine J_iload E (jd dk_X7_valueNow_0 24 rfl) 0 rfl ?_
        refine J_isub E (jd dk_X7_valueNow_0 25 rfl) ?_
        obtain ⟨x36, e37, hf⟩ := jbind hf
        refine J_iald E (jd dk_X7_valueNow_0 26 rfl) e37 ?_
        refine J_sub [1, 2, 3, 4, 5] rfl ?_
        exact lk_X7_valueNow_b48 E hX hr N hf kb ke0
      · replace hf := jif_f c33 hf
        refine J_iload E (jd dk_X7_valueNow_0 19 rfl) 0 rfl ?_
        refine J_goto (tgt := 48) E (jd dk_X7_valueNow_0 20 rfl) (by decide) ?_
        refine J_sub [1, 2, 3, 4, 5] rfl ?_
        exact lk_X7_valueNow_b48 E hX hr N hf kb ke0
set_option maxRecDepth 100000 in
set_option maxHeartbeats 4000000 in
theorem lk_X7_valueNow_b5 {G : JG} {X : JX} (E : jE G X (RX7, cX7_valueNow, 6)) (hX : X.2.2.2.1 = jRm 1 0 0) (hr : X.2.2.2.2.2.2.2.2.1.sig.returnType = (some .int)) (N : Nat) {v0 : Nat} {v1 : Nat} {v2 : Int32} {v3 : Int32} {v4 : Int32} {h : AH}  {r : (Int32 × AH)} (hf : f_X7_valueNow_b5 N v0 v1 v2 v3 v4 h = some r) : JW G X (RX7, cX7_valueNow, 6) h [(0, .ref v0), (1, .ref v1), (2, .int v2), (3, .int v3), (4, .int v4)] [] 5 0 0 (jEnd G X (jpi r) 0 0) := by
  unfold f_X7_valueNow_b5 at hf
  obtain ⟨q1, h1, hf⟩ := jbind hf
  refine jloop (P := fun s => JW G X (RX7, cX7_valueNow, 6) s.2.2 [(0, .ref v0), (1, .ref v1), (2, .int v2), (3, .int s.1), (4, .int s.2.1)] [] 5 0 0 (jEnd G X (jpi r) 0 0)) (Ex := fun (e : AH) => JW G X (RX7, cX7_valueNow, 6) e [(0, .ref v0)] [] 125 0 0 (jEnd G X (jpi r) 0 0)) (fun s q hs hb hx => lk_X7_valueNow_l5 E hX hr N hs (fun s' hs => hb s' hs) (fun e he => hx e he)) N _ q1 h1 ?_
  generalize q1 = e at hf ⊢
  refine J_aload_n E (jd dk_X7_valueNow_1 21 rfl) rfl 0 rfl ?_
  obtain ⟨x38, e39, hf⟩ := jbind hf
  refine J_getr E (jd dk_X7_valueNow_1 22 rfl) fl_RX7_100 e39 ?_
  refine J_iconst (v := 0) E (jd dk_X7_valueNow_1 23 rfl) rfl ?_
  obtain ⟨x40, e41, hf⟩ := jbind hf
  refine J_iald E (jd dk_X7_valueNow_1 24 rfl) e41 ?_
  cases hf
  exact J_iret E hr rfl (jd dk_X7_valueNow_1 25 rfl) (Nat.le_refl _) (Nat.le_refl _) ⟨rfl, rfl⟩
set_option maxRecDepth 100000 in
set_option maxHeartbeats 4000000 in
theorem lk_X7_valueNow {G : JG} {l : Launch} (hG : jG G) (htr : l.stackTraces = false) (N : Nat) {h : AH} {a0 : Nat} {a1 : Nat} {a2 : Int32} {r : (Int32 × AH)} (hf : f_X7_valueNow N h a0 a1 a2 = some r) : jMet G l yX7_valueNow cX7_valueNow 6 (some .int) 1 0 0 [.ref a0, .ref a1, .int a2] h (jpi r) := by
  unfold f_X7_valueNow at hf
  refine jMet_of hG htr (by decide) (Nat.le_of_ble_eq_true rfl) ?_
  intro X E hl9 hr hX _ _
  show JW G X (RX7, cX7_valueNow, 6) h [(0, .ref a0), (1, .ref a1), (2, .int a2)] [] 0 0 0 (jEnd G X (jpi r) 0 0)
  refine J_iconst (v := 0) E (jd dk_X7_valueNow_0 0 rfl) rfl ?_
  refine J_istore_n (lv' := [(3, .int 0), (0, .ref a0), (1, .ref a1), (2, .int a2)]) E (jd dk_X7_valueNow_0 1 rfl) rfl (by decide) rfl ?_
  refine J_iconst (v := 0) E (jd dk_X7_valueNow_0 2 rfl) rfl ?_
  refine J_istore (lv' := [(4, .int 0), (3, .int 0), (0, .ref a0), (1, .ref a1), (2, .int a2)]) E (jd dk_X7_valueNow_0 3 rfl) (by decide) rfl ?_
  refine J_sub [2, 3, 4, 1, 0] rfl ?_
  exact lk_X7_valueNow_b5 E hX hr N hf
def f_X7_whoIs_b32 (N : Nat) (v0 : Nat) (v1 : Int32) (v3 : Int32) (w0 : Int32) (w1 : Int32) (h : AH) : Option ((Int32 × Int32 × AH) ⊕ ((Int32 × AH))) :=
  some (.inl ((w0 ||| w1, v3 + 1, h)))
def f_X7_whoIs_l4 (N : Nat) (v0 : Nat) (v1 : Int32) (v2 : Int32) (v3 : Int32) (h : AH) : Option ((Int32 × Int32 × AH) ⊕ ((Int32 × AH))) :=
  (jgr 7 h v0 5).bind fun x1 =>
  (jal 0 h x1 2).bind fun x3 =>
  if x3 ≤ v3 then some (.inr ((v2, h)))
  else (jgr 7 h v0 28).bind fun x6 =>
  (jal 0 h x6 v3).bind fun x8 =>
  if x8 = v1 then f_X7_whoIs_b32 N v0 v1 v3 v2 ((1 : Int32) <<< (v3 &&& 31)) h
  else f_X7_whoIs_b32 N v0 v1 v3 v2 0 h
def f_X7_whoIs_b4 (N : Nat) (v0 : Nat) (v1 : Int32) (v2 : Int32) (v3 : Int32) (h : AH) : Option (Int32 × AH) :=
  (itr (fun s => f_X7_whoIs_l4 N v0 v1 s.1 s.2.1 s.2.2) N (v2, v3, h)).bind (fun e => some (e.1, e.2))
def f_X7_whoIs (N : Nat) (h : AH) (a0 : Nat) (a1 : Int32) : Option (Int32 × AH) :=
  f_X7_whoIs_b4 N a0 a1 0 0 h
set_option maxRecDepth 100000 in
set_option maxHeartbeats 4000000 in
theorem lk_X7_whoIs_b32 {G : JG} {X : JX} (E : jE G X (RX7, cX7_whoIs, 4)) (hX : X.2.2.2.1 = jRm 0 0 0) (hr : X.2.2.2.2.2.2.2.2.1.sig.returnType = (some .int)) (N : Nat) {Q : State → Prop} {v0 : Nat} {v1 : Int32} {v3 : Int32} {w0 : Int32} {w1 : Int32} {h : AH}  {q : ((Int32 × Int32 × AH) ⊕ ((Int32 × AH)))} (hf : f_X7_whoIs_b32 N v0 v1 v3 w0 w1 h = some q) (kb : ∀ s' : Int32 × Int32 × AH, q = .inl s' → JW G X (RX7, cX7_whoIs, 4) s'.2.2 [(0, .ref v0), (1, .int v1), (2, .int s'.1), (3, .int s'.2.1)] [] 4 0 0 Q) (ke0 : ∀ e : Int32 × AH, q = .inr e → JW G X (RX7, cX7_whoIs, 4) e.2 [(2, .int e.1)] [] 40 0 0 Q) : JW G X (RX7, cX7_whoIs, 4) h [(0, .ref v0), (1, .int v1), (3, .int v3)] [.int w1, .int w0] 32 0 0 Q := by
  unfold f_X7_whoIs_b32 at hf
  refine J_ior E (jd dk_X7_whoIs_0 22 rfl) ?_
  refine J_istore_n (lv' := [(2, .int (w0 ||| w1)), (0, .ref v0), (1, .int v1), (3, .int v3)]) E (jd dk_X7_whoIs_0 23 rfl) rfl (by decide) rfl ?_
  refine J_iinc (v := v3 + 1) (lv' := [(3, .int (v3 + 1)), (2, .int (w0 ||| w1)), (0, .ref v0), (1, .int v1)]) E (jd dk_X7_whoIs_0 24 rfl) 3 rfl rfl (by decide) rfl ?_
  refine J_goto (tgt := 4) E (jd dk_X7_whoIs_0 25 rfl) (by decide) ?_
  refine J_sub [2, 3, 1, 0] rfl ?_
  exact kb _ (Option.some.inj hf).symm
set_option maxRecDepth 100000 in
set_option maxHeartbeats 4000000 in
theorem lk_X7_whoIs_l4 {G : JG} {X : JX} (E : jE G X (RX7, cX7_whoIs, 4)) (hX : X.2.2.2.1 = jRm 0 0 0) (hr : X.2.2.2.2.2.2.2.2.1.sig.returnType = (some .int)) (N : Nat) {Q : State → Prop} {v0 : Nat} {v1 : Int32} {v2 : Int32} {v3 : Int32}  {h : AH} {q : ((Int32 × Int32 × AH) ⊕ ((Int32 × AH)))} (hf : f_X7_whoIs_l4 N v0 v1 v2 v3 h = some q) (kb : ∀ s' : Int32 × Int32 × AH, q = .inl s' → JW G X (RX7, cX7_whoIs, 4) s'.2.2 [(0, .ref v0), (1, .int v1), (2, .int s'.1), (3, .int s'.2.1)] [] 4 0 0 Q) (ke0 : ∀ e : Int32 × AH, q = .inr e → JW G X (RX7, cX7_whoIs, 4) e.2 [(2, .int e.1)] [] 40 0 0 Q) : JW G X (RX7, cX7_whoIs, 4) h [(0, .ref v0), (1, .int v1), (2, .int v2), (3, .int v3)] [] 4 0 0 Q := by
  unfold f_X7_whoIs_l4 at hf
  refine J_iload_n E (jd dk_X7_whoIs_0 4 rfl) rfl 3 rfl ?_
  refine J_aload_n E (jd dk_X7_whoIs_0 5 rfl) rfl 0 rfl ?_
  obtain ⟨x1, e2, hf⟩ := jbind hf
  refine J_getr E (jd dk_X7_whoIs_0 6 rfl) fl_RX7_42 e2 ?_
  refine J_iconst (v := 2) E (jd dk_X7_whoIs_0 7 rfl) rfl ?_
  obtain ⟨x3, e4, hf⟩ := jbind hf
  refine J_iald E (jd dk_X7_whoIs_0 8 rfl) e4 ?_
  refine J_icmp_ge (tgt := 40) E (jd dk_X7_whoIs_0 9 rfl) (by decide) (fun c5 => ?_) (fun c5 => ?_)
  · replace hf := jif_t c5 hf
    refine J_sub [2] rfl ?_
    exact ke0 _ (Option.some.inj hf).symm
  · replace hf := jif_f c5 hf
    refine J_iload_n E (jd dk_X7_whoIs_0 10 rfl) rfl 2 rfl ?_
    refine J_aload_n E (jd dk_X7_whoIs_0 11 rfl) rfl 0 rfl ?_
    obtain ⟨x6, e7, hf⟩ := jbind hf
    refine J_getr E (jd dk_X7_whoIs_0 12 rfl) fl_RX7_81 e7 ?_
    refine J_iload_n E (jd dk_X7_whoIs_0 13 rfl) rfl 3 rfl ?_
    obtain ⟨x8, e9, hf⟩ := jbind hf
    refine J_iald E (jd dk_X7_whoIs_0 14 rfl) e9 ?_
    refine J_iload_n E (jd dk_X7_whoIs_0 15 rfl) rfl 1 rfl ?_
    refine J_icmp_ne (tgt := 31) E (jd dk_X7_whoIs_0 16 rfl) (by decide) (fun c10 => ?_) (fun c10 => ?_)
    · replace hf := jif_f c10 hf
      refine J_iconst (v := 0) E (jd dk_X7_whoIs_0 21 rfl) rfl ?_
      refine J_sub [0, 1, 3] rfl ?_
      exact lk_X7_whoIs_b32 E hX hr N hf kb ke0
    · replace hf := jif_t c10 hf
      refine J_iconst (v := 1) E (jd dk_X7_whoIs_0 17 rfl) rfl ?_
      refine J_iload_n E (jd dk_X7_whoIs_0 18 rfl) rfl 3 rfl ?_
      refine J_ishl E (jd dk_X7_whoIs_0 19 rfl) ?_
      refine J_goto (tgt := 32) E (jd dk_X7_whoIs_0 20 rfl) (by decide) ?_
      refine J_sub [0, 1, 3] rfl ?_
      exact lk_X7_whoIs_b32 E hX hr N hf kb ke0
set_option maxRecDepth 100000 in
set_option maxHeartbeats 4000000 in
theorem lk_X7_whoIs_b4 {G : JG} {X : JX} (E : jE G X (RX7, cX7_whoIs, 4)) (hX : X.2.2.2.1 = jRm 0 0 0) (hr : X.2.2.2.2.2.2.2.2.1.sig.returnType = (some .int)) (N : Nat) {v0 : Nat} {v1 : Int32} {v2 : Int32} {v3 : Int32} {h : AH}  {r : (Int32 × AH)} (hf : f_X7_whoIs_b4 N v0 v1 v2 v3 h = some r) : JW G X (RX7, cX7_whoIs, 4) h [(0, .ref v0), (1, .int v1), (2, .int v2), (3, .int v3)] [] 4 0 0 (jEnd G X (jpi r) 0 0) := by
  unfold f_X7_whoIs_b4 at hf
  obtain ⟨q1, h1, hf⟩ := jbind hf
  refine jloop (P := fun s => JW G X (RX7, cX7_whoIs, 4) s.2.2 [(0, .ref v0), (1, .int v1), (2, .int s.1), (3, .int s.2.1)] [] 4 0 0 (jEnd G X (jpi r) 0 0)) (Ex := fun (e : Int32 × AH) => JW G X (RX7, cX7_whoIs, 4) e.2 [(2, .int e.1)] [] 40 0 0 (jEnd G X (jpi r) 0 0)) (fun s q hs hb hx => lk_X7_whoIs_l4 E hX hr N hs (fun s' hs => hb s' hs) (fun e he => hx e he)) N _ q1 h1 ?_
  generalize q1 = e at hf ⊢
  refine J_iload_n E (jd dk_X7_whoIs_0 26 rfl) rfl 0 rfl ?_
  cases hf
  exact J_iret E hr rfl (jd dk_X7_whoIs_0 27 rfl) (Nat.le_refl _) (Nat.le_refl _) ⟨rfl, rfl⟩
set_option maxRecDepth 100000 in
set_option maxHeartbeats 4000000 in
theorem lk_X7_whoIs {G : JG} {l : Launch} (hG : jG G) (htr : l.stackTraces = false) (N : Nat) {h : AH} {a0 : Nat} {a1 : Int32} {r : (Int32 × AH)} (hf : f_X7_whoIs N h a0 a1 = some r) : jMet G l yX7_whoIs cX7_whoIs 4 (some .int) 0 0 0 [.ref a0, .int a1] h (jpi r) := by
  unfold f_X7_whoIs at hf
  refine jMet_of hG htr (by decide) (Nat.le_of_ble_eq_true rfl) ?_
  intro X E hl9 hr hX _ _
  show JW G X (RX7, cX7_whoIs, 4) h [(0, .ref a0), (1, .int a1)] [] 0 0 0 (jEnd G X (jpi r) 0 0)
  refine J_iconst (v := 0) E (jd dk_X7_whoIs_0 0 rfl) rfl ?_
  refine J_istore_n (lv' := [(2, .int 0), (0, .ref a0), (1, .int a1)]) E (jd dk_X7_whoIs_0 1 rfl) rfl (by decide) rfl ?_
  refine J_iconst (v := 0) E (jd dk_X7_whoIs_0 2 rfl) rfl ?_
  refine J_istore_n (lv' := [(3, .int 0), (2, .int 0), (0, .ref a0), (1, .int a1)]) E (jd dk_X7_whoIs_0 3 rfl) rfl (by decide) rfl ?_
  refine J_sub [2, 3, 1, 0] rfl ?_
  exact lk_X7_whoIs_b4 E hX hr N hf
def f_X7_onReaches_b31 (N : Nat) (v0 : Nat) (v2 : Int32) (w0 : Int32) (w1 : Int32) (h : AH) : Option ((Int32 × Int32 × AH) ⊕ ((Int32 × AH))) :=
  some (.inl ((w0 ||| w1, v2 + 1, h)))
def f_X7_onReaches_l4 (N : Nat) (v0 : Nat) (v1 : Int32) (v2 : Int32) (h : AH) : Option ((Int32 × Int32 × AH) ⊕ ((Int32 × AH))) :=
  (jgr 7 h v0 5).bind fun x1 =>
  (jal 0 h x1 2).bind fun x3 =>
  if x3 ≤ v2 then some (.inr ((v1, h)))
  else (jgr 7 h v0 28).bind fun x6 =>
  (jal 0 h x6 v2).bind fun x8 =>
  if x8 < 0 then f_X7_onReaches_b31 N v0 v2 v1 0 h
  else f_X7_onReaches_b31 N v0 v2 v1 ((1 : Int32) <<< (v2 &&& 31)) h
def f_X7_onReaches_b4 (N : Nat) (v0 : Nat) (v1 : Int32) (v2 : Int32) (h : AH) : Option (Int32 × AH) :=
  (itr (fun s => f_X7_onReaches_l4 N v0 s.1 s.2.1 s.2.2) N (v1, v2, h)).bind (fun e => some (e.1, e.2))
def f_X7_onReaches (N : Nat) (h : AH) (a0 : Nat) : Option (Int32 × AH) :=
  f_X7_onReaches_b4 N a0 0 0 h
set_option maxRecDepth 100000 in
set_option maxHeartbeats 4000000 in
theorem lk_X7_onReaches_b31 {G : JG} {X : JX} (E : jE G X (RX7, cX7_onReaches, 3)) (hX : X.2.2.2.1 = jRm 0 0 0) (hr : X.2.2.2.2.2.2.2.2.1.sig.returnType = (some .int)) (N : Nat) {Q : State → Prop} {v0 : Nat} {v2 : Int32} {w0 : Int32} {w1 : Int32} {h : AH}  {q : ((Int32 × Int32 × AH) ⊕ ((Int32 × AH)))} (hf : f_X7_onReaches_b31 N v0 v2 w0 w1 h = some q) (kb : ∀ s' : Int32 × Int32 × AH, q = .inl s' → JW G X (RX7, cX7_onReaches, 3) s'.2.2 [(0, .ref v0), (1, .int s'.1), (2, .int s'.2.1)] [] 4 0 0 Q) (ke0 : ∀ e : Int32 × AH, q = .inr e → JW G X (RX7, cX7_onReaches, 3) e.2 [(1, .int e.1)] [] 39 0 0 Q) : JW G X (RX7, cX7_onReaches, 3) h [(0, .ref v0), (2, .int v2)] [.int w1, .int w0] 31 0 0 Q := by
  unfold f_X7_onReaches_b31 at hf
  refine J_ior E (jd dk_X7_onReaches_0 21 rfl) ?_
  refine J_istore_n (lv' := [(1, .int (w0 ||| w1)), (0, .ref v0), (2, .int v2)]) E (jd dk_X7_onReaches_0 22 rfl) rfl (by decide) rfl ?_
  refine J_iinc (v := v2 + 1) (lv' := [(2, .int (v2 + 1)), (1, .int (w0 ||| w1)), (0, .ref v0)]) E (jd dk_X7_onReaches_0 23 rfl) 2 rfl rfl (by decide) rfl ?_
  refine J_goto (tgt := 4) E (jd dk_X7_onReaches_0 24 rfl) (by decide) ?_
  refine J_sub [2, 1, 0] rfl ?_
  exact kb _ (Option.some.inj hf).symm
set_option maxRecDepth 100000 in
set_option maxHeartbeats 4000000 in
theorem lk_X7_onReaches_l4 {G : JG} {X : JX} (E : jE G X (RX7, cX7_onReaches, 3)) (hX : X.2.2.2.1 = jRm 0 0 0) (hr : X.2.2.2.2.2.2.2.2.1.sig.returnType = (some .int)) (N : Nat) {Q : State → Prop} {v0 : Nat} {v1 : Int32} {v2 : Int32}  {h : AH} {q : ((Int32 × Int32 × AH) ⊕ ((Int32 × AH)))} (hf : f_X7_onReaches_l4 N v0 v1 v2 h = some q) (kb : ∀ s' : Int32 × Int32 × AH, q = .inl s' → JW G X (RX7, cX7_onReaches, 3) s'.2.2 [(0, .ref v0), (1, .int s'.1), (2, .int s'.2.1)] [] 4 0 0 Q) (ke0 : ∀ e : Int32 × AH, q = .inr e → JW G X (RX7, cX7_onReaches, 3) e.2 [(1, .int e.1)] [] 39 0 0 Q) : JW G X (RX7, cX7_onReaches, 3) h [(0, .ref v0), (1, .int v1), (2, .int v2)] [] 4 0 0 Q := by
  unfold f_X7_onReaches_l4 at hf
  refine J_iload_n E (jd dk_X7_onReaches_0 4 rfl) rfl 2 rfl ?_
  refine J_aload_n E (jd dk_X7_onReaches_0 5 rfl) rfl 0 rfl ?_
  obtain ⟨x1, e2, hf⟩ := jbind hf
  refine J_getr E (jd dk_X7_onReaches_0 6 rfl) fl_RX7_42 e2 ?_
  refine J_iconst (v := 2) E (jd dk_X7_onReaches_0 7 rfl) rfl ?_
  obtain ⟨x3, e4, hf⟩ := jbind hf
  refine J_iald E (jd dk_X7_onReaches_0 8 rfl) e4 ?_
  refine J_icmp_ge (tgt := 39) E (jd dk_X7_onReaches_0 9 rfl) (by decide) (fun c5 => ?_) (fun c5 => ?_)
  · replace hf := jif_t c5 hf
    refine J_sub [1] rfl ?_
    exact ke0 _ (Option.some.inj hf).symm
  · replace hf := jif_f c5 hf
    refine J_iload_n E (jd dk_X7_onReaches_0 10 rfl) rfl 1 rfl ?_
    refine J_aload_n E (jd dk_X7_onReaches_0 11 rfl) rfl 0 rfl ?_
    obtain ⟨x6, e7, hf⟩ := jbind hf
    refine J_getr E (jd dk_X7_onReaches_0 12 rfl) fl_RX7_81 e7 ?_
    refine J_iload_n E (jd dk_X7_onReaches_0 13 rfl) rfl 2 rfl ?_
    obtain ⟨x8, e9, hf⟩ := jbind hf
    refine J_iald E (jd dk_X7_onReaches_0 14 rfl) e9 ?_
    refine J_if_lt (tgt := 30) E (jd dk_X7_onReaches_0 15 rfl) (by decide) (fun c10 => ?_) (fun c10 => ?_)
    · replace hf := jif_t c10 hf
      refine J_iconst (v := 0) E (jd dk_X7_onReaches_0 20 rfl) rfl ?_
      refine J_sub [0, 2] rfl ?_
      exact lk_X7_onReaches_b31 E hX hr N hf kb ke0
    · replace hf := jif_f c10 hf
      refine J_iconst (v := 1) E (jd dk_X7_onReaches_0 16 rfl) rfl ?_
      refine J_iload_n E (jd dk_X7_onReaches_0 17 rfl) rfl 2 rfl ?_
      refine J_ishl E (jd dk_X7_onReaches_0 18 rfl) ?_
      refine J_goto (tgt := 31) E (jd dk_X7_onReaches_0 19 rfl) (by decide) ?_
      refine J_sub [0, 2] rfl ?_
      exact lk_X7_onReaches_b31 E hX hr N hf kb ke0
set_option maxRecDepth 100000 in
set_option maxHeartbeats 4000000 in
theorem lk_X7_onReaches_b4 {G : JG} {X : JX} (E : jE G X (RX7, cX7_onReaches, 3)) (hX : X.2.2.2.1 = jRm 0 0 0) (hr : X.2.2.2.2.2.2.2.2.1.sig.returnType = (some .int)) (N : Nat) {v0 : Nat} {v1 : Int32} {v2 : Int32} {h : AH}  {r : (Int32 × AH)} (hf : f_X7_onReaches_b4 N v0 v1 v2 h = some r) : JW G X (RX7, cX7_onReaches, 3) h [(0, .ref v0), (1, .int v1), (2, .int v2)] [] 4 0 0 (jEnd G X (jpi r) 0 0) := by
  unfold f_X7_onReaches_b4 at hf
  obtain ⟨q1, h1, hf⟩ := jbind hf
  refine jloop (P := fun s => JW G X (RX7, cX7_onReaches, 3) s.2.2 [(0, .ref v0), (1, .int s.1), (2, .int s.2.1)] [] 4 0 0 (jEnd G X (jpi r) 0 0)) (Ex := fun (e : Int32 × AH) => JW G X (RX7, cX7_onReaches, 3) e.2 [(1, .int e.1)] [] 39 0 0 (jEnd G X (jpi r) 0 0)) (fun s q hs hb hx => lk_X7_onReaches_l4 E hX hr N hs (fun s' hs => hb s' hs) (fun e he => hx e he)) N _ q1 h1 ?_
  generalize q1 = e at hf ⊢
  refine J_iload_n E (jd dk_X7_onReaches_0 25 rfl) rfl 0 rfl ?_
  cases hf
  exact J_iret E hr rfl (jd dk_X7_onReaches_0 26 rfl) (Nat.le_refl _) (Nat.le_refl _) ⟨rfl, rfl⟩
set_option maxRecDepth 100000 in
set_option maxHeartbeats 4000000 in
theorem lk_X7_onReaches {G : JG} {l : Launch} (hG : jG G) (htr : l.stackTraces = false) (N : Nat) {h : AH} {a0 : Nat} {r : (Int32 × AH)} (hf : f_X7_onReaches N h a0 = some r) : jMet G l yX7_onReaches cX7_onReaches 3 (some .int) 0 0 0 [.ref a0] h (jpi r) := by
  unfold f_X7_onReaches at hf
  refine jMet_of hG htr (by decide) (Nat.le_of_ble_eq_true rfl) ?_
  intro X E hl9 hr hX _ _
  show JW G X (RX7, cX7_onReaches, 3) h [(0, .ref a0)] [] 0 0 0 (jEnd G X (jpi r) 0 0)
  refine J_iconst (v := 0) E (jd dk_X7_onReaches_0 0 rfl) rfl ?_
  refine J_istore_n (lv' := [(1, .int 0), (0, .ref a0)]) E (jd dk_X7_onReaches_0 1 rfl) rfl (by decide) rfl ?_
  refine J_iconst (v := 0) E (jd dk_X7_onReaches_0 2 rfl) rfl ?_
  refine J_istore_n (lv' := [(2, .int 0), (1, .int 0), (0, .ref a0)]) E (jd dk_X7_onReaches_0 3 rfl) rfl (by decide) rfl ?_
  refine J_sub [2, 1, 0] rfl ?_
  exact lk_X7_onReaches_b4 E hX hr N hf
def f_X7_isFair (N : Nat) (h : AH) (a0 : Nat) (a1 : Int32) : Option (Int32 × AH) :=
  (jgr 7 h a0 30).bind fun x1 =>
  (jal 0 h x1 a1).bind fun x3 =>
  (jck 7 h a0).bind fun _ =>
  (f_X7_allSides N h a0).bind fun r5 =>
  if x3 = r5.1 then some (1, r5.2)
  else some (0, r5.2)
set_option maxRecDepth 100000 in
set_option maxHeartbeats 4000000 in
theorem lk_X7_isFair {G : JG} {l : Launch} (hG : jG G) (htr : l.stackTraces = false) (N : Nat) {h : AH} {a0 : Nat} {a1 : Int32} {r : (Int32 × AH)} (hf : f_X7_isFair N h a0 a1 = some r) : jMet G l yX7_isFair cX7_isFair 2 (some .boolean) 1 0 0 [.ref a0, .int a1] h (jpi r) := by
  unfold f_X7_isFair at hf
  refine jMet_of hG htr (by decide) (Nat.le_of_ble_eq_true rfl) ?_
  intro X E hl9 hr hX _ _
  show JW G X (RX7, cX7_isFair, 2) h [(0, .ref a0), (1, .int a1)] [] 0 0 0 (jEnd G X (jpi r) 0 0)
  refine J_aload_n E (jd dk_X7_isFair_0 0 rfl) rfl 0 rfl ?_
  obtain ⟨x1, e2, hf⟩ := jbind hf
  refine J_getr E (jd dk_X7_isFair_0 1 rfl) fl_RX7_87 e2 ?_
  refine J_iload_n E (jd dk_X7_isFair_0 2 rfl) rfl 1 rfl ?_
  obtain ⟨x3, e4, hf⟩ := jbind hf
  refine J_iald E (jd dk_X7_isFair_0 3 rfl) e4 ?_
  refine J_aload_n E (jd dk_X7_isFair_0 4 rfl) rfl 0 rfl ?_
  obtain ⟨u7, e8, hf⟩ := jbind hf
  obtain ⟨r5, e6, hf⟩ := jbind hf
  refine J_callV E (jd dk_X7_isFair_0 5 rfl) ml_RX7_321 cal_X7_allSides e8 rfl (lk_X7_allSides (jE_g E) (jE_tr E) N e6) rfl (Nat.le_of_ble_eq_true rfl) (jR_le hX (by decide) (by decide)) (jF0 hX) rfl ?_
  rintro _ _ ⟨rfl, rfl⟩
  refine J_icmp_ne (tgt := 17) E (jd dk_X7_isFair_0 6 rfl) (by decide) (fun c9 => ?_) (fun c9 => ?_)
  · replace hf := jif_f c9 hf
    refine J_iconst (v := 0) E (jd dk_X7_isFair_0 9 rfl) rfl ?_
    cases hf
    exact J_iret E hr rfl (jd dk_X7_isFair_0 10 rfl) (Nat.le_refl _) (Nat.le_refl _) ⟨rfl, rfl⟩
  · replace hf := jif_t c9 hf
    refine J_iconst (v := 1) E (jd dk_X7_isFair_0 7 rfl) rfl ?_
    refine J_goto (tgt := 18) E (jd dk_X7_isFair_0 8 rfl) (by decide) ?_
    cases hf
    exact J_iret E hr rfl (jd dk_X7_isFair_0 10 rfl) (Nat.le_refl _) (Nat.le_refl _) ⟨rfl, rfl⟩
def f_X7_fairOnes_b30 (N : Nat) (v0 : Nat) (v2 : Int32) (w0 : Int32) (w1 : Int32) (h : AH) : Option ((Int32 × Int32 × AH) ⊕ ((Int32 × AH))) :=
  some (.inl ((w0 ||| w1, v2 + 1, h)))
def f_X7_fairOnes_l4 (N : Nat) (v0 : Nat) (v1 : Int32) (v2 : Int32) (h : AH) : Option ((Int32 × Int32 × AH) ⊕ ((Int32 × AH))) :=
  (jgr 7 h v0 5).bind fun x1 =>
  (jal 0 h x1 2).bind fun x3 =>
  if x3 ≤ v2 then some (.inr ((v1, h)))
  else (jck 7 h v0).bind fun _ =>
  (f_X7_isFair N h v0 v2).bind fun r6 =>
  if r6.1 = 0 then f_X7_fairOnes_b30 N v0 v2 v1 0 r6.2
  else f_X7_fairOnes_b30 N v0 v2 v1 ((1 : Int32) <<< (v2 &&& 31)) r6.2
def f_X7_fairOnes_b4 (N : Nat) (v0 : Nat) (v1 : Int32) (v2 : Int32) (h : AH) : Option (Int32 × AH) :=
  (itr (fun s => f_X7_fairOnes_l4 N v0 s.1 s.2.1 s.2.2) N (v1, v2, h)).bind (fun e => some (e.1, e.2))
def f_X7_fairOnes (N : Nat) (h : AH) (a0 : Nat) : Option (Int32 × AH) :=
  f_X7_fairOnes_b4 N a0 0 0 h
set_option maxRecDepth 100000 in
set_option maxHeartbeats 4000000 in
theorem lk_X7_fairOnes_b30 {G : JG} {X : JX} (E : jE G X (RX7, cX7_fairOnes, 3)) (hX : X.2.2.2.1 = jRm 2 0 0) (hr : X.2.2.2.2.2.2.2.2.1.sig.returnType = (some .int)) (N : Nat) {Q : State → Prop} {v0 : Nat} {v2 : Int32} {w0 : Int32} {w1 : Int32} {h : AH}  {q : ((Int32 × Int32 × AH) ⊕ ((Int32 × AH)))} (hf : f_X7_fairOnes_b30 N v0 v2 w0 w1 h = some q) (kb : ∀ s' : Int32 × Int32 × AH, q = .inl s' → JW G X (RX7, cX7_fairOnes, 3) s'.2.2 [(0, .ref v0), (1, .int s'.1), (2, .int s'.2.1)] [] 4 0 0 Q) (ke0 : ∀ e : Int32 × AH, q = .inr e → JW G X (RX7, cX7_fairOnes, 3) e.2 [(1, .int e.1)] [] 38 0 0 Q) : JW G X (RX7, cX7_fairOnes, 3) h [(0, .ref v0), (2, .int v2)] [.int w1, .int w0] 30 0 0 Q := by
  unfold f_X7_fairOnes_b30 at hf
  refine J_ior E (jd dk_X7_fairOnes_0 20 rfl) ?_
  refine J_istore_n (lv' := [(1, .int (w0 ||| w1)), (0, .ref v0), (2, .int v2)]) E (jd dk_X7_fairOnes_0 21 rfl) rfl (by decide) rfl ?_
  refine J_iinc (v := v2 + 1) (lv' := [(2, .int (v2 + 1)), (1, .int (w0 ||| w1)), (0, .ref v0)]) E (jd dk_X7_fairOnes_0 22 rfl) 2 rfl rfl (by decide) rfl ?_
  refine J_goto (tgt := 4) E (jd dk_X7_fairOnes_0 23 rfl) (by decide) ?_
  refine J_sub [2, 1, 0] rfl ?_
  exact kb _ (Option.some.inj hf).symm
set_option maxRecDepth 100000 in
set_option maxHeartbeats 4000000 in
theorem lk_X7_fairOnes_l4 {G : JG} {X : JX} (E : jE G X (RX7, cX7_fairOnes, 3)) (hX : X.2.2.2.1 = jRm 2 0 0) (hr : X.2.2.2.2.2.2.2.2.1.sig.returnType = (some .int)) (N : Nat) {Q : State → Prop} {v0 : Nat} {v1 : Int32} {v2 : Int32}  {h : AH} {q : ((Int32 × Int32 × AH) ⊕ ((Int32 × AH)))} (hf : f_X7_fairOnes_l4 N v0 v1 v2 h = some q) (kb : ∀ s' : Int32 × Int32 × AH, q = .inl s' → JW G X (RX7, cX7_fairOnes, 3) s'.2.2 [(0, .ref v0), (1, .int s'.1), (2, .int s'.2.1)] [] 4 0 0 Q) (ke0 : ∀ e : Int32 × AH, q = .inr e → JW G X (RX7, cX7_fairOnes, 3) e.2 [(1, .int e.1)] [] 38 0 0 Q) : JW G X (RX7, cX7_fairOnes, 3) h [(0, .ref v0), (1, .int v1), (2, .int v2)] [] 4 0 0 Q := by
  unfold f_X7_fairOnes_l4 at hf
  refine J_iload_n E (jd dk_X7_fairOnes_0 4 rfl) rfl 2 rfl ?_
  refine J_aload_n E (jd dk_X7_fairOnes_0 5 rfl) rfl 0 rfl ?_
  obtain ⟨x1, e2, hf⟩ := jbind hf
  refine J_getr E (jd dk_X7_fairOnes_0 6 rfl) fl_RX7_42 e2 ?_
  refine J_iconst (v := 2) E (jd dk_X7_fairOnes_0 7 rfl) rfl ?_
  obtain ⟨x3, e4, hf⟩ := jbind hf
  refine J_iald E (jd dk_X7_fairOnes_0 8 rfl) e4 ?_
  refine J_icmp_ge (tgt := 38) E (jd dk_X7_fairOnes_0 9 rfl) (by decide) (fun c5 => ?_) (fun c5 => ?_)
  · replace hf := jif_t c5 hf
    refine J_sub [1] rfl ?_
    exact ke0 _ (Option.some.inj hf).symm
  · replace hf := jif_f c5 hf
    refine J_iload_n E (jd dk_X7_fairOnes_0 10 rfl) rfl 1 rfl ?_
    refine J_aload_n E (jd dk_X7_fairOnes_0 11 rfl) rfl 0 rfl ?_
    refine J_iload_n E (jd dk_X7_fairOnes_0 12 rfl) rfl 2 rfl ?_
    obtain ⟨u8, e9, hf⟩ := jbind hf
    obtain ⟨r6, e7, hf⟩ := jbind hf
    refine J_callV E (jd dk_X7_fairOnes_0 13 rfl) ml_RX7_324 cal_X7_isFair e9 rfl (lk_X7_isFair (jE_g E) (jE_tr E) N e7) rfl (Nat.le_of_ble_eq_true rfl) (jR_le hX (by decide) (by decide)) (jF0 hX) rfl ?_
    rintro _ _ ⟨rfl, rfl⟩
    refine J_if_eq (tgt := 29) E (jd dk_X7_fairOnes_0 14 rfl) (by decide) (fun c10 => ?_) (fun c10 => ?_)
    · replace hf := jif_t c10 hf
      refine J_iconst (v := 0) E (jd dk_X7_fairOnes_0 19 rfl) rfl ?_
      refine J_sub [0, 2] rfl ?_
      exact lk_X7_fairOnes_b30 E hX hr N hf kb ke0
    · replace hf := jif_f c10 hf
      refine J_iconst (v := 1) E (jd dk_X7_fairOnes_0 15 rfl) rfl ?_
      refine J_iload_n E (jd dk_X7_fairOnes_0 16 rfl) rfl 2 rfl ?_
      refine J_ishl E (jd dk_X7_fairOnes_0 17 rfl) ?_
      refine J_goto (tgt := 30) E (jd dk_X7_fairOnes_0 18 rfl) (by decide) ?_
      refine J_sub [0, 2] rfl ?_
      exact lk_X7_fairOnes_b30 E hX hr N hf kb ke0
set_option maxRecDepth 100000 in
set_option maxHeartbeats 4000000 in
theorem lk_X7_fairOnes_b4 {G : JG} {X : JX} (E : jE G X (RX7, cX7_fairOnes, 3)) (hX : X.2.2.2.1 = jRm 2 0 0) (hr : X.2.2.2.2.2.2.2.2.1.sig.returnType = (some .int)) (N : Nat) {v0 : Nat} {v1 : Int32} {v2 : Int32} {h : AH}  {r : (Int32 × AH)} (hf : f_X7_fairOnes_b4 N v0 v1 v2 h = some r) : JW G X (RX7, cX7_fairOnes, 3) h [(0, .ref v0), (1, .int v1), (2, .int v2)] [] 4 0 0 (jEnd G X (jpi r) 0 0) := by
  unfold f_X7_fairOnes_b4 at hf
  obtain ⟨q1, h1, hf⟩ := jbind hf
  refine jloop (P := fun s => JW G X (RX7, cX7_fairOnes, 3) s.2.2 [(0, .ref v0), (1, .int s.1), (2, .int s.2.1)] [] 4 0 0 (jEnd G X (jpi r) 0 0)) (Ex := fun (e : Int32 × AH) => JW G X (RX7, cX7_fairOnes, 3) e.2 [(1, .int e.1)] [] 38 0 0 (jEnd G X (jpi r) 0 0)) (fun s q hs hb hx => lk_X7_fairOnes_l4 E hX hr N hs (fun s' hs => hb s' hs) (fun e he => hx e he)) N _ q1 h1 ?_
  generalize q1 = e at hf ⊢
  refine J_iload_n E (jd dk_X7_fairOnes_0 24 rfl) rfl 0 rfl ?_
  cases hf
  exact J_iret E hr rfl (jd dk_X7_fairOnes_0 25 rfl) (Nat.le_refl _) (Nat.le_refl _) ⟨rfl, rfl⟩
set_option maxRecDepth 100000 in
set_option maxHeartbeats 4000000 in
theorem lk_X7_fairOnes {G : JG} {l : Launch} (hG : jG G) (htr : l.stackTraces = false) (N : Nat) {h : AH} {a0 : Nat} {r : (Int32 × AH)} (hf : f_X7_fairOnes N h a0 = some r) : jMet G l yX7_fairOnes cX7_fairOnes 3 (some .int) 2 0 0 [.ref a0] h (jpi r) := by
  unfold f_X7_fairOnes at hf
  refine jMet_of hG htr (by decide) (Nat.le_of_ble_eq_true rfl) ?_
  intro X E hl9 hr hX _ _
  show JW G X (RX7, cX7_fairOnes, 3) h [(0, .ref a0)] [] 0 0 0 (jEnd G X (jpi r) 0 0)
  refine J_iconst (v := 0) E (jd dk_X7_fairOnes_0 0 rfl) rfl ?_
  refine J_istore_n (lv' := [(1, .int 0), (0, .ref a0)]) E (jd dk_X7_fairOnes_0 1 rfl) rfl (by decide) rfl ?_
  refine J_iconst (v := 0) E (jd dk_X7_fairOnes_0 2 rfl) rfl ?_
  refine J_istore_n (lv' := [(2, .int 0), (1, .int 0), (0, .ref a0)]) E (jd dk_X7_fairOnes_0 3 rfl) rfl (by decide) rfl ?_
  refine J_sub [2, 1, 0] rfl ?_
  exact lk_X7_fairOnes_b4 E hX hr N hf
def f_X7_ruleOf (N : Nat) (h : AH) (a0 : Nat) (a1 : Nat) (a2 : Int32) (a3 : Int32) (a4 : Int32) : Option (Int32 × AH) :=
  (jgr 7 h a0 37).bind fun x1 =>
  (jgr 7 h a0 15).bind fun x3 =>
  (jal 0 h x3 a3).bind fun x5 =>
  (jas 0 h x1 0 x5).bind fun h7 =>
  (jgr 7 h7 a0 37).bind fun x9 =>
  (jgr 7 h7 a0 30).bind fun x11 =>
  (jal 0 h7 x11 a3).bind fun x13 =>
  (f_X7_bitsOf N h7 x13).bind fun r15 =>
  (jas 0 r15.2 x9 1 r15.1).bind fun h17 =>
  (jgr 7 h17 a0 37).bind fun x19 =>
  (jgr 7 h17 a0 29).bind fun x21 =>
  (jal 0 h17 x21 a3).bind fun x23 =>
  (jas 0 h17 x19 2 x23).bind fun h25 =>
  (jgr 7 h25 a0 37).bind fun x27 =>
  (jgr 7 h25 a0 28).bind fun x29 =>
  (jal 0 h25 x29 a3).bind fun x31 =>
  (jck 7 h25 a0).bind fun _ =>
  (f_X7_whoIs N h25 a0 x31).bind fun r33 =>
  (f_X7_bitsOf N r33.2 r33.1).bind fun r37 =>
  (jas 0 r37.2 x27 3 (r37.1 - 1)).bind fun h39 =>
  (jgr 7 h39 a0 37).bind fun x41 =>
  (jgi 7 h39 a0 34).bind fun x43 =>
  (jas 0 h39 x41 4 x43).bind fun h45 =>
  (jgr 7 h45 a0 37).bind fun x47 =>
  (jas 0 h45 x47 5 a4).bind fun h49 =>
  (jck 7 h49 a0).bind fun _ =>
  (f_X7_valueNow N h49 a0 a1 a2).bind fun r51 =>
  some (r51.1, r51.2)
set_option maxRecDepth 100000 in
set_option maxHeartbeats 4000000 in
theorem lk_X7_ruleOf {G : JG} {l : Launch} (hG : jG G) (htr : l.stackTraces = false) (N : Nat) {h : AH} {a0 : Nat} {a1 : Nat} {a2 : Int32} {a3 : Int32} {a4 : Int32} {r : (Int32 × AH)} (hf : f_X7_ruleOf N h a0 a1 a2 a3 a4 = some r) : jMet G l yX7_ruleOf cX7_ruleOf 5 (some .int) 2 0 0 [.ref a0, .ref a1, .int a2, .int a3, .int a4] h (jpi r) := by
  unfold f_X7_ruleOf at hf
  refine jMet_of hG htr (by decide) (Nat.le_of_ble_eq_true rfl) ?_
  intro X E hl9 hr hX _ _
  show JW G X (RX7, cX7_ruleOf, 5) h [(0, .ref a0), (1, .ref a1), (2, .int a2), (3, .int a3), (4, .int a4)] [] 0 0 0 (jEnd G X (jpi r) 0 0)
  refine J_aload_n E (jd dk_X7_ruleOf_0 0 rfl) rfl 0 rfl ?_
  obtain ⟨x1, e2, hf⟩ := jbind hf
  refine J_getr E (jd dk_X7_ruleOf_0 1 rfl) fl_RX7_97 e2 ?_
  refine J_iconst (v := 0) E (jd dk_X7_ruleOf_0 2 rfl) rfl ?_
  refine J_aload_n E (jd dk_X7_ruleOf_0 3 rfl) rfl 0 rfl ?_
  obtain ⟨x3, e4, hf⟩ := jbind hf
  refine J_getr E (jd dk_X7_ruleOf_0 4 rfl) fl_RX7_72 e4 ?_
  refine J_iload_n E (jd dk_X7_ruleOf_0 5 rfl) rfl 3 rfl ?_
  obtain ⟨x5, e6, hf⟩ := jbind hf
  refine J_iald E (jd dk_X7_ruleOf_0 6 rfl) e6 ?_
  obtain ⟨h7, e8, hf⟩ := jbind hf
  refine J_iast E (jd dk_X7_ruleOf_0 7 rfl) e8 ?_
  refine J_aload_n E (jd dk_X7_ruleOf_0 8 rfl) rfl 0 rfl ?_
  obtain ⟨x9, e10, hf⟩ := jbind hf
  refine J_getr E (jd dk_X7_ruleOf_0 9 rfl) fl_RX7_97 e10 ?_
  refine J_iconst (v := 1) E (jd dk_X7_ruleOf_0 10 rfl) rfl ?_
  refine J_aload_n E (jd dk_X7_ruleOf_0 11 rfl) rfl 0 rfl ?_
  obtain ⟨x11, e12, hf⟩ := jbind hf
  refine J_getr E (jd dk_X7_ruleOf_0 12 rfl) fl_RX7_87 e12 ?_
  refine J_iload_n E (jd dk_X7_ruleOf_0 13 rfl) rfl 3 rfl ?_
  obtain ⟨x13, e14, hf⟩ := jbind hf
  refine J_iald E (jd dk_X7_ruleOf_0 14 rfl) e14 ?_
  obtain ⟨r15, e16, hf⟩ := jbind hf
  refine J_callS E (jd dk_X7_ruleOf_0 15 rfl) ml_RX7_327 cal_X7_bitsOf (lk_X7_bitsOf (jE_g E) (jE_tr E) N e16) rfl (Nat.le_of_ble_eq_true rfl) (jR_le hX (by decide) (by decide)) (jF0 hX) rfl ?_
  rintro _ _ ⟨rfl, rfl⟩
  obtain ⟨h17, e18, hf⟩ := jbind hf
  refine J_iast E (jd dk_X7_ruleOf_0 16 rfl) e18 ?_
  refine J_aload_n E (jd dk_X7_ruleOf_0 17 rfl) rfl 0 rfl ?_
  obtain ⟨x19, e20, hf⟩ := jbind hf
  refine J_getr E (jd dk_X7_ruleOf_0 18 rfl) fl_RX7_97 e20 ?_
  refine J_iconst (v := 2) E (jd dk_X7_ruleOf_0 19 rfl) rfl ?_
  refine J_aload_n E (jd dk_X7_ruleOf_0 20 rfl) rfl 0 rfl ?_
  obtain ⟨x21, e22, hf⟩ := jbind hf
  refine J_getr E (jd dk_X7_ruleOf_0 21 rfl) fl_RX7_84 e22 ?_
  refine J_iload_n E (jd dk_X7_ruleOf_0 22 rfl) rfl 3 rfl ?_
  obtain ⟨x23, e24, hf⟩ := jbind hf
  refine J_iald E (jd dk_X7_ruleOf_0 23 rfl) e24 ?_
  obtain ⟨h25, e26, hf⟩ := jbind hf
  refine J_iast E (jd dk_X7_ruleOf_0 24 rfl) e26 ?_
  refine J_aload_n E (jd dk_X7_ruleOf_0 25 rfl) rfl 0 rfl ?_
  obtain ⟨x27, e28, hf⟩ := jbind hf
  refine J_getr E (jd dk_X7_ruleOf_0 26 rfl) fl_RX7_97 e28 ?_
  refine J_iconst (v := 3) E (jd dk_X7_ruleOf_0 27 rfl) rfl ?_
  refine J_aload_n E (jd dk_X7_ruleOf_0 28 rfl) rfl 0 rfl ?_
  refine J_aload_n E (jd dk_X7_ruleOf_0 29 rfl) rfl 0 rfl ?_
  obtain ⟨x29, e30, hf⟩ := jbind hf
  refine J_getr E (jd dk_X7_ruleOf_0 30 rfl) fl_RX7_81 e30 ?_
  refine J_iload_n E (jd dk_X7_ruleOf_0 31 rfl) rfl 3 rfl ?_
  obtain ⟨x31, e32, hf⟩ := jbind hf
  refine J_iald E (jd dk_X7_ruleOf_0 32 rfl) e32 ?_
  obtain ⟨u35, e36, hf⟩ := jbind hf
  obtain ⟨r33, e34, hf⟩ := jbind hf
  refine J_callV E (jd dk_X7_ruleOf_0 33 rfl) ml_RX7_330 cal_X7_whoIs e36 rfl (lk_X7_whoIs (jE_g E) (jE_tr E) N e34) rfl (Nat.le_of_ble_eq_true rfl) (jR_le hX (by decide) (by decide)) (jF0 hX) rfl ?_
  rintro _ _ ⟨rfl, rfl⟩
  obtain ⟨r37, e38, hf⟩ := jbind hf
  refine J_callS E (jd dk_X7_ruleOf_0 34 rfl) ml_RX7_327 cal_X7_bitsOf (lk_X7_bitsOf (jE_g E) (jE_tr E) N e38) rfl (Nat.le_of_ble_eq_true rfl) (jR_le hX (by decide) (by decide)) (jF0 hX) rfl ?_
  rintro _ _ ⟨rfl, rfl⟩
  refine J_iconst (v := 1) E (jd dk_X7_ruleOf_0 35 rfl) rfl ?_
  refine J_isub E (jd dk_X7_ruleOf_0 36 rfl) ?_
  obtain ⟨h39, e40, hf⟩ := jbind hf
  refine J_iast E (jd dk_X7_ruleOf_0 37 rfl) e40 ?_
  refine J_aload_n E (jd dk_X7_ruleOf_0 38 rfl) rfl 0 rfl ?_
  obtain ⟨x41, e42, hf⟩ := jbind hf
  refine J_getr E (jd dk_X7_ruleOf_0 39 rfl) fl_RX7_97 e42 ?_
  refine J_iconst (v := 4) E (jd dk_X7_ruleOf_0 40 rfl) rfl ?_
  refine J_aload_n E (jd dk_X7_ruleOf_0 41 rfl) rfl 0 rfl ?_
  obtain ⟨x43, e44, hf⟩ := jbind hf
  refine J_geti E (jd dk_X7_ruleOf_0 42 rfl) fl_RX7_306 e44 ?_
  obtain ⟨h45, e46, hf⟩ := jbind hf
  refine J_iast E (jd dk_X7_ruleOf_0 43 rfl) e46 ?_
  refine J_aload_n E (jd dk_X7_ruleOf_0 44 rfl) rfl 0 rfl ?_
  obtain ⟨x47, e48, hf⟩ := jbind hf
  refine J_getr E (jd dk_X7_ruleOf_0 45 rfl) fl_RX7_97 e48 ?_
  refine J_iconst (v := 5) E (jd dk_X7_ruleOf_0 46 rfl) rfl ?_
  refine J_iload E (jd dk_X7_ruleOf_0 47 rfl) 4 rfl ?_
  obtain ⟨h49, e50, hf⟩ := jbind hf
  refine J_iast E (jd dk_X7_ruleOf_0 48 rfl) e50 ?_
  refine J_aload_n E (jd dk_X7_ruleOf_0 49 rfl) rfl 0 rfl ?_
  refine J_aload_n E (jd dk_X7_ruleOf_1 0 rfl) rfl 1 rfl ?_
  refine J_iload_n E (jd dk_X7_ruleOf_1 1 rfl) rfl 2 rfl ?_
  obtain ⟨u53, e54, hf⟩ := jbind hf
  obtain ⟨r51, e52, hf⟩ := jbind hf
  refine J_callV E (jd dk_X7_ruleOf_1 2 rfl) ml_RX7_333 cal_X7_valueNow e54 rfl (lk_X7_valueNow (jE_g E) (jE_tr E) N e52) rfl (Nat.le_of_ble_eq_true rfl) (jR_le hX (by decide) (by decide)) (jF0 hX) rfl ?_
  rintro _ _ ⟨rfl, rfl⟩
  cases hf
  exact J_iret E hr rfl (jd dk_X7_ruleOf_1 3 rfl) (Nat.le_refl _) (Nat.le_refl _) ⟨rfl, rfl⟩
def f_X7_turnsOf_b47 (N : Nat) (v0 : Nat) (v1 : Int32) (v3 : Int32) (h : AH) : Option (Int32 × AH) :=
  (jgr 7 h v0 8).bind fun x1 =>
  (jal 0 h x1 v1).bind fun x3 =>
  if x3 = 1 then some ((jmx 0 (jmn 30 v3)) / 2, h)
  else some (jmx 0 (jmn 30 v3), h)
def f_X7_turnsOf (N : Nat) (h : AH) (a0 : Nat) (a1 : Int32) : Option (Int32 × AH) :=
  (jgr 7 h a0 32).bind fun x6 =>
  (jgr 7 h a0 28).bind fun x8 =>
  (jal 0 h x8 a1).bind fun x10 =>
  (jal 0 h x6 x10).bind fun x12 =>
  (jgr 7 h a0 15).bind fun x14 =>
  (jal 0 h x14 a1).bind fun x16 =>
  (jgr 7 h a0 5).bind fun x18 =>
  (jal 0 h x18 3).bind fun x20 =>
  if x20 ≤ 0 then f_X7_turnsOf_b47 N a0 a1 (x12 - x16) h
  else (jgr 7 h a0 12).bind fun x23 =>
  (jgr 7 h a0 5).bind fun x25 =>
  (jal 0 h x25 3).bind fun x27 =>
  (jck 7 h a0).bind fun _ =>
  (f_X7_ruleOf N h a0 x23 x27 a1 x12).bind fun r29 =>
  f_X7_turnsOf_b47 N a0 a1 r29.1 r29.2
set_option maxRecDepth 100000 in
set_option maxHeartbeats 4000000 in
theorem lk_X7_turnsOf_b47 {G : JG} {X : JX} (E : jE G X (RX7, cX7_turnsOf, 4)) (hX : X.2.2.2.1 = jRm 3 0 0) (hr : X.2.2.2.2.2.2.2.2.1.sig.returnType = (some .int)) (N : Nat) {v0 : Nat} {v1 : Int32} {v3 : Int32} {h : AH}  {r : (Int32 × AH)} (hf : f_X7_turnsOf_b47 N v0 v1 v3 h = some r) : JW G X (RX7, cX7_turnsOf, 4) h [(0, .ref v0), (1, .int v1), (3, .int v3)] [] 47 0 0 (jEnd G X (jpi r) 0 0) := by
  unfold f_X7_turnsOf_b47 at hf
  refine J_iconst (v := 0) E (jd dk_X7_turnsOf_0 31 rfl) rfl ?_
  refine J_bipush (v := 30) E (jd dk_X7_turnsOf_0 32 rfl) (by decide) ?_
  refine J_iload_n E (jd dk_X7_turnsOf_0 33 rfl) rfl 2 rfl ?_
  refine J_min E (jd dk_X7_turnsOf_0 34 rfl) ml_RX7_188 (Nat.le_of_ble_eq_true rfl) (by rw [hX]; exact ⟨Nat.zero_le _, Nat.zero_le _⟩) ?_
  refine J_max E (jd dk_X7_turnsOf_0 35 rfl) ml_RX7_341 (Nat.le_of_ble_eq_true rfl) (by rw [hX]; exact ⟨Nat.zero_le _, Nat.zero_le _⟩) ?_
  refine J_istore_n (lv' := [(3, .int (jmx 0 (jmn 30 v3))), (0, .ref v0), (1, .int v1)]) E (jd dk_X7_turnsOf_0 36 rfl) rfl (by decide) rfl ?_
  refine J_aload_n E (jd dk_X7_turnsOf_0 37 rfl) rfl 1 rfl ?_
  obtain ⟨x1, e2, hf⟩ := jbind hf
  refine J_getr E (jd dk_X7_turnsOf_0 38 rfl) fl_RX7_52 e2 ?_
  refine J_iload_n E (jd dk_X7_turnsOf_0 39 rfl) rfl 2 rfl ?_
  obtain ⟨x3, e4, hf⟩ := jbind hf
  refine J_iald E (jd dk_X7_turnsOf_0 40 rfl) e4 ?_
  refine J_iconst (v := 1) E (jd dk_X7_turnsOf_0 41 rfl) rfl ?_
  refine J_icmp_ne (tgt := 74) E (jd dk_X7_turnsOf_0 42 rfl) (by decide) (fun c5 => ?_) (fun c5 => ?_)
  · replace hf := jif_f c5 hf
    refine J_iload_n E (jd dk_X7_turnsOf_0 47 rfl) rfl 0 rfl ?_
    cases hf
    exact J_iret E hr rfl (jd dk_X7_turnsOf_0 48 rfl) (Nat.le_refl _) (Nat.le_refl _) ⟨rfl, rfl⟩
  · replace hf := jif_t c5 hf
    refine J_iload_n E (jd dk_X7_turnsOf_0 43 rfl) rfl 0 rfl ?_
    refine J_iconst (v := 2) E (jd dk_X7_turnsOf_0 44 rfl) rfl ?_
    refine J_idiv E (jd dk_X7_turnsOf_0 45 rfl) (by decide) ?_
    refine J_goto (tgt := 75) E (jd dk_X7_turnsOf_0 46 rfl) (by decide) ?_
    cases hf
    exact J_iret E hr rfl (jd dk_X7_turnsOf_0 48 rfl) (Nat.le_refl _) (Nat.le_refl _) ⟨rfl, rfl⟩
set_option maxRecDepth 100000 in
set_option maxHeartbeats 4000000 in
theorem lk_X7_turnsOf {G : JG} {l : Launch} (hG : jG G) (htr : l.stackTraces = false) (N : Nat) {h : AH} {a0 : Nat} {a1 : Int32} {r : (Int32 × AH)} (hf : f_X7_turnsOf N h a0 a1 = some r) : jMet G l yX7_turnsOf cX7_turnsOf 4 (some .int) 3 0 0 [.ref a0, .int a1] h (jpi r) := by
  unfold f_X7_turnsOf at hf
  refine jMet_of hG htr (by decide) (Nat.le_of_ble_eq_true rfl) ?_
  intro X E hl9 hr hX _ _
  show JW G X (RX7, cX7_turnsOf, 4) h [(0, .ref a0), (1, .int a1)] [] 0 0 0 (jEnd G X (jpi r) 0 0)
  refine J_aload_n E (jd dk_X7_turnsOf_0 0 rfl) rfl 0 rfl ?_
  obtain ⟨x6, e7, hf⟩ := jbind hf
  refine J_getr E (jd dk_X7_turnsOf_0 1 rfl) fl_RX7_92 e7 ?_
  refine J_aload_n E (jd dk_X7_turnsOf_0 2 rfl) rfl 0 rfl ?_
  obtain ⟨x8, e9, hf⟩ := jbind hf
  refine J_getr E (jd dk_X7_turnsOf_0 3 rfl) fl_RX7_81 e9 ?_
  refine J_iload_n E (jd dk_X7_turnsOf_0 4 rfl) rfl 1 rfl ?_
  obtain ⟨x10, e11, hf⟩ := jbind hf
  refine J_iald E (jd dk_X7_turnsOf_0 5 rfl) e11 ?_
  obtain ⟨x12, e13, hf⟩ := jbind hf
  refine J_iald E (jd dk_X7_turnsOf_0 6 rfl) e13 ?_
  refine J_istore_n (lv' := [(2, .int x12), (0, .ref a0), (1, .int a1)]) E (jd dk_X7_turnsOf_0 7 rfl) rfl (by decide) rfl ?_
  refine J_iload_n E (jd dk_X7_turnsOf_0 8 rfl) rfl 0 rfl ?_
  refine J_aload_n E (jd dk_X7_turnsOf_0 9 rfl) rfl 1 rfl ?_
  obtain ⟨x14, e15, hf⟩ := jbind hf
  refine J_getr E (jd dk_X7_turnsOf_0 10 rfl) fl_RX7_72 e15 ?_
  refine J_iload_n E (jd dk_X7_turnsOf_0 11 rfl) rfl 2 rfl ?_
  obtain ⟨x16, e17, hf⟩ := jbind hf
  refine J_iald E (jd dk_X7_turnsOf_0 12 rfl) e17 ?_
  refine J_isub E (jd dk_X7_turnsOf_0 13 rfl) ?_
  refine J_istore_n (lv' := [(3, .int (x12 - x16)), (2, .int x12), (0, .ref a0), (1, .int a1)]) E (jd dk_X7_turnsOf_0 14 rfl) rfl (by decide) rfl ?_
  refine J_aload_n E (jd dk_X7_turnsOf_0 15 rfl) rfl 2 rfl ?_
  obtain ⟨x18, e19, hf⟩ := jbind hf
  refine J_getr E (jd dk_X7_turnsOf_0 16 rfl) fl_RX7_42 e19 ?_
  refine J_iconst (v := 3) E (jd dk_X7_turnsOf_0 17 rfl) rfl ?_
  obtain ⟨x20, e21, hf⟩ := jbind hf
  refine J_iald E (jd dk_X7_turnsOf_0 18 rfl) e21 ?_
  refine J_if_le (tgt := 47) E (jd dk_X7_turnsOf_0 19 rfl) (by decide) (fun c22 => ?_) (fun c22 => ?_)
  · replace hf := jif_t c22 hf
    refine J_sub [2, 3, 0] rfl ?_
    exact lk_X7_turnsOf_b47 E hX hr N hf
  · replace hf := jif_f c22 hf
    refine J_aload_n E (jd dk_X7_turnsOf_0 20 rfl) rfl 2 rfl ?_
    refine J_aload_n E (jd dk_X7_turnsOf_0 21 rfl) rfl 2 rfl ?_
    obtain ⟨x23, e24, hf⟩ := jbind hf
    refine J_getr E (jd dk_X7_turnsOf_0 22 rfl) fl_RX7_63 e24 ?_
    refine J_aload_n E (jd dk_X7_turnsOf_0 23 rfl) rfl 2 rfl ?_
    obtain ⟨x25, e26, hf⟩ := jbind hf
    refine J_getr E (jd dk_X7_turnsOf_0 24 rfl) fl_RX7_42 e26 ?_
    refine J_iconst (v := 3) E (jd dk_X7_turnsOf_0 25 rfl) rfl ?_
    obtain ⟨x27, e28, hf⟩ := jbind hf
    refine J_iald E (jd dk_X7_turnsOf_0 26 rfl) e28 ?_
    refine J_iload_n E (jd dk_X7_turnsOf_0 27 rfl) rfl 3 rfl ?_
    refine J_iload_n E (jd dk_X7_turnsOf_0 28 rfl) rfl 1 rfl ?_
    obtain ⟨u31, e32, hf⟩ := jbind hf
    obtain ⟨r29, e30, hf⟩ := jbind hf
    refine J_callV E (jd dk_X7_turnsOf_0 29 rfl) ml_RX7_337 cal_X7_ruleOf e32 rfl (lk_X7_ruleOf (jE_g E) (jE_tr E) N e30) rfl (Nat.le_of_ble_eq_true rfl) (jR_le hX (by decide) (by decide)) (jF0 hX) rfl ?_
    rintro _ _ ⟨rfl, rfl⟩
    refine J_istore_n (lv' := [(3, .int r29.1), (2, .int x12), (0, .ref a0), (1, .int a1)]) E (jd dk_X7_turnsOf_0 30 rfl) rfl (by decide) rfl ?_
    refine J_sub [2, 3, 0] rfl ?_
    exact lk_X7_turnsOf_b47 E hX hr N hf
def f_X7_goesOf_b66 (N : Nat) (v4 : Int32) (h : AH) : Option (Int32 × AH) :=
  some (jmx 0 (jmn 3 v4), h)
def f_X7_goesOf_b37 (N : Nat) (v0 : Nat) (v1 : Int32) (v3 : Int32) (w0 : Int32) (h : AH) : Option (Int32 × AH) :=
  (jgr 7 h v0 5).bind fun x1 =>
  (jal 0 h x1 4).bind fun x3 =>
  if x3 ≤ 0 then f_X7_goesOf_b66 N w0 h
  else (jgr 7 h v0 13).bind fun x6 =>
  (jgr 7 h v0 5).bind fun x8 =>
  (jal 0 h x8 4).bind fun x10 =>
  (jck 7 h v0).bind fun _ =>
  (f_X7_ruleOf N h v0 x6 x10 v1 v3).bind fun r12 =>
  f_X7_goesOf_b66 N r12.1 r12.2
def f_X7_goesOf_b36 (N : Nat) (v0 : Nat) (v1 : Int32) (v3 : Int32) (h : AH) : Option (Int32 × AH) :=
  f_X7_goesOf_b37 N v0 v1 v3 v3 h
def f_X7_goesOf_b19 (N : Nat) (v0 : Nat) (v1 : Int32) (w0 : Int32) (h : AH) : Option (Int32 × AH) :=
  if w0 = 0 then (jck 7 h v0).bind fun _ =>
  (f_X7_isFair N h v0 v1).bind fun r17 =>
  if r17.1 = 0 then f_X7_goesOf_b36 N v0 v1 w0 r17.2
  else f_X7_goesOf_b37 N v0 v1 w0 1 r17.2
  else f_X7_goesOf_b36 N v0 v1 w0 h
def f_X7_goesOf (N : Nat) (h : AH) (a0 : Nat) (a1 : Int32) (a2 : Int32) : Option (Int32 × AH) :=
  if a2 = 0 then (jgr 7 h a0 31).bind fun x23 =>
  (jgr 7 h a0 28).bind fun x25 =>
  (jal 0 h x25 a1).bind fun x27 =>
  (jal 0 h x23 x27).bind fun x29 =>
  f_X7_goesOf_b19 N a0 a1 x29 h
  else f_X7_goesOf_b19 N a0 a1 3 h
set_option maxRecDepth 100000 in
set_option maxHeartbeats 4000000 in
theorem lk_X7_goesOf_b66 {G : JG} {X : JX} (E : jE G X (RX7, cX7_goesOf, 5)) (hX : X.2.2.2.1 = jRm 3 0 0) (hr : X.2.2.2.2.2.2.2.2.1.sig.returnType = (some .int)) (N : Nat) {v4 : Int32} {h : AH}  {r : (Int32 × AH)} (hf : f_X7_goesOf_b66 N v4 h = some r) : JW G X (RX7, cX7_goesOf, 5) h [(4, .int v4)] [] 66 0 0 (jEnd G X (jpi r) 0 0) := by
  unfold f_X7_goesOf_b66 at hf
  refine J_iconst (v := 0) E (jd dk_X7_goesOf_0 38 rfl) rfl ?_
  refine J_iconst (v := 3) E (jd dk_X7_goesOf_0 39 rfl) rfl ?_
  refine J_iload E (jd dk_X7_goesOf_0 40 rfl) 0 rfl ?_
  refine J_min E (jd dk_X7_goesOf_0 41 rfl) ml_RX7_188 (Nat.le_of_ble_eq_true rfl) (by rw [hX]; exact ⟨Nat.zero_le _, Nat.zero_le _⟩) ?_
  refine J_max E (jd dk_X7_goesOf_0 42 rfl) ml_RX7_341 (Nat.le_of_ble_eq_true rfl) (by rw [hX]; exact ⟨Nat.zero_le _, Nat.zero_le _⟩) ?_
  cases hf
  exact J_iret E hr rfl (jd dk_X7_goesOf_0 43 rfl) (Nat.le_refl _) (Nat.le_refl _) ⟨rfl, rfl⟩
set_option maxRecDepth 100000 in
set_option maxHeartbeats 4000000 in
theorem lk_X7_goesOf_b37 {G : JG} {X : JX} (E : jE G X (RX7, cX7_goesOf, 5)) (hX : X.2.2.2.1 = jRm 3 0 0) (hr : X.2.2.2.2.2.2.2.2.1.sig.returnType = (some .int)) (N : Nat) {v0 : Nat} {v1 : Int32} {v3 : Int32} {w0 : Int32} {h : AH}  {r : (Int32 × AH)} (hf : f_X7_goesOf_b37 N v0 v1 v3 w0 h = some r) : JW G X (RX7, cX7_goesOf, 5) h [(0, .ref v0), (1, .int v1), (3, .int v3)] [.int w0] 37 0 0 (jEnd G X (jpi r) 0 0) := by
  unfold f_X7_goesOf_b37 at hf
  refine J_istore (lv' := [(4, .int w0), (0, .ref v0), (1, .int v1), (3, .int v3)]) E (jd dk_X7_goesOf_0 21 rfl) (by decide) rfl ?_
  refine J_aload_n E (jd dk_X7_goesOf_0 22 rfl) rfl 1 rfl ?_
  obtain ⟨x1, e2, hf⟩ := jbind hf
  refine J_getr E (jd dk_X7_goesOf_0 23 rfl) fl_RX7_42 e2 ?_
  refine J_iconst (v := 4) E (jd dk_X7_goesOf_0 24 rfl) rfl ?_
  obtain ⟨x3, e4, hf⟩ := jbind hf
  refine J_iald E (jd dk_X7_goesOf_0 25 rfl) e4 ?_
  refine J_if_le (tgt := 66) E (jd dk_X7_goesOf_0 26 rfl) (by decide) (fun c5 => ?_) (fun c5 => ?_)
  · replace hf := jif_t c5 hf
    refine J_sub [0] rfl ?_
    exact lk_X7_goesOf_b66 E hX hr N hf
  · replace hf := jif_f c5 hf
    refine J_aload_n E (jd dk_X7_goesOf_0 27 rfl) rfl 1 rfl ?_
    refine J_aload_n E (jd dk_X7_goesOf_0 28 rfl) rfl 1 rfl ?_
    obtain ⟨x6, e7, hf⟩ := jbind hf
    refine J_getr E (jd dk_X7_goesOf_0 29 rfl) fl_RX7_66 e7 ?_
    refine J_aload_n E (jd dk_X7_goesOf_0 30 rfl) rfl 1 rfl ?_
    obtain ⟨x8, e9, hf⟩ := jbind hf
    refine J_getr E (jd dk_X7_goesOf_0 31 rfl) fl_RX7_42 e9 ?_
    refine J_iconst (v := 4) E (jd dk_X7_goesOf_0 32 rfl) rfl ?_
    obtain ⟨x10, e11, hf⟩ := jbind hf
    refine J_iald E (jd dk_X7_goesOf_0 33 rfl) e11 ?_
    refine J_iload_n E (jd dk_X7_goesOf_0 34 rfl) rfl 2 rfl ?_
    refine J_iload_n E (jd dk_X7_goesOf_0 35 rfl) rfl 3 rfl ?_
    obtain ⟨u14, e15, hf⟩ := jbind hf
    obtain ⟨r12, e13, hf⟩ := jbind hf
    refine J_callV E (jd dk_X7_goesOf_0 36 rfl) ml_RX7_337 cal_X7_ruleOf e15 rfl (lk_X7_ruleOf (jE_g E) (jE_tr E) N e13) rfl (Nat.le_of_ble_eq_true rfl) (jR_le hX (by decide) (by decide)) (jF0 hX) rfl ?_
    rintro _ _ ⟨rfl, rfl⟩
    refine J_istore (lv' := [(4, .int r12.1), (0, .ref v0), (1, .int v1), (3, .int v3)]) E (jd dk_X7_goesOf_0 37 rfl) (by decide) rfl ?_
    refine J_sub [0] rfl ?_
    exact lk_X7_goesOf_b66 E hX hr N hf
set_option maxRecDepth 100000 in
set_option maxHeartbeats 4000000 in
theorem lk_X7_goesOf_b36 {G : JG} {X : JX} (E : jE G X (RX7, cX7_goesOf, 5)) (hX : X.2.2.2.1 = jRm 3 0 0) (hr : X.2.2.2.2.2.2.2.2.1.sig.returnType = (some .int)) (N : Nat) {v0 : Nat} {v1 : Int32} {v3 : Int32} {h : AH}  {r : (Int32 × AH)} (hf : f_X7_goesOf_b36 N v0 v1 v3 h = some r) : JW G X (RX7, cX7_goesOf, 5) h [(0, .ref v0), (1, .int v1), (3, .int v3)] [] 36 0 0 (jEnd G X (jpi r) 0 0) := by
  unfold f_X7_goesOf_b36 at hf
  refine J_iload_n E (jd dk_X7_goesOf_0 20 rfl) rfl 2 rfl ?_
  exact lk_X7_goesOf_b37 E hX hr N hf
set_option maxRecDepth 100000 in
set_option maxHeartbeats 4000000 in
theorem lk_X7_goesOf_b19 {G : JG} {X : JX} (E : jE G X (RX7, cX7_goesOf, 5)) (hX : X.2.2.2.1 = jRm 3 0 0) (hr : X.2.2.2.2.2.2.2.2.1.sig.returnType = (some .int)) (N : Nat) {v0 : Nat} {v1 : Int32} {w0 : Int32} {h : AH}  {r : (Int32 × AH)} (hf : f_X7_goesOf_b19 N v0 v1 w0 h = some r) : JW G X (RX7, cX7_goesOf, 5) h [(0, .ref v0), (1, .int v1)] [.int w0] 19 0 0 (jEnd G X (jpi r) 0 0) := by
  unfold f_X7_goesOf_b19 at hf
  refine J_istore_n (lv' := [(3, .int w0), (0, .ref v0), (1, .int v1)]) E (jd dk_X7_goesOf_0 11 rfl) rfl (by decide) rfl ?_
  refine J_iload_n E (jd dk_X7_goesOf_0 12 rfl) rfl 0 rfl ?_
  refine J_if_ne (tgt := 36) E (jd dk_X7_goesOf_0 13 rfl) (by decide) (fun c16 => ?_) (fun c16 => ?_)
  · replace hf := jif_f c16 hf
    refine J_sub [1, 2, 0] rfl ?_
    exact lk_X7_goesOf_b36 E hX hr N hf
  · replace hf := jif_t c16 hf
    refine J_aload_n E (jd dk_X7_goesOf_0 14 rfl) rfl 1 rfl ?_
    refine J_iload_n E (jd dk_X7_goesOf_0 15 rfl) rfl 2 rfl ?_
    obtain ⟨u19, e20, hf⟩ := jbind hf
    obtain ⟨r17, e18, hf⟩ := jbind hf
    refine J_callV E (jd dk_X7_goesOf_0 16 rfl) ml_RX7_324 cal_X7_isFair e20 rfl (lk_X7_isFair (jE_g E) (jE_tr E) N e18) rfl (Nat.le_of_ble_eq_true rfl) (jR_le hX (by decide) (by decide)) (jF0 hX) rfl ?_
    rintro _ _ ⟨rfl, rfl⟩
    refine J_if_eq (tgt := 36) E (jd dk_X7_goesOf_0 17 rfl) (by decide) (fun c21 => ?_) (fun c21 => ?_)
    · replace hf := jif_t c21 hf
      refine J_sub [1, 2, 0] rfl ?_
      exact lk_X7_goesOf_b36 E hX hr N hf
    · replace hf := jif_f c21 hf
      refine J_iconst (v := 1) E (jd dk_X7_goesOf_0 18 rfl) rfl ?_
      refine J_goto (tgt := 37) E (jd dk_X7_goesOf_0 19 rfl) (by decide) ?_
      refine J_sub [1, 2, 0] rfl ?_
      exact lk_X7_goesOf_b37 E hX hr N hf
set_option maxRecDepth 100000 in
set_option maxHeartbeats 4000000 in
theorem lk_X7_goesOf {G : JG} {l : Launch} (hG : jG G) (htr : l.stackTraces = false) (N : Nat) {h : AH} {a0 : Nat} {a1 : Int32} {a2 : Int32} {r : (Int32 × AH)} (hf : f_X7_goesOf N h a0 a1 a2 = some r) : jMet G l yX7_goesOf cX7_goesOf 5 (some .int) 3 0 0 [.ref a0, .int a1, .int a2] h (jpi r) := by
  unfold f_X7_goesOf at hf
  refine jMet_of hG htr (by decide) (Nat.le_of_ble_eq_true rfl) ?_
  intro X E hl9 hr hX _ _
  show JW G X (RX7, cX7_goesOf, 5) h [(0, .ref a0), (1, .int a1), (2, .int a2)] [] 0 0 0 (jEnd G X (jpi r) 0 0)
  refine J_iload_n E (jd dk_X7_goesOf_0 0 rfl) rfl 2 rfl ?_
  refine J_if_eq (tgt := 8) E (jd dk_X7_goesOf_0 1 rfl) (by decide) (fun c22 => ?_) (fun c22 => ?_)
  · replace hf := jif_t c22 hf
    refine J_aload_n E (jd dk_X7_goesOf_0 4 rfl) rfl 0 rfl ?_
    obtain ⟨x23, e24, hf⟩ := jbind hf
    refine J_getr E (jd dk_X7_goesOf_0 5 rfl) fl_RX7_90 e24 ?_
    refine J_aload_n E (jd dk_X7_goesOf_0 6 rfl) rfl 0 rfl ?_
    obtain ⟨x25, e26, hf⟩ := jbind hf
    refine J_getr E (jd dk_X7_goesOf_0 7 rfl) fl_RX7_81 e26 ?_
    refine J_iload_n E (jd dk_X7_goesOf_0 8 rfl) rfl 1 rfl ?_
    obtain ⟨x27, e28, hf⟩ := jbind hf
    refine J_iald E (jd dk_X7_goesOf_0 9 rfl) e28 ?_
    obtain ⟨x29, e30, hf⟩ := jbind hf
    refine J_iald E (jd dk_X7_goesOf_0 10 rfl) e30 ?_
    refine J_sub [0, 1] rfl ?_
    exact lk_X7_goesOf_b19 E hX hr N hf
  · replace hf := jif_f c22 hf
    refine J_iconst (v := 3) E (jd dk_X7_goesOf_0 2 rfl) rfl ?_
    refine J_goto (tgt := 19) E (jd dk_X7_goesOf_0 3 rfl) (by decide) ?_
    refine J_sub [0, 1] rfl ?_
    exact lk_X7_goesOf_b19 E hX hr N hf
def f_X7_goBy (N : Nat) (h : AH) (a0 : Nat) (a1 : Int32) (a2 : Int32) : Option AH :=
  (jgr 7 h a0 28).bind fun x1 =>
  (jal 0 h x1 a1).bind fun x3 =>
  (jas 0 h x1 a1 (x3 + a2)).bind fun h5 =>
  (jgr 7 h5 a0 28).bind fun x7 =>
  (jal 0 h5 x7 a1).bind fun x9 =>
  (jgr 7 h5 a0 5).bind fun x11 =>
  (jal 0 h5 x11 1).bind fun x13 =>
  if x13 ≤ x9 then (jgr 7 h5 a0 28).bind fun x16 =>
  (jas 0 h5 x16 a1 ((-2))).bind fun h18 =>
  (jgi 7 h18 a0 40).bind fun x20 =>
  (jwi 7 h18 a0 40 (x20 + 1)).bind fun h22 =>
  some h22
  else some h5
set_option maxRecDepth 100000 in
set_option maxHeartbeats 4000000 in
theorem lk_X7_goBy {G : JG} {l : Launch} (hG : jG G) (htr : l.stackTraces = false) (N : Nat) {h : AH} {a0 : Nat} {a1 : Int32} {a2 : Int32} {r : AH} (hf : f_X7_goBy N h a0 a1 a2 = some r) : jMet G l yX7_goBy cX7_goBy 3 none 0 0 0 [.ref a0, .int a1, .int a2] h (jpv r) := by
  unfold f_X7_goBy at hf
  refine jMet_of hG htr (by decide) (Nat.le_of_ble_eq_true rfl) ?_
  intro X E hl9 hr hX _ _
  show JW G X (RX7, cX7_goBy, 3) h [(0, .ref a0), (1, .int a1), (2, .int a2)] [] 0 0 0 (jEnd G X (jpv r) 0 0)
  refine J_aload_n E (jd dk_X7_goBy_0 0 rfl) rfl 0 rfl ?_
  obtain ⟨x1, e2, hf⟩ := jbind hf
  refine J_getr E (jd dk_X7_goBy_0 1 rfl) fl_RX7_81 e2 ?_
  refine J_iload_n E (jd dk_X7_goBy_0 2 rfl) rfl 1 rfl ?_
  refine J_dup2 E (jd dk_X7_goBy_0 3 rfl) rfl rfl ?_
  obtain ⟨x3, e4, hf⟩ := jbind hf
  refine J_iald E (jd dk_X7_goBy_0 4 rfl) e4 ?_
  refine J_iload_n E (jd dk_X7_goBy_0 5 rfl) rfl 2 rfl ?_
  refine J_iadd E (jd dk_X7_goBy_0 6 rfl) ?_
  obtain ⟨h5, e6, hf⟩ := jbind hf
  refine J_iast E (jd dk_X7_goBy_0 7 rfl) e6 ?_
  refine J_aload_n E (jd dk_X7_goBy_0 8 rfl) rfl 0 rfl ?_
  obtain ⟨x7, e8, hf⟩ := jbind hf
  refine J_getr E (jd dk_X7_goBy_0 9 rfl) fl_RX7_81 e8 ?_
  refine J_iload_n E (jd dk_X7_goBy_0 10 rfl) rfl 1 rfl ?_
  obtain ⟨x9, e10, hf⟩ := jbind hf
  refine J_iald E (jd dk_X7_goBy_0 11 rfl) e10 ?_
  refine J_aload_n E (jd dk_X7_goBy_0 12 rfl) rfl 0 rfl ?_
  obtain ⟨x11, e12, hf⟩ := jbind hf
  refine J_getr E (jd dk_X7_goBy_0 13 rfl) fl_RX7_42 e12 ?_
  refine J_iconst (v := 1) E (jd dk_X7_goBy_0 14 rfl) rfl ?_
  obtain ⟨x13, e14, hf⟩ := jbind hf
  refine J_iald E (jd dk_X7_goBy_0 15 rfl) e14 ?_
  refine J_icmp_ge (tgt := 26) E (jd dk_X7_goBy_0 16 rfl) (by decide) (fun c15 => ?_) (fun c15 => ?_)
  · replace hf := jif_t c15 hf
    refine J_aload_n E (jd dk_X7_goBy_0 18 rfl) rfl 0 rfl ?_
    obtain ⟨x16, e17, hf⟩ := jbind hf
    refine J_getr E (jd dk_X7_goBy_0 19 rfl) fl_RX7_81 e17 ?_
    refine J_iload_n E (jd dk_X7_goBy_0 20 rfl) rfl 1 rfl ?_
    refine J_bipush (v := (-2)) E (jd dk_X7_goBy_0 21 rfl) (by decide) ?_
    obtain ⟨h18, e19, hf⟩ := jbind hf
    refine J_iast E (jd dk_X7_goBy_0 22 rfl) e19 ?_
    refine J_aload_n E (jd dk_X7_goBy_0 23 rfl) rfl 0 rfl ?_
    refine J_dup E (jd dk_X7_goBy_0 24 rfl) rfl ?_
    obtain ⟨x20, e21, hf⟩ := jbind hf
    refine J_geti E (jd dk_X7_goBy_0 25 rfl) fl_RX7_344 e21 ?_
    refine J_iconst (v := 1) E (jd dk_X7_goBy_0 26 rfl) rfl ?_
    refine J_iadd E (jd dk_X7_goBy_0 27 rfl) ?_
    obtain ⟨h22, e23, hf⟩ := jbind hf
    refine J_put E (jd dk_X7_goBy_0 28 rfl) fl_RX7_344 e23 (fun _ => rfl) (fun _ => rfl) ?_
    cases hf
    exact J_vret E hr (jd dk_X7_goBy_0 29 rfl) (Nat.le_refl _) (Nat.le_refl _) ⟨rfl, rfl⟩
  · replace hf := jif_f c15 hf
    cases hf
    exact J_vret E hr (jd dk_X7_goBy_0 17 rfl) (Nat.le_refl _) (Nat.le_refl _) ⟨rfl, rfl⟩
def f_X7_aStepIn_b136 (N : Nat) (v0 : Nat) (v1 : Int32) (v2 : Int32) (h : AH) : Option ((Int32 × AH) ⊕ ((AH))) :=
  some (.inl ((v2 + 1, h)))
def f_X7_aStepIn_l49 (N : Nat) (v0 : Nat) (v1 : Int32) (v2 : Int32) (h : AH) : Option ((Int32 × AH) ⊕ ((AH))) :=
  (jgr 7 h v0 5).bind fun x1 =>
  (jal 0 h x1 2).bind fun x3 =>
  if x3 ≤ v2 then some (.inr h)
  else (jgr 7 h v0 28).bind fun x6 =>
  (jal 0 h x6 v2).bind fun x8 =>
  if 0 ≤ x8 then (jgr 7 h v0 30).bind fun x11 =>
  (jal 0 h x11 v2).bind fun x13 =>
  (jgr 7 h v0 29).bind fun x15 =>
  (jal 0 h x15 v2).bind fun x17 =>
  (jas 0 h x11 v2 (x13 ||| ((1 : Int32) <<< (x17 &&& 31)))).bind fun h19 =>
  (jck 7 h19 v0).bind fun _ =>
  (f_X7_turnsOf N h19 v0 v2).bind fun r21 =>
  (jgr 7 r21.2 v0 29).bind fun x25 =>
  (jgr 7 r21.2 v0 29).bind fun x27 =>
  (jal 0 r21.2 x27 v2).bind fun x29 =>
  (jgr 7 r21.2 v0 5).bind fun x31 =>
  (jal 0 r21.2 x31 0).bind fun x33 =>
  if x33 = 0 then none else
  (jas 0 r21.2 x25 v2 ((x29 + r21.1) - (x29 + r21.1) / x33 * x33)).bind fun h36 =>
  (jgr 7 h36 v0 39).bind fun x38 =>
  (jal 0 h36 x38 v2).bind fun x40 =>
  (jas 0 h36 x38 v2 (x40 + r21.1)).bind fun h42 =>
  (jck 7 h42 v0).bind fun _ =>
  (f_X7_goesOf N h42 v0 v2 v1).bind fun r44 =>
  (jck 7 r44.2 v0).bind fun _ =>
  (f_X7_goBy N r44.2 v0 v2 r44.1).bind fun r48 =>
  f_X7_aStepIn_b136 N v0 v1 v2 r48
  else f_X7_aStepIn_b136 N v0 v1 v2 h
def f_X7_aStepIn_b49 (N : Nat) (v0 : Nat) (v1 : Int32) (v2 : Int32) (h : AH) : Option AH :=
  (itr (fun s => f_X7_aStepIn_l49 N v0 v1 s.1 s.2) N (v2, h)).bind (fun e => (jgi 7 e v0 34).bind fun x52 =>
  (jwi 7 e v0 34 (x52 + 1)).bind fun h54 =>
  some h54)
def f_X7_aStepIn_b41 (N : Nat) (v0 : Nat) (v1 : Int32) (v2 : Int32) (h : AH) : Option ((Int32 × AH) ⊕ ((AH))) :=
  some (.inl ((v2 + 1, h)))
def f_X7_aStepIn_l2 (N : Nat) (v0 : Nat) (v1 : Int32) (v2 : Int32) (h : AH) : Option ((Int32 × AH) ⊕ ((AH))) :=
  (jgr 7 h v0 5).bind fun x56 =>
  (jal 0 h x56 2).bind fun x58 =>
  if x58 ≤ v2 then some (.inr h)
  else (jgr 7 h v0 28).bind fun x61 =>
  (jal 0 h x61 v2).bind fun x63 =>
  if x63 = ((-1)) then (jgr 7 h v0 11).bind fun x66 =>
  (jal 0 h x66 v2).bind fun x68 =>
  (jgi 7 h v0 34).bind fun x70 =>
  if x68 = x70 then (jck 7 h v0).bind fun _ =>
  (f_X7_goBy N h v0 v2 1).bind fun r73 =>
  f_X7_aStepIn_b41 N v0 v1 v2 r73
  else f_X7_aStepIn_b41 N v0 v1 v2 h
  else f_X7_aStepIn_b41 N v0 v1 v2 h
def f_X7_aStepIn_b2 (N : Nat) (v0 : Nat) (v1 : Int32) (v2 : Int32) (h : AH) : Option AH :=
  (itr (fun s => f_X7_aStepIn_l2 N v0 v1 s.1 s.2) N (v2, h)).bind (fun e => f_X7_aStepIn_b49 N v0 v1 0 e)
def f_X7_aStepIn (N : Nat) (h : AH) (a0 : Nat) (a1 : Int32) : Option AH :=
  f_X7_aStepIn_b2 N a0 a1 0 h
set_option maxRecDepth 100000 in
set_option maxHeartbeats 4000000 in
theorem lk_X7_aStepIn_b136 {G : JG} {X : JX} (E : jE G X (RX7, cX7_aStepIn, 4)) (hX : X.2.2.2.1 = jRm 4 0 0) (hr : X.2.2.2.2.2.2.2.2.1.sig.returnType = none) (N : Nat) {Q : State → Prop} {v0 : Nat} {v1 : Int32} {v2 : Int32} {h : AH}  {q : ((Int32 × AH) ⊕ ((AH)))} (hf : f_X7_aStepIn_b136 N v0 v1 v2 h = some q) (kb : ∀ s' : Int32 × AH, q = .inl s' → JW G X (RX7, cX7_aStepIn, 4) s'.2 [(0, .ref v0), (1, .int v1), (2, .int s'.1)] [] 49 0 0 Q) (ke0 : ∀ e : AH, q = .inr e → JW G X (RX7, cX7_aStepIn, 4) e [(0, .ref v0)] [] 142 0 0 Q) : JW G X (RX7, cX7_aStepIn, 4) h [(0, .ref v0), (1, .int v1), (2, .int v2)] [] 136 0 0 Q := by
  unfold f_X7_aStepIn_b136 at hf
  refine J_iinc (v := v2 + 1) (lv' := [(2, .int (v2 + 1)), (0, .ref v0), (1, .int v1)]) E (jd dk_X7_aStepIn_1 38 rfl) 2 rfl rfl (by decide) rfl ?_
  refine J_goto (tgt := 49) E (jd dk_X7_aStepIn_1 39 rfl) (by decide) ?_
  refine J_sub [1, 2, 0] rfl ?_
  exact kb _ (Option.some.inj hf).symm
set_option maxRecDepth 100000 in
set_option maxHeartbeats 4000000 in
theorem lk_X7_aStepIn_l49 {G : JG} {X : JX} (E : jE G X (RX7, cX7_aStepIn, 4)) (hX : X.2.2.2.1 = jRm 4 0 0) (hr : X.2.2.2.2.2.2.2.2.1.sig.returnType = none) (N : Nat) {Q : State → Prop} {v0 : Nat} {v1 : Int32} {v2 : Int32}  {h : AH} {q : ((Int32 × AH) ⊕ ((AH)))} (hf : f_X7_aStepIn_l49 N v0 v1 v2 h = some q) (kb : ∀ s' : Int32 × AH, q = .inl s' → JW G X (RX7, cX7_aStepIn, 4) s'.2 [(0, .ref v0), (1, .int v1), (2, .int s'.1)] [] 49 0 0 Q) (ke0 : ∀ e : AH, q = .inr e → JW G X (RX7, cX7_aStepIn, 4) e [(0, .ref v0)] [] 142 0 0 Q) : JW G X (RX7, cX7_aStepIn, 4) h [(0, .ref v0), (1, .int v1), (2, .int v2)] [] 49 0 0 Q := by
  unfold f_X7_aStepIn_l49 at hf
  refine J_iload_n E (jd dk_X7_aStepIn_0 29 rfl) rfl 2 rfl ?_
  refine J_aload_n E (jd dk_X7_aStepIn_0 30 rfl) rfl 0 rfl ?_
  obtain ⟨x1, e2, hf⟩ := jbind hf
  refine J_getr E (jd dk_X7_aStepIn_0 31 rfl) fl_RX7_42 e2 ?_
  refine J_iconst (v := 2) E (jd dk_X7_aStepIn_0 32 rfl) rfl ?_
  obtain ⟨x3, e4, hf⟩ := jbind hf
  refine J_iald E (jd dk_X7_aStepIn_0 33 rfl) e4 ?_
  refine J_icmp_ge (tgt := 142) E (jd dk_X7_aStepIn_0 34 rfl) (by decide) (fun c5 => ?_) (fun c5 => ?_)
  · replace hf := jif_t c5 hf
    refine J_sub [0] rfl ?_
    exact ke0 _ (Option.some.inj hf).symm
  · replace hf := jif_f c5 hf
    refine J_aload_n E (jd dk_X7_aStepIn_0 35 rfl) rfl 0 rfl ?_
    obtain ⟨x6, e7, hf⟩ := jbind hf
    refine J_getr E (jd dk_X7_aStepIn_0 36 rfl) fl_RX7_81 e7 ?_
    refine J_iload_n E (jd dk_X7_aStepIn_0 37 rfl) rfl 2 rfl ?_
    obtain ⟨x8, e9, hf⟩ := jbind hf
    refine J_iald E (jd dk_X7_aStepIn_0 38 rfl) e9 ?_
    refine J_if_ge (tgt := 71) E (jd dk_X7_aStepIn_0 39 rfl) (by decide) (fun c10 => ?_) (fun c10 => ?_)
    · replace hf := jif_t c10 hf
      refine J_aload_n E (jd dk_X7_aStepIn_0 41 rfl) rfl 0 rfl ?_
      obtain ⟨x11, e12, hf⟩ := jbind hf
      refine J_getr E (jd dk_X7_aStepIn_0 42 rfl) fl_RX7_87 e12 ?_
      refine J_iload_n E (jd dk_X7_aStepIn_0 43 rfl) rfl 2 rfl ?_
      refine J_dup2 E (jd dk_X7_aStepIn_0 44 rfl) rfl rfl ?_
      obtain ⟨x13, e14, hf⟩ := jbind hf
      refine J_iald E (jd dk_X7_aStepIn_0 45 rfl) e14 ?_
      refine J_iconst (v := 1) E (jd dk_X7_aStepIn_0 46 rfl) rfl ?_
      refine J_aload_n E (jd dk_X7_aStepIn_0 47 rfl) rfl 0 rfl ?_
      obtain ⟨x15, e16, hf⟩ := jbind hf
      refine J_getr E (jd dk_X7_aStepIn_0 48 rfl) fl_RX7_84 e16 ?_
      refine J_iload_n E (jd dk_X7_aStepIn_0 49 rfl) rfl 2 rfl ?_
      obtain ⟨x17, e18, hf⟩ := jbind hf
      refine J_iald E (jd dk_X7_aStepIn_1 0 rfl) e18 ?_
      refine J_ishl E (jd dk_X7_aStepIn_1 1 rfl) ?_
      refine J_ior E (jd dk_X7_aStepIn_1 2 rfl) ?_
      obtain ⟨h19, e20, hf⟩ := jbind hf
      refine J_iast E (jd dk_X7_aStepIn_1 3 rfl) e20 ?_
      refine J_aload_n E (jd dk_X7_aStepIn_1 4 rfl) rfl 0 rfl ?_
      refine J_iload_n E (jd dk_X7_aStepIn_1 5 rfl) rfl 2 rfl ?_
      obtain ⟨u23, e24, hf⟩ := jbind hf
      obtain ⟨r21, e22, hf⟩ := jbind hf
      refine J_callV E (jd dk_X7_aStepIn_1 6 rfl) ml_RX7_351 cal_X7_turnsOf e24 rfl (lk_X7_turnsOf (jE_g E) (jE_tr E) N e22) rfl (Nat.le_of_ble_eq_true rfl) (jR_le hX (by decide) (by decide)) (jF0 hX) rfl ?_
      rintro _ _ ⟨rfl, rfl⟩
      refine J_istore_n (lv' := [(3, .int r21.1), (0, .ref v0), (1, .int v1), (2, .int v2)]) E (jd dk_X7_aStepIn_1 7 rfl) rfl (by decide) rfl ?_
      refine J_aload_n E (jd dk_X7_aStepIn_1 8 rfl) rfl 1 rfl ?_
      obtain ⟨x25, e26, hf⟩ := jbind hf
      refine J_getr E (jd dk_X7_aStepIn_1 9 rfl) fl_RX7_84 e26 ?_
      refine J_iload_n E (jd dk_X7_aStepIn_1 10 rfl) rfl 3 rfl ?_
      refine J_aload_n E (jd dk_X7_aStepIn_1 11 rfl) rfl 1 rfl ?_
      obtain ⟨x27, e28, hf⟩ := jbind hf
      refine J_getr E (jd dk_X7_aStepIn_1 12 rfl) fl_RX7_84 e28 ?_
      refine J_iload_n E (jd dk_X7_aStepIn_1 13 rfl) rfl 3 rfl ?_
      obtain ⟨x29, e30, hf⟩ := jbind hf
      refine J_iald E (jd dk_X7_aStepIn_1 14 rfl) e30 ?_
      refine J_iload_n E (jd dk_X7_aStepIn_1 15 rfl) rfl 0 rfl ?_
      refine J_iadd E (jd dk_X7_aStepIn_1 16 rfl) ?_
      refine J_aload_n E (jd dk_X7_aStepIn_1 17 rfl) rfl 1 rfl ?_
      obtain ⟨x31, e32, hf⟩ := jbind hf
      refine J_getr E (jd dk_X7_aStepIn_1 18 rfl) fl_RX7_42 e32 ?_
      refine J_iconst (v := 0) E (jd dk_X7_aStepIn_1 19 rfl) rfl ?_
      obtain ⟨x33, e34, hf⟩ := jbind hf
      refine J_iald E (jd dk_X7_aStepIn_1 20 rfl) e34 ?_
      obtain ⟨z35, hf⟩ := jnz hf
      refine J_irem E (jd dk_X7_aStepIn_1 21 rfl) z35 ?_
      obtain ⟨h36, e37, hf⟩ := jbind hf
      refine J_iast E (jd dk_X7_aStepIn_1 22 rfl) e37 ?_
      refine J_aload_n E (jd dk_X7_aStepIn_1 23 rfl) rfl 1 rfl ?_
      obtain ⟨x38, e39, hf⟩ := jbind hf
      refine J_getr E (jd dk_X7_aStepIn_1 24 rfl) fl_RX7_103 e39 ?_
      refine J_iload_n E (jd dk_X7_aStepIn_1 25 rfl) rfl 3 rfl ?_
      refine J_dup2 E (jd dk_X7_aStepIn_1 26 rfl) rfl rfl ?_
      obtain ⟨x40, e41, hf⟩ := jbind hf
      refine J_iald E (jd dk_X7_aStepIn_1 27 rfl) e41 ?_
      refine J_iload_n E (jd dk_X7_aStepIn_1 28 rfl) rfl 0 rfl ?_
      refine J_iadd E (jd dk_X7_aStepIn_1 29 rfl) ?_
      obtain ⟨h42, e43, hf⟩ := jbind hf
      refine J_iast E (jd dk_X7_aStepIn_1 30 rfl) e43 ?_
      refine J_aload_n E (jd dk_X7_aStepIn_1 31 rfl) rfl 1 rfl ?_
      refine J_iload_n E (jd dk_X7_aStepIn_1 32 rfl) rfl 3 rfl ?_
      refine J_aload_n E (jd dk_X7_aStepIn_1 33 rfl) rfl 1 rfl ?_
      refine J_iload_n E (jd dk_X7_aStepIn_1 34 rfl) rfl 3 rfl ?_
      refine J_iload_n E (jd dk_X7_aStepIn_1 35 rfl) rfl 2 rfl ?_
      obtain ⟨u46, e47, hf⟩ := jbind hf
      obtain ⟨r44, e45, hf⟩ := jbind hf
      refine J_callV E (jd dk_X7_aStepIn_1 36 rfl) ml_RX7_354 cal_X7_goesOf e47 rfl (lk_X7_goesOf (jE_g E) (jE_tr E) N e45) rfl (Nat.le_of_ble_eq_true rfl) (jR_le hX (by decide) (by decide)) (jF0 hX) rfl ?_
      rintro _ _ ⟨rfl, rfl⟩
      obtain ⟨u50, e51, hf⟩ := jbind hf
      obtain ⟨r48, e49, hf⟩ := jbind hf
      refine J_callV E (jd dk_X7_aStepIn_1 37 rfl) ml_RX7_347 cal_X7_goBy e51 rfl (lk_X7_goBy (jE_g E) (jE_tr E) N e49) rfl (Nat.le_of_ble_eq_true rfl) (jR_le hX (by decide) (by decide)) (jF0 hX) rfl ?_
      rintro _ _ ⟨rfl, rfl⟩
      refine J_sub [1, 2, 3] rfl ?_
      exact lk_X7_aStepIn_b136 E hX hr N hf kb ke0
    · replace hf := jif_f c10 hf
      refine J_goto (tgt := 136) E (jd dk_X7_aStepIn_0 40 rfl) (by decide) ?_
      exact lk_X7_aStepIn_b136 E hX hr N hf kb ke0
set_option maxRecDepth 100000 in
set_option maxHeartbeats 4000000 in
theorem lk_X7_aStepIn_b49 {G : JG} {X : JX} (E : jE G X (RX7, cX7_aStepIn, 4)) (hX : X.2.2.2.1 = jRm 4 0 0) (hr : X.2.2.2.2.2.2.2.2.1.sig.returnType = none) (N : Nat) {v0 : Nat} {v1 : Int32} {v2 : Int32} {h : AH}  {r : AH} (hf : f_X7_aStepIn_b49 N v0 v1 v2 h = some r) : JW G X (RX7, cX7_aStepIn, 4) h [(0, .ref v0), (1, .int v1), (2, .int v2)] [] 49 0 0 (jEnd G X (jpv r) 0 0) := by
  unfold f_X7_aStepIn_b49 at hf
  obtain ⟨q1, h1, hf⟩ := jbind hf
  refine jloop (P := fun s => JW G X (RX7, cX7_aStepIn, 4) s.2 [(0, .ref v0), (1, .int v1), (2, .int s.1)] [] 49 0 0 (jEnd G X (jpv r) 0 0)) (Ex := fun (e : AH) => JW G X (RX7, cX7_aStepIn, 4) e [(0, .ref v0)] [] 142 0 0 (jEnd G X (jpv r) 0 0)) (fun s q hs hb hx => lk_X7_aStepIn_l49 E hX hr N hs (fun s' hs => hb s' hs) (fun e he => hx e he)) N _ q1 h1 ?_
  generalize q1 = e at hf ⊢
  refine J_aload_n E (jd dk_X7_aStepIn_1 40 rfl) rfl 0 rfl ?_
  refine J_dup E (jd dk_X7_aStepIn_1 41 rfl) rfl ?_
  obtain ⟨x52, e53, hf⟩ := jbind hf
  refine J_geti E (jd dk_X7_aStepIn_1 42 rfl) fl_RX7_306 e53 ?_
  refine J_iconst (v := 1) E (jd dk_X7_aStepIn_1 43 rfl) rfl ?_
  refine J_iadd E (jd dk_X7_aStepIn_1 44 rfl) ?_
  obtain ⟨h54, e55, hf⟩ := jbind hf
  refine J_put E (jd dk_X7_aStepIn_1 45 rfl) fl_RX7_306 e55 (fun _ => rfl) (fun _ => rfl) ?_
  cases hf
  exact J_vret E hr (jd dk_X7_aStepIn_1 46 rfl) (Nat.le_refl _) (Nat.le_refl _) ⟨rfl, rfl⟩
set_option maxRecDepth 100000 in
set_option maxHeartbeats 4000000 in
theorem lk_X7_aStepIn_b41 {G : JG} {X : JX} (E : jE G X (RX7, cX7_aStepIn, 4)) (hX : X.2.2.2.1 = jRm 4 0 0) (hr : X.2.2.2.2.2.2.2.2.1.sig.returnType = none) (N : Nat) {Q : State → Prop} {v0 : Nat} {v1 : Int32} {v2 : Int32} {h : AH}  {q : ((Int32 × AH) ⊕ ((AH)))} (hf : f_X7_aStepIn_b41 N v0 v1 v2 h = some q) (kb : ∀ s' : Int32 × AH, q = .inl s' → JW G X (RX7, cX7_aStepIn, 4) s'.2 [(0, .ref v0), (1, .int v1), (2, .int s'.1)] [] 2 0 0 Q) (ke0 : ∀ e : AH, q = .inr e → JW G X (RX7, cX7_aStepIn, 4) e [(0, .ref v0), (1, .int v1)] [] 47 0 0 Q) : JW G X (RX7, cX7_aStepIn, 4) h [(0, .ref v0), (1, .int v1), (2, .int v2)] [] 41 0 0 Q := by
  unfold f_X7_aStepIn_b41 at hf
  refine J_iinc (v := v2 + 1) (lv' := [(2, .int (v2 + 1)), (0, .ref v0), (1, .int v1)]) E (jd dk_X7_aStepIn_0 25 rfl) 2 rfl rfl (by decide) rfl ?_
  refine J_goto (tgt := 2) E (jd dk_X7_aStepIn_0 26 rfl) (by decide) ?_
  refine J_sub [1, 2, 0] rfl ?_
  exact kb _ (Option.some.inj hf).symm
set_option maxRecDepth 100000 in
set_option maxHeartbeats 4000000 in
theorem lk_X7_aStepIn_l2 {G : JG} {X : JX} (E : jE G X (RX7, cX7_aStepIn, 4)) (hX : X.2.2.2.1 = jRm 4 0 0) (hr : X.2.2.2.2.2.2.2.2.1.sig.returnType = none) (N : Nat) {Q : State → Prop} {v0 : Nat} {v1 : Int32} {v2 : Int32}  {h : AH} {q : ((Int32 × AH) ⊕ ((AH)))} (hf : f_X7_aStepIn_l2 N v0 v1 v2 h = some q) (kb : ∀ s' : Int32 × AH, q = .inl s' → JW G X (RX7, cX7_aStepIn, 4) s'.2 [(0, .ref v0), (1, .int v1), (2, .int s'.1)] [] 2 0 0 Q) (ke0 : ∀ e : AH, q = .inr e → JW G X (RX7, cX7_aStepIn, 4) e [(0, .ref v0), (1, .int v1)] [] 47 0 0 Q) : JW G X (RX7, cX7_aStepIn, 4) h [(0, .ref v0), (1, .int v1), (2, .int v2)] [] 2 0 0 Q := by
  unfold f_X7_aStepIn_l2 at hf
  refine J_iload_n E (jd dk_X7_aStepIn_0 2 rfl) rfl 2 rfl ?_
  refine J_aload_n E (jd dk_X7_aStepIn_0 3 rfl) rfl 0 rfl ?_
  obtain ⟨x56, e57, hf⟩ := jbind hf
  refine J_getr E (jd dk_X7_aStepIn_0 4 rfl) fl_RX7_42 e57 ?_
  refine J_iconst (v := 2) E (jd dk_X7_aStepIn_0 5 rfl) rfl ?_
  obtain ⟨x58, e59, hf⟩ := jbind hf
  refine J_iald E (jd dk_X7_aStepIn_0 6 rfl) e59 ?_
  refine J_icmp_ge (tgt := 47) E (jd dk_X7_aStepIn_0 7 rfl) (by decide) (fun c60 => ?_) (fun c60 => ?_)
  · replace hf := jif_t c60 hf
    refine J_sub [0, 1] rfl ?_
    exact ke0 _ (Option.some.inj hf).symm
  · replace hf := jif_f c60 hf
    refine J_aload_n E (jd dk_X7_aStepIn_0 8 rfl) rfl 0 rfl ?_
    obtain ⟨x61, e62, hf⟩ := jbind hf
    refine J_getr E (jd dk_X7_aStepIn_0 9 rfl) fl_RX7_81 e62 ?_
    refine J_iload_n E (jd dk_X7_aStepIn_0 10 rfl) rfl 2 rfl ?_
    obtain ⟨x63, e64, hf⟩ := jbind hf
    refine J_iald E (jd dk_X7_aStepIn_0 11 rfl) e64 ?_
    refine J_iconst (v := (-1)) E (jd dk_X7_aStepIn_0 12 rfl) rfl ?_
    refine J_icmp_ne (tgt := 41) E (jd dk_X7_aStepIn_0 13 rfl) (by decide) (fun c65 => ?_) (fun c65 => ?_)
    · replace hf := jif_f c65 hf
      exact lk_X7_aStepIn_b41 E hX hr N hf kb ke0
    · replace hf := jif_t c65 hf
      refine J_aload_n E (jd dk_X7_aStepIn_0 14 rfl) rfl 0 rfl ?_
      obtain ⟨x66, e67, hf⟩ := jbind hf
      refine J_getr E (jd dk_X7_aStepIn_0 15 rfl) fl_RX7_60 e67 ?_
      refine J_iload_n E (jd dk_X7_aStepIn_0 16 rfl) rfl 2 rfl ?_
      obtain ⟨x68, e69, hf⟩ := jbind hf
      refine J_iald E (jd dk_X7_aStepIn_0 17 rfl) e69 ?_
      refine J_aload_n E (jd dk_X7_aStepIn_0 18 rfl) rfl 0 rfl ?_
      obtain ⟨x70, e71, hf⟩ := jbind hf
      refine J_geti E (jd dk_X7_aStepIn_0 19 rfl) fl_RX7_306 e71 ?_
      refine J_icmp_ne (tgt := 41) E (jd dk_X7_aStepIn_0 20 rfl) (by decide) (fun c72 => ?_) (fun c72 => ?_)
      · replace hf := jif_f c72 hf
        exact lk_X7_aStepIn_b41 E hX hr N hf kb ke0
      · replace hf := jif_t c72 hf
        refine J_aload_n E (jd dk_X7_aStepIn_0 21 rfl) rfl 0 rfl ?_
        refine J_iload_n E (jd dk_X7_aStepIn_0 22 rfl) rfl 2 rfl ?_
        refine J_iconst (v := 1) E (jd dk_X7_aStepIn_0 23 rfl) rfl ?_
        obtain ⟨u75, e76, hf⟩ := jbind hf
        obtain ⟨r73, e74, hf⟩ := jbind hf
        refine J_callV E (jd dk_X7_aStepIn_0 24 rfl) ml_RX7_347 cal_X7_goBy e76 rfl (lk_X7_goBy (jE_g E) (jE_tr E) N e74) rfl (Nat.le_of_ble_eq_true rfl) (jR_le hX (by decide) (by decide)) (jF0 hX) rfl ?_
        rintro _ _ ⟨rfl, rfl⟩
        exact lk_X7_aStepIn_b41 E hX hr N hf kb ke0
set_option maxRecDepth 100000 in
set_option maxHeartbeats 4000000 in
theorem lk_X7_aStepIn_b2 {G : JG} {X : JX} (E : jE G X (RX7, cX7_aStepIn, 4)) (hX : X.2.2.2.1 = jRm 4 0 0) (hr : X.2.2.2.2.2.2.2.2.1.sig.returnType = none) (N : Nat) {v0 : Nat} {v1 : Int32} {v2 : Int32} {h : AH}  {r : AH} (hf : f_X7_aStepIn_b2 N v0 v1 v2 h = some r) : JW G X (RX7, cX7_aStepIn, 4) h [(0, .ref v0), (1, .int v1), (2, .int v2)] [] 2 0 0 (jEnd G X (jpv r) 0 0) := by
  unfold f_X7_aStepIn_b2 at hf
  obtain ⟨q1, h1, hf⟩ := jbind hf
  refine jloop (P := fun s => JW G X (RX7, cX7_aStepIn, 4) s.2 [(0, .ref v0), (1, .int v1), (2, .int s.1)] [] 2 0 0 (jEnd G X (jpv r) 0 0)) (Ex := fun (e : AH) => JW G X (RX7, cX7_aStepIn, 4) e [(0, .ref v0), (1, .int v1)] [] 47 0 0 (jEnd G X (jpv r) 0 0)) (fun s q hs hb hx => lk_X7_aStepIn_l2 E hX hr N hs (fun s' hs => hb s' hs) (fun e he => hx e he)) N _ q1 h1 ?_
  generalize q1 = e at hf ⊢
  refine J_iconst (v := 0) E (jd dk_X7_aStepIn_0 27 rfl) rfl ?_
  refine J_istore_n (lv' := [(2, .int 0), (0, .ref v0), (1, .int v1)]) E (jd dk_X7_aStepIn_0 28 rfl) rfl (by decide) rfl ?_
  refine J_sub [1, 2, 0] rfl ?_
  exact lk_X7_aStepIn_b49 E hX hr N hf
set_option maxRecDepth 100000 in
set_option maxHeartbeats 4000000 in
theorem lk_X7_aStepIn {G : JG} {l : Launch} (hG : jG G) (htr : l.stackTraces = false) (N : Nat) {h : AH} {a0 : Nat} {a1 : Int32} {r : AH} (hf : f_X7_aStepIn N h a0 a1 = some r) : jMet G l yX7_aStepIn cX7_aStepIn 4 none 4 0 0 [.ref a0, .int a1] h (jpv r) := by
  unfold f_X7_aStepIn at hf
  refine jMet_of hG htr (by decide) (Nat.le_of_ble_eq_true rfl) ?_
  intro X E hl9 hr hX _ _
  show JW G X (RX7, cX7_aStepIn, 4) h [(0, .ref a0), (1, .int a1)] [] 0 0 0 (jEnd G X (jpv r) 0 0)
  refine J_iconst (v := 0) E (jd dk_X7_aStepIn_0 0 rfl) rfl ?_
  refine J_istore_n (lv' := [(2, .int 0), (0, .ref a0), (1, .int a1)]) E (jd dk_X7_aStepIn_0 1 rfl) rfl (by decide) rfl ?_
  refine J_sub [1, 2, 0] rfl ?_
  exact lk_X7_aStepIn_b2 E hX hr N hf
def f_X7_goOn_l2 (N : Nat) (v0 : Nat) (v1 : Int32) (v2 : Int32) (h : AH) : Option ((Int32 × AH) ⊕ ((AH))) :=
  if v1 ≤ v2 then some (.inr h)
  else (jck 7 h v0).bind fun _ =>
  (f_X7_aStepIn N h v0 0).bind fun r2 =>
  some (.inl ((v2 + 1, r2)))
def f_X7_goOn_b2 (N : Nat) (v0 : Nat) (v1 : Int32) (v2 : Int32) (h : AH) : Option AH :=
  (itr (fun s => f_X7_goOn_l2 N v0 v1 s.1 s.2) N (v2, h)).bind (fun e => some e)
def f_X7_goOn (N : Nat) (h : AH) (a0 : Nat) (a1 : Int32) : Option AH :=
  f_X7_goOn_b2 N a0 a1 0 h
set_option maxRecDepth 100000 in
set_option maxHeartbeats 4000000 in
theorem lk_X7_goOn_l2 {G : JG} {X : JX} (E : jE G X (RX7, cX7_goOn, 3)) (hX : X.2.2.2.1 = jRm 5 0 0) (hr : X.2.2.2.2.2.2.2.2.1.sig.returnType = none) (N : Nat) {Q : State → Prop} {v0 : Nat} {v1 : Int32} {v2 : Int32}  {h : AH} {q : ((Int32 × AH) ⊕ ((AH)))} (hf : f_X7_goOn_l2 N v0 v1 v2 h = some q) (kb : ∀ s' : Int32 × AH, q = .inl s' → JW G X (RX7, cX7_goOn, 3) s'.2 [(0, .ref v0), (1, .int v1), (2, .int s'.1)] [] 2 0 0 Q) (ke0 : ∀ e : AH, q = .inr e → JW G X (RX7, cX7_goOn, 3) e [] [] 18 0 0 Q) : JW G X (RX7, cX7_goOn, 3) h [(0, .ref v0), (1, .int v1), (2, .int v2)] [] 2 0 0 Q := by
  unfold f_X7_goOn_l2 at hf
  refine J_iload_n E (jd dk_X7_goOn_0 2 rfl) rfl 2 rfl ?_
  refine J_iload_n E (jd dk_X7_goOn_0 3 rfl) rfl 1 rfl ?_
  refine J_icmp_ge (tgt := 18) E (jd dk_X7_goOn_0 4 rfl) (by decide) (fun c1 => ?_) (fun c1 => ?_)
  · replace hf := jif_t c1 hf
    refine J_sub [] rfl ?_
    exact ke0 _ (Option.some.inj hf).symm
  · replace hf := jif_f c1 hf
    refine J_aload_n E (jd dk_X7_goOn_0 5 rfl) rfl 0 rfl ?_
    refine J_iconst (v := 0) E (jd dk_X7_goOn_0 6 rfl) rfl ?_
    obtain ⟨u4, e5, hf⟩ := jbind hf
    obtain ⟨r2, e3, hf⟩ := jbind hf
    refine J_callV E (jd dk_X7_goOn_0 7 rfl) ml_RX7_358 cal_X7_aStepIn e5 rfl (lk_X7_aStepIn (jE_g E) (jE_tr E) N e3) rfl (Nat.le_of_ble_eq_true rfl) (jR_le hX (by decide) (by decide)) (jF0 hX) rfl ?_
    rintro _ _ ⟨rfl, rfl⟩
    refine J_iinc (v := v2 + 1) (lv' := [(2, .int (v2 + 1)), (0, .ref v0), (1, .int v1)]) E (jd dk_X7_goOn_0 8 rfl) 2 rfl rfl (by decide) rfl ?_
    refine J_goto (tgt := 2) E (jd dk_X7_goOn_0 9 rfl) (by decide) ?_
    refine J_sub [1, 2, 0] rfl ?_
    exact kb _ (Option.some.inj hf).symm
set_option maxRecDepth 100000 in
set_option maxHeartbeats 4000000 in
theorem lk_X7_goOn_b2 {G : JG} {X : JX} (E : jE G X (RX7, cX7_goOn, 3)) (hX : X.2.2.2.1 = jRm 5 0 0) (hr : X.2.2.2.2.2.2.2.2.1.sig.returnType = none) (N : Nat) {v0 : Nat} {v1 : Int32} {v2 : Int32} {h : AH}  {r : AH} (hf : f_X7_goOn_b2 N v0 v1 v2 h = some r) : JW G X (RX7, cX7_goOn, 3) h [(0, .ref v0), (1, .int v1), (2, .int v2)] [] 2 0 0 (jEnd G X (jpv r) 0 0) := by
  unfold f_X7_goOn_b2 at hf
  obtain ⟨q1, h1, hf⟩ := jbind hf
  refine jloop (P := fun s => JW G X (RX7, cX7_goOn, 3) s.2 [(0, .ref v0), (1, .int v1), (2, .int s.1)] [] 2 0 0 (jEnd G X (jpv r) 0 0)) (Ex := fun (e : AH) => JW G X (RX7, cX7_goOn, 3) e [] [] 18 0 0 (jEnd G X (jpv r) 0 0)) (fun s q hs hb hx => lk_X7_goOn_l2 E hX hr N hs (fun s' hs => hb s' hs) (fun e he => hx e he)) N _ q1 h1 ?_
  generalize q1 = e at hf ⊢
  cases hf
  exact J_vret E hr (jd dk_X7_goOn_0 10 rfl) (Nat.le_refl _) (Nat.le_refl _) ⟨rfl, rfl⟩
set_option maxRecDepth 100000 in
set_option maxHeartbeats 4000000 in
theorem lk_X7_goOn {G : JG} {l : Launch} (hG : jG G) (htr : l.stackTraces = false) (N : Nat) {h : AH} {a0 : Nat} {a1 : Int32} {r : AH} (hf : f_X7_goOn N h a0 a1 = some r) : jMet G l yX7_goOn cX7_goOn 3 none 5 0 0 [.ref a0, .int a1] h (jpv r) := by
  unfold f_X7_goOn at hf
  refine jMet_of hG htr (by decide) (Nat.le_of_ble_eq_true rfl) ?_
  intro X E hl9 hr hX _ _
  show JW G X (RX7, cX7_goOn, 3) h [(0, .ref a0), (1, .int a1)] [] 0 0 0 (jEnd G X (jpv r) 0 0)
  refine J_iconst (v := 0) E (jd dk_X7_goOn_0 0 rfl) rfl ?_
  refine J_istore_n (lv' := [(2, .int 0), (0, .ref a0), (1, .int a1)]) E (jd dk_X7_goOn_0 1 rfl) rfl (by decide) rfl ?_
  refine J_sub [1, 2, 0] rfl ?_
  exact lk_X7_goOn_b2 E hX hr N hf
def f_X7_beginAnew_l2 (N : Nat) (v0 : Nat) (v1 : Int32) (h : AH) : Option ((Int32 × AH) ⊕ ((AH))) :=
  if 8 ≤ v1 then some (.inr h)
  else (jgr 7 h v0 39).bind fun x2 =>
  (jas 0 h x2 v1 0).bind fun h4 =>
  some (.inl ((v1 + 1, h4)))
def f_X7_beginAnew_b2 (N : Nat) (v0 : Nat) (v1 : Int32) (h : AH) : Option AH :=
  (itr (fun s => f_X7_beginAnew_l2 N v0 s.1 s.2) N (v1, h)).bind (fun e => (jwi 7 e v0 40 0).bind fun h6 =>
  some h6)
def f_X7_beginAnew (N : Nat) (h : AH) (a0 : Nat) : Option AH :=
  f_X7_beginAnew_b2 N a0 0 h
set_option maxRecDepth 100000 in
set_option maxHeartbeats 4000000 in
theorem lk_X7_beginAnew_l2 {G : JG} {X : JX} (E : jE G X (RX7, cX7_beginAnew, 2)) (hX : X.2.2.2.1 = jRm 0 0 0) (hr : X.2.2.2.2.2.2.2.2.1.sig.returnType = none) (N : Nat) {Q : State → Prop} {v0 : Nat} {v1 : Int32}  {h : AH} {q : ((Int32 × AH) ⊕ ((AH)))} (hf : f_X7_beginAnew_l2 N v0 v1 h = some q) (kb : ∀ s' : Int32 × AH, q = .inl s' → JW G X (RX7, cX7_beginAnew, 2) s'.2 [(0, .ref v0), (1, .int s'.1)] [] 2 0 0 Q) (ke0 : ∀ e : AH, q = .inr e → JW G X (RX7, cX7_beginAnew, 2) e [(0, .ref v0)] [] 21 0 0 Q) : JW G X (RX7, cX7_beginAnew, 2) h [(0, .ref v0), (1, .int v1)] [] 2 0 0 Q := by
  unfold f_X7_beginAnew_l2 at hf
  refine J_iload_n E (jd dk_X7_beginAnew_0 2 rfl) rfl 1 rfl ?_
  refine J_bipush (v := 8) E (jd dk_X7_beginAnew_0 3 rfl) (by decide) ?_
  refine J_icmp_ge (tgt := 21) E (jd dk_X7_beginAnew_0 4 rfl) (by decide) (fun c1 => ?_) (fun c1 => ?_)
  · replace hf := jif_t c1 hf
    refine J_sub [0] rfl ?_
    exact ke0 _ (Option.some.inj hf).symm
  · replace hf := jif_f c1 hf
    refine J_aload_n E (jd dk_X7_beginAnew_0 5 rfl) rfl 0 rfl ?_
    obtain ⟨x2, e3, hf⟩ := jbind hf
    refine J_getr E (jd dk_X7_beginAnew_0 6 rfl) fl_RX7_103 e3 ?_
    refine J_iload_n E (jd dk_X7_beginAnew_0 7 rfl) rfl 1 rfl ?_
    refine J_iconst (v := 0) E (jd dk_X7_beginAnew_0 8 rfl) rfl ?_
    obtain ⟨h4, e5, hf⟩ := jbind hf
    refine J_iast E (jd dk_X7_beginAnew_0 9 rfl) e5 ?_
    refine J_iinc (v := v1 + 1) (lv' := [(1, .int (v1 + 1)), (0, .ref v0)]) E (jd dk_X7_beginAnew_0 10 rfl) 1 rfl rfl (by decide) rfl ?_
    refine J_goto (tgt := 2) E (jd dk_X7_beginAnew_0 11 rfl) (by decide) ?_
    refine J_sub [1, 0] rfl ?_
    exact kb _ (Option.some.inj hf).symm
set_option maxRecDepth 100000 in
set_option maxHeartbeats 4000000 in
theorem lk_X7_beginAnew_b2 {G : JG} {X : JX} (E : jE G X (RX7, cX7_beginAnew, 2)) (hX : X.2.2.2.1 = jRm 0 0 0) (hr : X.2.2.2.2.2.2.2.2.1.sig.returnType = none) (N : Nat) {v0 : Nat} {v1 : Int32} {h : AH}  {r : AH} (hf : f_X7_beginAnew_b2 N v0 v1 h = some r) : JW G X (RX7, cX7_beginAnew, 2) h [(0, .ref v0), (1, .int v1)] [] 2 0 0 (jEnd G X (jpv r) 0 0) := by
  unfold f_X7_beginAnew_b2 at hf
  obtain ⟨q1, h1, hf⟩ := jbind hf
  refine jloop (P := fun s => JW G X (RX7, cX7_beginAnew, 2) s.2 [(0, .ref v0), (1, .int s.1)] [] 2 0 0 (jEnd G X (jpv r) 0 0)) (Ex := fun (e : AH) => JW G X (RX7, cX7_beginAnew, 2) e [(0, .ref v0)] [] 21 0 0 (jEnd G X (jpv r) 0 0)) (fun s q hs hb hx => lk_X7_beginAnew_l2 E hX hr N hs (fun s' hs => hb s' hs) (fun e he => hx e he)) N _ q1 h1 ?_
  generalize q1 = e at hf ⊢
  refine J_aload_n E (jd dk_X7_beginAnew_0 12 rfl) rfl 0 rfl ?_
  refine J_iconst (v := 0) E (jd dk_X7_beginAnew_0 13 rfl) rfl ?_
  obtain ⟨h6, e7, hf⟩ := jbind hf
  refine J_put E (jd dk_X7_beginAnew_0 14 rfl) fl_RX7_344 e7 (fun _ => rfl) (fun _ => rfl) ?_
  cases hf
  exact J_vret E hr (jd dk_X7_beginAnew_0 15 rfl) (Nat.le_refl _) (Nat.le_refl _) ⟨rfl, rfl⟩
set_option maxRecDepth 100000 in
set_option maxHeartbeats 4000000 in
theorem lk_X7_beginAnew {G : JG} {l : Launch} (hG : jG G) (htr : l.stackTraces = false) (N : Nat) {h : AH} {a0 : Nat} {r : AH} (hf : f_X7_beginAnew N h a0 = some r) : jMet G l yX7_beginAnew cX7_beginAnew 2 none 0 0 0 [.ref a0] h (jpv r) := by
  unfold f_X7_beginAnew at hf
  refine jMet_of hG htr (by decide) (Nat.le_of_ble_eq_true rfl) ?_
  intro X E hl9 hr hX _ _
  show JW G X (RX7, cX7_beginAnew, 2) h [(0, .ref a0)] [] 0 0 0 (jEnd G X (jpv r) 0 0)
  refine J_iconst (v := 0) E (jd dk_X7_beginAnew_0 0 rfl) rfl ?_
  refine J_istore_n (lv' := [(1, .int 0), (0, .ref a0)]) E (jd dk_X7_beginAnew_0 1 rfl) rfl (by decide) rfl ?_
  refine J_sub [1, 0] rfl ?_
  exact lk_X7_beginAnew_b2 E hX hr N hf
def f_X7_pools_b31 (N : Nat) (v0 : Nat) (v2 : Int32) (w0 : Int32) (w1 : Int32) (h : AH) : Option ((Int32 × Int32 × AH) ⊕ ((Int32 × AH))) :=
  some (.inl ((w0 ||| w1, v2 + 1, h)))
def f_X7_pools_l4 (N : Nat) (v0 : Nat) (v1 : Int32) (v2 : Int32) (h : AH) : Option ((Int32 × Int32 × AH) ⊕ ((Int32 × AH))) :=
  (jgr 7 h v0 5).bind fun x1 =>
  (jal 0 h x1 1).bind fun x3 =>
  if x3 ≤ v2 then some (.inr ((v1, h)))
  else (jgr 7 h v0 31).bind fun x6 =>
  (jal 0 h x6 v2).bind fun x8 =>
  if x8 = 0 then f_X7_pools_b31 N v0 v2 v1 ((1 : Int32) <<< (v2 &&& 31)) h
  else f_X7_pools_b31 N v0 v2 v1 0 h
def f_X7_pools_b4 (N : Nat) (v0 : Nat) (v1 : Int32) (v2 : Int32) (h : AH) : Option (Int32 × AH) :=
  (itr (fun s => f_X7_pools_l4 N v0 s.1 s.2.1 s.2.2) N (v1, v2, h)).bind (fun e => some (e.1, e.2))
def f_X7_pools (N : Nat) (h : AH) (a0 : Nat) : Option (Int32 × AH) :=
  f_X7_pools_b4 N a0 0 0 h
set_option maxRecDepth 100000 in
set_option maxHeartbeats 4000000 in
theorem lk_X7_pools_b31 {G : JG} {X : JX} (E : jE G X (RX7, cX7_pools, 3)) (hX : X.2.2.2.1 = jRm 0 0 0) (hr : X.2.2.2.2.2.2.2.2.1.sig.returnType = (some .int)) (N : Nat) {Q : State → Prop} {v0 : Nat} {v2 : Int32} {w0 : Int32} {w1 : Int32} {h : AH}  {q : ((Int32 × Int32 × AH) ⊕ ((Int32 × AH)))} (hf : f_X7_pools_b31 N v0 v2 w0 w1 h = some q) (kb : ∀ s' : Int32 × Int32 × AH, q = .inl s' → JW G X (RX7, cX7_pools, 3) s'.2.2 [(0, .ref v0), (1, .int s'.1), (2, .int s'.2.1)] [] 4 0 0 Q) (ke0 : ∀ e : Int32 × AH, q = .inr e → JW G X (RX7, cX7_pools, 3) e.2 [(1, .int e.1)] [] 39 0 0 Q) : JW G X (RX7, cX7_pools, 3) h [(0, .ref v0), (2, .int v2)] [.int w1, .int w0] 31 0 0 Q := by
  unfold f_X7_pools_b31 at hf
  refine J_ior E (jd dk_X7_pools_0 21 rfl) ?_
  refine J_istore_n (lv' := [(1, .int (w0 ||| w1)), (0, .ref v0), (2, .int v2)]) E (jd dk_X7_pools_0 22 rfl) rfl (by decide) rfl ?_
  refine J_iinc (v := v2 + 1) (lv' := [(2, .int (v2 + 1)), (1, .int (w0 ||| w1)), (0, .ref v0)]) E (jd dk_X7_pools_0 23 rfl) 2 rfl rfl (by decide) rfl ?_
  refine J_goto (tgt := 4) E (jd dk_X7_pools_0 24 rfl) (by decide) ?_
  refine J_sub [2, 1, 0] rfl ?_
  exact kb _ (Option.some.inj hf).symm
set_option maxRecDepth 100000 in
set_option maxHeartbeats 4000000 in
theorem lk_X7_pools_l4 {G : JG} {X : JX} (E : jE G X (RX7, cX7_pools, 3)) (hX : X.2.2.2.1 = jRm 0 0 0) (hr : X.2.2.2.2.2.2.2.2.1.sig.returnType = (some .int)) (N : Nat) {Q : State → Prop} {v0 : Nat} {v1 : Int32} {v2 : Int32}  {h : AH} {q : ((Int32 × Int32 × AH) ⊕ ((Int32 × AH)))} (hf : f_X7_pools_l4 N v0 v1 v2 h = some q) (kb : ∀ s' : Int32 × Int32 × AH, q = .inl s' → JW G X (RX7, cX7_pools, 3) s'.2.2 [(0, .ref v0), (1, .int s'.1), (2, .int s'.2.1)] [] 4 0 0 Q) (ke0 : ∀ e : Int32 × AH, q = .inr e → JW G X (RX7, cX7_pools, 3) e.2 [(1, .int e.1)] [] 39 0 0 Q) : JW G X (RX7, cX7_pools, 3) h [(0, .ref v0), (1, .int v1), (2, .int v2)] [] 4 0 0 Q := by
  unfold f_X7_pools_l4 at hf
  refine J_iload_n E (jd dk_X7_pools_0 4 rfl) rfl 2 rfl ?_
  refine J_aload_n E (jd dk_X7_pools_0 5 rfl) rfl 0 rfl ?_
  obtain ⟨x1, e2, hf⟩ := jbind hf
  refine J_getr E (jd dk_X7_pools_0 6 rfl) fl_RX7_42 e2 ?_
  refine J_iconst (v := 1) E (jd dk_X7_pools_0 7 rfl) rfl ?_
  obtain ⟨x3, e4, hf⟩ := jbind hf
  refine J_iald E (jd dk_X7_pools_0 8 rfl) e4 ?_
  refine J_icmp_ge (tgt := 39) E (jd dk_X7_pools_0 9 rfl) (by decide) (fun c5 => ?_) (fun c5 => ?_)
  · replace hf := jif_t c5 hf
    refine J_sub [1] rfl ?_
    exact ke0 _ (Option.some.inj hf).symm
  · replace hf := jif_f c5 hf
    refine J_iload_n E (jd dk_X7_pools_0 10 rfl) rfl 1 rfl ?_
    refine J_aload_n E (jd dk_X7_pools_0 11 rfl) rfl 0 rfl ?_
    obtain ⟨x6, e7, hf⟩ := jbind hf
    refine J_getr E (jd dk_X7_pools_0 12 rfl) fl_RX7_90 e7 ?_
    refine J_iload_n E (jd dk_X7_pools_0 13 rfl) rfl 2 rfl ?_
    obtain ⟨x8, e9, hf⟩ := jbind hf
    refine J_iald E (jd dk_X7_pools_0 14 rfl) e9 ?_
    refine J_if_ne (tgt := 30) E (jd dk_X7_pools_0 15 rfl) (by decide) (fun c10 => ?_) (fun c10 => ?_)
    · replace hf := jif_f c10 hf
      refine J_iconst (v := 0) E (jd dk_X7_pools_0 20 rfl) rfl ?_
      refine J_sub [0, 2] rfl ?_
      exact lk_X7_pools_b31 E hX hr N hf kb ke0
    · replace hf := jif_t c10 hf
      refine J_iconst (v := 1) E (jd dk_X7_pools_0 16 rfl) rfl ?_
      refine J_iload_n E (jd dk_X7_pools_0 17 rfl) rfl 2 rfl ?_
      refine J_ishl E (jd dk_X7_pools_0 18 rfl) ?_
      refine J_goto (tgt := 31) E (jd dk_X7_pools_0 19 rfl) (by decide) ?_
      refine J_sub [0, 2] rfl ?_
      exact lk_X7_pools_b31 E hX hr N hf kb ke0
set_option maxRecDepth 100000 in
set_option maxHeartbeats 4000000 in
theorem lk_X7_pools_b4 {G : JG} {X : JX} (E : jE G X (RX7, cX7_pools, 3)) (hX : X.2.2.2.1 = jRm 0 0 0) (hr : X.2.2.2.2.2.2.2.2.1.sig.returnType = (some .int)) (N : Nat) {v0 : Nat} {v1 : Int32} {v2 : Int32} {h : AH}  {r : (Int32 × AH)} (hf : f_X7_pools_b4 N v0 v1 v2 h = some r) : JW G X (RX7, cX7_pools, 3) h [(0, .ref v0), (1, .int v1), (2, .int v2)] [] 4 0 0 (jEnd G X (jpi r) 0 0) := by
  unfold f_X7_pools_b4 at hf
  obtain ⟨q1, h1, hf⟩ := jbind hf
  refine jloop (P := fun s => JW G X (RX7, cX7_pools, 3) s.2.2 [(0, .ref v0), (1, .int s.1), (2, .int s.2.1)] [] 4 0 0 (jEnd G X (jpi r) 0 0)) (Ex := fun (e : Int32 × AH) => JW G X (RX7, cX7_pools, 3) e.2 [(1, .int e.1)] [] 39 0 0 (jEnd G X (jpi r) 0 0)) (fun s q hs hb hx => lk_X7_pools_l4 E hX hr N hs (fun s' hs => hb s' hs) (fun e he => hx e he)) N _ q1 h1 ?_
  generalize q1 = e at hf ⊢
  refine J_iload_n E (jd dk_X7_pools_0 25 rfl) rfl 0 rfl ?_
  cases hf
  exact J_iret E hr rfl (jd dk_X7_pools_0 26 rfl) (Nat.le_refl _) (Nat.le_refl _) ⟨rfl, rfl⟩
set_option maxRecDepth 100000 in
set_option maxHeartbeats 4000000 in
theorem lk_X7_pools {G : JG} {l : Launch} (hG : jG G) (htr : l.stackTraces = false) (N : Nat) {h : AH} {a0 : Nat} {r : (Int32 × AH)} (hf : f_X7_pools N h a0 = some r) : jMet G l yX7_pools cX7_pools 3 (some .int) 0 0 0 [.ref a0] h (jpi r) := by
  unfold f_X7_pools at hf
  refine jMet_of hG htr (by decide) (Nat.le_of_ble_eq_true rfl) ?_
  intro X E hl9 hr hX _ _
  show JW G X (RX7, cX7_pools, 3) h [(0, .ref a0)] [] 0 0 0 (jEnd G X (jpi r) 0 0)
  refine J_iconst (v := 0) E (jd dk_X7_pools_0 0 rfl) rfl ?_
  refine J_istore_n (lv' := [(1, .int 0), (0, .ref a0)]) E (jd dk_X7_pools_0 1 rfl) rfl (by decide) rfl ?_
  refine J_iconst (v := 0) E (jd dk_X7_pools_0 2 rfl) rfl ?_
  refine J_istore_n (lv' := [(2, .int 0), (1, .int 0), (0, .ref a0)]) E (jd dk_X7_pools_0 3 rfl) rfl (by decide) rfl ?_
  refine J_sub [2, 1, 0] rfl ?_
  exact lk_X7_pools_b4 E hX hr N hf
def f_X7_bench_b87 (N : Nat) (v0 : Nat) (v1 : Int32) (v2 : Int32) (h : AH) : Option ((Int32 × Int32 × AH) ⊕ ((Int32 × AH))) :=
  some (.inl ((v1, v2 + 1, h)))
def f_X7_bench_b85 (N : Nat) (v0 : Nat) (v2 : Int32) (h : AH) : Option ((Int32 × Int32 × AH) ⊕ ((Int32 × AH))) :=
  f_X7_bench_b87 N v0 v2 v2 h
def f_X7_bench_b53 (N : Nat) (v0 : Nat) (v1 : Int32) (v2 : Int32) (v4 : Int32) (w0 : Int32) (w1 : Int32) (h : AH) : Option ((Int32 × Int32 × AH) ⊕ ((Int32 × AH))) :=
  some (.inl ((w0 ||| w1, v4 + 1, h)))
def f_X7_bench_l21 (N : Nat) (v0 : Nat) (v1 : Int32) (v2 : Int32) (v3 : Int32) (v4 : Int32) (h : AH) : Option ((Int32 × Int32 × AH) ⊕ ((Int32 × AH))) :=
  (jgr 7 h v0 5).bind fun x1 =>
  (jal 0 h x1 2).bind fun x3 =>
  if x3 ≤ v4 then some (.inr ((v3, h)))
  else (f_X7_isOf N h v2 v4).bind fun r6 =>
  if r6.1 = 0 then f_X7_bench_b53 N v0 v1 v2 v4 v3 0 r6.2
  else (jgr 7 r6.2 v0 30).bind fun x9 =>
  (jal 0 r6.2 x9 v4).bind fun x11 =>
  f_X7_bench_b53 N v0 v1 v2 v4 v3 x11 r6.2
def f_X7_bench_b21 (N : Nat) (v0 : Nat) (v1 : Int32) (v2 : Int32) (v3 : Int32) (v4 : Int32) (h : AH) : Option ((Int32 × Int32 × AH) ⊕ ((Int32 × AH))) :=
  (itr (fun s => f_X7_bench_l21 N v0 v1 v2 s.1 s.2.1 s.2.2) N (v3, v4, h)).bind (fun e => (jck 7 e.2 v0).bind fun _ =>
  (f_X7_allSides N e.2 v0).bind fun r13 =>
  if e.1 = r13.1 then if v1 = ((-1)) then f_X7_bench_b85 N v0 v2 r13.2
  else (f_X7_bitsOf N r13.2 v2).bind fun r19 =>
  (f_X7_bitsOf N r19.2 v1).bind fun r21 =>
  if r21.1 ≤ r19.1 then f_X7_bench_b87 N v0 v1 v2 r21.2
  else f_X7_bench_b85 N v0 v2 r21.2
  else f_X7_bench_b87 N v0 v1 v2 r13.2)
def f_X7_bench_l4 (N : Nat) (v0 : Nat) (v1 : Int32) (v2 : Int32) (h : AH) : Option ((Int32 × Int32 × AH) ⊕ ((Int32 × AH))) :=
  (jgr 7 h v0 5).bind fun x24 =>
  (jal 0 h x24 2).bind fun x26 =>
  if ((1 : Int32) <<< (x26 &&& 31)) ≤ v2 then some (.inr ((v1, h)))
  else f_X7_bench_b21 N v0 v1 v2 0 0 h
def f_X7_bench_b4 (N : Nat) (v0 : Nat) (v1 : Int32) (v2 : Int32) (h : AH) : Option (Int32 × AH) :=
  (itr (fun s => f_X7_bench_l4 N v0 s.1 s.2.1 s.2.2) N (v1, v2, h)).bind (fun e => some (e.1, e.2))
def f_X7_bench (N : Nat) (h : AH) (a0 : Nat) : Option (Int32 × AH) :=
  f_X7_bench_b4 N a0 ((-1)) 0 h
set_option maxRecDepth 100000 in
set_option maxHeartbeats 4000000 in
theorem lk_X7_bench_b87 {G : JG} {X : JX} (E : jE G X (RX7, cX7_bench, 5)) (hX : X.2.2.2.1 = jRm 1 0 0) (hr : X.2.2.2.2.2.2.2.2.1.sig.returnType = (some .int)) (N : Nat) {Q : State → Prop} {v0 : Nat} {v1 : Int32} {v2 : Int32} {h : AH}  {q : ((Int32 × Int32 × AH) ⊕ ((Int32 × AH)))} (hf : f_X7_bench_b87 N v0 v1 v2 h = some q) (kb : ∀ s' : Int32 × Int32 × AH, q = .inl s' → JW G X (RX7, cX7_bench, 5) s'.2.2 [(0, .ref v0), (1, .int s'.1), (2, .int s'.2.1)] [] 4 0 0 Q) (ke0 : ∀ e : Int32 × AH, q = .inr e → JW G X (RX7, cX7_bench, 5) e.2 [(1, .int e.1)] [] 93 0 0 Q) : JW G X (RX7, cX7_bench, 5) h [(0, .ref v0), (1, .int v1), (2, .int v2)] [] 87 0 0 Q := by
  unfold f_X7_bench_b87 at hf
  refine J_iinc (v := v2 + 1) (lv' := [(2, .int (v2 + 1)), (0, .ref v0), (1, .int v1)]) E (jd dk_X7_bench_1 1 rfl) 2 rfl rfl (by decide) rfl ?_
  refine J_goto (tgt := 4) E (jd dk_X7_bench_1 2 rfl) (by decide) ?_
  refine J_sub [1, 2, 0] rfl ?_
  exact kb _ (Option.some.inj hf).symm
set_option maxRecDepth 100000 in
set_option maxHeartbeats 4000000 in
theorem lk_X7_bench_b85 {G : JG} {X : JX} (E : jE G X (RX7, cX7_bench, 5)) (hX : X.2.2.2.1 = jRm 1 0 0) (hr : X.2.2.2.2.2.2.2.2.1.sig.returnType = (some .int)) (N : Nat) {Q : State → Prop} {v0 : Nat} {v2 : Int32} {h : AH}  {q : ((Int32 × Int32 × AH) ⊕ ((Int32 × AH)))} (hf : f_X7_bench_b85 N v0 v2 h = some q) (kb : ∀ s' : Int32 × Int32 × AH, q = .inl s' → JW G X (RX7, cX7_bench, 5) s'.2.2 [(0, .ref v0), (1, .int s'.1), (2, .int s'.2.1)] [] 4 0 0 Q) (ke0 : ∀ e : Int32 × AH, q = .inr e → JW G X (RX7, cX7_bench, 5) e.2 [(1, .int e.1)] [] 93 0 0 Q) : JW G X (RX7, cX7_bench, 5) h [(0, .ref v0), (2, .int v2)] [] 85 0 0 Q := by
  unfold f_X7_bench_b85 at hf
  refine J_iload_n E (jd dk_X7_bench_0 49 rfl) rfl 1 rfl ?_
  refine J_istore_n (lv' := [(1, .int v2), (0, .ref v0), (2, .int v2)]) E (jd dk_X7_bench_1 0 rfl) rfl (by decide) rfl ?_
  refine J_sub [1, 0, 2] rfl ?_
  exact lk_X7_bench_b87 E hX hr N hf kb ke0
set_option maxRecDepth 100000 in
set_option maxHeartbeats 4000000 in
theorem lk_X7_bench_b53 {G : JG} {X : JX} (E : jE G X (RX7, cX7_bench, 5)) (hX : X.2.2.2.1 = jRm 1 0 0) (hr : X.2.2.2.2.2.2.2.2.1.sig.returnType = (some .int)) (N : Nat) {Q : State → Prop} {v0 : Nat} {v1 : Int32} {v2 : Int32} {v4 : Int32} {w0 : Int32} {w1 : Int32} {h : AH}  {q : ((Int32 × Int32 × AH) ⊕ ((Int32 × AH)))} (hf : f_X7_bench_b53 N v0 v1 v2 v4 w0 w1 h = some q) (kb : ∀ s' : Int32 × Int32 × AH, q = .inl s' → JW G X (RX7, cX7_bench, 5) s'.2.2 [(0, .ref v0), (1, .int v1), (2, .int v2), (3, .int s'.1), (4, .int s'.2.1)] [] 21 0 0 Q) (ke0 : ∀ e : Int32 × AH, q = .inr e → JW G X (RX7, cX7_bench, 5) e.2 [(0, .ref v0), (1, .int v1), (2, .int v2), (3, .int e.1)] [] 61 0 0 Q) : JW G X (RX7, cX7_bench, 5) h [(0, .ref v0), (1, .int v1), (2, .int v2), (4, .int v4)] [.int w1, .int w0] 53 0 0 Q := by
  unfold f_X7_bench_b53 at hf
  refine J_ior E (jd dk_X7_bench_0 33 rfl) ?_
  refine J_istore_n (lv' := [(3, .int (w0 ||| w1)), (0, .ref v0), (1, .int v1), (2, .int v2), (4, .int v4)]) E (jd dk_X7_bench_0 34 rfl) rfl (by decide) rfl ?_
  refine J_iinc (v := v4 + 1) (lv' := [(4, .int (v4 + 1)), (3, .int (w0 ||| w1)), (0, .ref v0), (1, .int v1), (2, .int v2)]) E (jd dk_X7_bench_0 35 rfl) 4 rfl rfl (by decide) rfl ?_
  refine J_goto (tgt := 21) E (jd dk_X7_bench_0 36 rfl) (by decide) ?_
  refine J_sub [2, 3, 4, 1, 0] rfl ?_
  exact kb _ (Option.some.inj hf).symm
set_option maxRecDepth 100000 in
set_option maxHeartbeats 4000000 in
theorem lk_X7_bench_l21 {G : JG} {X : JX} (E : jE G X (RX7, cX7_bench, 5)) (hX : X.2.2.2.1 = jRm 1 0 0) (hr : X.2.2.2.2.2.2.2.2.1.sig.returnType = (some .int)) (N : Nat) {Q : State → Prop} {v0 : Nat} {v1 : Int32} {v2 : Int32} {v3 : Int32} {v4 : Int32}  {h : AH} {q : ((Int32 × Int32 × AH) ⊕ ((Int32 × AH)))} (hf : f_X7_bench_l21 N v0 v1 v2 v3 v4 h = some q) (kb : ∀ s' : Int32 × Int32 × AH, q = .inl s' → JW G X (RX7, cX7_bench, 5) s'.2.2 [(0, .ref v0), (1, .int v1), (2, .int v2), (3, .int s'.1), (4, .int s'.2.1)] [] 21 0 0 Q) (ke0 : ∀ e : Int32 × AH, q = .inr e → JW G X (RX7, cX7_bench, 5) e.2 [(0, .ref v0), (1, .int v1), (2, .int v2), (3, .int e.1)] [] 61 0 0 Q) : JW G X (RX7, cX7_bench, 5) h [(0, .ref v0), (1, .int v1), (2, .int v2), (3, .int v3), (4, .int v4)] [] 21 0 0 Q := by
  unfold f_X7_bench_l21 at hf
  refine J_iload E (jd dk_X7_bench_0 16 rfl) 4 rfl ?_
  refine J_aload_n E (jd dk_X7_bench_0 17 rfl) rfl 0 rfl ?_
  obtain ⟨x1, e2, hf⟩ := jbind hf
  refine J_getr E (jd dk_X7_bench_0 18 rfl) fl_RX7_42 e2 ?_
  refine J_iconst (v := 2) E (jd dk_X7_bench_0 19 rfl) rfl ?_
  obtain ⟨x3, e4, hf⟩ := jbind hf
  refine J_iald E (jd dk_X7_bench_0 20 rfl) e4 ?_
  refine J_icmp_ge (tgt := 61) E (jd dk_X7_bench_0 21 rfl) (by decide) (fun c5 => ?_) (fun c5 => ?_)
  · replace hf := jif_t c5 hf
    refine J_sub [0, 1, 2, 3] rfl ?_
    exact ke0 _ (Option.some.inj hf).symm
  · replace hf := jif_f c5 hf
    refine J_iload_n E (jd dk_X7_bench_0 22 rfl) rfl 3 rfl ?_
    refine J_iload_n E (jd dk_X7_bench_0 23 rfl) rfl 2 rfl ?_
    refine J_iload E (jd dk_X7_bench_0 24 rfl) 4 rfl ?_
    obtain ⟨r6, e7, hf⟩ := jbind hf
    refine J_callS E (jd dk_X7_bench_0 25 rfl) ml_RX7_362 cal_X7_isOf (lk_X7_isOf (jE_g E) (jE_tr E) N e7) rfl (Nat.le_of_ble_eq_true rfl) (jR_le hX (by decide) (by decide)) (jF0 hX) rfl ?_
    rintro _ _ ⟨rfl, rfl⟩
    refine J_if_eq (tgt := 52) E (jd dk_X7_bench_0 26 rfl) (by decide) (fun c8 => ?_) (fun c8 => ?_)
    · replace hf := jif_t c8 hf
      refine J_iconst (v := 0) E (jd dk_X7_bench_0 32 rfl) rfl ?_
      refine J_sub [0, 1, 2, 4] rfl ?_
      exact lk_X7_bench_b53 E hX hr N hf kb ke0
    · replace hf := jif_f c8 hf
      refine J_aload_n E (jd dk_X7_bench_0 27 rfl) rfl 0 rfl ?_
      obtain ⟨x9, e10, hf⟩ := jbind hf
      refine J_getr E (jd dk_X7_bench_0 28 rfl) fl_RX7_87 e10 ?_
      refine J_iload E (jd dk_X7_bench_0 29 rfl) 4 rfl ?_
      obtain ⟨x11, e12, hf⟩ := jbind hf
      refine J_iald E (jd dk_X7_bench_0 30 rfl) e12 ?_
      refine J_goto (tgt := 53) E (jd dk_X7_bench_0 31 rfl) (by decide) ?_
      refine J_sub [0, 1, 2, 4] rfl ?_
      exact lk_X7_bench_b53 E hX hr N hf kb ke0
set_option maxRecDepth 100000 in
set_option maxHeartbeats 4000000 in
theorem lk_X7_bench_b21 {G : JG} {X : JX} (E : jE G X (RX7, cX7_bench, 5)) (hX : X.2.2.2.1 = jRm 1 0 0) (hr : X.2.2.2.2.2.2.2.2.1.sig.returnType = (some .int)) (N : Nat) {Q : State → Prop} {v0 : Nat} {v1 : Int32} {v2 : Int32} {v3 : Int32} {v4 : Int32} {h : AH}  {q : ((Int32 × Int32 × AH) ⊕ ((Int32 × AH)))} (hf : f_X7_bench_b21 N v0 v1 v2 v3 v4 h = some q) (kb : ∀ s' : Int32 × Int32 × AH, q = .inl s' → JW G X (RX7, cX7_bench, 5) s'.2.2 [(0, .ref v0), (1, .int s'.1), (2, .int s'.2.1)] [] 4 0 0 Q) (ke0 : ∀ e : Int32 × AH, q = .inr e → JW G X (RX7, cX7_bench, 5) e.2 [(1, .int e.1)] [] 93 0 0 Q) : JW G X (RX7, cX7_bench, 5) h [(0, .ref v0), (1, .int v1), (2, .int v2), (3, .int v3), (4, .int v4)] [] 21 0 0 Q := by
  unfold f_X7_bench_b21 at hf
  obtain ⟨q1, h1, hf⟩ := jbind hf
  refine jloop (P := fun s => JW G X (RX7, cX7_bench, 5) s.2.2 [(0, .ref v0), (1, .int v1), (2, .int v2), (3, .int s.1), (4, .int s.2.1)] [] 21 0 0 Q) (Ex := fun (e : Int32 × AH) => JW G X (RX7, cX7_bench, 5) e.2 [(0, .ref v0), (1, .int v1), (2, .int v2), (3, .int e.1)] [] 61 0 0 Q) (fun s q hs hb hx => lk_X7_bench_l21 E hX hr N hs (fun s' hs => hb s' hs) (fun e he => hx e he)) N _ q1 h1 ?_
  generalize q1 = e at hf ⊢
  refine J_iload_n E (jd dk_X7_bench_0 37 rfl) rfl 3 rfl ?_
  refine J_aload_n E (jd dk_X7_bench_0 38 rfl) rfl 0 rfl ?_
  obtain ⟨u15, e16, hf⟩ := jbind hf
  obtain ⟨r13, e14, hf⟩ := jbind hf
  refine J_callV E (jd dk_X7_bench_0 39 rfl) ml_RX7_321 cal_X7_allSides e16 rfl (lk_X7_allSides (jE_g E) (jE_tr E) N e14) rfl (Nat.le_of_ble_eq_true rfl) (jR_le hX (by decide) (by decide)) (jF0 hX) rfl ?_
  rintro _ _ ⟨rfl, rfl⟩
  refine J_icmp_ne (tgt := 87) E (jd dk_X7_bench_0 40 rfl) (by decide) (fun c17 => ?_) (fun c17 => ?_)
  · replace hf := jif_f c17 hf
    refine J_sub [0, 1, 2] rfl ?_
    exact lk_X7_bench_b87 E hX hr N hf kb ke0
  · replace hf := jif_t c17 hf
    refine J_iload_n E (jd dk_X7_bench_0 41 rfl) rfl 1 rfl ?_
    refine J_iconst (v := (-1)) E (jd dk_X7_bench_0 42 rfl) rfl ?_
    refine J_icmp_eq (tgt := 85) E (jd dk_X7_bench_0 43 rfl) (by decide) (fun c18 => ?_) (fun c18 => ?_)
    · replace hf := jif_t c18 hf
      refine J_sub [0, 2] rfl ?_
      exact lk_X7_bench_b85 E hX hr N hf kb ke0
    · replace hf := jif_f c18 hf
      refine J_iload_n E (jd dk_X7_bench_0 44 rfl) rfl 2 rfl ?_
      obtain ⟨r19, e20, hf⟩ := jbind hf
      refine J_callS E (jd dk_X7_bench_0 45 rfl) ml_RX7_327 cal_X7_bitsOf (lk_X7_bitsOf (jE_g E) (jE_tr E) N e20) rfl (Nat.le_of_ble_eq_true rfl) (jR_le hX (by decide) (by decide)) (jF0 hX) rfl ?_
      rintro _ _ ⟨rfl, rfl⟩
      refine J_iload_n E (jd dk_X7_bench_0 46 rfl) rfl 1 rfl ?_
      obtain ⟨r21, e22, hf⟩ := jbind hf
      refine J_callS E (jd dk_X7_bench_0 47 rfl) ml_RX7_327 cal_X7_bitsOf (lk_X7_bitsOf (jE_g E) (jE_tr E) N e22) rfl (Nat.le_of_ble_eq_true rfl) (jR_le hX (by decide) (by decide)) (jF0 hX) rfl ?_
      rintro _ _ ⟨rfl, rfl⟩
      refine J_icmp_ge (tgt := 87) E (jd dk_X7_bench_0 48 rfl) (by decide) (fun c23 => ?_) (fun c23 => ?_)
      · replace hf := jif_t c23 hf
        refine J_sub [0, 1, 2] rfl ?_
        exact lk_X7_bench_b87 E hX hr N hf kb ke0
      · replace hf := jif_f c23 hf
        refine J_sub [0, 2] rfl ?_
        exact lk_X7_bench_b85 E hX hr N hf kb ke0
set_option maxRecDepth 100000 in
set_option maxHeartbeats 4000000 in
theorem lk_X7_bench_l4 {G : JG} {X : JX} (E : jE G X (RX7, cX7_bench, 5)) (hX : X.2.2.2.1 = jRm 1 0 0) (hr : X.2.2.2.2.2.2.2.2.1.sig.returnType = (some .int)) (N : Nat) {Q : State → Prop} {v0 : Nat} {v1 : Int32} {v2 : Int32}  {h : AH} {q : ((Int32 × Int32 × AH) ⊕ ((Int32 × AH)))} (hf : f_X7_bench_l4 N v0 v1 v2 h = some q) (kb : ∀ s' : Int32 × Int32 × AH, q = .inl s' → JW G X (RX7, cX7_bench, 5) s'.2.2 [(0, .ref v0), (1, .int s'.1), (2, .int s'.2.1)] [] 4 0 0 Q) (ke0 : ∀ e : Int32 × AH, q = .inr e → JW G X (RX7, cX7_bench, 5) e.2 [(1, .int e.1)] [] 93 0 0 Q) : JW G X (RX7, cX7_bench, 5) h [(0, .ref v0), (1, .int v1), (2, .int v2)] [] 4 0 0 Q := by
  unfold f_X7_bench_l4 at hf
  refine J_iload_n E (jd dk_X7_bench_0 4 rfl) rfl 2 rfl ?_
  refine J_iconst (v := 1) E (jd dk_X7_bench_0 5 rfl) rfl ?_
  refine J_aload_n E (jd dk_X7_bench_0 6 rfl) rfl 0 rfl ?_
  obtain ⟨x24, e25, hf⟩ := jbind hf
  refine J_getr E (jd dk_X7_bench_0 7 rfl) fl_RX7_42 e25 ?_
  refine J_iconst (v := 2) E (jd dk_X7_bench_0 8 rfl) rfl ?_
  obtain ⟨x26, e27, hf⟩ := jbind hf
  refine J_iald E (jd dk_X7_bench_0 9 rfl) e27 ?_
  refine J_ishl E (jd dk_X7_bench_0 10 rfl) ?_
  refine J_icmp_ge (tgt := 93) E (jd dk_X7_bench_0 11 rfl) (by decide) (fun c28 => ?_) (fun c28 => ?_)
  · replace hf := jif_t c28 hf
    refine J_sub [1] rfl ?_
    exact ke0 _ (Option.some.inj hf).symm
  · replace hf := jif_f c28 hf
    refine J_iconst (v := 0) E (jd dk_X7_bench_0 12 rfl) rfl ?_
    refine J_istore_n (lv' := [(3, .int 0), (0, .ref v0), (1, .int v1), (2, .int v2)]) E (jd dk_X7_bench_0 13 rfl) rfl (by decide) rfl ?_
    refine J_iconst (v := 0) E (jd dk_X7_bench_0 14 rfl) rfl ?_
    refine J_istore (lv' := [(4, .int 0), (3, .int 0), (0, .ref v0), (1, .int v1), (2, .int v2)]) E (jd dk_X7_bench_0 15 rfl) (by decide) rfl ?_
    refine J_sub [2, 3, 4, 1, 0] rfl ?_
    exact lk_X7_bench_b21 E hX hr N hf kb ke0
set_option maxRecDepth 100000 in
set_option maxHeartbeats 4000000 in
theorem lk_X7_bench_b4 {G : JG} {X : JX} (E : jE G X (RX7, cX7_bench, 5)) (hX : X.2.2.2.1 = jRm 1 0 0) (hr : X.2.2.2.2.2.2.2.2.1.sig.returnType = (some .int)) (N : Nat) {v0 : Nat} {v1 : Int32} {v2 : Int32} {h : AH}  {r : (Int32 × AH)} (hf : f_X7_bench_b4 N v0 v1 v2 h = some r) : JW G X (RX7, cX7_bench, 5) h [(0, .ref v0), (1, .int v1), (2, .int v2)] [] 4 0 0 (jEnd G X (jpi r) 0 0) := by
  unfold f_X7_bench_b4 at hf
  obtain ⟨q1, h1, hf⟩ := jbind hf
  refine jloop (P := fun s => JW G X (RX7, cX7_bench, 5) s.2.2 [(0, .ref v0), (1, .int s.1), (2, .int s.2.1)] [] 4 0 0 (jEnd G X (jpi r) 0 0)) (Ex := fun (e : Int32 × AH) => JW G X (RX7, cX7_bench, 5) e.2 [(1, .int e.1)] [] 93 0 0 (jEnd G X (jpi r) 0 0)) (fun s q hs hb hx => lk_X7_bench_l4 E hX hr N hs (fun s' hs => hb s' hs) (fun e he => hx e he)) N _ q1 h1 ?_
  generalize q1 = e at hf ⊢
  refine J_iload_n E (jd dk_X7_bench_1 3 rfl) rfl 0 rfl ?_
  cases hf
  exact J_iret E hr rfl (jd dk_X7_bench_1 4 rfl) (Nat.le_refl _) (Nat.le_refl _) ⟨rfl, rfl⟩
set_option maxRecDepth 100000 in
set_option maxHeartbeats 4000000 in
theorem lk_X7_bench {G : JG} {l : Launch} (hG : jG G) (htr : l.stackTraces = false) (N : Nat) {h : AH} {a0 : Nat} {r : (Int32 × AH)} (hf : f_X7_bench N h a0 = some r) : jMet G l yX7_bench cX7_bench 5 (some .int) 1 0 0 [.ref a0] h (jpi r) := by
  unfold f_X7_bench at hf
  refine jMet_of hG htr (by decide) (Nat.le_of_ble_eq_true rfl) ?_
  intro X E hl9 hr hX _ _
  show JW G X (RX7, cX7_bench, 5) h [(0, .ref a0)] [] 0 0 0 (jEnd G X (jpi r) 0 0)
  refine J_iconst (v := (-1)) E (jd dk_X7_bench_0 0 rfl) rfl ?_
  refine J_istore_n (lv' := [(1, .int ((-1))), (0, .ref a0)]) E (jd dk_X7_bench_0 1 rfl) rfl (by decide) rfl ?_
  refine J_iconst (v := 0) E (jd dk_X7_bench_0 2 rfl) rfl ?_
  refine J_istore_n (lv' := [(2, .int 0), (1, .int ((-1))), (0, .ref a0)]) E (jd dk_X7_bench_0 3 rfl) rfl (by decide) rfl ?_
  refine J_sub [2, 1, 0] rfl ?_
  exact lk_X7_bench_b4 E hX hr N hf
def f_X7_count (N : Nat) (h : AH) (a0 : Nat) (a1 : Int32) : Option (Int32 × AH) :=
  (jwi 7 h a0 4 0).bind fun h1 =>
  if a1 = 0 then (jgr 7 h1 a0 5).bind fun x3 =>
  (jal 0 h1 x3 a1).bind fun x5 =>
  some (x5, h1)
  else if a1 = 1 then (jgr 7 h1 a0 5).bind fun x7 =>
  (jal 0 h1 x7 a1).bind fun x9 =>
  some (x9, h1)
  else if a1 = 2 then (jgr 7 h1 a0 5).bind fun x11 =>
  (jal 0 h1 x11 a1).bind fun x13 =>
  some (x13, h1)
  else if a1 = 3 then (jgi 7 h1 a0 34).bind fun x15 =>
  some (x15, h1)
  else if a1 = 4 then (jck 7 h1 a0).bind fun _ =>
  (f_X7_fairOnes N h1 a0).bind fun r17 =>
  some (r17.1, r17.2)
  else if a1 = 5 then (jck 7 h1 a0).bind fun _ =>
  (f_X7_whoIs N h1 a0 ((-2))).bind fun r21 =>
  some (r21.1, r21.2)
  else if a1 = 6 then (jck 7 h1 a0).bind fun _ =>
  (f_X7_onReaches N h1 a0).bind fun r25 =>
  some (r25.1, r25.2)
  else if a1 = 7 then (jck 7 h1 a0).bind fun _ =>
  (f_X7_pools N h1 a0).bind fun r29 =>
  some (r29.1, r29.2)
  else if a1 = 8 then (jck 7 h1 a0).bind fun _ =>
  (f_X7_bench N h1 a0).bind fun r33 =>
  some (r33.1, r33.2)
  else if a1 = 9 then (jgi 7 h1 a0 35).bind fun x37 =>
  some (x37, h1)
  else if a1 = 10 then (jgi 7 h1 a0 36).bind fun x39 =>
  some (x39, h1)
  else if a1 = 11 then (jgi 7 h1 a0 17).bind fun x41 =>
  some (x41, h1)
  else if a1 = 12 then (jgr 7 h1 a0 14).bind fun x43 =>
  (jal 0 h1 x43 (a1 - 12)).bind fun x45 =>
  some (x45, h1)
  else if a1 = 13 then (jgr 7 h1 a0 14).bind fun x47 =>
  (jal 0 h1 x47 (a1 - 12)).bind fun x49 =>
  some (x49, h1)
  else if a1 = 14 then (jgr 7 h1 a0 14).bind fun x51 =>
  (jal 0 h1 x51 (a1 - 12)).bind fun x53 =>
  some (x53, h1)
  else (jck 7 h1 a0).bind fun _ =>
  (f_X7_fail N h1 a0 1).bind fun r55 =>
  some (r55.1, r55.2)
set_option maxRecDepth 100000 in
set_option maxHeartbeats 4000000 in
theorem lk_X7_count {G : JG} {l : Launch} (hG : jG G) (htr : l.stackTraces = false) (N : Nat) {h : AH} {a0 : Nat} {a1 : Int32} {r : (Int32 × AH)} (hf : f_X7_count N h a0 a1 = some r) : jMet G l yX7_count cX7_count 2 (some .int) 3 0 0 [.ref a0, .int a1] h (jpi r) := by
  unfold f_X7_count at hf
  refine jMet_of hG htr (by decide) (Nat.le_of_ble_eq_true rfl) ?_
  intro X E hl9 hr hX _ _
  show JW G X (RX7, cX7_count, 2) h [(0, .ref a0), (1, .int a1)] [] 0 0 0 (jEnd G X (jpi r) 0 0)
  refine J_aload_n E (jd dk_X7_count_0 0 rfl) rfl 0 rfl ?_
  refine J_iconst (v := 0) E (jd dk_X7_count_0 1 rfl) rfl ?_
  obtain ⟨h1, e2, hf⟩ := jbind hf
  refine J_put E (jd dk_X7_count_0 2 rfl) fl_RX7_151 e2 (fun _ => rfl) (fun _ => rfl) ?_
  refine J_iload_n E (jd dk_X7_count_0 3 rfl) rfl 1 rfl ?_
  by_cases c6_0 : a1 = 0
  · replace hf := jif_t c6_0 hf
    refine J_tableIn (off := 74) (tgt := 80) E (jd dk_X7_count_0 4 rfl) (by rw [c6_0]; decide) (by rw [c6_0]; decide) (by rw [c6_0]; decide) (by decide) ?_
    refine J_aload_n E (jd dk_X7_count_0 5 rfl) rfl 0 rfl ?_
    obtain ⟨x3, e4, hf⟩ := jbind hf
    refine J_getr E (jd dk_X7_count_0 6 rfl) fl_RX7_42 e4 ?_
    refine J_iload_n E (jd dk_X7_count_0 7 rfl) rfl 1 rfl ?_
    obtain ⟨x5, e6, hf⟩ := jbind hf
    refine J_iald E (jd dk_X7_count_0 8 rfl) e6 ?_
    cases hf
    exact J_iret E hr rfl (jd dk_X7_count_0 9 rfl) (Nat.le_refl _) (Nat.le_refl _) ⟨rfl, rfl⟩
  replace hf := jif_f c6_0 hf
  by_cases c6_1 : a1 = 1
  · replace hf := jif_t c6_1 hf
    refine J_tableIn (off := 74) (tgt := 80) E (jd dk_X7_count_0 4 rfl) (by rw [c6_1]; decide) (by rw [c6_1]; decide) (by rw [c6_1]; decide) (by decide) ?_
    refine J_aload_n E (jd dk_X7_count_0 5 rfl) rfl 0 rfl ?_
    obtain ⟨x7, e8, hf⟩ := jbind hf
    refine J_getr E (jd dk_X7_count_0 6 rfl) fl_RX7_42 e8 ?_
    refine J_iload_n E (jd dk_X7_count_0 7 rfl) rfl 1 rfl ?_
    obtain ⟨x9, e10, hf⟩ := jbind hf
    refine J_iald E (jd dk_X7_count_0 8 rfl) e10 ?_
    cases hf
    exact J_iret E hr rfl (jd dk_X7_count_0 9 rfl) (Nat.le_refl _) (Nat.le_refl _) ⟨rfl, rfl⟩
  replace hf := jif_f c6_1 hf
  by_cases c6_2 : a1 = 2
  · replace hf := jif_t c6_2 hf
    refine J_tableIn (off := 74) (tgt := 80) E (jd dk_X7_count_0 4 rfl) (by rw [c6_2]; decide) (by rw [c6_2]; decide) (by rw [c6_2]; decide) (by decide) ?_
    refine J_aload_n E (jd dk_X7_count_0 5 rfl) rfl 0 rfl ?_
    obtain ⟨x11, e12, hf⟩ := jbind hf
    refine J_getr E (jd dk_X7_count_0 6 rfl) fl_RX7_42 e12 ?_
    refine J_iload_n E (jd dk_X7_count_0 7 rfl) rfl 1 rfl ?_
    obtain ⟨x13, e14, hf⟩ := jbind hf
    refine J_iald E (jd dk_X7_count_0 8 rfl) e14 ?_
    cases hf
    exact J_iret E hr rfl (jd dk_X7_count_0 9 rfl) (Nat.le_refl _) (Nat.le_refl _) ⟨rfl, rfl⟩
  replace hf := jif_f c6_2 hf
  by_cases c6_3 : a1 = 3
  · replace hf := jif_t c6_3 hf
    refine J_tableIn (off := 81) (tgt := 87) E (jd dk_X7_count_0 4 rfl) (by rw [c6_3]; decide) (by rw [c6_3]; decide) (by rw [c6_3]; decide) (by decide) ?_
    refine J_aload_n E (jd dk_X7_count_0 10 rfl) rfl 0 rfl ?_
    obtain ⟨x15, e16, hf⟩ := jbind hf
    refine J_geti E (jd dk_X7_count_0 11 rfl) fl_RX7_306 e16 ?_
    cases hf
    exact J_iret E hr rfl (jd dk_X7_count_0 12 rfl) (Nat.le_refl _) (Nat.le_refl _) ⟨rfl, rfl⟩
  replace hf := jif_f c6_3 hf
  by_cases c6_4 : a1 = 4
  · replace hf := jif_t c6_4 hf
    refine J_tableIn (off := 86) (tgt := 92) E (jd dk_X7_count_0 4 rfl) (by rw [c6_4]; decide) (by rw [c6_4]; decide) (by rw [c6_4]; decide) (by decide) ?_
    refine J_aload_n E (jd dk_X7_count_0 13 rfl) rfl 0 rfl ?_
    obtain ⟨u19, e20, hf⟩ := jbind hf
    obtain ⟨r17, e18, hf⟩ := jbind hf
    refine J_callV E (jd dk_X7_count_0 14 rfl) ml_RX7_365 cal_X7_fairOnes e20 rfl (lk_X7_fairOnes (jE_g E) (jE_tr E) N e18) rfl (Nat.le_of_ble_eq_true rfl) (jR_le hX (by decide) (by decide)) (jF0 hX) rfl ?_
    rintro _ _ ⟨rfl, rfl⟩
    cases hf
    exact J_iret E hr rfl (jd dk_X7_count_0 15 rfl) (Nat.le_refl _) (Nat.le_refl _) ⟨rfl, rfl⟩
  replace hf := jif_f c6_4 hf
  by_cases c6_5 : a1 = 5
  · replace hf := jif_t c6_5 hf
    refine J_tableIn (off := 91) (tgt := 97) E (jd dk_X7_count_0 4 rfl) (by rw [c6_5]; decide) (by rw [c6_5]; decide) (by rw [c6_5]; decide) (by decide) ?_
    refine J_aload_n E (jd dk_X7_count_0 16 rfl) rfl 0 rfl ?_
    refine J_bipush (v := (-2)) E (jd dk_X7_count_0 17 rfl) (by decide) ?_
    obtain ⟨u23, e24, hf⟩ := jbind hf
    obtain ⟨r21, e22, hf⟩ := jbind hf
    refine J_callV E (jd dk_X7_count_0 18 rfl) ml_RX7_330 cal_X7_whoIs e24 rfl (lk_X7_whoIs (jE_g E) (jE_tr E) N e22) rfl (Nat.le_of_ble_eq_true rfl) (jR_le hX (by decide) (by decide)) (jF0 hX) rfl ?_
    rintro _ _ ⟨rfl, rfl⟩
    cases hf
    exact J_iret E hr rfl (jd dk_X7_count_0 19 rfl) (Nat.le_refl _) (Nat.le_refl _) ⟨rfl, rfl⟩
  replace hf := jif_f c6_5 hf
  by_cases c6_6 : a1 = 6
  · replace hf := jif_t c6_6 hf
    refine J_tableIn (off := 98) (tgt := 104) E (jd dk_X7_count_0 4 rfl) (by rw [c6_6]; decide) (by rw [c6_6]; decide) (by rw [c6_6]; decide) (by decide) ?_
    refine J_aload_n E (jd dk_X7_count_0 20 rfl) rfl 0 rfl ?_
    obtain ⟨u27, e28, hf⟩ := jbind hf
    obtain ⟨r25, e26, hf⟩ := jbind hf
    refine J_callV E (jd dk_X7_count_0 21 rfl) ml_RX7_368 cal_X7_onReaches e28 rfl (lk_X7_onReaches (jE_g E) (jE_tr E) N e26) rfl (Nat.le_of_ble_eq_true rfl) (jR_le hX (by decide) (by decide)) (jF0 hX) rfl ?_
    rintro _ _ ⟨rfl, rfl⟩
    cases hf
    exact J_iret E hr rfl (jd dk_X7_count_0 22 rfl) (Nat.le_refl _) (Nat.le_refl _) ⟨rfl, rfl⟩
  replace hf := jif_f c6_6 hf
  by_cases c6_7 : a1 = 7
  · replace hf := jif_t c6_7 hf
    refine J_tableIn (off := 103) (tgt := 109) E (jd dk_X7_count_0 4 rfl) (by rw [c6_7]; decide) (by rw [c6_7]; decide) (by rw [c6_7]; decide) (by decide) ?_
    refine J_aload_n E (jd dk_X7_count_0 23 rfl) rfl 0 rfl ?_
    obtain ⟨u31, e32, hf⟩ := jbind hf
    obtain ⟨r29, e30, hf⟩ := jbind hf
    refine J_callV E (jd dk_X7_count_0 24 rfl) ml_RX7_371 cal_X7_pools e32 rfl (lk_X7_pools (jE_g E) (jE_tr E) N e30) rfl (Nat.le_of_ble_eq_true rfl) (jR_le hX (by decide) (by decide)) (jF0 hX) rfl ?_
    rintro _ _ ⟨rfl, rfl⟩
    cases hf
    exact J_iret E hr rfl (jd dk_X7_count_0 25 rfl) (Nat.le_refl _) (Nat.le_refl _) ⟨rfl, rfl⟩
  replace hf := jif_f c6_7 hf
  by_cases c6_8 : a1 = 8
  · replace hf := jif_t c6_8 hf
    refine J_tableIn (off := 108) (tgt := 114) E (jd dk_X7_count_0 4 rfl) (by rw [c6_8]; decide) (by rw [c6_8]; decide) (by rw [c6_8]; decide) (by decide) ?_
    refine J_aload_n E (jd dk_X7_count_0 26 rfl) rfl 0 rfl ?_
    obtain ⟨u35, e36, hf⟩ := jbind hf
    obtain ⟨r33, e34, hf⟩ := jbind hf
    refine J_callV E (jd dk_X7_count_0 27 rfl) ml_RX7_374 cal_X7_bench e36 rfl (lk_X7_bench (jE_g E) (jE_tr E) N e34) rfl (Nat.le_of_ble_eq_true rfl) (jR_le hX (by decide) (by decide)) (jF0 hX) rfl ?_
    rintro _ _ ⟨rfl, rfl⟩
    cases hf
    exact J_iret E hr rfl (jd dk_X7_count_0 28 rfl) (Nat.le_refl _) (Nat.le_refl _) ⟨rfl, rfl⟩
  replace hf := jif_f c6_8 hf
  by_cases c6_9 : a1 = 9
  · replace hf := jif_t c6_9 hf
    refine J_tableIn (off := 113) (tgt := 119) E (jd dk_X7_count_0 4 rfl) (by rw [c6_9]; decide) (by rw [c6_9]; decide) (by rw [c6_9]; decide) (by decide) ?_
    refine J_aload_n E (jd dk_X7_count_0 29 rfl) rfl 0 rfl ?_
    obtain ⟨x37, e38, hf⟩ := jbind hf
    refine J_geti E (jd dk_X7_count_0 30 rfl) fl_RX7_309 e38 ?_
    cases hf
    exact J_iret E hr rfl (jd dk_X7_count_0 31 rfl) (Nat.le_refl _) (Nat.le_refl _) ⟨rfl, rfl⟩
  replace hf := jif_f c6_9 hf
  by_cases c6_10 : a1 = 10
  · replace hf := jif_t c6_10 hf
    refine J_tableIn (off := 118) (tgt := 124) E (jd dk_X7_count_0 4 rfl) (by rw [c6_10]; decide) (by rw [c6_10]; decide) (by rw [c6_10]; decide) (by decide) ?_
    refine J_aload_n E (jd dk_X7_count_0 32 rfl) rfl 0 rfl ?_
    obtain ⟨x39, e40, hf⟩ := jbind hf
    refine J_geti E (jd dk_X7_count_0 33 rfl) fl_RX7_312 e40 ?_
    cases hf
    exact J_iret E hr rfl (jd dk_X7_count_0 34 rfl) (Nat.le_refl _) (Nat.le_refl _) ⟨rfl, rfl⟩
  replace hf := jif_f c6_10 hf
  by_cases c6_11 : a1 = 11
  · replace hf := jif_t c6_11 hf
    refine J_tableIn (off := 123) (tgt := 129) E (jd dk_X7_count_0 4 rfl) (by rw [c6_11]; decide) (by rw [c6_11]; decide) (by rw [c6_11]; decide) (by decide) ?_
    refine J_aload_n E (jd dk_X7_count_0 35 rfl) rfl 0 rfl ?_
    obtain ⟨x41, e42, hf⟩ := jbind hf
    refine J_geti E (jd dk_X7_count_0 36 rfl) fl_RX7_158 e42 ?_
    cases hf
    exact J_iret E hr rfl (jd dk_X7_count_0 37 rfl) (Nat.le_refl _) (Nat.le_refl _) ⟨rfl, rfl⟩
  replace hf := jif_f c6_11 hf
  by_cases c6_12 : a1 = 12
  · replace hf := jif_t c6_12 hf
    refine J_tableIn (off := 128) (tgt := 134) E (jd dk_X7_count_0 4 rfl) (by rw [c6_12]; decide) (by rw [c6_12]; decide) (by rw [c6_12]; decide) (by decide) ?_
    refine J_aload_n E (jd dk_X7_count_0 38 rfl) rfl 0 rfl ?_
    obtain ⟨x43, e44, hf⟩ := jbind hf
    refine J_getr E (jd dk_X7_count_0 39 rfl) fl_RX7_69 e44 ?_
    refine J_iload_n E (jd dk_X7_count_0 40 rfl) rfl 1 rfl ?_
    refine J_bipush (v := 12) E (jd dk_X7_count_0 41 rfl) (by decide) ?_
    refine J_isub E (jd dk_X7_count_0 42 rfl) ?_
    obtain ⟨x45, e46, hf⟩ := jbind hf
    refine J_iald E (jd dk_X7_count_0 43 rfl) e46 ?_
    cases hf
    exact J_iret E hr rfl (jd dk_X7_count_0 44 rfl) (Nat.le_refl _) (Nat.le_refl _) ⟨rfl, rfl⟩
  replace hf := jif_f c6_12 hf
  by_cases c6_13 : a1 = 13
  · replace hf := jif_t c6_13 hf
    refine J_tableIn (off := 128) (tgt := 134) E (jd dk_X7_count_0 4 rfl) (by rw [c6_13]; decide) (by rw [c6_13]; decide) (by rw [c6_13]; decide) (by decide) ?_
    refine J_aload_n E (jd dk_X7_count_0 38 rfl) rfl 0 rfl ?_
    obtain ⟨x47, e48, hf⟩ := jbind hf
    refine J_getr E (jd dk_X7_count_0 39 rfl) fl_RX7_69 e48 ?_
    refine J_iload_n E (jd dk_X7_count_0 40 rfl) rfl 1 rfl ?_
    refine J_bipush (v := 12) E (jd dk_X7_count_0 41 rfl) (by decide) ?_
    refine J_isub E (jd dk_X7_count_0 42 rfl) ?_
    obtain ⟨x49, e50, hf⟩ := jbind hf
    refine J_iald E (jd dk_X7_count_0 43 rfl) e50 ?_
    cases hf
    exact J_iret E hr rfl (jd dk_X7_count_0 44 rfl) (Nat.le_refl _) (Nat.le_refl _) ⟨rfl, rfl⟩
  replace hf := jif_f c6_13 hf
  by_cases c6_14 : a1 = 14
  · replace hf := jif_t c6_14 hf
    refine J_tableIn (off := 128) (tgt := 134) E (jd dk_X7_count_0 4 rfl) (by rw [c6_14]; decide) (by rw [c6_14]; decide) (by rw [c6_14]; decide) (by decide) ?_
    refine J_aload_n E (jd dk_X7_count_0 38 rfl) rfl 0 rfl ?_
    obtain ⟨x51, e52, hf⟩ := jbind hf
    refine J_getr E (jd dk_X7_count_0 39 rfl) fl_RX7_69 e52 ?_
    refine J_iload_n E (jd dk_X7_count_0 40 rfl) rfl 1 rfl ?_
    refine J_bipush (v := 12) E (jd dk_X7_count_0 41 rfl) (by decide) ?_
    refine J_isub E (jd dk_X7_count_0 42 rfl) ?_
    obtain ⟨x53, e54, hf⟩ := jbind hf
    refine J_iald E (jd dk_X7_count_0 43 rfl) e54 ?_
    cases hf
    exact J_iret E hr rfl (jd dk_X7_count_0 44 rfl) (Nat.le_refl _) (Nat.le_refl _) ⟨rfl, rfl⟩
  replace hf := jif_f c6_14 hf
  refine J_tableOut (tgt := 144) E (jd dk_X7_count_0 4 rfl) (jsw (v := 14) (jsw (v := 13) (jsw (v := 12) (jsw (v := 11) (jsw (v := 10) (jsw (v := 9) (jsw (v := 8) (jsw (v := 7) (jsw (v := 6) (jsw (v := 5) (jsw (v := 4) (jsw (v := 3) (jsw (v := 2) (jsw (v := 1) (jsw (v := 0) (jsw0 (x := a1) (0)) (by decide) c6_0) (by decide) c6_1) (by decide) c6_2) (by decide) c6_3) (by decide) c6_4) (by decide) c6_5) (by decide) c6_6) (by decide) c6_7) (by decide) c6_8) (by decide) c6_9) (by decide) c6_10) (by decide) c6_11) (by decide) c6_12) (by decide) c6_13) (by decide) c6_14) (by decide) ?_
  refine J_aload_n E (jd dk_X7_count_0 45 rfl) rfl 0 rfl ?_
  refine J_iconst (v := 1) E (jd dk_X7_count_0 46 rfl) rfl ?_
  obtain ⟨u57, e58, hf⟩ := jbind hf
  obtain ⟨r55, e56, hf⟩ := jbind hf
  refine J_callV E (jd dk_X7_count_0 47 rfl) ml_RX7_293 cal_X7_fail e58 rfl (lk_X7_fail (jE_g E) (jE_tr E) N e56) rfl (Nat.le_of_ble_eq_true rfl) (jR_le hX (by decide) (by decide)) (jF0 hX) rfl ?_
  rintro _ _ ⟨rfl, rfl⟩
  cases hf
  exact J_iret E hr rfl (jd dk_X7_count_0 48 rfl) (Nat.le_refl _) (Nat.le_refl _) ⟨rfl, rfl⟩
def f_X7_reach_b25 (N : Nat) (v0 : Nat) (h : AH) : Option (Int32 × AH) :=
  (jck 7 h v0).bind fun _ =>
  (f_X7_fail N h v0 1).bind fun r1 =>
  some (r1.1, r1.2)
def f_X7_reach (N : Nat) (h : AH) (a0 : Nat) (a1 : Int32) (a2 : Int32) : Option (Int32 × AH) :=
  (jwi 7 h a0 4 0).bind fun h5 =>
  (jck 7 h5 a0).bind fun _ =>
  (f_X7_isReach N h5 a0 a1).bind fun r7 =>
  if r7.1 = 0 then f_X7_reach_b25 N a0 r7.2
  else (f_X7_isIn N r7.2 (Int32.toInt64 a2) 0 2).bind fun r12 =>
  if r12.1 = 0 then f_X7_reach_b25 N a0 r12.2
  else if a2 = 0 then (jgr 7 r12.2 a0 31).bind fun x25 =>
  (jal 0 r12.2 x25 a1).bind fun x27 =>
  some (x27, r12.2)
  else if a2 = 1 then (jgr 7 r12.2 a0 32).bind fun x21 =>
  (jal 0 r12.2 x21 a1).bind fun x23 =>
  some (x23, r12.2)
  else (jck 7 r12.2 a0).bind fun _ =>
  (f_X7_whoIs N r12.2 a0 a1).bind fun r17 =>
  some (r17.1, r17.2)
set_option maxRecDepth 100000 in
set_option maxHeartbeats 4000000 in
theorem lk_X7_reach_b25 {G : JG} {X : JX} (E : jE G X (RX7, cX7_reach, 3)) (hX : X.2.2.2.1 = jRm 2 0 0) (hr : X.2.2.2.2.2.2.2.2.1.sig.returnType = (some .int)) (N : Nat) {v0 : Nat} {h : AH}  {r : (Int32 × AH)} (hf : f_X7_reach_b25 N v0 h = some r) : JW G X (RX7, cX7_reach, 3) h [(0, .ref v0)] [] 25 0 0 (jEnd G X (jpi r) 0 0) := by
  unfold f_X7_reach_b25 at hf
  refine J_aload_n E (jd dk_X7_reach_0 13 rfl) rfl 0 rfl ?_
  refine J_iconst (v := 1) E (jd dk_X7_reach_0 14 rfl) rfl ?_
  obtain ⟨u3, e4, hf⟩ := jbind hf
  obtain ⟨r1, e2, hf⟩ := jbind hf
  refine J_callV E (jd dk_X7_reach_0 15 rfl) ml_RX7_293 cal_X7_fail e4 rfl (lk_X7_fail (jE_g E) (jE_tr E) N e2) rfl (Nat.le_of_ble_eq_true rfl) (jR_le hX (by decide) (by decide)) (jF0 hX) rfl ?_
  rintro _ _ ⟨rfl, rfl⟩
  cases hf
  exact J_iret E hr rfl (jd dk_X7_reach_0 16 rfl) (Nat.le_refl _) (Nat.le_refl _) ⟨rfl, rfl⟩
set_option maxRecDepth 100000 in
set_option maxHeartbeats 4000000 in
theorem lk_X7_reach {G : JG} {l : Launch} (hG : jG G) (htr : l.stackTraces = false) (N : Nat) {h : AH} {a0 : Nat} {a1 : Int32} {a2 : Int32} {r : (Int32 × AH)} (hf : f_X7_reach N h a0 a1 a2 = some r) : jMet G l yX7_reach cX7_reach 3 (some .int) 2 0 0 [.ref a0, .int a1, .int a2] h (jpi r) := by
  unfold f_X7_reach at hf
  refine jMet_of hG htr (by decide) (Nat.le_of_ble_eq_true rfl) ?_
  intro X E hl9 hr hX _ _
  show JW G X (RX7, cX7_reach, 3) h [(0, .ref a0), (1, .int a1), (2, .int a2)] [] 0 0 0 (jEnd G X (jpi r) 0 0)
  refine J_aload_n E (jd dk_X7_reach_0 0 rfl) rfl 0 rfl ?_
  refine J_iconst (v := 0) E (jd dk_X7_reach_0 1 rfl) rfl ?_
  obtain ⟨h5, e6, hf⟩ := jbind hf
  refine J_put E (jd dk_X7_reach_0 2 rfl) fl_RX7_151 e6 (fun _ => rfl) (fun _ => rfl) ?_
  refine J_aload_n E (jd dk_X7_reach_0 3 rfl) rfl 0 rfl ?_
  refine J_iload_n E (jd dk_X7_reach_0 4 rfl) rfl 1 rfl ?_
  obtain ⟨u9, e10, hf⟩ := jbind hf
  obtain ⟨r7, e8, hf⟩ := jbind hf
  refine J_callV E (jd dk_X7_reach_0 5 rfl) ml_RX7_377 cal_X7_isReach e10 rfl (lk_X7_isReach (jE_g E) (jE_tr E) N e8) rfl (Nat.le_of_ble_eq_true rfl) (jR_le hX (by decide) (by decide)) (jF0 hX) rfl ?_
  rintro _ _ ⟨rfl, rfl⟩
  refine J_if_eq (tgt := 25) E (jd dk_X7_reach_0 6 rfl) (by decide) (fun c11 => ?_) (fun c11 => ?_)
  · replace hf := jif_t c11 hf
    refine J_sub [0] rfl ?_
    exact lk_X7_reach_b25 E hX hr N hf
  · replace hf := jif_f c11 hf
    refine J_iload_n E (jd dk_X7_reach_0 7 rfl) rfl 2 rfl ?_
    refine J_i2l E (jd dk_X7_reach_0 8 rfl) ?_
    refine J_lconst (v := 0) E (jd dk_X7_reach_0 9 rfl) (by decide) ?_
    refine J_ldc2 (v := 2) E (jd dk_X7_reach_0 10 rfl) (jl30_in _ (List.mem_of_getElem? (i := 13) rfl)) ?_
    obtain ⟨r12, e13, hf⟩ := jbind hf
    refine J_callS E (jd dk_X7_reach_0 11 rfl) ml_RX7_154 cal_X7_isIn (lk_X7_isIn (jE_g E) (jE_tr E) N e13) rfl (Nat.le_of_ble_eq_true rfl) (jR_le hX (by decide) (by decide)) (jF0 hX) rfl ?_
    rintro _ _ ⟨rfl, rfl⟩
    refine J_if_ne (tgt := 31) E (jd dk_X7_reach_0 12 rfl) (by decide) (fun c14 => ?_) (fun c14 => ?_)
    · replace hf := jif_f c14 hf
      refine J_iload_n E (jd dk_X7_reach_0 17 rfl) rfl 2 rfl ?_
      refine J_if_ne (tgt := 44) E (jd dk_X7_reach_0 18 rfl) (by decide) (fun c15 => ?_) (fun c15 => ?_)
      · replace hf := jif_f c15 hf
        refine J_iload_n E (jd dk_X7_reach_0 24 rfl) rfl 2 rfl ?_
        refine J_iconst (v := 1) E (jd dk_X7_reach_0 25 rfl) rfl ?_
        refine J_icmp_ne (tgt := 58) E (jd dk_X7_reach_0 26 rfl) (by decide) (fun c16 => ?_) (fun c16 => ?_)
        · replace hf := jif_f c16 hf
          refine J_aload_n E (jd dk_X7_reach_0 32 rfl) rfl 0 rfl ?_
          refine J_iload_n E (jd dk_X7_reach_0 33 rfl) rfl 1 rfl ?_
          obtain ⟨u19, e20, hf⟩ := jbind hf
          obtain ⟨r17, e18, hf⟩ := jbind hf
          refine J_callV E (jd dk_X7_reach_0 34 rfl) ml_RX7_330 cal_X7_whoIs e20 rfl (lk_X7_whoIs (jE_g E) (jE_tr E) N e18) rfl (Nat.le_of_ble_eq_true rfl) (jR_le hX (by decide) (by decide)) (jF0 hX) rfl ?_
          rintro _ _ ⟨rfl, rfl⟩
          cases hf
          exact J_iret E hr rfl (jd dk_X7_reach_0 35 rfl) (Nat.le_refl _) (Nat.le_refl _) ⟨rfl, rfl⟩
        · replace hf := jif_t c16 hf
          refine J_aload_n E (jd dk_X7_reach_0 27 rfl) rfl 0 rfl ?_
          obtain ⟨x21, e22, hf⟩ := jbind hf
          refine J_getr E (jd dk_X7_reach_0 28 rfl) fl_RX7_92 e22 ?_
          refine J_iload_n E (jd dk_X7_reach_0 29 rfl) rfl 1 rfl ?_
          obtain ⟨x23, e24, hf⟩ := jbind hf
          refine J_iald E (jd dk_X7_reach_0 30 rfl) e24 ?_
          refine J_goto (tgt := 63) E (jd dk_X7_reach_0 31 rfl) (by decide) ?_
          cases hf
          exact J_iret E hr rfl (jd dk_X7_reach_0 35 rfl) (Nat.le_refl _) (Nat.le_refl _) ⟨rfl, rfl⟩
      · replace hf := jif_t c15 hf
        refine J_aload_n E (jd dk_X7_reach_0 19 rfl) rfl 0 rfl ?_
        obtain ⟨x25, e26, hf⟩ := jbind hf
        refine J_getr E (jd dk_X7_reach_0 20 rfl) fl_RX7_90 e26 ?_
        refine J_iload_n E (jd dk_X7_reach_0 21 rfl) rfl 1 rfl ?_
        obtain ⟨x27, e28, hf⟩ := jbind hf
        refine J_iald E (jd dk_X7_reach_0 22 rfl) e28 ?_
        refine J_goto (tgt := 63) E (jd dk_X7_reach_0 23 rfl) (by decide) ?_
        cases hf
        exact J_iret E hr rfl (jd dk_X7_reach_0 35 rfl) (Nat.le_refl _) (Nat.le_refl _) ⟨rfl, rfl⟩
    · replace hf := jif_t c14 hf
      refine J_sub [0] rfl ?_
      exact lk_X7_reach_b25 E hX hr N hf
