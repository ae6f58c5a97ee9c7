def f_X7_is_b75 (N : Nat) (v0 : Nat) (v1 : Nat) (v3 : Int32) (w0 : Int32) (h : AH) : Option ((Int32 × Int32 × AH) ⊕ ((Int32 × AH))) :=
  some (.inl ((w0, v3 + 1, h)))
def f_X7_is_l39 (N : Nat) (v0 : Nat) (v1 : Nat) (v2 : Int32) (v3 : Int32) (h : AH) : Option ((Int32 × Int32 × AH) ⊕ ((Int32 × AH))) :=
  if v2 = 0 then some (.inr ((v2, h)))
  else (jsl v1).bind fun x2 =>
  if x2 ≤ v3 then some (.inr ((v2, h)))
  else (jsc v1 v3).bind fun x5 =>
  (jgr 7 h v0 16).bind fun x7 =>
  (jgi 7 h v0 22).bind fun x9 =>
  (jal 0 h x7 (x9 + v3)).bind fun x11 =>
  if x5 = x11 then f_X7_is_b75 N v0 v1 v3 1 h
  else f_X7_is_b75 N v0 v1 v3 0 h
def f_X7_is_b39 (N : Nat) (v0 : Nat) (v1 : Nat) (v2 : Int32) (v3 : Int32) (h : AH) : Option (Int32 × AH) :=
  (itr (fun s => f_X7_is_l39 N v0 v1 s.1 s.2.1 s.2.2) N (v2, v3, h)).bind (fun e => if narrow .boolean (.int e.1) = .int e.1 then some (e.1, e.2) else none)
def f_X7_is_b36 (N : Nat) (v0 : Nat) (v1 : Nat) (w0 : Int32) (h : AH) : Option (Int32 × AH) :=
  f_X7_is_b39 N v0 v1 w0 0 h
def f_X7_is_b35 (N : Nat) (v0 : Nat) (v1 : Nat) (h : AH) : Option (Int32 × AH) :=
  f_X7_is_b36 N v0 v1 0 h
def f_X7_is (N : Nat) (h : AH) (a0 : Nat) (a1 : Nat) : Option (Int32 × AH) :=
  (jgi 7 h a0 24).bind fun x15 =>
  if x15 = 0 then (jgi 7 h a0 20).bind fun x18 =>
  if x18 = 1 then (jsl a1).bind fun x21 =>
  (jgi 7 h a0 23).bind fun x23 =>
  (jgi 7 h a0 22).bind fun x25 =>
  if x21 = (x23 - x25) then f_X7_is_b36 N a0 a1 1 h
  else f_X7_is_b35 N a0 a1 h
  else f_X7_is_b35 N a0 a1 h
  else f_X7_is_b35 N a0 a1 h
set_option maxRecDepth 100000 in
set_option maxHeartbeats 4000000 in
theorem lk_X7_is_b75 {G : JG} {X : JX} (E : jE G X (RX7, cX7_is, 4)) (hX : X.2.2.2.1 = jRm 4 0 0) (hr : X.2.2.2.2.2.2.2.2.1.sig.returnType = (some .boolean)) (N : Nat) {Q : State → Prop} {v0 : Nat} {v1 : Nat} {v3 : Int32} {w0 : Int32} {h : AH}  {q : ((Int32 × Int32 × AH) ⊕ ((Int32 × AH)))} (hf : f_X7_is_b75 N v0 v1 v3 w0 h = some q) (kb : ∀ s' : Int32 × Int32 × AH, q = .inl s' → JW G X (RX7, cX7_is, 4) s'.2.2 [(0, .ref v0), (1, .ref v1), (2, .int s'.1), (3, .int s'.2.1)] [] 39 0 0 Q) (ke0 : ∀ e : Int32 × AH, q = .inr e → JW G X (RX7, cX7_is, 4) e.2 [(2, .int e.1)] [] 82 0 0 Q) : JW G X (RX7, cX7_is, 4) h [(0, .ref v0), (1, .ref v1), (3, .int v3)] [.int w0] 75 0 0 Q := by
  unfold f_X7_is_b75 at hf
  refine J_istore_n (lv' := [(2, .int w0), (0, .ref v0), (1, .ref v1), (3, .int v3)]) E (jd dk_X7_is_0 41 rfl) rfl (by decide) rfl ?_
  refine J_iinc (v := v3 + 1) (lv' := [(3, .int (v3 + 1)), (2, .int w0), (0, .ref v0), (1, .ref v1)]) E (jd dk_X7_is_0 42 rfl) 3 rfl rfl (by decide) rfl ?_
  refine J_goto (tgt := 39) E (jd dk_X7_is_0 43 rfl) (by decide) ?_
  refine J_sub [2, 3, 1, 0] rfl ?_
  exact kb _ (Option.some.inj hf).symm
set_option maxRecDepth 100000 in
set_option maxHeartbeats 4000000 in
theorem lk_X7_is_l39 {G : JG} {X : JX} (E : jE G X (RX7, cX7_is, 4)) (hX : X.2.2.2.1 = jRm 4 0 0) (hr : X.2.2.2.2.2.2.2.2.1.sig.returnType = (some .boolean)) (N : Nat) {Q : State → Prop} {v0 : Nat} {v1 : Nat} {v2 : Int32} {v3 : Int32}  {h : AH} {q : ((Int32 × Int32 × AH) ⊕ ((Int32 × AH)))} (hf : f_X7_is_l39 N v0 v1 v2 v3 h = some q) (kb : ∀ s' : Int32 × Int32 × AH, q = .inl s' → JW G X (RX7, cX7_is, 4) s'.2.2 [(0, .ref v0), (1, .ref v1), (2, .int s'.1), (3, .int s'.2.1)] [] 39 0 0 Q) (ke0 : ∀ e : Int32 × AH, q = .inr e → JW G X (RX7, cX7_is, 4) e.2 [(2, .int e.1)] [] 82 0 0 Q) : JW G X (RX7, cX7_is, 4) h [(0, .ref v0), (1, .ref v1), (2, .int v2), (3, .int v3)] [] 39 0 0 Q := by
  unfold f_X7_is_l39 at hf
  refine J_iload_n E (jd dk_X7_is_0 21 rfl) rfl 2 rfl ?_
  refine J_if_eq (tgt := 82) E (jd dk_X7_is_0 22 rfl) (by decide) (fun c1 => ?_) (fun c1 => ?_)
  · replace hf := jif_t c1 hf
    refine J_sub [2] rfl ?_
    exact ke0 _ (Option.some.inj hf).symm
  · replace hf := jif_f c1 hf
    refine J_iload_n E (jd dk_X7_is_0 23 rfl) rfl 3 rfl ?_
    refine J_aload_n E (jd dk_X7_is_0 24 rfl) rfl 1 rfl ?_
    obtain ⟨x2, e3, hf⟩ := jbind hf
    refine J_slen E (jd dk_X7_is_0 25 rfl) ml_RX7_206 e3 (Nat.le_of_ble_eq_true rfl) (jR_le hX (by decide) (by decide)) (jF0 hX) ?_
    refine J_icmp_ge (tgt := 82) E (jd dk_X7_is_0 26 rfl) (by decide) (fun c4 => ?_) (fun c4 => ?_)
    · replace hf := jif_t c4 hf
      refine J_sub [2] rfl ?_
      exact ke0 _ (Option.some.inj hf).symm
    · replace hf := jif_f c4 hf
      refine J_aload_n E (jd dk_X7_is_0 27 rfl) rfl 1 rfl ?_
      refine J_iload_n E (jd dk_X7_is_0 28 rfl) rfl 3 rfl ?_
      obtain ⟨x5, e6, hf⟩ := jbind hf
      refine J_char E (jd dk_X7_is_0 29 rfl) ml_RX7_210 e6 (Nat.le_of_ble_eq_true rfl) (jR_le hX (by decide) (by decide)) (jF0 hX) ?_
      refine J_aload_n E (jd dk_X7_is_0 30 rfl) rfl 0 rfl ?_
      obtain ⟨x7, e8, hf⟩ := jbind hf
      refine J_getr E (jd dk_X7_is_0 31 rfl) fl_RX7_74 e8 ?_
      refine J_aload_n E (jd dk_X7_is_0 32 rfl) rfl 0 rfl ?_
      obtain ⟨x9, e10, hf⟩ := jbind hf
      refine J_geti E (jd dk_X7_is_0 33 rfl) fl_RX7_171 e10 ?_
      refine J_iload_n E (jd dk_X7_is_0 34 rfl) rfl 3 rfl ?_
      refine J_iadd E (jd dk_X7_is_0 35 rfl) ?_
      obtain ⟨x11, e12, hf⟩ := jbind hf
      refine J_iald E (jd dk_X7_is_0 36 rfl) e12 ?_
      refine J_icmp_ne (tgt := 74) E (jd dk_X7_is_0 37 rfl) (by decide) (fun c13 => ?_) (fun c13 => ?_)
      · replace hf := jif_f c13 hf
        refine J_iconst (v := 0) E (jd dk_X7_is_0 40 rfl) rfl ?_
        refine J_sub [0, 1, 3] rfl ?_
        exact lk_X7_is_b75 E hX hr N hf kb ke0
      · replace hf := jif_t c13 hf
        refine J_iconst (v := 1) E (jd dk_X7_is_0 38 rfl) rfl ?_
        refine J_goto (tgt := 75) E (jd dk_X7_is_0 39 rfl) (by decide) ?_
        refine J_sub [0, 1, 3] rfl ?_
        exact lk_X7_is_b75 E hX hr N hf kb ke0
set_option maxRecDepth 100000 in
set_option maxHeartbeats 4000000 in
theorem lk_X7_is_b39 {G : JG} {X : JX} (E : jE G X (RX7, cX7_is, 4)) (hX : X.2.2.2.1 = jRm 4 0 0) (hr : X.2.2.2.2.2.2.2.2.1.sig.returnType = (some .boolean)) (N : Nat) {v0 : Nat} {v1 : Nat} {v2 : Int32} {v3 : Int32} {h : AH}  {r : (Int32 × AH)} (hf : f_X7_is_b39 N v0 v1 v2 v3 h = some r) : JW G X (RX7, cX7_is, 4) h [(0, .ref v0), (1, .ref v1), (2, .int v2), (3, .int v3)] [] 39 0 0 (jEnd G X (jpi r) 0 0) := by
  unfold f_X7_is_b39 at hf
  obtain ⟨q1, h1, hf⟩ := jbind hf
  refine jloop (P := fun s => JW G X (RX7, cX7_is, 4) s.2.2 [(0, .ref v0), (1, .ref v1), (2, .int s.1), (3, .int s.2.1)] [] 39 0 0 (jEnd G X (jpi r) 0 0)) (Ex := fun (e : Int32 × AH) => JW G X (RX7, cX7_is, 4) e.2 [(2, .int e.1)] [] 82 0 0 (jEnd G X (jpi r) 0 0)) (fun s q hs hb hx => lk_X7_is_l39 E hX hr N hs (fun s' hs => hb s' hs) (fun e he => hx e he)) N _ q1 h1 ?_
  generalize q1 = e at hf ⊢
  refine J_iload_n E (jd dk_X7_is_0 44 rfl) rfl 0 rfl ?_
  obtain ⟨n14, hf⟩ := jnw hf
  cases hf
  exact J_iret E hr n14 (jd dk_X7_is_0 45 rfl) (Nat.le_refl _) (Nat.le_refl _) ⟨rfl, rfl⟩
set_option maxRecDepth 100000 in
set_option maxHeartbeats 4000000 in
theorem lk_X7_is_b36 {G : JG} {X : JX} (E : jE G X (RX7, cX7_is, 4)) (hX : X.2.2.2.1 = jRm 4 0 0) (hr : X.2.2.2.2.2.2.2.2.1.sig.returnType = (some .boolean)) (N : Nat) {v0 : Nat} {v1 : Nat} {w0 : Int32} {h : AH}  {r : (Int32 × AH)} (hf : f_X7_is_b36 N v0 v1 w0 h = some r) : JW G X (RX7, cX7_is, 4) h [(0, .ref v0), (1, .ref v1)] [.int w0] 36 0 0 (jEnd G X (jpi r) 0 0) := by
  unfold f_X7_is_b36 at hf
  refine J_istore_n (lv' := [(2, .int w0), (0, .ref v0), (1, .ref v1)]) E (jd dk_X7_is_0 18 rfl) rfl (by decide) rfl ?_
  refine J_iconst (v := 0) E (jd dk_X7_is_0 19 rfl) rfl ?_
  refine J_istore_n (lv' := [(3, .int 0), (2, .int w0), (0, .ref v0), (1, .ref v1)]) E (jd dk_X7_is_0 20 rfl) rfl (by decide) rfl ?_
  refine J_sub [2, 3, 1, 0] rfl ?_
  exact lk_X7_is_b39 E hX hr N hf
set_option maxRecDepth 100000 in
set_option maxHeartbeats 4000000 in
theorem lk_X7_is_b35 {G : JG} {X : JX} (E : jE G X (RX7, cX7_is, 4)) (hX : X.2.2.2.1 = jRm 4 0 0) (hr : X.2.2.2.2.2.2.2.2.1.sig.returnType = (some .boolean)) (N : Nat) {v0 : Nat} {v1 : Nat} {h : AH}  {r : (Int32 × AH)} (hf : f_X7_is_b35 N v0 v1 h = some r) : JW G X (RX7, cX7_is, 4) h [(0, .ref v0), (1, .ref v1)] [] 35 0 0 (jEnd G X (jpi r) 0 0) := by
  unfold f_X7_is_b35 at hf
  refine J_iconst (v := 0) E (jd dk_X7_is_0 17 rfl) rfl ?_
  exact lk_X7_is_b36 E hX hr N hf
set_option maxRecDepth 100000 in
set_option maxHeartbeats 4000000 in
theorem lk_X7_is {G : JG} {l : Launch} (hG : jG G) (htr : l.stackTraces = false) (N : Nat) {h : AH} {a0 : Nat} {a1 : Nat} {r : (Int32 × AH)} (hf : f_X7_is N h a0 a1 = some r) : jMet G l yX7_is cX7_is 4 (some .boolean) 4 0 0 [.ref a0, .ref a1] h (jpi r) := by
  unfold f_X7_is at hf
  refine jMet_of hG htr (by decide) (Nat.le_of_ble_eq_true rfl) ?_
  intro X E hl9 hr hX _ _
  show JW G X (RX7, cX7_is, 4) h [(0, .ref a0), (1, .ref a1)] [] 0 0 0 (jEnd G X (jpi r) 0 0)
  refine J_aload_n E (jd dk_X7_is_0 0 rfl) rfl 0 rfl ?_
  obtain ⟨x15, e16, hf⟩ := jbind hf
  refine J_geti E (jd dk_X7_is_0 1 rfl) fl_RX7_200 e16 ?_
  refine J_if_ne (tgt := 35) E (jd dk_X7_is_0 2 rfl) (by decide) (fun c17 => ?_) (fun c17 => ?_)
  · replace hf := jif_f c17 hf
    exact lk_X7_is_b35 E hX hr N hf
  · replace hf := jif_t c17 hf
    refine J_aload_n E (jd dk_X7_is_0 3 rfl) rfl 0 rfl ?_
    obtain ⟨x18, e19, hf⟩ := jbind hf
    refine J_geti E (jd dk_X7_is_0 4 rfl) fl_RX7_174 e19 ?_
    refine J_iconst (v := 1) E (jd dk_X7_is_0 5 rfl) rfl ?_
    refine J_icmp_ne (tgt := 35) E (jd dk_X7_is_0 6 rfl) (by decide) (fun c20 => ?_) (fun c20 => ?_)
    · replace hf := jif_f c20 hf
      exact lk_X7_is_b35 E hX hr N hf
    · replace hf := jif_t c20 hf
      refine J_aload_n E (jd dk_X7_is_0 7 rfl) rfl 1 rfl ?_
      obtain ⟨x21, e22, hf⟩ := jbind hf
      refine J_slen E (jd dk_X7_is_0 8 rfl) ml_RX7_206 e22 (Nat.le_of_ble_eq_true rfl) (jR_le hX (by decide) (by decide)) (jF0 hX) ?_
      refine J_aload_n E (jd dk_X7_is_0 9 rfl) rfl 0 rfl ?_
      obtain ⟨x23, e24, hf⟩ := jbind hf
      refine J_geti E (jd dk_X7_is_0 10 rfl) fl_RX7_197 e24 ?_
      refine J_aload_n E (jd dk_X7_is_0 11 rfl) rfl 0 rfl ?_
      obtain ⟨x25, e26, hf⟩ := jbind hf
      refine J_geti E (jd dk_X7_is_0 12 rfl) fl_RX7_171 e26 ?_
      refine J_isub E (jd dk_X7_is_0 13 rfl) ?_
      refine J_icmp_ne (tgt := 35) E (jd dk_X7_is_0 14 rfl) (by decide) (fun c27 => ?_) (fun c27 => ?_)
      · replace hf := jif_f c27 hf
        exact lk_X7_is_b35 E hX hr N hf
      · replace hf := jif_t c27 hf
        refine J_iconst (v := 1) E (jd dk_X7_is_0 15 rfl) rfl ?_
        refine J_goto (tgt := 36) E (jd dk_X7_is_0 16 rfl) (by decide) ?_
        exact lk_X7_is_b36 E hX hr N hf
def f_X7_which_l2 (N : Nat) (v0 : Nat) (v1 : Nat) (v2 : Int32) (h : AH) : Option ((Int32 × AH) ⊕ ((Int32 × AH) ⊕ (AH))) :=
  (jln 4 h v1).bind fun x1 =>
  if x1 ≤ v2 then some (.inr (.inr h))
  else (jar 4 h v1 v2).bind fun x4 =>
  (jck 7 h v0).bind fun _ =>
  (f_X7_is N h v0 x4).bind fun r6 =>
  if r6.1 = 0 then some (.inl ((v2 + 1, r6.2)))
  else some (.inr (.inl ((v2, r6.2))))
def f_X7_which_b2 (N : Nat) (v0 : Nat) (v1 : Nat) (v2 : Int32) (h : AH) : Option (Int32 × AH) :=
  (itr (fun s => f_X7_which_l2 N v0 v1 s.1 s.2) N (v2, h)).bind (Sum.elim (fun e => some (e.1, e.2)) (fun e => some ((-1), e)))
def f_X7_which (N : Nat) (h : AH) (a0 : Nat) (a1 : Nat) : Option (Int32 × AH) :=
  f_X7_which_b2 N a0 a1 0 h
set_option maxRecDepth 100000 in
set_option maxHeartbeats 4000000 in
theorem lk_X7_which_l2 {G : JG} {X : JX} (E : jE G X (RX7, cX7_which, 3)) (hX : X.2.2.2.1 = jRm 5 0 0) (hr : X.2.2.2.2.2.2.2.2.1.sig.returnType = (some .int)) (N : Nat) {Q : State → Prop} {v0 : Nat} {v1 : Nat} {v2 : Int32}  {h : AH} {q : ((Int32 × AH) ⊕ ((Int32 × AH) ⊕ (AH)))} (hf : f_X7_which_l2 N v0 v1 v2 h = some q) (kb : ∀ s' : Int32 × AH, q = .inl s' → JW G X (RX7, cX7_which, 3) s'.2 [(0, .ref v0), (1, .ref v1), (2, .int s'.1)] [] 2 0 0 Q) (ke0 : ∀ e : Int32 × AH, q = .inr (.inl e) → JW G X (RX7, cX7_which, 3) e.2 [(2, .int e.1)] [] 18 0 0 Q) (ke1 : ∀ e : AH, q = .inr (.inr e) → JW G X (RX7, cX7_which, 3) e [] [] 26 0 0 Q) : JW G X (RX7, cX7_which, 3) h [(0, .ref v0), (1, .ref v1), (2, .int v2)] [] 2 0 0 Q := by
  unfold f_X7_which_l2 at hf
  refine J_iload_n E (jd dk_X7_which_0 2 rfl) rfl 2 rfl ?_
  refine J_aload_n E (jd dk_X7_which_0 3 rfl) rfl 1 rfl ?_
  obtain ⟨x1, e2, hf⟩ := jbind hf
  refine J_alen E (by decide) (jd dk_X7_which_0 4 rfl) e2 ?_
  refine J_icmp_ge (tgt := 26) E (jd dk_X7_which_0 5 rfl) (by decide) (fun c3 => ?_) (fun c3 => ?_)
  · replace hf := jif_t c3 hf
    refine J_sub [] rfl ?_
    exact ke1 _ (Option.some.inj hf).symm
  · replace hf := jif_f c3 hf
    refine J_aload_n E (jd dk_X7_which_0 6 rfl) rfl 0 rfl ?_
    refine J_aload_n E (jd dk_X7_which_0 7 rfl) rfl 1 rfl ?_
    refine J_iload_n E (jd dk_X7_which_0 8 rfl) rfl 2 rfl ?_
    obtain ⟨x4, e5, hf⟩ := jbind hf
    refine J_aald E (jd dk_X7_which_0 9 rfl) e5 ?_
    obtain ⟨u8, e9, hf⟩ := jbind hf
    obtain ⟨r6, e7, hf⟩ := jbind hf
    refine J_callV E (jd dk_X7_which_0 10 rfl) ml_RX7_214 cal_X7_is e9 rfl (lk_X7_is (jE_g E) (jE_tr E) N e7) rfl (Nat.le_of_ble_eq_true rfl) (jR_le hX (by decide) (by decide)) (jF0 hX) rfl ?_
    rintro _ _ ⟨rfl, rfl⟩
    refine J_if_eq (tgt := 20) E (jd dk_X7_which_0 11 rfl) (by decide) (fun c10 => ?_) (fun c10 => ?_)
    · replace hf := jif_t c10 hf
      refine J_iinc (v := v2 + 1) (lv' := [(2, .int (v2 + 1)), (0, .ref v0), (1, .ref v1)]) E (jd dk_X7_which_0 14 rfl) 2 rfl rfl (by decide) rfl ?_
      refine J_goto (tgt := 2) E (jd dk_X7_which_0 15 rfl) (by decide) ?_
      refine J_sub [1, 2, 0] rfl ?_
      exact kb _ (Option.some.inj hf).symm
    · replace hf := jif_f c10 hf
      refine J_sub [2] rfl ?_
      exact ke0 _ (Option.some.inj hf).symm
set_option maxRecDepth 100000 in
set_option maxHeartbeats 4000000 in
theorem lk_X7_which_b2 {G : JG} {X : JX} (E : jE G X (RX7, cX7_which, 3)) (hX : X.2.2.2.1 = jRm 5 0 0) (hr : X.2.2.2.2.2.2.2.2.1.sig.returnType = (some .int)) (N : Nat) {v0 : Nat} {v1 : Nat} {v2 : Int32} {h : AH}  {r : (Int32 × AH)} (hf : f_X7_which_b2 N v0 v1 v2 h = some r) : JW G X (RX7, cX7_which, 3) h [(0, .ref v0), (1, .ref v1), (2, .int v2)] [] 2 0 0 (jEnd G X (jpi r) 0 0) := by
  unfold f_X7_which_b2 at hf
  obtain ⟨q1, h1, hf⟩ := jbind hf
  refine jloop (P := fun s => JW G X (RX7, cX7_which, 3) s.2 [(0, .ref v0), (1, .ref v1), (2, .int s.1)] [] 2 0 0 (jEnd G X (jpi r) 0 0)) (Ex := Sum.elim (fun (e : Int32 × AH) => JW G X (RX7, cX7_which, 3) e.2 [(2, .int e.1)] [] 18 0 0 (jEnd G X (jpi r) 0 0)) (fun (e : AH) => JW G X (RX7, cX7_which, 3) e [] [] 26 0 0 (jEnd G X (jpi r) 0 0))) (fun s q hs hb hx => lk_X7_which_l2 E hX hr N hs (fun s' hs => hb s' hs) (fun e he => hx _ he) (fun e he => hx _ he)) N _ q1 h1 ?_
  rcases q1 with e | e
  · refine J_iload_n E (jd dk_X7_which_0 12 rfl) rfl 0 rfl ?_
    cases hf
    exact J_iret E hr rfl (jd dk_X7_which_0 13 rfl) (Nat.le_refl _) (Nat.le_refl _) ⟨rfl, rfl⟩
  · refine J_iconst (v := (-1)) E (jd dk_X7_which_0 16 rfl) rfl ?_
    cases hf
    exact J_iret E hr rfl (jd dk_X7_which_0 17 rfl) (Nat.le_refl _) (Nat.le_refl _) ⟨rfl, rfl⟩
set_option maxRecDepth 100000 in
set_option maxHeartbeats 4000000 in
theorem lk_X7_which {G : JG} {l : Launch} (hG : jG G) (htr : l.stackTraces = false) (N : Nat) {h : AH} {a0 : Nat} {a1 : Nat} {r : (Int32 × AH)} (hf : f_X7_which N h a0 a1 = some r) : jMet G l yX7_which cX7_which 3 (some .int) 5 0 0 [.ref a0, .ref a1] h (jpi r) := by
  unfold f_X7_which at hf
  refine jMet_of hG htr (by decide) (Nat.le_of_ble_eq_true rfl) ?_
  intro X E hl9 hr hX _ _
  show JW G X (RX7, cX7_which, 3) h [(0, .ref a0), (1, .ref a1)] [] 0 0 0 (jEnd G X (jpi r) 0 0)
  refine J_iconst (v := 0) E (jd dk_X7_which_0 0 rfl) rfl ?_
  refine J_istore_n (lv' := [(2, .int 0), (0, .ref a0), (1, .ref a1)]) E (jd dk_X7_which_0 1 rfl) rfl (by decide) rfl ?_
  refine J_sub [1, 2, 0] rfl ?_
  exact lk_X7_which_b2 E hX hr N hf
def f_X7_readPart_b56 (N : Nat) (rf : AH → Nat → Int32 → Option AH) (v0 : Nat) (v2 : Int32) (h : AH) : Option AH :=
  (jck 7 h v0).bind fun _ =>
  (f_X7_lay N h v0 ((-1 : Int32) - v2)).bind fun r1 =>
  (jgi 7 r1 v0 24).bind fun x5 =>
  if x5 = 0 then (jck 7 r1 v0).bind fun _ =>
  (f_X7_stepOn N r1 v0).bind fun r8 =>
  some r8
  else some r1
def f_X7_readPart (N : Nat) (rf : AH → Nat → Int32 → Option AH) (h : AH) (a0 : Nat) (a1 : Int32) : Option AH :=
  (jgi 7 h a0 24).bind fun x12 =>
  if x12 = 0 then (jgi 7 h a0 20).bind fun x15 =>
  if x15 = 2 then (jck 7 h a0).bind fun _ =>
  (f_X7_readNumber N h a0 0 9999).bind fun r44 =>
  (jck 7 r44.2 a0).bind fun _ =>
  (f_X7_lay N r44.2 a0 r44.1).bind fun r48 =>
  some r48
  else (jgi 7 h a0 20).bind fun x18 =>
  if x18 = 1 then (jgr 7 h a0 3).bind fun x33 =>
  (jck 7 h a0).bind fun _ =>
  (f_X7_which N h a0 x33).bind fun r35 =>
  if r35.1 = ((-1)) then (jck 7 r35.2 a0).bind fun _ =>
  (f_X7_wrong N r35.2 a0 3).bind fun r40 =>
  f_X7_readPart_b56 N rf a0 r35.1 r40
  else f_X7_readPart_b56 N rf a0 r35.1 r35.2
  else (jck 7 h a0).bind fun _ =>
  (f_X7_mark N h a0 40).bind fun r21 =>
  (jck 7 r21 a0).bind fun _ =>
  (rf r21 a0 (a1 + 1)).bind fun r25 =>
  (jck 7 r25 a0).bind fun _ =>
  (f_X7_mark N r25 a0 41).bind fun r29 =>
  some r29
  else some h
set_option maxRecDepth 100000 in
set_option maxHeartbeats 4000000 in
theorem lk_X7_readPart_b56 {G : JG} {X : JX} {dR : Nat} (E : jE G X (RX7, cX7_readPart, 3)) (hX : X.2.2.2.1 = jRm (dR + 10) 0 0) (hr : X.2.2.2.2.2.2.2.2.1.sig.returnType = none) (N : Nat) {rf : AH → Nat → Int32 → Option AH} (hrec : ∀ (h : AH) (a : Nat) (n : Int32) (r : AH), rf h a n = some r → jMet G X.2.1 yX7_readExpression cX7_readExpression 3 none dR 0 0 [.ref a, .int n] h (jpv r)) {v0 : Nat} {v2 : Int32} {h : AH}  {r : AH} (hf : f_X7_readPart_b56 N rf v0 v2 h = some r) : JW G X (RX7, cX7_readPart, 3) h [(0, .ref v0), (2, .int v2)] [] 56 0 0 (jEnd G X (jpv r) 0 0) := by
  unfold f_X7_readPart_b56 at hf
  refine J_aload_n E (jd dk_X7_readPart_0 30 rfl) rfl 0 rfl ?_
  refine J_iconst (v := (-1)) E (jd dk_X7_readPart_0 31 rfl) rfl ?_
  refine J_iload_n E (jd dk_X7_readPart_0 32 rfl) rfl 1 rfl ?_
  refine J_isub E (jd dk_X7_readPart_0 33 rfl) ?_
  obtain ⟨u3, e4, hf⟩ := jbind hf
  obtain ⟨r1, e2, hf⟩ := jbind hf
  refine J_callV E (jd dk_X7_readPart_0 34 rfl) ml_RX7_238 cal_X7_lay e4 rfl (lk_X7_lay (jE_g E) (jE_tr E) N e2) rfl (Nat.le_of_ble_eq_true rfl) (jR_le hX (by omega) (by decide)) (jF0 hX) rfl ?_
  rintro _ _ ⟨rfl, rfl⟩
  refine J_aload_n E (jd dk_X7_readPart_0 35 rfl) rfl 0 rfl ?_
  obtain ⟨x5, e6, hf⟩ := jbind hf
  refine J_geti E (jd dk_X7_readPart_0 36 rfl) fl_RX7_200 e6 ?_
  refine J_if_ne (tgt := 74) E (jd dk_X7_readPart_0 37 rfl) (by decide) (fun c7 => ?_) (fun c7 => ?_)
  · replace hf := jif_f c7 hf
    cases hf
    exact J_vret E hr (jd dk_X7_readPart_0 40 rfl) (Nat.le_refl _) (Nat.le_refl _) ⟨rfl, rfl⟩
  · replace hf := jif_t c7 hf
    refine J_aload_n E (jd dk_X7_readPart_0 38 rfl) rfl 0 rfl ?_
    obtain ⟨u10, e11, hf⟩ := jbind hf
    obtain ⟨r8, e9, hf⟩ := jbind hf
    refine J_callV E (jd dk_X7_readPart_0 39 rfl) ml_RX7_225 cal_X7_stepOn e11 rfl (lk_X7_stepOn (jE_g E) (jE_tr E) N e9) rfl (Nat.le_of_ble_eq_true rfl) (jR_le hX (by omega) (by decide)) (jF0 hX) rfl ?_
    rintro _ _ ⟨rfl, rfl⟩
    cases hf
    exact J_vret E hr (jd dk_X7_readPart_0 40 rfl) (Nat.le_refl _) (Nat.le_refl _) ⟨rfl, rfl⟩
set_option maxRecDepth 100000 in
set_option maxHeartbeats 4000000 in
theorem lk_X7_readPart {G : JG} {l : Launch} (hG : jG G) (htr : l.stackTraces = false) (N : Nat) {rf : AH → Nat → Int32 → Option AH} {dR : Nat} (hrec : ∀ (h : AH) (a : Nat) (n : Int32) (r : AH), rf h a n = some r → jMet G l yX7_readExpression cX7_readExpression 3 none dR 0 0 [.ref a, .int n] h (jpv r)) {h : AH} {a0 : Nat} {a1 : Int32} {r : AH} (hf : f_X7_readPart N rf h a0 a1 = some r) : jMet G l yX7_readPart cX7_readPart 3 none (dR + 10) 0 0 [.ref a0, .int a1] h (jpv r) := by
  unfold f_X7_readPart at hf
  refine jMet_of hG htr (by decide) (Nat.le_of_ble_eq_true rfl) ?_
  intro X E hl9 hr hX _ _
  subst hl9
  show JW G X (RX7, cX7_readPart, 3) h [(0, .ref a0), (1, .int a1)] [] 0 0 0 (jEnd G X (jpv r) 0 0)
  refine J_aload_n E (jd dk_X7_readPart_0 0 rfl) rfl 0 rfl ?_
  obtain ⟨x12, e13, hf⟩ := jbind hf
  refine J_geti E (jd dk_X7_readPart_0 1 rfl) fl_RX7_200 e13 ?_
  refine J_if_eq (tgt := 8) E (jd dk_X7_readPart_0 2 rfl) (by decide) (fun c14 => ?_) (fun c14 => ?_)
  · replace hf := jif_t c14 hf
    refine J_aload_n E (jd dk_X7_readPart_0 4 rfl) rfl 0 rfl ?_
    obtain ⟨x15, e16, hf⟩ := jbind hf
    refine J_geti E (jd dk_X7_readPart_0 5 rfl) fl_RX7_174 e16 ?_
    refine J_iconst (v := 2) E (jd dk_X7_readPart_0 6 rfl) rfl ?_
    refine J_icmp_ne (tgt := 29) E (jd dk_X7_readPart_0 7 rfl) (by decide) (fun c17 => ?_) (fun c17 => ?_)
    · replace hf := jif_f c17 hf
      refine J_aload_n E (jd dk_X7_readPart_0 15 rfl) rfl 0 rfl ?_
      obtain ⟨x18, e19, hf⟩ := jbind hf
      refine J_geti E (jd dk_X7_readPart_0 16 rfl) fl_RX7_174 e19 ?_
      refine J_iconst (v := 1) E (jd dk_X7_readPart_0 17 rfl) rfl ?_
      refine J_icmp_ne (tgt := 75) E (jd dk_X7_readPart_0 18 rfl) (by decide) (fun c20 => ?_) (fun c20 => ?_)
      · replace hf := jif_f c20 hf
        refine J_aload_n E (jd dk_X7_readPart_0 41 rfl) rfl 0 rfl ?_
        refine J_bipush (v := 40) E (jd dk_X7_readPart_0 42 rfl) (by decide) ?_
        obtain ⟨u23, e24, hf⟩ := jbind hf
        obtain ⟨r21, e22, hf⟩ := jbind hf
        refine J_callV E (jd dk_X7_readPart_0 43 rfl) ml_RX7_245 cal_X7_mark e24 rfl (lk_X7_mark (jE_g E) (jE_tr E) N e22) rfl (Nat.le_of_ble_eq_true rfl) (jR_le hX (by omega) (by decide)) (jF0 hX) rfl ?_
        rintro _ _ ⟨rfl, rfl⟩
        refine J_aload_n E (jd dk_X7_readPart_0 44 rfl) rfl 0 rfl ?_
        refine J_iload_n E (jd dk_X7_readPart_0 45 rfl) rfl 1 rfl ?_
        refine J_iconst (v := 1) E (jd dk_X7_readPart_0 46 rfl) rfl ?_
        refine J_iadd E (jd dk_X7_readPart_0 47 rfl) ?_
        obtain ⟨u27, e28, hf⟩ := jbind hf
        obtain ⟨r25, e26, hf⟩ := jbind hf
        refine J_callV E (jd dk_X7_readPart_0 48 rfl) ml_RX7_248 cal_X7_readExpression e28 rfl (hrec _ _ _ _ e26) rfl (Nat.le_of_ble_eq_true rfl) (jR_le hX (by omega) (by decide)) (jF0 hX) rfl ?_
        rintro _ _ ⟨rfl, rfl⟩
        refine J_aload_n E (jd dk_X7_readPart_0 49 rfl) rfl 0 rfl ?_
        refine J_bipush (v := 41) E (jd dk_X7_readPart_1 0 rfl) (by decide) ?_
        obtain ⟨u31, e32, hf⟩ := jbind hf
        obtain ⟨r29, e30, hf⟩ := jbind hf
        refine J_callV E (jd dk_X7_readPart_1 1 rfl) ml_RX7_245 cal_X7_mark e32 rfl (lk_X7_mark (jE_g E) (jE_tr E) N e30) rfl (Nat.le_of_ble_eq_true rfl) (jR_le hX (by omega) (by decide)) (jF0 hX) rfl ?_
        rintro _ _ ⟨rfl, rfl⟩
        cases hf
        exact J_vret E hr (jd dk_X7_readPart_1 2 rfl) (Nat.le_refl _) (Nat.le_refl _) ⟨rfl, rfl⟩
      · replace hf := jif_t c20 hf
        refine J_aload_n E (jd dk_X7_readPart_0 19 rfl) rfl 0 rfl ?_
        refine J_aload_n E (jd dk_X7_readPart_0 20 rfl) rfl 0 rfl ?_
        obtain ⟨x33, e34, hf⟩ := jbind hf
        refine J_getr E (jd dk_X7_readPart_0 21 rfl) fl_RX7_39 e34 ?_
        obtain ⟨u37, e38, hf⟩ := jbind hf
        obtain ⟨r35, e36, hf⟩ := jbind hf
        refine J_callV E (jd dk_X7_readPart_0 22 rfl) ml_RX7_241 cal_X7_which e38 rfl (lk_X7_which (jE_g E) (jE_tr E) N e36) rfl (Nat.le_of_ble_eq_true rfl) (jR_le hX (by omega) (by decide)) (jF0 hX) rfl ?_
        rintro _ _ ⟨rfl, rfl⟩
        refine J_istore_n (lv' := [(2, .int r35.1), (0, .ref a0), (1, .int a1)]) E (jd dk_X7_readPart_0 23 rfl) rfl (by decide) rfl ?_
        refine J_iload_n E (jd dk_X7_readPart_0 24 rfl) rfl 0 rfl ?_
        refine J_iconst (v := (-1)) E (jd dk_X7_readPart_0 25 rfl) rfl ?_
        refine J_icmp_ne (tgt := 56) E (jd dk_X7_readPart_0 26 rfl) (by decide) (fun c39 => ?_) (fun c39 => ?_)
        · replace hf := jif_f c39 hf
          refine J_sub [1, 0] rfl ?_
          exact lk_X7_readPart_b56 E hX hr N hrec hf
        · replace hf := jif_t c39 hf
          refine J_aload_n E (jd dk_X7_readPart_0 27 rfl) rfl 1 rfl ?_
          refine J_iconst (v := 3) E (jd dk_X7_readPart_0 28 rfl) rfl ?_
          obtain ⟨u42, e43, hf⟩ := jbind hf
          obtain ⟨r40, e41, hf⟩ := jbind hf
          refine J_callV E (jd dk_X7_readPart_0 29 rfl) ml_RX7_221 cal_X7_wrong e43 rfl (lk_X7_wrong (jE_g E) (jE_tr E) N e41) rfl (Nat.le_of_ble_eq_true rfl) (jR_le hX (by omega) (by decide)) (jF0 hX) rfl ?_
          rintro _ _ ⟨rfl, rfl⟩
          refine J_sub [1, 0] rfl ?_
          exact lk_X7_readPart_b56 E hX hr N hrec hf
    · replace hf := jif_t c17 hf
      refine J_aload_n E (jd dk_X7_readPart_0 8 rfl) rfl 0 rfl ?_
      refine J_aload_n E (jd dk_X7_readPart_0 9 rfl) rfl 0 rfl ?_
      refine J_iconst (v := 0) E (jd dk_X7_readPart_0 10 rfl) rfl ?_
      refine J_sipush (v := 9999) E (jd dk_X7_readPart_0 11 rfl) (by decide) ?_
      obtain ⟨u46, e47, hf⟩ := jbind hf
      obtain ⟨r44, e45, hf⟩ := jbind hf
      refine J_callV E (jd dk_X7_readPart_0 12 rfl) ml_RX7_235 cal_X7_readNumber e47 rfl (lk_X7_readNumber (jE_g E) (jE_tr E) N e45) rfl (Nat.le_of_ble_eq_true rfl) (jR_le hX (by omega) (by decide)) (jF0 hX) rfl ?_
      rintro _ _ ⟨rfl, rfl⟩
      obtain ⟨u50, e51, hf⟩ := jbind hf
      obtain ⟨r48, e49, hf⟩ := jbind hf
      refine J_callV E (jd dk_X7_readPart_0 13 rfl) ml_RX7_238 cal_X7_lay e51 rfl (lk_X7_lay (jE_g E) (jE_tr E) N e49) rfl (Nat.le_of_ble_eq_true rfl) (jR_le hX (by omega) (by decide)) (jF0 hX) rfl ?_
      rintro _ _ ⟨rfl, rfl⟩
      cases hf
      exact J_vret E hr (jd dk_X7_readPart_0 14 rfl) (Nat.le_refl _) (Nat.le_refl _) ⟨rfl, rfl⟩
  · replace hf := jif_f c14 hf
    cases hf
    exact J_vret E hr (jd dk_X7_readPart_0 3 rfl) (Nat.le_refl _) (Nat.le_refl _) ⟨rfl, rfl⟩
def f_X7_readProduct_b39 (N : Nat) (rf : AH → Nat → Int32 → Option AH) (v0 : Nat) (v1 : Int32) (w0 : Int32) (h : AH) : Option ((AH) ⊕ ((AH))) :=
  (jck 7 h v0).bind fun _ =>
  (f_X7_stepOn N h v0).bind fun r1 =>
  (jck 7 r1 v0).bind fun _ =>
  (f_X7_readPart N rf r1 v0 v1).bind fun r5 =>
  (jck 7 r5 v0).bind fun _ =>
  (f_X7_lay N r5 v0 w0).bind fun r9 =>
  some (.inl r9)
def f_X7_readProduct_b23 (N : Nat) (rf : AH → Nat → Int32 → Option AH) (v0 : Nat) (v1 : Int32) (h : AH) : Option ((AH) ⊕ ((AH))) :=
  (jck 7 h v0).bind fun _ =>
  (f_X7_isMarked N h v0 42).bind fun r13 =>
  if r13.1 = 0 then f_X7_readProduct_b39 N rf v0 v1 ((-23)) r13.2
  else f_X7_readProduct_b39 N rf v0 v1 ((-22)) r13.2
def f_X7_readProduct_l5 (N : Nat) (rf : AH → Nat → Int32 → Option AH) (v0 : Nat) (v1 : Int32)  (h : AH) : Option ((AH) ⊕ ((AH))) :=
  (jck 7 h v0).bind fun _ =>
  (f_X7_isMarked N h v0 42).bind fun r18 =>
  if r18.1 = 0 then (jck 7 r18.2 v0).bind fun _ =>
  (f_X7_isMarked N r18.2 v0 47).bind fun r23 =>
  if r23.1 = 0 then some (.inr r23.2)
  else f_X7_readProduct_b23 N rf v0 v1 r23.2
  else f_X7_readProduct_b23 N rf v0 v1 r18.2
def f_X7_readProduct_b5 (N : Nat) (rf : AH → Nat → Int32 → Option AH) (v0 : Nat) (v1 : Int32) (h : AH) : Option AH :=
  (itr (fun s => f_X7_readProduct_l5 N rf v0 v1 s) N h).bind (fun e => some e)
def f_X7_readProduct (N : Nat) (rf : AH → Nat → Int32 → Option AH) (h : AH) (a0 : Nat) (a1 : Int32) : Option AH :=
  (jck 7 h a0).bind fun _ =>
  (f_X7_readPart N rf h a0 a1).bind fun r28 =>
  f_X7_readProduct_b5 N rf a0 a1 r28
set_option maxRecDepth 100000 in
set_option maxHeartbeats 4000000 in
theorem lk_X7_readProduct_b39 {G : JG} {X : JX} {dR : Nat} (E : jE G X (RX7, cX7_readProduct, 3)) (hX : X.2.2.2.1 = jRm (dR + 11) 0 0) (hr : X.2.2.2.2.2.2.2.2.1.sig.returnType = none) (N : Nat) {rf : AH → Nat → Int32 → Option AH} (hrec : ∀ (h : AH) (a : Nat) (n : Int32) (r : AH), rf h a n = some r → jMet G X.2.1 yX7_readExpression cX7_readExpression 3 none dR 0 0 [.ref a, .int n] h (jpv r)) {Q : State → Prop} {v0 : Nat} {v1 : Int32} {w0 : Int32} {h : AH}  {q : ((AH) ⊕ ((AH)))} (hf : f_X7_readProduct_b39 N rf v0 v1 w0 h = some q) (kb : ∀ s' : AH, q = .inl s' → JW G X (RX7, cX7_readProduct, 3) s' [(0, .ref v0), (1, .int v1)] [] 5 0 0 Q) (ke0 : ∀ e : AH, q = .inr e → JW G X (RX7, cX7_readProduct, 3) e [] [] 57 0 0 Q) : JW G X (RX7, cX7_readProduct, 3) h [(0, .ref v0), (1, .int v1)] [.int w0] 39 0 0 Q := by
  unfold f_X7_readProduct_b39 at hf
  refine J_istore_n (lv' := [(2, .int w0), (0, .ref v0), (1, .int v1)]) E (jd dk_X7_readProduct_0 18 rfl) rfl (by decide) rfl ?_
  refine J_aload_n E (jd dk_X7_readProduct_0 19 rfl) rfl 1 rfl ?_
  obtain ⟨u3, e4, hf⟩ := jbind hf
  obtain ⟨r1, e2, hf⟩ := jbind hf
  refine J_callV E (jd dk_X7_readProduct_0 20 rfl) ml_RX7_225 cal_X7_stepOn e4 rfl (lk_X7_stepOn (jE_g E) (jE_tr E) N e2) rfl (Nat.le_of_ble_eq_true rfl) (jR_le hX (by omega) (by decide)) (jF0 hX) rfl ?_
  rintro _ _ ⟨rfl, rfl⟩
  refine J_aload_n E (jd dk_X7_readProduct_0 21 rfl) rfl 1 rfl ?_
  refine J_iload_n E (jd dk_X7_readProduct_0 22 rfl) rfl 2 rfl ?_
  obtain ⟨u7, e8, hf⟩ := jbind hf
  obtain ⟨r5, e6, hf⟩ := jbind hf
  refine J_callV E (jd dk_X7_readProduct_0 23 rfl) ml_RX7_251 cal_X7_readPart e8 rfl (lk_X7_readPart (jE_g E) (jE_tr E) N hrec e6) rfl (Nat.le_of_ble_eq_true rfl) (jR_le hX (by omega) (by decide)) (jF0 hX) rfl ?_
  rintro _ _ ⟨rfl, rfl⟩
  refine J_aload_n E (jd dk_X7_readProduct_0 24 rfl) rfl 1 rfl ?_
  refine J_iload_n E (jd dk_X7_readProduct_0 25 rfl) rfl 0 rfl ?_
  obtain ⟨u11, e12, hf⟩ := jbind hf
  obtain ⟨r9, e10, hf⟩ := jbind hf
  refine J_callV E (jd dk_X7_readProduct_0 26 rfl) ml_RX7_238 cal_X7_lay e12 rfl (lk_X7_lay (jE_g E) (jE_tr E) N e10) rfl (Nat.le_of_ble_eq_true rfl) (jR_le hX (by omega) (by decide)) (jF0 hX) rfl ?_
  rintro _ _ ⟨rfl, rfl⟩
  refine J_goto (tgt := 5) E (jd dk_X7_readProduct_0 27 rfl) (by decide) ?_
  refine J_sub [1, 2] rfl ?_
  exact kb _ (Option.some.inj hf).symm
set_option maxRecDepth 100000 in
set_option maxHeartbeats 4000000 in
theorem lk_X7_readProduct_b23 {G : JG} {X : JX} {dR : Nat} (E : jE G X (RX7, cX7_readProduct, 3)) (hX : X.2.2.2.1 = jRm (dR + 11) 0 0) (hr : X.2.2.2.2.2.2.2.2.1.sig.returnType = none) (N : Nat) {rf : AH → Nat → Int32 → Option AH} (hrec : ∀ (h : AH) (a : Nat) (n : Int32) (r : AH), rf h a n = some r → jMet G X.2.1 yX7_readExpression cX7_readExpression 3 none dR 0 0 [.ref a, .int n] h (jpv r)) {Q : State → Prop} {v0 : Nat} {v1 : Int32} {h : AH}  {q : ((AH) ⊕ ((AH)))} (hf : f_X7_readProduct_b23 N rf v0 v1 h = some q) (kb : ∀ s' : AH, q = .inl s' → JW G X (RX7, cX7_readProduct, 3) s' [(0, .ref v0), (1, .int v1)] [] 5 0 0 Q) (ke0 : ∀ e : AH, q = .inr e → JW G X (RX7, cX7_readProduct, 3) e [] [] 57 0 0 Q) : JW G X (RX7, cX7_readProduct, 3) h [(0, .ref v0), (1, .int v1)] [] 23 0 0 Q := by
  unfold f_X7_readProduct_b23 at hf
  refine J_aload_n E (jd dk_X7_readProduct_0 11 rfl) rfl 0 rfl ?_
  refine J_bipush (v := 42) E (jd dk_X7_readProduct_0 12 rfl) (by decide) ?_
  obtain ⟨u15, e16, hf⟩ := jbind hf
  obtain ⟨r13, e14, hf⟩ := jbind hf
  refine J_callV E (jd dk_X7_readProduct_0 13 rfl) ml_RX7_218 cal_X7_isMarked e16 rfl (lk_X7_isMarked (jE_g E) (jE_tr E) N e14) rfl (Nat.le_of_ble_eq_true rfl) (jR_le hX (by omega) (by decide)) (jF0 hX) rfl ?_
  rintro _ _ ⟨rfl, rfl⟩
  refine J_if_eq (tgt := 37) E (jd dk_X7_readProduct_0 14 rfl) (by decide) (fun c17 => ?_) (fun c17 => ?_)
  · replace hf := jif_t c17 hf
    refine J_bipush (v := (-23)) E (jd dk_X7_readProduct_0 17 rfl) (by decide) ?_
    exact lk_X7_readProduct_b39 E hX hr N hrec hf kb ke0
  · replace hf := jif_f c17 hf
    refine J_bipush (v := (-22)) E (jd dk_X7_readProduct_0 15 rfl) (by decide) ?_
    refine J_goto (tgt := 39) E (jd dk_X7_readProduct_0 16 rfl) (by decide) ?_
    exact lk_X7_readProduct_b39 E hX hr N hrec hf kb ke0
set_option maxRecDepth 100000 in
set_option maxHeartbeats 4000000 in
theorem lk_X7_readProduct_l5 {G : JG} {X : JX} {dR : Nat} (E : jE G X (RX7, cX7_readProduct, 3)) (hX : X.2.2.2.1 = jRm (dR + 11) 0 0) (hr : X.2.2.2.2.2.2.2.2.1.sig.returnType = none) (N : Nat) {rf : AH → Nat → Int32 → Option AH} (hrec : ∀ (h : AH) (a : Nat) (n : Int32) (r : AH), rf h a n = some r → jMet G X.2.1 yX7_readExpression cX7_readExpression 3 none dR 0 0 [.ref a, .int n] h (jpv r)) {Q : State → Prop} {v0 : Nat} {v1 : Int32}   {h : AH} {q : ((AH) ⊕ ((AH)))} (hf : f_X7_readProduct_l5 N rf v0 v1 h = some q) (kb : ∀ s' : AH, q = .inl s' → JW G X (RX7, cX7_readProduct, 3) s' [(0, .ref v0), (1, .int v1)] [] 5 0 0 Q) (ke0 : ∀ e : AH, q = .inr e → JW G X (RX7, cX7_readProduct, 3) e [] [] 57 0 0 Q) : JW G X (RX7, cX7_readProduct, 3) h [(0, .ref v0), (1, .int v1)] [] 5 0 0 Q := by
  unfold f_X7_readProduct_l5 at hf
  refine J_aload_n E (jd dk_X7_readProduct_0 3 rfl) rfl 0 rfl ?_
  refine J_bipush (v := 42) E (jd dk_X7_readProduct_0 4 rfl) (by decide) ?_
  obtain ⟨u20, e21, hf⟩ := jbind hf
  obtain ⟨r18, e19, hf⟩ := jbind hf
  refine J_callV E (jd dk_X7_readProduct_0 5 rfl) ml_RX7_218 cal_X7_isMarked e21 rfl (lk_X7_isMarked (jE_g E) (jE_tr E) N e19) rfl (Nat.le_of_ble_eq_true rfl) (jR_le hX (by omega) (by decide)) (jF0 hX) rfl ?_
  rintro _ _ ⟨rfl, rfl⟩
  refine J_if_ne (tgt := 23) E (jd dk_X7_readProduct_0 6 rfl) (by decide) (fun c22 => ?_) (fun c22 => ?_)
  · replace hf := jif_f c22 hf
    exact lk_X7_readProduct_b23 E hX hr N hrec hf kb ke0
  · replace hf := jif_t c22 hf
    refine J_aload_n E (jd dk_X7_readProduct_0 7 rfl) rfl 0 rfl ?_
    refine J_bipush (v := 47) E (jd dk_X7_readProduct_0 8 rfl) (by decide) ?_
    obtain ⟨u25, e26, hf⟩ := jbind hf
    obtain ⟨r23, e24, hf⟩ := jbind hf
    refine J_callV E (jd dk_X7_readProduct_0 9 rfl) ml_RX7_218 cal_X7_isMarked e26 rfl (lk_X7_isMarked (jE_g E) (jE_tr E) N e24) rfl (Nat.le_of_ble_eq_true rfl) (jR_le hX (by omega) (by decide)) (jF0 hX) rfl ?_
    rintro _ _ ⟨rfl, rfl⟩
    refine J_if_eq (tgt := 57) E (jd dk_X7_readProduct_0 10 rfl) (by decide) (fun c27 => ?_) (fun c27 => ?_)
    · replace hf := jif_t c27 hf
      refine J_sub [] rfl ?_
      exact ke0 _ (Option.some.inj hf).symm
    · replace hf := jif_f c27 hf
      exact lk_X7_readProduct_b23 E hX hr N hrec hf kb ke0
set_option maxRecDepth 100000 in
set_option maxHeartbeats 4000000 in
theorem lk_X7_readProduct_b5 {G : JG} {X : JX} {dR : Nat} (E : jE G X (RX7, cX7_readProduct, 3)) (hX : X.2.2.2.1 = jRm (dR + 11) 0 0) (hr : X.2.2.2.2.2.2.2.2.1.sig.returnType = none) (N : Nat) {rf : AH → Nat → Int32 → Option AH} (hrec : ∀ (h : AH) (a : Nat) (n : Int32) (r : AH), rf h a n = some r → jMet G X.2.1 yX7_readExpression cX7_readExpression 3 none dR 0 0 [.ref a, .int n] h (jpv r)) {v0 : Nat} {v1 : Int32} {h : AH}  {r : AH} (hf : f_X7_readProduct_b5 N rf v0 v1 h = some r) : JW G X (RX7, cX7_readProduct, 3) h [(0, .ref v0), (1, .int v1)] [] 5 0 0 (jEnd G X (jpv r) 0 0) := by
  unfold f_X7_readProduct_b5 at hf
  obtain ⟨q1, h1, hf⟩ := jbind hf
  refine jloop (P := fun s => JW G X (RX7, cX7_readProduct, 3) s [(0, .ref v0), (1, .int v1)] [] 5 0 0 (jEnd G X (jpv r) 0 0)) (Ex := fun (e : AH) => JW G X (RX7, cX7_readProduct, 3) e [] [] 57 0 0 (jEnd G X (jpv r) 0 0)) (fun s q hs hb hx => lk_X7_readProduct_l5 E hX hr N hrec hs (fun s' hs => hb s' hs) (fun e he => hx e he)) N _ q1 h1 ?_
  generalize q1 = e at hf ⊢
  cases hf
  exact J_vret E hr (jd dk_X7_readProduct_0 28 rfl) (Nat.le_refl _) (Nat.le_refl _) ⟨rfl, rfl⟩
set_option maxRecDepth 100000 in
set_option maxHeartbeats 4000000 in
theorem lk_X7_readProduct {G : JG} {l : Launch} (hG : jG G) (htr : l.stackTraces = false) (N : Nat) {rf : AH → Nat → Int32 → Option AH} {dR : Nat} (hrec : ∀ (h : AH) (a : Nat) (n : Int32) (r : AH), rf h a n = some r → jMet G l yX7_readExpression cX7_readExpression 3 none dR 0 0 [.ref a, .int n] h (jpv r)) {h : AH} {a0 : Nat} {a1 : Int32} {r : AH} (hf : f_X7_readProduct N rf h a0 a1 = some r) : jMet G l yX7_readProduct cX7_readProduct 3 none (dR + 11) 0 0 [.ref a0, .int a1] h (jpv r) := by
  unfold f_X7_readProduct at hf
  refine jMet_of hG htr (by decide) (Nat.le_of_ble_eq_true rfl) ?_
  intro X E hl9 hr hX _ _
  subst hl9
  show JW G X (RX7, cX7_readProduct, 3) h [(0, .ref a0), (1, .int a1)] [] 0 0 0 (jEnd G X (jpv r) 0 0)
  refine J_aload_n E (jd dk_X7_readProduct_0 0 rfl) rfl 0 rfl ?_
  refine J_iload_n E (jd dk_X7_readProduct_0 1 rfl) rfl 1 rfl ?_
  obtain ⟨u30, e31, hf⟩ := jbind hf
  obtain ⟨r28, e29, hf⟩ := jbind hf
  refine J_callV E (jd dk_X7_readProduct_0 2 rfl) ml_RX7_251 cal_X7_readPart e31 rfl (lk_X7_readPart (jE_g E) (jE_tr E) N hrec e29) rfl (Nat.le_of_ble_eq_true rfl) (jR_le hX (by omega) (by decide)) (jF0 hX) rfl ?_
  rintro _ _ ⟨rfl, rfl⟩
  exact lk_X7_readProduct_b5 E hX hr N hrec hf
def f_X7_readSum_b39 (N : Nat) (rf : AH → Nat → Int32 → Option AH) (v0 : Nat) (v1 : Int32) (w0 : Int32) (h : AH) : Option ((AH) ⊕ ((AH))) :=
  (jck 7 h v0).bind fun _ =>
  (f_X7_stepOn N h v0).bind fun r1 =>
  (jck 7 r1 v0).bind fun _ =>
  (f_X7_readProduct N rf r1 v0 v1).bind fun r5 =>
  (jck 7 r5 v0).bind fun _ =>
  (f_X7_lay N r5 v0 w0).bind fun r9 =>
  some (.inl r9)
def f_X7_readSum_b23 (N : Nat) (rf : AH → Nat → Int32 → Option AH) (v0 : Nat) (v1 : Int32) (h : AH) : Option ((AH) ⊕ ((AH))) :=
  (jck 7 h v0).bind fun _ =>
  (f_X7_isMarked N h v0 43).bind fun r13 =>
  if r13.1 = 0 then f_X7_readSum_b39 N rf v0 v1 ((-21)) r13.2
  else f_X7_readSum_b39 N rf v0 v1 ((-20)) r13.2
def f_X7_readSum_l5 (N : Nat) (rf : AH → Nat → Int32 → Option AH) (v0 : Nat) (v1 : Int32)  (h : AH) : Option ((AH) ⊕ ((AH))) :=
  (jck 7 h v0).bind fun _ =>
  (f_X7_isMarked N h v0 43).bind fun r18 =>
  if r18.1 = 0 then (jck 7 r18.2 v0).bind fun _ =>
  (f_X7_isMarked N r18.2 v0 45).bind fun r23 =>
  if r23.1 = 0 then some (.inr r23.2)
  else f_X7_readSum_b23 N rf v0 v1 r23.2
  else f_X7_readSum_b23 N rf v0 v1 r18.2
def f_X7_readSum_b5 (N : Nat) (rf : AH → Nat → Int32 → Option AH) (v0 : Nat) (v1 : Int32) (h : AH) : Option AH :=
  (itr (fun s => f_X7_readSum_l5 N rf v0 v1 s) N h).bind (fun e => some e)
def f_X7_readSum (N : Nat) (rf : AH → Nat → Int32 → Option AH) (h : AH) (a0 : Nat) (a1 : Int32) : Option AH :=
  (jck 7 h a0).bind fun _ =>
  (f_X7_readProduct N rf h a0 a1).bind fun r28 =>
  f_X7_readSum_b5 N rf a0 a1 r28
set_option maxRecDepth 100000 in
set_option maxHeartbeats 4000000 in
theorem lk_X7_readSum_b39 {G : JG} {X : JX} {dR : Nat} (E : jE G X (RX7, cX7_readSum, 3)) (hX : X.2.2.2.1 = jRm (dR + 12) 0 0) (hr : X.2.2.2.2.2.2.2.2.1.sig.returnType = none) (N : Nat) {rf : AH → Nat → Int32 → Option AH} (hrec : ∀ (h : AH) (a : Nat) (n : Int32) (r : AH), rf h a n = some r → jMet G X.2.1 yX7_readExpression cX7_readExpression 3 none dR 0 0 [.ref a, .int n] h (jpv r)) {Q : State → Prop} {v0 : Nat} {v1 : Int32} {w0 : Int32} {h : AH}  {q : ((AH) ⊕ ((AH)))} (hf : f_X7_readSum_b39 N rf v0 v1 w0 h = some q) (kb : ∀ s' : AH, q = .inl s' → JW G X (RX7, cX7_readSum, 3) s' [(0, .ref v0), (1, .int v1)] [] 5 0 0 Q) (ke0 : ∀ e : AH, q = .inr e → JW G X (RX7, cX7_readSum, 3) e [] [] 57 0 0 Q) : JW G X (RX7, cX7_readSum, 3) h [(0, .ref v0), (1, .int v1)] [.int w0] 39 0 0 Q := by
  unfold f_X7_readSum_b39 at hf
  refine J_istore_n (lv' := [(2, .int w0), (0, .ref v0), (1, .int v1)]) E (jd dk_X7_readSum_0 18 rfl) rfl (by decide) rfl ?_
  refine J_aload_n E (jd dk_X7_readSum_0 19 rfl) rfl 1 rfl ?_
  obtain ⟨u3, e4, hf⟩ := jbind hf
  obtain ⟨r1, e2, hf⟩ := jbind hf
  refine J_callV E (jd dk_X7_readSum_0 20 rfl) ml_RX7_225 cal_X7_stepOn e4 rfl (lk_X7_stepOn (jE_g E) (jE_tr E) N e2) rfl (Nat.le_of_ble_eq_true rfl) (jR_le hX (by omega) (by decide)) (jF0 hX) rfl ?_
  rintro _ _ ⟨rfl, rfl⟩
  refine J_aload_n E (jd dk_X7_readSum_0 21 rfl) rfl 1 rfl ?_
  refine J_iload_n E (jd dk_X7_readSum_0 22 rfl) rfl 2 rfl ?_
  obtain ⟨u7, e8, hf⟩ := jbind hf
  obtain ⟨r5, e6, hf⟩ := jbind hf
  refine J_callV E (jd dk_X7_readSum_0 23 rfl) ml_RX7_254 cal_X7_readProduct e8 rfl (lk_X7_readProduct (jE_g E) (jE_tr E) N hrec e6) rfl (Nat.le_of_ble_eq_true rfl) (jR_le hX (by omega) (by decide)) (jF0 hX) rfl ?_
  rintro _ _ ⟨rfl, rfl⟩
  refine J_aload_n E (jd dk_X7_readSum_0 24 rfl) rfl 1 rfl ?_
  refine J_iload_n E (jd dk_X7_readSum_0 25 rfl) rfl 0 rfl ?_
  obtain ⟨u11, e12, hf⟩ := jbind hf
  obtain ⟨r9, e10, hf⟩ := jbind hf
  refine J_callV E (jd dk_X7_readSum_0 26 rfl) ml_RX7_238 cal_X7_lay e12 rfl (lk_X7_lay (jE_g E) (jE_tr E) N e10) rfl (Nat.le_of_ble_eq_true rfl) (jR_le hX (by omega) (by decide)) (jF0 hX) rfl ?_
  rintro _ _ ⟨rfl, rfl⟩
  refine J_goto (tgt := 5) E (jd dk_X7_readSum_0 27 rfl) (by decide) ?_
  refine J_sub [1, 2] rfl ?_
  exact kb _ (Option.some.inj hf).symm
set_option maxRecDepth 100000 in
set_option maxHeartbeats 4000000 in
theorem lk_X7_readSum_b23 {G : JG} {X : JX} {dR : Nat} (E : jE G X (RX7, cX7_readSum, 3)) (hX : X.2.2.2.1 = jRm (dR + 12) 0 0) (hr : X.2.2.2.2.2.2.2.2.1.sig.returnType = none) (N : Nat) {rf : AH → Nat → Int32 → Option AH} (hrec : ∀ (h : AH) (a : Nat) (n : Int32) (r : AH), rf h a n = some r → jMet G X.2.1 yX7_readExpression cX7_readExpression 3 none dR 0 0 [.ref a, .int n] h (jpv r)) {Q : State → Prop} {v0 : Nat} {v1 : Int32} {h : AH}  {q : ((AH) ⊕ ((AH)))} (hf : f_X7_readSum_b23 N rf v0 v1 h = some q) (kb : ∀ s' : AH, q = .inl s' → JW G X (RX7, cX7_readSum, 3) s' [(0, .ref v0), (1, .int v1)] [] 5 0 0 Q) (ke0 : ∀ e : AH, q = .inr e → JW G X (RX7, cX7_readSum, 3) e [] [] 57 0 0 Q) : JW G X (RX7, cX7_readSum, 3) h [(0, .ref v0), (1, .int v1)] [] 23 0 0 Q := by
  unfold f_X7_readSum_b23 at hf
  refine J_aload_n E (jd dk_X7_readSum_0 11 rfl) rfl 0 rfl ?_
  refine J_bipush (v := 43) E (jd dk_X7_readSum_0 12 rfl) (by decide) ?_
  obtain ⟨u15, e16, hf⟩ := jbind hf
  obtain ⟨r13, e14, hf⟩ := jbind hf
  refine J_callV E (jd dk_X7_readSum_0 13 rfl) ml_RX7_218 cal_X7_isMarked e16 rfl (lk_X7_isMarked (jE_g E) (jE_tr E) N e14) rfl (Nat.le_of_ble_eq_true rfl) (jR_le hX (by omega) (by decide)) (jF0 hX) rfl ?_
  rintro _ _ ⟨rfl, rfl⟩
  refine J_if_eq (tgt := 37) E (jd dk_X7_readSum_0 14 rfl) (by decide) (fun c17 => ?_) (fun c17 => ?_)
  · replace hf := jif_t c17 hf
    refine J_bipush (v := (-21)) E (jd dk_X7_readSum_0 17 rfl) (by decide) ?_
    exact lk_X7_readSum_b39 E hX hr N hrec hf kb ke0
  · replace hf := jif_f c17 hf
    refine J_bipush (v := (-20)) E (jd dk_X7_readSum_0 15 rfl) (by decide) ?_
    refine J_goto (tgt := 39) E (jd dk_X7_readSum_0 16 rfl) (by decide) ?_
    exact lk_X7_readSum_b39 E hX hr N hrec hf kb ke0
set_option maxRecDepth 100000 in
set_option maxHeartbeats 4000000 in
theorem lk_X7_readSum_l5 {G : JG} {X : JX} {dR : Nat} (E : jE G X (RX7, cX7_readSum, 3)) (hX : X.2.2.2.1 = jRm (dR + 12) 0 0) (hr : X.2.2.2.2.2.2.2.2.1.sig.returnType = none) (N : Nat) {rf : AH → Nat → Int32 → Option AH} (hrec : ∀ (h : AH) (a : Nat) (n : Int32) (r : AH), rf h a n = some r → jMet G X.2.1 yX7_readExpression cX7_readExpression 3 none dR 0 0 [.ref a, .int n] h (jpv r)) {Q : State → Prop} {v0 : Nat} {v1 : Int32}   {h : AH} {q : ((AH) ⊕ ((AH)))} (hf : f_X7_readSum_l5 N rf v0 v1 h = some q) (kb : ∀ s' : AH, q = .inl s' → JW G X (RX7, cX7_readSum, 3) s' [(0, .ref v0), (1, .int v1)] [] 5 0 0 Q) (ke0 : ∀ e : AH, q = .inr e → JW G X (RX7, cX7_readSum, 3) e [] [] 57 0 0 Q) : JW G X (RX7, cX7_readSum, 3) h [(0, .ref v0), (1, .int v1)] [] 5 0 0 Q := by
  unfold f_X7_readSum_l5 at hf
  refine J_aload_n E (jd dk_X7_readSum_0 3 rfl) rfl 0 rfl ?_
  refine J_bipush (v := 43) E (jd dk_X7_readSum_0 4 rfl) (by decide) ?_
  obtain ⟨u20, e21, hf⟩ := jbind hf
  obtain ⟨r18, e19, hf⟩ := jbind hf
  refine J_callV E (jd dk_X7_readSum_0 5 rfl) ml_RX7_218 cal_X7_isMarked e21 rfl (lk_X7_isMarked (jE_g E) (jE_tr E) N e19) rfl (Nat.le_of_ble_eq_true rfl) (jR_le hX (by omega) (by decide)) (jF0 hX) rfl ?_
  rintro _ _ ⟨rfl, rfl⟩
  refine J_if_ne (tgt := 23) E (jd dk_X7_readSum_0 6 rfl) (by decide) (fun c22 => ?_) (fun c22 => ?_)
  · replace hf := jif_f c22 hf
    exact lk_X7_readSum_b23 E hX hr N hrec hf kb ke0
  · replace hf := jif_t c22 hf
    refine J_aload_n E (jd dk_X7_readSum_0 7 rfl) rfl 0 rfl ?_
    refine J_bipush (v := 45) E (jd dk_X7_readSum_0 8 rfl) (by decide) ?_
    obtain ⟨u25, e26, hf⟩ := jbind hf
    obtain ⟨r23, e24, hf⟩ := jbind hf
    refine J_callV E (jd dk_X7_readSum_0 9 rfl) ml_RX7_218 cal_X7_isMarked e26 rfl (lk_X7_isMarked (jE_g E) (jE_tr E) N e24) rfl (Nat.le_of_ble_eq_true rfl) (jR_le hX (by omega) (by decide)) (jF0 hX) rfl ?_
    rintro _ _ ⟨rfl, rfl⟩
    refine J_if_eq (tgt := 57) E (jd dk_X7_readSum_0 10 rfl) (by decide) (fun c27 => ?_) (fun c27 => ?_)
    · replace hf := jif_t c27 hf
      refine J_sub [] rfl ?_
      exact ke0 _ (Option.some.inj hf).symm
    · replace hf := jif_f c27 hf
      exact lk_X7_readSum_b23 E hX hr N hrec hf kb ke0
set_option maxRecDepth 100000 in
set_option maxHeartbeats 4000000 in
theorem lk_X7_readSum_b5 {G : JG} {X : JX} {dR : Nat} (E : jE G X (RX7, cX7_readSum, 3)) (hX : X.2.2.2.1 = jRm (dR + 12) 0 0) (hr : X.2.2.2.2.2.2.2.2.1.sig.returnType = none) (N : Nat) {rf : AH → Nat → Int32 → Option AH} (hrec : ∀ (h : AH) (a : Nat) (n : Int32) (r : AH), rf h a n = some r → jMet G X.2.1 yX7_readExpression cX7_readExpression 3 none dR 0 0 [.ref a, .int n] h (jpv r)) {v0 : Nat} {v1 : Int32} {h : AH}  {r : AH} (hf : f_X7_readSum_b5 N rf v0 v1 h = some r) : JW G X (RX7, cX7_readSum, 3) h [(0, .ref v0), (1, .int v1)] [] 5 0 0 (jEnd G X (jpv r) 0 0) := by
  unfold f_X7_readSum_b5 at hf
  obtain ⟨q1, h1, hf⟩ := jbind hf
  refine jloop (P := fun s => JW G X (RX7, cX7_readSum, 3) s [(0, .ref v0), (1, .int v1)] [] 5 0 0 (jEnd G X (jpv r) 0 0)) (Ex := fun (e : AH) => JW G X (RX7, cX7_readSum, 3) e [] [] 57 0 0 (jEnd G X (jpv r) 0 0)) (fun s q hs hb hx => lk_X7_readSum_l5 E hX hr N hrec hs (fun s' hs => hb s' hs) (fun e he => hx e he)) N _ q1 h1 ?_
  generalize q1 = e at hf ⊢
  cases hf
  exact J_vret E hr (jd dk_X7_readSum_0 28 rfl) (Nat.le_refl _) (Nat.le_refl _) ⟨rfl, rfl⟩
set_option maxRecDepth 100000 in
set_option maxHeartbeats 4000000 in
theorem lk_X7_readSum {G : JG} {l : Launch} (hG : jG G) (htr : l.stackTraces = false) (N : Nat) {rf : AH → Nat → Int32 → Option AH} {dR : Nat} (hrec : ∀ (h : AH) (a : Nat) (n : Int32) (r : AH), rf h a n = some r → jMet G l yX7_readExpression cX7_readExpression 3 none dR 0 0 [.ref a, .int n] h (jpv r)) {h : AH} {a0 : Nat} {a1 : Int32} {r : AH} (hf : f_X7_readSum N rf h a0 a1 = some r) : jMet G l yX7_readSum cX7_readSum 3 none (dR + 12) 0 0 [.ref a0, .int a1] h (jpv r) := by
  unfold f_X7_readSum at hf
  refine jMet_of hG htr (by decide) (Nat.le_of_ble_eq_true rfl) ?_
  intro X E hl9 hr hX _ _
  subst hl9
  show JW G X (RX7, cX7_readSum, 3) h [(0, .ref a0), (1, .int a1)] [] 0 0 0 (jEnd G X (jpv r) 0 0)
  refine J_aload_n E (jd dk_X7_readSum_0 0 rfl) rfl 0 rfl ?_
  refine J_iload_n E (jd dk_X7_readSum_0 1 rfl) rfl 1 rfl ?_
  obtain ⟨u30, e31, hf⟩ := jbind hf
  obtain ⟨r28, e29, hf⟩ := jbind hf
  refine J_callV E (jd dk_X7_readSum_0 2 rfl) ml_RX7_254 cal_X7_readProduct e31 rfl (lk_X7_readProduct (jE_g E) (jE_tr E) N hrec e29) rfl (Nat.le_of_ble_eq_true rfl) (jR_le hX (by omega) (by decide)) (jF0 hX) rfl ?_
  rintro _ _ ⟨rfl, rfl⟩
  exact lk_X7_readSum_b5 E hX hr N hrec hf
def f_X7_readNot_l96 (N : Nat) (rf : AH → Nat → Int32 → Option AH) (v0 : Nat) (v2 : Int32) (v3 : Int32) (h : AH) : Option ((Int32 × AH) ⊕ ((AH))) :=
  if v2 ≤ v3 then some (.inr h)
  else (jck 7 h v0).bind fun _ =>
  (f_X7_lay N h v0 ((-28))).bind fun r2 =>
  some (.inl ((v3 + 1, r2)))
def f_X7_readNot_b96 (N : Nat) (rf : AH → Nat → Int32 → Option AH) (v0 : Nat) (v2 : Int32) (v3 : Int32) (h : AH) : Option AH :=
  (itr (fun s => f_X7_readNot_l96 N rf v0 v2 s.1 s.2) N (v3, h)).bind (fun e => some e)
def f_X7_readNot_b94 (N : Nat) (rf : AH → Nat → Int32 → Option AH) (v0 : Nat) (v2 : Int32) (h : AH) : Option AH :=
  f_X7_readNot_b96 N rf v0 v2 0 h
def f_X7_readNot_b79 (N : Nat) (rf : AH → Nat → Int32 → Option AH) (v0 : Nat) (v1 : Int32) (v2 : Int32) (w0 : Int32) (h : AH) : Option AH :=
  (jck 7 h v0).bind fun _ =>
  (f_X7_stepOn N h v0).bind fun r6 =>
  (jck 7 r6 v0).bind fun _ =>
  (f_X7_readSum N rf r6 v0 v1).bind fun r10 =>
  (jck 7 r10 v0).bind fun _ =>
  (f_X7_lay N r10 v0 w0).bind fun r14 =>
  f_X7_readNot_b94 N rf v0 v2 r14
def f_X7_readNot_b63 (N : Nat) (rf : AH → Nat → Int32 → Option AH) (v0 : Nat) (v1 : Int32) (v2 : Int32) (h : AH) : Option AH :=
  (jck 7 h v0).bind fun _ =>
  (f_X7_isMarked N h v0 60).bind fun r18 =>
  if r18.1 = 0 then f_X7_readNot_b79 N rf v0 v1 v2 ((-25)) r18.2
  else f_X7_readNot_b79 N rf v0 v1 v2 ((-24)) r18.2
def f_X7_readNot_b23 (N : Nat) (rf : AH → Nat → Int32 → Option AH) (v0 : Nat) (v1 : Int32) (v2 : Int32) (h : AH) : Option ((Int32 × AH) ⊕ ((Int32 × AH))) :=
  (jgi 7 h v0 24).bind fun x23 =>
  if x23 = 0 then (jck 7 h v0).bind fun _ =>
  (f_X7_stepOn N h v0).bind fun r26 =>
  some (.inl ((v2 + 1, r26)))
  else some (.inl ((v2 + 1, h)))
def f_X7_readNot_l2 (N : Nat) (rf : AH → Nat → Int32 → Option AH) (v0 : Nat) (v1 : Int32) (v2 : Int32) (h : AH) : Option ((Int32 × AH) ⊕ ((Int32 × AH))) :=
  (jck 7 h v0).bind fun _ =>
  (f_X7_is N h v0 1000036).bind fun r30 =>
  if r30.1 = 0 then some (.inr ((v2, r30.2)))
  else if v2 = 6 then (jck 7 r30.2 v0).bind fun _ =>
  (f_X7_wrong N r30.2 v0 2).bind fun r36 =>
  f_X7_readNot_b23 N rf v0 v1 v2 r36
  else f_X7_readNot_b23 N rf v0 v1 v2 r30.2
def f_X7_readNot_b2 (N : Nat) (rf : AH → Nat → Int32 → Option AH) (v0 : Nat) (v1 : Int32) (v2 : Int32) (h : AH) : Option AH :=
  (itr (fun s => f_X7_readNot_l2 N rf v0 v1 s.1 s.2) N (v2, h)).bind (fun e => (jck 7 e.2 v0).bind fun _ =>
  (f_X7_readSum N rf e.2 v0 v1).bind fun r40 =>
  (jck 7 r40 v0).bind fun _ =>
  (f_X7_isMarked N r40 v0 60).bind fun r44 =>
  if r44.1 = 0 then (jck 7 r44.2 v0).bind fun _ =>
  (f_X7_isMarked N r44.2 v0 61).bind fun r49 =>
  if r49.1 = 0 then f_X7_readNot_b94 N rf v0 e.1 r49.2
  else f_X7_readNot_b63 N rf v0 v1 e.1 r49.2
  else f_X7_readNot_b63 N rf v0 v1 e.1 r44.2)
def f_X7_readNot (N : Nat) (rf : AH → Nat → Int32 → Option AH) (h : AH) (a0 : Nat) (a1 : Int32) : Option AH :=
  f_X7_readNot_b2 N rf a0 a1 0 h
set_option maxRecDepth 100000 in
set_option maxHeartbeats 4000000 in
theorem lk_X7_readNot_l96 {G : JG} {X : JX} {dR : Nat} (E : jE G X (RX7, cX7_readNot, 4)) (hX : X.2.2.2.1 = jRm (dR + 13) 0 0) (hr : X.2.2.2.2.2.2.2.2.1.sig.returnType = none) (N : Nat) {rf : AH → Nat → Int32 → Option AH} (hrec : ∀ (h : AH) (a : Nat) (n : Int32) (r : AH), rf h a n = some r → jMet G X.2.1 yX7_readExpression cX7_readExpression 3 none dR 0 0 [.ref a, .int n] h (jpv r)) {Q : State → Prop} {v0 : Nat} {v2 : Int32} {v3 : Int32}  {h : AH} {q : ((Int32 × AH) ⊕ ((AH)))} (hf : f_X7_readNot_l96 N rf v0 v2 v3 h = some q) (kb : ∀ s' : Int32 × AH, q = .inl s' → JW G X (RX7, cX7_readNot, 4) s'.2 [(0, .ref v0), (2, .int v2), (3, .int s'.1)] [] 96 0 0 Q) (ke0 : ∀ e : AH, q = .inr e → JW G X (RX7, cX7_readNot, 4) e [] [] 113 0 0 Q) : JW G X (RX7, cX7_readNot, 4) h [(0, .ref v0), (2, .int v2), (3, .int v3)] [] 96 0 0 Q := by
  unfold f_X7_readNot_l96 at hf
  refine J_iload_n E (jd dk_X7_readNot_0 48 rfl) rfl 2 rfl ?_
  refine J_iload_n E (jd dk_X7_readNot_0 49 rfl) rfl 1 rfl ?_
  refine J_icmp_ge (tgt := 113) E (jd dk_X7_readNot_1 0 rfl) (by decide) (fun c1 => ?_) (fun c1 => ?_)
  · replace hf := jif_t c1 hf
    refine J_sub [] rfl ?_
    exact ke0 _ (Option.some.inj hf).symm
  · replace hf := jif_f c1 hf
    refine J_aload_n E (jd dk_X7_readNot_1 1 rfl) rfl 0 rfl ?_
    refine J_bipush (v := (-28)) E (jd dk_X7_readNot_1 2 rfl) (by decide) ?_
    obtain ⟨u4, e5, hf⟩ := jbind hf
    obtain ⟨r2, e3, hf⟩ := jbind hf
    refine J_callV E (jd dk_X7_readNot_1 3 rfl) ml_RX7_238 cal_X7_lay e5 rfl (lk_X7_lay (jE_g E) (jE_tr E) N e3) rfl (Nat.le_of_ble_eq_true rfl) (jR_le hX (by omega) (by decide)) (jF0 hX) rfl ?_
    rintro _ _ ⟨rfl, rfl⟩
    refine J_iinc (v := v3 + 1) (lv' := [(3, .int (v3 + 1)), (0, .ref v0), (2, .int v2)]) E (jd dk_X7_readNot_1 4 rfl) 2 rfl rfl (by decide) rfl ?_
    refine J_goto (tgt := 96) E (jd dk_X7_readNot_1 5 rfl) (by decide) ?_
    refine J_sub [1, 2, 0] rfl ?_
    exact kb _ (Option.some.inj hf).symm
set_option maxRecDepth 100000 in
set_option maxHeartbeats 4000000 in
theorem lk_X7_readNot_b96 {G : JG} {X : JX} {dR : Nat} (E : jE G X (RX7, cX7_readNot, 4)) (hX : X.2.2.2.1 = jRm (dR + 13) 0 0) (hr : X.2.2.2.2.2.2.2.2.1.sig.returnType = none) (N : Nat) {rf : AH → Nat → Int32 → Option AH} (hrec : ∀ (h : AH) (a : Nat) (n : Int32) (r : AH), rf h a n = some r → jMet G X.2.1 yX7_readExpression cX7_readExpression 3 none dR 0 0 [.ref a, .int n] h (jpv r)) {v0 : Nat} {v2 : Int32} {v3 : Int32} {h : AH}  {r : AH} (hf : f_X7_readNot_b96 N rf v0 v2 v3 h = some r) : JW G X (RX7, cX7_readNot, 4) h [(0, .ref v0), (2, .int v2), (3, .int v3)] [] 96 0 0 (jEnd G X (jpv r) 0 0) := by
  unfold f_X7_readNot_b96 at hf
  obtain ⟨q1, h1, hf⟩ := jbind hf
  refine jloop (P := fun s => JW G X (RX7, cX7_readNot, 4) s.2 [(0, .ref v0), (2, .int v2), (3, .int s.1)] [] 96 0 0 (jEnd G X (jpv r) 0 0)) (Ex := fun (e : AH) => JW G X (RX7, cX7_readNot, 4) e [] [] 113 0 0 (jEnd G X (jpv r) 0 0)) (fun s q hs hb hx => lk_X7_readNot_l96 E hX hr N hrec hs (fun s' hs => hb s' hs) (fun e he => hx e he)) N _ q1 h1 ?_
  generalize q1 = e at hf ⊢
  cases hf
  exact J_vret E hr (jd dk_X7_readNot_1 6 rfl) (Nat.le_refl _) (Nat.le_refl _) ⟨rfl, rfl⟩
set_option maxRecDepth 100000 in
set_option maxHeartbeats 4000000 in
theorem lk_X7_readNot_b94 {G : JG} {X : JX} {dR : Nat} (E : jE G X (RX7, cX7_readNot, 4)) (hX : X.2.2.2.1 = jRm (dR + 13) 0 0) (hr : X.2.2.2.2.2.2.2.2.1.sig.returnType = none) (N : Nat) {rf : AH → Nat → Int32 → Option AH} (hrec : ∀ (h : AH) (a : Nat) (n : Int32) (r : AH), rf h a n = some r → jMet G X.2.1 yX7_readExpression cX7_readExpression 3 none dR 0 0 [.ref a, .int n] h (jpv r)) {v0 : Nat} {v2 : Int32} {h : AH}  {r : AH} (hf : f_X7_readNot_b94 N rf v0 v2 h = some r) : JW G X (RX7, cX7_readNot, 4) h [(0, .ref v0), (2, .int v2)] [] 94 0 0 (jEnd G X (jpv r) 0 0) := by
  unfold f_X7_readNot_b94 at hf
  refine J_iconst (v := 0) E (jd dk_X7_readNot_0 46 rfl) rfl ?_
  refine J_istore_n (lv' := [(3, .int 0), (0, .ref v0), (2, .int v2)]) E (jd dk_X7_readNot_0 47 rfl) rfl (by decide) rfl ?_
  refine J_sub [1, 2, 0] rfl ?_
  exact lk_X7_readNot_b96 E hX hr N hrec hf
set_option maxRecDepth 100000 in
set_option maxHeartbeats 4000000 in
theorem lk_X7_readNot_b79 {G : JG} {X : JX} {dR : Nat} (E : jE G X (RX7, cX7_readNot, 4)) (hX : X.2.2.2.1 = jRm (dR + 13) 0 0) (hr : X.2.2.2.2.2.2.2.2.1.sig.returnType = none) (N : Nat) {rf : AH → Nat → Int32 → Option AH} (hrec : ∀ (h : AH) (a : Nat) (n : Int32) (r : AH), rf h a n = some r → jMet G X.2.1 yX7_readExpression cX7_readExpression 3 none dR 0 0 [.ref a, .int n] h (jpv r)) {v0 : Nat} {v1 : Int32} {v2 : Int32} {w0 : Int32} {h : AH}  {r : AH} (hf : f_X7_readNot_b79 N rf v0 v1 v2 w0 h = some r) : JW G X (RX7, cX7_readNot, 4) h [(0, .ref v0), (1, .int v1), (2, .int v2)] [.int w0] 79 0 0 (jEnd G X (jpv r) 0 0) := by
  unfold f_X7_readNot_b79 at hf
  refine J_istore_n (lv' := [(3, .int w0), (0, .ref v0), (1, .int v1), (2, .int v2)]) E (jd dk_X7_readNot_0 37 rfl) rfl (by decide) rfl ?_
  refine J_aload_n E (jd dk_X7_readNot_0 38 rfl) rfl 1 rfl ?_
  obtain ⟨u8, e9, hf⟩ := jbind hf
  obtain ⟨r6, e7, hf⟩ := jbind hf
  refine J_callV E (jd dk_X7_readNot_0 39 rfl) ml_RX7_225 cal_X7_stepOn e9 rfl (lk_X7_stepOn (jE_g E) (jE_tr E) N e7) rfl (Nat.le_of_ble_eq_true rfl) (jR_le hX (by omega) (by decide)) (jF0 hX) rfl ?_
  rintro _ _ ⟨rfl, rfl⟩
  refine J_aload_n E (jd dk_X7_readNot_0 40 rfl) rfl 1 rfl ?_
  refine J_iload_n E (jd dk_X7_readNot_0 41 rfl) rfl 2 rfl ?_
  obtain ⟨u12, e13, hf⟩ := jbind hf
  obtain ⟨r10, e11, hf⟩ := jbind hf
  refine J_callV E (jd dk_X7_readNot_0 42 rfl) ml_RX7_259 cal_X7_readSum e13 rfl (lk_X7_readSum (jE_g E) (jE_tr E) N hrec e11) rfl (Nat.le_of_ble_eq_true rfl) (jR_le hX (by omega) (by decide)) (jF0 hX) rfl ?_
  rintro _ _ ⟨rfl, rfl⟩
  refine J_aload_n E (jd dk_X7_readNot_0 43 rfl) rfl 1 rfl ?_
  refine J_iload_n E (jd dk_X7_readNot_0 44 rfl) rfl 0 rfl ?_
  obtain ⟨u16, e17, hf⟩ := jbind hf
  obtain ⟨r14, e15, hf⟩ := jbind hf
  refine J_callV E (jd dk_X7_readNot_0 45 rfl) ml_RX7_238 cal_X7_lay e17 rfl (lk_X7_lay (jE_g E) (jE_tr E) N e15) rfl (Nat.le_of_ble_eq_true rfl) (jR_le hX (by omega) (by decide)) (jF0 hX) rfl ?_
  rintro _ _ ⟨rfl, rfl⟩
  refine J_sub [1, 3] rfl ?_
  exact lk_X7_readNot_b94 E hX hr N hrec hf
set_option maxRecDepth 100000 in
set_option maxHeartbeats 4000000 in
theorem lk_X7_readNot_b63 {G : JG} {X : JX} {dR : Nat} (E : jE G X (RX7, cX7_readNot, 4)) (hX : X.2.2.2.1 = jRm (dR + 13) 0 0) (hr : X.2.2.2.2.2.2.2.2.1.sig.returnType = none) (N : Nat) {rf : AH → Nat → Int32 → Option AH} (hrec : ∀ (h : AH) (a : Nat) (n : Int32) (r : AH), rf h a n = some r → jMet G X.2.1 yX7_readExpression cX7_readExpression 3 none dR 0 0 [.ref a, .int n] h (jpv r)) {v0 : Nat} {v1 : Int32} {v2 : Int32} {h : AH}  {r : AH} (hf : f_X7_readNot_b63 N rf v0 v1 v2 h = some r) : JW G X (RX7, cX7_readNot, 4) h [(0, .ref v0), (1, .int v1), (2, .int v2)] [] 63 0 0 (jEnd G X (jpv r) 0 0) := by
  unfold f_X7_readNot_b63 at hf
  refine J_aload_n E (jd dk_X7_readNot_0 30 rfl) rfl 0 rfl ?_
  refine J_bipush (v := 60) E (jd dk_X7_readNot_0 31 rfl) (by decide) ?_
  obtain ⟨u20, e21, hf⟩ := jbind hf
  obtain ⟨r18, e19, hf⟩ := jbind hf
  refine J_callV E (jd dk_X7_readNot_0 32 rfl) ml_RX7_218 cal_X7_isMarked e21 rfl (lk_X7_isMarked (jE_g E) (jE_tr E) N e19) rfl (Nat.le_of_ble_eq_true rfl) (jR_le hX (by omega) (by decide)) (jF0 hX) rfl ?_
  rintro _ _ ⟨rfl, rfl⟩
  refine J_if_eq (tgt := 77) E (jd dk_X7_readNot_0 33 rfl) (by decide) (fun c22 => ?_) (fun c22 => ?_)
  · replace hf := jif_t c22 hf
    refine J_bipush (v := (-25)) E (jd dk_X7_readNot_0 36 rfl) (by decide) ?_
    exact lk_X7_readNot_b79 E hX hr N hrec hf
  · replace hf := jif_f c22 hf
    refine J_bipush (v := (-24)) E (jd dk_X7_readNot_0 34 rfl) (by decide) ?_
    refine J_goto (tgt := 79) E (jd dk_X7_readNot_0 35 rfl) (by decide) ?_
    exact lk_X7_readNot_b79 E hX hr N hrec hf
set_option maxRecDepth 100000 in
set_option maxHeartbeats 4000000 in
theorem lk_X7_readNot_b23 {G : JG} {X : JX} {dR : Nat} (E : jE G X (RX7, cX7_readNot, 4)) (hX : X.2.2.2.1 = jRm (dR + 13) 0 0) (hr : X.2.2.2.2.2.2.2.2.1.sig.returnType = none) (N : Nat) {rf : AH → Nat → Int32 → Option AH} (hrec : ∀ (h : AH) (a : Nat) (n : Int32) (r : AH), rf h a n = some r → jMet G X.2.1 yX7_readExpression cX7_readExpression 3 none dR 0 0 [.ref a, .int n] h (jpv r)) {Q : State → Prop} {v0 : Nat} {v1 : Int32} {v2 : Int32} {h : AH}  {q : ((Int32 × AH) ⊕ ((Int32 × AH)))} (hf : f_X7_readNot_b23 N rf v0 v1 v2 h = some q) (kb : ∀ s' : Int32 × AH, q = .inl s' → JW G X (RX7, cX7_readNot, 4) s'.2 [(0, .ref v0), (1, .int v1), (2, .int s'.1)] [] 2 0 0 Q) (ke0 : ∀ e : Int32 × AH, q = .inr e → JW G X (RX7, cX7_readNot, 4) e.2 [(0, .ref v0), (1, .int v1), (2, .int e.1)] [] 40 0 0 Q) : JW G X (RX7, cX7_readNot, 4) h [(0, .ref v0), (1, .int v1), (2, .int v2)] [] 23 0 0 Q := by
  unfold f_X7_readNot_b23 at hf
  refine J_iinc (v := v2 + 1) (lv' := [(2, .int (v2 + 1)), (0, .ref v0), (1, .int v1)]) E (jd dk_X7_readNot_0 12 rfl) 2 rfl rfl (by decide) rfl ?_
  refine J_aload_n E (jd dk_X7_readNot_0 13 rfl) rfl 1 rfl ?_
  obtain ⟨x23, e24, hf⟩ := jbind hf
  refine J_geti E (jd dk_X7_readNot_0 14 rfl) fl_RX7_200 e24 ?_
  refine J_if_ne (tgt := 2) E (jd dk_X7_readNot_0 15 rfl) (by decide) (fun c25 => ?_) (fun c25 => ?_)
  · replace hf := jif_f c25 hf
    refine J_sub [1, 2, 0] rfl ?_
    exact kb _ (Option.some.inj hf).symm
  · replace hf := jif_t c25 hf
    refine J_aload_n E (jd dk_X7_readNot_0 16 rfl) rfl 1 rfl ?_
    obtain ⟨u28, e29, hf⟩ := jbind hf
    obtain ⟨r26, e27, hf⟩ := jbind hf
    refine J_callV E (jd dk_X7_readNot_0 17 rfl) ml_RX7_225 cal_X7_stepOn e29 rfl (lk_X7_stepOn (jE_g E) (jE_tr E) N e27) rfl (Nat.le_of_ble_eq_true rfl) (jR_le hX (by omega) (by decide)) (jF0 hX) rfl ?_
    rintro _ _ ⟨rfl, rfl⟩
    refine J_goto (tgt := 2) E (jd dk_X7_readNot_0 18 rfl) (by decide) ?_
    refine J_sub [1, 2, 0] rfl ?_
    exact kb _ (Option.some.inj hf).symm
set_option maxRecDepth 100000 in
set_option maxHeartbeats 4000000 in
theorem lk_X7_readNot_l2 {G : JG} {X : JX} {dR : Nat} (E : jE G X (RX7, cX7_readNot, 4)) (hX : X.2.2.2.1 = jRm (dR + 13) 0 0) (hr : X.2.2.2.2.2.2.2.2.1.sig.returnType = none) (N : Nat) {rf : AH → Nat → Int32 → Option AH} (hrec : ∀ (h : AH) (a : Nat) (n : Int32) (r : AH), rf h a n = some r → jMet G X.2.1 yX7_readExpression cX7_readExpression 3 none dR 0 0 [.ref a, .int n] h (jpv r)) {Q : State → Prop} {v0 : Nat} {v1 : Int32} {v2 : Int32}  {h : AH} {q : ((Int32 × AH) ⊕ ((Int32 × AH)))} (hf : f_X7_readNot_l2 N rf v0 v1 v2 h = some q) (kb : ∀ s' : Int32 × AH, q = .inl s' → JW G X (RX7, cX7_readNot, 4) s'.2 [(0, .ref v0), (1, .int v1), (2, .int s'.1)] [] 2 0 0 Q) (ke0 : ∀ e : Int32 × AH, q = .inr e → JW G X (RX7, cX7_readNot, 4) e.2 [(0, .ref v0), (1, .int v1), (2, .int e.1)] [] 40 0 0 Q) : JW G X (RX7, cX7_readNot, 4) h [(0, .ref v0), (1, .int v1), (2, .int v2)] [] 2 0 0 Q := by
  unfold f_X7_readNot_l2 at hf
  refine J_aload_n E (jd dk_X7_readNot_0 2 rfl) rfl 0 rfl ?_
  refine J_ldcSw (j := 36) (tx := "not") E (jd dk_X7_readNot_0 3 rfl) rfl ?_
  obtain ⟨u32, e33, hf⟩ := jbind hf
  obtain ⟨r30, e31, hf⟩ := jbind hf
  refine J_callV E (jd dk_X7_readNot_0 4 rfl) ml_RX7_214 cal_X7_is e33 rfl (lk_X7_is (jE_g E) (jE_tr E) N e31) rfl (Nat.le_of_ble_eq_true rfl) (jR_le hX (by omega) (by decide)) (jF0 hX) rfl ?_
  rintro _ _ ⟨rfl, rfl⟩
  refine J_if_eq (tgt := 40) E (jd dk_X7_readNot_0 5 rfl) (by decide) (fun c34 => ?_) (fun c34 => ?_)
  · replace hf := jif_t c34 hf
    exact ke0 _ (Option.some.inj hf).symm
  · replace hf := jif_f c34 hf
    refine J_iload_n E (jd dk_X7_readNot_0 6 rfl) rfl 2 rfl ?_
    refine J_bipush (v := 6) E (jd dk_X7_readNot_0 7 rfl) (by decide) ?_
    refine J_icmp_ne (tgt := 23) E (jd dk_X7_readNot_0 8 rfl) (by decide) (fun c35 => ?_) (fun c35 => ?_)
    · replace hf := jif_f c35 hf
      exact lk_X7_readNot_b23 E hX hr N hrec hf kb ke0
    · replace hf := jif_t c35 hf
      refine J_aload_n E (jd dk_X7_readNot_0 9 rfl) rfl 0 rfl ?_
      refine J_iconst (v := 2) E (jd dk_X7_readNot_0 10 rfl) rfl ?_
      obtain ⟨u38, e39, hf⟩ := jbind hf
      obtain ⟨r36, e37, hf⟩ := jbind hf
      refine J_callV E (jd dk_X7_readNot_0 11 rfl) ml_RX7_221 cal_X7_wrong e39 rfl (lk_X7_wrong (jE_g E) (jE_tr E) N e37) rfl (Nat.le_of_ble_eq_true rfl) (jR_le hX (by omega) (by decide)) (jF0 hX) rfl ?_
      rintro _ _ ⟨rfl, rfl⟩
      exact lk_X7_readNot_b23 E hX hr N hrec hf kb ke0
set_option maxRecDepth 100000 in
set_option maxHeartbeats 4000000 in
theorem lk_X7_readNot_b2 {G : JG} {X : JX} {dR : Nat} (E : jE G X (RX7, cX7_readNot, 4)) (hX : X.2.2.2.1 = jRm (dR + 13) 0 0) (hr : X.2.2.2.2.2.2.2.2.1.sig.returnType = none) (N : Nat) {rf : AH → Nat → Int32 → Option AH} (hrec : ∀ (h : AH) (a : Nat) (n : Int32) (r : AH), rf h a n = some r → jMet G X.2.1 yX7_readExpression cX7_readExpression 3 none dR 0 0 [.ref a, .int n] h (jpv r)) {v0 : Nat} {v1 : Int32} {v2 : Int32} {h : AH}  {r : AH} (hf : f_X7_readNot_b2 N rf v0 v1 v2 h = some r) : JW G X (RX7, cX7_readNot, 4) h [(0, .ref v0), (1, .int v1), (2, .int v2)] [] 2 0 0 (jEnd G X (jpv r) 0 0) := by
  unfold f_X7_readNot_b2 at hf
  obtain ⟨q1, h1, hf⟩ := jbind hf
  refine jloop (P := fun s => JW G X (RX7, cX7_readNot, 4) s.2 [(0, .ref v0), (1, .int v1), (2, .int s.1)] [] 2 0 0 (jEnd G X (jpv r) 0 0)) (Ex := fun (e : Int32 × AH) => JW G X (RX7, cX7_readNot, 4) e.2 [(0, .ref v0), (1, .int v1), (2, .int e.1)] [] 40 0 0 (jEnd G X (jpv r) 0 0)) (fun s q hs hb hx => lk_X7_readNot_l2 E hX hr N hrec hs (fun s' hs => hb s' hs) (fun e he => hx e he)) N _ q1 h1 ?_
  generalize q1 = e at hf ⊢
  refine J_aload_n E (jd dk_X7_readNot_0 19 rfl) rfl 0 rfl ?_
  refine J_iload_n E (jd dk_X7_readNot_0 20 rfl) rfl 1 rfl ?_
  obtain ⟨u42, e43, hf⟩ := jbind hf
  obtain ⟨r40, e41, hf⟩ := jbind hf
  refine J_callV E (jd dk_X7_readNot_0 21 rfl) ml_RX7_259 cal_X7_readSum e43 rfl (lk_X7_readSum (jE_g E) (jE_tr E) N hrec e41) rfl (Nat.le_of_ble_eq_true rfl) (jR_le hX (by omega) (by decide)) (jF0 hX) rfl ?_
  rintro _ _ ⟨rfl, rfl⟩
  refine J_aload_n E (jd dk_X7_readNot_0 22 rfl) rfl 0 rfl ?_
  refine J_bipush (v := 60) E (jd dk_X7_readNot_0 23 rfl) (by decide) ?_
  obtain ⟨u46, e47, hf⟩ := jbind hf
  obtain ⟨r44, e45, hf⟩ := jbind hf
  refine J_callV E (jd dk_X7_readNot_0 24 rfl) ml_RX7_218 cal_X7_isMarked e47 rfl (lk_X7_isMarked (jE_g E) (jE_tr E) N e45) rfl (Nat.le_of_ble_eq_true rfl) (jR_le hX (by omega) (by decide)) (jF0 hX) rfl ?_
  rintro _ _ ⟨rfl, rfl⟩
  refine J_if_ne (tgt := 63) E (jd dk_X7_readNot_0 25 rfl) (by decide) (fun c48 => ?_) (fun c48 => ?_)
  · replace hf := jif_f c48 hf
    exact lk_X7_readNot_b63 E hX hr N hrec hf
  · replace hf := jif_t c48 hf
    refine J_aload_n E (jd dk_X7_readNot_0 26 rfl) rfl 0 rfl ?_
    refine J_bipush (v := 61) E (jd dk_X7_readNot_0 27 rfl) (by decide) ?_
    obtain ⟨u51, e52, hf⟩ := jbind hf
    obtain ⟨r49, e50, hf⟩ := jbind hf
    refine J_callV E (jd dk_X7_readNot_0 28 rfl) ml_RX7_218 cal_X7_isMarked e52 rfl (lk_X7_isMarked (jE_g E) (jE_tr E) N e50) rfl (Nat.le_of_ble_eq_true rfl) (jR_le hX (by omega) (by decide)) (jF0 hX) rfl ?_
    rintro _ _ ⟨rfl, rfl⟩
    refine J_if_eq (tgt := 94) E (jd dk_X7_readNot_0 29 rfl) (by decide) (fun c53 => ?_) (fun c53 => ?_)
    · replace hf := jif_t c53 hf
      refine J_sub [0, 2] rfl ?_
      exact lk_X7_readNot_b94 E hX hr N hrec hf
    · replace hf := jif_f c53 hf
      exact lk_X7_readNot_b63 E hX hr N hrec hf
set_option maxRecDepth 100000 in
set_option maxHeartbeats 4000000 in
theorem lk_X7_readNot {G : JG} {l : Launch} (hG : jG G) (htr : l.stackTraces = false) (N : Nat) {rf : AH → Nat → Int32 → Option AH} {dR : Nat} (hrec : ∀ (h : AH) (a : Nat) (n : Int32) (r : AH), rf h a n = some r → jMet G l yX7_readExpression cX7_readExpression 3 none dR 0 0 [.ref a, .int n] h (jpv r)) {h : AH} {a0 : Nat} {a1 : Int32} {r : AH} (hf : f_X7_readNot N rf h a0 a1 = some r) : jMet G l yX7_readNot cX7_readNot 4 none (dR + 13) 0 0 [.ref a0, .int a1] h (jpv r) := by
  unfold f_X7_readNot at hf
  refine jMet_of hG htr (by decide) (Nat.le_of_ble_eq_true rfl) ?_
  intro X E hl9 hr hX _ _
  subst hl9
  show JW G X (RX7, cX7_readNot, 4) h [(0, .ref a0), (1, .int a1)] [] 0 0 0 (jEnd G X (jpv r) 0 0)
  refine J_iconst (v := 0) E (jd dk_X7_readNot_0 0 rfl) rfl ?_
  refine J_istore_n (lv' := [(2, .int 0), (0, .ref a0), (1, .int a1)]) E (jd dk_X7_readNot_0 1 rfl) rfl (by decide) rfl ?_
  refine J_sub [1, 2, 0] rfl ?_
  exact lk_X7_readNot_b2 E hX hr N hrec hf
def f_X7_readAnd_l5 (N : Nat) (rf : AH → Nat → Int32 → Option AH) (v0 : Nat) (v1 : Int32)  (h : AH) : Option ((AH) ⊕ ((AH))) :=
  (jck 7 h v0).bind fun _ =>
  (f_X7_is N h v0 1000037).bind fun r1 =>
  if r1.1 = 0 then some (.inr r1.2)
  else (jck 7 r1.2 v0).bind fun _ =>
  (f_X7_stepOn N r1.2 v0).bind fun r6 =>
  (jck 7 r6 v0).bind fun _ =>
  (f_X7_readNot N rf r6 v0 v1).bind fun r10 =>
  (jck 7 r10 v0).bind fun _ =>
  (f_X7_lay N r10 v0 ((-26))).bind fun r14 =>
  some (.inl r14)
def f_X7_readAnd_b5 (N : Nat) (rf : AH → Nat → Int32 → Option AH) (v0 : Nat) (v1 : Int32) (h : AH) : Option AH :=
  (itr (fun s => f_X7_readAnd_l5 N rf v0 v1 s) N h).bind (fun e => some e)
def f_X7_readAnd (N : Nat) (rf : AH → Nat → Int32 → Option AH) (h : AH) (a0 : Nat) (a1 : Int32) : Option AH :=
  (jck 7 h a0).bind fun _ =>
  (f_X7_readNot N rf h a0 a1).bind fun r18 =>
  f_X7_readAnd_b5 N rf a0 a1 r18
set_option maxRecDepth 100000 in
set_option maxHeartbeats 4000000 in
theorem lk_X7_readAnd_l5 {G : JG} {X : JX} {dR : Nat} (E : jE G X (RX7, cX7_readAnd, 2)) (hX : X.2.2.2.1 = jRm (dR + 14) 0 0) (hr : X.2.2.2.2.2.2.2.2.1.sig.returnType = none) (N : Nat) {rf : AH → Nat → Int32 → Option AH} (hrec : ∀ (h : AH) (a : Nat) (n : Int32) (r : AH), rf h a n = some r → jMet G X.2.1 yX7_readExpression cX7_readExpression 3 none dR 0 0 [.ref a, .int n] h (jpv r)) {Q : State → Prop} {v0 : Nat} {v1 : Int32}   {h : AH} {q : ((AH) ⊕ ((AH)))} (hf : f_X7_readAnd_l5 N rf v0 v1 h = some q) (kb : ∀ s' : AH, q = .inl s' → JW G X (RX7, cX7_readAnd, 2) s' [(0, .ref v0), (1, .int v1)] [] 5 0 0 Q) (ke0 : ∀ e : AH, q = .inr e → JW G X (RX7, cX7_readAnd, 2) e [] [] 33 0 0 Q) : JW G X (RX7, cX7_readAnd, 2) h [(0, .ref v0), (1, .int v1)] [] 5 0 0 Q := by
  unfold f_X7_readAnd_l5 at hf
  refine J_aload_n E (jd dk_X7_readAnd_0 3 rfl) rfl 0 rfl ?_
  refine J_ldcSw (j := 37) (tx := "and") E (jd dk_X7_readAnd_0 4 rfl) rfl ?_
  obtain ⟨u3, e4, hf⟩ := jbind hf
  obtain ⟨r1, e2, hf⟩ := jbind hf
  refine J_callV E (jd dk_X7_readAnd_0 5 rfl) ml_RX7_214 cal_X7_is e4 rfl (lk_X7_is (jE_g E) (jE_tr E) N e2) rfl (Nat.le_of_ble_eq_true rfl) (jR_le hX (by omega) (by decide)) (jF0 hX) rfl ?_
  rintro _ _ ⟨rfl, rfl⟩
  refine J_if_eq (tgt := 33) E (jd dk_X7_readAnd_0 6 rfl) (by decide) (fun c5 => ?_) (fun c5 => ?_)
  · replace hf := jif_t c5 hf
    refine J_sub [] rfl ?_
    exact ke0 _ (Option.some.inj hf).symm
  · replace hf := jif_f c5 hf
    refine J_aload_n E (jd dk_X7_readAnd_0 7 rfl) rfl 0 rfl ?_
    obtain ⟨u8, e9, hf⟩ := jbind hf
    obtain ⟨r6, e7, hf⟩ := jbind hf
    refine J_callV E (jd dk_X7_readAnd_0 8 rfl) ml_RX7_225 cal_X7_stepOn e9 rfl (lk_X7_stepOn (jE_g E) (jE_tr E) N e7) rfl (Nat.le_of_ble_eq_true rfl) (jR_le hX (by omega) (by decide)) (jF0 hX) rfl ?_
    rintro _ _ ⟨rfl, rfl⟩
    refine J_aload_n E (jd dk_X7_readAnd_0 9 rfl) rfl 0 rfl ?_
    refine J_iload_n E (jd dk_X7_readAnd_0 10 rfl) rfl 1 rfl ?_
    obtain ⟨u12, e13, hf⟩ := jbind hf
    obtain ⟨r10, e11, hf⟩ := jbind hf
    refine J_callV E (jd dk_X7_readAnd_0 11 rfl) ml_RX7_262 cal_X7_readNot e13 rfl (lk_X7_readNot (jE_g E) (jE_tr E) N hrec e11) rfl (Nat.le_of_ble_eq_true rfl) (jR_le hX (by omega) (by decide)) (jF0 hX) rfl ?_
    rintro _ _ ⟨rfl, rfl⟩
    refine J_aload_n E (jd dk_X7_readAnd_0 12 rfl) rfl 0 rfl ?_
    refine J_bipush (v := (-26)) E (jd dk_X7_readAnd_0 13 rfl) (by decide) ?_
    obtain ⟨u16, e17, hf⟩ := jbind hf
    obtain ⟨r14, e15, hf⟩ := jbind hf
    refine J_callV E (jd dk_X7_readAnd_0 14 rfl) ml_RX7_238 cal_X7_lay e17 rfl (lk_X7_lay (jE_g E) (jE_tr E) N e15) rfl (Nat.le_of_ble_eq_true rfl) (jR_le hX (by omega) (by decide)) (jF0 hX) rfl ?_
    rintro _ _ ⟨rfl, rfl⟩
    refine J_goto (tgt := 5) E (jd dk_X7_readAnd_0 15 rfl) (by decide) ?_
    exact kb _ (Option.some.inj hf).symm
set_option maxRecDepth 100000 in
set_option maxHeartbeats 4000000 in
theorem lk_X7_readAnd_b5 {G : JG} {X : JX} {dR : Nat} (E : jE G X (RX7, cX7_readAnd, 2)) (hX : X.2.2.2.1 = jRm (dR + 14) 0 0) (hr : X.2.2.2.2.2.2.2.2.1.sig.returnType = none) (N : Nat) {rf : AH → Nat → Int32 → Option AH} (hrec : ∀ (h : AH) (a : Nat) (n : Int32) (r : AH), rf h a n = some r → jMet G X.2.1 yX7_readExpression cX7_readExpression 3 none dR 0 0 [.ref a, .int n] h (jpv r)) {v0 : Nat} {v1 : Int32} {h : AH}  {r : AH} (hf : f_X7_readAnd_b5 N rf v0 v1 h = some r) : JW G X (RX7, cX7_readAnd, 2) h [(0, .ref v0), (1, .int v1)] [] 5 0 0 (jEnd G X (jpv r) 0 0) := by
  unfold f_X7_readAnd_b5 at hf
  obtain ⟨q1, h1, hf⟩ := jbind hf
  refine jloop (P := fun s => JW G X (RX7, cX7_readAnd, 2) s [(0, .ref v0), (1, .int v1)] [] 5 0 0 (jEnd G X (jpv r) 0 0)) (Ex := fun (e : AH) => JW G X (RX7, cX7_readAnd, 2) e [] [] 33 0 0 (jEnd G X (jpv r) 0 0)) (fun s q hs hb hx => lk_X7_readAnd_l5 E hX hr N hrec hs (fun s' hs => hb s' hs) (fun e he => hx e he)) N _ q1 h1 ?_
  generalize q1 = e at hf ⊢
  cases hf
  exact J_vret E hr (jd dk_X7_readAnd_0 16 rfl) (Nat.le_refl _) (Nat.le_refl _) ⟨rfl, rfl⟩
set_option maxRecDepth 100000 in
set_option maxHeartbeats 4000000 in
theorem lk_X7_readAnd {G : JG} {l : Launch} (hG : jG G) (htr : l.stackTraces = false) (N : Nat) {rf : AH → Nat → Int32 → Option AH} {dR : Nat} (hrec : ∀ (h : AH) (a : Nat) (n : Int32) (r : AH), rf h a n = some r → jMet G l yX7_readExpression cX7_readExpression 3 none dR 0 0 [.ref a, .int n] h (jpv r)) {h : AH} {a0 : Nat} {a1 : Int32} {r : AH} (hf : f_X7_readAnd N rf h a0 a1 = some r) : jMet G l yX7_readAnd cX7_readAnd 2 none (dR + 14) 0 0 [.ref a0, .int a1] h (jpv r) := by
  unfold f_X7_readAnd at hf
  refine jMet_of hG htr (by decide) (Nat.le_of_ble_eq_true rfl) ?_
  intro X E hl9 hr hX _ _
  subst hl9
  show JW G X (RX7, cX7_readAnd, 2) h [(0, .ref a0), (1, .int a1)] [] 0 0 0 (jEnd G X (jpv r) 0 0)
  refine J_aload_n E (jd dk_X7_readAnd_0 0 rfl) rfl 0 rfl ?_
  refine J_iload_n E (jd dk_X7_readAnd_0 1 rfl) rfl 1 rfl ?_
  obtain ⟨u20, e21, hf⟩ := jbind hf
  obtain ⟨r18, e19, hf⟩ := jbind hf
  refine J_callV E (jd dk_X7_readAnd_0 2 rfl) ml_RX7_262 cal_X7_readNot e21 rfl (lk_X7_readNot (jE_g E) (jE_tr E) N hrec e19) rfl (Nat.le_of_ble_eq_true rfl) (jR_le hX (by omega) (by decide)) (jF0 hX) rfl ?_
  rintro _ _ ⟨rfl, rfl⟩
  exact lk_X7_readAnd_b5 E hX hr N hrec hf
def f_X7_readExpression_l67 (N : Nat) (rf : AH → Nat → Int32 → Option AH) (v0 : Nat) (v1 : Int32)  (h : AH) : Option ((AH) ⊕ ((AH))) :=
  (jck 7 h v0).bind fun _ =>
  (f_X7_is N h v0 1000038).bind fun r1 =>
  if r1.1 = 0 then some (.inr r1.2)
  else (jck 7 r1.2 v0).bind fun _ =>
  (f_X7_stepOn N r1.2 v0).bind fun r6 =>
  (jck 7 r6 v0).bind fun _ =>
  (f_X7_readAnd N rf r6 v0 v1).bind fun r10 =>
  (jck 7 r10 v0).bind fun _ =>
  (f_X7_lay N r10 v0 ((-27))).bind fun r14 =>
  some (.inl r14)
def f_X7_readExpression_b67 (N : Nat) (rf : AH → Nat → Int32 → Option AH) (v0 : Nat) (v1 : Int32) (h : AH) : Option AH :=
  (itr (fun s => f_X7_readExpression_l67 N rf v0 v1 s) N h).bind (fun e => some e)
def f_X7_readExpression_b62 (N : Nat) (rf : AH → Nat → Int32 → Option AH) (v0 : Nat) (v1 : Int32) (h : AH) : Option AH :=
  (jck 7 h v0).bind fun _ =>
  (f_X7_readAnd N rf h v0 v1).bind fun r18 =>
  f_X7_readExpression_b67 N rf v0 v1 r18
def f_X7_readExpression_b38 (N : Nat) (rf : AH → Nat → Int32 → Option AH) (v0 : Nat) (v1 : Int32) (w0 : Int32) (h : AH) : Option AH :=
  if w0 = 0 then (jck 7 h v0).bind fun _ =>
  (f_X7_wrong N h v0 1).bind fun r28 =>
  f_X7_readExpression_b62 N rf v0 v1 r28
  else if v1 = 6 then (jck 7 h v0).bind fun _ =>
  (f_X7_wrong N h v0 2).bind fun r24 =>
  f_X7_readExpression_b62 N rf v0 v1 r24
  else f_X7_readExpression_b62 N rf v0 v1 h
def f_X7_readExpression_b33 (N : Nat) (rf : AH → Nat → Int32 → Option AH) (v0 : Nat) (v1 : Int32) (h : AH) : Option AH :=
  f_X7_readExpression_b38 N rf v0 v1 1 h
def f_X7_readExpression (N : Nat) (rf : AH → Nat → Int32 → Option AH) (h : AH) (a0 : Nat) (a1 : Int32) : Option AH :=
  (jgi 7 h a0 24).bind fun x32 =>
  if x32 = 0 then (jgi 7 h a0 20).bind fun x35 =>
  if x35 = 2 then f_X7_readExpression_b33 N rf a0 a1 h
  else (jgi 7 h a0 20).bind fun x38 =>
  if x38 = 1 then f_X7_readExpression_b33 N rf a0 a1 h
  else (jck 7 h a0).bind fun _ =>
  (f_X7_isMarked N h a0 40).bind fun r41 =>
  if r41.1 = 0 then f_X7_readExpression_b38 N rf a0 a1 0 r41.2
  else f_X7_readExpression_b33 N rf a0 a1 r41.2
  else some h
set_option maxRecDepth 100000 in
set_option maxHeartbeats 4000000 in
theorem lk_X7_readExpression_l67 {G : JG} {X : JX} {dR : Nat} (E : jE G X (RX7, cX7_readExpression, 3)) (hX : X.2.2.2.1 = jRm (dR + 15) 0 0) (hr : X.2.2.2.2.2.2.2.2.1.sig.returnType = none) (N : Nat) {rf : AH → Nat → Int32 → Option AH} (hrec : ∀ (h : AH) (a : Nat) (n : Int32) (r : AH), rf h a n = some r → jMet G X.2.1 yX7_readExpression cX7_readExpression 3 none dR 0 0 [.ref a, .int n] h (jpv r)) {Q : State → Prop} {v0 : Nat} {v1 : Int32}   {h : AH} {q : ((AH) ⊕ ((AH)))} (hf : f_X7_readExpression_l67 N rf v0 v1 h = some q) (kb : ∀ s' : AH, q = .inl s' → JW G X (RX7, cX7_readExpression, 3) s' [(0, .ref v0), (1, .int v1)] [] 67 0 0 Q) (ke0 : ∀ e : AH, q = .inr e → JW G X (RX7, cX7_readExpression, 3) e [] [] 95 0 0 Q) : JW G X (RX7, cX7_readExpression, 3) h [(0, .ref v0), (1, .int v1)] [] 67 0 0 Q := by
  unfold f_X7_readExpression_l67 at hf
  refine J_aload_n E (jd dk_X7_readExpression_0 35 rfl) rfl 0 rfl ?_
  refine J_ldcSw (j := 38) (tx := "or") E (jd dk_X7_readExpression_0 36 rfl) rfl ?_
  obtain ⟨u3, e4, hf⟩ := jbind hf
  obtain ⟨r1, e2, hf⟩ := jbind hf
  refine J_callV E (jd dk_X7_readExpression_0 37 rfl) ml_RX7_214 cal_X7_is e4 rfl (lk_X7_is (jE_g E) (jE_tr E) N e2) rfl (Nat.le_of_ble_eq_true rfl) (jR_le hX (by omega) (by decide)) (jF0 hX) rfl ?_
  rintro _ _ ⟨rfl, rfl⟩
  refine J_if_eq (tgt := 95) E (jd dk_X7_readExpression_0 38 rfl) (by decide) (fun c5 => ?_) (fun c5 => ?_)
  · replace hf := jif_t c5 hf
    refine J_sub [] rfl ?_
    exact ke0 _ (Option.some.inj hf).symm
  · replace hf := jif_f c5 hf
    refine J_aload_n E (jd dk_X7_readExpression_0 39 rfl) rfl 0 rfl ?_
    obtain ⟨u8, e9, hf⟩ := jbind hf
    obtain ⟨r6, e7, hf⟩ := jbind hf
    refine J_callV E (jd dk_X7_readExpression_0 40 rfl) ml_RX7_225 cal_X7_stepOn e9 rfl (lk_X7_stepOn (jE_g E) (jE_tr E) N e7) rfl (Nat.le_of_ble_eq_true rfl) (jR_le hX (by omega) (by decide)) (jF0 hX) rfl ?_
    rintro _ _ ⟨rfl, rfl⟩
    refine J_aload_n E (jd dk_X7_readExpression_0 41 rfl) rfl 0 rfl ?_
    refine J_iload_n E (jd dk_X7_readExpression_0 42 rfl) rfl 1 rfl ?_
    obtain ⟨u12, e13, hf⟩ := jbind hf
    obtain ⟨r10, e11, hf⟩ := jbind hf
    refine J_callV E (jd dk_X7_readExpression_0 43 rfl) ml_RX7_267 cal_X7_readAnd e13 rfl (lk_X7_readAnd (jE_g E) (jE_tr E) N hrec e11) rfl (Nat.le_of_ble_eq_true rfl) (jR_le hX (by omega) (by decide)) (jF0 hX) rfl ?_
    rintro _ _ ⟨rfl, rfl⟩
    refine J_aload_n E (jd dk_X7_readExpression_0 44 rfl) rfl 0 rfl ?_
    refine J_bipush (v := (-27)) E (jd dk_X7_readExpression_0 45 rfl) (by decide) ?_
    obtain ⟨u16, e17, hf⟩ := jbind hf
    obtain ⟨r14, e15, hf⟩ := jbind hf
    refine J_callV E (jd dk_X7_readExpression_0 46 rfl) ml_RX7_238 cal_X7_lay e17 rfl (lk_X7_lay (jE_g E) (jE_tr E) N e15) rfl (Nat.le_of_ble_eq_true rfl) (jR_le hX (by omega) (by decide)) (jF0 hX) rfl ?_
    rintro _ _ ⟨rfl, rfl⟩
    refine J_goto (tgt := 67) E (jd dk_X7_readExpression_0 47 rfl) (by decide) ?_
    exact kb _ (Option.some.inj hf).symm
set_option maxRecDepth 100000 in
set_option maxHeartbeats 4000000 in
theorem lk_X7_readExpression_b67 {G : JG} {X : JX} {dR : Nat} (E : jE G X (RX7, cX7_readExpression, 3)) (hX : X.2.2.2.1 = jRm (dR + 15) 0 0) (hr : X.2.2.2.2.2.2.2.2.1.sig.returnType = none) (N : Nat) {rf : AH → Nat → Int32 → Option AH} (hrec : ∀ (h : AH) (a : Nat) (n : Int32) (r : AH), rf h a n = some r → jMet G X.2.1 yX7_readExpression cX7_readExpression 3 none dR 0 0 [.ref a, .int n] h (jpv r)) {v0 : Nat} {v1 : Int32} {h : AH}  {r : AH} (hf : f_X7_readExpression_b67 N rf v0 v1 h = some r) : JW G X (RX7, cX7_readExpression, 3) h [(0, .ref v0), (1, .int v1)] [] 67 0 0 (jEnd G X (jpv r) 0 0) := by
  unfold f_X7_readExpression_b67 at hf
  obtain ⟨q1, h1, hf⟩ := jbind hf
  refine jloop (P := fun s => JW G X (RX7, cX7_readExpression, 3) s [(0, .ref v0), (1, .int v1)] [] 67 0 0 (jEnd G X (jpv r) 0 0)) (Ex := fun (e : AH) => JW G X (RX7, cX7_readExpression, 3) e [] [] 95 0 0 (jEnd G X (jpv r) 0 0)) (fun s q hs hb hx => lk_X7_readExpression_l67 E hX hr N hrec hs (fun s' hs => hb s' hs) (fun e he => hx e he)) N _ q1 h1 ?_
  generalize q1 = e at hf ⊢
  cases hf
  exact J_vret E hr (jd dk_X7_readExpression_0 48 rfl) (Nat.le_refl _) (Nat.le_refl _) ⟨rfl, rfl⟩
set_option maxRecDepth 100000 in
set_option maxHeartbeats 4000000 in
theorem lk_X7_readExpression_b62 {G : JG} {X : JX} {dR : Nat} (E : jE G X (RX7, cX7_readExpression, 3)) (hX : X.2.2.2.1 = jRm (dR + 15) 0 0) (hr : X.2.2.2.2.2.2.2.2.1.sig.returnType = none) (N : Nat) {rf : AH → Nat → Int32 → Option AH} (hrec : ∀ (h : AH) (a : Nat) (n : Int32) (r : AH), rf h a n = some r → jMet G X.2.1 yX7_readExpression cX7_readExpression 3 none dR 0 0 [.ref a, .int n] h (jpv r)) {v0 : Nat} {v1 : Int32} {h : AH}  {r : AH} (hf : f_X7_readExpression_b62 N rf v0 v1 h = some r) : JW G X (RX7, cX7_readExpression, 3) h [(0, .ref v0), (1, .int v1)] [] 62 0 0 (jEnd G X (jpv r) 0 0) := by
  unfold f_X7_readExpression_b62 at hf
  refine J_aload_n E (jd dk_X7_readExpression_0 32 rfl) rfl 0 rfl ?_
  refine J_iload_n E (jd dk_X7_readExpression_0 33 rfl) rfl 1 rfl ?_
  obtain ⟨u20, e21, hf⟩ := jbind hf
  obtain ⟨r18, e19, hf⟩ := jbind hf
  refine J_callV E (jd dk_X7_readExpression_0 34 rfl) ml_RX7_267 cal_X7_readAnd e21 rfl (lk_X7_readAnd (jE_g E) (jE_tr E) N hrec e19) rfl (Nat.le_of_ble_eq_true rfl) (jR_le hX (by omega) (by decide)) (jF0 hX) rfl ?_
  rintro _ _ ⟨rfl, rfl⟩
  exact lk_X7_readExpression_b67 E hX hr N hrec hf
set_option maxRecDepth 100000 in
set_option maxHeartbeats 4000000 in
theorem lk_X7_readExpression_b38 {G : JG} {X : JX} {dR : Nat} (E : jE G X (RX7, cX7_readExpression, 3)) (hX : X.2.2.2.1 = jRm (dR + 15) 0 0) (hr : X.2.2.2.2.2.2.2.2.1.sig.returnType = none) (N : Nat) {rf : AH → Nat → Int32 → Option AH} (hrec : ∀ (h : AH) (a : Nat) (n : Int32) (r : AH), rf h a n = some r → jMet G X.2.1 yX7_readExpression cX7_readExpression 3 none dR 0 0 [.ref a, .int n] h (jpv r)) {v0 : Nat} {v1 : Int32} {w0 : Int32} {h : AH}  {r : AH} (hf : f_X7_readExpression_b38 N rf v0 v1 w0 h = some r) : JW G X (RX7, cX7_readExpression, 3) h [(0, .ref v0), (1, .int v1)] [.int w0] 38 0 0 (jEnd G X (jpv r) 0 0) := by
  unfold f_X7_readExpression_b38 at hf
  refine J_istore_n (lv' := [(2, .int w0), (0, .ref v0), (1, .int v1)]) E (jd dk_X7_readExpression_0 19 rfl) rfl (by decide) rfl ?_
  refine J_iload_n E (jd dk_X7_readExpression_0 20 rfl) rfl 0 rfl ?_
  refine J_if_ne (tgt := 51) E (jd dk_X7_readExpression_0 21 rfl) (by decide) (fun c22 => ?_) (fun c22 => ?_)
  · replace hf := jif_f c22 hf
    refine J_iload_n E (jd dk_X7_readExpression_0 26 rfl) rfl 2 rfl ?_
    refine J_bipush (v := 6) E (jd dk_X7_readExpression_0 27 rfl) (by decide) ?_
    refine J_icmp_ne (tgt := 62) E (jd dk_X7_readExpression_0 28 rfl) (by decide) (fun c23 => ?_) (fun c23 => ?_)
    · replace hf := jif_f c23 hf
      refine J_sub [1, 2] rfl ?_
      exact lk_X7_readExpression_b62 E hX hr N hrec hf
    · replace hf := jif_t c23 hf
      refine J_aload_n E (jd dk_X7_readExpression_0 29 rfl) rfl 1 rfl ?_
      refine J_iconst (v := 2) E (jd dk_X7_readExpression_0 30 rfl) rfl ?_
      obtain ⟨u26, e27, hf⟩ := jbind hf
      obtain ⟨r24, e25, hf⟩ := jbind hf
      refine J_callV E (jd dk_X7_readExpression_0 31 rfl) ml_RX7_221 cal_X7_wrong e27 rfl (lk_X7_wrong (jE_g E) (jE_tr E) N e25) rfl (Nat.le_of_ble_eq_true rfl) (jR_le hX (by omega) (by decide)) (jF0 hX) rfl ?_
      rintro _ _ ⟨rfl, rfl⟩
      refine J_sub [1, 2] rfl ?_
      exact lk_X7_readExpression_b62 E hX hr N hrec hf
  · replace hf := jif_t c22 hf
    refine J_aload_n E (jd dk_X7_readExpression_0 22 rfl) rfl 1 rfl ?_
    refine J_iconst (v := 1) E (jd dk_X7_readExpression_0 23 rfl) rfl ?_
    obtain ⟨u30, e31, hf⟩ := jbind hf
    obtain ⟨r28, e29, hf⟩ := jbind hf
    refine J_callV E (jd dk_X7_readExpression_0 24 rfl) ml_RX7_221 cal_X7_wrong e31 rfl (lk_X7_wrong (jE_g E) (jE_tr E) N e29) rfl (Nat.le_of_ble_eq_true rfl) (jR_le hX (by omega) (by decide)) (jF0 hX) rfl ?_
    rintro _ _ ⟨rfl, rfl⟩
    refine J_goto (tgt := 62) E (jd dk_X7_readExpression_0 25 rfl) (by decide) ?_
    refine J_sub [1, 2] rfl ?_
    exact lk_X7_readExpression_b62 E hX hr N hrec hf
set_option maxRecDepth 100000 in
set_option maxHeartbeats 4000000 in
theorem lk_X7_readExpression_b33 {G : JG} {X : JX} {dR : Nat} (E : jE G X (RX7, cX7_readExpression, 3)) (hX : X.2.2.2.1 = jRm (dR + 15) 0 0) (hr : X.2.2.2.2.2.2.2.2.1.sig.returnType = none) (N : Nat) {rf : AH → Nat → Int32 → Option AH} (hrec : ∀ (h : AH) (a : Nat) (n : Int32) (r : AH), rf h a n = some r → jMet G X.2.1 yX7_readExpression cX7_readExpression 3 none dR 0 0 [.ref a, .int n] h (jpv r)) {v0 : Nat} {v1 : Int32} {h : AH}  {r : AH} (hf : f_X7_readExpression_b33 N rf v0 v1 h = some r) : JW G X (RX7, cX7_readExpression, 3) h [(0, .ref v0), (1, .int v1)] [] 33 0 0 (jEnd G X (jpv r) 0 0) := by
  unfold f_X7_readExpression_b33 at hf
  refine J_iconst (v := 1) E (jd dk_X7_readExpression_0 16 rfl) rfl ?_
  refine J_goto (tgt := 38) E (jd dk_X7_readExpression_0 17 rfl) (by decide) ?_
  exact lk_X7_readExpression_b38 E hX hr N hrec hf
set_option maxRecDepth 100000 in
set_option maxHeartbeats 4000000 in
theorem lk_X7_readExpression {G : JG} {l : Launch} (hG : jG G) (htr : l.stackTraces = false) (N : Nat) {rf : AH → Nat → Int32 → Option AH} {dR : Nat} (hrec : ∀ (h : AH) (a : Nat) (n : Int32) (r : AH), rf h a n = some r → jMet G l yX7_readExpression cX7_readExpression 3 none dR 0 0 [.ref a, .int n] h (jpv r)) {h : AH} {a0 : Nat} {a1 : Int32} {r : AH} (hf : f_X7_readExpression N rf h a0 a1 = some r) : jMet G l yX7_readExpression cX7_readExpression 3 none (dR + 15) 0 0 [.ref a0, .int a1] h (jpv r) := by
  unfold f_X7_readExpression at hf
  refine jMet_of hG htr (by decide) (Nat.le_of_ble_eq_true rfl) ?_
  intro X E hl9 hr hX _ _
  subst hl9
  show JW G X (RX7, cX7_readExpression, 3) h [(0, .ref a0), (1, .int a1)] [] 0 0 0 (jEnd G X (jpv r) 0 0)
  refine J_aload_n E (jd dk_X7_readExpression_0 0 rfl) rfl 0 rfl ?_
  obtain ⟨x32, e33, hf⟩ := jbind hf
  refine J_geti E (jd dk_X7_readExpression_0 1 rfl) fl_RX7_200 e33 ?_
  refine J_if_eq (tgt := 8) E (jd dk_X7_readExpression_0 2 rfl) (by decide) (fun c34 => ?_) (fun c34 => ?_)
  · replace hf := jif_t c34 hf
    refine J_aload_n E (jd dk_X7_readExpression_0 4 rfl) rfl 0 rfl ?_
    obtain ⟨x35, e36, hf⟩ := jbind hf
    refine J_geti E (jd dk_X7_readExpression_0 5 rfl) fl_RX7_174 e36 ?_
    refine J_iconst (v := 2) E (jd dk_X7_readExpression_0 6 rfl) rfl ?_
    refine J_icmp_eq (tgt := 33) E (jd dk_X7_readExpression_0 7 rfl) (by decide) (fun c37 => ?_) (fun c37 => ?_)
    · replace hf := jif_t c37 hf
      exact lk_X7_readExpression_b33 E hX hr N hrec hf
    · replace hf := jif_f c37 hf
      refine J_aload_n E (jd dk_X7_readExpression_0 8 rfl) rfl 0 rfl ?_
      obtain ⟨x38, e39, hf⟩ := jbind hf
      refine J_geti E (jd dk_X7_readExpression_0 9 rfl) fl_RX7_174 e39 ?_
      refine J_iconst (v := 1) E (jd dk_X7_readExpression_0 10 rfl) rfl ?_
      refine J_icmp_eq (tgt := 33) E (jd dk_X7_readExpression_0 11 rfl) (by decide) (fun c40 => ?_) (fun c40 => ?_)
      · replace hf := jif_t c40 hf
        exact lk_X7_readExpression_b33 E hX hr N hrec hf
      · replace hf := jif_f c40 hf
        refine J_aload_n E (jd dk_X7_readExpression_0 12 rfl) rfl 0 rfl ?_
        refine J_bipush (v := 40) E (jd dk_X7_readExpression_0 13 rfl) (by decide) ?_
        obtain ⟨u43, e44, hf⟩ := jbind hf
        obtain ⟨r41, e42, hf⟩ := jbind hf
        refine J_callV E (jd dk_X7_readExpression_0 14 rfl) ml_RX7_218 cal_X7_isMarked e44 rfl (lk_X7_isMarked (jE_g E) (jE_tr E) N e42) rfl (Nat.le_of_ble_eq_true rfl) (jR_le hX (by omega) (by decide)) (jF0 hX) rfl ?_
        rintro _ _ ⟨rfl, rfl⟩
        refine J_if_eq (tgt := 37) E (jd dk_X7_readExpression_0 15 rfl) (by decide) (fun c45 => ?_) (fun c45 => ?_)
        · replace hf := jif_t c45 hf
          refine J_iconst (v := 0) E (jd dk_X7_readExpression_0 18 rfl) rfl ?_
          exact lk_X7_readExpression_b38 E hX hr N hrec hf
        · replace hf := jif_f c45 hf
          exact lk_X7_readExpression_b33 E hX hr N hrec hf
  · replace hf := jif_f c34 hf
    cases hf
    exact J_vret E hr (jd dk_X7_readExpression_0 3 rfl) (Nat.le_refl _) (Nat.le_refl _) ⟨rfl, rfl⟩
def fr_X7_readExpression (N : Nat) : Nat → AH → Nat → Int32 → Option AH
  | 0 => fun _ _ _ => none
  | d + 1 => fun h a n => f_X7_readExpression N (fr_X7_readExpression N d) h a n
set_option maxRecDepth 100000 in
set_option maxHeartbeats 4000000 in
theorem lkq_X7_readExpression {G : JG} {l : Launch} (hG : jG G) (htr : l.stackTraces = false) (N : Nat) : ∀ (d : Nat) (h : AH) (a : Nat) (n : Int32) (r : AH), fr_X7_readExpression N d h a n = some r → jMet G l yX7_readExpression cX7_readExpression 3 none (15 * d) 0 0 [.ref a, .int n] h (jpv r) := by
  intro d
  induction d with
  | zero => intro h a n r hf; cases hf
  | succ d ih => intro h a n r hf; exact lk_X7_readExpression hG htr N ih hf
set_option maxRecDepth 100000 in
set_option maxHeartbeats 4000000 in
theorem lkr_X7_readExpression {G : JG} {l : Launch} (hG : jG G) (htr : l.stackTraces = false) (N : Nat) {h : AH} {a : Nat} {n : Int32} {r : AH} (hf : fr_X7_readExpression N 7 h a n = some r) : jMet G l yX7_readExpression cX7_readExpression 3 none 105 0 0 [.ref a, .int n] h (jpv r) := lkq_X7_readExpression hG htr N 7 h a n r hf
def f_X7_sayOnce_b56 (N : Nat) (v0 : Nat) (w0 : Nat) (w1 : Nat) (h : AH) : Option AH :=
  (jwr 7 h w0 3 w1).bind fun h1 =>
  (jck 7 h1 v0).bind fun _ =>
  (fr_X7_readExpression N 7 h1 v0 0).bind fun r3 =>
  some r3
def f_X7_sayOnce_b34 (N : Nat) (v0 : Nat) (w0 : Nat) (w1 : Int32) (h : AH) : Option AH :=
  (jwz 7 h w0 27 w1).bind fun h7 =>
  (jgi 7 h7 v0 27).bind fun x9 =>
  if x9 = 0 then (jgr 7 h7 v0 1).bind fun x12 =>
  f_X7_sayOnce_b56 N v0 v0 x12 h7
  else (jgr 7 h7 v0 2).bind fun x14 =>
  f_X7_sayOnce_b56 N v0 v0 x14 h7
def f_X7_sayOnce (N : Nat) (h : AH) (a0 : Nat) (a1 : Int32) : Option AH :=
  (jck 7 h a0).bind fun _ =>
  (f_X7_stepOn N h a0).bind fun r16 =>
  if a1 = 1 then (jgr 7 r16 a0 5).bind fun x22 =>
  (jck 7 r16 a0).bind fun _ =>
  (f_X7_readNumber N r16 a0 2 8).bind fun r24 =>
  (jas 0 r24.2 x22 5 r24.1).bind fun h28 =>
  some h28
  else if a1 = 4 then f_X7_sayOnce_b34 N a0 a0 1 r16
  else f_X7_sayOnce_b34 N a0 a0 0 r16
set_option maxRecDepth 100000 in
set_option maxHeartbeats 4000000 in
theorem lk_X7_sayOnce_b56 {G : JG} {X : JX} (E : jE G X (RX7, cX7_sayOnce, 2)) (hX : X.2.2.2.1 = jRm 106 0 0) (hr : X.2.2.2.2.2.2.2.2.1.sig.returnType = none) (N : Nat) {v0 : Nat} {w0 : Nat} {w1 : Nat} {h : AH}  {r : AH} (hf : f_X7_sayOnce_b56 N v0 w0 w1 h = some r) : JW G X (RX7, cX7_sayOnce, 2) h [(0, .ref v0)] [.ref w1, .ref w0] 56 0 0 (jEnd G X (jpv r) 0 0) := by
  unfold f_X7_sayOnce_b56 at hf
  obtain ⟨h1, e2, hf⟩ := jbind hf
  refine J_put E (jd dk_X7_sayOnce_0 31 rfl) fl_RX7_39 e2 (fun _ => rfl) (fun _ => rfl) ?_
  refine J_aload_n E (jd dk_X7_sayOnce_0 32 rfl) rfl 0 rfl ?_
  refine J_iconst (v := 0) E (jd dk_X7_sayOnce_0 33 rfl) rfl ?_
  obtain ⟨u5, e6, hf⟩ := jbind hf
  obtain ⟨r3, e4, hf⟩ := jbind hf
  refine J_callV E (jd dk_X7_sayOnce_0 34 rfl) ml_RX7_248 cal_X7_readExpression e6 rfl (lkr_X7_readExpression (jE_g E) (jE_tr E) N e4) rfl (Nat.le_of_ble_eq_true rfl) (jR_le hX (by decide) (by decide)) (jF0 hX) rfl ?_
  rintro _ _ ⟨rfl, rfl⟩
  cases hf
  exact J_vret E hr (jd dk_X7_sayOnce_0 35 rfl) (Nat.le_refl _) (Nat.le_refl _) ⟨rfl, rfl⟩
set_option maxRecDepth 100000 in
set_option maxHeartbeats 4000000 in
theorem lk_X7_sayOnce_b34 {G : JG} {X : JX} (E : jE G X (RX7, cX7_sayOnce, 2)) (hX : X.2.2.2.1 = jRm 106 0 0) (hr : X.2.2.2.2.2.2.2.2.1.sig.returnType = none) (N : Nat) {v0 : Nat} {w0 : Nat} {w1 : Int32} {h : AH}  {r : AH} (hf : f_X7_sayOnce_b34 N v0 w0 w1 h = some r) : JW G X (RX7, cX7_sayOnce, 2) h [(0, .ref v0)] [.int w1, .ref w0] 34 0 0 (jEnd G X (jpv r) 0 0) := by
  unfold f_X7_sayOnce_b34 at hf
  obtain ⟨h7, e8, hf⟩ := jbind hf
  refine J_putz E (jd dk_X7_sayOnce_0 21 rfl) fl_RX7_231 e8 ?_
  refine J_aload_n E (jd dk_X7_sayOnce_0 22 rfl) rfl 0 rfl ?_
  refine J_aload_n E (jd dk_X7_sayOnce_0 23 rfl) rfl 0 rfl ?_
  obtain ⟨x9, e10, hf⟩ := jbind hf
  refine J_geti E (jd dk_X7_sayOnce_0 24 rfl) fl_RX7_231 e10 ?_
  refine J_if_eq (tgt := 52) E (jd dk_X7_sayOnce_0 25 rfl) (by decide) (fun c11 => ?_) (fun c11 => ?_)
  · replace hf := jif_t c11 hf
    refine J_aload_n E (jd dk_X7_sayOnce_0 29 rfl) rfl 0 rfl ?_
    obtain ⟨x12, e13, hf⟩ := jbind hf
    refine J_getr E (jd dk_X7_sayOnce_0 30 rfl) fl_RX7_31 e13 ?_
    exact lk_X7_sayOnce_b56 E hX hr N hf
  · replace hf := jif_f c11 hf
    refine J_aload_n E (jd dk_X7_sayOnce_0 26 rfl) rfl 0 rfl ?_
    obtain ⟨x14, e15, hf⟩ := jbind hf
    refine J_getr E (jd dk_X7_sayOnce_0 27 rfl) fl_RX7_36 e15 ?_
    refine J_goto (tgt := 56) E (jd dk_X7_sayOnce_0 28 rfl) (by decide) ?_
    exact lk_X7_sayOnce_b56 E hX hr N hf
set_option maxRecDepth 100000 in
set_option maxHeartbeats 4000000 in
theorem lk_X7_sayOnce {G : JG} {l : Launch} (hG : jG G) (htr : l.stackTraces = false) (N : Nat) {h : AH} {a0 : Nat} {a1 : Int32} {r : AH} (hf : f_X7_sayOnce N h a0 a1 = some r) : jMet G l yX7_sayOnce cX7_sayOnce 2 none 106 0 0 [.ref a0, .int a1] h (jpv r) := by
  unfold f_X7_sayOnce at hf
  refine jMet_of hG htr (by decide) (Nat.le_of_ble_eq_true rfl) ?_
  intro X E hl9 hr hX _ _
  show JW G X (RX7, cX7_sayOnce, 2) h [(0, .ref a0), (1, .int a1)] [] 0 0 0 (jEnd G X (jpv r) 0 0)
  refine J_aload_n E (jd dk_X7_sayOnce_0 0 rfl) rfl 0 rfl ?_
  obtain ⟨u18, e19, hf⟩ := jbind hf
  obtain ⟨r16, e17, hf⟩ := jbind hf
  refine J_callV E (jd dk_X7_sayOnce_0 1 rfl) ml_RX7_225 cal_X7_stepOn e19 rfl (lk_X7_stepOn (jE_g E) (jE_tr E) N e17) rfl (Nat.le_of_ble_eq_true rfl) (jR_le hX (by decide) (by decide)) (jF0 hX) rfl ?_
  rintro _ _ ⟨rfl, rfl⟩
  refine J_iload_n E (jd dk_X7_sayOnce_0 2 rfl) rfl 1 rfl ?_
  refine J_iconst (v := 1) E (jd dk_X7_sayOnce_0 3 rfl) rfl ?_
  refine J_icmp_ne (tgt := 23) E (jd dk_X7_sayOnce_0 4 rfl) (by decide) (fun c20 => ?_) (fun c20 => ?_)
  · replace hf := jif_f c20 hf
    refine J_aload_n E (jd dk_X7_sayOnce_0 14 rfl) rfl 0 rfl ?_
    refine J_iload_n E (jd dk_X7_sayOnce_0 15 rfl) rfl 1 rfl ?_
    refine J_iconst (v := 4) E (jd dk_X7_sayOnce_0 16 rfl) rfl ?_
    refine J_icmp_ne (tgt := 33) E (jd dk_X7_sayOnce_0 17 rfl) (by decide) (fun c21 => ?_) (fun c21 => ?_)
    · replace hf := jif_f c21 hf
      refine J_iconst (v := 0) E (jd dk_X7_sayOnce_0 20 rfl) rfl ?_
      refine J_sub [0] rfl ?_
      exact lk_X7_sayOnce_b34 E hX hr N hf
    · replace hf := jif_t c21 hf
      refine J_iconst (v := 1) E (jd dk_X7_sayOnce_0 18 rfl) rfl ?_
      refine J_goto (tgt := 34) E (jd dk_X7_sayOnce_0 19 rfl) (by decide) ?_
      refine J_sub [0] rfl ?_
      exact lk_X7_sayOnce_b34 E hX hr N hf
  · replace hf := jif_t c20 hf
    refine J_aload_n E (jd dk_X7_sayOnce_0 5 rfl) rfl 0 rfl ?_
    obtain ⟨x22, e23, hf⟩ := jbind hf
    refine J_getr E (jd dk_X7_sayOnce_0 6 rfl) fl_RX7_42 e23 ?_
    refine J_iconst (v := 5) E (jd dk_X7_sayOnce_0 7 rfl) rfl ?_
    refine J_aload_n E (jd dk_X7_sayOnce_0 8 rfl) rfl 0 rfl ?_
    refine J_iconst (v := 2) E (jd dk_X7_sayOnce_0 9 rfl) rfl ?_
    refine J_bipush (v := 8) E (jd dk_X7_sayOnce_0 10 rfl) (by decide) ?_
    obtain ⟨u26, e27, hf⟩ := jbind hf
    obtain ⟨r24, e25, hf⟩ := jbind hf
    refine J_callV E (jd dk_X7_sayOnce_0 11 rfl) ml_RX7_235 cal_X7_readNumber e27 rfl (lk_X7_readNumber (jE_g E) (jE_tr E) N e25) rfl (Nat.le_of_ble_eq_true rfl) (jR_le hX (by decide) (by decide)) (jF0 hX) rfl ?_
    rintro _ _ ⟨rfl, rfl⟩
    obtain ⟨h28, e29, hf⟩ := jbind hf
    refine J_iast E (jd dk_X7_sayOnce_0 12 rfl) e29 ?_
    cases hf
    exact J_vret E hr (jd dk_X7_sayOnce_0 13 rfl) (Nat.le_refl _) (Nat.le_refl _) ⟨rfl, rfl⟩
def f_X7_readLine_b138 (N : Nat) (v0 : Nat) (v1 : Int32) (v3 : Int32) (h : AH) : Option (Int32 × AH) :=
  (jck 7 h v0).bind fun _ =>
  (f_X7_mark N h v0 59).bind fun r1 =>
  some (v1 ||| v3, r1)
def f_X7_readLine_b103 (N : Nat) (v0 : Nat) (v1 : Int32) (v2 : Int32) (v3 : Int32) (h : AH) : Option (Int32 × AH) :=
  if v2 = ((-1)) then (jck 7 h v0).bind fun _ =>
  (f_X7_is N h v0 1000039).bind fun r6 =>
  if r6.1 = 0 then (jck 7 r6.2 v0).bind fun _ =>
  (f_X7_wrong N r6.2 v0 1).bind fun r11 =>
  f_X7_readLine_b138 N v0 v1 v3 r11
  else (jck 7 r6.2 v0).bind fun _ =>
  (f_X7_sayReach N r6.2 v0).bind fun r15 =>
  f_X7_readLine_b138 N v0 v1 v3 r15
  else (jck 7 h v0).bind fun _ =>
  (f_X7_sayJudge N h v0 v2).bind fun r19 =>
  f_X7_readLine_b138 N v0 v1 v3 r19
def f_X7_readLine_b84 (N : Nat) (v0 : Nat) (v1 : Int32) (v2 : Int32) (v3 : Int32) (h : AH) : Option (Int32 × AH) :=
  if v3 ≤ 0 then f_X7_readLine_b103 N v0 v1 v2 v3 h
  else (jgi 7 h v0 24).bind fun x24 =>
  if x24 = 0 then (jck 7 h v0).bind fun _ =>
  (f_X7_sayOnce N h v0 v3).bind fun r27 =>
  f_X7_readLine_b138 N v0 v1 v3 r27
  else f_X7_readLine_b103 N v0 v1 v2 v3 h
def f_X7_readLine_b73 (N : Nat) (v0 : Nat) (v1 : Int32) (v2 : Int32) (v3 : Int32) (h : AH) : Option (Int32 × AH) :=
  if (v3 &&& v1) = 0 then f_X7_readLine_b84 N v0 v1 v2 v3 h
  else (jck 7 h v0).bind fun _ =>
  (f_X7_wrong N h v0 5).bind fun r32 =>
  f_X7_readLine_b84 N v0 v1 v2 v3 r32
def f_X7_readLine_b52 (N : Nat) (v0 : Nat) (v1 : Int32) (v2 : Int32) (w0 : Int32) (h : AH) : Option (Int32 × AH) :=
  if w0 = 1 then (jgr 7 h v0 5).bind fun x37 =>
  (jal 0 h x37 7).bind fun x39 =>
  if x39 ≤ 0 then f_X7_readLine_b73 N v0 v1 v2 w0 h
  else (jck 7 h v0).bind fun _ =>
  (f_X7_wrong N h v0 4).bind fun r42 =>
  f_X7_readLine_b73 N v0 v1 v2 w0 r42
  else f_X7_readLine_b73 N v0 v1 v2 w0 h
def f_X7_readLine (N : Nat) (h : AH) (a0 : Nat) (a1 : Int32) : Option (Int32 × AH) :=
  (jgr 7 h a0 0).bind fun x46 =>
  (jck 7 h a0).bind fun _ =>
  (f_X7_which N h a0 x46).bind fun r48 =>
  (jck 7 r48.2 a0).bind fun _ =>
  (f_X7_is N r48.2 a0 1000033).bind fun r52 =>
  if r52.1 = 0 then (jck 7 r52.2 a0).bind fun _ =>
  (f_X7_is N r52.2 a0 1000034).bind fun r57 =>
  if r57.1 = 0 then (jck 7 r57.2 a0).bind fun _ =>
  (f_X7_is N r57.2 a0 1000035).bind fun r62 =>
  if r62.1 = 0 then f_X7_readLine_b52 N a0 a1 r48.1 0 r62.2
  else f_X7_readLine_b52 N a0 a1 r48.1 4 r62.2
  else f_X7_readLine_b52 N a0 a1 r48.1 2 r57.2
  else f_X7_readLine_b52 N a0 a1 r48.1 1 r52.2
set_option maxRecDepth 100000 in
set_option maxHeartbeats 4000000 in
theorem lk_X7_readLine_b138 {G : JG} {X : JX} (E : jE G X (RX7, cX7_readLine, 4)) (hX : X.2.2.2.1 = jRm 107 0 0) (hr : X.2.2.2.2.2.2.2.2.1.sig.returnType = (some .int)) (N : Nat) {v0 : Nat} {v1 : Int32} {v3 : Int32} {h : AH}  {r : (Int32 × AH)} (hf : f_X7_readLine_b138 N v0 v1 v3 h = some r) : JW G X (RX7, cX7_readLine, 4) h [(0, .ref v0), (1, .int v1), (3, .int v3)] [] 138 0 0 (jEnd G X (jpi r) 0 0) := by
  unfold f_X7_readLine_b138 at hf
  refine J_aload_n E (jd dk_X7_readLine_1 19 rfl) rfl 0 rfl ?_
  refine J_bipush (v := 59) E (jd dk_X7_readLine_1 20 rfl) (by decide) ?_
  obtain ⟨u3, e4, hf⟩ := jbind hf
  obtain ⟨r1, e2, hf⟩ := jbind hf
  refine J_callV E (jd dk_X7_readLine_1 21 rfl) ml_RX7_245 cal_X7_mark e4 rfl (lk_X7_mark (jE_g E) (jE_tr E) N e2) rfl (Nat.le_of_ble_eq_true rfl) (jR_le hX (by decide) (by decide)) (jF0 hX) rfl ?_
  rintro _ _ ⟨rfl, rfl⟩
  refine J_iload_n E (jd dk_X7_readLine_1 22 rfl) rfl 1 rfl ?_
  refine J_iload_n E (jd dk_X7_readLine_1 23 rfl) rfl 2 rfl ?_
  refine J_ior E (jd dk_X7_readLine_1 24 rfl) ?_
  cases hf
  exact J_iret E hr rfl (jd dk_X7_readLine_1 25 rfl) (Nat.le_refl _) (Nat.le_refl _) ⟨rfl, rfl⟩
set_option maxRecDepth 100000 in
set_option maxHeartbeats 4000000 in
theorem lk_X7_readLine_b103 {G : JG} {X : JX} (E : jE G X (RX7, cX7_readLine, 4)) (hX : X.2.2.2.1 = jRm 107 0 0) (hr : X.2.2.2.2.2.2.2.2.1.sig.returnType = (some .int)) (N : Nat) {v0 : Nat} {v1 : Int32} {v2 : Int32} {v3 : Int32} {h : AH}  {r : (Int32 × AH)} (hf : f_X7_readLine_b103 N v0 v1 v2 v3 h = some r) : JW G X (RX7, cX7_readLine, 4) h [(0, .ref v0), (1, .int v1), (2, .int v2), (3, .int v3)] [] 103 0 0 (jEnd G X (jpi r) 0 0) := by
  unfold f_X7_readLine_b103 at hf
  refine J_iload_n E (jd dk_X7_readLine_1 2 rfl) rfl 2 rfl ?_
  refine J_iconst (v := (-1)) E (jd dk_X7_readLine_1 3 rfl) rfl ?_
  refine J_icmp_eq (tgt := 116) E (jd dk_X7_readLine_1 4 rfl) (by decide) (fun c5 => ?_) (fun c5 => ?_)
  · replace hf := jif_t c5 hf
    refine J_aload_n E (jd dk_X7_readLine_1 9 rfl) rfl 0 rfl ?_
    refine J_ldcSw (j := 39) (tx := "reach") E (jd dk_X7_readLine_1 10 rfl) rfl ?_
    obtain ⟨u8, e9, hf⟩ := jbind hf
    obtain ⟨r6, e7, hf⟩ := jbind hf
    refine J_callV E (jd dk_X7_readLine_1 11 rfl) ml_RX7_214 cal_X7_is e9 rfl (lk_X7_is (jE_g E) (jE_tr E) N e7) rfl (Nat.le_of_ble_eq_true rfl) (jR_le hX (by decide) (by decide)) (jF0 hX) rfl ?_
    rintro _ _ ⟨rfl, rfl⟩
    refine J_if_eq (tgt := 133) E (jd dk_X7_readLine_1 12 rfl) (by decide) (fun c10 => ?_) (fun c10 => ?_)
    · replace hf := jif_t c10 hf
      refine J_aload_n E (jd dk_X7_readLine_1 16 rfl) rfl 0 rfl ?_
      refine J_iconst (v := 1) E (jd dk_X7_readLine_1 17 rfl) rfl ?_
      obtain ⟨u13, e14, hf⟩ := jbind hf
      obtain ⟨r11, e12, hf⟩ := jbind hf
      refine J_callV E (jd dk_X7_readLine_1 18 rfl) ml_RX7_221 cal_X7_wrong e14 rfl (lk_X7_wrong (jE_g E) (jE_tr E) N e12) rfl (Nat.le_of_ble_eq_true rfl) (jR_le hX (by decide) (by decide)) (jF0 hX) rfl ?_
      rintro _ _ ⟨rfl, rfl⟩
      refine J_sub [0, 1, 3] rfl ?_
      exact lk_X7_readLine_b138 E hX hr N hf
    · replace hf := jif_f c10 hf
      refine J_aload_n E (jd dk_X7_readLine_1 13 rfl) rfl 0 rfl ?_
      obtain ⟨u17, e18, hf⟩ := jbind hf
      obtain ⟨r15, e16, hf⟩ := jbind hf
      refine J_callV E (jd dk_X7_readLine_1 14 rfl) ml_RX7_290 cal_X7_sayReach e18 rfl (lk_X7_sayReach (jE_g E) (jE_tr E) N e16) rfl (Nat.le_of_ble_eq_true rfl) (jR_le hX (by decide) (by decide)) (jF0 hX) rfl ?_
      rintro _ _ ⟨rfl, rfl⟩
      refine J_goto (tgt := 138) E (jd dk_X7_readLine_1 15 rfl) (by decide) ?_
      refine J_sub [0, 1, 3] rfl ?_
      exact lk_X7_readLine_b138 E hX hr N hf
  · replace hf := jif_f c5 hf
    refine J_aload_n E (jd dk_X7_readLine_1 5 rfl) rfl 0 rfl ?_
    refine J_iload_n E (jd dk_X7_readLine_1 6 rfl) rfl 2 rfl ?_
    obtain ⟨u21, e22, hf⟩ := jbind hf
    obtain ⟨r19, e20, hf⟩ := jbind hf
    refine J_callV E (jd dk_X7_readLine_1 7 rfl) ml_RX7_285 cal_X7_sayJudge e22 rfl (lk_X7_sayJudge (jE_g E) (jE_tr E) N e20) rfl (Nat.le_of_ble_eq_true rfl) (jR_le hX (by decide) (by decide)) (jF0 hX) rfl ?_
    rintro _ _ ⟨rfl, rfl⟩
    refine J_goto (tgt := 138) E (jd dk_X7_readLine_1 8 rfl) (by decide) ?_
    refine J_sub [0, 1, 3] rfl ?_
    exact lk_X7_readLine_b138 E hX hr N hf
set_option maxRecDepth 100000 in
set_option maxHeartbeats 4000000 in
theorem lk_X7_readLine_b84 {G : JG} {X : JX} (E : jE G X (RX7, cX7_readLine, 4)) (hX : X.2.2.2.1 = jRm 107 0 0) (hr : X.2.2.2.2.2.2.2.2.1.sig.returnType = (some .int)) (N : Nat) {v0 : Nat} {v1 : Int32} {v2 : Int32} {v3 : Int32} {h : AH}  {r : (Int32 × AH)} (hf : f_X7_readLine_b84 N v0 v1 v2 v3 h = some r) : JW G X (RX7, cX7_readLine, 4) h [(0, .ref v0), (1, .int v1), (2, .int v2), (3, .int v3)] [] 84 0 0 (jEnd G X (jpi r) 0 0) := by
  unfold f_X7_readLine_b84 at hf
  refine J_iload_n E (jd dk_X7_readLine_0 43 rfl) rfl 3 rfl ?_
  refine J_if_le (tgt := 103) E (jd dk_X7_readLine_0 44 rfl) (by decide) (fun c23 => ?_) (fun c23 => ?_)
  · replace hf := jif_t c23 hf
    exact lk_X7_readLine_b103 E hX hr N hf
  · replace hf := jif_f c23 hf
    refine J_aload_n E (jd dk_X7_readLine_0 45 rfl) rfl 0 rfl ?_
    obtain ⟨x24, e25, hf⟩ := jbind hf
    refine J_geti E (jd dk_X7_readLine_0 46 rfl) fl_RX7_200 e25 ?_
    refine J_if_ne (tgt := 103) E (jd dk_X7_readLine_0 47 rfl) (by decide) (fun c26 => ?_) (fun c26 => ?_)
    · replace hf := jif_f c26 hf
      exact lk_X7_readLine_b103 E hX hr N hf
    · replace hf := jif_t c26 hf
      refine J_aload_n E (jd dk_X7_readLine_0 48 rfl) rfl 0 rfl ?_
      refine J_iload_n E (jd dk_X7_readLine_0 49 rfl) rfl 3 rfl ?_
      obtain ⟨u29, e30, hf⟩ := jbind hf
      obtain ⟨r27, e28, hf⟩ := jbind hf
      refine J_callV E (jd dk_X7_readLine_1 0 rfl) ml_RX7_282 cal_X7_sayOnce e30 rfl (lk_X7_sayOnce (jE_g E) (jE_tr E) N e28) rfl (Nat.le_of_ble_eq_true rfl) (jR_le hX (by decide) (by decide)) (jF0 hX) rfl ?_
      rintro _ _ ⟨rfl, rfl⟩
      refine J_goto (tgt := 138) E (jd dk_X7_readLine_1 1 rfl) (by decide) ?_
      refine J_sub [0, 1, 3] rfl ?_
      exact lk_X7_readLine_b138 E hX hr N hf
set_option maxRecDepth 100000 in
set_option maxHeartbeats 4000000 in
theorem lk_X7_readLine_b73 {G : JG} {X : JX} (E : jE G X (RX7, cX7_readLine, 4)) (hX : X.2.2.2.1 = jRm 107 0 0) (hr : X.2.2.2.2.2.2.2.2.1.sig.returnType = (some .int)) (N : Nat) {v0 : Nat} {v1 : Int32} {v2 : Int32} {v3 : Int32} {h : AH}  {r : (Int32 × AH)} (hf : f_X7_readLine_b73 N v0 v1 v2 v3 h = some r) : JW G X (RX7, cX7_readLine, 4) h [(0, .ref v0), (1, .int v1), (2, .int v2), (3, .int v3)] [] 73 0 0 (jEnd G X (jpi r) 0 0) := by
  unfold f_X7_readLine_b73 at hf
  refine J_iload_n E (jd dk_X7_readLine_0 36 rfl) rfl 3 rfl ?_
  refine J_iload_n E (jd dk_X7_readLine_0 37 rfl) rfl 1 rfl ?_
  refine J_iand E (jd dk_X7_readLine_0 38 rfl) ?_
  refine J_if_eq (tgt := 84) E (jd dk_X7_readLine_0 39 rfl) (by decide) (fun c31 => ?_) (fun c31 => ?_)
  · replace hf := jif_t c31 hf
    exact lk_X7_readLine_b84 E hX hr N hf
  · replace hf := jif_f c31 hf
    refine J_aload_n E (jd dk_X7_readLine_0 40 rfl) rfl 0 rfl ?_
    refine J_iconst (v := 5) E (jd dk_X7_readLine_0 41 rfl) rfl ?_
    obtain ⟨u34, e35, hf⟩ := jbind hf
    obtain ⟨r32, e33, hf⟩ := jbind hf
    refine J_callV E (jd dk_X7_readLine_0 42 rfl) ml_RX7_221 cal_X7_wrong e35 rfl (lk_X7_wrong (jE_g E) (jE_tr E) N e33) rfl (Nat.le_of_ble_eq_true rfl) (jR_le hX (by decide) (by decide)) (jF0 hX) rfl ?_
    rintro _ _ ⟨rfl, rfl⟩
    exact lk_X7_readLine_b84 E hX hr N hf
set_option maxRecDepth 100000 in
set_option maxHeartbeats 4000000 in
theorem lk_X7_readLine_b52 {G : JG} {X : JX} (E : jE G X (RX7, cX7_readLine, 4)) (hX : X.2.2.2.1 = jRm 107 0 0) (hr : X.2.2.2.2.2.2.2.2.1.sig.returnType = (some .int)) (N : Nat) {v0 : Nat} {v1 : Int32} {v2 : Int32} {w0 : Int32} {h : AH}  {r : (Int32 × AH)} (hf : f_X7_readLine_b52 N v0 v1 v2 w0 h = some r) : JW G X (RX7, cX7_readLine, 4) h [(0, .ref v0), (1, .int v1), (2, .int v2)] [.int w0] 52 0 0 (jEnd G X (jpi r) 0 0) := by
  unfold f_X7_readLine_b52 at hf
  refine J_istore_n (lv' := [(3, .int w0), (0, .ref v0), (1, .int v1), (2, .int v2)]) E (jd dk_X7_readLine_0 24 rfl) rfl (by decide) rfl ?_
  refine J_iload_n E (jd dk_X7_readLine_0 25 rfl) rfl 0 rfl ?_
  refine J_iconst (v := 1) E (jd dk_X7_readLine_0 26 rfl) rfl ?_
  refine J_icmp_ne (tgt := 73) E (jd dk_X7_readLine_0 27 rfl) (by decide) (fun c36 => ?_) (fun c36 => ?_)
  · replace hf := jif_f c36 hf
    refine J_sub [1, 2, 3, 0] rfl ?_
    exact lk_X7_readLine_b73 E hX hr N hf
  · replace hf := jif_t c36 hf
    refine J_aload_n E (jd dk_X7_readLine_0 28 rfl) rfl 1 rfl ?_
    obtain ⟨x37, e38, hf⟩ := jbind hf
    refine J_getr E (jd dk_X7_readLine_0 29 rfl) fl_RX7_42 e38 ?_
    refine J_bipush (v := 7) E (jd dk_X7_readLine_0 30 rfl) (by decide) ?_
    obtain ⟨x39, e40, hf⟩ := jbind hf
    refine J_iald E (jd dk_X7_readLine_0 31 rfl) e40 ?_
    refine J_if_le (tgt := 73) E (jd dk_X7_readLine_0 32 rfl) (by decide) (fun c41 => ?_) (fun c41 => ?_)
    · replace hf := jif_t c41 hf
      refine J_sub [1, 2, 3, 0] rfl ?_
      exact lk_X7_readLine_b73 E hX hr N hf
    · replace hf := jif_f c41 hf
      refine J_aload_n E (jd dk_X7_readLine_0 33 rfl) rfl 1 rfl ?_
      refine J_iconst (v := 4) E (jd dk_X7_readLine_0 34 rfl) rfl ?_
      obtain ⟨u44, e45, hf⟩ := jbind hf
      obtain ⟨r42, e43, hf⟩ := jbind hf
      refine J_callV E (jd dk_X7_readLine_0 35 rfl) ml_RX7_221 cal_X7_wrong e45 rfl (lk_X7_wrong (jE_g E) (jE_tr E) N e43) rfl (Nat.le_of_ble_eq_true rfl) (jR_le hX (by decide) (by decide)) (jF0 hX) rfl ?_
      rintro _ _ ⟨rfl, rfl⟩
      refine J_sub [1, 2, 3, 0] rfl ?_
      exact lk_X7_readLine_b73 E hX hr N hf
set_option maxRecDepth 100000 in
set_option maxHeartbeats 4000000 in
theorem lk_X7_readLine {G : JG} {l : Launch} (hG : jG G) (htr : l.stackTraces = false) (N : Nat) {h : AH} {a0 : Nat} {a1 : Int32} {r : (Int32 × AH)} (hf : f_X7_readLine N h a0 a1 = some r) : jMet G l yX7_readLine cX7_readLine 4 (some .int) 107 0 0 [.ref a0, .int a1] h (jpi r) := by
  unfold f_X7_readLine at hf
  refine jMet_of hG htr (by decide) (Nat.le_of_ble_eq_true rfl) ?_
  intro X E hl9 hr hX _ _
  show JW G X (RX7, cX7_readLine, 4) h [(0, .ref a0), (1, .int a1)] [] 0 0 0 (jEnd G X (jpi r) 0 0)
  refine J_aload_n E (jd dk_X7_readLine_0 0 rfl) rfl 0 rfl ?_
  refine J_aload_n E (jd dk_X7_readLine_0 1 rfl) rfl 0 rfl ?_
  obtain ⟨x46, e47, hf⟩ := jbind hf
  refine J_getr E (jd dk_X7_readLine_0 2 rfl) fl_RX7_15 e47 ?_
  obtain ⟨u50, e51, hf⟩ := jbind hf
  obtain ⟨r48, e49, hf⟩ := jbind hf
  refine J_callV E (jd dk_X7_readLine_0 3 rfl) ml_RX7_241 cal_X7_which e51 rfl (lk_X7_which (jE_g E) (jE_tr E) N e49) rfl (Nat.le_of_ble_eq_true rfl) (jR_le hX (by decide) (by decide)) (jF0 hX) rfl ?_
  rintro _ _ ⟨rfl, rfl⟩
  refine J_istore_n (lv' := [(2, .int r48.1), (0, .ref a0), (1, .int a1)]) E (jd dk_X7_readLine_0 4 rfl) rfl (by decide) rfl ?_
  refine J_aload_n E (jd dk_X7_readLine_0 5 rfl) rfl 1 rfl ?_
  refine J_ldcSw (j := 33) (tx := "sides") E (jd dk_X7_readLine_0 6 rfl) rfl ?_
  obtain ⟨u54, e55, hf⟩ := jbind hf
  obtain ⟨r52, e53, hf⟩ := jbind hf
  refine J_callV E (jd dk_X7_readLine_0 7 rfl) ml_RX7_214 cal_X7_is e55 rfl (lk_X7_is (jE_g E) (jE_tr E) N e53) rfl (Nat.le_of_ble_eq_true rfl) (jR_le hX (by decide) (by decide)) (jF0 hX) rfl ?_
  rintro _ _ ⟨rfl, rfl⟩
  refine J_if_eq (tgt := 23) E (jd dk_X7_readLine_0 8 rfl) (by decide) (fun c56 => ?_) (fun c56 => ?_)
  · replace hf := jif_t c56 hf
    refine J_aload_n E (jd dk_X7_readLine_0 11 rfl) rfl 1 rfl ?_
    refine J_ldcSw (j := 34) (tx := "turns") E (jd dk_X7_readLine_0 12 rfl) rfl ?_
    obtain ⟨u59, e60, hf⟩ := jbind hf
    obtain ⟨r57, e58, hf⟩ := jbind hf
    refine J_callV E (jd dk_X7_readLine_0 13 rfl) ml_RX7_214 cal_X7_is e60 rfl (lk_X7_is (jE_g E) (jE_tr E) N e58) rfl (Nat.le_of_ble_eq_true rfl) (jR_le hX (by decide) (by decide)) (jF0 hX) rfl ?_
    rintro _ _ ⟨rfl, rfl⟩
    refine J_if_eq (tgt := 37) E (jd dk_X7_readLine_0 14 rfl) (by decide) (fun c61 => ?_) (fun c61 => ?_)
    · replace hf := jif_t c61 hf
      refine J_aload_n E (jd dk_X7_readLine_0 17 rfl) rfl 1 rfl ?_
      refine J_ldcSw (j := 35) (tx := "goes") E (jd dk_X7_readLine_0 18 rfl) rfl ?_
      obtain ⟨u64, e65, hf⟩ := jbind hf
      obtain ⟨r62, e63, hf⟩ := jbind hf
      refine J_callV E (jd dk_X7_readLine_0 19 rfl) ml_RX7_214 cal_X7_is e65 rfl (lk_X7_is (jE_g E) (jE_tr E) N e63) rfl (Nat.le_of_ble_eq_true rfl) (jR_le hX (by decide) (by decide)) (jF0 hX) rfl ?_
      rintro _ _ ⟨rfl, rfl⟩
      refine J_if_eq (tgt := 51) E (jd dk_X7_readLine_0 20 rfl) (by decide) (fun c66 => ?_) (fun c66 => ?_)
      · replace hf := jif_t c66 hf
        refine J_iconst (v := 0) E (jd dk_X7_readLine_0 23 rfl) rfl ?_
        refine J_sub [1, 2, 0] rfl ?_
        exact lk_X7_readLine_b52 E hX hr N hf
      · replace hf := jif_f c66 hf
        refine J_iconst (v := 4) E (jd dk_X7_readLine_0 21 rfl) rfl ?_
        refine J_goto (tgt := 52) E (jd dk_X7_readLine_0 22 rfl) (by decide) ?_
        refine J_sub [1, 2, 0] rfl ?_
        exact lk_X7_readLine_b52 E hX hr N hf
    · replace hf := jif_f c61 hf
      refine J_iconst (v := 2) E (jd dk_X7_readLine_0 15 rfl) rfl ?_
      refine J_goto (tgt := 52) E (jd dk_X7_readLine_0 16 rfl) (by decide) ?_
      refine J_sub [1, 2, 0] rfl ?_
      exact lk_X7_readLine_b52 E hX hr N hf
  · replace hf := jif_f c56 hf
    refine J_iconst (v := 1) E (jd dk_X7_readLine_0 9 rfl) rfl ?_
    refine J_goto (tgt := 52) E (jd dk_X7_readLine_0 10 rfl) (by decide) ?_
    refine J_sub [1, 2, 0] rfl ?_
    exact lk_X7_readLine_b52 E hX hr N hf
def f_X7_gorge_b17 (N : Nat) (v0 : Nat) (h : AH) : Option (Int32 × AH) :=
  (jck 7 h v0).bind fun _ =>
  (f_X7_fail N h v0 1).bind fun r1 =>
  some (r1.1, r1.2)
def f_X7_gorge_b107 (N : Nat) (v0 : Nat) (h : AH) : Option (Int32 × AH) :=
  (jgi 7 h v0 24).bind fun x5 =>
  if x5 = 0 then (jck 7 h v0).bind fun _ =>
  (f_X7_takeOver N h v0).bind fun r8 =>
  some (0, r8)
  else (jgi 7 h v0 25).bind fun x12 =>
  (jwi 7 h v0 26 x12).bind fun h14 =>
  (jgr 7 h14 v0 14).bind fun x16 =>
  (jal 0 h14 x16 0).bind fun x18 =>
  (jas 0 h14 x16 0 (x18 + 1)).bind fun h20 =>
  (jgi 7 h20 v0 24).bind fun x22 =>
  some (x22, h20)
def f_X7_gorge_l84 (N : Nat) (v0 : Nat) (v2 : Int32) (h : AH) : Option ((Int32 × AH) ⊕ ((AH))) :=
  (jgi 7 h v0 24).bind fun x24 =>
  if x24 = 0 then (jgi 7 h v0 20).bind fun x27 =>
  if x27 = 0 then some (.inr h)
  else (jck 7 h v0).bind fun _ =>
  (f_X7_readLine N h v0 v2).bind fun r30 =>
  some (.inl ((r30.1, r30.2)))
  else some (.inr h)
def f_X7_gorge_b84 (N : Nat) (v0 : Nat) (v2 : Int32) (h : AH) : Option (Int32 × AH) :=
  (itr (fun s => f_X7_gorge_l84 N v0 s.1 s.2) N (v2, h)).bind (fun e => f_X7_gorge_b107 N v0 e)
def f_X7_gorge_b71 (N : Nat) (v0 : Nat) (v2 : Int32) (w0 : Nat) (w1 : Int32) (w2 : Int32) (h : AH) : Option ((Int32 × AH) ⊕ ((AH))) :=
  (jas 0 h w0 w1 w2).bind fun h34 =>
  some (.inl ((v2 + 1, h34)))
def f_X7_gorge_l50 (N : Nat) (v0 : Nat) (v2 : Int32) (h : AH) : Option ((Int32 × AH) ⊕ ((AH))) :=
  if 5 ≤ v2 then some (.inr h)
  else (jgr 7 h v0 5).bind fun x37 =>
  if v2 = 0 then f_X7_gorge_b71 N v0 v2 x37 ((5 : Int32) + v2) 4 h
  else f_X7_gorge_b71 N v0 v2 x37 ((5 : Int32) + v2) 0 h
def f_X7_gorge_b50 (N : Nat) (v0 : Nat) (v2 : Int32) (h : AH) : Option (Int32 × AH) :=
  (itr (fun s => f_X7_gorge_l50 N v0 s.1 s.2) N (v2, h)).bind (fun e => (jck 7 e v0).bind fun _ =>
  (f_X7_stepOn N e v0).bind fun r40 =>
  f_X7_gorge_b84 N v0 0 r40)
def f_X7_gorge (N : Nat) (h : AH) (a0 : Nat) (a1 : Int32) : Option (Int32 × AH) :=
  (jwi 7 h a0 4 0).bind fun h44 =>
  if a1 < 0 then f_X7_gorge_b17 N a0 h44
  else (jgi 7 h44 a0 17).bind fun x47 =>
  if a1 ≤ x47 then (jwi 7 h44 a0 17 0).bind fun h50 =>
  (jwi 7 h50 a0 19 a1).bind fun h52 =>
  (jwi 7 h52 a0 18 0).bind fun h54 =>
  (jwi 7 h54 a0 24 0).bind fun h56 =>
  (jwi 7 h56 a0 26 ((-1))).bind fun h58 =>
  f_X7_gorge_b50 N a0 0 h58
  else f_X7_gorge_b17 N a0 h44
set_option maxRecDepth 100000 in
set_option maxHeartbeats 4000000 in
theorem lk_X7_gorge_b17 {G : JG} {X : JX} (E : jE G X (RX7, cX7_gorge, 3)) (hX : X.2.2.2.1 = jRm 108 0 0) (hr : X.2.2.2.2.2.2.2.2.1.sig.returnType = (some .int)) (N : Nat) {v0 : Nat} {h : AH}  {r : (Int32 × AH)} (hf : f_X7_gorge_b17 N v0 h = some r) : JW G X (RX7, cX7_gorge, 3) h [(0, .ref v0)] [] 17 0 0 (jEnd G X (jpi r) 0 0) := by
  unfold f_X7_gorge_b17 at hf
  refine J_aload_n E (jd dk_X7_gorge_0 9 rfl) rfl 0 rfl ?_
  refine J_iconst (v := 1) E (jd dk_X7_gorge_0 10 rfl) rfl ?_
  obtain ⟨u3, e4, hf⟩ := jbind hf
  obtain ⟨r1, e2, hf⟩ := jbind hf
  refine J_callV E (jd dk_X7_gorge_0 11 rfl) ml_RX7_293 cal_X7_fail e4 rfl (lk_X7_fail (jE_g E) (jE_tr E) N e2) rfl (Nat.le_of_ble_eq_true rfl) (jR_le hX (by decide) (by decide)) (jF0 hX) rfl ?_
  rintro _ _ ⟨rfl, rfl⟩
  cases hf
  exact J_iret E hr rfl (jd dk_X7_gorge_0 12 rfl) (Nat.le_refl _) (Nat.le_refl _) ⟨rfl, rfl⟩
set_option maxRecDepth 100000 in
set_option maxHeartbeats 4000000 in
theorem lk_X7_gorge_b107 {G : JG} {X : JX} (E : jE G X (RX7, cX7_gorge, 3)) (hX : X.2.2.2.1 = jRm 108 0 0) (hr : X.2.2.2.2.2.2.2.2.1.sig.returnType = (some .int)) (N : Nat) {v0 : Nat} {h : AH}  {r : (Int32 × AH)} (hf : f_X7_gorge_b107 N v0 h = some r) : JW G X (RX7, cX7_gorge, 3) h [(0, .ref v0)] [] 107 0 0 (jEnd G X (jpi r) 0 0) := by
  unfold f_X7_gorge_b107 at hf
  refine J_aload_n E (jd dk_X7_gorge_1 11 rfl) rfl 0 rfl ?_
  obtain ⟨x5, e6, hf⟩ := jbind hf
  refine J_geti E (jd dk_X7_gorge_1 12 rfl) fl_RX7_200 e6 ?_
  refine J_if_eq (tgt := 137) E (jd dk_X7_gorge_1 13 rfl) (by decide) (fun c7 => ?_) (fun c7 => ?_)
  · replace hf := jif_t c7 hf
    refine J_aload_n E (jd dk_X7_gorge_1 29 rfl) rfl 0 rfl ?_
    obtain ⟨u10, e11, hf⟩ := jbind hf
    obtain ⟨r8, e9, hf⟩ := jbind hf
    refine J_callV E (jd dk_X7_gorge_1 30 rfl) ml_RX7_299 cal_X7_takeOver e11 rfl (lk_X7_takeOver (jE_g E) (jE_tr E) N e9) rfl (Nat.le_of_ble_eq_true rfl) (jR_le hX (by decide) (by decide)) (jF0 hX) rfl ?_
    rintro _ _ ⟨rfl, rfl⟩
    refine J_iconst (v := 0) E (jd dk_X7_gorge_1 31 rfl) rfl ?_
    cases hf
    exact J_iret E hr rfl (jd dk_X7_gorge_1 32 rfl) (Nat.le_refl _) (Nat.le_refl _) ⟨rfl, rfl⟩
  · replace hf := jif_f c7 hf
    refine J_aload_n E (jd dk_X7_gorge_1 14 rfl) rfl 0 rfl ?_
    refine J_aload_n E (jd dk_X7_gorge_1 15 rfl) rfl 0 rfl ?_
    obtain ⟨x12, e13, hf⟩ := jbind hf
    refine J_geti E (jd dk_X7_gorge_1 16 rfl) fl_RX7_203 e13 ?_
    obtain ⟨h14, e15, hf⟩ := jbind hf
    refine J_put E (jd dk_X7_gorge_1 17 rfl) fl_RX7_77 e15 (fun _ => rfl) (fun _ => rfl) ?_
    refine J_aload_n E (jd dk_X7_gorge_1 18 rfl) rfl 0 rfl ?_
    obtain ⟨x16, e17, hf⟩ := jbind hf
    refine J_getr E (jd dk_X7_gorge_1 19 rfl) fl_RX7_69 e17 ?_
    refine J_iconst (v := 0) E (jd dk_X7_gorge_1 20 rfl) rfl ?_
    refine J_dup2 E (jd dk_X7_gorge_1 21 rfl) rfl rfl ?_
    obtain ⟨x18, e19, hf⟩ := jbind hf
    refine J_iald E (jd dk_X7_gorge_1 22 rfl) e19 ?_
    refine J_iconst (v := 1) E (jd dk_X7_gorge_1 23 rfl) rfl ?_
    refine J_iadd E (jd dk_X7_gorge_1 24 rfl) ?_
    obtain ⟨h20, e21, hf⟩ := jbind hf
    refine J_iast E (jd dk_X7_gorge_1 25 rfl) e21 ?_
    refine J_aload_n E (jd dk_X7_gorge_1 26 rfl) rfl 0 rfl ?_
    obtain ⟨x22, e23, hf⟩ := jbind hf
    refine J_geti E (jd dk_X7_gorge_1 27 rfl) fl_RX7_200 e23 ?_
    cases hf
    exact J_iret E hr rfl (jd dk_X7_gorge_1 28 rfl) (Nat.le_refl _) (Nat.le_refl _) ⟨rfl, rfl⟩
set_option maxRecDepth 100000 in
set_option maxHeartbeats 4000000 in
theorem lk_X7_gorge_l84 {G : JG} {X : JX} (E : jE G X (RX7, cX7_gorge, 3)) (hX : X.2.2.2.1 = jRm 108 0 0) (hr : X.2.2.2.2.2.2.2.2.1.sig.returnType = (some .int)) (N : Nat) {Q : State → Prop} {v0 : Nat} {v2 : Int32}  {h : AH} {q : ((Int32 × AH) ⊕ ((AH)))} (hf : f_X7_gorge_l84 N v0 v2 h = some q) (kb : ∀ s' : Int32 × AH, q = .inl s' → JW G X (RX7, cX7_gorge, 3) s'.2 [(0, .ref v0), (2, .int s'.1)] [] 84 0 0 Q) (ke0 : ∀ e : AH, q = .inr e → JW G X (RX7, cX7_gorge, 3) e [(0, .ref v0)] [] 107 0 0 Q) : JW G X (RX7, cX7_gorge, 3) h [(0, .ref v0), (2, .int v2)] [] 84 0 0 Q := by
  unfold f_X7_gorge_l84 at hf
  refine J_aload_n E (jd dk_X7_gorge_1 0 rfl) rfl 0 rfl ?_
  obtain ⟨x24, e25, hf⟩ := jbind hf
  refine J_geti E (jd dk_X7_gorge_1 1 rfl) fl_RX7_200 e25 ?_
  refine J_if_ne (tgt := 107) E (jd dk_X7_gorge_1 2 rfl) (by decide) (fun c26 => ?_) (fun c26 => ?_)
  · replace hf := jif_f c26 hf
    refine J_sub [0] rfl ?_
    exact ke0 _ (Option.some.inj hf).symm
  · replace hf := jif_t c26 hf
    refine J_aload_n E (jd dk_X7_gorge_1 3 rfl) rfl 0 rfl ?_
    obtain ⟨x27, e28, hf⟩ := jbind hf
    refine J_geti E (jd dk_X7_gorge_1 4 rfl) fl_RX7_174 e28 ?_
    refine J_if_eq (tgt := 107) E (jd dk_X7_gorge_1 5 rfl) (by decide) (fun c29 => ?_) (fun c29 => ?_)
    · replace hf := jif_t c29 hf
      refine J_sub [0] rfl ?_
      exact ke0 _ (Option.some.inj hf).symm
    · replace hf := jif_f c29 hf
      refine J_aload_n E (jd dk_X7_gorge_1 6 rfl) rfl 0 rfl ?_
      refine J_iload_n E (jd dk_X7_gorge_1 7 rfl) rfl 1 rfl ?_
      obtain ⟨u32, e33, hf⟩ := jbind hf
      obtain ⟨r30, e31, hf⟩ := jbind hf
      refine J_callV E (jd dk_X7_gorge_1 8 rfl) ml_RX7_296 cal_X7_readLine e33 rfl (lk_X7_readLine (jE_g E) (jE_tr E) N e31) rfl (Nat.le_of_ble_eq_true rfl) (jR_le hX (by decide) (by decide)) (jF0 hX) rfl ?_
      rintro _ _ ⟨rfl, rfl⟩
      refine J_istore_n (lv' := [(2, .int r30.1), (0, .ref v0)]) E (jd dk_X7_gorge_1 9 rfl) rfl (by decide) rfl ?_
      refine J_goto (tgt := 84) E (jd dk_X7_gorge_1 10 rfl) (by decide) ?_
      refine J_sub [1, 0] rfl ?_
      exact kb _ (Option.some.inj hf).symm
set_option maxRecDepth 100000 in
set_option maxHeartbeats 4000000 in
theorem lk_X7_gorge_b84 {G : JG} {X : JX} (E : jE G X (RX7, cX7_gorge, 3)) (hX : X.2.2.2.1 = jRm 108 0 0) (hr : X.2.2.2.2.2.2.2.2.1.sig.returnType = (some .int)) (N : Nat) {v0 : Nat} {v2 : Int32} {h : AH}  {r : (Int32 × AH)} (hf : f_X7_gorge_b84 N v0 v2 h = some r) : JW G X (RX7, cX7_gorge, 3) h [(0, .ref v0), (2, .int v2)] [] 84 0 0 (jEnd G X (jpi r) 0 0) := by
  unfold f_X7_gorge_b84 at hf
  obtain ⟨q1, h1, hf⟩ := jbind hf
  refine jloop (P := fun s => JW G X (RX7, cX7_gorge, 3) s.2 [(0, .ref v0), (2, .int s.1)] [] 84 0 0 (jEnd G X (jpi r) 0 0)) (Ex := fun (e : AH) => JW G X (RX7, cX7_gorge, 3) e [(0, .ref v0)] [] 107 0 0 (jEnd G X (jpi r) 0 0)) (fun s q hs hb hx => lk_X7_gorge_l84 E hX hr N hs (fun s' hs => hb s' hs) (fun e he => hx e he)) N _ q1 h1 ?_
  generalize q1 = e at hf ⊢
  exact lk_X7_gorge_b107 E hX hr N hf
set_option maxRecDepth 100000 in
set_option maxHeartbeats 4000000 in
theorem lk_X7_gorge_b71 {G : JG} {X : JX} (E : jE G X (RX7, cX7_gorge, 3)) (hX : X.2.2.2.1 = jRm 108 0 0) (hr : X.2.2.2.2.2.2.2.2.1.sig.returnType = (some .int)) (N : Nat) {Q : State → Prop} {v0 : Nat} {v2 : Int32} {w0 : Nat} {w1 : Int32} {w2 : Int32} {h : AH}  {q : ((Int32 × AH) ⊕ ((AH)))} (hf : f_X7_gorge_b71 N v0 v2 w0 w1 w2 h = some q) (kb : ∀ s' : Int32 × AH, q = .inl s' → JW G X (RX7, cX7_gorge, 3) s'.2 [(0, .ref v0), (2, .int s'.1)] [] 50 0 0 Q) (ke0 : ∀ e : AH, q = .inr e → JW G X (RX7, cX7_gorge, 3) e [(0, .ref v0)] [] 78 0 0 Q) : JW G X (RX7, cX7_gorge, 3) h [(0, .ref v0), (2, .int v2)] [.int w2, .int w1, .ref w0] 71 0 0 Q := by
  unfold f_X7_gorge_b71 at hf
  obtain ⟨h34, e35, hf⟩ := jbind hf
  refine J_iast E (jd dk_X7_gorge_0 43 rfl) e35 ?_
  refine J_iinc (v := v2 + 1) (lv' := [(2, .int (v2 + 1)), (0, .ref v0)]) E (jd dk_X7_gorge_0 44 rfl) 1 rfl rfl (by decide) rfl ?_
  refine J_goto (tgt := 50) E (jd dk_X7_gorge_0 45 rfl) (by decide) ?_
  refine J_sub [1, 0] rfl ?_
  exact kb _ (Option.some.inj hf).symm
set_option maxRecDepth 100000 in
set_option maxHeartbeats 4000000 in
theorem lk_X7_gorge_l50 {G : JG} {X : JX} (E : jE G X (RX7, cX7_gorge, 3)) (hX : X.2.2.2.1 = jRm 108 0 0) (hr : X.2.2.2.2.2.2.2.2.1.sig.returnType = (some .int)) (N : Nat) {Q : State → Prop} {v0 : Nat} {v2 : Int32}  {h : AH} {q : ((Int32 × AH) ⊕ ((AH)))} (hf : f_X7_gorge_l50 N v0 v2 h = some q) (kb : ∀ s' : Int32 × AH, q = .inl s' → JW G X (RX7, cX7_gorge, 3) s'.2 [(0, .ref v0), (2, .int s'.1)] [] 50 0 0 Q) (ke0 : ∀ e : AH, q = .inr e → JW G X (RX7, cX7_gorge, 3) e [(0, .ref v0)] [] 78 0 0 Q) : JW G X (RX7, cX7_gorge, 3) h [(0, .ref v0), (2, .int v2)] [] 50 0 0 Q := by
  unfold f_X7_gorge_l50 at hf
  refine J_iload_n E (jd dk_X7_gorge_0 30 rfl) rfl 1 rfl ?_
  refine J_iconst (v := 5) E (jd dk_X7_gorge_0 31 rfl) rfl ?_
  refine J_icmp_ge (tgt := 78) E (jd dk_X7_gorge_0 32 rfl) (by decide) (fun c36 => ?_) (fun c36 => ?_)
  · replace hf := jif_t c36 hf
    refine J_sub [0] rfl ?_
    exact ke0 _ (Option.some.inj hf).symm
  · replace hf := jif_f c36 hf
    refine J_aload_n E (jd dk_X7_gorge_0 33 rfl) rfl 0 rfl ?_
    obtain ⟨x37, e38, hf⟩ := jbind hf
    refine J_getr E (jd dk_X7_gorge_0 34 rfl) fl_RX7_42 e38 ?_
    refine J_iconst (v := 5) E (jd dk_X7_gorge_0 35 rfl) rfl ?_
    refine J_iload_n E (jd dk_X7_gorge_0 36 rfl) rfl 1 rfl ?_
    refine J_iadd E (jd dk_X7_gorge_0 37 rfl) ?_
    refine J_iload_n E (jd dk_X7_gorge_0 38 rfl) rfl 1 rfl ?_
    refine J_if_ne (tgt := 70) E (jd dk_X7_gorge_0 39 rfl) (by decide) (fun c39 => ?_) (fun c39 => ?_)
    · replace hf := jif_f c39 hf
      refine J_iconst (v := 0) E (jd dk_X7_gorge_0 42 rfl) rfl ?_
      exact lk_X7_gorge_b71 E hX hr N hf kb ke0
    · replace hf := jif_t c39 hf
      refine J_iconst (v := 4) E (jd dk_X7_gorge_0 40 rfl) rfl ?_
      refine J_goto (tgt := 71) E (jd dk_X7_gorge_0 41 rfl) (by decide) ?_
      exact lk_X7_gorge_b71 E hX hr N hf kb ke0
set_option maxRecDepth 100000 in
set_option maxHeartbeats 4000000 in
theorem lk_X7_gorge_b50 {G : JG} {X : JX} (E : jE G X (RX7, cX7_gorge, 3)) (hX : X.2.2.2.1 = jRm 108 0 0) (hr : X.2.2.2.2.2.2.2.2.1.sig.returnType = (some .int)) (N : Nat) {v0 : Nat} {v2 : Int32} {h : AH}  {r : (Int32 × AH)} (hf : f_X7_gorge_b50 N v0 v2 h = some r) : JW G X (RX7, cX7_gorge, 3) h [(0, .ref v0), (2, .int v2)] [] 50 0 0 (jEnd G X (jpi r) 0 0) := by
  unfold f_X7_gorge_b50 at hf
  obtain ⟨q1, h1, hf⟩ := jbind hf
  refine jloop (P := fun s => JW G X (RX7, cX7_gorge, 3) s.2 [(0, .ref v0), (2, .int s.1)] [] 50 0 0 (jEnd G X (jpi r) 0 0)) (Ex := fun (e : AH) => JW G X (RX7, cX7_gorge, 3) e [(0, .ref v0)] [] 78 0 0 (jEnd G X (jpi r) 0 0)) (fun s q hs hb hx => lk_X7_gorge_l50 E hX hr N hs (fun s' hs => hb s' hs) (fun e he => hx e he)) N _ q1 h1 ?_
  generalize q1 = e at hf ⊢
  refine J_aload_n E (jd dk_X7_gorge_0 46 rfl) rfl 0 rfl ?_
  obtain ⟨u42, e43, hf⟩ := jbind hf
  obtain ⟨r40, e41, hf⟩ := jbind hf
  refine J_callV E (jd dk_X7_gorge_0 47 rfl) ml_RX7_225 cal_X7_stepOn e43 rfl (lk_X7_stepOn (jE_g E) (jE_tr E) N e41) rfl (Nat.le_of_ble_eq_true rfl) (jR_le hX (by decide) (by decide)) (jF0 hX) rfl ?_
  rintro _ _ ⟨rfl, rfl⟩
  refine J_iconst (v := 0) E (jd dk_X7_gorge_0 48 rfl) rfl ?_
  refine J_istore_n (lv' := [(2, .int 0), (0, .ref v0)]) E (jd dk_X7_gorge_0 49 rfl) rfl (by decide) rfl ?_
  refine J_sub [1, 0] rfl ?_
  exact lk_X7_gorge_b84 E hX hr N hf
set_option maxRecDepth 100000 in
set_option maxHeartbeats 4000000 in
theorem lk_X7_gorge {G : JG} {l : Launch} (hG : jG G) (htr : l.stackTraces = false) (N : Nat) {h : AH} {a0 : Nat} {a1 : Int32} {r : (Int32 × AH)} (hf : f_X7_gorge N h a0 a1 = some r) : jMet G l yX7_gorge cX7_gorge 3 (some .int) 108 0 0 [.ref a0, .int a1] h (jpi r) := by
  unfold f_X7_gorge at hf
  refine jMet_of hG htr (by decide) (Nat.le_of_ble_eq_true rfl) ?_
  intro X E hl9 hr hX _ _
  show JW G X (RX7, cX7_gorge, 3) h [(0, .ref a0), (1, .int a1)] [] 0 0 0 (jEnd G X (jpi r) 0 0)
  refine J_aload_n E (jd dk_X7_gorge_0 0 rfl) rfl 0 rfl ?_
  refine J_iconst (v := 0) E (jd dk_X7_gorge_0 1 rfl) rfl ?_
  obtain ⟨h44, e45, hf⟩ := jbind hf
  refine J_put E (jd dk_X7_gorge_0 2 rfl) fl_RX7_151 e45 (fun _ => rfl) (fun _ => rfl) ?_
  refine J_iload_n E (jd dk_X7_gorge_0 3 rfl) rfl 1 rfl ?_
  refine J_if_lt (tgt := 17) E (jd dk_X7_gorge_0 4 rfl) (by decide) (fun c46 => ?_) (fun c46 => ?_)
  · replace hf := jif_t c46 hf
    refine J_sub [0] rfl ?_
    exact lk_X7_gorge_b17 E hX hr N hf
  · replace hf := jif_f c46 hf
    refine J_iload_n E (jd dk_X7_gorge_0 5 rfl) rfl 1 rfl ?_
    refine J_aload_n E (jd dk_X7_gorge_0 6 rfl) rfl 0 rfl ?_
    obtain ⟨x47, e48, hf⟩ := jbind hf
    refine J_geti E (jd dk_X7_gorge_0 7 rfl) fl_RX7_158 e48 ?_
    refine J_icmp_le (tgt := 23) E (jd dk_X7_gorge_0 8 rfl) (by decide) (fun c49 => ?_) (fun c49 => ?_)
    · replace hf := jif_t c49 hf
      refine J_aload_n E (jd dk_X7_gorge_0 13 rfl) rfl 0 rfl ?_
      refine J_iconst (v := 0) E (jd dk_X7_gorge_0 14 rfl) rfl ?_
      obtain ⟨h50, e51, hf⟩ := jbind hf
      refine J_put E (jd dk_X7_gorge_0 15 rfl) fl_RX7_158 e51 (fun _ => rfl) (fun _ => rfl) ?_
      refine J_aload_n E (jd dk_X7_gorge_0 16 rfl) rfl 0 rfl ?_
      refine J_iload_n E (jd dk_X7_gorge_0 17 rfl) rfl 1 rfl ?_
      obtain ⟨h52, e53, hf⟩ := jbind hf
      refine J_put E (jd dk_X7_gorge_0 18 rfl) fl_RX7_161 e53 (fun _ => rfl) (fun _ => rfl) ?_
      refine J_aload_n E (jd dk_X7_gorge_0 19 rfl) rfl 0 rfl ?_
      refine J_iconst (v := 0) E (jd dk_X7_gorge_0 20 rfl) rfl ?_
      obtain ⟨h54, e55, hf⟩ := jbind hf
      refine J_put E (jd dk_X7_gorge_0 21 rfl) fl_RX7_164 e55 (fun _ => rfl) (fun _ => rfl) ?_
      refine J_aload_n E (jd dk_X7_gorge_0 22 rfl) rfl 0 rfl ?_
      refine J_iconst (v := 0) E (jd dk_X7_gorge_0 23 rfl) rfl ?_
      obtain ⟨h56, e57, hf⟩ := jbind hf
      refine J_put E (jd dk_X7_gorge_0 24 rfl) fl_RX7_200 e57 (fun _ => rfl) (fun _ => rfl) ?_
      refine J_aload_n E (jd dk_X7_gorge_0 25 rfl) rfl 0 rfl ?_
      refine J_iconst (v := (-1)) E (jd dk_X7_gorge_0 26 rfl) rfl ?_
      obtain ⟨h58, e59, hf⟩ := jbind hf
      refine J_put E (jd dk_X7_gorge_0 27 rfl) fl_RX7_77 e59 (fun _ => rfl) (fun _ => rfl) ?_
      refine J_iconst (v := 0) E (jd dk_X7_gorge_0 28 rfl) rfl ?_
      refine J_istore_n (lv' := [(2, .int 0), (0, .ref a0), (1, .int a1)]) E (jd dk_X7_gorge_0 29 rfl) rfl (by decide) rfl ?_
      refine J_sub [1, 0] rfl ?_
      exact lk_X7_gorge_b50 E hX hr N hf
    · replace hf := jif_f c49 hf
      refine J_sub [0] rfl ?_
      exact lk_X7_gorge_b17 E hX hr N hf
