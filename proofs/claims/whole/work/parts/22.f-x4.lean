def f_X4_isBlank_b12 (N : Nat)  (h : AH) : Option (Int32 × AH) :=
  some (1, h)
def f_X4_isBlank (N : Nat) (h : AH) (a0 : Int32) : Option (Int32 × AH) :=
  if a0 = 32 then f_X4_isBlank_b12 N  h
  else if a0 = 10 then f_X4_isBlank_b12 N  h
  else some (0, h)
set_option maxRecDepth 100000 in
set_option maxHeartbeats 4000000 in
theorem lk_X4_isBlank_b12 {G : JG} {X : JX} (E : jE G X (RX4, cX4_isBlank, 1)) (hX : X.2.2.2.1 = jRm 0 0 0) (hr : X.2.2.2.2.2.2.2.2.1.sig.returnType = (some .boolean)) (N : Nat)  {h : AH}  {r : (Int32 × AH)} (hf : f_X4_isBlank_b12 N  h = some r) : JW G X (RX4, cX4_isBlank, 1) h [] [] 12 0 0 (jEnd G X (jpi r) 0 0) := by
  unfold f_X4_isBlank_b12 at hf
  refine J_iconst (v := 1) E (jd dk_X4_isBlank_0 6 rfl) rfl ?_
  refine J_goto (tgt := 17) E (jd dk_X4_isBlank_0 7 rfl) (by decide) ?_
  cases hf
  exact J_iret E hr rfl (jd dk_X4_isBlank_0 9 rfl) (Nat.le_refl _) (Nat.le_refl _) ⟨rfl, rfl⟩
set_option maxRecDepth 100000 in
set_option maxHeartbeats 4000000 in
theorem lk_X4_isBlank {G : JG} {l : Launch} (hG : jG G) (htr : l.stackTraces = false) (N : Nat) {h : AH} {a0 : Int32} {r : (Int32 × AH)} (hf : f_X4_isBlank N h a0 = some r) : jMet G l yX4_isBlank cX4_isBlank 1 (some .boolean) 0 0 0 [.int a0] h (jpi r) := by
  unfold f_X4_isBlank at hf
  refine jMet_of hG htr (by decide) (Nat.le_of_ble_eq_true rfl) ?_
  intro X E hl9 hr hX _ _
  show JW G X (RX4, cX4_isBlank, 1) h [(0, .int a0)] [] 0 0 0 (jEnd G X (jpi r) 0 0)
  refine J_iload_n E (jd dk_X4_isBlank_0 0 rfl) rfl 0 rfl ?_
  refine J_bipush (v := 32) E (jd dk_X4_isBlank_0 1 rfl) (by decide) ?_
  refine J_icmp_eq (tgt := 12) E (jd dk_X4_isBlank_0 2 rfl) (by decide) (fun c1 => ?_) (fun c1 => ?_)
  · replace hf := jif_t c1 hf
    refine J_sub [] rfl ?_
    exact lk_X4_isBlank_b12 E hX hr N hf
  · replace hf := jif_f c1 hf
    refine J_iload_n E (jd dk_X4_isBlank_0 3 rfl) rfl 0 rfl ?_
    refine J_bipush (v := 10) E (jd dk_X4_isBlank_0 4 rfl) (by decide) ?_
    refine J_icmp_ne (tgt := 16) E (jd dk_X4_isBlank_0 5 rfl) (by decide) (fun c2 => ?_) (fun c2 => ?_)
    · replace hf := jif_f c2 hf
      refine J_iconst (v := 0) E (jd dk_X4_isBlank_0 8 rfl) rfl ?_
      cases hf
      exact J_iret E hr rfl (jd dk_X4_isBlank_0 9 rfl) (Nat.le_refl _) (Nat.le_refl _) ⟨rfl, rfl⟩
    · replace hf := jif_t c2 hf
      refine J_sub [] rfl ?_
      exact lk_X4_isBlank_b12 E hX hr N hf
def f_X4_isLetter_b16 (N : Nat)  (h : AH) : Option (Int32 × AH) :=
  some (0, h)
def f_X4_isLetter (N : Nat) (h : AH) (a0 : Int32) : Option (Int32 × AH) :=
  if a0 < 97 then f_X4_isLetter_b16 N  h
  else if 122 < a0 then f_X4_isLetter_b16 N  h
  else some (1, h)
set_option maxRecDepth 100000 in
set_option maxHeartbeats 4000000 in
theorem lk_X4_isLetter_b16 {G : JG} {X : JX} (E : jE G X (RX4, cX4_isLetter, 1)) (hX : X.2.2.2.1 = jRm 0 0 0) (hr : X.2.2.2.2.2.2.2.2.1.sig.returnType = (some .boolean)) (N : Nat)  {h : AH}  {r : (Int32 × AH)} (hf : f_X4_isLetter_b16 N  h = some r) : JW G X (RX4, cX4_isLetter, 1) h [] [] 16 0 0 (jEnd G X (jpi r) 0 0) := by
  unfold f_X4_isLetter_b16 at hf
  refine J_iconst (v := 0) E (jd dk_X4_isLetter_0 8 rfl) rfl ?_
  cases hf
  exact J_iret E hr rfl (jd dk_X4_isLetter_0 9 rfl) (Nat.le_refl _) (Nat.le_refl _) ⟨rfl, rfl⟩
set_option maxRecDepth 100000 in
set_option maxHeartbeats 4000000 in
theorem lk_X4_isLetter {G : JG} {l : Launch} (hG : jG G) (htr : l.stackTraces = false) (N : Nat) {h : AH} {a0 : Int32} {r : (Int32 × AH)} (hf : f_X4_isLetter N h a0 = some r) : jMet G l yX4_isLetter cX4_isLetter 1 (some .boolean) 0 0 0 [.int a0] h (jpi r) := by
  unfold f_X4_isLetter at hf
  refine jMet_of hG htr (by decide) (Nat.le_of_ble_eq_true rfl) ?_
  intro X E hl9 hr hX _ _
  show JW G X (RX4, cX4_isLetter, 1) h [(0, .int a0)] [] 0 0 0 (jEnd G X (jpi r) 0 0)
  refine J_iload_n E (jd dk_X4_isLetter_0 0 rfl) rfl 0 rfl ?_
  refine J_bipush (v := 97) E (jd dk_X4_isLetter_0 1 rfl) (by decide) ?_
  refine J_icmp_lt (tgt := 16) E (jd dk_X4_isLetter_0 2 rfl) (by decide) (fun c1 => ?_) (fun c1 => ?_)
  · replace hf := jif_t c1 hf
    refine J_sub [] rfl ?_
    exact lk_X4_isLetter_b16 E hX hr N hf
  · replace hf := jif_f c1 hf
    refine J_iload_n E (jd dk_X4_isLetter_0 3 rfl) rfl 0 rfl ?_
    refine J_bipush (v := 122) E (jd dk_X4_isLetter_0 4 rfl) (by decide) ?_
    refine J_icmp_gt (tgt := 16) E (jd dk_X4_isLetter_0 5 rfl) (by decide) (fun c2 => ?_) (fun c2 => ?_)
    · replace hf := jif_t c2 hf
      refine J_sub [] rfl ?_
      exact lk_X4_isLetter_b16 E hX hr N hf
    · replace hf := jif_f c2 hf
      refine J_iconst (v := 1) E (jd dk_X4_isLetter_0 6 rfl) rfl ?_
      refine J_goto (tgt := 17) E (jd dk_X4_isLetter_0 7 rfl) (by decide) ?_
      cases hf
      exact J_iret E hr rfl (jd dk_X4_isLetter_0 9 rfl) (Nat.le_refl _) (Nat.le_refl _) ⟨rfl, rfl⟩
def f_X4_isDigit_b16 (N : Nat)  (h : AH) : Option (Int32 × AH) :=
  some (0, h)
def f_X4_isDigit (N : Nat) (h : AH) (a0 : Int32) : Option (Int32 × AH) :=
  if a0 < 48 then f_X4_isDigit_b16 N  h
  else if 57 < a0 then f_X4_isDigit_b16 N  h
  else some (1, h)
set_option maxRecDepth 100000 in
set_option maxHeartbeats 4000000 in
theorem lk_X4_isDigit_b16 {G : JG} {X : JX} (E : jE G X (RX4, cX4_isDigit, 1)) (hX : X.2.2.2.1 = jRm 0 0 0) (hr : X.2.2.2.2.2.2.2.2.1.sig.returnType = (some .boolean)) (N : Nat)  {h : AH}  {r : (Int32 × AH)} (hf : f_X4_isDigit_b16 N  h = some r) : JW G X (RX4, cX4_isDigit, 1) h [] [] 16 0 0 (jEnd G X (jpi r) 0 0) := by
  unfold f_X4_isDigit_b16 at hf
  refine J_iconst (v := 0) E (jd dk_X4_isDigit_0 8 rfl) rfl ?_
  cases hf
  exact J_iret E hr rfl (jd dk_X4_isDigit_0 9 rfl) (Nat.le_refl _) (Nat.le_refl _) ⟨rfl, rfl⟩
set_option maxRecDepth 100000 in
set_option maxHeartbeats 4000000 in
theorem lk_X4_isDigit {G : JG} {l : Launch} (hG : jG G) (htr : l.stackTraces = false) (N : Nat) {h : AH} {a0 : Int32} {r : (Int32 × AH)} (hf : f_X4_isDigit N h a0 = some r) : jMet G l yX4_isDigit cX4_isDigit 1 (some .boolean) 0 0 0 [.int a0] h (jpi r) := by
  unfold f_X4_isDigit at hf
  refine jMet_of hG htr (by decide) (Nat.le_of_ble_eq_true rfl) ?_
  intro X E hl9 hr hX _ _
  show JW G X (RX4, cX4_isDigit, 1) h [(0, .int a0)] [] 0 0 0 (jEnd G X (jpi r) 0 0)
  refine J_iload_n E (jd dk_X4_isDigit_0 0 rfl) rfl 0 rfl ?_
  refine J_bipush (v := 48) E (jd dk_X4_isDigit_0 1 rfl) (by decide) ?_
  refine J_icmp_lt (tgt := 16) E (jd dk_X4_isDigit_0 2 rfl) (by decide) (fun c1 => ?_) (fun c1 => ?_)
  · replace hf := jif_t c1 hf
    refine J_sub [] rfl ?_
    exact lk_X4_isDigit_b16 E hX hr N hf
  · replace hf := jif_f c1 hf
    refine J_iload_n E (jd dk_X4_isDigit_0 3 rfl) rfl 0 rfl ?_
    refine J_bipush (v := 57) E (jd dk_X4_isDigit_0 4 rfl) (by decide) ?_
    refine J_icmp_gt (tgt := 16) E (jd dk_X4_isDigit_0 5 rfl) (by decide) (fun c2 => ?_) (fun c2 => ?_)
    · replace hf := jif_t c2 hf
      refine J_sub [] rfl ?_
      exact lk_X4_isDigit_b16 E hX hr N hf
    · replace hf := jif_f c2 hf
      refine J_iconst (v := 1) E (jd dk_X4_isDigit_0 6 rfl) rfl ?_
      refine J_goto (tgt := 17) E (jd dk_X4_isDigit_0 7 rfl) (by decide) ?_
      cases hf
      exact J_iret E hr rfl (jd dk_X4_isDigit_0 9 rfl) (Nat.le_refl _) (Nat.le_refl _) ⟨rfl, rfl⟩
def f_X4_takeDigits_b91 (N : Nat) (v0 : Nat) (h : AH) : Option ((AH) ⊕ ((AH))) :=
  (jgi 4 h v0 6).bind fun x1 =>
  (jwi 4 h v0 6 (x1 + 1)).bind fun h3 =>
  some (.inl h3)
def f_X4_takeDigits_l10 (N : Nat) (v0 : Nat)  (h : AH) : Option ((AH) ⊕ ((AH))) :=
  (jgi 4 h v0 6).bind fun x5 =>
  (jgi 4 h v0 3).bind fun x7 =>
  if x7 ≤ x5 then some (.inr h)
  else (jgr 4 h v0 2).bind fun x10 =>
  (jgi 4 h v0 6).bind fun x12 =>
  (jal 1 h x10 x12).bind fun x14 =>
  if x14 < 48 then some (.inr h)
  else (jgr 4 h v0 2).bind fun x17 =>
  (jgi 4 h v0 6).bind fun x19 =>
  (jal 1 h x17 x19).bind fun x21 =>
  if 57 < x21 then some (.inr h)
  else (jgi 4 h v0 8).bind fun x24 =>
  (jwi 4 h v0 8 (x24 + 1)).bind fun h26 =>
  (jgi 4 h26 v0 8).bind fun x28 =>
  if 4 < x28 then f_X4_takeDigits_b91 N v0 h26
  else (jgi 4 h26 v0 9).bind fun x31 =>
  (jgr 4 h26 v0 2).bind fun x33 =>
  (jgi 4 h26 v0 6).bind fun x35 =>
  (jal 1 h26 x33 x35).bind fun x37 =>
  (jwi 4 h26 v0 9 (((x31 * 10) + x37) - 48)).bind fun h39 =>
  f_X4_takeDigits_b91 N v0 h39
def f_X4_takeDigits_b10 (N : Nat) (v0 : Nat) (h : AH) : Option AH :=
  (itr (fun s => f_X4_takeDigits_l10 N v0 s) N h).bind (fun e => some e)
def f_X4_takeDigits (N : Nat) (h : AH) (a0 : Nat) : Option AH :=
  (jwi 4 h a0 8 0).bind fun h41 =>
  (jwi 4 h41 a0 9 0).bind fun h43 =>
  f_X4_takeDigits_b10 N a0 h43
set_option maxRecDepth 100000 in
set_option maxHeartbeats 4000000 in
theorem lk_X4_takeDigits_b91 {G : JG} {X : JX} (E : jE G X (RX4, cX4_takeDigits, 1)) (hX : X.2.2.2.1 = jRm 0 0 0) (hr : X.2.2.2.2.2.2.2.2.1.sig.returnType = none) (N : Nat) {Q : State → Prop} {v0 : Nat} {h : AH}  {q : ((AH) ⊕ ((AH)))} (hf : f_X4_takeDigits_b91 N v0 h = some q) (kb : ∀ s' : AH, q = .inl s' → JW G X (RX4, cX4_takeDigits, 1) s' [(0, .ref v0)] [] 10 0 0 Q) (ke0 : ∀ e : AH, q = .inr e → JW G X (RX4, cX4_takeDigits, 1) e [] [] 104 0 0 Q) : JW G X (RX4, cX4_takeDigits, 1) h [(0, .ref v0)] [] 91 0 0 Q := by
  unfold f_X4_takeDigits_b91 at hf
  refine J_aload_n E (jd dk_X4_takeDigits_0 49 rfl) rfl 0 rfl ?_
  refine J_dup E (jd dk_X4_takeDigits_1 0 rfl) rfl ?_
  obtain ⟨x1, e2, hf⟩ := jbind hf
  refine J_geti E (jd dk_X4_takeDigits_1 1 rfl) fl_RX4_35 e2 ?_
  refine J_iconst (v := 1) E (jd dk_X4_takeDigits_1 2 rfl) rfl ?_
  refine J_iadd E (jd dk_X4_takeDigits_1 3 rfl) ?_
  obtain ⟨h3, e4, hf⟩ := jbind hf
  refine J_put E (jd dk_X4_takeDigits_1 4 rfl) fl_RX4_35 e4 (fun _ => rfl) (fun _ => rfl) ?_
  refine J_goto (tgt := 10) E (jd dk_X4_takeDigits_1 5 rfl) (by decide) ?_
  exact kb _ (Option.some.inj hf).symm
set_option maxRecDepth 100000 in
set_option maxHeartbeats 4000000 in
theorem lk_X4_takeDigits_l10 {G : JG} {X : JX} (E : jE G X (RX4, cX4_takeDigits, 1)) (hX : X.2.2.2.1 = jRm 0 0 0) (hr : X.2.2.2.2.2.2.2.2.1.sig.returnType = none) (N : Nat) {Q : State → Prop} {v0 : Nat}   {h : AH} {q : ((AH) ⊕ ((AH)))} (hf : f_X4_takeDigits_l10 N v0 h = some q) (kb : ∀ s' : AH, q = .inl s' → JW G X (RX4, cX4_takeDigits, 1) s' [(0, .ref v0)] [] 10 0 0 Q) (ke0 : ∀ e : AH, q = .inr e → JW G X (RX4, cX4_takeDigits, 1) e [] [] 104 0 0 Q) : JW G X (RX4, cX4_takeDigits, 1) h [(0, .ref v0)] [] 10 0 0 Q := by
  unfold f_X4_takeDigits_l10 at hf
  refine J_aload_n E (jd dk_X4_takeDigits_0 6 rfl) rfl 0 rfl ?_
  obtain ⟨x5, e6, hf⟩ := jbind hf
  refine J_geti E (jd dk_X4_takeDigits_0 7 rfl) fl_RX4_35 e6 ?_
  refine J_aload_n E (jd dk_X4_takeDigits_0 8 rfl) rfl 0 rfl ?_
  obtain ⟨x7, e8, hf⟩ := jbind hf
  refine J_geti E (jd dk_X4_takeDigits_0 9 rfl) fl_RX4_22 e8 ?_
  refine J_icmp_ge (tgt := 104) E (jd dk_X4_takeDigits_0 10 rfl) (by decide) (fun c9 => ?_) (fun c9 => ?_)
  · replace hf := jif_t c9 hf
    refine J_sub [] rfl ?_
    exact ke0 _ (Option.some.inj hf).symm
  · replace hf := jif_f c9 hf
    refine J_aload_n E (jd dk_X4_takeDigits_0 11 rfl) rfl 0 rfl ?_
    obtain ⟨x10, e11, hf⟩ := jbind hf
    refine J_getr E (jd dk_X4_takeDigits_0 12 rfl) fl_RX4_18 e11 ?_
    refine J_aload_n E (jd dk_X4_takeDigits_0 13 rfl) rfl 0 rfl ?_
    obtain ⟨x12, e13, hf⟩ := jbind hf
    refine J_geti E (jd dk_X4_takeDigits_0 14 rfl) fl_RX4_35 e13 ?_
    obtain ⟨x14, e15, hf⟩ := jbind hf
    refine J_bald E (jd dk_X4_takeDigits_0 15 rfl) e15 ?_
    refine J_bipush (v := 48) E (jd dk_X4_takeDigits_0 16 rfl) (by decide) ?_
    refine J_icmp_lt (tgt := 104) E (jd dk_X4_takeDigits_0 17 rfl) (by decide) (fun c16 => ?_) (fun c16 => ?_)
    · replace hf := jif_t c16 hf
      refine J_sub [] rfl ?_
      exact ke0 _ (Option.some.inj hf).symm
    · replace hf := jif_f c16 hf
      refine J_aload_n E (jd dk_X4_takeDigits_0 18 rfl) rfl 0 rfl ?_
      obtain ⟨x17, e18, hf⟩ := jbind hf
      refine J_getr E (jd dk_X4_takeDigits_0 19 rfl) fl_RX4_18 e18 ?_
      refine J_aload_n E (jd dk_X4_takeDigits_0 20 rfl) rfl 0 rfl ?_
      obtain ⟨x19, e20, hf⟩ := jbind hf
      refine J_geti E (jd dk_X4_takeDigits_0 21 rfl) fl_RX4_35 e20 ?_
      obtain ⟨x21, e22, hf⟩ := jbind hf
      refine J_bald E (jd dk_X4_takeDigits_0 22 rfl) e22 ?_
      refine J_bipush (v := 57) E (jd dk_X4_takeDigits_0 23 rfl) (by decide) ?_
      refine J_icmp_gt (tgt := 104) E (jd dk_X4_takeDigits_0 24 rfl) (by decide) (fun c23 => ?_) (fun c23 => ?_)
      · replace hf := jif_t c23 hf
        refine J_sub [] rfl ?_
        exact ke0 _ (Option.some.inj hf).symm
      · replace hf := jif_f c23 hf
        refine J_aload_n E (jd dk_X4_takeDigits_0 25 rfl) rfl 0 rfl ?_
        refine J_dup E (jd dk_X4_takeDigits_0 26 rfl) rfl ?_
        obtain ⟨x24, e25, hf⟩ := jbind hf
        refine J_geti E (jd dk_X4_takeDigits_0 27 rfl) fl_RX4_41 e25 ?_
        refine J_iconst (v := 1) E (jd dk_X4_takeDigits_0 28 rfl) rfl ?_
        refine J_iadd E (jd dk_X4_takeDigits_0 29 rfl) ?_
        obtain ⟨h26, e27, hf⟩ := jbind hf
        refine J_put E (jd dk_X4_takeDigits_0 30 rfl) fl_RX4_41 e27 (fun _ => rfl) (fun _ => rfl) ?_
        refine J_aload_n E (jd dk_X4_takeDigits_0 31 rfl) rfl 0 rfl ?_
        obtain ⟨x28, e29, hf⟩ := jbind hf
        refine J_geti E (jd dk_X4_takeDigits_0 32 rfl) fl_RX4_41 e29 ?_
        refine J_iconst (v := 4) E (jd dk_X4_takeDigits_0 33 rfl) rfl ?_
        refine J_icmp_gt (tgt := 91) E (jd dk_X4_takeDigits_0 34 rfl) (by decide) (fun c30 => ?_) (fun c30 => ?_)
        · replace hf := jif_t c30 hf
          exact lk_X4_takeDigits_b91 E hX hr N hf kb ke0
        · replace hf := jif_f c30 hf
          refine J_aload_n E (jd dk_X4_takeDigits_0 35 rfl) rfl 0 rfl ?_
          refine J_aload_n E (jd dk_X4_takeDigits_0 36 rfl) rfl 0 rfl ?_
          obtain ⟨x31, e32, hf⟩ := jbind hf
          refine J_geti E (jd dk_X4_takeDigits_0 37 rfl) fl_RX4_44 e32 ?_
          refine J_bipush (v := 10) E (jd dk_X4_takeDigits_0 38 rfl) (by decide) ?_
          refine J_imul E (jd dk_X4_takeDigits_0 39 rfl) ?_
          refine J_aload_n E (jd dk_X4_takeDigits_0 40 rfl) rfl 0 rfl ?_
          obtain ⟨x33, e34, hf⟩ := jbind hf
          refine J_getr E (jd dk_X4_takeDigits_0 41 rfl) fl_RX4_18 e34 ?_
          refine J_aload_n E (jd dk_X4_takeDigits_0 42 rfl) rfl 0 rfl ?_
          obtain ⟨x35, e36, hf⟩ := jbind hf
          refine J_geti E (jd dk_X4_takeDigits_0 43 rfl) fl_RX4_35 e36 ?_
          obtain ⟨x37, e38, hf⟩ := jbind hf
          refine J_bald E (jd dk_X4_takeDigits_0 44 rfl) e38 ?_
          refine J_iadd E (jd dk_X4_takeDigits_0 45 rfl) ?_
          refine J_bipush (v := 48) E (jd dk_X4_takeDigits_0 46 rfl) (by decide) ?_
          refine J_isub E (jd dk_X4_takeDigits_0 47 rfl) ?_
          obtain ⟨h39, e40, hf⟩ := jbind hf
          refine J_put E (jd dk_X4_takeDigits_0 48 rfl) fl_RX4_44 e40 (fun _ => rfl) (fun _ => rfl) ?_
          exact lk_X4_takeDigits_b91 E hX hr N hf kb ke0
set_option maxRecDepth 100000 in
set_option maxHeartbeats 4000000 in
theorem lk_X4_takeDigits_b10 {G : JG} {X : JX} (E : jE G X (RX4, cX4_takeDigits, 1)) (hX : X.2.2.2.1 = jRm 0 0 0) (hr : X.2.2.2.2.2.2.2.2.1.sig.returnType = none) (N : Nat) {v0 : Nat} {h : AH}  {r : AH} (hf : f_X4_takeDigits_b10 N v0 h = some r) : JW G X (RX4, cX4_takeDigits, 1) h [(0, .ref v0)] [] 10 0 0 (jEnd G X (jpv r) 0 0) := by
  unfold f_X4_takeDigits_b10 at hf
  obtain ⟨q1, h1, hf⟩ := jbind hf
  refine jloop (P := fun s => JW G X (RX4, cX4_takeDigits, 1) s [(0, .ref v0)] [] 10 0 0 (jEnd G X (jpv r) 0 0)) (Ex := fun (e : AH) => JW G X (RX4, cX4_takeDigits, 1) e [] [] 104 0 0 (jEnd G X (jpv r) 0 0)) (fun s q hs hb hx => lk_X4_takeDigits_l10 E hX hr N hs (fun s' hs => hb s' hs) (fun e he => hx e he)) N _ q1 h1 ?_
  generalize q1 = e at hf ⊢
  cases hf
  exact J_vret E hr (jd dk_X4_takeDigits_1 6 rfl) (Nat.le_refl _) (Nat.le_refl _) ⟨rfl, rfl⟩
set_option maxRecDepth 100000 in
set_option maxHeartbeats 4000000 in
theorem lk_X4_takeDigits {G : JG} {l : Launch} (hG : jG G) (htr : l.stackTraces = false) (N : Nat) {h : AH} {a0 : Nat} {r : AH} (hf : f_X4_takeDigits N h a0 = some r) : jMet G l yX4_takeDigits cX4_takeDigits 1 none 0 0 0 [.ref a0] h (jpv r) := by
  unfold f_X4_takeDigits at hf
  refine jMet_of hG htr (by decide) (Nat.le_of_ble_eq_true rfl) ?_
  intro X E hl9 hr hX _ _
  show JW G X (RX4, cX4_takeDigits, 1) h [(0, .ref a0)] [] 0 0 0 (jEnd G X (jpv r) 0 0)
  refine J_aload_n E (jd dk_X4_takeDigits_0 0 rfl) rfl 0 rfl ?_
  refine J_iconst (v := 0) E (jd dk_X4_takeDigits_0 1 rfl) rfl ?_
  obtain ⟨h41, e42, hf⟩ := jbind hf
  refine J_put E (jd dk_X4_takeDigits_0 2 rfl) fl_RX4_41 e42 (fun _ => rfl) (fun _ => rfl) ?_
  refine J_aload_n E (jd dk_X4_takeDigits_0 3 rfl) rfl 0 rfl ?_
  refine J_iconst (v := 0) E (jd dk_X4_takeDigits_0 4 rfl) rfl ?_
  obtain ⟨h43, e44, hf⟩ := jbind hf
  refine J_put E (jd dk_X4_takeDigits_0 5 rfl) fl_RX4_44 e44 (fun _ => rfl) (fun _ => rfl) ?_
  exact lk_X4_takeDigits_b10 E hX hr N hf
def f_X4_isSignByte_b54 (N : Nat)  (h : AH) : Option (Int32 × AH) :=
  some (1, h)
def f_X4_isSignByte (N : Nat) (h : AH) (a0 : Int32) : Option (Int32 × AH) :=
  if a0 = 59 then f_X4_isSignByte_b54 N  h
  else if a0 = 40 then f_X4_isSignByte_b54 N  h
  else if a0 = 41 then f_X4_isSignByte_b54 N  h
  else if a0 = 43 then f_X4_isSignByte_b54 N  h
  else if a0 = 45 then f_X4_isSignByte_b54 N  h
  else if a0 = 42 then f_X4_isSignByte_b54 N  h
  else if a0 = 47 then f_X4_isSignByte_b54 N  h
  else if a0 = 60 then f_X4_isSignByte_b54 N  h
  else if a0 = 61 then f_X4_isSignByte_b54 N  h
  else some (0, h)
set_option maxRecDepth 100000 in
set_option maxHeartbeats 4000000 in
theorem lk_X4_isSignByte_b54 {G : JG} {X : JX} (E : jE G X (RX4, cX4_isSignByte, 1)) (hX : X.2.2.2.1 = jRm 0 0 0) (hr : X.2.2.2.2.2.2.2.2.1.sig.returnType = (some .boolean)) (N : Nat)  {h : AH}  {r : (Int32 × AH)} (hf : f_X4_isSignByte_b54 N  h = some r) : JW G X (RX4, cX4_isSignByte, 1) h [] [] 54 0 0 (jEnd G X (jpi r) 0 0) := by
  unfold f_X4_isSignByte_b54 at hf
  refine J_iconst (v := 1) E (jd dk_X4_isSignByte_0 27 rfl) rfl ?_
  refine J_goto (tgt := 59) E (jd dk_X4_isSignByte_0 28 rfl) (by decide) ?_
  cases hf
  exact J_iret E hr rfl (jd dk_X4_isSignByte_0 30 rfl) (Nat.le_refl _) (Nat.le_refl _) ⟨rfl, rfl⟩
set_option maxRecDepth 100000 in
set_option maxHeartbeats 4000000 in
theorem lk_X4_isSignByte {G : JG} {l : Launch} (hG : jG G) (htr : l.stackTraces = false) (N : Nat) {h : AH} {a0 : Int32} {r : (Int32 × AH)} (hf : f_X4_isSignByte N h a0 = some r) : jMet G l yX4_isSignByte cX4_isSignByte 1 (some .boolean) 0 0 0 [.int a0] h (jpi r) := by
  unfold f_X4_isSignByte at hf
  refine jMet_of hG htr (by decide) (Nat.le_of_ble_eq_true rfl) ?_
  intro X E hl9 hr hX _ _
  show JW G X (RX4, cX4_isSignByte, 1) h [(0, .int a0)] [] 0 0 0 (jEnd G X (jpi r) 0 0)
  refine J_iload_n E (jd dk_X4_isSignByte_0 0 rfl) rfl 0 rfl ?_
  refine J_bipush (v := 59) E (jd dk_X4_isSignByte_0 1 rfl) (by decide) ?_
  refine J_icmp_eq (tgt := 54) E (jd dk_X4_isSignByte_0 2 rfl) (by decide) (fun c1 => ?_) (fun c1 => ?_)
  · replace hf := jif_t c1 hf
    refine J_sub [] rfl ?_
    exact lk_X4_isSignByte_b54 E hX hr N hf
  · replace hf := jif_f c1 hf
    refine J_iload_n E (jd dk_X4_isSignByte_0 3 rfl) rfl 0 rfl ?_
    refine J_bipush (v := 40) E (jd dk_X4_isSignByte_0 4 rfl) (by decide) ?_
    refine J_icmp_eq (tgt := 54) E (jd dk_X4_isSignByte_0 5 rfl) (by decide) (fun c2 => ?_) (fun c2 => ?_)
    · replace hf := jif_t c2 hf
      refine J_sub [] rfl ?_
      exact lk_X4_isSignByte_b54 E hX hr N hf
    · replace hf := jif_f c2 hf
      refine J_iload_n E (jd dk_X4_isSignByte_0 6 rfl) rfl 0 rfl ?_
      refine J_bipush (v := 41) E (jd dk_X4_isSignByte_0 7 rfl) (by decide) ?_
      refine J_icmp_eq (tgt := 54) E (jd dk_X4_isSignByte_0 8 rfl) (by decide) (fun c3 => ?_) (fun c3 => ?_)
      · replace hf := jif_t c3 hf
        refine J_sub [] rfl ?_
        exact lk_X4_isSignByte_b54 E hX hr N hf
      · replace hf := jif_f c3 hf
        refine J_iload_n E (jd dk_X4_isSignByte_0 9 rfl) rfl 0 rfl ?_
        refine J_bipush (v := 43) E (jd dk_X4_isSignByte_0 10 rfl) (by decide) ?_
        refine J_icmp_eq (tgt := 54) E (jd dk_X4_isSignByte_0 11 rfl) (by decide) (fun c4 => ?_) (fun c4 => ?_)
        · replace hf := jif_t c4 hf
          refine J_sub [] rfl ?_
          exact lk_X4_isSignByte_b54 E hX hr N hf
        · replace hf := jif_f c4 hf
          refine J_iload_n E (jd dk_X4_isSignByte_0 12 rfl) rfl 0 rfl ?_
          refine J_bipush (v := 45) E (jd dk_X4_isSignByte_0 13 rfl) (by decide) ?_
          refine J_icmp_eq (tgt := 54) E (jd dk_X4_isSignByte_0 14 rfl) (by decide) (fun c5 => ?_) (fun c5 => ?_)
          · replace hf := jif_t c5 hf
            refine J_sub [] rfl ?_
            exact lk_X4_isSignByte_b54 E hX hr N hf
          · replace hf := jif_f c5 hf
            refine J_iload_n E (jd dk_X4_isSignByte_0 15 rfl) rfl 0 rfl ?_
            refine J_bipush (v := 42) E (jd dk_X4_isSignByte_0 16 rfl) (by decide) ?_
            refine J_icmp_eq (tgt := 54) E (jd dk_X4_isSignByte_0 17 rfl) (by decide) (fun c6 => ?_) (fun c6 => ?_)
            · replace hf := jif_t c6 hf
              refine J_sub [] rfl ?_
              exact lk_X4_isSignByte_b54 E hX hr N hf
            · replace hf := jif_f c6 hf
              refine J_iload_n E (jd dk_X4_isSignByte_0 18 rfl) rfl 0 rfl ?_
              refine J_bipush (v := 47) E (jd dk_X4_isSignByte_0 19 rfl) (by decide) ?_
              refine J_icmp_eq (tgt := 54) E (jd dk_X4_isSignByte_0 20 rfl) (by decide) (fun c7 => ?_) (fun c7 => ?_)
              · replace hf := jif_t c7 hf
                refine J_sub [] rfl ?_
                exact lk_X4_isSignByte_b54 E hX hr N hf
              · replace hf := jif_f c7 hf
                refine J_iload_n E (jd dk_X4_isSignByte_0 21 rfl) rfl 0 rfl ?_
                refine J_bipush (v := 60) E (jd dk_X4_isSignByte_0 22 rfl) (by decide) ?_
                refine J_icmp_eq (tgt := 54) E (jd dk_X4_isSignByte_0 23 rfl) (by decide) (fun c8 => ?_) (fun c8 => ?_)
                · replace hf := jif_t c8 hf
                  refine J_sub [] rfl ?_
                  exact lk_X4_isSignByte_b54 E hX hr N hf
                · replace hf := jif_f c8 hf
                  refine J_iload_n E (jd dk_X4_isSignByte_0 24 rfl) rfl 0 rfl ?_
                  refine J_bipush (v := 61) E (jd dk_X4_isSignByte_0 25 rfl) (by decide) ?_
                  refine J_icmp_ne (tgt := 58) E (jd dk_X4_isSignByte_0 26 rfl) (by decide) (fun c9 => ?_) (fun c9 => ?_)
                  · replace hf := jif_f c9 hf
                    refine J_iconst (v := 0) E (jd dk_X4_isSignByte_0 29 rfl) rfl ?_
                    cases hf
                    exact J_iret E hr rfl (jd dk_X4_isSignByte_0 30 rfl) (Nat.le_refl _) (Nat.le_refl _) ⟨rfl, rfl⟩
                  · replace hf := jif_t c9 hf
                    refine J_sub [] rfl ?_
                    exact lk_X4_isSignByte_b54 E hX hr N hf
def f_X4_next_b181 (N : Nat) (v0 : Nat) (w0 : Nat) (w1 : Int32) (h : AH) : Option AH :=
  (jwi 4 h w0 7 w1).bind fun h1 =>
  (jgi 4 h1 v0 6).bind fun x3 =>
  (jwi 4 h1 v0 6 (x3 + 1)).bind fun h5 =>
  some h5
def f_X4_next_l94 (N : Nat) (v0 : Nat)  (h : AH) : Option ((AH) ⊕ ((AH))) :=
  (jgi 4 h v0 6).bind fun x7 =>
  (jgi 4 h v0 3).bind fun x9 =>
  if x9 ≤ x7 then some (.inr h)
  else (jgr 4 h v0 2).bind fun x12 =>
  (jgi 4 h v0 6).bind fun x14 =>
  (jal 1 h x12 x14).bind fun x16 =>
  (f_X4_isLetter N h x16).bind fun r18 =>
  if r18.1 = 0 then some (.inr r18.2)
  else (jgi 4 r18.2 v0 6).bind fun x21 =>
  (jwi 4 r18.2 v0 6 (x21 + 1)).bind fun h23 =>
  some (.inl h23)
def f_X4_next_b94 (N : Nat) (v0 : Nat) (h : AH) : Option AH :=
  (itr (fun s => f_X4_next_l94 N v0 s) N h).bind (fun e => some e)
def f_X4_next_b47 (N : Nat) (v0 : Nat) (h : AH) : Option AH :=
  (jgi 4 h v0 5).bind fun x25 =>
  (jwi 4 h v0 6 x25).bind fun h27 =>
  (jgi 4 h27 v0 5).bind fun x29 =>
  (jgi 4 h27 v0 3).bind fun x31 =>
  if x29 < x31 then (jgr 4 h27 v0 2).bind fun x34 =>
  (jgi 4 h27 v0 5).bind fun x36 =>
  (jal 1 h27 x34 x36).bind fun x38 =>
  (f_X4_isLetter N h27 x38).bind fun r40 =>
  if r40.1 = 0 then (jgr 4 r40.2 v0 2).bind fun x43 =>
  (jgi 4 r40.2 v0 5).bind fun x45 =>
  (jal 1 r40.2 x43 x45).bind fun x47 =>
  (f_X4_isDigit N r40.2 x47).bind fun r49 =>
  if r49.1 = 0 then (jgr 4 r49.2 v0 2).bind fun x52 =>
  (jgi 4 r49.2 v0 5).bind fun x54 =>
  (jal 1 r49.2 x52 x54).bind fun x56 =>
  (f_X4_isSignByte N r49.2 x56).bind fun r58 =>
  if r58.1 = 0 then f_X4_next_b181 N v0 v0 4 r58.2
  else f_X4_next_b181 N v0 v0 3 r58.2
  else (jwi 4 r49.2 v0 7 2).bind fun h61 =>
  (jck 4 h61 v0).bind fun _ =>
  (f_X4_takeDigits N h61 v0).bind fun r63 =>
  some r63
  else (jwi 4 r40.2 v0 7 1).bind fun h67 =>
  f_X4_next_b94 N v0 h67
  else (jwi 4 h27 v0 7 0).bind fun h69 =>
  some h69
def f_X4_next_l8 (N : Nat) (v0 : Nat)  (h : AH) : Option ((AH) ⊕ ((AH))) :=
  (jgi 4 h v0 5).bind fun x71 =>
  (jgi 4 h v0 3).bind fun x73 =>
  if x73 ≤ x71 then some (.inr h)
  else (jgr 4 h v0 2).bind fun x76 =>
  (jgi 4 h v0 5).bind fun x78 =>
  (jal 1 h x76 x78).bind fun x80 =>
  (f_X4_isBlank N h x80).bind fun r82 =>
  if r82.1 = 0 then some (.inr r82.2)
  else (jgi 4 r82.2 v0 5).bind fun x85 =>
  (jwi 4 r82.2 v0 5 (x85 + 1)).bind fun h87 =>
  some (.inl h87)
def f_X4_next_b8 (N : Nat) (v0 : Nat) (h : AH) : Option AH :=
  (itr (fun s => f_X4_next_l8 N v0 s) N h).bind (fun e => f_X4_next_b47 N v0 e)
def f_X4_next (N : Nat) (h : AH) (a0 : Nat) : Option AH :=
  (jgi 4 h a0 6).bind fun x89 =>
  (jwi 4 h a0 5 x89).bind fun h91 =>
  f_X4_next_b8 N a0 h91
set_option maxRecDepth 100000 in
set_option maxHeartbeats 4000000 in
theorem lk_X4_next_b181 {G : JG} {X : JX} (E : jE G X (RX4, cX4_next, 1)) (hX : X.2.2.2.1 = jRm 1 0 0) (hr : X.2.2.2.2.2.2.2.2.1.sig.returnType = none) (N : Nat) {v0 : Nat} {w0 : Nat} {w1 : Int32} {h : AH}  {r : AH} (hf : f_X4_next_b181 N v0 w0 w1 h = some r) : JW G X (RX4, cX4_next, 1) h [(0, .ref v0)] [.int w1, .ref w0] 181 0 0 (jEnd G X (jpv r) 0 0) := by
  unfold f_X4_next_b181 at hf
  obtain ⟨h1, e2, hf⟩ := jbind hf
  refine J_put E (jd dk_X4_next_1 39 rfl) fl_RX4_38 e2 (fun _ => rfl) (fun _ => rfl) ?_
  refine J_aload_n E (jd dk_X4_next_1 40 rfl) rfl 0 rfl ?_
  refine J_dup E (jd dk_X4_next_1 41 rfl) rfl ?_
  obtain ⟨x3, e4, hf⟩ := jbind hf
  refine J_geti E (jd dk_X4_next_1 42 rfl) fl_RX4_35 e4 ?_
  refine J_iconst (v := 1) E (jd dk_X4_next_1 43 rfl) rfl ?_
  refine J_iadd E (jd dk_X4_next_1 44 rfl) ?_
  obtain ⟨h5, e6, hf⟩ := jbind hf
  refine J_put E (jd dk_X4_next_1 45 rfl) fl_RX4_35 e6 (fun _ => rfl) (fun _ => rfl) ?_
  cases hf
  exact J_vret E hr (jd dk_X4_next_1 46 rfl) (Nat.le_refl _) (Nat.le_refl _) ⟨rfl, rfl⟩
set_option maxRecDepth 100000 in
set_option maxHeartbeats 4000000 in
theorem lk_X4_next_l94 {G : JG} {X : JX} (E : jE G X (RX4, cX4_next, 1)) (hX : X.2.2.2.1 = jRm 1 0 0) (hr : X.2.2.2.2.2.2.2.2.1.sig.returnType = none) (N : Nat) {Q : State → Prop} {v0 : Nat}   {h : AH} {q : ((AH) ⊕ ((AH)))} (hf : f_X4_next_l94 N v0 h = some q) (kb : ∀ s' : AH, q = .inl s' → JW G X (RX4, cX4_next, 1) s' [(0, .ref v0)] [] 94 0 0 Q) (ke0 : ∀ e : AH, q = .inr e → JW G X (RX4, cX4_next, 1) e [] [] 194 0 0 Q) : JW G X (RX4, cX4_next, 1) h [(0, .ref v0)] [] 94 0 0 Q := by
  unfold f_X4_next_l94 at hf
  refine J_aload_n E (jd dk_X4_next_0 46 rfl) rfl 0 rfl ?_
  obtain ⟨x7, e8, hf⟩ := jbind hf
  refine J_geti E (jd dk_X4_next_0 47 rfl) fl_RX4_35 e8 ?_
  refine J_aload_n E (jd dk_X4_next_0 48 rfl) rfl 0 rfl ?_
  obtain ⟨x9, e10, hf⟩ := jbind hf
  refine J_geti E (jd dk_X4_next_0 49 rfl) fl_RX4_22 e10 ?_
  refine J_icmp_ge (tgt := 194) E (jd dk_X4_next_1 0 rfl) (by decide) (fun c11 => ?_) (fun c11 => ?_)
  · replace hf := jif_t c11 hf
    refine J_sub [] rfl ?_
    exact ke0 _ (Option.some.inj hf).symm
  · replace hf := jif_f c11 hf
    refine J_aload_n E (jd dk_X4_next_1 1 rfl) rfl 0 rfl ?_
    obtain ⟨x12, e13, hf⟩ := jbind hf
    refine J_getr E (jd dk_X4_next_1 2 rfl) fl_RX4_18 e13 ?_
    refine J_aload_n E (jd dk_X4_next_1 3 rfl) rfl 0 rfl ?_
    obtain ⟨x14, e15, hf⟩ := jbind hf
    refine J_geti E (jd dk_X4_next_1 4 rfl) fl_RX4_35 e15 ?_
    obtain ⟨x16, e17, hf⟩ := jbind hf
    refine J_bald E (jd dk_X4_next_1 5 rfl) e17 ?_
    obtain ⟨r18, e19, hf⟩ := jbind hf
    refine J_callS E (jd dk_X4_next_1 6 rfl) ml_RX4_77 cal_X4_isLetter (lk_X4_isLetter (jE_g E) (jE_tr E) N e19) rfl (Nat.le_of_ble_eq_true rfl) (jR_le hX (by decide) (by decide)) (jF0 hX) rfl ?_
    rintro _ _ ⟨rfl, rfl⟩
    refine J_if_eq (tgt := 194) E (jd dk_X4_next_1 7 rfl) (by decide) (fun c20 => ?_) (fun c20 => ?_)
    · replace hf := jif_t c20 hf
      refine J_sub [] rfl ?_
      exact ke0 _ (Option.some.inj hf).symm
    · replace hf := jif_f c20 hf
      refine J_aload_n E (jd dk_X4_next_1 8 rfl) rfl 0 rfl ?_
      refine J_dup E (jd dk_X4_next_1 9 rfl) rfl ?_
      obtain ⟨x21, e22, hf⟩ := jbind hf
      refine J_geti E (jd dk_X4_next_1 10 rfl) fl_RX4_35 e22 ?_
      refine J_iconst (v := 1) E (jd dk_X4_next_1 11 rfl) rfl ?_
      refine J_iadd E (jd dk_X4_next_1 12 rfl) ?_
      obtain ⟨h23, e24, hf⟩ := jbind hf
      refine J_put E (jd dk_X4_next_1 13 rfl) fl_RX4_35 e24 (fun _ => rfl) (fun _ => rfl) ?_
      refine J_goto (tgt := 94) E (jd dk_X4_next_1 14 rfl) (by decide) ?_
      exact kb _ (Option.some.inj hf).symm
set_option maxRecDepth 100000 in
set_option maxHeartbeats 4000000 in
theorem lk_X4_next_b94 {G : JG} {X : JX} (E : jE G X (RX4, cX4_next, 1)) (hX : X.2.2.2.1 = jRm 1 0 0) (hr : X.2.2.2.2.2.2.2.2.1.sig.returnType = none) (N : Nat) {v0 : Nat} {h : AH}  {r : AH} (hf : f_X4_next_b94 N v0 h = some r) : JW G X (RX4, cX4_next, 1) h [(0, .ref v0)] [] 94 0 0 (jEnd G X (jpv r) 0 0) := by
  unfold f_X4_next_b94 at hf
  obtain ⟨q1, h1, hf⟩ := jbind hf
  refine jloop (P := fun s => JW G X (RX4, cX4_next, 1) s [(0, .ref v0)] [] 94 0 0 (jEnd G X (jpv r) 0 0)) (Ex := fun (e : AH) => JW G X (RX4, cX4_next, 1) e [] [] 194 0 0 (jEnd G X (jpv r) 0 0)) (fun s q hs hb hx => lk_X4_next_l94 E hX hr N hs (fun s' hs => hb s' hs) (fun e he => hx e he)) N _ q1 h1 ?_
  generalize q1 = e at hf ⊢
  cases hf
  exact J_vret E hr (jd dk_X4_next_1 46 rfl) (Nat.le_refl _) (Nat.le_refl _) ⟨rfl, rfl⟩
set_option maxRecDepth 100000 in
set_option maxHeartbeats 4000000 in
theorem lk_X4_next_b47 {G : JG} {X : JX} (E : jE G X (RX4, cX4_next, 1)) (hX : X.2.2.2.1 = jRm 1 0 0) (hr : X.2.2.2.2.2.2.2.2.1.sig.returnType = none) (N : Nat) {v0 : Nat} {h : AH}  {r : AH} (hf : f_X4_next_b47 N v0 h = some r) : JW G X (RX4, cX4_next, 1) h [(0, .ref v0)] [] 47 0 0 (jEnd G X (jpv r) 0 0) := by
  unfold f_X4_next_b47 at hf
  refine J_aload_n E (jd dk_X4_next_0 23 rfl) rfl 0 rfl ?_
  refine J_aload_n E (jd dk_X4_next_0 24 rfl) rfl 0 rfl ?_
  obtain ⟨x25, e26, hf⟩ := jbind hf
  refine J_geti E (jd dk_X4_next_0 25 rfl) fl_RX4_32 e26 ?_
  obtain ⟨h27, e28, hf⟩ := jbind hf
  refine J_put E (jd dk_X4_next_0 26 rfl) fl_RX4_35 e28 (fun _ => rfl) (fun _ => rfl) ?_
  refine J_aload_n E (jd dk_X4_next_0 27 rfl) rfl 0 rfl ?_
  obtain ⟨x29, e30, hf⟩ := jbind hf
  refine J_geti E (jd dk_X4_next_0 28 rfl) fl_RX4_32 e30 ?_
  refine J_aload_n E (jd dk_X4_next_0 29 rfl) rfl 0 rfl ?_
  obtain ⟨x31, e32, hf⟩ := jbind hf
  refine J_geti E (jd dk_X4_next_0 30 rfl) fl_RX4_22 e32 ?_
  refine J_icmp_lt (tgt := 74) E (jd dk_X4_next_0 31 rfl) (by decide) (fun c33 => ?_) (fun c33 => ?_)
  · replace hf := jif_t c33 hf
    refine J_aload_n E (jd dk_X4_next_0 36 rfl) rfl 0 rfl ?_
    obtain ⟨x34, e35, hf⟩ := jbind hf
    refine J_getr E (jd dk_X4_next_0 37 rfl) fl_RX4_18 e35 ?_
    refine J_aload_n E (jd dk_X4_next_0 38 rfl) rfl 0 rfl ?_
    obtain ⟨x36, e37, hf⟩ := jbind hf
    refine J_geti E (jd dk_X4_next_0 39 rfl) fl_RX4_32 e37 ?_
    obtain ⟨x38, e39, hf⟩ := jbind hf
    refine J_bald E (jd dk_X4_next_0 40 rfl) e39 ?_
    obtain ⟨r40, e41, hf⟩ := jbind hf
    refine J_callS E (jd dk_X4_next_0 41 rfl) ml_RX4_77 cal_X4_isLetter (lk_X4_isLetter (jE_g E) (jE_tr E) N e41) rfl (Nat.le_of_ble_eq_true rfl) (jR_le hX (by decide) (by decide)) (jF0 hX) rfl ?_
    rintro _ _ ⟨rfl, rfl⟩
    refine J_if_eq (tgt := 133) E (jd dk_X4_next_0 42 rfl) (by decide) (fun c42 => ?_) (fun c42 => ?_)
    · replace hf := jif_t c42 hf
      refine J_aload_n E (jd dk_X4_next_1 15 rfl) rfl 0 rfl ?_
      obtain ⟨x43, e44, hf⟩ := jbind hf
      refine J_getr E (jd dk_X4_next_1 16 rfl) fl_RX4_18 e44 ?_
      refine J_aload_n E (jd dk_X4_next_1 17 rfl) rfl 0 rfl ?_
      obtain ⟨x45, e46, hf⟩ := jbind hf
      refine J_geti E (jd dk_X4_next_1 18 rfl) fl_RX4_32 e46 ?_
      obtain ⟨x47, e48, hf⟩ := jbind hf
      refine J_bald E (jd dk_X4_next_1 19 rfl) e48 ?_
      obtain ⟨r49, e50, hf⟩ := jbind hf
      refine J_callS E (jd dk_X4_next_1 20 rfl) ml_RX4_80 cal_X4_isDigit (lk_X4_isDigit (jE_g E) (jE_tr E) N e50) rfl (Nat.le_of_ble_eq_true rfl) (jR_le hX (by decide) (by decide)) (jF0 hX) rfl ?_
      rintro _ _ ⟨rfl, rfl⟩
      refine J_if_eq (tgt := 160) E (jd dk_X4_next_1 21 rfl) (by decide) (fun c51 => ?_) (fun c51 => ?_)
      · replace hf := jif_t c51 hf
        refine J_aload_n E (jd dk_X4_next_1 28 rfl) rfl 0 rfl ?_
        refine J_aload_n E (jd dk_X4_next_1 29 rfl) rfl 0 rfl ?_
        obtain ⟨x52, e53, hf⟩ := jbind hf
        refine J_getr E (jd dk_X4_next_1 30 rfl) fl_RX4_18 e53 ?_
        refine J_aload_n E (jd dk_X4_next_1 31 rfl) rfl 0 rfl ?_
        obtain ⟨x54, e55, hf⟩ := jbind hf
        refine J_geti E (jd dk_X4_next_1 32 rfl) fl_RX4_32 e55 ?_
        obtain ⟨x56, e57, hf⟩ := jbind hf
        refine J_bald E (jd dk_X4_next_1 33 rfl) e57 ?_
        obtain ⟨r58, e59, hf⟩ := jbind hf
        refine J_callS E (jd dk_X4_next_1 34 rfl) ml_RX4_86 cal_X4_isSignByte (lk_X4_isSignByte (jE_g E) (jE_tr E) N e59) rfl (Nat.le_of_ble_eq_true rfl) (jR_le hX (by decide) (by decide)) (jF0 hX) rfl ?_
        rintro _ _ ⟨rfl, rfl⟩
        refine J_if_eq (tgt := 180) E (jd dk_X4_next_1 35 rfl) (by decide) (fun c60 => ?_) (fun c60 => ?_)
        · replace hf := jif_t c60 hf
          refine J_iconst (v := 4) E (jd dk_X4_next_1 38 rfl) rfl ?_
          exact lk_X4_next_b181 E hX hr N hf
        · replace hf := jif_f c60 hf
          refine J_iconst (v := 3) E (jd dk_X4_next_1 36 rfl) rfl ?_
          refine J_goto (tgt := 181) E (jd dk_X4_next_1 37 rfl) (by decide) ?_
          exact lk_X4_next_b181 E hX hr N hf
      · replace hf := jif_f c51 hf
        refine J_aload_n E (jd dk_X4_next_1 22 rfl) rfl 0 rfl ?_
        refine J_iconst (v := 2) E (jd dk_X4_next_1 23 rfl) rfl ?_
        obtain ⟨h61, e62, hf⟩ := jbind hf
        refine J_put E (jd dk_X4_next_1 24 rfl) fl_RX4_38 e62 (fun _ => rfl) (fun _ => rfl) ?_
        refine J_aload_n E (jd dk_X4_next_1 25 rfl) rfl 0 rfl ?_
        obtain ⟨u65, e66, hf⟩ := jbind hf
        obtain ⟨r63, e64, hf⟩ := jbind hf
        refine J_callV E (jd dk_X4_next_1 26 rfl) ml_RX4_83 cal_X4_takeDigits e66 rfl (lk_X4_takeDigits (jE_g E) (jE_tr E) N e64) rfl (Nat.le_of_ble_eq_true rfl) (jR_le hX (by decide) (by decide)) (jF0 hX) rfl ?_
        rintro _ _ ⟨rfl, rfl⟩
        refine J_goto (tgt := 194) E (jd dk_X4_next_1 27 rfl) (by decide) ?_
        cases hf
        exact J_vret E hr (jd dk_X4_next_1 46 rfl) (Nat.le_refl _) (Nat.le_refl _) ⟨rfl, rfl⟩
    · replace hf := jif_f c42 hf
      refine J_aload_n E (jd dk_X4_next_0 43 rfl) rfl 0 rfl ?_
      refine J_iconst (v := 1) E (jd dk_X4_next_0 44 rfl) rfl ?_
      obtain ⟨h67, e68, hf⟩ := jbind hf
      refine J_put E (jd dk_X4_next_0 45 rfl) fl_RX4_38 e68 (fun _ => rfl) (fun _ => rfl) ?_
      exact lk_X4_next_b94 E hX hr N hf
  · replace hf := jif_f c33 hf
    refine J_aload_n E (jd dk_X4_next_0 32 rfl) rfl 0 rfl ?_
    refine J_iconst (v := 0) E (jd dk_X4_next_0 33 rfl) rfl ?_
    obtain ⟨h69, e70, hf⟩ := jbind hf
    refine J_put E (jd dk_X4_next_0 34 rfl) fl_RX4_38 e70 (fun _ => rfl) (fun _ => rfl) ?_
    refine J_goto (tgt := 194) E (jd dk_X4_next_0 35 rfl) (by decide) ?_
    cases hf
    exact J_vret E hr (jd dk_X4_next_1 46 rfl) (Nat.le_refl _) (Nat.le_refl _) ⟨rfl, rfl⟩
set_option maxRecDepth 100000 in
set_option maxHeartbeats 4000000 in
theorem lk_X4_next_l8 {G : JG} {X : JX} (E : jE G X (RX4, cX4_next, 1)) (hX : X.2.2.2.1 = jRm 1 0 0) (hr : X.2.2.2.2.2.2.2.2.1.sig.returnType = none) (N : Nat) {Q : State → Prop} {v0 : Nat}   {h : AH} {q : ((AH) ⊕ ((AH)))} (hf : f_X4_next_l8 N v0 h = some q) (kb : ∀ s' : AH, q = .inl s' → JW G X (RX4, cX4_next, 1) s' [(0, .ref v0)] [] 8 0 0 Q) (ke0 : ∀ e : AH, q = .inr e → JW G X (RX4, cX4_next, 1) e [(0, .ref v0)] [] 47 0 0 Q) : JW G X (RX4, cX4_next, 1) h [(0, .ref v0)] [] 8 0 0 Q := by
  unfold f_X4_next_l8 at hf
  refine J_aload_n E (jd dk_X4_next_0 4 rfl) rfl 0 rfl ?_
  obtain ⟨x71, e72, hf⟩ := jbind hf
  refine J_geti E (jd dk_X4_next_0 5 rfl) fl_RX4_32 e72 ?_
  refine J_aload_n E (jd dk_X4_next_0 6 rfl) rfl 0 rfl ?_
  obtain ⟨x73, e74, hf⟩ := jbind hf
  refine J_geti E (jd dk_X4_next_0 7 rfl) fl_RX4_22 e74 ?_
  refine J_icmp_ge (tgt := 47) E (jd dk_X4_next_0 8 rfl) (by decide) (fun c75 => ?_) (fun c75 => ?_)
  · replace hf := jif_t c75 hf
    exact ke0 _ (Option.some.inj hf).symm
  · replace hf := jif_f c75 hf
    refine J_aload_n E (jd dk_X4_next_0 9 rfl) rfl 0 rfl ?_
    obtain ⟨x76, e77, hf⟩ := jbind hf
    refine J_getr E (jd dk_X4_next_0 10 rfl) fl_RX4_18 e77 ?_
    refine J_aload_n E (jd dk_X4_next_0 11 rfl) rfl 0 rfl ?_
    obtain ⟨x78, e79, hf⟩ := jbind hf
    refine J_geti E (jd dk_X4_next_0 12 rfl) fl_RX4_32 e79 ?_
    obtain ⟨x80, e81, hf⟩ := jbind hf
    refine J_bald E (jd dk_X4_next_0 13 rfl) e81 ?_
    obtain ⟨r82, e83, hf⟩ := jbind hf
    refine J_callS E (jd dk_X4_next_0 14 rfl) ml_RX4_73 cal_X4_isBlank (lk_X4_isBlank (jE_g E) (jE_tr E) N e83) rfl (Nat.le_of_ble_eq_true rfl) (jR_le hX (by decide) (by decide)) (jF0 hX) rfl ?_
    rintro _ _ ⟨rfl, rfl⟩
    refine J_if_eq (tgt := 47) E (jd dk_X4_next_0 15 rfl) (by decide) (fun c84 => ?_) (fun c84 => ?_)
    · replace hf := jif_t c84 hf
      exact ke0 _ (Option.some.inj hf).symm
    · replace hf := jif_f c84 hf
      refine J_aload_n E (jd dk_X4_next_0 16 rfl) rfl 0 rfl ?_
      refine J_dup E (jd dk_X4_next_0 17 rfl) rfl ?_
      obtain ⟨x85, e86, hf⟩ := jbind hf
      refine J_geti E (jd dk_X4_next_0 18 rfl) fl_RX4_32 e86 ?_
      refine J_iconst (v := 1) E (jd dk_X4_next_0 19 rfl) rfl ?_
      refine J_iadd E (jd dk_X4_next_0 20 rfl) ?_
      obtain ⟨h87, e88, hf⟩ := jbind hf
      refine J_put E (jd dk_X4_next_0 21 rfl) fl_RX4_32 e88 (fun _ => rfl) (fun _ => rfl) ?_
      refine J_goto (tgt := 8) E (jd dk_X4_next_0 22 rfl) (by decide) ?_
      exact kb _ (Option.some.inj hf).symm
set_option maxRecDepth 100000 in
set_option maxHeartbeats 4000000 in
theorem lk_X4_next_b8 {G : JG} {X : JX} (E : jE G X (RX4, cX4_next, 1)) (hX : X.2.2.2.1 = jRm 1 0 0) (hr : X.2.2.2.2.2.2.2.2.1.sig.returnType = none) (N : Nat) {v0 : Nat} {h : AH}  {r : AH} (hf : f_X4_next_b8 N v0 h = some r) : JW G X (RX4, cX4_next, 1) h [(0, .ref v0)] [] 8 0 0 (jEnd G X (jpv r) 0 0) := by
  unfold f_X4_next_b8 at hf
  obtain ⟨q1, h1, hf⟩ := jbind hf
  refine jloop (P := fun s => JW G X (RX4, cX4_next, 1) s [(0, .ref v0)] [] 8 0 0 (jEnd G X (jpv r) 0 0)) (Ex := fun (e : AH) => JW G X (RX4, cX4_next, 1) e [(0, .ref v0)] [] 47 0 0 (jEnd G X (jpv r) 0 0)) (fun s q hs hb hx => lk_X4_next_l8 E hX hr N hs (fun s' hs => hb s' hs) (fun e he => hx e he)) N _ q1 h1 ?_
  generalize q1 = e at hf ⊢
  exact lk_X4_next_b47 E hX hr N hf
set_option maxRecDepth 100000 in
set_option maxHeartbeats 4000000 in
theorem lk_X4_next {G : JG} {l : Launch} (hG : jG G) (htr : l.stackTraces = false) (N : Nat) {h : AH} {a0 : Nat} {r : AH} (hf : f_X4_next N h a0 = some r) : jMet G l yX4_next cX4_next 1 none 1 0 0 [.ref a0] h (jpv r) := by
  unfold f_X4_next at hf
  refine jMet_of hG htr (by decide) (Nat.le_of_ble_eq_true rfl) ?_
  intro X E hl9 hr hX _ _
  show JW G X (RX4, cX4_next, 1) h [(0, .ref a0)] [] 0 0 0 (jEnd G X (jpv r) 0 0)
  refine J_aload_n E (jd dk_X4_next_0 0 rfl) rfl 0 rfl ?_
  refine J_aload_n E (jd dk_X4_next_0 1 rfl) rfl 0 rfl ?_
  obtain ⟨x89, e90, hf⟩ := jbind hf
  refine J_geti E (jd dk_X4_next_0 2 rfl) fl_RX4_35 e90 ?_
  obtain ⟨h91, e92, hf⟩ := jbind hf
  refine J_put E (jd dk_X4_next_0 3 rfl) fl_RX4_32 e92 (fun _ => rfl) (fun _ => rfl) ?_
  exact lk_X4_next_b8 E hX hr N hf
def f_X4_isWord_l28 (N : Nat) (v0 : Nat) (v1 : Nat) (v2 : Int32) (h : AH) : Option ((Int32 × AH) ⊕ ((AH) ⊕ (AH))) :=
  (jsl v1).bind fun x1 =>
  if x1 ≤ v2 then some (.inr (.inr h))
  else (jgi 4 h v0 5).bind fun x4 =>
  (jgi 4 h v0 3).bind fun x6 =>
  if x6 ≤ (x4 + v2) then some (.inr (.inr h))
  else (jgr 4 h v0 2).bind fun x9 =>
  (jgi 4 h v0 5).bind fun x11 =>
  (jal 1 h x9 (x11 + v2)).bind fun x13 =>
  (jsc v1 v2).bind fun x15 =>
  if x13 = x15 then some (.inl ((v2 + 1, h)))
  else some (.inr (.inl h))
def f_X4_isWord_b28 (N : Nat) (v0 : Nat) (v1 : Nat) (v2 : Int32) (h : AH) : Option (Int32 × AH) :=
  (itr (fun s => f_X4_isWord_l28 N v0 v1 s.1 s.2) N (v2, h)).bind (Sum.elim (fun e => some (0, e)) (fun e => some (1, e)))
def f_X4_isWord (N : Nat) (h : AH) (a0 : Nat) (a1 : Nat) : Option (Int32 × AH) :=
  (jgi 4 h a0 7).bind fun x18 =>
  if x18 = 1 then (jgi 4 h a0 6).bind fun x21 =>
  (jgi 4 h a0 5).bind fun x23 =>
  (jsl a1).bind fun x25 =>
  if (x21 - x23) = x25 then f_X4_isWord_b28 N a0 a1 0 h
  else some (0, h)
  else some (0, h)
set_option maxRecDepth 100000 in
set_option maxHeartbeats 4000000 in
theorem lk_X4_isWord_l28 {G : JG} {X : JX} (E : jE G X (RX4, cX4_isWord, 3)) (hX : X.2.2.2.1 = jRm 4 0 0) (hr : X.2.2.2.2.2.2.2.2.1.sig.returnType = (some .boolean)) (N : Nat) {Q : State → Prop} {v0 : Nat} {v1 : Nat} {v2 : Int32}  {h : AH} {q : ((Int32 × AH) ⊕ ((AH) ⊕ (AH)))} (hf : f_X4_isWord_l28 N v0 v1 v2 h = some q) (kb : ∀ s' : Int32 × AH, q = .inl s' → JW G X (RX4, cX4_isWord, 3) s'.2 [(0, .ref v0), (1, .ref v1), (2, .int s'.1)] [] 28 0 0 Q) (ke0 : ∀ e : AH, q = .inr (.inl e) → JW G X (RX4, cX4_isWord, 3) e [] [] 68 0 0 Q) (ke1 : ∀ e : AH, q = .inr (.inr e) → JW G X (RX4, cX4_isWord, 3) e [] [] 76 0 0 Q) : JW G X (RX4, cX4_isWord, 3) h [(0, .ref v0), (1, .ref v1), (2, .int v2)] [] 28 0 0 Q := by
  unfold f_X4_isWord_l28 at hf
  refine J_iload_n E (jd dk_X4_isWord_0 16 rfl) rfl 2 rfl ?_
  refine J_aload_n E (jd dk_X4_isWord_0 17 rfl) rfl 1 rfl ?_
  obtain ⟨x1, e2, hf⟩ := jbind hf
  refine J_slen E (jd dk_X4_isWord_0 18 rfl) ml_RX4_89 e2 (Nat.le_of_ble_eq_true rfl) (jR_le hX (by decide) (by decide)) (jF0 hX) ?_
  refine J_icmp_ge (tgt := 76) E (jd dk_X4_isWord_0 19 rfl) (by decide) (fun c3 => ?_) (fun c3 => ?_)
  · replace hf := jif_t c3 hf
    refine J_sub [] rfl ?_
    exact ke1 _ (Option.some.inj hf).symm
  · replace hf := jif_f c3 hf
    refine J_aload_n E (jd dk_X4_isWord_0 20 rfl) rfl 0 rfl ?_
    obtain ⟨x4, e5, hf⟩ := jbind hf
    refine J_geti E (jd dk_X4_isWord_0 21 rfl) fl_RX4_32 e5 ?_
    refine J_iload_n E (jd dk_X4_isWord_0 22 rfl) rfl 2 rfl ?_
    refine J_iadd E (jd dk_X4_isWord_0 23 rfl) ?_
    refine J_aload_n E (jd dk_X4_isWord_0 24 rfl) rfl 0 rfl ?_
    obtain ⟨x6, e7, hf⟩ := jbind hf
    refine J_geti E (jd dk_X4_isWord_0 25 rfl) fl_RX4_22 e7 ?_
    refine J_icmp_ge (tgt := 76) E (jd dk_X4_isWord_0 26 rfl) (by decide) (fun c8 => ?_) (fun c8 => ?_)
    · replace hf := jif_t c8 hf
      refine J_sub [] rfl ?_
      exact ke1 _ (Option.some.inj hf).symm
    · replace hf := jif_f c8 hf
      refine J_aload_n E (jd dk_X4_isWord_0 27 rfl) rfl 0 rfl ?_
      obtain ⟨x9, e10, hf⟩ := jbind hf
      refine J_getr E (jd dk_X4_isWord_0 28 rfl) fl_RX4_18 e10 ?_
      refine J_aload_n E (jd dk_X4_isWord_0 29 rfl) rfl 0 rfl ?_
      obtain ⟨x11, e12, hf⟩ := jbind hf
      refine J_geti E (jd dk_X4_isWord_0 30 rfl) fl_RX4_32 e12 ?_
      refine J_iload_n E (jd dk_X4_isWord_0 31 rfl) rfl 2 rfl ?_
      refine J_iadd E (jd dk_X4_isWord_0 32 rfl) ?_
      obtain ⟨x13, e14, hf⟩ := jbind hf
      refine J_bald E (jd dk_X4_isWord_0 33 rfl) e14 ?_
      refine J_aload_n E (jd dk_X4_isWord_0 34 rfl) rfl 1 rfl ?_
      refine J_iload_n E (jd dk_X4_isWord_0 35 rfl) rfl 2 rfl ?_
      obtain ⟨x15, e16, hf⟩ := jbind hf
      refine J_char E (jd dk_X4_isWord_0 36 rfl) ml_RX4_94 e16 (Nat.le_of_ble_eq_true rfl) (jR_le hX (by decide) (by decide)) (jF0 hX) ?_
      refine J_icmp_eq (tgt := 70) E (jd dk_X4_isWord_0 37 rfl) (by decide) (fun c17 => ?_) (fun c17 => ?_)
      · replace hf := jif_t c17 hf
        refine J_iinc (v := v2 + 1) (lv' := [(2, .int (v2 + 1)), (0, .ref v0), (1, .ref v1)]) E (jd dk_X4_isWord_0 40 rfl) 2 rfl rfl (by decide) rfl ?_
        refine J_goto (tgt := 28) E (jd dk_X4_isWord_0 41 rfl) (by decide) ?_
        refine J_sub [1, 2, 0] rfl ?_
        exact kb _ (Option.some.inj hf).symm
      · replace hf := jif_f c17 hf
        refine J_sub [] rfl ?_
        exact ke0 _ (Option.some.inj hf).symm
set_option maxRecDepth 100000 in
set_option maxHeartbeats 4000000 in
theorem lk_X4_isWord_b28 {G : JG} {X : JX} (E : jE G X (RX4, cX4_isWord, 3)) (hX : X.2.2.2.1 = jRm 4 0 0) (hr : X.2.2.2.2.2.2.2.2.1.sig.returnType = (some .boolean)) (N : Nat) {v0 : Nat} {v1 : Nat} {v2 : Int32} {h : AH}  {r : (Int32 × AH)} (hf : f_X4_isWord_b28 N v0 v1 v2 h = some r) : JW G X (RX4, cX4_isWord, 3) h [(0, .ref v0), (1, .ref v1), (2, .int v2)] [] 28 0 0 (jEnd G X (jpi r) 0 0) := by
  unfold f_X4_isWord_b28 at hf
  obtain ⟨q1, h1, hf⟩ := jbind hf
  refine jloop (P := fun s => JW G X (RX4, cX4_isWord, 3) s.2 [(0, .ref v0), (1, .ref v1), (2, .int s.1)] [] 28 0 0 (jEnd G X (jpi r) 0 0)) (Ex := Sum.elim (fun (e : AH) => JW G X (RX4, cX4_isWord, 3) e [] [] 68 0 0 (jEnd G X (jpi r) 0 0)) (fun (e : AH) => JW G X (RX4, cX4_isWord, 3) e [] [] 76 0 0 (jEnd G X (jpi r) 0 0))) (fun s q hs hb hx => lk_X4_isWord_l28 E hX hr N hs (fun s' hs => hb s' hs) (fun e he => hx _ he) (fun e he => hx _ he)) N _ q1 h1 ?_
  rcases q1 with e | e
  · refine J_iconst (v := 0) E (jd dk_X4_isWord_0 38 rfl) rfl ?_
    cases hf
    exact J_iret E hr rfl (jd dk_X4_isWord_0 39 rfl) (Nat.le_refl _) (Nat.le_refl _) ⟨rfl, rfl⟩
  · refine J_iconst (v := 1) E (jd dk_X4_isWord_0 42 rfl) rfl ?_
    cases hf
    exact J_iret E hr rfl (jd dk_X4_isWord_0 43 rfl) (Nat.le_refl _) (Nat.le_refl _) ⟨rfl, rfl⟩
set_option maxRecDepth 100000 in
set_option maxHeartbeats 4000000 in
theorem lk_X4_isWord {G : JG} {l : Launch} (hG : jG G) (htr : l.stackTraces = false) (N : Nat) {h : AH} {a0 : Nat} {a1 : Nat} {r : (Int32 × AH)} (hf : f_X4_isWord N h a0 a1 = some r) : jMet G l yX4_isWord cX4_isWord 3 (some .boolean) 4 0 0 [.ref a0, .ref a1] h (jpi r) := by
  unfold f_X4_isWord at hf
  refine jMet_of hG htr (by decide) (Nat.le_of_ble_eq_true rfl) ?_
  intro X E hl9 hr hX _ _
  show JW G X (RX4, cX4_isWord, 3) h [(0, .ref a0), (1, .ref a1)] [] 0 0 0 (jEnd G X (jpi r) 0 0)
  refine J_aload_n E (jd dk_X4_isWord_0 0 rfl) rfl 0 rfl ?_
  obtain ⟨x18, e19, hf⟩ := jbind hf
  refine J_geti E (jd dk_X4_isWord_0 1 rfl) fl_RX4_38 e19 ?_
  refine J_iconst (v := 1) E (jd dk_X4_isWord_0 2 rfl) rfl ?_
  refine J_icmp_ne (tgt := 24) E (jd dk_X4_isWord_0 3 rfl) (by decide) (fun c20 => ?_) (fun c20 => ?_)
  · replace hf := jif_f c20 hf
    refine J_iconst (v := 0) E (jd dk_X4_isWord_0 12 rfl) rfl ?_
    cases hf
    exact J_iret E hr rfl (jd dk_X4_isWord_0 13 rfl) (Nat.le_refl _) (Nat.le_refl _) ⟨rfl, rfl⟩
  · replace hf := jif_t c20 hf
    refine J_aload_n E (jd dk_X4_isWord_0 4 rfl) rfl 0 rfl ?_
    obtain ⟨x21, e22, hf⟩ := jbind hf
    refine J_geti E (jd dk_X4_isWord_0 5 rfl) fl_RX4_35 e22 ?_
    refine J_aload_n E (jd dk_X4_isWord_0 6 rfl) rfl 0 rfl ?_
    obtain ⟨x23, e24, hf⟩ := jbind hf
    refine J_geti E (jd dk_X4_isWord_0 7 rfl) fl_RX4_32 e24 ?_
    refine J_isub E (jd dk_X4_isWord_0 8 rfl) ?_
    refine J_aload_n E (jd dk_X4_isWord_0 9 rfl) rfl 1 rfl ?_
    obtain ⟨x25, e26, hf⟩ := jbind hf
    refine J_slen E (jd dk_X4_isWord_0 10 rfl) ml_RX4_89 e26 (Nat.le_of_ble_eq_true rfl) (jR_le hX (by decide) (by decide)) (jF0 hX) ?_
    refine J_icmp_eq (tgt := 26) E (jd dk_X4_isWord_0 11 rfl) (by decide) (fun c27 => ?_) (fun c27 => ?_)
    · replace hf := jif_t c27 hf
      refine J_iconst (v := 0) E (jd dk_X4_isWord_0 14 rfl) rfl ?_
      refine J_istore_n (lv' := [(2, .int 0), (0, .ref a0), (1, .ref a1)]) E (jd dk_X4_isWord_0 15 rfl) rfl (by decide) rfl ?_
      refine J_sub [1, 2, 0] rfl ?_
      exact lk_X4_isWord_b28 E hX hr N hf
    · replace hf := jif_f c27 hf
      refine J_iconst (v := 0) E (jd dk_X4_isWord_0 12 rfl) rfl ?_
      cases hf
      exact J_iret E hr rfl (jd dk_X4_isWord_0 13 rfl) (Nat.le_refl _) (Nat.le_refl _) ⟨rfl, rfl⟩
def f_X4_refuseToken (N : Nat) (h : AH) (a0 : Nat) (a1 : Int32) : Option (Int32 × AH) :=
  (jwi 4 h a0 0 a1).bind fun h1 =>
  (jgi 4 h1 a0 5).bind fun x3 =>
  (jwi 4 h1 a0 1 x3).bind fun h5 =>
  some (0, h5)
set_option maxRecDepth 100000 in
set_option maxHeartbeats 4000000 in
theorem lk_X4_refuseToken {G : JG} {l : Launch} (hG : jG G) (htr : l.stackTraces = false) (N : Nat) {h : AH} {a0 : Nat} {a1 : Int32} {r : (Int32 × AH)} (hf : f_X4_refuseToken N h a0 a1 = some r) : jMet G l yX4_refuseToken cX4_refuseToken 2 (some .boolean) 0 0 0 [.ref a0, .int a1] h (jpi r) := by
  unfold f_X4_refuseToken at hf
  refine jMet_of hG htr (by decide) (Nat.le_of_ble_eq_true rfl) ?_
  intro X E hl9 hr hX _ _
  show JW G X (RX4, cX4_refuseToken, 2) h [(0, .ref a0), (1, .int a1)] [] 0 0 0 (jEnd G X (jpi r) 0 0)
  refine J_aload_n E (jd dk_X4_refuseToken_0 0 rfl) rfl 0 rfl ?_
  refine J_iload_n E (jd dk_X4_refuseToken_0 1 rfl) rfl 1 rfl ?_
  obtain ⟨h1, e2, hf⟩ := jbind hf
  refine J_put E (jd dk_X4_refuseToken_0 2 rfl) fl_RX4_9 e2 (fun _ => rfl) (fun _ => rfl) ?_
  refine J_aload_n E (jd dk_X4_refuseToken_0 3 rfl) rfl 0 rfl ?_
  refine J_aload_n E (jd dk_X4_refuseToken_0 4 rfl) rfl 0 rfl ?_
  obtain ⟨x3, e4, hf⟩ := jbind hf
  refine J_geti E (jd dk_X4_refuseToken_0 5 rfl) fl_RX4_32 e4 ?_
  obtain ⟨h5, e6, hf⟩ := jbind hf
  refine J_put E (jd dk_X4_refuseToken_0 6 rfl) fl_RX4_15 e6 (fun _ => rfl) (fun _ => rfl) ?_
  refine J_iconst (v := 0) E (jd dk_X4_refuseToken_0 7 rfl) rfl ?_
  cases hf
  exact J_iret E hr rfl (jd dk_X4_refuseToken_0 8 rfl) (Nat.le_refl _) (Nat.le_refl _) ⟨rfl, rfl⟩
def f_X4_readNumber_b44 (N : Nat) (v0 : Nat) (v3 : Int32) (h : AH) : Option (Int32 × AH) :=
  (jck 4 h v0).bind fun _ =>
  (f_X4_refuseToken N h v0 v3).bind fun r1 =>
  if narrow .boolean (.int r1.1) = .int r1.1 then some (r1.1, r1.2) else none
def f_X4_readNumber (N : Nat) (h : AH) (a0 : Nat) (a1 : Int32) (a2 : Int32) (a3 : Int32) : Option (Int32 × AH) :=
  (jgi 4 h a0 7).bind fun x6 =>
  if x6 = 2 then (jgi 4 h a0 8).bind fun x9 =>
  if x9 ≤ 4 then (jgi 4 h a0 9).bind fun x12 =>
  if x12 < a1 then f_X4_readNumber_b44 N a0 a3 h
  else (jgi 4 h a0 9).bind fun x15 =>
  if x15 ≤ a2 then (jgi 4 h a0 9).bind fun x18 =>
  (jwi 4 h a0 10 x18).bind fun h20 =>
  (jck 4 h20 a0).bind fun _ =>
  (f_X4_next N h20 a0).bind fun r22 =>
  some (1, r22)
  else f_X4_readNumber_b44 N a0 a3 h
  else (jck 4 h a0).bind fun _ =>
  (f_X4_refuseToken N h a0 2).bind fun r26 =>
  if narrow .boolean (.int r26.1) = .int r26.1 then some (r26.1, r26.2) else none
  else (jck 4 h a0).bind fun _ =>
  (f_X4_refuseToken N h a0 1).bind fun r31 =>
  if narrow .boolean (.int r31.1) = .int r31.1 then some (r31.1, r31.2) else none
set_option maxRecDepth 100000 in
set_option maxHeartbeats 4000000 in
theorem lk_X4_readNumber_b44 {G : JG} {X : JX} (E : jE G X (RX4, cX4_readNumber, 4)) (hX : X.2.2.2.1 = jRm 2 0 0) (hr : X.2.2.2.2.2.2.2.2.1.sig.returnType = (some .boolean)) (N : Nat) {v0 : Nat} {v3 : Int32} {h : AH}  {r : (Int32 × AH)} (hf : f_X4_readNumber_b44 N v0 v3 h = some r) : JW G X (RX4, cX4_readNumber, 4) h [(0, .ref v0), (3, .int v3)] [] 44 0 0 (jEnd G X (jpi r) 0 0) := by
  unfold f_X4_readNumber_b44 at hf
  refine J_aload_n E (jd dk_X4_readNumber_0 24 rfl) rfl 0 rfl ?_
  refine J_iload_n E (jd dk_X4_readNumber_0 25 rfl) rfl 1 rfl ?_
  obtain ⟨u3, e4, hf⟩ := jbind hf
  obtain ⟨r1, e2, hf⟩ := jbind hf
  refine J_callV E (jd dk_X4_readNumber_0 26 rfl) ml_RX4_130 cal_X4_refuseToken e4 rfl (lk_X4_refuseToken (jE_g E) (jE_tr E) N e2) rfl (Nat.le_of_ble_eq_true rfl) (jR_le hX (by decide) (by decide)) (jF0 hX) rfl ?_
  rintro _ _ ⟨rfl, rfl⟩
  obtain ⟨n5, hf⟩ := jnw hf
  cases hf
  exact J_iret E hr n5 (jd dk_X4_readNumber_0 27 rfl) (Nat.le_refl _) (Nat.le_refl _) ⟨rfl, rfl⟩
set_option maxRecDepth 100000 in
set_option maxHeartbeats 4000000 in
theorem lk_X4_readNumber {G : JG} {l : Launch} (hG : jG G) (htr : l.stackTraces = false) (N : Nat) {h : AH} {a0 : Nat} {a1 : Int32} {a2 : Int32} {a3 : Int32} {r : (Int32 × AH)} (hf : f_X4_readNumber N h a0 a1 a2 a3 = some r) : jMet G l yX4_readNumber cX4_readNumber 4 (some .boolean) 2 0 0 [.ref a0, .int a1, .int a2, .int a3] h (jpi r) := by
  unfold f_X4_readNumber at hf
  refine jMet_of hG htr (by decide) (Nat.le_of_ble_eq_true rfl) ?_
  intro X E hl9 hr hX _ _
  show JW G X (RX4, cX4_readNumber, 4) h [(0, .ref a0), (1, .int a1), (2, .int a2), (3, .int a3)] [] 0 0 0 (jEnd G X (jpi r) 0 0)
  refine J_aload_n E (jd dk_X4_readNumber_0 0 rfl) rfl 0 rfl ?_
  obtain ⟨x6, e7, hf⟩ := jbind hf
  refine J_geti E (jd dk_X4_readNumber_0 1 rfl) fl_RX4_38 e7 ?_
  refine J_iconst (v := 2) E (jd dk_X4_readNumber_0 2 rfl) rfl ?_
  refine J_icmp_eq (tgt := 14) E (jd dk_X4_readNumber_0 3 rfl) (by decide) (fun c8 => ?_) (fun c8 => ?_)
  · replace hf := jif_t c8 hf
    refine J_aload_n E (jd dk_X4_readNumber_0 8 rfl) rfl 0 rfl ?_
    obtain ⟨x9, e10, hf⟩ := jbind hf
    refine J_geti E (jd dk_X4_readNumber_0 9 rfl) fl_RX4_41 e10 ?_
    refine J_iconst (v := 4) E (jd dk_X4_readNumber_0 10 rfl) rfl ?_
    refine J_icmp_le (tgt := 28) E (jd dk_X4_readNumber_0 11 rfl) (by decide) (fun c11 => ?_) (fun c11 => ?_)
    · replace hf := jif_t c11 hf
      refine J_aload_n E (jd dk_X4_readNumber_0 16 rfl) rfl 0 rfl ?_
      obtain ⟨x12, e13, hf⟩ := jbind hf
      refine J_geti E (jd dk_X4_readNumber_0 17 rfl) fl_RX4_44 e13 ?_
      refine J_iload_n E (jd dk_X4_readNumber_0 18 rfl) rfl 1 rfl ?_
      refine J_icmp_lt (tgt := 44) E (jd dk_X4_readNumber_0 19 rfl) (by decide) (fun c14 => ?_) (fun c14 => ?_)
      · replace hf := jif_t c14 hf
        refine J_sub [0, 3] rfl ?_
        exact lk_X4_readNumber_b44 E hX hr N hf
      · replace hf := jif_f c14 hf
        refine J_aload_n E (jd dk_X4_readNumber_0 20 rfl) rfl 0 rfl ?_
        obtain ⟨x15, e16, hf⟩ := jbind hf
        refine J_geti E (jd dk_X4_readNumber_0 21 rfl) fl_RX4_44 e16 ?_
        refine J_iload_n E (jd dk_X4_readNumber_0 22 rfl) rfl 2 rfl ?_
        refine J_icmp_le (tgt := 50) E (jd dk_X4_readNumber_0 23 rfl) (by decide) (fun c17 => ?_) (fun c17 => ?_)
        · replace hf := jif_t c17 hf
          refine J_aload_n E (jd dk_X4_readNumber_0 28 rfl) rfl 0 rfl ?_
          refine J_aload_n E (jd dk_X4_readNumber_0 29 rfl) rfl 0 rfl ?_
          obtain ⟨x18, e19, hf⟩ := jbind hf
          refine J_geti E (jd dk_X4_readNumber_0 30 rfl) fl_RX4_44 e19 ?_
          obtain ⟨h20, e21, hf⟩ := jbind hf
          refine J_put E (jd dk_X4_readNumber_0 31 rfl) fl_RX4_47 e21 (fun _ => rfl) (fun _ => rfl) ?_
          refine J_aload_n E (jd dk_X4_readNumber_0 32 rfl) rfl 0 rfl ?_
          obtain ⟨u24, e25, hf⟩ := jbind hf
          obtain ⟨r22, e23, hf⟩ := jbind hf
          refine J_callV E (jd dk_X4_readNumber_0 33 rfl) ml_RX4_66 cal_X4_next e25 rfl (lk_X4_next (jE_g E) (jE_tr E) N e23) rfl (Nat.le_of_ble_eq_true rfl) (jR_le hX (by decide) (by decide)) (jF0 hX) rfl ?_
          rintro _ _ ⟨rfl, rfl⟩
          refine J_iconst (v := 1) E (jd dk_X4_readNumber_0 34 rfl) rfl ?_
          cases hf
          exact J_iret E hr rfl (jd dk_X4_readNumber_0 35 rfl) (Nat.le_refl _) (Nat.le_refl _) ⟨rfl, rfl⟩
        · replace hf := jif_f c17 hf
          refine J_sub [0, 3] rfl ?_
          exact lk_X4_readNumber_b44 E hX hr N hf
    · replace hf := jif_f c11 hf
      refine J_aload_n E (jd dk_X4_readNumber_0 12 rfl) rfl 0 rfl ?_
      refine J_iconst (v := 2) E (jd dk_X4_readNumber_0 13 rfl) rfl ?_
      obtain ⟨u28, e29, hf⟩ := jbind hf
      obtain ⟨r26, e27, hf⟩ := jbind hf
      refine J_callV E (jd dk_X4_readNumber_0 14 rfl) ml_RX4_130 cal_X4_refuseToken e29 rfl (lk_X4_refuseToken (jE_g E) (jE_tr E) N e27) rfl (Nat.le_of_ble_eq_true rfl) (jR_le hX (by decide) (by decide)) (jF0 hX) rfl ?_
      rintro _ _ ⟨rfl, rfl⟩
      obtain ⟨n30, hf⟩ := jnw hf
      cases hf
      exact J_iret E hr n30 (jd dk_X4_readNumber_0 15 rfl) (Nat.le_refl _) (Nat.le_refl _) ⟨rfl, rfl⟩
  · replace hf := jif_f c8 hf
    refine J_aload_n E (jd dk_X4_readNumber_0 4 rfl) rfl 0 rfl ?_
    refine J_iconst (v := 1) E (jd dk_X4_readNumber_0 5 rfl) rfl ?_
    obtain ⟨u33, e34, hf⟩ := jbind hf
    obtain ⟨r31, e32, hf⟩ := jbind hf
    refine J_callV E (jd dk_X4_readNumber_0 6 rfl) ml_RX4_130 cal_X4_refuseToken e34 rfl (lk_X4_refuseToken (jE_g E) (jE_tr E) N e32) rfl (Nat.le_of_ble_eq_true rfl) (jR_le hX (by decide) (by decide)) (jF0 hX) rfl ?_
    rintro _ _ ⟨rfl, rfl⟩
    obtain ⟨n35, hf⟩ := jnw hf
    cases hf
    exact J_iret E hr n35 (jd dk_X4_readNumber_0 7 rfl) (Nat.le_refl _) (Nat.le_refl _) ⟨rfl, rfl⟩
def f_X4_isSign_b36 (N : Nat)  (h : AH) : Option (Int32 × AH) :=
  some (0, h)
def f_X4_isSign (N : Nat) (h : AH) (a0 : Nat) (a1 : Int32) : Option (Int32 × AH) :=
  (jgi 4 h a0 7).bind fun x1 =>
  if x1 = 3 then (jgi 4 h a0 5).bind fun x4 =>
  (jgi 4 h a0 3).bind fun x6 =>
  if x6 ≤ x4 then f_X4_isSign_b36 N  h
  else (jgr 4 h a0 2).bind fun x9 =>
  (jgi 4 h a0 5).bind fun x11 =>
  (jal 1 h x9 x11).bind fun x13 =>
  if x13 = a1 then some (1, h)
  else f_X4_isSign_b36 N  h
  else f_X4_isSign_b36 N  h
set_option maxRecDepth 100000 in
set_option maxHeartbeats 4000000 in
theorem lk_X4_isSign_b36 {G : JG} {X : JX} (E : jE G X (RX4, cX4_isSign, 2)) (hX : X.2.2.2.1 = jRm 0 0 0) (hr : X.2.2.2.2.2.2.2.2.1.sig.returnType = (some .boolean)) (N : Nat)  {h : AH}  {r : (Int32 × AH)} (hf : f_X4_isSign_b36 N  h = some r) : JW G X (RX4, cX4_isSign, 2) h [] [] 36 0 0 (jEnd G X (jpi r) 0 0) := by
  unfold f_X4_isSign_b36 at hf
  refine J_iconst (v := 0) E (jd dk_X4_isSign_0 18 rfl) rfl ?_
  cases hf
  exact J_iret E hr rfl (jd dk_X4_isSign_0 19 rfl) (Nat.le_refl _) (Nat.le_refl _) ⟨rfl, rfl⟩
set_option maxRecDepth 100000 in
set_option maxHeartbeats 4000000 in
theorem lk_X4_isSign {G : JG} {l : Launch} (hG : jG G) (htr : l.stackTraces = false) (N : Nat) {h : AH} {a0 : Nat} {a1 : Int32} {r : (Int32 × AH)} (hf : f_X4_isSign N h a0 a1 = some r) : jMet G l yX4_isSign cX4_isSign 2 (some .boolean) 0 0 0 [.ref a0, .int a1] h (jpi r) := by
  unfold f_X4_isSign at hf
  refine jMet_of hG htr (by decide) (Nat.le_of_ble_eq_true rfl) ?_
  intro X E hl9 hr hX _ _
  show JW G X (RX4, cX4_isSign, 2) h [(0, .ref a0), (1, .int a1)] [] 0 0 0 (jEnd G X (jpi r) 0 0)
  refine J_aload_n E (jd dk_X4_isSign_0 0 rfl) rfl 0 rfl ?_
  obtain ⟨x1, e2, hf⟩ := jbind hf
  refine J_geti E (jd dk_X4_isSign_0 1 rfl) fl_RX4_38 e2 ?_
  refine J_iconst (v := 3) E (jd dk_X4_isSign_0 2 rfl) rfl ?_
  refine J_icmp_ne (tgt := 36) E (jd dk_X4_isSign_0 3 rfl) (by decide) (fun c3 => ?_) (fun c3 => ?_)
  · replace hf := jif_f c3 hf
    refine J_sub [] rfl ?_
    exact lk_X4_isSign_b36 E hX hr N hf
  · replace hf := jif_t c3 hf
    refine J_aload_n E (jd dk_X4_isSign_0 4 rfl) rfl 0 rfl ?_
    obtain ⟨x4, e5, hf⟩ := jbind hf
    refine J_geti E (jd dk_X4_isSign_0 5 rfl) fl_RX4_32 e5 ?_
    refine J_aload_n E (jd dk_X4_isSign_0 6 rfl) rfl 0 rfl ?_
    obtain ⟨x6, e7, hf⟩ := jbind hf
    refine J_geti E (jd dk_X4_isSign_0 7 rfl) fl_RX4_22 e7 ?_
    refine J_icmp_ge (tgt := 36) E (jd dk_X4_isSign_0 8 rfl) (by decide) (fun c8 => ?_) (fun c8 => ?_)
    · replace hf := jif_t c8 hf
      refine J_sub [] rfl ?_
      exact lk_X4_isSign_b36 E hX hr N hf
    · replace hf := jif_f c8 hf
      refine J_aload_n E (jd dk_X4_isSign_0 9 rfl) rfl 0 rfl ?_
      obtain ⟨x9, e10, hf⟩ := jbind hf
      refine J_getr E (jd dk_X4_isSign_0 10 rfl) fl_RX4_18 e10 ?_
      refine J_aload_n E (jd dk_X4_isSign_0 11 rfl) rfl 0 rfl ?_
      obtain ⟨x11, e12, hf⟩ := jbind hf
      refine J_geti E (jd dk_X4_isSign_0 12 rfl) fl_RX4_32 e12 ?_
      obtain ⟨x13, e14, hf⟩ := jbind hf
      refine J_bald E (jd dk_X4_isSign_0 13 rfl) e14 ?_
      refine J_iload_n E (jd dk_X4_isSign_0 14 rfl) rfl 1 rfl ?_
      refine J_icmp_ne (tgt := 36) E (jd dk_X4_isSign_0 15 rfl) (by decide) (fun c15 => ?_) (fun c15 => ?_)
      · replace hf := jif_f c15 hf
        refine J_sub [] rfl ?_
        exact lk_X4_isSign_b36 E hX hr N hf
      · replace hf := jif_t c15 hf
        refine J_iconst (v := 1) E (jd dk_X4_isSign_0 16 rfl) rfl ?_
        refine J_goto (tgt := 37) E (jd dk_X4_isSign_0 17 rfl) (by decide) ?_
        cases hf
        exact J_iret E hr rfl (jd dk_X4_isSign_0 19 rfl) (Nat.le_refl _) (Nat.le_refl _) ⟨rfl, rfl⟩
def f_X4_readSign (N : Nat) (h : AH) (a0 : Nat) (a1 : Int32) : Option (Int32 × AH) :=
  (jck 4 h a0).bind fun _ =>
  (f_X4_isSign N h a0 a1).bind fun r1 =>
  if r1.1 = 0 then (jck 4 r1.2 a0).bind fun _ =>
  (f_X4_refuseToken N r1.2 a0 1).bind fun r10 =>
  if narrow .boolean (.int r10.1) = .int r10.1 then some (r10.1, r10.2) else none
  else (jck 4 r1.2 a0).bind fun _ =>
  (f_X4_next N r1.2 a0).bind fun r6 =>
  some (1, r6)
set_option maxRecDepth 100000 in
set_option maxHeartbeats 4000000 in
theorem lk_X4_readSign {G : JG} {l : Launch} (hG : jG G) (htr : l.stackTraces = false) (N : Nat) {h : AH} {a0 : Nat} {a1 : Int32} {r : (Int32 × AH)} (hf : f_X4_readSign N h a0 a1 = some r) : jMet G l yX4_readSign cX4_readSign 2 (some .boolean) 2 0 0 [.ref a0, .int a1] h (jpi r) := by
  unfold f_X4_readSign at hf
  refine jMet_of hG htr (by decide) (Nat.le_of_ble_eq_true rfl) ?_
  intro X E hl9 hr hX _ _
  show JW G X (RX4, cX4_readSign, 2) h [(0, .ref a0), (1, .int a1)] [] 0 0 0 (jEnd G X (jpi r) 0 0)
  refine J_aload_n E (jd dk_X4_readSign_0 0 rfl) rfl 0 rfl ?_
  refine J_iload_n E (jd dk_X4_readSign_0 1 rfl) rfl 1 rfl ?_
  obtain ⟨u3, e4, hf⟩ := jbind hf
  obtain ⟨r1, e2, hf⟩ := jbind hf
  refine J_callV E (jd dk_X4_readSign_0 2 rfl) ml_RX4_192 cal_X4_isSign e4 rfl (lk_X4_isSign (jE_g E) (jE_tr E) N e2) rfl (Nat.le_of_ble_eq_true rfl) (jR_le hX (by decide) (by decide)) (jF0 hX) rfl ?_
  rintro _ _ ⟨rfl, rfl⟩
  refine J_if_ne (tgt := 14) E (jd dk_X4_readSign_0 3 rfl) (by decide) (fun c5 => ?_) (fun c5 => ?_)
  · replace hf := jif_f c5 hf
    refine J_aload_n E (jd dk_X4_readSign_0 8 rfl) rfl 0 rfl ?_
    obtain ⟨u8, e9, hf⟩ := jbind hf
    obtain ⟨r6, e7, hf⟩ := jbind hf
    refine J_callV E (jd dk_X4_readSign_0 9 rfl) ml_RX4_66 cal_X4_next e9 rfl (lk_X4_next (jE_g E) (jE_tr E) N e7) rfl (Nat.le_of_ble_eq_true rfl) (jR_le hX (by decide) (by decide)) (jF0 hX) rfl ?_
    rintro _ _ ⟨rfl, rfl⟩
    refine J_iconst (v := 1) E (jd dk_X4_readSign_0 10 rfl) rfl ?_
    cases hf
    exact J_iret E hr rfl (jd dk_X4_readSign_0 11 rfl) (Nat.le_refl _) (Nat.le_refl _) ⟨rfl, rfl⟩
  · replace hf := jif_t c5 hf
    refine J_aload_n E (jd dk_X4_readSign_0 4 rfl) rfl 0 rfl ?_
    refine J_iconst (v := 1) E (jd dk_X4_readSign_0 5 rfl) rfl ?_
    obtain ⟨u12, e13, hf⟩ := jbind hf
    obtain ⟨r10, e11, hf⟩ := jbind hf
    refine J_callV E (jd dk_X4_readSign_0 6 rfl) ml_RX4_130 cal_X4_refuseToken e13 rfl (lk_X4_refuseToken (jE_g E) (jE_tr E) N e11) rfl (Nat.le_of_ble_eq_true rfl) (jR_le hX (by decide) (by decide)) (jF0 hX) rfl ?_
    rintro _ _ ⟨rfl, rfl⟩
    obtain ⟨n14, hf⟩ := jnw hf
    cases hf
    exact J_iret E hr n14 (jd dk_X4_readSign_0 7 rfl) (Nat.le_refl _) (Nat.le_refl _) ⟨rfl, rfl⟩
def f_X4_valueWord_b70 (N : Nat) (w0 : Nat) (w1 : Nat) (h : AH) : Option (Int32 × AH) :=
  (jck 4 h w0).bind fun _ =>
  (f_X4_isWord N h w0 w1).bind fun r1 =>
  if r1.1 = 0 then some ((-1), r1.2)
  else some (5, r1.2)
def f_X4_valueWord (N : Nat) (h : AH) (a0 : Nat) : Option (Int32 × AH) :=
  (jck 4 h a0).bind fun _ =>
  (f_X4_isWord N h a0 1000007).bind fun r6 =>
  if r6.1 = 0 then (jck 4 r6.2 a0).bind fun _ =>
  (f_X4_isWord N r6.2 a0 1000008).bind fun r11 =>
  if r11.1 = 0 then (jck 4 r11.2 a0).bind fun _ =>
  (f_X4_isWord N r11.2 a0 1000009).bind fun r16 =>
  if r16.1 = 0 then (jck 4 r16.2 a0).bind fun _ =>
  (f_X4_isWord N r16.2 a0 1000010).bind fun r21 =>
  if r21.1 = 0 then (jck 4 r21.2 a0).bind fun _ =>
  (f_X4_isWord N r21.2 a0 1000011).bind fun r26 =>
  if r26.1 = 0 then (jgi 4 r26.2 a0 12).bind fun x31 =>
  if x31 = 0 then f_X4_valueWord_b70 N a0 1000013 r26.2
  else f_X4_valueWord_b70 N a0 1000012 r26.2
  else some (4, r26.2)
  else some (3, r21.2)
  else some (2, r16.2)
  else some (1, r11.2)
  else some (0, r6.2)
set_option maxRecDepth 100000 in
set_option maxHeartbeats 4000000 in
theorem lk_X4_valueWord_b70 {G : JG} {X : JX} (E : jE G X (RX4, cX4_valueWord, 1)) (hX : X.2.2.2.1 = jRm 5 0 0) (hr : X.2.2.2.2.2.2.2.2.1.sig.returnType = (some .int)) (N : Nat) {w0 : Nat} {w1 : Nat} {h : AH}  {r : (Int32 × AH)} (hf : f_X4_valueWord_b70 N w0 w1 h = some r) : JW G X (RX4, cX4_valueWord, 1) h [] [.ref w1, .ref w0] 70 0 0 (jEnd G X (jpi r) 0 0) := by
  unfold f_X4_valueWord_b70 at hf
  obtain ⟨u3, e4, hf⟩ := jbind hf
  obtain ⟨r1, e2, hf⟩ := jbind hf
  refine J_callV E (jd dk_X4_valueWord_0 37 rfl) ml_RX4_100 cal_X4_isWord e4 rfl (lk_X4_isWord (jE_g E) (jE_tr E) N e2) rfl (Nat.le_of_ble_eq_true rfl) (jR_le hX (by decide) (by decide)) (jF0 hX) rfl ?_
  rintro _ _ ⟨rfl, rfl⟩
  refine J_if_eq (tgt := 80) E (jd dk_X4_valueWord_0 38 rfl) (by decide) (fun c5 => ?_) (fun c5 => ?_)
  · replace hf := jif_t c5 hf
    refine J_iconst (v := (-1)) E (jd dk_X4_valueWord_0 41 rfl) rfl ?_
    cases hf
    exact J_iret E hr rfl (jd dk_X4_valueWord_0 42 rfl) (Nat.le_refl _) (Nat.le_refl _) ⟨rfl, rfl⟩
  · replace hf := jif_f c5 hf
    refine J_iconst (v := 5) E (jd dk_X4_valueWord_0 39 rfl) rfl ?_
    refine J_goto (tgt := 81) E (jd dk_X4_valueWord_0 40 rfl) (by decide) ?_
    cases hf
    exact J_iret E hr rfl (jd dk_X4_valueWord_0 42 rfl) (Nat.le_refl _) (Nat.le_refl _) ⟨rfl, rfl⟩
set_option maxRecDepth 100000 in
set_option maxHeartbeats 4000000 in
theorem lk_X4_valueWord {G : JG} {l : Launch} (hG : jG G) (htr : l.stackTraces = false) (N : Nat) {h : AH} {a0 : Nat} {r : (Int32 × AH)} (hf : f_X4_valueWord N h a0 = some r) : jMet G l yX4_valueWord cX4_valueWord 1 (some .int) 5 0 0 [.ref a0] h (jpi r) := by
  unfold f_X4_valueWord at hf
  refine jMet_of hG htr (by decide) (Nat.le_of_ble_eq_true rfl) ?_
  intro X E hl9 hr hX _ _
  show JW G X (RX4, cX4_valueWord, 1) h [(0, .ref a0)] [] 0 0 0 (jEnd G X (jpi r) 0 0)
  refine J_aload_n E (jd dk_X4_valueWord_0 0 rfl) rfl 0 rfl ?_
  refine J_ldcS (j := 7) (tx := "lean") E (jd dk_X4_valueWord_0 1 rfl) rfl ?_
  obtain ⟨u8, e9, hf⟩ := jbind hf
  obtain ⟨r6, e7, hf⟩ := jbind hf
  refine J_callV E (jd dk_X4_valueWord_0 2 rfl) ml_RX4_100 cal_X4_isWord e9 rfl (lk_X4_isWord (jE_g E) (jE_tr E) N e7) rfl (Nat.le_of_ble_eq_true rfl) (jR_le hX (by decide) (by decide)) (jF0 hX) rfl ?_
  rintro _ _ ⟨rfl, rfl⟩
  refine J_if_eq (tgt := 11) E (jd dk_X4_valueWord_0 3 rfl) (by decide) (fun c10 => ?_) (fun c10 => ?_)
  · replace hf := jif_t c10 hf
    refine J_aload_n E (jd dk_X4_valueWord_0 6 rfl) rfl 0 rfl ?_
    refine J_ldcS (j := 8) (tx := "seen") E (jd dk_X4_valueWord_0 7 rfl) rfl ?_
    obtain ⟨u13, e14, hf⟩ := jbind hf
    obtain ⟨r11, e12, hf⟩ := jbind hf
    refine J_callV E (jd dk_X4_valueWord_0 8 rfl) ml_RX4_100 cal_X4_isWord e14 rfl (lk_X4_isWord (jE_g E) (jE_tr E) N e12) rfl (Nat.le_of_ble_eq_true rfl) (jR_le hX (by decide) (by decide)) (jF0 hX) rfl ?_
    rintro _ _ ⟨rfl, rfl⟩
    refine J_if_eq (tgt := 22) E (jd dk_X4_valueWord_0 9 rfl) (by decide) (fun c15 => ?_) (fun c15 => ?_)
    · replace hf := jif_t c15 hf
      refine J_aload_n E (jd dk_X4_valueWord_0 12 rfl) rfl 0 rfl ?_
      refine J_ldcS (j := 9) (tx := "faces") E (jd dk_X4_valueWord_0 13 rfl) rfl ?_
      obtain ⟨u18, e19, hf⟩ := jbind hf
      obtain ⟨r16, e17, hf⟩ := jbind hf
      refine J_callV E (jd dk_X4_valueWord_0 14 rfl) ml_RX4_100 cal_X4_isWord e19 rfl (lk_X4_isWord (jE_g E) (jE_tr E) N e17) rfl (Nat.le_of_ble_eq_true rfl) (jR_le hX (by decide) (by decide)) (jF0 hX) rfl ?_
      rintro _ _ ⟨rfl, rfl⟩
      refine J_if_eq (tgt := 33) E (jd dk_X4_valueWord_0 15 rfl) (by decide) (fun c20 => ?_) (fun c20 => ?_)
      · replace hf := jif_t c20 hf
        refine J_aload_n E (jd dk_X4_valueWord_0 18 rfl) rfl 0 rfl ?_
        refine J_ldcS (j := 10) (tx := "here") E (jd dk_X4_valueWord_0 19 rfl) rfl ?_
        obtain ⟨u23, e24, hf⟩ := jbind hf
        obtain ⟨r21, e22, hf⟩ := jbind hf
        refine J_callV E (jd dk_X4_valueWord_0 20 rfl) ml_RX4_100 cal_X4_isWord e24 rfl (lk_X4_isWord (jE_g E) (jE_tr E) N e22) rfl (Nat.le_of_ble_eq_true rfl) (jR_le hX (by decide) (by decide)) (jF0 hX) rfl ?_
        rintro _ _ ⟨rfl, rfl⟩
        refine J_if_eq (tgt := 44) E (jd dk_X4_valueWord_0 21 rfl) (by decide) (fun c25 => ?_) (fun c25 => ?_)
        · replace hf := jif_t c25 hf
          refine J_aload_n E (jd dk_X4_valueWord_0 24 rfl) rfl 0 rfl ?_
          refine J_ldcS (j := 11) (tx := "step") E (jd dk_X4_valueWord_0 25 rfl) rfl ?_
          obtain ⟨u28, e29, hf⟩ := jbind hf
          obtain ⟨r26, e27, hf⟩ := jbind hf
          refine J_callV E (jd dk_X4_valueWord_0 26 rfl) ml_RX4_100 cal_X4_isWord e29 rfl (lk_X4_isWord (jE_g E) (jE_tr E) N e27) rfl (Nat.le_of_ble_eq_true rfl) (jR_le hX (by decide) (by decide)) (jF0 hX) rfl ?_
          rintro _ _ ⟨rfl, rfl⟩
          refine J_if_eq (tgt := 55) E (jd dk_X4_valueWord_0 27 rfl) (by decide) (fun c30 => ?_) (fun c30 => ?_)
          · replace hf := jif_t c30 hf
            refine J_aload_n E (jd dk_X4_valueWord_0 30 rfl) rfl 0 rfl ?_
            refine J_aload_n E (jd dk_X4_valueWord_0 31 rfl) rfl 0 rfl ?_
            obtain ⟨x31, e32, hf⟩ := jbind hf
            refine J_geti E (jd dk_X4_valueWord_0 32 rfl) fl_RX4_54 e32 ?_
            refine J_if_eq (tgt := 68) E (jd dk_X4_valueWord_0 33 rfl) (by decide) (fun c33 => ?_) (fun c33 => ?_)
            · replace hf := jif_t c33 hf
              refine J_ldcS (j := 13) (tx := "flow") E (jd dk_X4_valueWord_0 36 rfl) rfl ?_
              refine J_sub [] rfl ?_
              exact lk_X4_valueWord_b70 E hX hr N hf
            · replace hf := jif_f c33 hf
              refine J_ldcS (j := 12) (tx := "spin") E (jd dk_X4_valueWord_0 34 rfl) rfl ?_
              refine J_goto (tgt := 70) E (jd dk_X4_valueWord_0 35 rfl) (by decide) ?_
              refine J_sub [] rfl ?_
              exact lk_X4_valueWord_b70 E hX hr N hf
          · replace hf := jif_f c30 hf
            refine J_iconst (v := 4) E (jd dk_X4_valueWord_0 28 rfl) rfl ?_
            cases hf
            exact J_iret E hr rfl (jd dk_X4_valueWord_0 29 rfl) (Nat.le_refl _) (Nat.le_refl _) ⟨rfl, rfl⟩
        · replace hf := jif_f c25 hf
          refine J_iconst (v := 3) E (jd dk_X4_valueWord_0 22 rfl) rfl ?_
          cases hf
          exact J_iret E hr rfl (jd dk_X4_valueWord_0 23 rfl) (Nat.le_refl _) (Nat.le_refl _) ⟨rfl, rfl⟩
      · replace hf := jif_f c20 hf
        refine J_iconst (v := 2) E (jd dk_X4_valueWord_0 16 rfl) rfl ?_
        cases hf
        exact J_iret E hr rfl (jd dk_X4_valueWord_0 17 rfl) (Nat.le_refl _) (Nat.le_refl _) ⟨rfl, rfl⟩
    · replace hf := jif_f c15 hf
      refine J_iconst (v := 1) E (jd dk_X4_valueWord_0 10 rfl) rfl ?_
      cases hf
      exact J_iret E hr rfl (jd dk_X4_valueWord_0 11 rfl) (Nat.le_refl _) (Nat.le_refl _) ⟨rfl, rfl⟩
  · replace hf := jif_f c10 hf
    refine J_iconst (v := 0) E (jd dk_X4_valueWord_0 4 rfl) rfl ?_
    cases hf
    exact J_iret E hr rfl (jd dk_X4_valueWord_0 5 rfl) (Nat.le_refl _) (Nat.le_refl _) ⟨rfl, rfl⟩
def f_X4_readPart_b107 (N : Nat) (rf : AH → Nat → Int32 → Option (Int32 × AH))  (h : AH) : Option (Int32 × AH) :=
  some (0, h)
def f_X4_readPart (N : Nat) (rf : AH → Nat → Int32 → Option (Int32 × AH)) (h : AH) (a0 : Nat) (a1 : Int32) : Option (Int32 × AH) :=
  (jgi 4 h a0 7).bind fun x1 =>
  if x1 = 2 then (jck 4 h a0).bind fun _ =>
  (f_X4_readNumber N h a0 0 9999 2).bind fun r42 =>
  if r42.1 = 0 then some (0, r42.2)
  else (jgr 4 r42.2 a0 4).bind fun x47 =>
  (jgi 4 r42.2 a0 10).bind fun x49 =>
  (jck 1 r42.2 x47).bind fun _ =>
  (f_X1_emit N r42.2 x47 0 x49).bind fun r51 =>
  some (1, r51)
  else (jgi 4 h a0 7).bind fun x4 =>
  if x4 = 1 then (jck 4 h a0).bind fun _ =>
  (f_X4_valueWord N h a0).bind fun r22 =>
  if r22.1 = ((-1)) then (jck 4 r22.2 a0).bind fun _ =>
  (f_X4_refuseToken N r22.2 a0 3).bind fun r37 =>
  if narrow .boolean (.int r37.1) = .int r37.1 then some (r37.1, r37.2) else none
  else (jgr 4 r22.2 a0 4).bind fun x27 =>
  (jck 1 r22.2 x27).bind fun _ =>
  (f_X1_emit N r22.2 x27 1 r22.1).bind fun r29 =>
  (jck 4 r29 a0).bind fun _ =>
  (f_X4_next N r29 a0).bind fun r33 =>
  some (1, r33)
  else (jck 4 h a0).bind fun _ =>
  (f_X4_readSign N h a0 40).bind fun r7 =>
  if r7.1 = 0 then f_X4_readPart_b107 N rf  r7.2
  else (jck 4 r7.2 a0).bind fun _ =>
  (rf r7.2 a0 (a1 + 1)).bind fun r12 =>
  if r12.1 = 0 then f_X4_readPart_b107 N rf  r12.2
  else (jck 4 r12.2 a0).bind fun _ =>
  (f_X4_readSign N r12.2 a0 41).bind fun r17 =>
  if r17.1 = 0 then f_X4_readPart_b107 N rf  r17.2
  else some (1, r17.2)
set_option maxRecDepth 100000 in
set_option maxHeartbeats 4000000 in
theorem lk_X4_readPart_b107 {G : JG} {X : JX} {dR : Nat} (E : jE G X (RX4, cX4_readPart, 3)) (hX : X.2.2.2.1 = jRm (dR + 10) 0 0) (hr : X.2.2.2.2.2.2.2.2.1.sig.returnType = (some .boolean)) (N : Nat) {rf : AH → Nat → Int32 → Option (Int32 × AH)} (hrec : ∀ (h : AH) (a : Nat) (n : Int32) (r : (Int32 × AH)), rf h a n = some r → jMet G X.2.1 yX4_readExpr cX4_readExpr 3 (some .boolean) dR 0 0 [.ref a, .int n] h (jpi r))  {h : AH}  {r : (Int32 × AH)} (hf : f_X4_readPart_b107 N rf  h = some r) : JW G X (RX4, cX4_readPart, 3) h [] [] 107 0 0 (jEnd G X (jpi r) 0 0) := by
  unfold f_X4_readPart_b107 at hf
  refine J_iconst (v := 0) E (jd dk_X4_readPart_1 9 rfl) rfl ?_
  cases hf
  exact J_iret E hr rfl (jd dk_X4_readPart_1 10 rfl) (Nat.le_refl _) (Nat.le_refl _) ⟨rfl, rfl⟩
set_option maxRecDepth 100000 in
set_option maxHeartbeats 4000000 in
theorem lk_X4_readPart {G : JG} {l : Launch} (hG : jG G) (htr : l.stackTraces = false) (N : Nat) {rf : AH → Nat → Int32 → Option (Int32 × AH)} {dR : Nat} (hrec : ∀ (h : AH) (a : Nat) (n : Int32) (r : (Int32 × AH)), rf h a n = some r → jMet G l yX4_readExpr cX4_readExpr 3 (some .boolean) dR 0 0 [.ref a, .int n] h (jpi r)) {h : AH} {a0 : Nat} {a1 : Int32} {r : (Int32 × AH)} (hf : f_X4_readPart N rf h a0 a1 = some r) : jMet G l yX4_readPart cX4_readPart 3 (some .boolean) (dR + 10) 0 0 [.ref a0, .int a1] h (jpi r) := by
  unfold f_X4_readPart at hf
  refine jMet_of hG htr (by decide) (Nat.le_of_ble_eq_true rfl) ?_
  intro X E hl9 hr hX _ _
  subst hl9
  show JW G X (RX4, cX4_readPart, 3) h [(0, .ref a0), (1, .int a1)] [] 0 0 0 (jEnd G X (jpi r) 0 0)
  refine J_aload_n E (jd dk_X4_readPart_0 0 rfl) rfl 0 rfl ?_
  obtain ⟨x1, e2, hf⟩ := jbind hf
  refine J_geti E (jd dk_X4_readPart_0 1 rfl) fl_RX4_38 e2 ?_
  refine J_iconst (v := 2) E (jd dk_X4_readPart_0 2 rfl) rfl ?_
  refine J_icmp_ne (tgt := 36) E (jd dk_X4_readPart_0 3 rfl) (by decide) (fun c3 => ?_) (fun c3 => ?_)
  · replace hf := jif_f c3 hf
    refine J_aload_n E (jd dk_X4_readPart_0 20 rfl) rfl 0 rfl ?_
    obtain ⟨x4, e5, hf⟩ := jbind hf
    refine J_geti E (jd dk_X4_readPart_0 21 rfl) fl_RX4_38 e5 ?_
    refine J_iconst (v := 1) E (jd dk_X4_readPart_0 22 rfl) rfl ?_
    refine J_icmp_ne (tgt := 75) E (jd dk_X4_readPart_0 23 rfl) (by decide) (fun c6 => ?_) (fun c6 => ?_)
    · replace hf := jif_f c6 hf
      refine J_aload_n E (jd dk_X4_readPart_0 43 rfl) rfl 0 rfl ?_
      refine J_bipush (v := 40) E (jd dk_X4_readPart_0 44 rfl) (by decide) ?_
      obtain ⟨u9, e10, hf⟩ := jbind hf
      obtain ⟨r7, e8, hf⟩ := jbind hf
      refine J_callV E (jd dk_X4_readPart_0 45 rfl) ml_RX4_142 cal_X4_readSign e10 rfl (lk_X4_readSign (jE_g E) (jE_tr E) N e8) rfl (Nat.le_of_ble_eq_true rfl) (jR_le hX (by omega) (by decide)) (jF0 hX) rfl ?_
      rintro _ _ ⟨rfl, rfl⟩
      refine J_if_eq (tgt := 107) E (jd dk_X4_readPart_0 46 rfl) (by decide) (fun c11 => ?_) (fun c11 => ?_)
      · replace hf := jif_t c11 hf
        refine J_sub [] rfl ?_
        exact lk_X4_readPart_b107 E hX hr N hrec hf
      · replace hf := jif_f c11 hf
        refine J_aload_n E (jd dk_X4_readPart_0 47 rfl) rfl 0 rfl ?_
        refine J_iload_n E (jd dk_X4_readPart_0 48 rfl) rfl 1 rfl ?_
        refine J_iconst (v := 1) E (jd dk_X4_readPart_0 49 rfl) rfl ?_
        refine J_iadd E (jd dk_X4_readPart_1 0 rfl) ?_
        obtain ⟨u14, e15, hf⟩ := jbind hf
        obtain ⟨r12, e13, hf⟩ := jbind hf
        refine J_callV E (jd dk_X4_readPart_1 1 rfl) ml_RX4_177 cal_X4_readExpr e15 rfl (hrec _ _ _ _ e13) rfl (Nat.le_of_ble_eq_true rfl) (jR_le hX (by omega) (by decide)) (jF0 hX) rfl ?_
        rintro _ _ ⟨rfl, rfl⟩
        refine J_if_eq (tgt := 107) E (jd dk_X4_readPart_1 2 rfl) (by decide) (fun c16 => ?_) (fun c16 => ?_)
        · replace hf := jif_t c16 hf
          refine J_sub [] rfl ?_
          exact lk_X4_readPart_b107 E hX hr N hrec hf
        · replace hf := jif_f c16 hf
          refine J_aload_n E (jd dk_X4_readPart_1 3 rfl) rfl 0 rfl ?_
          refine J_bipush (v := 41) E (jd dk_X4_readPart_1 4 rfl) (by decide) ?_
          obtain ⟨u19, e20, hf⟩ := jbind hf
          obtain ⟨r17, e18, hf⟩ := jbind hf
          refine J_callV E (jd dk_X4_readPart_1 5 rfl) ml_RX4_142 cal_X4_readSign e20 rfl (lk_X4_readSign (jE_g E) (jE_tr E) N e18) rfl (Nat.le_of_ble_eq_true rfl) (jR_le hX (by omega) (by decide)) (jF0 hX) rfl ?_
          rintro _ _ ⟨rfl, rfl⟩
          refine J_if_eq (tgt := 107) E (jd dk_X4_readPart_1 6 rfl) (by decide) (fun c21 => ?_) (fun c21 => ?_)
          · replace hf := jif_t c21 hf
            refine J_sub [] rfl ?_
            exact lk_X4_readPart_b107 E hX hr N hrec hf
          · replace hf := jif_f c21 hf
            refine J_iconst (v := 1) E (jd dk_X4_readPart_1 7 rfl) rfl ?_
            refine J_goto (tgt := 108) E (jd dk_X4_readPart_1 8 rfl) (by decide) ?_
            cases hf
            exact J_iret E hr rfl (jd dk_X4_readPart_1 10 rfl) (Nat.le_refl _) (Nat.le_refl _) ⟨rfl, rfl⟩
    · replace hf := jif_t c6 hf
      refine J_aload_n E (jd dk_X4_readPart_0 24 rfl) rfl 0 rfl ?_
      obtain ⟨u24, e25, hf⟩ := jbind hf
      obtain ⟨r22, e23, hf⟩ := jbind hf
      refine J_callV E (jd dk_X4_readPart_0 25 rfl) ml_RX4_222 cal_X4_valueWord e25 rfl (lk_X4_valueWord (jE_g E) (jE_tr E) N e23) rfl (Nat.le_of_ble_eq_true rfl) (jR_le hX (by omega) (by decide)) (jF0 hX) rfl ?_
      rintro _ _ ⟨rfl, rfl⟩
      refine J_istore_n (lv' := [(2, .int r22.1), (0, .ref a0), (1, .int a1)]) E (jd dk_X4_readPart_0 26 rfl) rfl (by decide) rfl ?_
      refine J_iload_n E (jd dk_X4_readPart_0 27 rfl) rfl 0 rfl ?_
      refine J_iconst (v := (-1)) E (jd dk_X4_readPart_0 28 rfl) rfl ?_
      refine J_icmp_ne (tgt := 60) E (jd dk_X4_readPart_0 29 rfl) (by decide) (fun c26 => ?_) (fun c26 => ?_)
      · replace hf := jif_f c26 hf
        refine J_aload_n E (jd dk_X4_readPart_0 34 rfl) rfl 1 rfl ?_
        obtain ⟨x27, e28, hf⟩ := jbind hf
        refine J_getr E (jd dk_X4_readPart_0 35 rfl) fl_RX4_28 e28 ?_
        refine J_iconst (v := 1) E (jd dk_X4_readPart_0 36 rfl) rfl ?_
        refine J_iload_n E (jd dk_X4_readPart_0 37 rfl) rfl 0 rfl ?_
        obtain ⟨u31, e32, hf⟩ := jbind hf
        obtain ⟨r29, e30, hf⟩ := jbind hf
        refine J_callV E (jd dk_X4_readPart_0 38 rfl) ml_RX4_202 cal_X1_emit e32 rfl (lk_X1_emit (jE_g E) (jE_tr E) N e30) rfl (Nat.le_of_ble_eq_true rfl) (jR_le hX (by omega) (by decide)) (jF0 hX) rfl ?_
        rintro _ _ ⟨rfl, rfl⟩
        refine J_aload_n E (jd dk_X4_readPart_0 39 rfl) rfl 1 rfl ?_
        obtain ⟨u35, e36, hf⟩ := jbind hf
        obtain ⟨r33, e34, hf⟩ := jbind hf
        refine J_callV E (jd dk_X4_readPart_0 40 rfl) ml_RX4_66 cal_X4_next e36 rfl (lk_X4_next (jE_g E) (jE_tr E) N e34) rfl (Nat.le_of_ble_eq_true rfl) (jR_le hX (by omega) (by decide)) (jF0 hX) rfl ?_
        rintro _ _ ⟨rfl, rfl⟩
        refine J_iconst (v := 1) E (jd dk_X4_readPart_0 41 rfl) rfl ?_
        cases hf
        exact J_iret E hr rfl (jd dk_X4_readPart_0 42 rfl) (Nat.le_refl _) (Nat.le_refl _) ⟨rfl, rfl⟩
      · replace hf := jif_t c26 hf
        refine J_aload_n E (jd dk_X4_readPart_0 30 rfl) rfl 1 rfl ?_
        refine J_iconst (v := 3) E (jd dk_X4_readPart_0 31 rfl) rfl ?_
        obtain ⟨u39, e40, hf⟩ := jbind hf
        obtain ⟨r37, e38, hf⟩ := jbind hf
        refine J_callV E (jd dk_X4_readPart_0 32 rfl) ml_RX4_130 cal_X4_refuseToken e40 rfl (lk_X4_refuseToken (jE_g E) (jE_tr E) N e38) rfl (Nat.le_of_ble_eq_true rfl) (jR_le hX (by omega) (by decide)) (jF0 hX) rfl ?_
        rintro _ _ ⟨rfl, rfl⟩
        obtain ⟨n41, hf⟩ := jnw hf
        cases hf
        exact J_iret E hr n41 (jd dk_X4_readPart_0 33 rfl) (Nat.le_refl _) (Nat.le_refl _) ⟨rfl, rfl⟩
  · replace hf := jif_t c3 hf
    refine J_aload_n E (jd dk_X4_readPart_0 4 rfl) rfl 0 rfl ?_
    refine J_iconst (v := 0) E (jd dk_X4_readPart_0 5 rfl) rfl ?_
    refine J_sipush (v := 9999) E (jd dk_X4_readPart_0 6 rfl) (by decide) ?_
    refine J_iconst (v := 2) E (jd dk_X4_readPart_0 7 rfl) rfl ?_
    obtain ⟨u44, e45, hf⟩ := jbind hf
    obtain ⟨r42, e43, hf⟩ := jbind hf
    refine J_callV E (jd dk_X4_readPart_0 8 rfl) ml_RX4_136 cal_X4_readNumber e45 rfl (lk_X4_readNumber (jE_g E) (jE_tr E) N e43) rfl (Nat.le_of_ble_eq_true rfl) (jR_le hX (by omega) (by decide)) (jF0 hX) rfl ?_
    rintro _ _ ⟨rfl, rfl⟩
    refine J_if_ne (tgt := 22) E (jd dk_X4_readPart_0 9 rfl) (by decide) (fun c46 => ?_) (fun c46 => ?_)
    · replace hf := jif_f c46 hf
      refine J_aload_n E (jd dk_X4_readPart_0 12 rfl) rfl 0 rfl ?_
      obtain ⟨x47, e48, hf⟩ := jbind hf
      refine J_getr E (jd dk_X4_readPart_0 13 rfl) fl_RX4_28 e48 ?_
      refine J_iconst (v := 0) E (jd dk_X4_readPart_0 14 rfl) rfl ?_
      refine J_aload_n E (jd dk_X4_readPart_0 15 rfl) rfl 0 rfl ?_
      obtain ⟨x49, e50, hf⟩ := jbind hf
      refine J_geti E (jd dk_X4_readPart_0 16 rfl) fl_RX4_47 e50 ?_
      obtain ⟨u53, e54, hf⟩ := jbind hf
      obtain ⟨r51, e52, hf⟩ := jbind hf
      refine J_callV E (jd dk_X4_readPart_0 17 rfl) ml_RX4_202 cal_X1_emit e54 rfl (lk_X1_emit (jE_g E) (jE_tr E) N e52) rfl (Nat.le_of_ble_eq_true rfl) (jR_le hX (by omega) (by decide)) (jF0 hX) rfl ?_
      rintro _ _ ⟨rfl, rfl⟩
      refine J_iconst (v := 1) E (jd dk_X4_readPart_0 18 rfl) rfl ?_
      cases hf
      exact J_iret E hr rfl (jd dk_X4_readPart_0 19 rfl) (Nat.le_refl _) (Nat.le_refl _) ⟨rfl, rfl⟩
    · replace hf := jif_t c46 hf
      refine J_iconst (v := 0) E (jd dk_X4_readPart_0 10 rfl) rfl ?_
      cases hf
      exact J_iret E hr rfl (jd dk_X4_readPart_0 11 rfl) (Nat.le_refl _) (Nat.le_refl _) ⟨rfl, rfl⟩
def f_X4_readProduct_b52 (N : Nat) (rf : AH → Nat → Int32 → Option (Int32 × AH)) (v0 : Nat) (v1 : Int32) (v2 : Int32) (w0 : Int32) (h : AH) : Option ((Int32 × AH) ⊕ ((AH) ⊕ (AH))) :=
  (jck 4 h v0).bind fun _ =>
  (f_X4_next N h v0).bind fun r1 =>
  (jck 4 r1 v0).bind fun _ =>
  (f_X4_readPart N rf r1 v0 v1).bind fun r5 =>
  if r5.1 = 0 then some (.inr (.inl r5.2))
  else (jgr 4 r5.2 v0 4).bind fun x10 =>
  (jck 1 r5.2 x10).bind fun _ =>
  (f_X1_emit N r5.2 x10 w0 0).bind fun r12 =>
  some (.inl ((v2 + 1, r12)))
def f_X4_readProduct_b38 (N : Nat) (rf : AH → Nat → Int32 → Option (Int32 × AH)) (v0 : Nat) (v1 : Int32) (v2 : Int32) (h : AH) : Option ((Int32 × AH) ⊕ ((AH) ⊕ (AH))) :=
  (jck 4 h v0).bind fun _ =>
  (f_X4_isSign N h v0 42).bind fun r16 =>
  if r16.1 = 0 then f_X4_readProduct_b52 N rf v0 v1 v2 5 r16.2
  else f_X4_readProduct_b52 N rf v0 v1 v2 4 r16.2
def f_X4_readProduct_l12 (N : Nat) (rf : AH → Nat → Int32 → Option (Int32 × AH)) (v0 : Nat) (v1 : Int32) (v2 : Int32) (h : AH) : Option ((Int32 × AH) ⊕ ((AH) ⊕ (AH))) :=
  (jgi 4 h v0 3).bind fun x21 =>
  if x21 < v2 then some (.inr (.inr h))
  else (jck 4 h v0).bind fun _ =>
  (f_X4_isSign N h v0 42).bind fun r24 =>
  if r24.1 = 0 then (jck 4 r24.2 v0).bind fun _ =>
  (f_X4_isSign N r24.2 v0 47).bind fun r29 =>
  if r29.1 = 0 then some (.inr (.inr r29.2))
  else f_X4_readProduct_b38 N rf v0 v1 v2 r29.2
  else f_X4_readProduct_b38 N rf v0 v1 v2 r24.2
def f_X4_readProduct_b12 (N : Nat) (rf : AH → Nat → Int32 → Option (Int32 × AH)) (v0 : Nat) (v1 : Int32) (v2 : Int32) (h : AH) : Option (Int32 × AH) :=
  (itr (fun s => f_X4_readProduct_l12 N rf v0 v1 s.1 s.2) N (v2, h)).bind (Sum.elim (fun e => some (0, e)) (fun e => some (1, e)))
def f_X4_readProduct (N : Nat) (rf : AH → Nat → Int32 → Option (Int32 × AH)) (h : AH) (a0 : Nat) (a1 : Int32) : Option (Int32 × AH) :=
  (jck 4 h a0).bind fun _ =>
  (f_X4_readPart N rf h a0 a1).bind fun r34 =>
  if r34.1 = 0 then some (0, r34.2)
  else f_X4_readProduct_b12 N rf a0 a1 0 r34.2
set_option maxRecDepth 100000 in
set_option maxHeartbeats 4000000 in
theorem lk_X4_readProduct_b52 {G : JG} {X : JX} {dR : Nat} (E : jE G X (RX4, cX4_readProduct, 4)) (hX : X.2.2.2.1 = jRm (dR + 11) 0 0) (hr : X.2.2.2.2.2.2.2.2.1.sig.returnType = (some .boolean)) (N : Nat) {rf : AH → Nat → Int32 → Option (Int32 × AH)} (hrec : ∀ (h : AH) (a : Nat) (n : Int32) (r : (Int32 × AH)), rf h a n = some r → jMet G X.2.1 yX4_readExpr cX4_readExpr 3 (some .boolean) dR 0 0 [.ref a, .int n] h (jpi r)) {Q : State → Prop} {v0 : Nat} {v1 : Int32} {v2 : Int32} {w0 : Int32} {h : AH}  {q : ((Int32 × AH) ⊕ ((AH) ⊕ (AH)))} (hf : f_X4_readProduct_b52 N rf v0 v1 v2 w0 h = some q) (kb : ∀ s' : Int32 × AH, q = .inl s' → JW G X (RX4, cX4_readProduct, 4) s'.2 [(0, .ref v0), (1, .int v1), (2, .int s'.1)] [] 12 0 0 Q) (ke0 : ∀ e : AH, q = .inr (.inl e) → JW G X (RX4, cX4_readProduct, 4) e [] [] 65 0 0 Q) (ke1 : ∀ e : AH, q = .inr (.inr e) → JW G X (RX4, cX4_readProduct, 4) e [] [] 82 0 0 Q) : JW G X (RX4, cX4_readProduct, 4) h [(0, .ref v0), (1, .int v1), (2, .int v2)] [.int w0] 52 0 0 Q := by
  unfold f_X4_readProduct_b52 at hf
  refine J_istore_n (lv' := [(3, .int w0), (0, .ref v0), (1, .int v1), (2, .int v2)]) E (jd dk_X4_readProduct_0 27 rfl) rfl (by decide) rfl ?_
  refine J_aload_n E (jd dk_X4_readProduct_0 28 rfl) rfl 1 rfl ?_
  obtain ⟨u3, e4, hf⟩ := jbind hf
  obtain ⟨r1, e2, hf⟩ := jbind hf
  refine J_callV E (jd dk_X4_readProduct_0 29 rfl) ml_RX4_66 cal_X4_next e4 rfl (lk_X4_next (jE_g E) (jE_tr E) N e2) rfl (Nat.le_of_ble_eq_true rfl) (jR_le hX (by omega) (by decide)) (jF0 hX) rfl ?_
  rintro _ _ ⟨rfl, rfl⟩
  refine J_aload_n E (jd dk_X4_readProduct_0 30 rfl) rfl 1 rfl ?_
  refine J_iload_n E (jd dk_X4_readProduct_0 31 rfl) rfl 2 rfl ?_
  obtain ⟨u7, e8, hf⟩ := jbind hf
  obtain ⟨r5, e6, hf⟩ := jbind hf
  refine J_callV E (jd dk_X4_readProduct_0 32 rfl) ml_RX4_219 cal_X4_readPart e8 rfl (lk_X4_readPart (jE_g E) (jE_tr E) N hrec e6) rfl (Nat.le_of_ble_eq_true rfl) (jR_le hX (by omega) (by decide)) (jF0 hX) rfl ?_
  rintro _ _ ⟨rfl, rfl⟩
  refine J_if_ne (tgt := 67) E (jd dk_X4_readProduct_0 33 rfl) (by decide) (fun c9 => ?_) (fun c9 => ?_)
  · replace hf := jif_f c9 hf
    refine J_aload_n E (jd dk_X4_readProduct_0 36 rfl) rfl 1 rfl ?_
    obtain ⟨x10, e11, hf⟩ := jbind hf
    refine J_getr E (jd dk_X4_readProduct_0 37 rfl) fl_RX4_28 e11 ?_
    refine J_iload_n E (jd dk_X4_readProduct_0 38 rfl) rfl 0 rfl ?_
    refine J_iconst (v := 0) E (jd dk_X4_readProduct_0 39 rfl) rfl ?_
    obtain ⟨u14, e15, hf⟩ := jbind hf
    obtain ⟨r12, e13, hf⟩ := jbind hf
    refine J_callV E (jd dk_X4_readProduct_0 40 rfl) ml_RX4_202 cal_X1_emit e15 rfl (lk_X1_emit (jE_g E) (jE_tr E) N e13) rfl (Nat.le_of_ble_eq_true rfl) (jR_le hX (by omega) (by decide)) (jF0 hX) rfl ?_
    rintro _ _ ⟨rfl, rfl⟩
    refine J_iinc (v := v2 + 1) (lv' := [(2, .int (v2 + 1)), (3, .int w0), (0, .ref v0), (1, .int v1)]) E (jd dk_X4_readProduct_0 41 rfl) 3 rfl rfl (by decide) rfl ?_
    refine J_goto (tgt := 12) E (jd dk_X4_readProduct_0 42 rfl) (by decide) ?_
    refine J_sub [2, 3, 0] rfl ?_
    exact kb _ (Option.some.inj hf).symm
  · replace hf := jif_t c9 hf
    refine J_sub [] rfl ?_
    exact ke0 _ (Option.some.inj hf).symm
set_option maxRecDepth 100000 in
set_option maxHeartbeats 4000000 in
theorem lk_X4_readProduct_b38 {G : JG} {X : JX} {dR : Nat} (E : jE G X (RX4, cX4_readProduct, 4)) (hX : X.2.2.2.1 = jRm (dR + 11) 0 0) (hr : X.2.2.2.2.2.2.2.2.1.sig.returnType = (some .boolean)) (N : Nat) {rf : AH → Nat → Int32 → Option (Int32 × AH)} (hrec : ∀ (h : AH) (a : Nat) (n : Int32) (r : (Int32 × AH)), rf h a n = some r → jMet G X.2.1 yX4_readExpr cX4_readExpr 3 (some .boolean) dR 0 0 [.ref a, .int n] h (jpi r)) {Q : State → Prop} {v0 : Nat} {v1 : Int32} {v2 : Int32} {h : AH}  {q : ((Int32 × AH) ⊕ ((AH) ⊕ (AH)))} (hf : f_X4_readProduct_b38 N rf v0 v1 v2 h = some q) (kb : ∀ s' : Int32 × AH, q = .inl s' → JW G X (RX4, cX4_readProduct, 4) s'.2 [(0, .ref v0), (1, .int v1), (2, .int s'.1)] [] 12 0 0 Q) (ke0 : ∀ e : AH, q = .inr (.inl e) → JW G X (RX4, cX4_readProduct, 4) e [] [] 65 0 0 Q) (ke1 : ∀ e : AH, q = .inr (.inr e) → JW G X (RX4, cX4_readProduct, 4) e [] [] 82 0 0 Q) : JW G X (RX4, cX4_readProduct, 4) h [(0, .ref v0), (1, .int v1), (2, .int v2)] [] 38 0 0 Q := by
  unfold f_X4_readProduct_b38 at hf
  refine J_aload_n E (jd dk_X4_readProduct_0 20 rfl) rfl 0 rfl ?_
  refine J_bipush (v := 42) E (jd dk_X4_readProduct_0 21 rfl) (by decide) ?_
  obtain ⟨u18, e19, hf⟩ := jbind hf
  obtain ⟨r16, e17, hf⟩ := jbind hf
  refine J_callV E (jd dk_X4_readProduct_0 22 rfl) ml_RX4_192 cal_X4_isSign e19 rfl (lk_X4_isSign (jE_g E) (jE_tr E) N e17) rfl (Nat.le_of_ble_eq_true rfl) (jR_le hX (by omega) (by decide)) (jF0 hX) rfl ?_
  rintro _ _ ⟨rfl, rfl⟩
  refine J_if_eq (tgt := 51) E (jd dk_X4_readProduct_0 23 rfl) (by decide) (fun c20 => ?_) (fun c20 => ?_)
  · replace hf := jif_t c20 hf
    refine J_iconst (v := 5) E (jd dk_X4_readProduct_0 26 rfl) rfl ?_
    exact lk_X4_readProduct_b52 E hX hr N hrec hf kb ke0 ke1
  · replace hf := jif_f c20 hf
    refine J_iconst (v := 4) E (jd dk_X4_readProduct_0 24 rfl) rfl ?_
    refine J_goto (tgt := 52) E (jd dk_X4_readProduct_0 25 rfl) (by decide) ?_
    exact lk_X4_readProduct_b52 E hX hr N hrec hf kb ke0 ke1
set_option maxRecDepth 100000 in
set_option maxHeartbeats 4000000 in
theorem lk_X4_readProduct_l12 {G : JG} {X : JX} {dR : Nat} (E : jE G X (RX4, cX4_readProduct, 4)) (hX : X.2.2.2.1 = jRm (dR + 11) 0 0) (hr : X.2.2.2.2.2.2.2.2.1.sig.returnType = (some .boolean)) (N : Nat) {rf : AH → Nat → Int32 → Option (Int32 × AH)} (hrec : ∀ (h : AH) (a : Nat) (n : Int32) (r : (Int32 × AH)), rf h a n = some r → jMet G X.2.1 yX4_readExpr cX4_readExpr 3 (some .boolean) dR 0 0 [.ref a, .int n] h (jpi r)) {Q : State → Prop} {v0 : Nat} {v1 : Int32} {v2 : Int32}  {h : AH} {q : ((Int32 × AH) ⊕ ((AH) ⊕ (AH)))} (hf : f_X4_readProduct_l12 N rf v0 v1 v2 h = some q) (kb : ∀ s' : Int32 × AH, q = .inl s' → JW G X (RX4, cX4_readProduct, 4) s'.2 [(0, .ref v0), (1, .int v1), (2, .int s'.1)] [] 12 0 0 Q) (ke0 : ∀ e : AH, q = .inr (.inl e) → JW G X (RX4, cX4_readProduct, 4) e [] [] 65 0 0 Q) (ke1 : ∀ e : AH, q = .inr (.inr e) → JW G X (RX4, cX4_readProduct, 4) e [] [] 82 0 0 Q) : JW G X (RX4, cX4_readProduct, 4) h [(0, .ref v0), (1, .int v1), (2, .int v2)] [] 12 0 0 Q := by
  unfold f_X4_readProduct_l12 at hf
  refine J_iload_n E (jd dk_X4_readProduct_0 8 rfl) rfl 2 rfl ?_
  refine J_aload_n E (jd dk_X4_readProduct_0 9 rfl) rfl 0 rfl ?_
  obtain ⟨x21, e22, hf⟩ := jbind hf
  refine J_geti E (jd dk_X4_readProduct_0 10 rfl) fl_RX4_22 e22 ?_
  refine J_icmp_gt (tgt := 82) E (jd dk_X4_readProduct_0 11 rfl) (by decide) (fun c23 => ?_) (fun c23 => ?_)
  · replace hf := jif_t c23 hf
    refine J_sub [] rfl ?_
    exact ke1 _ (Option.some.inj hf).symm
  · replace hf := jif_f c23 hf
    refine J_aload_n E (jd dk_X4_readProduct_0 12 rfl) rfl 0 rfl ?_
    refine J_bipush (v := 42) E (jd dk_X4_readProduct_0 13 rfl) (by decide) ?_
    obtain ⟨u26, e27, hf⟩ := jbind hf
    obtain ⟨r24, e25, hf⟩ := jbind hf
    refine J_callV E (jd dk_X4_readProduct_0 14 rfl) ml_RX4_192 cal_X4_isSign e27 rfl (lk_X4_isSign (jE_g E) (jE_tr E) N e25) rfl (Nat.le_of_ble_eq_true rfl) (jR_le hX (by omega) (by decide)) (jF0 hX) rfl ?_
    rintro _ _ ⟨rfl, rfl⟩
    refine J_if_ne (tgt := 38) E (jd dk_X4_readProduct_0 15 rfl) (by decide) (fun c28 => ?_) (fun c28 => ?_)
    · replace hf := jif_f c28 hf
      exact lk_X4_readProduct_b38 E hX hr N hrec hf kb ke0 ke1
    · replace hf := jif_t c28 hf
      refine J_aload_n E (jd dk_X4_readProduct_0 16 rfl) rfl 0 rfl ?_
      refine J_bipush (v := 47) E (jd dk_X4_readProduct_0 17 rfl) (by decide) ?_
      obtain ⟨u31, e32, hf⟩ := jbind hf
      obtain ⟨r29, e30, hf⟩ := jbind hf
      refine J_callV E (jd dk_X4_readProduct_0 18 rfl) ml_RX4_192 cal_X4_isSign e32 rfl (lk_X4_isSign (jE_g E) (jE_tr E) N e30) rfl (Nat.le_of_ble_eq_true rfl) (jR_le hX (by omega) (by decide)) (jF0 hX) rfl ?_
      rintro _ _ ⟨rfl, rfl⟩
      refine J_if_eq (tgt := 82) E (jd dk_X4_readProduct_0 19 rfl) (by decide) (fun c33 => ?_) (fun c33 => ?_)
      · replace hf := jif_t c33 hf
        refine J_sub [] rfl ?_
        exact ke1 _ (Option.some.inj hf).symm
      · replace hf := jif_f c33 hf
        exact lk_X4_readProduct_b38 E hX hr N hrec hf kb ke0 ke1
set_option maxRecDepth 100000 in
set_option maxHeartbeats 4000000 in
theorem lk_X4_readProduct_b12 {G : JG} {X : JX} {dR : Nat} (E : jE G X (RX4, cX4_readProduct, 4)) (hX : X.2.2.2.1 = jRm (dR + 11) 0 0) (hr : X.2.2.2.2.2.2.2.2.1.sig.returnType = (some .boolean)) (N : Nat) {rf : AH → Nat → Int32 → Option (Int32 × AH)} (hrec : ∀ (h : AH) (a : Nat) (n : Int32) (r : (Int32 × AH)), rf h a n = some r → jMet G X.2.1 yX4_readExpr cX4_readExpr 3 (some .boolean) dR 0 0 [.ref a, .int n] h (jpi r)) {v0 : Nat} {v1 : Int32} {v2 : Int32} {h : AH}  {r : (Int32 × AH)} (hf : f_X4_readProduct_b12 N rf v0 v1 v2 h = some r) : JW G X (RX4, cX4_readProduct, 4) h [(0, .ref v0), (1, .int v1), (2, .int v2)] [] 12 0 0 (jEnd G X (jpi r) 0 0) := by
  unfold f_X4_readProduct_b12 at hf
  obtain ⟨q1, h1, hf⟩ := jbind hf
  refine jloop (P := fun s => JW G X (RX4, cX4_readProduct, 4) s.2 [(0, .ref v0), (1, .int v1), (2, .int s.1)] [] 12 0 0 (jEnd G X (jpi r) 0 0)) (Ex := Sum.elim (fun (e : AH) => JW G X (RX4, cX4_readProduct, 4) e [] [] 65 0 0 (jEnd G X (jpi r) 0 0)) (fun (e : AH) => JW G X (RX4, cX4_readProduct, 4) e [] [] 82 0 0 (jEnd G X (jpi r) 0 0))) (fun s q hs hb hx => lk_X4_readProduct_l12 E hX hr N hrec hs (fun s' hs => hb s' hs) (fun e he => hx _ he) (fun e he => hx _ he)) N _ q1 h1 ?_
  rcases q1 with e | e
  · refine J_iconst (v := 0) E (jd dk_X4_readProduct_0 34 rfl) rfl ?_
    cases hf
    exact J_iret E hr rfl (jd dk_X4_readProduct_0 35 rfl) (Nat.le_refl _) (Nat.le_refl _) ⟨rfl, rfl⟩
  · refine J_iconst (v := 1) E (jd dk_X4_readProduct_0 43 rfl) rfl ?_
    cases hf
    exact J_iret E hr rfl (jd dk_X4_readProduct_0 44 rfl) (Nat.le_refl _) (Nat.le_refl _) ⟨rfl, rfl⟩
set_option maxRecDepth 100000 in
set_option maxHeartbeats 4000000 in
theorem lk_X4_readProduct {G : JG} {l : Launch} (hG : jG G) (htr : l.stackTraces = false) (N : Nat) {rf : AH → Nat → Int32 → Option (Int32 × AH)} {dR : Nat} (hrec : ∀ (h : AH) (a : Nat) (n : Int32) (r : (Int32 × AH)), rf h a n = some r → jMet G l yX4_readExpr cX4_readExpr 3 (some .boolean) dR 0 0 [.ref a, .int n] h (jpi r)) {h : AH} {a0 : Nat} {a1 : Int32} {r : (Int32 × AH)} (hf : f_X4_readProduct N rf h a0 a1 = some r) : jMet G l yX4_readProduct cX4_readProduct 4 (some .boolean) (dR + 11) 0 0 [.ref a0, .int a1] h (jpi r) := by
  unfold f_X4_readProduct at hf
  refine jMet_of hG htr (by decide) (Nat.le_of_ble_eq_true rfl) ?_
  intro X E hl9 hr hX _ _
  subst hl9
  show JW G X (RX4, cX4_readProduct, 4) h [(0, .ref a0), (1, .int a1)] [] 0 0 0 (jEnd G X (jpi r) 0 0)
  refine J_aload_n E (jd dk_X4_readProduct_0 0 rfl) rfl 0 rfl ?_
  refine J_iload_n E (jd dk_X4_readProduct_0 1 rfl) rfl 1 rfl ?_
  obtain ⟨u36, e37, hf⟩ := jbind hf
  obtain ⟨r34, e35, hf⟩ := jbind hf
  refine J_callV E (jd dk_X4_readProduct_0 2 rfl) ml_RX4_219 cal_X4_readPart e37 rfl (lk_X4_readPart (jE_g E) (jE_tr E) N hrec e35) rfl (Nat.le_of_ble_eq_true rfl) (jR_le hX (by omega) (by decide)) (jF0 hX) rfl ?_
  rintro _ _ ⟨rfl, rfl⟩
  refine J_if_ne (tgt := 10) E (jd dk_X4_readProduct_0 3 rfl) (by decide) (fun c38 => ?_) (fun c38 => ?_)
  · replace hf := jif_f c38 hf
    refine J_iconst (v := 0) E (jd dk_X4_readProduct_0 6 rfl) rfl ?_
    refine J_istore_n (lv' := [(2, .int 0), (0, .ref a0), (1, .int a1)]) E (jd dk_X4_readProduct_0 7 rfl) rfl (by decide) rfl ?_
    refine J_sub [1, 2, 0] rfl ?_
    exact lk_X4_readProduct_b12 E hX hr N hrec hf
  · replace hf := jif_t c38 hf
    refine J_iconst (v := 0) E (jd dk_X4_readProduct_0 4 rfl) rfl ?_
    cases hf
    exact J_iret E hr rfl (jd dk_X4_readProduct_0 5 rfl) (Nat.le_refl _) (Nat.le_refl _) ⟨rfl, rfl⟩
def f_X4_readSum_b52 (N : Nat) (rf : AH → Nat → Int32 → Option (Int32 × AH)) (v0 : Nat) (v1 : Int32) (v2 : Int32) (w0 : Int32) (h : AH) : Option ((Int32 × AH) ⊕ ((AH) ⊕ (AH))) :=
  (jck 4 h v0).bind fun _ =>
  (f_X4_next N h v0).bind fun r1 =>
  (jck 4 r1 v0).bind fun _ =>
  (f_X4_readProduct N rf r1 v0 v1).bind fun r5 =>
  if r5.1 = 0 then some (.inr (.inl r5.2))
  else (jgr 4 r5.2 v0 4).bind fun x10 =>
  (jck 1 r5.2 x10).bind fun _ =>
  (f_X1_emit N r5.2 x10 w0 0).bind fun r12 =>
  some (.inl ((v2 + 1, r12)))
def f_X4_readSum_b38 (N : Nat) (rf : AH → Nat → Int32 → Option (Int32 × AH)) (v0 : Nat) (v1 : Int32) (v2 : Int32) (h : AH) : Option ((Int32 × AH) ⊕ ((AH) ⊕ (AH))) :=
  (jck 4 h v0).bind fun _ =>
  (f_X4_isSign N h v0 43).bind fun r16 =>
  if r16.1 = 0 then f_X4_readSum_b52 N rf v0 v1 v2 3 r16.2
  else f_X4_readSum_b52 N rf v0 v1 v2 2 r16.2
def f_X4_readSum_l12 (N : Nat) (rf : AH → Nat → Int32 → Option (Int32 × AH)) (v0 : Nat) (v1 : Int32) (v2 : Int32) (h : AH) : Option ((Int32 × AH) ⊕ ((AH) ⊕ (AH))) :=
  (jgi 4 h v0 3).bind fun x21 =>
  if x21 < v2 then some (.inr (.inr h))
  else (jck 4 h v0).bind fun _ =>
  (f_X4_isSign N h v0 43).bind fun r24 =>
  if r24.1 = 0 then (jck 4 r24.2 v0).bind fun _ =>
  (f_X4_isSign N r24.2 v0 45).bind fun r29 =>
  if r29.1 = 0 then some (.inr (.inr r29.2))
  else f_X4_readSum_b38 N rf v0 v1 v2 r29.2
  else f_X4_readSum_b38 N rf v0 v1 v2 r24.2
def f_X4_readSum_b12 (N : Nat) (rf : AH → Nat → Int32 → Option (Int32 × AH)) (v0 : Nat) (v1 : Int32) (v2 : Int32) (h : AH) : Option (Int32 × AH) :=
  (itr (fun s => f_X4_readSum_l12 N rf v0 v1 s.1 s.2) N (v2, h)).bind (Sum.elim (fun e => some (0, e)) (fun e => some (1, e)))
def f_X4_readSum (N : Nat) (rf : AH → Nat → Int32 → Option (Int32 × AH)) (h : AH) (a0 : Nat) (a1 : Int32) : Option (Int32 × AH) :=
  (jck 4 h a0).bind fun _ =>
  (f_X4_readProduct N rf h a0 a1).bind fun r34 =>
  if r34.1 = 0 then some (0, r34.2)
  else f_X4_readSum_b12 N rf a0 a1 0 r34.2
set_option maxRecDepth 100000 in
set_option maxHeartbeats 4000000 in
theorem lk_X4_readSum_b52 {G : JG} {X : JX} {dR : Nat} (E : jE G X (RX4, cX4_readSum, 4)) (hX : X.2.2.2.1 = jRm (dR + 12) 0 0) (hr : X.2.2.2.2.2.2.2.2.1.sig.returnType = (some .boolean)) (N : Nat) {rf : AH → Nat → Int32 → Option (Int32 × AH)} (hrec : ∀ (h : AH) (a : Nat) (n : Int32) (r : (Int32 × AH)), rf h a n = some r → jMet G X.2.1 yX4_readExpr cX4_readExpr 3 (some .boolean) dR 0 0 [.ref a, .int n] h (jpi r)) {Q : State → Prop} {v0 : Nat} {v1 : Int32} {v2 : Int32} {w0 : Int32} {h : AH}  {q : ((Int32 × AH) ⊕ ((AH) ⊕ (AH)))} (hf : f_X4_readSum_b52 N rf v0 v1 v2 w0 h = some q) (kb : ∀ s' : Int32 × AH, q = .inl s' → JW G X (RX4, cX4_readSum, 4) s'.2 [(0, .ref v0), (1, .int v1), (2, .int s'.1)] [] 12 0 0 Q) (ke0 : ∀ e : AH, q = .inr (.inl e) → JW G X (RX4, cX4_readSum, 4) e [] [] 65 0 0 Q) (ke1 : ∀ e : AH, q = .inr (.inr e) → JW G X (RX4, cX4_readSum, 4) e [] [] 82 0 0 Q) : JW G X (RX4, cX4_readSum, 4) h [(0, .ref v0), (1, .int v1), (2, .int v2)] [.int w0] 52 0 0 Q := by
  unfold f_X4_readSum_b52 at hf
  refine J_istore_n (lv' := [(3, .int w0), (0, .ref v0), (1, .int v1), (2, .int v2)]) E (jd dk_X4_readSum_0 27 rfl) rfl (by decide) rfl ?_
  refine J_aload_n E (jd dk_X4_readSum_0 28 rfl) rfl 1 rfl ?_
  obtain ⟨u3, e4, hf⟩ := jbind hf
  obtain ⟨r1, e2, hf⟩ := jbind hf
  refine J_callV E (jd dk_X4_readSum_0 29 rfl) ml_RX4_66 cal_X4_next e4 rfl (lk_X4_next (jE_g E) (jE_tr E) N e2) rfl (Nat.le_of_ble_eq_true rfl) (jR_le hX (by omega) (by decide)) (jF0 hX) rfl ?_
  rintro _ _ ⟨rfl, rfl⟩
  refine J_aload_n E (jd dk_X4_readSum_0 30 rfl) rfl 1 rfl ?_
  refine J_iload_n E (jd dk_X4_readSum_0 31 rfl) rfl 2 rfl ?_
  obtain ⟨u7, e8, hf⟩ := jbind hf
  obtain ⟨r5, e6, hf⟩ := jbind hf
  refine J_callV E (jd dk_X4_readSum_0 32 rfl) ml_RX4_216 cal_X4_readProduct e8 rfl (lk_X4_readProduct (jE_g E) (jE_tr E) N hrec e6) rfl (Nat.le_of_ble_eq_true rfl) (jR_le hX (by omega) (by decide)) (jF0 hX) rfl ?_
  rintro _ _ ⟨rfl, rfl⟩
  refine J_if_ne (tgt := 67) E (jd dk_X4_readSum_0 33 rfl) (by decide) (fun c9 => ?_) (fun c9 => ?_)
  · replace hf := jif_f c9 hf
    refine J_aload_n E (jd dk_X4_readSum_0 36 rfl) rfl 1 rfl ?_
    obtain ⟨x10, e11, hf⟩ := jbind hf
    refine J_getr E (jd dk_X4_readSum_0 37 rfl) fl_RX4_28 e11 ?_
    refine J_iload_n E (jd dk_X4_readSum_0 38 rfl) rfl 0 rfl ?_
    refine J_iconst (v := 0) E (jd dk_X4_readSum_0 39 rfl) rfl ?_
    obtain ⟨u14, e15, hf⟩ := jbind hf
    obtain ⟨r12, e13, hf⟩ := jbind hf
    refine J_callV E (jd dk_X4_readSum_0 40 rfl) ml_RX4_202 cal_X1_emit e15 rfl (lk_X1_emit (jE_g E) (jE_tr E) N e13) rfl (Nat.le_of_ble_eq_true rfl) (jR_le hX (by omega) (by decide)) (jF0 hX) rfl ?_
    rintro _ _ ⟨rfl, rfl⟩
    refine J_iinc (v := v2 + 1) (lv' := [(2, .int (v2 + 1)), (3, .int w0), (0, .ref v0), (1, .int v1)]) E (jd dk_X4_readSum_0 41 rfl) 3 rfl rfl (by decide) rfl ?_
    refine J_goto (tgt := 12) E (jd dk_X4_readSum_0 42 rfl) (by decide) ?_
    refine J_sub [2, 3, 0] rfl ?_
    exact kb _ (Option.some.inj hf).symm
  · replace hf := jif_t c9 hf
    refine J_sub [] rfl ?_
    exact ke0 _ (Option.some.inj hf).symm
set_option maxRecDepth 100000 in
set_option maxHeartbeats 4000000 in
theorem lk_X4_readSum_b38 {G : JG} {X : JX} {dR : Nat} (E : jE G X (RX4, cX4_readSum, 4)) (hX : X.2.2.2.1 = jRm (dR + 12) 0 0) (hr : X.2.2.2.2.2.2.2.2.1.sig.returnType = (some .boolean)) (N : Nat) {rf : AH → Nat → Int32 → Option (Int32 × AH)} (hrec : ∀ (h : AH) (a : Nat) (n : Int32) (r : (Int32 × AH)), rf h a n = some r → jMet G X.2.1 yX4_readExpr cX4_readExpr 3 (some .boolean) dR 0 0 [.ref a, .int n] h (jpi r)) {Q : State → Prop} {v0 : Nat} {v1 : Int32} {v2 : Int32} {h : AH}  {q : ((Int32 × AH) ⊕ ((AH) ⊕ (AH)))} (hf : f_X4_readSum_b38 N rf v0 v1 v2 h = some q) (kb : ∀ s' : Int32 × AH, q = .inl s' → JW G X (RX4, cX4_readSum, 4) s'.2 [(0, .ref v0), (1, .int v1), (2, .int s'.1)] [] 12 0 0 Q) (ke0 : ∀ e : AH, q = .inr (.inl e) → JW G X (RX4, cX4_readSum, 4) e [] [] 65 0 0 Q) (ke1 : ∀ e : AH, q = .inr (.inr e) → JW G X (RX4, cX4_readSum, 4) e [] [] 82 0 0 Q) : JW G X (RX4, cX4_readSum, 4) h [(0, .ref v0), (1, .int v1), (2, .int v2)] [] 38 0 0 Q := by
  unfold f_X4_readSum_b38 at hf
  refine J_aload_n E (jd dk_X4_readSum_0 20 rfl) rfl 0 rfl ?_
  refine J_bipush (v := 43) E (jd dk_X4_readSum_0 21 rfl) (by decide) ?_
  obtain ⟨u18, e19, hf⟩ := jbind hf
  obtain ⟨r16, e17, hf⟩ := jbind hf
  refine J_callV E (jd dk_X4_readSum_0 22 rfl) ml_RX4_192 cal_X4_isSign e19 rfl (lk_X4_isSign (jE_g E) (jE_tr E) N e17) rfl (Nat.le_of_ble_eq_true rfl) (jR_le hX (by omega) (by decide)) (jF0 hX) rfl ?_
  rintro _ _ ⟨rfl, rfl⟩
  refine J_if_eq (tgt := 51) E (jd dk_X4_readSum_0 23 rfl) (by decide) (fun c20 => ?_) (fun c20 => ?_)
  · replace hf := jif_t c20 hf
    refine J_iconst (v := 3) E (jd dk_X4_readSum_0 26 rfl) rfl ?_
    exact lk_X4_readSum_b52 E hX hr N hrec hf kb ke0 ke1
  · replace hf := jif_f c20 hf
    refine J_iconst (v := 2) E (jd dk_X4_readSum_0 24 rfl) rfl ?_
    refine J_goto (tgt := 52) E (jd dk_X4_readSum_0 25 rfl) (by decide) ?_
    exact lk_X4_readSum_b52 E hX hr N hrec hf kb ke0 ke1
set_option maxRecDepth 100000 in
set_option maxHeartbeats 4000000 in
theorem lk_X4_readSum_l12 {G : JG} {X : JX} {dR : Nat} (E : jE G X (RX4, cX4_readSum, 4)) (hX : X.2.2.2.1 = jRm (dR + 12) 0 0) (hr : X.2.2.2.2.2.2.2.2.1.sig.returnType = (some .boolean)) (N : Nat) {rf : AH → Nat → Int32 → Option (Int32 × AH)} (hrec : ∀ (h : AH) (a : Nat) (n : Int32) (r : (Int32 × AH)), rf h a n = some r → jMet G X.2.1 yX4_readExpr cX4_readExpr 3 (some .boolean) dR 0 0 [.ref a, .int n] h (jpi r)) {Q : State → Prop} {v0 : Nat} {v1 : Int32} {v2 : Int32}  {h : AH} {q : ((Int32 × AH) ⊕ ((AH) ⊕ (AH)))} (hf : f_X4_readSum_l12 N rf v0 v1 v2 h = some q) (kb : ∀ s' : Int32 × AH, q = .inl s' → JW G X (RX4, cX4_readSum, 4) s'.2 [(0, .ref v0), (1, .int v1), (2, .int s'.1)] [] 12 0 0 Q) (ke0 : ∀ e : AH, q = .inr (.inl e) → JW G X (RX4, cX4_readSum, 4) e [] [] 65 0 0 Q) (ke1 : ∀ e : AH, q = .inr (.inr e) → JW G X (RX4, cX4_readSum, 4) e [] [] 82 0 0 Q) : JW G X (RX4, cX4_readSum, 4) h [(0, .ref v0), (1, .int v1), (2, .int v2)] [] 12 0 0 Q := by
  unfold f_X4_readSum_l12 at hf
  refine J_iload_n E (jd dk_X4_readSum_0 8 rfl) rfl 2 rfl ?_
  refine J_aload_n E (jd dk_X4_readSum_0 9 rfl) rfl 0 rfl ?_
  obtain ⟨x21, e22, hf⟩ := jbind hf
  refine J_geti E (jd dk_X4_readSum_0 10 rfl) fl_RX4_22 e22 ?_
  refine J_icmp_gt (tgt := 82) E (jd dk_X4_readSum_0 11 rfl) (by decide) (fun c23 => ?_) (fun c23 => ?_)
  · replace hf := jif_t c23 hf
    refine J_sub [] rfl ?_
    exact ke1 _ (Option.some.inj hf).symm
  · replace hf := jif_f c23 hf
    refine J_aload_n E (jd dk_X4_readSum_0 12 rfl) rfl 0 rfl ?_
    refine J_bipush (v := 43) E (jd dk_X4_readSum_0 13 rfl) (by decide) ?_
    obtain ⟨u26, e27, hf⟩ := jbind hf
    obtain ⟨r24, e25, hf⟩ := jbind hf
    refine J_callV E (jd dk_X4_readSum_0 14 rfl) ml_RX4_192 cal_X4_isSign e27 rfl (lk_X4_isSign (jE_g E) (jE_tr E) N e25) rfl (Nat.le_of_ble_eq_true rfl) (jR_le hX (by omega) (by decide)) (jF0 hX) rfl ?_
    rintro _ _ ⟨rfl, rfl⟩
    refine J_if_ne (tgt := 38) E (jd dk_X4_readSum_0 15 rfl) (by decide) (fun c28 => ?_) (fun c28 => ?_)
    · replace hf := jif_f c28 hf
      exact lk_X4_readSum_b38 E hX hr N hrec hf kb ke0 ke1
    · replace hf := jif_t c28 hf
      refine J_aload_n E (jd dk_X4_readSum_0 16 rfl) rfl 0 rfl ?_
      refine J_bipush (v := 45) E (jd dk_X4_readSum_0 17 rfl) (by decide) ?_
      obtain ⟨u31, e32, hf⟩ := jbind hf
      obtain ⟨r29, e30, hf⟩ := jbind hf
      refine J_callV E (jd dk_X4_readSum_0 18 rfl) ml_RX4_192 cal_X4_isSign e32 rfl (lk_X4_isSign (jE_g E) (jE_tr E) N e30) rfl (Nat.le_of_ble_eq_true rfl) (jR_le hX (by omega) (by decide)) (jF0 hX) rfl ?_
      rintro _ _ ⟨rfl, rfl⟩
      refine J_if_eq (tgt := 82) E (jd dk_X4_readSum_0 19 rfl) (by decide) (fun c33 => ?_) (fun c33 => ?_)
      · replace hf := jif_t c33 hf
        refine J_sub [] rfl ?_
        exact ke1 _ (Option.some.inj hf).symm
      · replace hf := jif_f c33 hf
        exact lk_X4_readSum_b38 E hX hr N hrec hf kb ke0 ke1
set_option maxRecDepth 100000 in
set_option maxHeartbeats 4000000 in
theorem lk_X4_readSum_b12 {G : JG} {X : JX} {dR : Nat} (E : jE G X (RX4, cX4_readSum, 4)) (hX : X.2.2.2.1 = jRm (dR + 12) 0 0) (hr : X.2.2.2.2.2.2.2.2.1.sig.returnType = (some .boolean)) (N : Nat) {rf : AH → Nat → Int32 → Option (Int32 × AH)} (hrec : ∀ (h : AH) (a : Nat) (n : Int32) (r : (Int32 × AH)), rf h a n = some r → jMet G X.2.1 yX4_readExpr cX4_readExpr 3 (some .boolean) dR 0 0 [.ref a, .int n] h (jpi r)) {v0 : Nat} {v1 : Int32} {v2 : Int32} {h : AH}  {r : (Int32 × AH)} (hf : f_X4_readSum_b12 N rf v0 v1 v2 h = some r) : JW G X (RX4, cX4_readSum, 4) h [(0, .ref v0), (1, .int v1), (2, .int v2)] [] 12 0 0 (jEnd G X (jpi r) 0 0) := by
  unfold f_X4_readSum_b12 at hf
  obtain ⟨q1, h1, hf⟩ := jbind hf
  refine jloop (P := fun s => JW G X (RX4, cX4_readSum, 4) s.2 [(0, .ref v0), (1, .int v1), (2, .int s.1)] [] 12 0 0 (jEnd G X (jpi r) 0 0)) (Ex := Sum.elim (fun (e : AH) => JW G X (RX4, cX4_readSum, 4) e [] [] 65 0 0 (jEnd G X (jpi r) 0 0)) (fun (e : AH) => JW G X (RX4, cX4_readSum, 4) e [] [] 82 0 0 (jEnd G X (jpi r) 0 0))) (fun s q hs hb hx => lk_X4_readSum_l12 E hX hr N hrec hs (fun s' hs => hb s' hs) (fun e he => hx _ he) (fun e he => hx _ he)) N _ q1 h1 ?_
  rcases q1 with e | e
  · refine J_iconst (v := 0) E (jd dk_X4_readSum_0 34 rfl) rfl ?_
    cases hf
    exact J_iret E hr rfl (jd dk_X4_readSum_0 35 rfl) (Nat.le_refl _) (Nat.le_refl _) ⟨rfl, rfl⟩
  · refine J_iconst (v := 1) E (jd dk_X4_readSum_0 43 rfl) rfl ?_
    cases hf
    exact J_iret E hr rfl (jd dk_X4_readSum_0 44 rfl) (Nat.le_refl _) (Nat.le_refl _) ⟨rfl, rfl⟩
set_option maxRecDepth 100000 in
set_option maxHeartbeats 4000000 in
theorem lk_X4_readSum {G : JG} {l : Launch} (hG : jG G) (htr : l.stackTraces = false) (N : Nat) {rf : AH → Nat → Int32 → Option (Int32 × AH)} {dR : Nat} (hrec : ∀ (h : AH) (a : Nat) (n : Int32) (r : (Int32 × AH)), rf h a n = some r → jMet G l yX4_readExpr cX4_readExpr 3 (some .boolean) dR 0 0 [.ref a, .int n] h (jpi r)) {h : AH} {a0 : Nat} {a1 : Int32} {r : (Int32 × AH)} (hf : f_X4_readSum N rf h a0 a1 = some r) : jMet G l yX4_readSum cX4_readSum 4 (some .boolean) (dR + 12) 0 0 [.ref a0, .int a1] h (jpi r) := by
  unfold f_X4_readSum at hf
  refine jMet_of hG htr (by decide) (Nat.le_of_ble_eq_true rfl) ?_
  intro X E hl9 hr hX _ _
  subst hl9
  show JW G X (RX4, cX4_readSum, 4) h [(0, .ref a0), (1, .int a1)] [] 0 0 0 (jEnd G X (jpi r) 0 0)
  refine J_aload_n E (jd dk_X4_readSum_0 0 rfl) rfl 0 rfl ?_
  refine J_iload_n E (jd dk_X4_readSum_0 1 rfl) rfl 1 rfl ?_
  obtain ⟨u36, e37, hf⟩ := jbind hf
  obtain ⟨r34, e35, hf⟩ := jbind hf
  refine J_callV E (jd dk_X4_readSum_0 2 rfl) ml_RX4_216 cal_X4_readProduct e37 rfl (lk_X4_readProduct (jE_g E) (jE_tr E) N hrec e35) rfl (Nat.le_of_ble_eq_true rfl) (jR_le hX (by omega) (by decide)) (jF0 hX) rfl ?_
  rintro _ _ ⟨rfl, rfl⟩
  refine J_if_ne (tgt := 10) E (jd dk_X4_readSum_0 3 rfl) (by decide) (fun c38 => ?_) (fun c38 => ?_)
  · replace hf := jif_f c38 hf
    refine J_iconst (v := 0) E (jd dk_X4_readSum_0 6 rfl) rfl ?_
    refine J_istore_n (lv' := [(2, .int 0), (0, .ref a0), (1, .int a1)]) E (jd dk_X4_readSum_0 7 rfl) rfl (by decide) rfl ?_
    refine J_sub [1, 2, 0] rfl ?_
    exact lk_X4_readSum_b12 E hX hr N hrec hf
  · replace hf := jif_t c38 hf
    refine J_iconst (v := 0) E (jd dk_X4_readSum_0 4 rfl) rfl ?_
    cases hf
    exact J_iret E hr rfl (jd dk_X4_readSum_0 5 rfl) (Nat.le_refl _) (Nat.le_refl _) ⟨rfl, rfl⟩
def f_X4_readNot_l109 (N : Nat) (rf : AH → Nat → Int32 → Option (Int32 × AH)) (v0 : Nat) (v2 : Int32) (v3 : Int32) (h : AH) : Option ((Int32 × AH) ⊕ ((AH))) :=
  if v2 ≤ v3 then some (.inr h)
  else (jgr 4 h v0 4).bind fun x2 =>
  (jck 1 h x2).bind fun _ =>
  (f_X1_emit N h x2 10 0).bind fun r4 =>
  some (.inl ((v3 + 1, r4)))
def f_X4_readNot_b109 (N : Nat) (rf : AH → Nat → Int32 → Option (Int32 × AH)) (v0 : Nat) (v2 : Int32) (v3 : Int32) (h : AH) : Option (Int32 × AH) :=
  (itr (fun s => f_X4_readNot_l109 N rf v0 v2 s.1 s.2) N (v3, h)).bind (fun e => some (1, e))
def f_X4_readNot_b107 (N : Nat) (rf : AH → Nat → Int32 → Option (Int32 × AH)) (v0 : Nat) (v2 : Int32) (h : AH) : Option (Int32 × AH) :=
  f_X4_readNot_b109 N rf v0 v2 0 h
def f_X4_readNot_b83 (N : Nat) (rf : AH → Nat → Int32 → Option (Int32 × AH)) (v0 : Nat) (v1 : Int32) (v2 : Int32) (w0 : Int32) (h : AH) : Option (Int32 × AH) :=
  (jck 4 h v0).bind fun _ =>
  (f_X4_next N h v0).bind fun r8 =>
  (jck 4 r8 v0).bind fun _ =>
  (f_X4_readSum N rf r8 v0 v1).bind fun r12 =>
  if r12.1 = 0 then some (0, r12.2)
  else (jgr 4 r12.2 v0 4).bind fun x17 =>
  (jck 1 r12.2 x17).bind fun _ =>
  (f_X1_emit N r12.2 x17 w0 0).bind fun r19 =>
  f_X4_readNot_b107 N rf v0 v2 r19
def f_X4_readNot_b67 (N : Nat) (rf : AH → Nat → Int32 → Option (Int32 × AH)) (v0 : Nat) (v1 : Int32) (v2 : Int32) (h : AH) : Option (Int32 × AH) :=
  (jck 4 h v0).bind fun _ =>
  (f_X4_isSign N h v0 60).bind fun r23 =>
  if r23.1 = 0 then f_X4_readNot_b83 N rf v0 v1 v2 7 r23.2
  else f_X4_readNot_b83 N rf v0 v1 v2 6 r23.2
def f_X4_readNot_b39 (N : Nat) (rf : AH → Nat → Int32 → Option (Int32 × AH)) (v0 : Nat) (v1 : Int32) (v2 : Int32) (h : AH) : Option (Int32 × AH) :=
  (jck 4 h v0).bind fun _ =>
  (f_X4_readSum N rf h v0 v1).bind fun r28 =>
  if r28.1 = 0 then some (0, r28.2)
  else (jck 4 r28.2 v0).bind fun _ =>
  (f_X4_isSign N r28.2 v0 60).bind fun r33 =>
  if r33.1 = 0 then (jck 4 r33.2 v0).bind fun _ =>
  (f_X4_isSign N r33.2 v0 61).bind fun r38 =>
  if r38.1 = 0 then f_X4_readNot_b107 N rf v0 v2 r38.2
  else f_X4_readNot_b67 N rf v0 v1 v2 r38.2
  else f_X4_readNot_b67 N rf v0 v1 v2 r33.2
def f_X4_readNot_l2 (N : Nat) (rf : AH → Nat → Int32 → Option (Int32 × AH)) (v0 : Nat) (v1 : Int32) (v2 : Int32) (h : AH) : Option ((Int32 × AH) ⊕ ((AH) ⊕ (Int32 × AH))) :=
  if 6 < v2 then some (.inr (.inr ((v2, h))))
  else (jck 4 h v0).bind fun _ =>
  (f_X4_isWord N h v0 1000006).bind fun r44 =>
  if r44.1 = 0 then some (.inr (.inr ((v2, r44.2))))
  else if v2 = 6 then some (.inr (.inl r44.2))
  else (jck 4 r44.2 v0).bind fun _ =>
  (f_X4_next N r44.2 v0).bind fun r50 =>
  some (.inl ((v2 + 1, r50)))
def f_X4_readNot_b2 (N : Nat) (rf : AH → Nat → Int32 → Option (Int32 × AH)) (v0 : Nat) (v1 : Int32) (v2 : Int32) (h : AH) : Option (Int32 × AH) :=
  (itr (fun s => f_X4_readNot_l2 N rf v0 v1 s.1 s.2) N (v2, h)).bind (Sum.elim (fun e => (jck 4 e v0).bind fun _ =>
  (f_X4_refuseToken N e v0 2).bind fun r54 =>
  if narrow .boolean (.int r54.1) = .int r54.1 then some (r54.1, r54.2) else none) (fun e => f_X4_readNot_b39 N rf v0 v1 e.1 e.2))
def f_X4_readNot (N : Nat) (rf : AH → Nat → Int32 → Option (Int32 × AH)) (h : AH) (a0 : Nat) (a1 : Int32) : Option (Int32 × AH) :=
  f_X4_readNot_b2 N rf a0 a1 0 h
set_option maxRecDepth 100000 in
set_option maxHeartbeats 4000000 in
theorem lk_X4_readNot_l109 {G : JG} {X : JX} {dR : Nat} (E : jE G X (RX4, cX4_readNot, 4)) (hX : X.2.2.2.1 = jRm (dR + 13) 0 0) (hr : X.2.2.2.2.2.2.2.2.1.sig.returnType = (some .boolean)) (N : Nat) {rf : AH → Nat → Int32 → Option (Int32 × AH)} (hrec : ∀ (h : AH) (a : Nat) (n : Int32) (r : (Int32 × AH)), rf h a n = some r → jMet G X.2.1 yX4_readExpr cX4_readExpr 3 (some .boolean) dR 0 0 [.ref a, .int n] h (jpi r)) {Q : State → Prop} {v0 : Nat} {v2 : Int32} {v3 : Int32}  {h : AH} {q : ((Int32 × AH) ⊕ ((AH)))} (hf : f_X4_readNot_l109 N rf v0 v2 v3 h = some q) (kb : ∀ s' : Int32 × AH, q = .inl s' → JW G X (RX4, cX4_readNot, 4) s'.2 [(0, .ref v0), (2, .int v2), (3, .int s'.1)] [] 109 0 0 Q) (ke0 : ∀ e : AH, q = .inr e → JW G X (RX4, cX4_readNot, 4) e [] [] 130 0 0 Q) : JW G X (RX4, cX4_readNot, 4) h [(0, .ref v0), (2, .int v2), (3, .int v3)] [] 109 0 0 Q := by
  unfold f_X4_readNot_l109 at hf
  refine J_iload_n E (jd dk_X4_readNot_1 7 rfl) rfl 2 rfl ?_
  refine J_iload_n E (jd dk_X4_readNot_1 8 rfl) rfl 1 rfl ?_
  refine J_icmp_ge (tgt := 130) E (jd dk_X4_readNot_1 9 rfl) (by decide) (fun c1 => ?_) (fun c1 => ?_)
  · replace hf := jif_t c1 hf
    refine J_sub [] rfl ?_
    exact ke0 _ (Option.some.inj hf).symm
  · replace hf := jif_f c1 hf
    refine J_aload_n E (jd dk_X4_readNot_1 10 rfl) rfl 0 rfl ?_
    obtain ⟨x2, e3, hf⟩ := jbind hf
    refine J_getr E (jd dk_X4_readNot_1 11 rfl) fl_RX4_28 e3 ?_
    refine J_bipush (v := 10) E (jd dk_X4_readNot_1 12 rfl) (by decide) ?_
    refine J_iconst (v := 0) E (jd dk_X4_readNot_1 13 rfl) rfl ?_
    obtain ⟨u6, e7, hf⟩ := jbind hf
    obtain ⟨r4, e5, hf⟩ := jbind hf
    refine J_callV E (jd dk_X4_readNot_1 14 rfl) ml_RX4_202 cal_X1_emit e7 rfl (lk_X1_emit (jE_g E) (jE_tr E) N e5) rfl (Nat.le_of_ble_eq_true rfl) (jR_le hX (by omega) (by decide)) (jF0 hX) rfl ?_
    rintro _ _ ⟨rfl, rfl⟩
    refine J_iinc (v := v3 + 1) (lv' := [(3, .int (v3 + 1)), (0, .ref v0), (2, .int v2)]) E (jd dk_X4_readNot_1 15 rfl) 2 rfl rfl (by decide) rfl ?_
    refine J_goto (tgt := 109) E (jd dk_X4_readNot_1 16 rfl) (by decide) ?_
    refine J_sub [1, 2, 0] rfl ?_
    exact kb _ (Option.some.inj hf).symm
set_option maxRecDepth 100000 in
set_option maxHeartbeats 4000000 in
theorem lk_X4_readNot_b109 {G : JG} {X : JX} {dR : Nat} (E : jE G X (RX4, cX4_readNot, 4)) (hX : X.2.2.2.1 = jRm (dR + 13) 0 0) (hr : X.2.2.2.2.2.2.2.2.1.sig.returnType = (some .boolean)) (N : Nat) {rf : AH → Nat → Int32 → Option (Int32 × AH)} (hrec : ∀ (h : AH) (a : Nat) (n : Int32) (r : (Int32 × AH)), rf h a n = some r → jMet G X.2.1 yX4_readExpr cX4_readExpr 3 (some .boolean) dR 0 0 [.ref a, .int n] h (jpi r)) {v0 : Nat} {v2 : Int32} {v3 : Int32} {h : AH}  {r : (Int32 × AH)} (hf : f_X4_readNot_b109 N rf v0 v2 v3 h = some r) : JW G X (RX4, cX4_readNot, 4) h [(0, .ref v0), (2, .int v2), (3, .int v3)] [] 109 0 0 (jEnd G X (jpi r) 0 0) := by
  unfold f_X4_readNot_b109 at hf
  obtain ⟨q1, h1, hf⟩ := jbind hf
  refine jloop (P := fun s => JW G X (RX4, cX4_readNot, 4) s.2 [(0, .ref v0), (2, .int v2), (3, .int s.1)] [] 109 0 0 (jEnd G X (jpi r) 0 0)) (Ex := fun (e : AH) => JW G X (RX4, cX4_readNot, 4) e [] [] 130 0 0 (jEnd G X (jpi r) 0 0)) (fun s q hs hb hx => lk_X4_readNot_l109 E hX hr N hrec hs (fun s' hs => hb s' hs) (fun e he => hx e he)) N _ q1 h1 ?_
  generalize q1 = e at hf ⊢
  refine J_iconst (v := 1) E (jd dk_X4_readNot_1 17 rfl) rfl ?_
  cases hf
  exact J_iret E hr rfl (jd dk_X4_readNot_1 18 rfl) (Nat.le_refl _) (Nat.le_refl _) ⟨rfl, rfl⟩
set_option maxRecDepth 100000 in
set_option maxHeartbeats 4000000 in
theorem lk_X4_readNot_b107 {G : JG} {X : JX} {dR : Nat} (E : jE G X (RX4, cX4_readNot, 4)) (hX : X.2.2.2.1 = jRm (dR + 13) 0 0) (hr : X.2.2.2.2.2.2.2.2.1.sig.returnType = (some .boolean)) (N : Nat) {rf : AH → Nat → Int32 → Option (Int32 × AH)} (hrec : ∀ (h : AH) (a : Nat) (n : Int32) (r : (Int32 × AH)), rf h a n = some r → jMet G X.2.1 yX4_readExpr cX4_readExpr 3 (some .boolean) dR 0 0 [.ref a, .int n] h (jpi r)) {v0 : Nat} {v2 : Int32} {h : AH}  {r : (Int32 × AH)} (hf : f_X4_readNot_b107 N rf v0 v2 h = some r) : JW G X (RX4, cX4_readNot, 4) h [(0, .ref v0), (2, .int v2)] [] 107 0 0 (jEnd G X (jpi r) 0 0) := by
  unfold f_X4_readNot_b107 at hf
  refine J_iconst (v := 0) E (jd dk_X4_readNot_1 5 rfl) rfl ?_
  refine J_istore_n (lv' := [(3, .int 0), (0, .ref v0), (2, .int v2)]) E (jd dk_X4_readNot_1 6 rfl) rfl (by decide) rfl ?_
  refine J_sub [1, 2, 0] rfl ?_
  exact lk_X4_readNot_b109 E hX hr N hrec hf
set_option maxRecDepth 100000 in
set_option maxHeartbeats 4000000 in
theorem lk_X4_readNot_b83 {G : JG} {X : JX} {dR : Nat} (E : jE G X (RX4, cX4_readNot, 4)) (hX : X.2.2.2.1 = jRm (dR + 13) 0 0) (hr : X.2.2.2.2.2.2.2.2.1.sig.returnType = (some .boolean)) (N : Nat) {rf : AH → Nat → Int32 → Option (Int32 × AH)} (hrec : ∀ (h : AH) (a : Nat) (n : Int32) (r : (Int32 × AH)), rf h a n = some r → jMet G X.2.1 yX4_readExpr cX4_readExpr 3 (some .boolean) dR 0 0 [.ref a, .int n] h (jpi r)) {v0 : Nat} {v1 : Int32} {v2 : Int32} {w0 : Int32} {h : AH}  {r : (Int32 × AH)} (hf : f_X4_readNot_b83 N rf v0 v1 v2 w0 h = some r) : JW G X (RX4, cX4_readNot, 4) h [(0, .ref v0), (1, .int v1), (2, .int v2)] [.int w0] 83 0 0 (jEnd G X (jpi r) 0 0) := by
  unfold f_X4_readNot_b83 at hf
  refine J_istore_n (lv' := [(3, .int w0), (0, .ref v0), (1, .int v1), (2, .int v2)]) E (jd dk_X4_readNot_0 41 rfl) rfl (by decide) rfl ?_
  refine J_aload_n E (jd dk_X4_readNot_0 42 rfl) rfl 1 rfl ?_
  obtain ⟨u10, e11, hf⟩ := jbind hf
  obtain ⟨r8, e9, hf⟩ := jbind hf
  refine J_callV E (jd dk_X4_readNot_0 43 rfl) ml_RX4_66 cal_X4_next e11 rfl (lk_X4_next (jE_g E) (jE_tr E) N e9) rfl (Nat.le_of_ble_eq_true rfl) (jR_le hX (by omega) (by decide)) (jF0 hX) rfl ?_
  rintro _ _ ⟨rfl, rfl⟩
  refine J_aload_n E (jd dk_X4_readNot_0 44 rfl) rfl 1 rfl ?_
  refine J_iload_n E (jd dk_X4_readNot_0 45 rfl) rfl 2 rfl ?_
  obtain ⟨u14, e15, hf⟩ := jbind hf
  obtain ⟨r12, e13, hf⟩ := jbind hf
  refine J_callV E (jd dk_X4_readNot_0 46 rfl) ml_RX4_213 cal_X4_readSum e15 rfl (lk_X4_readSum (jE_g E) (jE_tr E) N hrec e13) rfl (Nat.le_of_ble_eq_true rfl) (jR_le hX (by omega) (by decide)) (jF0 hX) rfl ?_
  rintro _ _ ⟨rfl, rfl⟩
  refine J_if_ne (tgt := 98) E (jd dk_X4_readNot_0 47 rfl) (by decide) (fun c16 => ?_) (fun c16 => ?_)
  · replace hf := jif_f c16 hf
    refine J_aload_n E (jd dk_X4_readNot_1 0 rfl) rfl 1 rfl ?_
    obtain ⟨x17, e18, hf⟩ := jbind hf
    refine J_getr E (jd dk_X4_readNot_1 1 rfl) fl_RX4_28 e18 ?_
    refine J_iload_n E (jd dk_X4_readNot_1 2 rfl) rfl 0 rfl ?_
    refine J_iconst (v := 0) E (jd dk_X4_readNot_1 3 rfl) rfl ?_
    obtain ⟨u21, e22, hf⟩ := jbind hf
    obtain ⟨r19, e20, hf⟩ := jbind hf
    refine J_callV E (jd dk_X4_readNot_1 4 rfl) ml_RX4_202 cal_X1_emit e22 rfl (lk_X1_emit (jE_g E) (jE_tr E) N e20) rfl (Nat.le_of_ble_eq_true rfl) (jR_le hX (by omega) (by decide)) (jF0 hX) rfl ?_
    rintro _ _ ⟨rfl, rfl⟩
    refine J_sub [1, 3] rfl ?_
    exact lk_X4_readNot_b107 E hX hr N hrec hf
  · replace hf := jif_t c16 hf
    refine J_iconst (v := 0) E (jd dk_X4_readNot_0 48 rfl) rfl ?_
    cases hf
    exact J_iret E hr rfl (jd dk_X4_readNot_0 49 rfl) (Nat.le_refl _) (Nat.le_refl _) ⟨rfl, rfl⟩
set_option maxRecDepth 100000 in
set_option maxHeartbeats 4000000 in
theorem lk_X4_readNot_b67 {G : JG} {X : JX} {dR : Nat} (E : jE G X (RX4, cX4_readNot, 4)) (hX : X.2.2.2.1 = jRm (dR + 13) 0 0) (hr : X.2.2.2.2.2.2.2.2.1.sig.returnType = (some .boolean)) (N : Nat) {rf : AH → Nat → Int32 → Option (Int32 × AH)} (hrec : ∀ (h : AH) (a : Nat) (n : Int32) (r : (Int32 × AH)), rf h a n = some r → jMet G X.2.1 yX4_readExpr cX4_readExpr 3 (some .boolean) dR 0 0 [.ref a, .int n] h (jpi r)) {v0 : Nat} {v1 : Int32} {v2 : Int32} {h : AH}  {r : (Int32 × AH)} (hf : f_X4_readNot_b67 N rf v0 v1 v2 h = some r) : JW G X (RX4, cX4_readNot, 4) h [(0, .ref v0), (1, .int v1), (2, .int v2)] [] 67 0 0 (jEnd G X (jpi r) 0 0) := by
  unfold f_X4_readNot_b67 at hf
  refine J_aload_n E (jd dk_X4_readNot_0 34 rfl) rfl 0 rfl ?_
  refine J_bipush (v := 60) E (jd dk_X4_readNot_0 35 rfl) (by decide) ?_
  obtain ⟨u25, e26, hf⟩ := jbind hf
  obtain ⟨r23, e24, hf⟩ := jbind hf
  refine J_callV E (jd dk_X4_readNot_0 36 rfl) ml_RX4_192 cal_X4_isSign e26 rfl (lk_X4_isSign (jE_g E) (jE_tr E) N e24) rfl (Nat.le_of_ble_eq_true rfl) (jR_le hX (by omega) (by decide)) (jF0 hX) rfl ?_
  rintro _ _ ⟨rfl, rfl⟩
  refine J_if_eq (tgt := 81) E (jd dk_X4_readNot_0 37 rfl) (by decide) (fun c27 => ?_) (fun c27 => ?_)
  · replace hf := jif_t c27 hf
    refine J_bipush (v := 7) E (jd dk_X4_readNot_0 40 rfl) (by decide) ?_
    exact lk_X4_readNot_b83 E hX hr N hrec hf
  · replace hf := jif_f c27 hf
    refine J_bipush (v := 6) E (jd dk_X4_readNot_0 38 rfl) (by decide) ?_
    refine J_goto (tgt := 83) E (jd dk_X4_readNot_0 39 rfl) (by decide) ?_
    exact lk_X4_readNot_b83 E hX hr N hrec hf
set_option maxRecDepth 100000 in
set_option maxHeartbeats 4000000 in
theorem lk_X4_readNot_b39 {G : JG} {X : JX} {dR : Nat} (E : jE G X (RX4, cX4_readNot, 4)) (hX : X.2.2.2.1 = jRm (dR + 13) 0 0) (hr : X.2.2.2.2.2.2.2.2.1.sig.returnType = (some .boolean)) (N : Nat) {rf : AH → Nat → Int32 → Option (Int32 × AH)} (hrec : ∀ (h : AH) (a : Nat) (n : Int32) (r : (Int32 × AH)), rf h a n = some r → jMet G X.2.1 yX4_readExpr cX4_readExpr 3 (some .boolean) dR 0 0 [.ref a, .int n] h (jpi r)) {v0 : Nat} {v1 : Int32} {v2 : Int32} {h : AH}  {r : (Int32 × AH)} (hf : f_X4_readNot_b39 N rf v0 v1 v2 h = some r) : JW G X (RX4, cX4_readNot, 4) h [(0, .ref v0), (1, .int v1), (2, .int v2)] [] 39 0 0 (jEnd G X (jpi r) 0 0) := by
  unfold f_X4_readNot_b39 at hf
  refine J_aload_n E (jd dk_X4_readNot_0 20 rfl) rfl 0 rfl ?_
  refine J_iload_n E (jd dk_X4_readNot_0 21 rfl) rfl 1 rfl ?_
  obtain ⟨u30, e31, hf⟩ := jbind hf
  obtain ⟨r28, e29, hf⟩ := jbind hf
  refine J_callV E (jd dk_X4_readNot_0 22 rfl) ml_RX4_213 cal_X4_readSum e31 rfl (lk_X4_readSum (jE_g E) (jE_tr E) N hrec e29) rfl (Nat.le_of_ble_eq_true rfl) (jR_le hX (by omega) (by decide)) (jF0 hX) rfl ?_
  rintro _ _ ⟨rfl, rfl⟩
  refine J_if_ne (tgt := 49) E (jd dk_X4_readNot_0 23 rfl) (by decide) (fun c32 => ?_) (fun c32 => ?_)
  · replace hf := jif_f c32 hf
    refine J_aload_n E (jd dk_X4_readNot_0 26 rfl) rfl 0 rfl ?_
    refine J_bipush (v := 60) E (jd dk_X4_readNot_0 27 rfl) (by decide) ?_
    obtain ⟨u35, e36, hf⟩ := jbind hf
    obtain ⟨r33, e34, hf⟩ := jbind hf
    refine J_callV E (jd dk_X4_readNot_0 28 rfl) ml_RX4_192 cal_X4_isSign e36 rfl (lk_X4_isSign (jE_g E) (jE_tr E) N e34) rfl (Nat.le_of_ble_eq_true rfl) (jR_le hX (by omega) (by decide)) (jF0 hX) rfl ?_
    rintro _ _ ⟨rfl, rfl⟩
    refine J_if_ne (tgt := 67) E (jd dk_X4_readNot_0 29 rfl) (by decide) (fun c37 => ?_) (fun c37 => ?_)
    · replace hf := jif_f c37 hf
      exact lk_X4_readNot_b67 E hX hr N hrec hf
    · replace hf := jif_t c37 hf
      refine J_aload_n E (jd dk_X4_readNot_0 30 rfl) rfl 0 rfl ?_
      refine J_bipush (v := 61) E (jd dk_X4_readNot_0 31 rfl) (by decide) ?_
      obtain ⟨u40, e41, hf⟩ := jbind hf
      obtain ⟨r38, e39, hf⟩ := jbind hf
      refine J_callV E (jd dk_X4_readNot_0 32 rfl) ml_RX4_192 cal_X4_isSign e41 rfl (lk_X4_isSign (jE_g E) (jE_tr E) N e39) rfl (Nat.le_of_ble_eq_true rfl) (jR_le hX (by omega) (by decide)) (jF0 hX) rfl ?_
      rintro _ _ ⟨rfl, rfl⟩
      refine J_if_eq (tgt := 107) E (jd dk_X4_readNot_0 33 rfl) (by decide) (fun c42 => ?_) (fun c42 => ?_)
      · replace hf := jif_t c42 hf
        refine J_sub [0, 2] rfl ?_
        exact lk_X4_readNot_b107 E hX hr N hrec hf
      · replace hf := jif_f c42 hf
        exact lk_X4_readNot_b67 E hX hr N hrec hf
  · replace hf := jif_t c32 hf
    refine J_iconst (v := 0) E (jd dk_X4_readNot_0 24 rfl) rfl ?_
    cases hf
    exact J_iret E hr rfl (jd dk_X4_readNot_0 25 rfl) (Nat.le_refl _) (Nat.le_refl _) ⟨rfl, rfl⟩
set_option maxRecDepth 100000 in
set_option maxHeartbeats 4000000 in
theorem lk_X4_readNot_l2 {G : JG} {X : JX} {dR : Nat} (E : jE G X (RX4, cX4_readNot, 4)) (hX : X.2.2.2.1 = jRm (dR + 13) 0 0) (hr : X.2.2.2.2.2.2.2.2.1.sig.returnType = (some .boolean)) (N : Nat) {rf : AH → Nat → Int32 → Option (Int32 × AH)} (hrec : ∀ (h : AH) (a : Nat) (n : Int32) (r : (Int32 × AH)), rf h a n = some r → jMet G X.2.1 yX4_readExpr cX4_readExpr 3 (some .boolean) dR 0 0 [.ref a, .int n] h (jpi r)) {Q : State → Prop} {v0 : Nat} {v1 : Int32} {v2 : Int32}  {h : AH} {q : ((Int32 × AH) ⊕ ((AH) ⊕ (Int32 × AH)))} (hf : f_X4_readNot_l2 N rf v0 v1 v2 h = some q) (kb : ∀ s' : Int32 × AH, q = .inl s' → JW G X (RX4, cX4_readNot, 4) s'.2 [(0, .ref v0), (1, .int v1), (2, .int s'.1)] [] 2 0 0 Q) (ke0 : ∀ e : AH, q = .inr (.inl e) → JW G X (RX4, cX4_readNot, 4) e [(0, .ref v0)] [] 23 0 0 Q) (ke1 : ∀ e : Int32 × AH, q = .inr (.inr e) → JW G X (RX4, cX4_readNot, 4) e.2 [(0, .ref v0), (1, .int v1), (2, .int e.1)] [] 39 0 0 Q) : JW G X (RX4, cX4_readNot, 4) h [(0, .ref v0), (1, .int v1), (2, .int v2)] [] 2 0 0 Q := by
  unfold f_X4_readNot_l2 at hf
  refine J_iload_n E (jd dk_X4_readNot_0 2 rfl) rfl 2 rfl ?_
  refine J_bipush (v := 6) E (jd dk_X4_readNot_0 3 rfl) (by decide) ?_
  refine J_icmp_gt (tgt := 39) E (jd dk_X4_readNot_0 4 rfl) (by decide) (fun c43 => ?_) (fun c43 => ?_)
  · replace hf := jif_t c43 hf
    exact ke1 _ (Option.some.inj hf).symm
  · replace hf := jif_f c43 hf
    refine J_aload_n E (jd dk_X4_readNot_0 5 rfl) rfl 0 rfl ?_
    refine J_ldcS (j := 6) (tx := "not") E (jd dk_X4_readNot_0 6 rfl) rfl ?_
    obtain ⟨u46, e47, hf⟩ := jbind hf
    obtain ⟨r44, e45, hf⟩ := jbind hf
    refine J_callV E (jd dk_X4_readNot_0 7 rfl) ml_RX4_100 cal_X4_isWord e47 rfl (lk_X4_isWord (jE_g E) (jE_tr E) N e45) rfl (Nat.le_of_ble_eq_true rfl) (jR_le hX (by omega) (by decide)) (jF0 hX) rfl ?_
    rintro _ _ ⟨rfl, rfl⟩
    refine J_if_eq (tgt := 39) E (jd dk_X4_readNot_0 8 rfl) (by decide) (fun c48 => ?_) (fun c48 => ?_)
    · replace hf := jif_t c48 hf
      exact ke1 _ (Option.some.inj hf).symm
    · replace hf := jif_f c48 hf
      refine J_iload_n E (jd dk_X4_readNot_0 9 rfl) rfl 2 rfl ?_
      refine J_bipush (v := 6) E (jd dk_X4_readNot_0 10 rfl) (by decide) ?_
      refine J_icmp_ne (tgt := 29) E (jd dk_X4_readNot_0 11 rfl) (by decide) (fun c49 => ?_) (fun c49 => ?_)
      · replace hf := jif_f c49 hf
        refine J_aload_n E (jd dk_X4_readNot_0 16 rfl) rfl 0 rfl ?_
        obtain ⟨u52, e53, hf⟩ := jbind hf
        obtain ⟨r50, e51, hf⟩ := jbind hf
        refine J_callV E (jd dk_X4_readNot_0 17 rfl) ml_RX4_66 cal_X4_next e53 rfl (lk_X4_next (jE_g E) (jE_tr E) N e51) rfl (Nat.le_of_ble_eq_true rfl) (jR_le hX (by omega) (by decide)) (jF0 hX) rfl ?_
        rintro _ _ ⟨rfl, rfl⟩
        refine J_iinc (v := v2 + 1) (lv' := [(2, .int (v2 + 1)), (0, .ref v0), (1, .int v1)]) E (jd dk_X4_readNot_0 18 rfl) 2 rfl rfl (by decide) rfl ?_
        refine J_goto (tgt := 2) E (jd dk_X4_readNot_0 19 rfl) (by decide) ?_
        refine J_sub [1, 2, 0] rfl ?_
        exact kb _ (Option.some.inj hf).symm
      · replace hf := jif_t c49 hf
        refine J_sub [0] rfl ?_
        exact ke0 _ (Option.some.inj hf).symm
set_option maxRecDepth 100000 in
set_option maxHeartbeats 4000000 in
theorem lk_X4_readNot_b2 {G : JG} {X : JX} {dR : Nat} (E : jE G X (RX4, cX4_readNot, 4)) (hX : X.2.2.2.1 = jRm (dR + 13) 0 0) (hr : X.2.2.2.2.2.2.2.2.1.sig.returnType = (some .boolean)) (N : Nat) {rf : AH → Nat → Int32 → Option (Int32 × AH)} (hrec : ∀ (h : AH) (a : Nat) (n : Int32) (r : (Int32 × AH)), rf h a n = some r → jMet G X.2.1 yX4_readExpr cX4_readExpr 3 (some .boolean) dR 0 0 [.ref a, .int n] h (jpi r)) {v0 : Nat} {v1 : Int32} {v2 : Int32} {h : AH}  {r : (Int32 × AH)} (hf : f_X4_readNot_b2 N rf v0 v1 v2 h = some r) : JW G X (RX4, cX4_readNot, 4) h [(0, .ref v0), (1, .int v1), (2, .int v2)] [] 2 0 0 (jEnd G X (jpi r) 0 0) := by
  unfold f_X4_readNot_b2 at hf
  obtain ⟨q1, h1, hf⟩ := jbind hf
  refine jloop (P := fun s => JW G X (RX4, cX4_readNot, 4) s.2 [(0, .ref v0), (1, .int v1), (2, .int s.1)] [] 2 0 0 (jEnd G X (jpi r) 0 0)) (Ex := Sum.elim (fun (e : AH) => JW G X (RX4, cX4_readNot, 4) e [(0, .ref v0)] [] 23 0 0 (jEnd G X (jpi r) 0 0)) (fun (e : Int32 × AH) => JW G X (RX4, cX4_readNot, 4) e.2 [(0, .ref v0), (1, .int v1), (2, .int e.1)] [] 39 0 0 (jEnd G X (jpi r) 0 0))) (fun s q hs hb hx => lk_X4_readNot_l2 E hX hr N hrec hs (fun s' hs => hb s' hs) (fun e he => hx _ he) (fun e he => hx _ he)) N _ q1 h1 ?_
  rcases q1 with e | e
  · refine J_aload_n E (jd dk_X4_readNot_0 12 rfl) rfl 0 rfl ?_
    refine J_iconst (v := 2) E (jd dk_X4_readNot_0 13 rfl) rfl ?_
    obtain ⟨u56, e57, hf⟩ := jbind hf
    obtain ⟨r54, e55, hf⟩ := jbind hf
    refine J_callV E (jd dk_X4_readNot_0 14 rfl) ml_RX4_130 cal_X4_refuseToken e57 rfl (lk_X4_refuseToken (jE_g E) (jE_tr E) N e55) rfl (Nat.le_of_ble_eq_true rfl) (jR_le hX (by omega) (by decide)) (jF0 hX) rfl ?_
    rintro _ _ ⟨rfl, rfl⟩
    obtain ⟨n58, hf⟩ := jnw hf
    cases hf
    exact J_iret E hr n58 (jd dk_X4_readNot_0 15 rfl) (Nat.le_refl _) (Nat.le_refl _) ⟨rfl, rfl⟩
  · exact lk_X4_readNot_b39 E hX hr N hrec hf
set_option maxRecDepth 100000 in
set_option maxHeartbeats 4000000 in
theorem lk_X4_readNot {G : JG} {l : Launch} (hG : jG G) (htr : l.stackTraces = false) (N : Nat) {rf : AH → Nat → Int32 → Option (Int32 × AH)} {dR : Nat} (hrec : ∀ (h : AH) (a : Nat) (n : Int32) (r : (Int32 × AH)), rf h a n = some r → jMet G l yX4_readExpr cX4_readExpr 3 (some .boolean) dR 0 0 [.ref a, .int n] h (jpi r)) {h : AH} {a0 : Nat} {a1 : Int32} {r : (Int32 × AH)} (hf : f_X4_readNot N rf h a0 a1 = some r) : jMet G l yX4_readNot cX4_readNot 4 (some .boolean) (dR + 13) 0 0 [.ref a0, .int a1] h (jpi r) := by
  unfold f_X4_readNot at hf
  refine jMet_of hG htr (by decide) (Nat.le_of_ble_eq_true rfl) ?_
  intro X E hl9 hr hX _ _
  subst hl9
  show JW G X (RX4, cX4_readNot, 4) h [(0, .ref a0), (1, .int a1)] [] 0 0 0 (jEnd G X (jpi r) 0 0)
  refine J_iconst (v := 0) E (jd dk_X4_readNot_0 0 rfl) rfl ?_
  refine J_istore_n (lv' := [(2, .int 0), (0, .ref a0), (1, .int a1)]) E (jd dk_X4_readNot_0 1 rfl) rfl (by decide) rfl ?_
  refine J_sub [1, 2, 0] rfl ?_
  exact lk_X4_readNot_b2 E hX hr N hrec hf
def f_X4_readAnd_l12 (N : Nat) (rf : AH → Nat → Int32 → Option (Int32 × AH)) (v0 : Nat) (v1 : Int32) (v2 : Int32) (h : AH) : Option ((Int32 × AH) ⊕ ((AH) ⊕ (AH))) :=
  (jgi 4 h v0 3).bind fun x1 =>
  if x1 < v2 then some (.inr (.inr h))
  else (jck 4 h v0).bind fun _ =>
  (f_X4_isWord N h v0 1000014).bind fun r4 =>
  if r4.1 = 0 then some (.inr (.inr r4.2))
  else (jck 4 r4.2 v0).bind fun _ =>
  (f_X4_next N r4.2 v0).bind fun r9 =>
  (jck 4 r9 v0).bind fun _ =>
  (f_X4_readNot N rf r9 v0 v1).bind fun r13 =>
  if r13.1 = 0 then some (.inr (.inl r13.2))
  else (jgr 4 r13.2 v0 4).bind fun x18 =>
  (jck 1 r13.2 x18).bind fun _ =>
  (f_X1_emit N r13.2 x18 8 0).bind fun r20 =>
  some (.inl ((v2 + 1, r20)))
def f_X4_readAnd_b12 (N : Nat) (rf : AH → Nat → Int32 → Option (Int32 × AH)) (v0 : Nat) (v1 : Int32) (v2 : Int32) (h : AH) : Option (Int32 × AH) :=
  (itr (fun s => f_X4_readAnd_l12 N rf v0 v1 s.1 s.2) N (v2, h)).bind (Sum.elim (fun e => some (0, e)) (fun e => some (1, e)))
def f_X4_readAnd (N : Nat) (rf : AH → Nat → Int32 → Option (Int32 × AH)) (h : AH) (a0 : Nat) (a1 : Int32) : Option (Int32 × AH) :=
  (jck 4 h a0).bind fun _ =>
  (f_X4_readNot N rf h a0 a1).bind fun r24 =>
  if r24.1 = 0 then some (0, r24.2)
  else f_X4_readAnd_b12 N rf a0 a1 0 r24.2
set_option maxRecDepth 100000 in
set_option maxHeartbeats 4000000 in
theorem lk_X4_readAnd_l12 {G : JG} {X : JX} {dR : Nat} (E : jE G X (RX4, cX4_readAnd, 3)) (hX : X.2.2.2.1 = jRm (dR + 14) 0 0) (hr : X.2.2.2.2.2.2.2.2.1.sig.returnType = (some .boolean)) (N : Nat) {rf : AH → Nat → Int32 → Option (Int32 × AH)} (hrec : ∀ (h : AH) (a : Nat) (n : Int32) (r : (Int32 × AH)), rf h a n = some r → jMet G X.2.1 yX4_readExpr cX4_readExpr 3 (some .boolean) dR 0 0 [.ref a, .int n] h (jpi r)) {Q : State → Prop} {v0 : Nat} {v1 : Int32} {v2 : Int32}  {h : AH} {q : ((Int32 × AH) ⊕ ((AH) ⊕ (AH)))} (hf : f_X4_readAnd_l12 N rf v0 v1 v2 h = some q) (kb : ∀ s' : Int32 × AH, q = .inl s' → JW G X (RX4, cX4_readAnd, 3) s'.2 [(0, .ref v0), (1, .int v1), (2, .int s'.1)] [] 12 0 0 Q) (ke0 : ∀ e : AH, q = .inr (.inl e) → JW G X (RX4, cX4_readAnd, 3) e [] [] 41 0 0 Q) (ke1 : ∀ e : AH, q = .inr (.inr e) → JW G X (RX4, cX4_readAnd, 3) e [] [] 59 0 0 Q) : JW G X (RX4, cX4_readAnd, 3) h [(0, .ref v0), (1, .int v1), (2, .int v2)] [] 12 0 0 Q := by
  unfold f_X4_readAnd_l12 at hf
  refine J_iload_n E (jd dk_X4_readAnd_0 8 rfl) rfl 2 rfl ?_
  refine J_aload_n E (jd dk_X4_readAnd_0 9 rfl) rfl 0 rfl ?_
  obtain ⟨x1, e2, hf⟩ := jbind hf
  refine J_geti E (jd dk_X4_readAnd_0 10 rfl) fl_RX4_22 e2 ?_
  refine J_icmp_gt (tgt := 59) E (jd dk_X4_readAnd_0 11 rfl) (by decide) (fun c3 => ?_) (fun c3 => ?_)
  · replace hf := jif_t c3 hf
    refine J_sub [] rfl ?_
    exact ke1 _ (Option.some.inj hf).symm
  · replace hf := jif_f c3 hf
    refine J_aload_n E (jd dk_X4_readAnd_0 12 rfl) rfl 0 rfl ?_
    refine J_ldcS (j := 14) (tx := "and") E (jd dk_X4_readAnd_0 13 rfl) rfl ?_
    obtain ⟨u6, e7, hf⟩ := jbind hf
    obtain ⟨r4, e5, hf⟩ := jbind hf
    refine J_callV E (jd dk_X4_readAnd_0 14 rfl) ml_RX4_100 cal_X4_isWord e7 rfl (lk_X4_isWord (jE_g E) (jE_tr E) N e5) rfl (Nat.le_of_ble_eq_true rfl) (jR_le hX (by omega) (by decide)) (jF0 hX) rfl ?_
    rintro _ _ ⟨rfl, rfl⟩
    refine J_if_eq (tgt := 59) E (jd dk_X4_readAnd_0 15 rfl) (by decide) (fun c8 => ?_) (fun c8 => ?_)
    · replace hf := jif_t c8 hf
      refine J_sub [] rfl ?_
      exact ke1 _ (Option.some.inj hf).symm
    · replace hf := jif_f c8 hf
      refine J_aload_n E (jd dk_X4_readAnd_0 16 rfl) rfl 0 rfl ?_
      obtain ⟨u11, e12, hf⟩ := jbind hf
      obtain ⟨r9, e10, hf⟩ := jbind hf
      refine J_callV E (jd dk_X4_readAnd_0 17 rfl) ml_RX4_66 cal_X4_next e12 rfl (lk_X4_next (jE_g E) (jE_tr E) N e10) rfl (Nat.le_of_ble_eq_true rfl) (jR_le hX (by omega) (by decide)) (jF0 hX) rfl ?_
      rintro _ _ ⟨rfl, rfl⟩
      refine J_aload_n E (jd dk_X4_readAnd_0 18 rfl) rfl 0 rfl ?_
      refine J_iload_n E (jd dk_X4_readAnd_0 19 rfl) rfl 1 rfl ?_
      obtain ⟨u15, e16, hf⟩ := jbind hf
      obtain ⟨r13, e14, hf⟩ := jbind hf
      refine J_callV E (jd dk_X4_readAnd_0 20 rfl) ml_RX4_206 cal_X4_readNot e16 rfl (lk_X4_readNot (jE_g E) (jE_tr E) N hrec e14) rfl (Nat.le_of_ble_eq_true rfl) (jR_le hX (by omega) (by decide)) (jF0 hX) rfl ?_
      rintro _ _ ⟨rfl, rfl⟩
      refine J_if_ne (tgt := 43) E (jd dk_X4_readAnd_0 21 rfl) (by decide) (fun c17 => ?_) (fun c17 => ?_)
      · replace hf := jif_f c17 hf
        refine J_aload_n E (jd dk_X4_readAnd_0 24 rfl) rfl 0 rfl ?_
        obtain ⟨x18, e19, hf⟩ := jbind hf
        refine J_getr E (jd dk_X4_readAnd_0 25 rfl) fl_RX4_28 e19 ?_
        refine J_bipush (v := 8) E (jd dk_X4_readAnd_0 26 rfl) (by decide) ?_
        refine J_iconst (v := 0) E (jd dk_X4_readAnd_0 27 rfl) rfl ?_
        obtain ⟨u22, e23, hf⟩ := jbind hf
        obtain ⟨r20, e21, hf⟩ := jbind hf
        refine J_callV E (jd dk_X4_readAnd_0 28 rfl) ml_RX4_202 cal_X1_emit e23 rfl (lk_X1_emit (jE_g E) (jE_tr E) N e21) rfl (Nat.le_of_ble_eq_true rfl) (jR_le hX (by omega) (by decide)) (jF0 hX) rfl ?_
        rintro _ _ ⟨rfl, rfl⟩
        refine J_iinc (v := v2 + 1) (lv' := [(2, .int (v2 + 1)), (0, .ref v0), (1, .int v1)]) E (jd dk_X4_readAnd_0 29 rfl) 2 rfl rfl (by decide) rfl ?_
        refine J_goto (tgt := 12) E (jd dk_X4_readAnd_0 30 rfl) (by decide) ?_
        refine J_sub [1, 2, 0] rfl ?_
        exact kb _ (Option.some.inj hf).symm
      · replace hf := jif_t c17 hf
        refine J_sub [] rfl ?_
        exact ke0 _ (Option.some.inj hf).symm
set_option maxRecDepth 100000 in
set_option maxHeartbeats 4000000 in
theorem lk_X4_readAnd_b12 {G : JG} {X : JX} {dR : Nat} (E : jE G X (RX4, cX4_readAnd, 3)) (hX : X.2.2.2.1 = jRm (dR + 14) 0 0) (hr : X.2.2.2.2.2.2.2.2.1.sig.returnType = (some .boolean)) (N : Nat) {rf : AH → Nat → Int32 → Option (Int32 × AH)} (hrec : ∀ (h : AH) (a : Nat) (n : Int32) (r : (Int32 × AH)), rf h a n = some r → jMet G X.2.1 yX4_readExpr cX4_readExpr 3 (some .boolean) dR 0 0 [.ref a, .int n] h (jpi r)) {v0 : Nat} {v1 : Int32} {v2 : Int32} {h : AH}  {r : (Int32 × AH)} (hf : f_X4_readAnd_b12 N rf v0 v1 v2 h = some r) : JW G X (RX4, cX4_readAnd, 3) h [(0, .ref v0), (1, .int v1), (2, .int v2)] [] 12 0 0 (jEnd G X (jpi r) 0 0) := by
  unfold f_X4_readAnd_b12 at hf
  obtain ⟨q1, h1, hf⟩ := jbind hf
  refine jloop (P := fun s => JW G X (RX4, cX4_readAnd, 3) s.2 [(0, .ref v0), (1, .int v1), (2, .int s.1)] [] 12 0 0 (jEnd G X (jpi r) 0 0)) (Ex := Sum.elim (fun (e : AH) => JW G X (RX4, cX4_readAnd, 3) e [] [] 41 0 0 (jEnd G X (jpi r) 0 0)) (fun (e : AH) => JW G X (RX4, cX4_readAnd, 3) e [] [] 59 0 0 (jEnd G X (jpi r) 0 0))) (fun s q hs hb hx => lk_X4_readAnd_l12 E hX hr N hrec hs (fun s' hs => hb s' hs) (fun e he => hx _ he) (fun e he => hx _ he)) N _ q1 h1 ?_
  rcases q1 with e | e
  · refine J_iconst (v := 0) E (jd dk_X4_readAnd_0 22 rfl) rfl ?_
    cases hf
    exact J_iret E hr rfl (jd dk_X4_readAnd_0 23 rfl) (Nat.le_refl _) (Nat.le_refl _) ⟨rfl, rfl⟩
  · refine J_iconst (v := 1) E (jd dk_X4_readAnd_0 31 rfl) rfl ?_
    cases hf
    exact J_iret E hr rfl (jd dk_X4_readAnd_0 32 rfl) (Nat.le_refl _) (Nat.le_refl _) ⟨rfl, rfl⟩
set_option maxRecDepth 100000 in
set_option maxHeartbeats 4000000 in
theorem lk_X4_readAnd {G : JG} {l : Launch} (hG : jG G) (htr : l.stackTraces = false) (N : Nat) {rf : AH → Nat → Int32 → Option (Int32 × AH)} {dR : Nat} (hrec : ∀ (h : AH) (a : Nat) (n : Int32) (r : (Int32 × AH)), rf h a n = some r → jMet G l yX4_readExpr cX4_readExpr 3 (some .boolean) dR 0 0 [.ref a, .int n] h (jpi r)) {h : AH} {a0 : Nat} {a1 : Int32} {r : (Int32 × AH)} (hf : f_X4_readAnd N rf h a0 a1 = some r) : jMet G l yX4_readAnd cX4_readAnd 3 (some .boolean) (dR + 14) 0 0 [.ref a0, .int a1] h (jpi r) := by
  unfold f_X4_readAnd at hf
  refine jMet_of hG htr (by decide) (Nat.le_of_ble_eq_true rfl) ?_
  intro X E hl9 hr hX _ _
  subst hl9
  show JW G X (RX4, cX4_readAnd, 3) h [(0, .ref a0), (1, .int a1)] [] 0 0 0 (jEnd G X (jpi r) 0 0)
  refine J_aload_n E (jd dk_X4_readAnd_0 0 rfl) rfl 0 rfl ?_
  refine J_iload_n E (jd dk_X4_readAnd_0 1 rfl) rfl 1 rfl ?_
  obtain ⟨u26, e27, hf⟩ := jbind hf
  obtain ⟨r24, e25, hf⟩ := jbind hf
  refine J_callV E (jd dk_X4_readAnd_0 2 rfl) ml_RX4_206 cal_X4_readNot e27 rfl (lk_X4_readNot (jE_g E) (jE_tr E) N hrec e25) rfl (Nat.le_of_ble_eq_true rfl) (jR_le hX (by omega) (by decide)) (jF0 hX) rfl ?_
  rintro _ _ ⟨rfl, rfl⟩
  refine J_if_ne (tgt := 10) E (jd dk_X4_readAnd_0 3 rfl) (by decide) (fun c28 => ?_) (fun c28 => ?_)
  · replace hf := jif_f c28 hf
    refine J_iconst (v := 0) E (jd dk_X4_readAnd_0 6 rfl) rfl ?_
    refine J_istore_n (lv' := [(2, .int 0), (0, .ref a0), (1, .int a1)]) E (jd dk_X4_readAnd_0 7 rfl) rfl (by decide) rfl ?_
    refine J_sub [1, 2, 0] rfl ?_
    exact lk_X4_readAnd_b12 E hX hr N hrec hf
  · replace hf := jif_t c28 hf
    refine J_iconst (v := 0) E (jd dk_X4_readAnd_0 4 rfl) rfl ?_
    cases hf
    exact J_iret E hr rfl (jd dk_X4_readAnd_0 5 rfl) (Nat.le_refl _) (Nat.le_refl _) ⟨rfl, rfl⟩
def f_X4_readExpr_l63 (N : Nat) (rf : AH → Nat → Int32 → Option (Int32 × AH)) (v0 : Nat) (v1 : Int32) (v2 : Int32) (h : AH) : Option ((Int32 × AH) ⊕ ((AH) ⊕ (AH))) :=
  (jgi 4 h v0 3).bind fun x1 =>
  if x1 < v2 then some (.inr (.inr h))
  else (jck 4 h v0).bind fun _ =>
  (f_X4_isWord N h v0 1000015).bind fun r4 =>
  if r4.1 = 0 then some (.inr (.inr r4.2))
  else (jck 4 r4.2 v0).bind fun _ =>
  (f_X4_next N r4.2 v0).bind fun r9 =>
  (jck 4 r9 v0).bind fun _ =>
  (f_X4_readAnd N rf r9 v0 v1).bind fun r13 =>
  if r13.1 = 0 then some (.inr (.inl r13.2))
  else (jgr 4 r13.2 v0 4).bind fun x18 =>
  (jck 1 r13.2 x18).bind fun _ =>
  (f_X1_emit N r13.2 x18 9 0).bind fun r20 =>
  some (.inl ((v2 + 1, r20)))
def f_X4_readExpr_b63 (N : Nat) (rf : AH → Nat → Int32 → Option (Int32 × AH)) (v0 : Nat) (v1 : Int32) (v2 : Int32) (h : AH) : Option (Int32 × AH) :=
  (itr (fun s => f_X4_readExpr_l63 N rf v0 v1 s.1 s.2) N (v2, h)).bind (Sum.elim (fun e => some (0, e)) (fun e => some (1, e)))
def f_X4_readExpr_b36 (N : Nat) (rf : AH → Nat → Int32 → Option (Int32 × AH)) (v0 : Nat) (w0 : Int32) (h : AH) : Option (Int32 × AH) :=
  if w0 = 0 then (jck 4 h v0).bind fun _ =>
  (f_X4_refuseToken N h v0 1).bind fun r25 =>
  if narrow .boolean (.int r25.1) = .int r25.1 then some (r25.1, r25.2) else none
  else (jck 4 h v0).bind fun _ =>
  (f_X4_refuseToken N h v0 2).bind fun r30 =>
  if narrow .boolean (.int r30.1) = .int r30.1 then some (r30.1, r30.2) else none
def f_X4_readExpr_b31 (N : Nat) (rf : AH → Nat → Int32 → Option (Int32 × AH)) (v0 : Nat) (h : AH) : Option (Int32 × AH) :=
  f_X4_readExpr_b36 N rf v0 1 h
def f_X4_readExpr (N : Nat) (rf : AH → Nat → Int32 → Option (Int32 × AH)) (h : AH) (a0 : Nat) (a1 : Int32) : Option (Int32 × AH) :=
  if a1 < 6 then (jck 4 h a0).bind fun _ =>
  (f_X4_readAnd N rf h a0 a1).bind fun r36 =>
  if r36.1 = 0 then some (0, r36.2)
  else f_X4_readExpr_b63 N rf a0 a1 0 r36.2
  else (jgi 4 h a0 7).bind fun x41 =>
  if x41 = 2 then f_X4_readExpr_b31 N rf a0 h
  else (jgi 4 h a0 7).bind fun x44 =>
  if x44 = 1 then f_X4_readExpr_b31 N rf a0 h
  else (jck 4 h a0).bind fun _ =>
  (f_X4_isSign N h a0 40).bind fun r47 =>
  if r47.1 = 0 then f_X4_readExpr_b36 N rf a0 0 r47.2
  else f_X4_readExpr_b31 N rf a0 r47.2
set_option maxRecDepth 100000 in
set_option maxHeartbeats 4000000 in
theorem lk_X4_readExpr_l63 {G : JG} {X : JX} {dR : Nat} (E : jE G X (RX4, cX4_readExpr, 3)) (hX : X.2.2.2.1 = jRm (dR + 15) 0 0) (hr : X.2.2.2.2.2.2.2.2.1.sig.returnType = (some .boolean)) (N : Nat) {rf : AH → Nat → Int32 → Option (Int32 × AH)} (hrec : ∀ (h : AH) (a : Nat) (n : Int32) (r : (Int32 × AH)), rf h a n = some r → jMet G X.2.1 yX4_readExpr cX4_readExpr 3 (some .boolean) dR 0 0 [.ref a, .int n] h (jpi r)) {Q : State → Prop} {v0 : Nat} {v1 : Int32} {v2 : Int32}  {h : AH} {q : ((Int32 × AH) ⊕ ((AH) ⊕ (AH)))} (hf : f_X4_readExpr_l63 N rf v0 v1 v2 h = some q) (kb : ∀ s' : Int32 × AH, q = .inl s' → JW G X (RX4, cX4_readExpr, 3) s'.2 [(0, .ref v0), (1, .int v1), (2, .int s'.1)] [] 63 0 0 Q) (ke0 : ∀ e : AH, q = .inr (.inl e) → JW G X (RX4, cX4_readExpr, 3) e [] [] 92 0 0 Q) (ke1 : ∀ e : AH, q = .inr (.inr e) → JW G X (RX4, cX4_readExpr, 3) e [] [] 110 0 0 Q) : JW G X (RX4, cX4_readExpr, 3) h [(0, .ref v0), (1, .int v1), (2, .int v2)] [] 63 0 0 Q := by
  unfold f_X4_readExpr_l63 at hf
  refine J_iload_n E (jd dk_X4_readExpr_0 35 rfl) rfl 2 rfl ?_
  refine J_aload_n E (jd dk_X4_readExpr_0 36 rfl) rfl 0 rfl ?_
  obtain ⟨x1, e2, hf⟩ := jbind hf
  refine J_geti E (jd dk_X4_readExpr_0 37 rfl) fl_RX4_22 e2 ?_
  refine J_icmp_gt (tgt := 110) E (jd dk_X4_readExpr_0 38 rfl) (by decide) (fun c3 => ?_) (fun c3 => ?_)
  · replace hf := jif_t c3 hf
    refine J_sub [] rfl ?_
    exact ke1 _ (Option.some.inj hf).symm
  · replace hf := jif_f c3 hf
    refine J_aload_n E (jd dk_X4_readExpr_0 39 rfl) rfl 0 rfl ?_
    refine J_ldcS (j := 15) (tx := "or") E (jd dk_X4_readExpr_0 40 rfl) rfl ?_
    obtain ⟨u6, e7, hf⟩ := jbind hf
    obtain ⟨r4, e5, hf⟩ := jbind hf
    refine J_callV E (jd dk_X4_readExpr_0 41 rfl) ml_RX4_100 cal_X4_isWord e7 rfl (lk_X4_isWord (jE_g E) (jE_tr E) N e5) rfl (Nat.le_of_ble_eq_true rfl) (jR_le hX (by omega) (by decide)) (jF0 hX) rfl ?_
    rintro _ _ ⟨rfl, rfl⟩
    refine J_if_eq (tgt := 110) E (jd dk_X4_readExpr_0 42 rfl) (by decide) (fun c8 => ?_) (fun c8 => ?_)
    · replace hf := jif_t c8 hf
      refine J_sub [] rfl ?_
      exact ke1 _ (Option.some.inj hf).symm
    · replace hf := jif_f c8 hf
      refine J_aload_n E (jd dk_X4_readExpr_0 43 rfl) rfl 0 rfl ?_
      obtain ⟨u11, e12, hf⟩ := jbind hf
      obtain ⟨r9, e10, hf⟩ := jbind hf
      refine J_callV E (jd dk_X4_readExpr_0 44 rfl) ml_RX4_66 cal_X4_next e12 rfl (lk_X4_next (jE_g E) (jE_tr E) N e10) rfl (Nat.le_of_ble_eq_true rfl) (jR_le hX (by omega) (by decide)) (jF0 hX) rfl ?_
      rintro _ _ ⟨rfl, rfl⟩
      refine J_aload_n E (jd dk_X4_readExpr_0 45 rfl) rfl 0 rfl ?_
      refine J_iload_n E (jd dk_X4_readExpr_0 46 rfl) rfl 1 rfl ?_
      obtain ⟨u15, e16, hf⟩ := jbind hf
      obtain ⟨r13, e14, hf⟩ := jbind hf
      refine J_callV E (jd dk_X4_readExpr_0 47 rfl) ml_RX4_195 cal_X4_readAnd e16 rfl (lk_X4_readAnd (jE_g E) (jE_tr E) N hrec e14) rfl (Nat.le_of_ble_eq_true rfl) (jR_le hX (by omega) (by decide)) (jF0 hX) rfl ?_
      rintro _ _ ⟨rfl, rfl⟩
      refine J_if_ne (tgt := 94) E (jd dk_X4_readExpr_0 48 rfl) (by decide) (fun c17 => ?_) (fun c17 => ?_)
      · replace hf := jif_f c17 hf
        refine J_aload_n E (jd dk_X4_readExpr_1 1 rfl) rfl 0 rfl ?_
        obtain ⟨x18, e19, hf⟩ := jbind hf
        refine J_getr E (jd dk_X4_readExpr_1 2 rfl) fl_RX4_28 e19 ?_
        refine J_bipush (v := 9) E (jd dk_X4_readExpr_1 3 rfl) (by decide) ?_
        refine J_iconst (v := 0) E (jd dk_X4_readExpr_1 4 rfl) rfl ?_
        obtain ⟨u22, e23, hf⟩ := jbind hf
        obtain ⟨r20, e21, hf⟩ := jbind hf
        refine J_callV E (jd dk_X4_readExpr_1 5 rfl) ml_RX4_202 cal_X1_emit e23 rfl (lk_X1_emit (jE_g E) (jE_tr E) N e21) rfl (Nat.le_of_ble_eq_true rfl) (jR_le hX (by omega) (by decide)) (jF0 hX) rfl ?_
        rintro _ _ ⟨rfl, rfl⟩
        refine J_iinc (v := v2 + 1) (lv' := [(2, .int (v2 + 1)), (0, .ref v0), (1, .int v1)]) E (jd dk_X4_readExpr_1 6 rfl) 2 rfl rfl (by decide) rfl ?_
        refine J_goto (tgt := 63) E (jd dk_X4_readExpr_1 7 rfl) (by decide) ?_
        refine J_sub [1, 2, 0] rfl ?_
        exact kb _ (Option.some.inj hf).symm
      · replace hf := jif_t c17 hf
        refine J_sub [] rfl ?_
        exact ke0 _ (Option.some.inj hf).symm
set_option maxRecDepth 100000 in
set_option maxHeartbeats 4000000 in
theorem lk_X4_readExpr_b63 {G : JG} {X : JX} {dR : Nat} (E : jE G X (RX4, cX4_readExpr, 3)) (hX : X.2.2.2.1 = jRm (dR + 15) 0 0) (hr : X.2.2.2.2.2.2.2.2.1.sig.returnType = (some .boolean)) (N : Nat) {rf : AH → Nat → Int32 → Option (Int32 × AH)} (hrec : ∀ (h : AH) (a : Nat) (n : Int32) (r : (Int32 × AH)), rf h a n = some r → jMet G X.2.1 yX4_readExpr cX4_readExpr 3 (some .boolean) dR 0 0 [.ref a, .int n] h (jpi r)) {v0 : Nat} {v1 : Int32} {v2 : Int32} {h : AH}  {r : (Int32 × AH)} (hf : f_X4_readExpr_b63 N rf v0 v1 v2 h = some r) : JW G X (RX4, cX4_readExpr, 3) h [(0, .ref v0), (1, .int v1), (2, .int v2)] [] 63 0 0 (jEnd G X (jpi r) 0 0) := by
  unfold f_X4_readExpr_b63 at hf
  obtain ⟨q1, h1, hf⟩ := jbind hf
  refine jloop (P := fun s => JW G X (RX4, cX4_readExpr, 3) s.2 [(0, .ref v0), (1, .int v1), (2, .int s.1)] [] 63 0 0 (jEnd G X (jpi r) 0 0)) (Ex := Sum.elim (fun (e : AH) => JW G X (RX4, cX4_readExpr, 3) e [] [] 92 0 0 (jEnd G X (jpi r) 0 0)) (fun (e : AH) => JW G X (RX4, cX4_readExpr, 3) e [] [] 110 0 0 (jEnd G X (jpi r) 0 0))) (fun s q hs hb hx => lk_X4_readExpr_l63 E hX hr N hrec hs (fun s' hs => hb s' hs) (fun e he => hx _ he) (fun e he => hx _ he)) N _ q1 h1 ?_
  rcases q1 with e | e
  · refine J_iconst (v := 0) E (jd dk_X4_readExpr_0 49 rfl) rfl ?_
    cases hf
    exact J_iret E hr rfl (jd dk_X4_readExpr_1 0 rfl) (Nat.le_refl _) (Nat.le_refl _) ⟨rfl, rfl⟩
  · refine J_iconst (v := 1) E (jd dk_X4_readExpr_1 8 rfl) rfl ?_
    cases hf
    exact J_iret E hr rfl (jd dk_X4_readExpr_1 9 rfl) (Nat.le_refl _) (Nat.le_refl _) ⟨rfl, rfl⟩
set_option maxRecDepth 100000 in
set_option maxHeartbeats 4000000 in
theorem lk_X4_readExpr_b36 {G : JG} {X : JX} {dR : Nat} (E : jE G X (RX4, cX4_readExpr, 3)) (hX : X.2.2.2.1 = jRm (dR + 15) 0 0) (hr : X.2.2.2.2.2.2.2.2.1.sig.returnType = (some .boolean)) (N : Nat) {rf : AH → Nat → Int32 → Option (Int32 × AH)} (hrec : ∀ (h : AH) (a : Nat) (n : Int32) (r : (Int32 × AH)), rf h a n = some r → jMet G X.2.1 yX4_readExpr cX4_readExpr 3 (some .boolean) dR 0 0 [.ref a, .int n] h (jpi r)) {v0 : Nat} {w0 : Int32} {h : AH}  {r : (Int32 × AH)} (hf : f_X4_readExpr_b36 N rf v0 w0 h = some r) : JW G X (RX4, cX4_readExpr, 3) h [(0, .ref v0)] [.int w0] 36 0 0 (jEnd G X (jpi r) 0 0) := by
  unfold f_X4_readExpr_b36 at hf
  refine J_istore_n (lv' := [(2, .int w0), (0, .ref v0)]) E (jd dk_X4_readExpr_0 18 rfl) rfl (by decide) rfl ?_
  refine J_aload_n E (jd dk_X4_readExpr_0 19 rfl) rfl 1 rfl ?_
  refine J_iload_n E (jd dk_X4_readExpr_0 20 rfl) rfl 0 rfl ?_
  refine J_if_eq (tgt := 46) E (jd dk_X4_readExpr_0 21 rfl) (by decide) (fun c24 => ?_) (fun c24 => ?_)
  · replace hf := jif_t c24 hf
    refine J_iconst (v := 1) E (jd dk_X4_readExpr_0 24 rfl) rfl ?_
    obtain ⟨u27, e28, hf⟩ := jbind hf
    obtain ⟨r25, e26, hf⟩ := jbind hf
    refine J_callV E (jd dk_X4_readExpr_0 25 rfl) ml_RX4_130 cal_X4_refuseToken e28 rfl (lk_X4_refuseToken (jE_g E) (jE_tr E) N e26) rfl (Nat.le_of_ble_eq_true rfl) (jR_le hX (by omega) (by decide)) (jF0 hX) rfl ?_
    rintro _ _ ⟨rfl, rfl⟩
    obtain ⟨n29, hf⟩ := jnw hf
    cases hf
    exact J_iret E hr n29 (jd dk_X4_readExpr_0 26 rfl) (Nat.le_refl _) (Nat.le_refl _) ⟨rfl, rfl⟩
  · replace hf := jif_f c24 hf
    refine J_iconst (v := 2) E (jd dk_X4_readExpr_0 22 rfl) rfl ?_
    refine J_goto (tgt := 47) E (jd dk_X4_readExpr_0 23 rfl) (by decide) ?_
    obtain ⟨u32, e33, hf⟩ := jbind hf
    obtain ⟨r30, e31, hf⟩ := jbind hf
    refine J_callV E (jd dk_X4_readExpr_0 25 rfl) ml_RX4_130 cal_X4_refuseToken e33 rfl (lk_X4_refuseToken (jE_g E) (jE_tr E) N e31) rfl (Nat.le_of_ble_eq_true rfl) (jR_le hX (by omega) (by decide)) (jF0 hX) rfl ?_
    rintro _ _ ⟨rfl, rfl⟩
    obtain ⟨n34, hf⟩ := jnw hf
    cases hf
    exact J_iret E hr n34 (jd dk_X4_readExpr_0 26 rfl) (Nat.le_refl _) (Nat.le_refl _) ⟨rfl, rfl⟩
set_option maxRecDepth 100000 in
set_option maxHeartbeats 4000000 in
theorem lk_X4_readExpr_b31 {G : JG} {X : JX} {dR : Nat} (E : jE G X (RX4, cX4_readExpr, 3)) (hX : X.2.2.2.1 = jRm (dR + 15) 0 0) (hr : X.2.2.2.2.2.2.2.2.1.sig.returnType = (some .boolean)) (N : Nat) {rf : AH → Nat → Int32 → Option (Int32 × AH)} (hrec : ∀ (h : AH) (a : Nat) (n : Int32) (r : (Int32 × AH)), rf h a n = some r → jMet G X.2.1 yX4_readExpr cX4_readExpr 3 (some .boolean) dR 0 0 [.ref a, .int n] h (jpi r)) {v0 : Nat} {h : AH}  {r : (Int32 × AH)} (hf : f_X4_readExpr_b31 N rf v0 h = some r) : JW G X (RX4, cX4_readExpr, 3) h [(0, .ref v0)] [] 31 0 0 (jEnd G X (jpi r) 0 0) := by
  unfold f_X4_readExpr_b31 at hf
  refine J_iconst (v := 1) E (jd dk_X4_readExpr_0 15 rfl) rfl ?_
  refine J_goto (tgt := 36) E (jd dk_X4_readExpr_0 16 rfl) (by decide) ?_
  exact lk_X4_readExpr_b36 E hX hr N hrec hf
set_option maxRecDepth 100000 in
set_option maxHeartbeats 4000000 in
theorem lk_X4_readExpr {G : JG} {l : Launch} (hG : jG G) (htr : l.stackTraces = false) (N : Nat) {rf : AH → Nat → Int32 → Option (Int32 × AH)} {dR : Nat} (hrec : ∀ (h : AH) (a : Nat) (n : Int32) (r : (Int32 × AH)), rf h a n = some r → jMet G l yX4_readExpr cX4_readExpr 3 (some .boolean) dR 0 0 [.ref a, .int n] h (jpi r)) {h : AH} {a0 : Nat} {a1 : Int32} {r : (Int32 × AH)} (hf : f_X4_readExpr N rf h a0 a1 = some r) : jMet G l yX4_readExpr cX4_readExpr 3 (some .boolean) (dR + 15) 0 0 [.ref a0, .int a1] h (jpi r) := by
  unfold f_X4_readExpr at hf
  refine jMet_of hG htr (by decide) (Nat.le_of_ble_eq_true rfl) ?_
  intro X E hl9 hr hX _ _
  subst hl9
  show JW G X (RX4, cX4_readExpr, 3) h [(0, .ref a0), (1, .int a1)] [] 0 0 0 (jEnd G X (jpi r) 0 0)
  refine J_iload_n E (jd dk_X4_readExpr_0 0 rfl) rfl 1 rfl ?_
  refine J_bipush (v := 6) E (jd dk_X4_readExpr_0 1 rfl) (by decide) ?_
  refine J_icmp_lt (tgt := 51) E (jd dk_X4_readExpr_0 2 rfl) (by decide) (fun c35 => ?_) (fun c35 => ?_)
  · replace hf := jif_t c35 hf
    refine J_aload_n E (jd dk_X4_readExpr_0 27 rfl) rfl 0 rfl ?_
    refine J_iload_n E (jd dk_X4_readExpr_0 28 rfl) rfl 1 rfl ?_
    obtain ⟨u38, e39, hf⟩ := jbind hf
    obtain ⟨r36, e37, hf⟩ := jbind hf
    refine J_callV E (jd dk_X4_readExpr_0 29 rfl) ml_RX4_195 cal_X4_readAnd e39 rfl (lk_X4_readAnd (jE_g E) (jE_tr E) N hrec e37) rfl (Nat.le_of_ble_eq_true rfl) (jR_le hX (by omega) (by decide)) (jF0 hX) rfl ?_
    rintro _ _ ⟨rfl, rfl⟩
    refine J_if_ne (tgt := 61) E (jd dk_X4_readExpr_0 30 rfl) (by decide) (fun c40 => ?_) (fun c40 => ?_)
    · replace hf := jif_f c40 hf
      refine J_iconst (v := 0) E (jd dk_X4_readExpr_0 33 rfl) rfl ?_
      refine J_istore_n (lv' := [(2, .int 0), (0, .ref a0), (1, .int a1)]) E (jd dk_X4_readExpr_0 34 rfl) rfl (by decide) rfl ?_
      refine J_sub [1, 2, 0] rfl ?_
      exact lk_X4_readExpr_b63 E hX hr N hrec hf
    · replace hf := jif_t c40 hf
      refine J_iconst (v := 0) E (jd dk_X4_readExpr_0 31 rfl) rfl ?_
      cases hf
      exact J_iret E hr rfl (jd dk_X4_readExpr_0 32 rfl) (Nat.le_refl _) (Nat.le_refl _) ⟨rfl, rfl⟩
  · replace hf := jif_f c35 hf
    refine J_aload_n E (jd dk_X4_readExpr_0 3 rfl) rfl 0 rfl ?_
    obtain ⟨x41, e42, hf⟩ := jbind hf
    refine J_geti E (jd dk_X4_readExpr_0 4 rfl) fl_RX4_38 e42 ?_
    refine J_iconst (v := 2) E (jd dk_X4_readExpr_0 5 rfl) rfl ?_
    refine J_icmp_eq (tgt := 31) E (jd dk_X4_readExpr_0 6 rfl) (by decide) (fun c43 => ?_) (fun c43 => ?_)
    · replace hf := jif_t c43 hf
      refine J_sub [0] rfl ?_
      exact lk_X4_readExpr_b31 E hX hr N hrec hf
    · replace hf := jif_f c43 hf
      refine J_aload_n E (jd dk_X4_readExpr_0 7 rfl) rfl 0 rfl ?_
      obtain ⟨x44, e45, hf⟩ := jbind hf
      refine J_geti E (jd dk_X4_readExpr_0 8 rfl) fl_RX4_38 e45 ?_
      refine J_iconst (v := 1) E (jd dk_X4_readExpr_0 9 rfl) rfl ?_
      refine J_icmp_eq (tgt := 31) E (jd dk_X4_readExpr_0 10 rfl) (by decide) (fun c46 => ?_) (fun c46 => ?_)
      · replace hf := jif_t c46 hf
        refine J_sub [0] rfl ?_
        exact lk_X4_readExpr_b31 E hX hr N hrec hf
      · replace hf := jif_f c46 hf
        refine J_aload_n E (jd dk_X4_readExpr_0 11 rfl) rfl 0 rfl ?_
        refine J_bipush (v := 40) E (jd dk_X4_readExpr_0 12 rfl) (by decide) ?_
        obtain ⟨u49, e50, hf⟩ := jbind hf
        obtain ⟨r47, e48, hf⟩ := jbind hf
        refine J_callV E (jd dk_X4_readExpr_0 13 rfl) ml_RX4_192 cal_X4_isSign e50 rfl (lk_X4_isSign (jE_g E) (jE_tr E) N e48) rfl (Nat.le_of_ble_eq_true rfl) (jR_le hX (by omega) (by decide)) (jF0 hX) rfl ?_
        rintro _ _ ⟨rfl, rfl⟩
        refine J_if_eq (tgt := 35) E (jd dk_X4_readExpr_0 14 rfl) (by decide) (fun c51 => ?_) (fun c51 => ?_)
        · replace hf := jif_t c51 hf
          refine J_iconst (v := 0) E (jd dk_X4_readExpr_0 17 rfl) rfl ?_
          refine J_sub [0] rfl ?_
          exact lk_X4_readExpr_b36 E hX hr N hrec hf
        · replace hf := jif_f c51 hf
          refine J_sub [0] rfl ?_
          exact lk_X4_readExpr_b31 E hX hr N hrec hf
def fr_X4_readExpr (N : Nat) : Nat → AH → Nat → Int32 → Option (Int32 × AH)
  | 0 => fun _ _ _ => none
  | d + 1 => fun h a n => f_X4_readExpr N (fr_X4_readExpr N d) h a n
set_option maxRecDepth 100000 in
set_option maxHeartbeats 4000000 in
theorem lkq_X4_readExpr {G : JG} {l : Launch} (hG : jG G) (htr : l.stackTraces = false) (N : Nat) : ∀ (d : Nat) (h : AH) (a : Nat) (n : Int32) (r : (Int32 × AH)), fr_X4_readExpr N d h a n = some r → jMet G l yX4_readExpr cX4_readExpr 3 (some .boolean) (15 * d) 0 0 [.ref a, .int n] h (jpi r) := by
  intro d
  induction d with
  | zero => intro h a n r hf; cases hf
  | succ d ih => intro h a n r hf; exact lk_X4_readExpr hG htr N ih hf
set_option maxRecDepth 100000 in
set_option maxHeartbeats 4000000 in
theorem lkr_X4_readExpr {G : JG} {l : Launch} (hG : jG G) (htr : l.stackTraces = false) (N : Nat) {h : AH} {a : Nat} {n : Int32} {r : (Int32 × AH)} (hf : fr_X4_readExpr N 7 h a n = some r) : jMet G l yX4_readExpr cX4_readExpr 3 (some .boolean) 105 0 0 [.ref a, .int n] h (jpi r) := lkq_X4_readExpr hG htr N 7 h a n r hf
def f_X4_exchange (N : Nat) (h : AH) (a0 : Nat) (a1 : Nat) : Option (Nat × AH) :=
  (jgr 4 h a0 4).bind fun x1 =>
  (jwr 4 h a0 4 a1).bind fun h3 =>
  some (x1, h3)
set_option maxRecDepth 100000 in
set_option maxHeartbeats 4000000 in
theorem lk_X4_exchange {G : JG} {l : Launch} (hG : jG G) (htr : l.stackTraces = false) (N : Nat) {h : AH} {a0 : Nat} {a1 : Nat} {r : (Nat × AH)} (hf : f_X4_exchange N h a0 a1 = some r) : jMet G l yX4_exchange cX4_exchange 3 (some (.object "RoundCoracles$Gorge")) 0 0 0 [.ref a0, .ref a1] h (jpa r) := by
  unfold f_X4_exchange at hf
  refine jMet_of hG htr (by decide) (Nat.le_of_ble_eq_true rfl) ?_
  intro X E hl9 hr hX _ _
  show JW G X (RX4, cX4_exchange, 3) h [(0, .ref a0), (1, .ref a1)] [] 0 0 0 (jEnd G X (jpa r) 0 0)
  refine J_aload_n E (jd dk_X4_exchange_0 0 rfl) rfl 0 rfl ?_
  obtain ⟨x1, e2, hf⟩ := jbind hf
  refine J_getr E (jd dk_X4_exchange_0 1 rfl) fl_RX4_28 e2 ?_
  refine J_astore_n (lv' := [(2, .ref x1), (0, .ref a0), (1, .ref a1)]) E (jd dk_X4_exchange_0 2 rfl) rfl (by decide) rfl ?_
  refine J_aload_n E (jd dk_X4_exchange_0 3 rfl) rfl 1 rfl ?_
  refine J_aload_n E (jd dk_X4_exchange_0 4 rfl) rfl 2 rfl ?_
  obtain ⟨h3, e4, hf⟩ := jbind hf
  refine J_put E (jd dk_X4_exchange_0 5 rfl) fl_RX4_28 e4 (fun _ => rfl) (fun _ => rfl) ?_
  refine J_aload_n E (jd dk_X4_exchange_0 6 rfl) rfl 0 rfl ?_
  cases hf
  exact J_aret E hr (Or.inl ⟨_, rfl⟩) (jd dk_X4_exchange_0 7 rfl) (Nat.le_refl _) (Nat.le_refl _) ⟨rfl, rfl⟩
def f_X4_readSides (N : Nat) (h : AH) (a0 : Nat) : Option (Int32 × AH) :=
  (jgr 4 h a0 4).bind fun x1 =>
  (jgi 1 h x1 2).bind fun x3 =>
  if x3 ≤ 0 then (jgi 4 h a0 11).bind fun x6 =>
  if x6 = 0 then (jck 4 h a0).bind fun _ =>
  (f_X4_next N h a0).bind fun r9 =>
  (jck 4 r9 a0).bind fun _ =>
  (f_X4_readNumber N r9 a0 2 8 2).bind fun r13 =>
  if r13.1 = 0 then some (0, r13.2)
  else (jwz 4 r13.2 a0 11 1).bind fun h18 =>
  (jgr 4 h18 a0 4).bind fun x20 =>
  (jgi 4 h18 a0 10).bind fun x22 =>
  (jwi 1 h18 x20 0 x22).bind fun h24 =>
  (jck 4 h24 a0).bind fun _ =>
  (f_X4_readSign N h24 a0 59).bind fun r26 =>
  if narrow .boolean (.int r26.1) = .int r26.1 then some (r26.1, r26.2) else none
  else (jck 4 h a0).bind fun _ =>
  (f_X4_refuseToken N h a0 5).bind fun r31 =>
  if narrow .boolean (.int r31.1) = .int r31.1 then some (r31.1, r31.2) else none
  else (jck 4 h a0).bind fun _ =>
  (f_X4_refuseToken N h a0 4).bind fun r36 =>
  if narrow .boolean (.int r36.1) = .int r36.1 then some (r36.1, r36.2) else none
set_option maxRecDepth 100000 in
set_option maxHeartbeats 4000000 in
theorem lk_X4_readSides {G : JG} {l : Launch} (hG : jG G) (htr : l.stackTraces = false) (N : Nat) {h : AH} {a0 : Nat} {r : (Int32 × AH)} (hf : f_X4_readSides N h a0 = some r) : jMet G l yX4_readSides cX4_readSides 1 (some .boolean) 3 0 0 [.ref a0] h (jpi r) := by
  unfold f_X4_readSides at hf
  refine jMet_of hG htr (by decide) (Nat.le_of_ble_eq_true rfl) ?_
  intro X E hl9 hr hX _ _
  show JW G X (RX4, cX4_readSides, 1) h [(0, .ref a0)] [] 0 0 0 (jEnd G X (jpi r) 0 0)
  refine J_aload_n E (jd dk_X4_readSides_0 0 rfl) rfl 0 rfl ?_
  obtain ⟨x1, e2, hf⟩ := jbind hf
  refine J_getr E (jd dk_X4_readSides_0 1 rfl) fl_RX4_28 e2 ?_
  obtain ⟨x3, e4, hf⟩ := jbind hf
  refine J_geti E (jd dk_X4_readSides_0 2 rfl) fl_RX4_133 e4 ?_
  refine J_if_le (tgt := 16) E (jd dk_X4_readSides_0 3 rfl) (by decide) (fun c5 => ?_) (fun c5 => ?_)
  · replace hf := jif_t c5 hf
    refine J_aload_n E (jd dk_X4_readSides_0 8 rfl) rfl 0 rfl ?_
    obtain ⟨x6, e7, hf⟩ := jbind hf
    refine J_geti E (jd dk_X4_readSides_0 9 rfl) fl_RX4_50 e7 ?_
    refine J_if_eq (tgt := 29) E (jd dk_X4_readSides_0 10 rfl) (by decide) (fun c8 => ?_) (fun c8 => ?_)
    · replace hf := jif_t c8 hf
      refine J_aload_n E (jd dk_X4_readSides_0 15 rfl) rfl 0 rfl ?_
      obtain ⟨u11, e12, hf⟩ := jbind hf
      obtain ⟨r9, e10, hf⟩ := jbind hf
      refine J_callV E (jd dk_X4_readSides_0 16 rfl) ml_RX4_66 cal_X4_next e12 rfl (lk_X4_next (jE_g E) (jE_tr E) N e10) rfl (Nat.le_of_ble_eq_true rfl) (jR_le hX (by decide) (by decide)) (jF0 hX) rfl ?_
      rintro _ _ ⟨rfl, rfl⟩
      refine J_aload_n E (jd dk_X4_readSides_0 17 rfl) rfl 0 rfl ?_
      refine J_iconst (v := 2) E (jd dk_X4_readSides_0 18 rfl) rfl ?_
      refine J_bipush (v := 8) E (jd dk_X4_readSides_0 19 rfl) (by decide) ?_
      refine J_iconst (v := 2) E (jd dk_X4_readSides_0 20 rfl) rfl ?_
      obtain ⟨u15, e16, hf⟩ := jbind hf
      obtain ⟨r13, e14, hf⟩ := jbind hf
      refine J_callV E (jd dk_X4_readSides_0 21 rfl) ml_RX4_136 cal_X4_readNumber e16 rfl (lk_X4_readNumber (jE_g E) (jE_tr E) N e14) rfl (Nat.le_of_ble_eq_true rfl) (jR_le hX (by decide) (by decide)) (jF0 hX) rfl ?_
      rintro _ _ ⟨rfl, rfl⟩
      refine J_if_ne (tgt := 46) E (jd dk_X4_readSides_0 22 rfl) (by decide) (fun c17 => ?_) (fun c17 => ?_)
      · replace hf := jif_f c17 hf
        refine J_aload_n E (jd dk_X4_readSides_0 25 rfl) rfl 0 rfl ?_
        refine J_iconst (v := 1) E (jd dk_X4_readSides_0 26 rfl) rfl ?_
        obtain ⟨h18, e19, hf⟩ := jbind hf
        refine J_putz E (jd dk_X4_readSides_0 27 rfl) fl_RX4_50 e19 ?_
        refine J_aload_n E (jd dk_X4_readSides_0 28 rfl) rfl 0 rfl ?_
        obtain ⟨x20, e21, hf⟩ := jbind hf
        refine J_getr E (jd dk_X4_readSides_0 29 rfl) fl_RX4_28 e21 ?_
        refine J_aload_n E (jd dk_X4_readSides_0 30 rfl) rfl 0 rfl ?_
        obtain ⟨x22, e23, hf⟩ := jbind hf
        refine J_geti E (jd dk_X4_readSides_0 31 rfl) fl_RX4_47 e23 ?_
        obtain ⟨h24, e25, hf⟩ := jbind hf
        refine J_put E (jd dk_X4_readSides_0 32 rfl) fl_RX4_140 e25 (fun _ => rfl) (fun _ => rfl) ?_
        refine J_aload_n E (jd dk_X4_readSides_0 33 rfl) rfl 0 rfl ?_
        refine J_bipush (v := 59) E (jd dk_X4_readSides_0 34 rfl) (by decide) ?_
        obtain ⟨u28, e29, hf⟩ := jbind hf
        obtain ⟨r26, e27, hf⟩ := jbind hf
        refine J_callV E (jd dk_X4_readSides_0 35 rfl) ml_RX4_142 cal_X4_readSign e29 rfl (lk_X4_readSign (jE_g E) (jE_tr E) N e27) rfl (Nat.le_of_ble_eq_true rfl) (jR_le hX (by decide) (by decide)) (jF0 hX) rfl ?_
        rintro _ _ ⟨rfl, rfl⟩
        obtain ⟨n30, hf⟩ := jnw hf
        cases hf
        exact J_iret E hr n30 (jd dk_X4_readSides_0 36 rfl) (Nat.le_refl _) (Nat.le_refl _) ⟨rfl, rfl⟩
      · replace hf := jif_t c17 hf
        refine J_iconst (v := 0) E (jd dk_X4_readSides_0 23 rfl) rfl ?_
        cases hf
        exact J_iret E hr rfl (jd dk_X4_readSides_0 24 rfl) (Nat.le_refl _) (Nat.le_refl _) ⟨rfl, rfl⟩
    · replace hf := jif_f c8 hf
      refine J_aload_n E (jd dk_X4_readSides_0 11 rfl) rfl 0 rfl ?_
      refine J_iconst (v := 5) E (jd dk_X4_readSides_0 12 rfl) rfl ?_
      obtain ⟨u33, e34, hf⟩ := jbind hf
      obtain ⟨r31, e32, hf⟩ := jbind hf
      refine J_callV E (jd dk_X4_readSides_0 13 rfl) ml_RX4_130 cal_X4_refuseToken e34 rfl (lk_X4_refuseToken (jE_g E) (jE_tr E) N e32) rfl (Nat.le_of_ble_eq_true rfl) (jR_le hX (by decide) (by decide)) (jF0 hX) rfl ?_
      rintro _ _ ⟨rfl, rfl⟩
      obtain ⟨n35, hf⟩ := jnw hf
      cases hf
      exact J_iret E hr n35 (jd dk_X4_readSides_0 14 rfl) (Nat.le_refl _) (Nat.le_refl _) ⟨rfl, rfl⟩
  · replace hf := jif_f c5 hf
    refine J_aload_n E (jd dk_X4_readSides_0 4 rfl) rfl 0 rfl ?_
    refine J_iconst (v := 4) E (jd dk_X4_readSides_0 5 rfl) rfl ?_
    obtain ⟨u38, e39, hf⟩ := jbind hf
    obtain ⟨r36, e37, hf⟩ := jbind hf
    refine J_callV E (jd dk_X4_readSides_0 6 rfl) ml_RX4_130 cal_X4_refuseToken e39 rfl (lk_X4_refuseToken (jE_g E) (jE_tr E) N e37) rfl (Nat.le_of_ble_eq_true rfl) (jR_le hX (by decide) (by decide)) (jF0 hX) rfl ?_
    rintro _ _ ⟨rfl, rfl⟩
    obtain ⟨n40, hf⟩ := jnw hf
    cases hf
    exact J_iret E hr n40 (jd dk_X4_readSides_0 7 rfl) (Nat.le_refl _) (Nat.le_refl _) ⟨rfl, rfl⟩
def f_X4_readReach (N : Nat) (h : AH) (a0 : Nat) : Option (Int32 × AH) :=
  (jgr 4 h a0 4).bind fun x1 =>
  (jgi 1 h x1 1).bind fun x3 =>
  if x3 < 9 then (jck 4 h a0).bind fun _ =>
  (f_X4_next N h a0).bind fun r6 =>
  (jck 4 r6 a0).bind fun _ =>
  (f_X4_readNumber N r6 a0 0 3 2).bind fun r10 =>
  if r10.1 = 0 then some (0, r10.2)
  else (jgr 4 r10.2 a0 4).bind fun x15 =>
  (jgr 1 r10.2 x15 3).bind fun x17 =>
  (jgi 4 r10.2 a0 10).bind fun x19 =>
  (jas 0 r10.2 x17 x3 x19).bind fun h21 =>
  (jck 4 h21 a0).bind fun _ =>
  (f_X4_readNumber N h21 a0 0 7 2).bind fun r23 =>
  if r23.1 = 0 then some (0, r23.2)
  else (jgr 4 r23.2 a0 4).bind fun x28 =>
  (jgr 1 r23.2 x28 4).bind fun x30 =>
  (jgi 4 r23.2 a0 10).bind fun x32 =>
  (jas 0 r23.2 x30 x3 x32).bind fun h34 =>
  (jgr 4 h34 a0 4).bind fun x36 =>
  (jgi 1 h34 x36 1).bind fun x38 =>
  (jwi 1 h34 x36 1 (x38 + 1)).bind fun h40 =>
  (jck 4 h40 a0).bind fun _ =>
  (f_X4_readSign N h40 a0 59).bind fun r42 =>
  if narrow .boolean (.int r42.1) = .int r42.1 then some (r42.1, r42.2) else none
  else (jck 4 h a0).bind fun _ =>
  (f_X4_refuseToken N h a0 2).bind fun r47 =>
  if narrow .boolean (.int r47.1) = .int r47.1 then some (r47.1, r47.2) else none
set_option maxRecDepth 100000 in
set_option maxHeartbeats 4000000 in
theorem lk_X4_readReach {G : JG} {l : Launch} (hG : jG G) (htr : l.stackTraces = false) (N : Nat) {h : AH} {a0 : Nat} {r : (Int32 × AH)} (hf : f_X4_readReach N h a0 = some r) : jMet G l yX4_readReach cX4_readReach 2 (some .boolean) 3 0 0 [.ref a0] h (jpi r) := by
  unfold f_X4_readReach at hf
  refine jMet_of hG htr (by decide) (Nat.le_of_ble_eq_true rfl) ?_
  intro X E hl9 hr hX _ _
  show JW G X (RX4, cX4_readReach, 2) h [(0, .ref a0)] [] 0 0 0 (jEnd G X (jpi r) 0 0)
  refine J_aload_n E (jd dk_X4_readReach_0 0 rfl) rfl 0 rfl ?_
  obtain ⟨x1, e2, hf⟩ := jbind hf
  refine J_getr E (jd dk_X4_readReach_0 1 rfl) fl_RX4_28 e2 ?_
  obtain ⟨x3, e4, hf⟩ := jbind hf
  refine J_geti E (jd dk_X4_readReach_0 2 rfl) fl_RX4_146 e4 ?_
  refine J_istore_n (lv' := [(1, .int x3), (0, .ref a0)]) E (jd dk_X4_readReach_0 3 rfl) rfl (by decide) rfl ?_
  refine J_iload_n E (jd dk_X4_readReach_0 4 rfl) rfl 0 rfl ?_
  refine J_bipush (v := 9) E (jd dk_X4_readReach_0 5 rfl) (by decide) ?_
  refine J_icmp_lt (tgt := 20) E (jd dk_X4_readReach_0 6 rfl) (by decide) (fun c5 => ?_) (fun c5 => ?_)
  · replace hf := jif_t c5 hf
    refine J_aload_n E (jd dk_X4_readReach_0 11 rfl) rfl 1 rfl ?_
    obtain ⟨u8, e9, hf⟩ := jbind hf
    obtain ⟨r6, e7, hf⟩ := jbind hf
    refine J_callV E (jd dk_X4_readReach_0 12 rfl) ml_RX4_66 cal_X4_next e9 rfl (lk_X4_next (jE_g E) (jE_tr E) N e7) rfl (Nat.le_of_ble_eq_true rfl) (jR_le hX (by decide) (by decide)) (jF0 hX) rfl ?_
    rintro _ _ ⟨rfl, rfl⟩
    refine J_aload_n E (jd dk_X4_readReach_0 13 rfl) rfl 1 rfl ?_
    refine J_iconst (v := 0) E (jd dk_X4_readReach_0 14 rfl) rfl ?_
    refine J_iconst (v := 3) E (jd dk_X4_readReach_0 15 rfl) rfl ?_
    refine J_iconst (v := 2) E (jd dk_X4_readReach_0 16 rfl) rfl ?_
    obtain ⟨u12, e13, hf⟩ := jbind hf
    obtain ⟨r10, e11, hf⟩ := jbind hf
    refine J_callV E (jd dk_X4_readReach_0 17 rfl) ml_RX4_136 cal_X4_readNumber e13 rfl (lk_X4_readNumber (jE_g E) (jE_tr E) N e11) rfl (Nat.le_of_ble_eq_true rfl) (jR_le hX (by decide) (by decide)) (jF0 hX) rfl ?_
    rintro _ _ ⟨rfl, rfl⟩
    refine J_if_ne (tgt := 36) E (jd dk_X4_readReach_0 18 rfl) (by decide) (fun c14 => ?_) (fun c14 => ?_)
    · replace hf := jif_f c14 hf
      refine J_aload_n E (jd dk_X4_readReach_0 21 rfl) rfl 1 rfl ?_
      obtain ⟨x15, e16, hf⟩ := jbind hf
      refine J_getr E (jd dk_X4_readReach_0 22 rfl) fl_RX4_28 e16 ?_
      obtain ⟨x17, e18, hf⟩ := jbind hf
      refine J_getr E (jd dk_X4_readReach_0 23 rfl) fl_RX4_149 e18 ?_
      refine J_iload_n E (jd dk_X4_readReach_0 24 rfl) rfl 0 rfl ?_
      refine J_aload_n E (jd dk_X4_readReach_0 25 rfl) rfl 1 rfl ?_
      obtain ⟨x19, e20, hf⟩ := jbind hf
      refine J_geti E (jd dk_X4_readReach_0 26 rfl) fl_RX4_47 e20 ?_
      obtain ⟨h21, e22, hf⟩ := jbind hf
      refine J_iast E (jd dk_X4_readReach_0 27 rfl) e22 ?_
      refine J_aload_n E (jd dk_X4_readReach_0 28 rfl) rfl 1 rfl ?_
      refine J_iconst (v := 0) E (jd dk_X4_readReach_0 29 rfl) rfl ?_
      refine J_bipush (v := 7) E (jd dk_X4_readReach_0 30 rfl) (by decide) ?_
      refine J_iconst (v := 2) E (jd dk_X4_readReach_0 31 rfl) rfl ?_
      obtain ⟨u25, e26, hf⟩ := jbind hf
      obtain ⟨r23, e24, hf⟩ := jbind hf
      refine J_callV E (jd dk_X4_readReach_0 32 rfl) ml_RX4_136 cal_X4_readNumber e26 rfl (lk_X4_readNumber (jE_g E) (jE_tr E) N e24) rfl (Nat.le_of_ble_eq_true rfl) (jR_le hX (by decide) (by decide)) (jF0 hX) rfl ?_
      rintro _ _ ⟨rfl, rfl⟩
      refine J_if_ne (tgt := 62) E (jd dk_X4_readReach_0 33 rfl) (by decide) (fun c27 => ?_) (fun c27 => ?_)
      · replace hf := jif_f c27 hf
        refine J_aload_n E (jd dk_X4_readReach_0 36 rfl) rfl 1 rfl ?_
        obtain ⟨x28, e29, hf⟩ := jbind hf
        refine J_getr E (jd dk_X4_readReach_0 37 rfl) fl_RX4_28 e29 ?_
        obtain ⟨x30, e31, hf⟩ := jbind hf
        refine J_getr E (jd dk_X4_readReach_0 38 rfl) fl_RX4_153 e31 ?_
        refine J_iload_n E (jd dk_X4_readReach_0 39 rfl) rfl 0 rfl ?_
        refine J_aload_n E (jd dk_X4_readReach_0 40 rfl) rfl 1 rfl ?_
        obtain ⟨x32, e33, hf⟩ := jbind hf
        refine J_geti E (jd dk_X4_readReach_0 41 rfl) fl_RX4_47 e33 ?_
        obtain ⟨h34, e35, hf⟩ := jbind hf
        refine J_iast E (jd dk_X4_readReach_0 42 rfl) e35 ?_
        refine J_aload_n E (jd dk_X4_readReach_0 43 rfl) rfl 1 rfl ?_
        obtain ⟨x36, e37, hf⟩ := jbind hf
        refine J_getr E (jd dk_X4_readReach_0 44 rfl) fl_RX4_28 e37 ?_
        refine J_dup E (jd dk_X4_readReach_0 45 rfl) rfl ?_
        obtain ⟨x38, e39, hf⟩ := jbind hf
        refine J_geti E (jd dk_X4_readReach_0 46 rfl) fl_RX4_146 e39 ?_
        refine J_iconst (v := 1) E (jd dk_X4_readReach_0 47 rfl) rfl ?_
        refine J_iadd E (jd dk_X4_readReach_0 48 rfl) ?_
        obtain ⟨h40, e41, hf⟩ := jbind hf
        refine J_put E (jd dk_X4_readReach_0 49 rfl) fl_RX4_146 e41 (fun _ => rfl) (fun _ => rfl) ?_
        refine J_aload_n E (jd dk_X4_readReach_1 0 rfl) rfl 1 rfl ?_
        refine J_bipush (v := 59) E (jd dk_X4_readReach_1 1 rfl) (by decide) ?_
        obtain ⟨u44, e45, hf⟩ := jbind hf
        obtain ⟨r42, e43, hf⟩ := jbind hf
        refine J_callV E (jd dk_X4_readReach_1 2 rfl) ml_RX4_142 cal_X4_readSign e45 rfl (lk_X4_readSign (jE_g E) (jE_tr E) N e43) rfl (Nat.le_of_ble_eq_true rfl) (jR_le hX (by decide) (by decide)) (jF0 hX) rfl ?_
        rintro _ _ ⟨rfl, rfl⟩
        obtain ⟨n46, hf⟩ := jnw hf
        cases hf
        exact J_iret E hr n46 (jd dk_X4_readReach_1 3 rfl) (Nat.le_refl _) (Nat.le_refl _) ⟨rfl, rfl⟩
      · replace hf := jif_t c27 hf
        refine J_iconst (v := 0) E (jd dk_X4_readReach_0 34 rfl) rfl ?_
        cases hf
        exact J_iret E hr rfl (jd dk_X4_readReach_0 35 rfl) (Nat.le_refl _) (Nat.le_refl _) ⟨rfl, rfl⟩
    · replace hf := jif_t c14 hf
      refine J_iconst (v := 0) E (jd dk_X4_readReach_0 19 rfl) rfl ?_
      cases hf
      exact J_iret E hr rfl (jd dk_X4_readReach_0 20 rfl) (Nat.le_refl _) (Nat.le_refl _) ⟨rfl, rfl⟩
  · replace hf := jif_f c5 hf
    refine J_aload_n E (jd dk_X4_readReach_0 7 rfl) rfl 1 rfl ?_
    refine J_iconst (v := 2) E (jd dk_X4_readReach_0 8 rfl) rfl ?_
    obtain ⟨u49, e50, hf⟩ := jbind hf
    obtain ⟨r47, e48, hf⟩ := jbind hf
    refine J_callV E (jd dk_X4_readReach_0 9 rfl) ml_RX4_130 cal_X4_refuseToken e50 rfl (lk_X4_refuseToken (jE_g E) (jE_tr E) N e48) rfl (Nat.le_of_ble_eq_true rfl) (jR_le hX (by decide) (by decide)) (jF0 hX) rfl ?_
    rintro _ _ ⟨rfl, rfl⟩
    obtain ⟨n51, hf⟩ := jnw hf
    cases hf
    exact J_iret E hr n51 (jd dk_X4_readReach_0 10 rfl) (Nat.le_refl _) (Nat.le_refl _) ⟨rfl, rfl⟩
def f_X4_readJudge (N : Nat) (h : AH) (a0 : Nat) (a1 : Int32) : Option (Int32 × AH) :=
  (jgr 4 h a0 4).bind fun x1 =>
  (jgi 1 h x1 2).bind fun x3 =>
  if x3 < 8 then (jck 4 h a0).bind fun _ =>
  (f_X4_next N h a0).bind fun r6 =>
  (jgr 4 r6 a0 4).bind fun x10 =>
  (jgi 1 r6 x10 0).bind fun x12 =>
  (jck 4 r6 a0).bind fun _ =>
  (f_X4_readNumber N r6 a0 0 (x12 - 1) 3).bind fun r14 =>
  if r14.1 = 0 then some (0, r14.2)
  else (jgr 4 r14.2 a0 4).bind fun x19 =>
  (jgr 1 r14.2 x19 5).bind fun x21 =>
  (jgi 4 r14.2 a0 10).bind fun x23 =>
  (jas 0 r14.2 x21 x3 x23).bind fun h25 =>
  (jck 4 h25 a0).bind fun _ =>
  (f_X4_readNumber N h25 a0 0 9 2).bind fun r27 =>
  if r27.1 = 0 then some (0, r27.2)
  else (jgr 4 r27.2 a0 4).bind fun x32 =>
  (jgr 1 r27.2 x32 6).bind fun x34 =>
  (jgi 4 r27.2 a0 10).bind fun x36 =>
  (jas 0 r27.2 x34 x3 x36).bind fun h38 =>
  (jck 4 h38 a0).bind fun _ =>
  (f_X4_readNumber N h38 a0 0 20 2).bind fun r40 =>
  if r40.1 = 0 then some (0, r40.2)
  else (jgr 4 r40.2 a0 4).bind fun x45 =>
  (jgr 1 r40.2 x45 7).bind fun x47 =>
  (jgi 4 r40.2 a0 10).bind fun x49 =>
  (jas 0 r40.2 x47 x3 x49).bind fun h51 =>
  (jgr 4 h51 a0 4).bind fun x53 =>
  (jgr 1 h51 x53 8).bind fun x55 =>
  (jas 2 h51 x55 x3 (vp_nar .boolean a1)).bind fun h57 =>
  (jgr 4 h57 a0 4).bind fun x59 =>
  (jgi 1 h57 x59 2).bind fun x61 =>
  (jwi 1 h57 x59 2 (x61 + 1)).bind fun h63 =>
  (jck 4 h63 a0).bind fun _ =>
  (f_X4_readSign N h63 a0 59).bind fun r65 =>
  if narrow .boolean (.int r65.1) = .int r65.1 then some (r65.1, r65.2) else none
  else (jck 4 h a0).bind fun _ =>
  (f_X4_refuseToken N h a0 2).bind fun r70 =>
  if narrow .boolean (.int r70.1) = .int r70.1 then some (r70.1, r70.2) else none
set_option maxRecDepth 100000 in
set_option maxHeartbeats 4000000 in
theorem lk_X4_readJudge {G : JG} {l : Launch} (hG : jG G) (htr : l.stackTraces = false) (N : Nat) {h : AH} {a0 : Nat} {a1 : Int32} {r : (Int32 × AH)} (hf : f_X4_readJudge N h a0 a1 = some r) : jMet G l yX4_readJudge cX4_readJudge 3 (some .boolean) 3 0 0 [.ref a0, .int a1] h (jpi r) := by
  unfold f_X4_readJudge at hf
  refine jMet_of hG htr (by decide) (Nat.le_of_ble_eq_true rfl) ?_
  intro X E hl9 hr hX _ _
  show JW G X (RX4, cX4_readJudge, 3) h [(0, .ref a0), (1, .int a1)] [] 0 0 0 (jEnd G X (jpi r) 0 0)
  refine J_aload_n E (jd dk_X4_readJudge_0 0 rfl) rfl 0 rfl ?_
  obtain ⟨x1, e2, hf⟩ := jbind hf
  refine J_getr E (jd dk_X4_readJudge_0 1 rfl) fl_RX4_28 e2 ?_
  obtain ⟨x3, e4, hf⟩ := jbind hf
  refine J_geti E (jd dk_X4_readJudge_0 2 rfl) fl_RX4_133 e4 ?_
  refine J_istore_n (lv' := [(2, .int x3), (0, .ref a0), (1, .int a1)]) E (jd dk_X4_readJudge_0 3 rfl) rfl (by decide) rfl ?_
  refine J_iload_n E (jd dk_X4_readJudge_0 4 rfl) rfl 0 rfl ?_
  refine J_bipush (v := 8) E (jd dk_X4_readJudge_0 5 rfl) (by decide) ?_
  refine J_icmp_lt (tgt := 20) E (jd dk_X4_readJudge_0 6 rfl) (by decide) (fun c5 => ?_) (fun c5 => ?_)
  · replace hf := jif_t c5 hf
    refine J_aload_n E (jd dk_X4_readJudge_0 11 rfl) rfl 1 rfl ?_
    obtain ⟨u8, e9, hf⟩ := jbind hf
    obtain ⟨r6, e7, hf⟩ := jbind hf
    refine J_callV E (jd dk_X4_readJudge_0 12 rfl) ml_RX4_66 cal_X4_next e9 rfl (lk_X4_next (jE_g E) (jE_tr E) N e7) rfl (Nat.le_of_ble_eq_true rfl) (jR_le hX (by decide) (by decide)) (jF0 hX) rfl ?_
    rintro _ _ ⟨rfl, rfl⟩
    refine J_aload_n E (jd dk_X4_readJudge_0 13 rfl) rfl 1 rfl ?_
    refine J_iconst (v := 0) E (jd dk_X4_readJudge_0 14 rfl) rfl ?_
    refine J_aload_n E (jd dk_X4_readJudge_0 15 rfl) rfl 1 rfl ?_
    obtain ⟨x10, e11, hf⟩ := jbind hf
    refine J_getr E (jd dk_X4_readJudge_0 16 rfl) fl_RX4_28 e11 ?_
    obtain ⟨x12, e13, hf⟩ := jbind hf
    refine J_geti E (jd dk_X4_readJudge_0 17 rfl) fl_RX4_140 e13 ?_
    refine J_iconst (v := 1) E (jd dk_X4_readJudge_0 18 rfl) rfl ?_
    refine J_isub E (jd dk_X4_readJudge_0 19 rfl) ?_
    refine J_iconst (v := 3) E (jd dk_X4_readJudge_0 20 rfl) rfl ?_
    obtain ⟨u16, e17, hf⟩ := jbind hf
    obtain ⟨r14, e15, hf⟩ := jbind hf
    refine J_callV E (jd dk_X4_readJudge_0 21 rfl) ml_RX4_136 cal_X4_readNumber e17 rfl (lk_X4_readNumber (jE_g E) (jE_tr E) N e15) rfl (Nat.le_of_ble_eq_true rfl) (jR_le hX (by decide) (by decide)) (jF0 hX) rfl ?_
    rintro _ _ ⟨rfl, rfl⟩
    refine J_if_ne (tgt := 44) E (jd dk_X4_readJudge_0 22 rfl) (by decide) (fun c18 => ?_) (fun c18 => ?_)
    · replace hf := jif_f c18 hf
      refine J_aload_n E (jd dk_X4_readJudge_0 25 rfl) rfl 1 rfl ?_
      obtain ⟨x19, e20, hf⟩ := jbind hf
      refine J_getr E (jd dk_X4_readJudge_0 26 rfl) fl_RX4_28 e20 ?_
      obtain ⟨x21, e22, hf⟩ := jbind hf
      refine J_getr E (jd dk_X4_readJudge_0 27 rfl) fl_RX4_156 e22 ?_
      refine J_iload_n E (jd dk_X4_readJudge_0 28 rfl) rfl 0 rfl ?_
      refine J_aload_n E (jd dk_X4_readJudge_0 29 rfl) rfl 1 rfl ?_
      obtain ⟨x23, e24, hf⟩ := jbind hf
      refine J_geti E (jd dk_X4_readJudge_0 30 rfl) fl_RX4_47 e24 ?_
      obtain ⟨h25, e26, hf⟩ := jbind hf
      refine J_iast E (jd dk_X4_readJudge_0 31 rfl) e26 ?_
      refine J_aload_n E (jd dk_X4_readJudge_0 32 rfl) rfl 1 rfl ?_
      refine J_iconst (v := 0) E (jd dk_X4_readJudge_0 33 rfl) rfl ?_
      refine J_bipush (v := 9) E (jd dk_X4_readJudge_0 34 rfl) (by decide) ?_
      refine J_iconst (v := 2) E (jd dk_X4_readJudge_0 35 rfl) rfl ?_
      obtain ⟨u29, e30, hf⟩ := jbind hf
      obtain ⟨r27, e28, hf⟩ := jbind hf
      refine J_callV E (jd dk_X4_readJudge_0 36 rfl) ml_RX4_136 cal_X4_readNumber e30 rfl (lk_X4_readNumber (jE_g E) (jE_tr E) N e28) rfl (Nat.le_of_ble_eq_true rfl) (jR_le hX (by decide) (by decide)) (jF0 hX) rfl ?_
      rintro _ _ ⟨rfl, rfl⟩
      refine J_if_ne (tgt := 70) E (jd dk_X4_readJudge_0 37 rfl) (by decide) (fun c31 => ?_) (fun c31 => ?_)
      · replace hf := jif_f c31 hf
        refine J_aload_n E (jd dk_X4_readJudge_0 40 rfl) rfl 1 rfl ?_
        obtain ⟨x32, e33, hf⟩ := jbind hf
        refine J_getr E (jd dk_X4_readJudge_0 41 rfl) fl_RX4_28 e33 ?_
        obtain ⟨x34, e35, hf⟩ := jbind hf
        refine J_getr E (jd dk_X4_readJudge_0 42 rfl) fl_RX4_159 e35 ?_
        refine J_iload_n E (jd dk_X4_readJudge_0 43 rfl) rfl 0 rfl ?_
        refine J_aload_n E (jd dk_X4_readJudge_0 44 rfl) rfl 1 rfl ?_
        obtain ⟨x36, e37, hf⟩ := jbind hf
        refine J_geti E (jd dk_X4_readJudge_0 45 rfl) fl_RX4_47 e37 ?_
        obtain ⟨h38, e39, hf⟩ := jbind hf
        refine J_iast E (jd dk_X4_readJudge_0 46 rfl) e39 ?_
        refine J_aload_n E (jd dk_X4_readJudge_0 47 rfl) rfl 1 rfl ?_
        refine J_iconst (v := 0) E (jd dk_X4_readJudge_0 48 rfl) rfl ?_
        refine J_bipush (v := 20) E (jd dk_X4_readJudge_0 49 rfl) (by decide) ?_
        refine J_iconst (v := 2) E (jd dk_X4_readJudge_1 0 rfl) rfl ?_
        obtain ⟨u42, e43, hf⟩ := jbind hf
        obtain ⟨r40, e41, hf⟩ := jbind hf
        refine J_callV E (jd dk_X4_readJudge_1 1 rfl) ml_RX4_136 cal_X4_readNumber e43 rfl (lk_X4_readNumber (jE_g E) (jE_tr E) N e41) rfl (Nat.le_of_ble_eq_true rfl) (jR_le hX (by decide) (by decide)) (jF0 hX) rfl ?_
        rintro _ _ ⟨rfl, rfl⟩
        refine J_if_ne (tgt := 96) E (jd dk_X4_readJudge_1 2 rfl) (by decide) (fun c44 => ?_) (fun c44 => ?_)
        · replace hf := jif_f c44 hf
          refine J_aload_n E (jd dk_X4_readJudge_1 5 rfl) rfl 1 rfl ?_
          obtain ⟨x45, e46, hf⟩ := jbind hf
          refine J_getr E (jd dk_X4_readJudge_1 6 rfl) fl_RX4_28 e46 ?_
          obtain ⟨x47, e48, hf⟩ := jbind hf
          refine J_getr E (jd dk_X4_readJudge_1 7 rfl) fl_RX4_162 e48 ?_
          refine J_iload_n E (jd dk_X4_readJudge_1 8 rfl) rfl 0 rfl ?_
          refine J_aload_n E (jd dk_X4_readJudge_1 9 rfl) rfl 1 rfl ?_
          obtain ⟨x49, e50, hf⟩ := jbind hf
          refine J_geti E (jd dk_X4_readJudge_1 10 rfl) fl_RX4_47 e50 ?_
          obtain ⟨h51, e52, hf⟩ := jbind hf
          refine J_iast E (jd dk_X4_readJudge_1 11 rfl) e52 ?_
          refine J_aload_n E (jd dk_X4_readJudge_1 12 rfl) rfl 1 rfl ?_
          obtain ⟨x53, e54, hf⟩ := jbind hf
          refine J_getr E (jd dk_X4_readJudge_1 13 rfl) fl_RX4_28 e54 ?_
          obtain ⟨x55, e56, hf⟩ := jbind hf
          refine J_getr E (jd dk_X4_readJudge_1 14 rfl) fl_RX4_165 e56 ?_
          refine J_iload_n E (jd dk_X4_readJudge_1 15 rfl) rfl 0 rfl ?_
          refine J_iload_n E (jd dk_X4_readJudge_1 16 rfl) rfl 2 rfl ?_
          obtain ⟨h57, e58, hf⟩ := jbind hf
          refine J_zast E (jd dk_X4_readJudge_1 17 rfl) e58 ?_
          refine J_aload_n E (jd dk_X4_readJudge_1 18 rfl) rfl 1 rfl ?_
          obtain ⟨x59, e60, hf⟩ := jbind hf
          refine J_getr E (jd dk_X4_readJudge_1 19 rfl) fl_RX4_28 e60 ?_
          refine J_dup E (jd dk_X4_readJudge_1 20 rfl) rfl ?_
          obtain ⟨x61, e62, hf⟩ := jbind hf
          refine J_geti E (jd dk_X4_readJudge_1 21 rfl) fl_RX4_133 e62 ?_
          refine J_iconst (v := 1) E (jd dk_X4_readJudge_1 22 rfl) rfl ?_
          refine J_iadd E (jd dk_X4_readJudge_1 23 rfl) ?_
          obtain ⟨h63, e64, hf⟩ := jbind hf
          refine J_put E (jd dk_X4_readJudge_1 24 rfl) fl_RX4_133 e64 (fun _ => rfl) (fun _ => rfl) ?_
          refine J_aload_n E (jd dk_X4_readJudge_1 25 rfl) rfl 1 rfl ?_
          refine J_bipush (v := 59) E (jd dk_X4_readJudge_1 26 rfl) (by decide) ?_
          obtain ⟨u67, e68, hf⟩ := jbind hf
          obtain ⟨r65, e66, hf⟩ := jbind hf
          refine J_callV E (jd dk_X4_readJudge_1 27 rfl) ml_RX4_142 cal_X4_readSign e68 rfl (lk_X4_readSign (jE_g E) (jE_tr E) N e66) rfl (Nat.le_of_ble_eq_true rfl) (jR_le hX (by decide) (by decide)) (jF0 hX) rfl ?_
          rintro _ _ ⟨rfl, rfl⟩
          obtain ⟨n69, hf⟩ := jnw hf
          cases hf
          exact J_iret E hr n69 (jd dk_X4_readJudge_1 28 rfl) (Nat.le_refl _) (Nat.le_refl _) ⟨rfl, rfl⟩
        · replace hf := jif_t c44 hf
          refine J_iconst (v := 0) E (jd dk_X4_readJudge_1 3 rfl) rfl ?_
          cases hf
          exact J_iret E hr rfl (jd dk_X4_readJudge_1 4 rfl) (Nat.le_refl _) (Nat.le_refl _) ⟨rfl, rfl⟩
      · replace hf := jif_t c31 hf
        refine J_iconst (v := 0) E (jd dk_X4_readJudge_0 38 rfl) rfl ?_
        cases hf
        exact J_iret E hr rfl (jd dk_X4_readJudge_0 39 rfl) (Nat.le_refl _) (Nat.le_refl _) ⟨rfl, rfl⟩
    · replace hf := jif_t c18 hf
      refine J_iconst (v := 0) E (jd dk_X4_readJudge_0 23 rfl) rfl ?_
      cases hf
      exact J_iret E hr rfl (jd dk_X4_readJudge_0 24 rfl) (Nat.le_refl _) (Nat.le_refl _) ⟨rfl, rfl⟩
  · replace hf := jif_f c5 hf
    refine J_aload_n E (jd dk_X4_readJudge_0 7 rfl) rfl 1 rfl ?_
    refine J_iconst (v := 2) E (jd dk_X4_readJudge_0 8 rfl) rfl ?_
    obtain ⟨u72, e73, hf⟩ := jbind hf
    obtain ⟨r70, e71, hf⟩ := jbind hf
    refine J_callV E (jd dk_X4_readJudge_0 9 rfl) ml_RX4_130 cal_X4_refuseToken e73 rfl (lk_X4_refuseToken (jE_g E) (jE_tr E) N e71) rfl (Nat.le_of_ble_eq_true rfl) (jR_le hX (by decide) (by decide)) (jF0 hX) rfl ?_
    rintro _ _ ⟨rfl, rfl⟩
    obtain ⟨n74, hf⟩ := jnw hf
    cases hf
    exact J_iret E hr n74 (jd dk_X4_readJudge_0 10 rfl) (Nat.le_refl _) (Nat.le_refl _) ⟨rfl, rfl⟩
def f_X4_readTurns (N : Nat) (h : AH) (a0 : Nat) : Option (Int32 × AH) :=
  (jgr 4 h a0 4).bind fun x1 =>
  (jck 1 h x1).bind fun _ =>
  (f_X1_hasTurns N h x1).bind fun r3 =>
  if r3.1 = 0 then (jck 4 r3.2 a0).bind fun _ =>
  (f_X4_next N r3.2 a0).bind fun r8 =>
  (jwz 4 r8 a0 12 1).bind fun h12 =>
  (jgr 4 h12 a0 4).bind fun x14 =>
  (jgr 4 h12 a0 4).bind fun x16 =>
  (jgi 1 h12 x16 10).bind fun x18 =>
  (jwi 1 h12 x14 11 x18).bind fun h20 =>
  (jck 4 h20 a0).bind fun _ =>
  (fr_X4_readExpr N 7 h20 a0 0).bind fun r22 =>
  if r22.1 = 0 then some (0, r22.2)
  else (jgr 4 r22.2 a0 4).bind fun x27 =>
  (jgr 4 r22.2 a0 4).bind fun x29 =>
  (jgi 1 r22.2 x29 10).bind fun x31 =>
  (jwi 1 r22.2 x27 12 x31).bind fun h33 =>
  (jck 4 h33 a0).bind fun _ =>
  (f_X4_readSign N h33 a0 59).bind fun r35 =>
  if narrow .boolean (.int r35.1) = .int r35.1 then some (r35.1, r35.2) else none
  else (jck 4 r3.2 a0).bind fun _ =>
  (f_X4_refuseToken N r3.2 a0 5).bind fun r40 =>
  if narrow .boolean (.int r40.1) = .int r40.1 then some (r40.1, r40.2) else none
set_option maxRecDepth 100000 in
set_option maxHeartbeats 4000000 in
theorem lk_X4_readTurns {G : JG} {l : Launch} (hG : jG G) (htr : l.stackTraces = false) (N : Nat) {h : AH} {a0 : Nat} {r : (Int32 × AH)} (hf : f_X4_readTurns N h a0 = some r) : jMet G l yX4_readTurns cX4_readTurns 1 (some .boolean) 106 0 0 [.ref a0] h (jpi r) := by
  unfold f_X4_readTurns at hf
  refine jMet_of hG htr (by decide) (Nat.le_of_ble_eq_true rfl) ?_
  intro X E hl9 hr hX _ _
  show JW G X (RX4, cX4_readTurns, 1) h [(0, .ref a0)] [] 0 0 0 (jEnd G X (jpi r) 0 0)
  refine J_aload_n E (jd dk_X4_readTurns_0 0 rfl) rfl 0 rfl ?_
  obtain ⟨x1, e2, hf⟩ := jbind hf
  refine J_getr E (jd dk_X4_readTurns_0 1 rfl) fl_RX4_28 e2 ?_
  obtain ⟨u5, e6, hf⟩ := jbind hf
  obtain ⟨r3, e4, hf⟩ := jbind hf
  refine J_callV E (jd dk_X4_readTurns_0 2 rfl) ml_RX4_168 cal_X1_hasTurns e6 rfl (lk_X1_hasTurns (jE_g E) (jE_tr E) N e4) rfl (Nat.le_of_ble_eq_true rfl) (jR_le hX (by decide) (by decide)) (jF0 hX) rfl ?_
  rintro _ _ ⟨rfl, rfl⟩
  refine J_if_eq (tgt := 16) E (jd dk_X4_readTurns_0 3 rfl) (by decide) (fun c7 => ?_) (fun c7 => ?_)
  · replace hf := jif_t c7 hf
    refine J_aload_n E (jd dk_X4_readTurns_0 8 rfl) rfl 0 rfl ?_
    obtain ⟨u10, e11, hf⟩ := jbind hf
    obtain ⟨r8, e9, hf⟩ := jbind hf
    refine J_callV E (jd dk_X4_readTurns_0 9 rfl) ml_RX4_66 cal_X4_next e11 rfl (lk_X4_next (jE_g E) (jE_tr E) N e9) rfl (Nat.le_of_ble_eq_true rfl) (jR_le hX (by decide) (by decide)) (jF0 hX) rfl ?_
    rintro _ _ ⟨rfl, rfl⟩
    refine J_aload_n E (jd dk_X4_readTurns_0 10 rfl) rfl 0 rfl ?_
    refine J_iconst (v := 1) E (jd dk_X4_readTurns_0 11 rfl) rfl ?_
    obtain ⟨h12, e13, hf⟩ := jbind hf
    refine J_putz E (jd dk_X4_readTurns_0 12 rfl) fl_RX4_54 e13 ?_
    refine J_aload_n E (jd dk_X4_readTurns_0 13 rfl) rfl 0 rfl ?_
    obtain ⟨x14, e15, hf⟩ := jbind hf
    refine J_getr E (jd dk_X4_readTurns_0 14 rfl) fl_RX4_28 e15 ?_
    refine J_aload_n E (jd dk_X4_readTurns_0 15 rfl) rfl 0 rfl ?_
    obtain ⟨x16, e17, hf⟩ := jbind hf
    refine J_getr E (jd dk_X4_readTurns_0 16 rfl) fl_RX4_28 e17 ?_
    obtain ⟨x18, e19, hf⟩ := jbind hf
    refine J_geti E (jd dk_X4_readTurns_0 17 rfl) fl_RX4_171 e19 ?_
    obtain ⟨h20, e21, hf⟩ := jbind hf
    refine J_put E (jd dk_X4_readTurns_0 18 rfl) fl_RX4_174 e21 (fun _ => rfl) (fun _ => rfl) ?_
    refine J_aload_n E (jd dk_X4_readTurns_0 19 rfl) rfl 0 rfl ?_
    refine J_iconst (v := 0) E (jd dk_X4_readTurns_0 20 rfl) rfl ?_
    obtain ⟨u24, e25, hf⟩ := jbind hf
    obtain ⟨r22, e23, hf⟩ := jbind hf
    refine J_callV E (jd dk_X4_readTurns_0 21 rfl) ml_RX4_177 cal_X4_readExpr e25 rfl (lkr_X4_readExpr (jE_g E) (jE_tr E) N e23) rfl (Nat.le_of_ble_eq_true rfl) (jR_le hX (by decide) (by decide)) (jF0 hX) rfl ?_
    rintro _ _ ⟨rfl, rfl⟩
    refine J_if_ne (tgt := 49) E (jd dk_X4_readTurns_0 22 rfl) (by decide) (fun c26 => ?_) (fun c26 => ?_)
    · replace hf := jif_f c26 hf
      refine J_aload_n E (jd dk_X4_readTurns_0 25 rfl) rfl 0 rfl ?_
      obtain ⟨x27, e28, hf⟩ := jbind hf
      refine J_getr E (jd dk_X4_readTurns_0 26 rfl) fl_RX4_28 e28 ?_
      refine J_aload_n E (jd dk_X4_readTurns_0 27 rfl) rfl 0 rfl ?_
      obtain ⟨x29, e30, hf⟩ := jbind hf
      refine J_getr E (jd dk_X4_readTurns_0 28 rfl) fl_RX4_28 e30 ?_
      obtain ⟨x31, e32, hf⟩ := jbind hf
      refine J_geti E (jd dk_X4_readTurns_0 29 rfl) fl_RX4_171 e32 ?_
      obtain ⟨h33, e34, hf⟩ := jbind hf
      refine J_put E (jd dk_X4_readTurns_0 30 rfl) fl_RX4_180 e34 (fun _ => rfl) (fun _ => rfl) ?_
      refine J_aload_n E (jd dk_X4_readTurns_0 31 rfl) rfl 0 rfl ?_
      refine J_bipush (v := 59) E (jd dk_X4_readTurns_0 32 rfl) (by decide) ?_
      obtain ⟨u37, e38, hf⟩ := jbind hf
      obtain ⟨r35, e36, hf⟩ := jbind hf
      refine J_callV E (jd dk_X4_readTurns_0 33 rfl) ml_RX4_142 cal_X4_readSign e38 rfl (lk_X4_readSign (jE_g E) (jE_tr E) N e36) rfl (Nat.le_of_ble_eq_true rfl) (jR_le hX (by decide) (by decide)) (jF0 hX) rfl ?_
      rintro _ _ ⟨rfl, rfl⟩
      obtain ⟨n39, hf⟩ := jnw hf
      cases hf
      exact J_iret E hr n39 (jd dk_X4_readTurns_0 34 rfl) (Nat.le_refl _) (Nat.le_refl _) ⟨rfl, rfl⟩
    · replace hf := jif_t c26 hf
      refine J_iconst (v := 0) E (jd dk_X4_readTurns_0 23 rfl) rfl ?_
      cases hf
      exact J_iret E hr rfl (jd dk_X4_readTurns_0 24 rfl) (Nat.le_refl _) (Nat.le_refl _) ⟨rfl, rfl⟩
  · replace hf := jif_f c7 hf
    refine J_aload_n E (jd dk_X4_readTurns_0 4 rfl) rfl 0 rfl ?_
    refine J_iconst (v := 5) E (jd dk_X4_readTurns_0 5 rfl) rfl ?_
    obtain ⟨u42, e43, hf⟩ := jbind hf
    obtain ⟨r40, e41, hf⟩ := jbind hf
    refine J_callV E (jd dk_X4_readTurns_0 6 rfl) ml_RX4_130 cal_X4_refuseToken e43 rfl (lk_X4_refuseToken (jE_g E) (jE_tr E) N e41) rfl (Nat.le_of_ble_eq_true rfl) (jR_le hX (by decide) (by decide)) (jF0 hX) rfl ?_
    rintro _ _ ⟨rfl, rfl⟩
    obtain ⟨n44, hf⟩ := jnw hf
    cases hf
    exact J_iret E hr n44 (jd dk_X4_readTurns_0 7 rfl) (Nat.le_refl _) (Nat.le_refl _) ⟨rfl, rfl⟩
def f_X4_readGoes (N : Nat) (h : AH) (a0 : Nat) : Option (Int32 × AH) :=
  (jgr 4 h a0 4).bind fun x1 =>
  (jck 1 h x1).bind fun _ =>
  (f_X1_hasGoes N h x1).bind fun r3 =>
  if r3.1 = 0 then (jck 4 r3.2 a0).bind fun _ =>
  (f_X4_next N r3.2 a0).bind fun r8 =>
  (jwz 4 r8 a0 12 0).bind fun h12 =>
  (jgr 4 h12 a0 4).bind fun x14 =>
  (jgr 4 h12 a0 4).bind fun x16 =>
  (jgi 1 h12 x16 10).bind fun x18 =>
  (jwi 1 h12 x14 13 x18).bind fun h20 =>
  (jck 4 h20 a0).bind fun _ =>
  (fr_X4_readExpr N 7 h20 a0 0).bind fun r22 =>
  if r22.1 = 0 then some (0, r22.2)
  else (jgr 4 r22.2 a0 4).bind fun x27 =>
  (jgr 4 r22.2 a0 4).bind fun x29 =>
  (jgi 1 r22.2 x29 10).bind fun x31 =>
  (jwi 1 r22.2 x27 14 x31).bind fun h33 =>
  (jck 4 h33 a0).bind fun _ =>
  (f_X4_readSign N h33 a0 59).bind fun r35 =>
  if narrow .boolean (.int r35.1) = .int r35.1 then some (r35.1, r35.2) else none
  else (jck 4 r3.2 a0).bind fun _ =>
  (f_X4_refuseToken N r3.2 a0 5).bind fun r40 =>
  if narrow .boolean (.int r40.1) = .int r40.1 then some (r40.1, r40.2) else none
set_option maxRecDepth 100000 in
set_option maxHeartbeats 4000000 in
theorem lk_X4_readGoes {G : JG} {l : Launch} (hG : jG G) (htr : l.stackTraces = false) (N : Nat) {h : AH} {a0 : Nat} {r : (Int32 × AH)} (hf : f_X4_readGoes N h a0 = some r) : jMet G l yX4_readGoes cX4_readGoes 1 (some .boolean) 106 0 0 [.ref a0] h (jpi r) := by
  unfold f_X4_readGoes at hf
  refine jMet_of hG htr (by decide) (Nat.le_of_ble_eq_true rfl) ?_
  intro X E hl9 hr hX _ _
  show JW G X (RX4, cX4_readGoes, 1) h [(0, .ref a0)] [] 0 0 0 (jEnd G X (jpi r) 0 0)
  refine J_aload_n E (jd dk_X4_readGoes_0 0 rfl) rfl 0 rfl ?_
  obtain ⟨x1, e2, hf⟩ := jbind hf
  refine J_getr E (jd dk_X4_readGoes_0 1 rfl) fl_RX4_28 e2 ?_
  obtain ⟨u5, e6, hf⟩ := jbind hf
  obtain ⟨r3, e4, hf⟩ := jbind hf
  refine J_callV E (jd dk_X4_readGoes_0 2 rfl) ml_RX4_183 cal_X1_hasGoes e6 rfl (lk_X1_hasGoes (jE_g E) (jE_tr E) N e4) rfl (Nat.le_of_ble_eq_true rfl) (jR_le hX (by decide) (by decide)) (jF0 hX) rfl ?_
  rintro _ _ ⟨rfl, rfl⟩
  refine J_if_eq (tgt := 16) E (jd dk_X4_readGoes_0 3 rfl) (by decide) (fun c7 => ?_) (fun c7 => ?_)
  · replace hf := jif_t c7 hf
    refine J_aload_n E (jd dk_X4_readGoes_0 8 rfl) rfl 0 rfl ?_
    obtain ⟨u10, e11, hf⟩ := jbind hf
    obtain ⟨r8, e9, hf⟩ := jbind hf
    refine J_callV E (jd dk_X4_readGoes_0 9 rfl) ml_RX4_66 cal_X4_next e11 rfl (lk_X4_next (jE_g E) (jE_tr E) N e9) rfl (Nat.le_of_ble_eq_true rfl) (jR_le hX (by decide) (by decide)) (jF0 hX) rfl ?_
    rintro _ _ ⟨rfl, rfl⟩
    refine J_aload_n E (jd dk_X4_readGoes_0 10 rfl) rfl 0 rfl ?_
    refine J_iconst (v := 0) E (jd dk_X4_readGoes_0 11 rfl) rfl ?_
    obtain ⟨h12, e13, hf⟩ := jbind hf
    refine J_putz E (jd dk_X4_readGoes_0 12 rfl) fl_RX4_54 e13 ?_
    refine J_aload_n E (jd dk_X4_readGoes_0 13 rfl) rfl 0 rfl ?_
    obtain ⟨x14, e15, hf⟩ := jbind hf
    refine J_getr E (jd dk_X4_readGoes_0 14 rfl) fl_RX4_28 e15 ?_
    refine J_aload_n E (jd dk_X4_readGoes_0 15 rfl) rfl 0 rfl ?_
    obtain ⟨x16, e17, hf⟩ := jbind hf
    refine J_getr E (jd dk_X4_readGoes_0 16 rfl) fl_RX4_28 e17 ?_
    obtain ⟨x18, e19, hf⟩ := jbind hf
    refine J_geti E (jd dk_X4_readGoes_0 17 rfl) fl_RX4_171 e19 ?_
    obtain ⟨h20, e21, hf⟩ := jbind hf
    refine J_put E (jd dk_X4_readGoes_0 18 rfl) fl_RX4_186 e21 (fun _ => rfl) (fun _ => rfl) ?_
    refine J_aload_n E (jd dk_X4_readGoes_0 19 rfl) rfl 0 rfl ?_
    refine J_iconst (v := 0) E (jd dk_X4_readGoes_0 20 rfl) rfl ?_
    obtain ⟨u24, e25, hf⟩ := jbind hf
    obtain ⟨r22, e23, hf⟩ := jbind hf
    refine J_callV E (jd dk_X4_readGoes_0 21 rfl) ml_RX4_177 cal_X4_readExpr e25 rfl (lkr_X4_readExpr (jE_g E) (jE_tr E) N e23) rfl (Nat.le_of_ble_eq_true rfl) (jR_le hX (by decide) (by decide)) (jF0 hX) rfl ?_
    rintro _ _ ⟨rfl, rfl⟩
    refine J_if_ne (tgt := 49) E (jd dk_X4_readGoes_0 22 rfl) (by decide) (fun c26 => ?_) (fun c26 => ?_)
    · replace hf := jif_f c26 hf
      refine J_aload_n E (jd dk_X4_readGoes_0 25 rfl) rfl 0 rfl ?_
      obtain ⟨x27, e28, hf⟩ := jbind hf
      refine J_getr E (jd dk_X4_readGoes_0 26 rfl) fl_RX4_28 e28 ?_
      refine J_aload_n E (jd dk_X4_readGoes_0 27 rfl) rfl 0 rfl ?_
      obtain ⟨x29, e30, hf⟩ := jbind hf
      refine J_getr E (jd dk_X4_readGoes_0 28 rfl) fl_RX4_28 e30 ?_
      obtain ⟨x31, e32, hf⟩ := jbind hf
      refine J_geti E (jd dk_X4_readGoes_0 29 rfl) fl_RX4_171 e32 ?_
      obtain ⟨h33, e34, hf⟩ := jbind hf
      refine J_put E (jd dk_X4_readGoes_0 30 rfl) fl_RX4_189 e34 (fun _ => rfl) (fun _ => rfl) ?_
      refine J_aload_n E (jd dk_X4_readGoes_0 31 rfl) rfl 0 rfl ?_
      refine J_bipush (v := 59) E (jd dk_X4_readGoes_0 32 rfl) (by decide) ?_
      obtain ⟨u37, e38, hf⟩ := jbind hf
      obtain ⟨r35, e36, hf⟩ := jbind hf
      refine J_callV E (jd dk_X4_readGoes_0 33 rfl) ml_RX4_142 cal_X4_readSign e38 rfl (lk_X4_readSign (jE_g E) (jE_tr E) N e36) rfl (Nat.le_of_ble_eq_true rfl) (jR_le hX (by decide) (by decide)) (jF0 hX) rfl ?_
      rintro _ _ ⟨rfl, rfl⟩
      obtain ⟨n39, hf⟩ := jnw hf
      cases hf
      exact J_iret E hr n39 (jd dk_X4_readGoes_0 34 rfl) (Nat.le_refl _) (Nat.le_refl _) ⟨rfl, rfl⟩
    · replace hf := jif_t c26 hf
      refine J_iconst (v := 0) E (jd dk_X4_readGoes_0 23 rfl) rfl ?_
      cases hf
      exact J_iret E hr rfl (jd dk_X4_readGoes_0 24 rfl) (Nat.le_refl _) (Nat.le_refl _) ⟨rfl, rfl⟩
  · replace hf := jif_f c7 hf
    refine J_aload_n E (jd dk_X4_readGoes_0 4 rfl) rfl 0 rfl ?_
    refine J_iconst (v := 5) E (jd dk_X4_readGoes_0 5 rfl) rfl ?_
    obtain ⟨u42, e43, hf⟩ := jbind hf
    obtain ⟨r40, e41, hf⟩ := jbind hf
    refine J_callV E (jd dk_X4_readGoes_0 6 rfl) ml_RX4_130 cal_X4_refuseToken e43 rfl (lk_X4_refuseToken (jE_g E) (jE_tr E) N e41) rfl (Nat.le_of_ble_eq_true rfl) (jR_le hX (by decide) (by decide)) (jF0 hX) rfl ?_
    rintro _ _ ⟨rfl, rfl⟩
    obtain ⟨n44, hf⟩ := jnw hf
    cases hf
    exact J_iret E hr n44 (jd dk_X4_readGoes_0 7 rfl) (Nat.le_refl _) (Nat.le_refl _) ⟨rfl, rfl⟩
def f_X4_readLine (N : Nat) (h : AH) (a0 : Nat) : Option (Int32 × AH) :=
  (jck 4 h a0).bind fun _ =>
  (f_X4_isWord N h a0 1000001).bind fun r1 =>
  if r1.1 = 0 then (jck 4 r1.2 a0).bind fun _ =>
  (f_X4_isWord N r1.2 a0 1000002).bind fun r6 =>
  if r6.1 = 0 then (jck 4 r6.2 a0).bind fun _ =>
  (f_X4_isWord N r6.2 a0 1000003).bind fun r11 =>
  if r11.1 = 0 then (jck 4 r11.2 a0).bind fun _ =>
  (f_X4_isWord N r11.2 a0 1000004).bind fun r16 =>
  if r16.1 = 0 then (jck 4 r16.2 a0).bind fun _ =>
  (f_X4_isWord N r16.2 a0 1000005).bind fun r21 =>
  if r21.1 = 0 then (jck 4 r21.2 a0).bind fun _ =>
  (f_X4_isWord N r21.2 a0 1000016).bind fun r26 =>
  if r26.1 = 0 then (jck 4 r26.2 a0).bind fun _ =>
  (f_X4_refuseToken N r26.2 a0 1).bind fun r31 =>
  if narrow .boolean (.int r31.1) = .int r31.1 then some (r31.1, r31.2) else none
  else (jck 4 r26.2 a0).bind fun _ =>
  (f_X4_readGoes N r26.2 a0).bind fun r36 =>
  if narrow .boolean (.int r36.1) = .int r36.1 then some (r36.1, r36.2) else none
  else (jck 4 r21.2 a0).bind fun _ =>
  (f_X4_readTurns N r21.2 a0).bind fun r41 =>
  if narrow .boolean (.int r41.1) = .int r41.1 then some (r41.1, r41.2) else none
  else (jck 4 r16.2 a0).bind fun _ =>
  (f_X4_readJudge N r16.2 a0 1).bind fun r46 =>
  if narrow .boolean (.int r46.1) = .int r46.1 then some (r46.1, r46.2) else none
  else (jck 4 r11.2 a0).bind fun _ =>
  (f_X4_readJudge N r11.2 a0 0).bind fun r51 =>
  if narrow .boolean (.int r51.1) = .int r51.1 then some (r51.1, r51.2) else none
  else (jck 4 r6.2 a0).bind fun _ =>
  (f_X4_readReach N r6.2 a0).bind fun r56 =>
  if narrow .boolean (.int r56.1) = .int r56.1 then some (r56.1, r56.2) else none
  else (jck 4 r1.2 a0).bind fun _ =>
  (f_X4_readSides N r1.2 a0).bind fun r61 =>
  if narrow .boolean (.int r61.1) = .int r61.1 then some (r61.1, r61.2) else none
set_option maxRecDepth 100000 in
set_option maxHeartbeats 4000000 in
theorem lk_X4_readLine {G : JG} {l : Launch} (hG : jG G) (htr : l.stackTraces = false) (N : Nat) {h : AH} {a0 : Nat} {r : (Int32 × AH)} (hf : f_X4_readLine N h a0 = some r) : jMet G l yX4_readLine cX4_readLine 1 (some .boolean) 107 0 0 [.ref a0] h (jpi r) := by
  unfold f_X4_readLine at hf
  refine jMet_of hG htr (by decide) (Nat.le_of_ble_eq_true rfl) ?_
  intro X E hl9 hr hX _ _
  show JW G X (RX4, cX4_readLine, 1) h [(0, .ref a0)] [] 0 0 0 (jEnd G X (jpi r) 0 0)
  refine J_aload_n E (jd dk_X4_readLine_0 0 rfl) rfl 0 rfl ?_
  refine J_ldcS (j := 1) (tx := "sides") E (jd dk_X4_readLine_0 1 rfl) rfl ?_
  obtain ⟨u3, e4, hf⟩ := jbind hf
  obtain ⟨r1, e2, hf⟩ := jbind hf
  refine J_callV E (jd dk_X4_readLine_0 2 rfl) ml_RX4_100 cal_X4_isWord e4 rfl (lk_X4_isWord (jE_g E) (jE_tr E) N e2) rfl (Nat.le_of_ble_eq_true rfl) (jR_le hX (by decide) (by decide)) (jF0 hX) rfl ?_
  rintro _ _ ⟨rfl, rfl⟩
  refine J_if_eq (tgt := 14) E (jd dk_X4_readLine_0 3 rfl) (by decide) (fun c5 => ?_) (fun c5 => ?_)
  · replace hf := jif_t c5 hf
    refine J_aload_n E (jd dk_X4_readLine_0 7 rfl) rfl 0 rfl ?_
    refine J_ldcS (j := 2) (tx := "reach") E (jd dk_X4_readLine_0 8 rfl) rfl ?_
    obtain ⟨u8, e9, hf⟩ := jbind hf
    obtain ⟨r6, e7, hf⟩ := jbind hf
    refine J_callV E (jd dk_X4_readLine_0 9 rfl) ml_RX4_100 cal_X4_isWord e9 rfl (lk_X4_isWord (jE_g E) (jE_tr E) N e7) rfl (Nat.le_of_ble_eq_true rfl) (jR_le hX (by decide) (by decide)) (jF0 hX) rfl ?_
    rintro _ _ ⟨rfl, rfl⟩
    refine J_if_eq (tgt := 28) E (jd dk_X4_readLine_0 10 rfl) (by decide) (fun c10 => ?_) (fun c10 => ?_)
    · replace hf := jif_t c10 hf
      refine J_aload_n E (jd dk_X4_readLine_0 14 rfl) rfl 0 rfl ?_
      refine J_ldcS (j := 3) (tx := "judge") E (jd dk_X4_readLine_0 15 rfl) rfl ?_
      obtain ⟨u13, e14, hf⟩ := jbind hf
      obtain ⟨r11, e12, hf⟩ := jbind hf
      refine J_callV E (jd dk_X4_readLine_0 16 rfl) ml_RX4_100 cal_X4_isWord e14 rfl (lk_X4_isWord (jE_g E) (jE_tr E) N e12) rfl (Nat.le_of_ble_eq_true rfl) (jR_le hX (by decide) (by decide)) (jF0 hX) rfl ?_
      rintro _ _ ⟨rfl, rfl⟩
      refine J_if_eq (tgt := 43) E (jd dk_X4_readLine_0 17 rfl) (by decide) (fun c15 => ?_) (fun c15 => ?_)
      · replace hf := jif_t c15 hf
        refine J_aload_n E (jd dk_X4_readLine_0 22 rfl) rfl 0 rfl ?_
        refine J_ldcS (j := 4) (tx := "bigot") E (jd dk_X4_readLine_0 23 rfl) rfl ?_
        obtain ⟨u18, e19, hf⟩ := jbind hf
        obtain ⟨r16, e17, hf⟩ := jbind hf
        refine J_callV E (jd dk_X4_readLine_0 24 rfl) ml_RX4_100 cal_X4_isWord e19 rfl (lk_X4_isWord (jE_g E) (jE_tr E) N e17) rfl (Nat.le_of_ble_eq_true rfl) (jR_le hX (by decide) (by decide)) (jF0 hX) rfl ?_
        rintro _ _ ⟨rfl, rfl⟩
        refine J_if_eq (tgt := 58) E (jd dk_X4_readLine_0 25 rfl) (by decide) (fun c20 => ?_) (fun c20 => ?_)
        · replace hf := jif_t c20 hf
          refine J_aload_n E (jd dk_X4_readLine_0 30 rfl) rfl 0 rfl ?_
          refine J_ldcS (j := 5) (tx := "turns") E (jd dk_X4_readLine_0 31 rfl) rfl ?_
          obtain ⟨u23, e24, hf⟩ := jbind hf
          obtain ⟨r21, e22, hf⟩ := jbind hf
          refine J_callV E (jd dk_X4_readLine_0 32 rfl) ml_RX4_100 cal_X4_isWord e24 rfl (lk_X4_isWord (jE_g E) (jE_tr E) N e22) rfl (Nat.le_of_ble_eq_true rfl) (jR_le hX (by decide) (by decide)) (jF0 hX) rfl ?_
          rintro _ _ ⟨rfl, rfl⟩
          refine J_if_eq (tgt := 72) E (jd dk_X4_readLine_0 33 rfl) (by decide) (fun c25 => ?_) (fun c25 => ?_)
          · replace hf := jif_t c25 hf
            refine J_aload_n E (jd dk_X4_readLine_0 37 rfl) rfl 0 rfl ?_
            refine J_ldcS (j := 16) (tx := "goes") E (jd dk_X4_readLine_0 38 rfl) rfl ?_
            obtain ⟨u28, e29, hf⟩ := jbind hf
            obtain ⟨r26, e27, hf⟩ := jbind hf
            refine J_callV E (jd dk_X4_readLine_0 39 rfl) ml_RX4_100 cal_X4_isWord e29 rfl (lk_X4_isWord (jE_g E) (jE_tr E) N e27) rfl (Nat.le_of_ble_eq_true rfl) (jR_le hX (by decide) (by decide)) (jF0 hX) rfl ?_
            rintro _ _ ⟨rfl, rfl⟩
            refine J_if_eq (tgt := 86) E (jd dk_X4_readLine_0 40 rfl) (by decide) (fun c30 => ?_) (fun c30 => ?_)
            · replace hf := jif_t c30 hf
              refine J_aload_n E (jd dk_X4_readLine_0 44 rfl) rfl 0 rfl ?_
              refine J_iconst (v := 1) E (jd dk_X4_readLine_0 45 rfl) rfl ?_
              obtain ⟨u33, e34, hf⟩ := jbind hf
              obtain ⟨r31, e32, hf⟩ := jbind hf
              refine J_callV E (jd dk_X4_readLine_0 46 rfl) ml_RX4_130 cal_X4_refuseToken e34 rfl (lk_X4_refuseToken (jE_g E) (jE_tr E) N e32) rfl (Nat.le_of_ble_eq_true rfl) (jR_le hX (by decide) (by decide)) (jF0 hX) rfl ?_
              rintro _ _ ⟨rfl, rfl⟩
              obtain ⟨n35, hf⟩ := jnw hf
              cases hf
              exact J_iret E hr n35 (jd dk_X4_readLine_0 47 rfl) (Nat.le_refl _) (Nat.le_refl _) ⟨rfl, rfl⟩
            · replace hf := jif_f c30 hf
              refine J_aload_n E (jd dk_X4_readLine_0 41 rfl) rfl 0 rfl ?_
              obtain ⟨u38, e39, hf⟩ := jbind hf
              obtain ⟨r36, e37, hf⟩ := jbind hf
              refine J_callV E (jd dk_X4_readLine_0 42 rfl) ml_RX4_127 cal_X4_readGoes e39 rfl (lk_X4_readGoes (jE_g E) (jE_tr E) N e37) rfl (Nat.le_of_ble_eq_true rfl) (jR_le hX (by decide) (by decide)) (jF0 hX) rfl ?_
              rintro _ _ ⟨rfl, rfl⟩
              obtain ⟨n40, hf⟩ := jnw hf
              cases hf
              exact J_iret E hr n40 (jd dk_X4_readLine_0 43 rfl) (Nat.le_refl _) (Nat.le_refl _) ⟨rfl, rfl⟩
          · replace hf := jif_f c25 hf
            refine J_aload_n E (jd dk_X4_readLine_0 34 rfl) rfl 0 rfl ?_
            obtain ⟨u43, e44, hf⟩ := jbind hf
            obtain ⟨r41, e42, hf⟩ := jbind hf
            refine J_callV E (jd dk_X4_readLine_0 35 rfl) ml_RX4_122 cal_X4_readTurns e44 rfl (lk_X4_readTurns (jE_g E) (jE_tr E) N e42) rfl (Nat.le_of_ble_eq_true rfl) (jR_le hX (by decide) (by decide)) (jF0 hX) rfl ?_
            rintro _ _ ⟨rfl, rfl⟩
            obtain ⟨n45, hf⟩ := jnw hf
            cases hf
            exact J_iret E hr n45 (jd dk_X4_readLine_0 36 rfl) (Nat.le_refl _) (Nat.le_refl _) ⟨rfl, rfl⟩
        · replace hf := jif_f c20 hf
          refine J_aload_n E (jd dk_X4_readLine_0 26 rfl) rfl 0 rfl ?_
          refine J_iconst (v := 1) E (jd dk_X4_readLine_0 27 rfl) rfl ?_
          obtain ⟨u48, e49, hf⟩ := jbind hf
          obtain ⟨r46, e47, hf⟩ := jbind hf
          refine J_callV E (jd dk_X4_readLine_0 28 rfl) ml_RX4_114 cal_X4_readJudge e49 rfl (lk_X4_readJudge (jE_g E) (jE_tr E) N e47) rfl (Nat.le_of_ble_eq_true rfl) (jR_le hX (by decide) (by decide)) (jF0 hX) rfl ?_
          rintro _ _ ⟨rfl, rfl⟩
          obtain ⟨n50, hf⟩ := jnw hf
          cases hf
          exact J_iret E hr n50 (jd dk_X4_readLine_0 29 rfl) (Nat.le_refl _) (Nat.le_refl _) ⟨rfl, rfl⟩
      · replace hf := jif_f c15 hf
        refine J_aload_n E (jd dk_X4_readLine_0 18 rfl) rfl 0 rfl ?_
        refine J_iconst (v := 0) E (jd dk_X4_readLine_0 19 rfl) rfl ?_
        obtain ⟨u53, e54, hf⟩ := jbind hf
        obtain ⟨r51, e52, hf⟩ := jbind hf
        refine J_callV E (jd dk_X4_readLine_0 20 rfl) ml_RX4_114 cal_X4_readJudge e54 rfl (lk_X4_readJudge (jE_g E) (jE_tr E) N e52) rfl (Nat.le_of_ble_eq_true rfl) (jR_le hX (by decide) (by decide)) (jF0 hX) rfl ?_
        rintro _ _ ⟨rfl, rfl⟩
        obtain ⟨n55, hf⟩ := jnw hf
        cases hf
        exact J_iret E hr n55 (jd dk_X4_readLine_0 21 rfl) (Nat.le_refl _) (Nat.le_refl _) ⟨rfl, rfl⟩
    · replace hf := jif_f c10 hf
      refine J_aload_n E (jd dk_X4_readLine_0 11 rfl) rfl 0 rfl ?_
      obtain ⟨u58, e59, hf⟩ := jbind hf
      obtain ⟨r56, e57, hf⟩ := jbind hf
      refine J_callV E (jd dk_X4_readLine_0 12 rfl) ml_RX4_109 cal_X4_readReach e59 rfl (lk_X4_readReach (jE_g E) (jE_tr E) N e57) rfl (Nat.le_of_ble_eq_true rfl) (jR_le hX (by decide) (by decide)) (jF0 hX) rfl ?_
      rintro _ _ ⟨rfl, rfl⟩
      obtain ⟨n60, hf⟩ := jnw hf
      cases hf
      exact J_iret E hr n60 (jd dk_X4_readLine_0 13 rfl) (Nat.le_refl _) (Nat.le_refl _) ⟨rfl, rfl⟩
  · replace hf := jif_f c5 hf
    refine J_aload_n E (jd dk_X4_readLine_0 4 rfl) rfl 0 rfl ?_
    obtain ⟨u63, e64, hf⟩ := jbind hf
    obtain ⟨r61, e62, hf⟩ := jbind hf
    refine J_callV E (jd dk_X4_readLine_0 5 rfl) ml_RX4_104 cal_X4_readSides e64 rfl (lk_X4_readSides (jE_g E) (jE_tr E) N e62) rfl (Nat.le_of_ble_eq_true rfl) (jR_le hX (by decide) (by decide)) (jF0 hX) rfl ?_
    rintro _ _ ⟨rfl, rfl⟩
    obtain ⟨n65, hf⟩ := jnw hf
    cases hf
    exact J_iret E hr n65 (jd dk_X4_readLine_0 6 rfl) (Nat.le_refl _) (Nat.le_refl _) ⟨rfl, rfl⟩
def f_X4_read_l48 (N : Nat) (v0 : Nat) (v3 : Int32) (h : AH) : Option ((Int32 × AH) ⊕ ((AH) ⊕ (AH))) :=
  (jgi 4 h v0 3).bind fun x1 =>
  if x1 < v3 then some (.inr (.inr h))
  else (jgi 4 h v0 7).bind fun x4 =>
  if x4 = 0 then some (.inr (.inr h))
  else (jck 4 h v0).bind fun _ =>
  (f_X4_readLine N h v0).bind fun r7 =>
  if r7.1 = 0 then some (.inr (.inl r7.2))
  else some (.inl ((v3 + 1, r7.2)))
def f_X4_read_b48 (N : Nat) (v0 : Nat) (v3 : Int32) (h : AH) : Option (Int32 × AH) :=
  (itr (fun s => f_X4_read_l48 N v0 s.1 s.2) N (v3, h)).bind (Sum.elim (fun e => some (0, e)) (fun e => some (1, e)))
def f_X4_read (N : Nat) (h : AH) (a0 : Nat) (a1 : Nat) (a2 : Int32) : Option (Int32 × AH) :=
  (jwr 4 h a0 2 a1).bind fun h12 =>
  (jln 1 h12 a1).bind fun x14 =>
  (jwi 4 h12 a0 3 (jmn a2 x14)).bind fun h16 =>
  (jgr 4 h16 a0 4).bind fun x18 =>
  (jck 1 h16 x18).bind fun _ =>
  (f_X1_clear N h16 x18).bind fun r20 =>
  (jwi 4 r20 a0 0 0).bind fun h24 =>
  (jwi 4 h24 a0 1 ((-1))).bind fun h26 =>
  (jwz 4 h26 a0 11 0).bind fun h28 =>
  (jwi 4 h28 a0 6 0).bind fun h30 =>
  (jck 4 h30 a0).bind fun _ =>
  (f_X4_next N h30 a0).bind fun r32 =>
  f_X4_read_b48 N a0 0 r32
set_option maxRecDepth 100000 in
set_option maxHeartbeats 4000000 in
theorem lk_X4_read_l48 {G : JG} {X : JX} (E : jE G X (RX4, cX4_read, 4)) (hX : X.2.2.2.1 = jRm 108 0 0) (hr : X.2.2.2.2.2.2.2.2.1.sig.returnType = (some .boolean)) (N : Nat) {Q : State → Prop} {v0 : Nat} {v3 : Int32}  {h : AH} {q : ((Int32 × AH) ⊕ ((AH) ⊕ (AH)))} (hf : f_X4_read_l48 N v0 v3 h = some q) (kb : ∀ s' : Int32 × AH, q = .inl s' → JW G X (RX4, cX4_read, 4) s'.2 [(0, .ref v0), (3, .int s'.1)] [] 48 0 0 Q) (ke0 : ∀ e : AH, q = .inr (.inl e) → JW G X (RX4, cX4_read, 4) e [] [] 70 0 0 Q) (ke1 : ∀ e : AH, q = .inr (.inr e) → JW G X (RX4, cX4_read, 4) e [] [] 78 0 0 Q) : JW G X (RX4, cX4_read, 4) h [(0, .ref v0), (3, .int v3)] [] 48 0 0 Q := by
  unfold f_X4_read_l48 at hf
  refine J_iload_n E (jd dk_X4_read_0 28 rfl) rfl 1 rfl ?_
  refine J_aload_n E (jd dk_X4_read_0 29 rfl) rfl 0 rfl ?_
  obtain ⟨x1, e2, hf⟩ := jbind hf
  refine J_geti E (jd dk_X4_read_0 30 rfl) fl_RX4_22 e2 ?_
  refine J_icmp_gt (tgt := 78) E (jd dk_X4_read_0 31 rfl) (by decide) (fun c3 => ?_) (fun c3 => ?_)
  · replace hf := jif_t c3 hf
    refine J_sub [] rfl ?_
    exact ke1 _ (Option.some.inj hf).symm
  · replace hf := jif_f c3 hf
    refine J_aload_n E (jd dk_X4_read_0 32 rfl) rfl 0 rfl ?_
    obtain ⟨x4, e5, hf⟩ := jbind hf
    refine J_geti E (jd dk_X4_read_0 33 rfl) fl_RX4_38 e5 ?_
    refine J_if_eq (tgt := 78) E (jd dk_X4_read_0 34 rfl) (by decide) (fun c6 => ?_) (fun c6 => ?_)
    · replace hf := jif_t c6 hf
      refine J_sub [] rfl ?_
      exact ke1 _ (Option.some.inj hf).symm
    · replace hf := jif_f c6 hf
      refine J_aload_n E (jd dk_X4_read_0 35 rfl) rfl 0 rfl ?_
      obtain ⟨u9, e10, hf⟩ := jbind hf
      obtain ⟨r7, e8, hf⟩ := jbind hf
      refine J_callV E (jd dk_X4_read_0 36 rfl) ml_RX4_69 cal_X4_readLine e10 rfl (lk_X4_readLine (jE_g E) (jE_tr E) N e8) rfl (Nat.le_of_ble_eq_true rfl) (jR_le hX (by decide) (by decide)) (jF0 hX) rfl ?_
      rintro _ _ ⟨rfl, rfl⟩
      refine J_if_ne (tgt := 72) E (jd dk_X4_read_0 37 rfl) (by decide) (fun c11 => ?_) (fun c11 => ?_)
      · replace hf := jif_f c11 hf
        refine J_iinc (v := v3 + 1) (lv' := [(3, .int (v3 + 1)), (0, .ref v0)]) E (jd dk_X4_read_0 40 rfl) 1 rfl rfl (by decide) rfl ?_
        refine J_goto (tgt := 48) E (jd dk_X4_read_0 41 rfl) (by decide) ?_
        refine J_sub [1, 0] rfl ?_
        exact kb _ (Option.some.inj hf).symm
      · replace hf := jif_t c11 hf
        refine J_sub [] rfl ?_
        exact ke0 _ (Option.some.inj hf).symm
set_option maxRecDepth 100000 in
set_option maxHeartbeats 4000000 in
theorem lk_X4_read_b48 {G : JG} {X : JX} (E : jE G X (RX4, cX4_read, 4)) (hX : X.2.2.2.1 = jRm 108 0 0) (hr : X.2.2.2.2.2.2.2.2.1.sig.returnType = (some .boolean)) (N : Nat) {v0 : Nat} {v3 : Int32} {h : AH}  {r : (Int32 × AH)} (hf : f_X4_read_b48 N v0 v3 h = some r) : JW G X (RX4, cX4_read, 4) h [(0, .ref v0), (3, .int v3)] [] 48 0 0 (jEnd G X (jpi r) 0 0) := by
  unfold f_X4_read_b48 at hf
  obtain ⟨q1, h1, hf⟩ := jbind hf
  refine jloop (P := fun s => JW G X (RX4, cX4_read, 4) s.2 [(0, .ref v0), (3, .int s.1)] [] 48 0 0 (jEnd G X (jpi r) 0 0)) (Ex := Sum.elim (fun (e : AH) => JW G X (RX4, cX4_read, 4) e [] [] 70 0 0 (jEnd G X (jpi r) 0 0)) (fun (e : AH) => JW G X (RX4, cX4_read, 4) e [] [] 78 0 0 (jEnd G X (jpi r) 0 0))) (fun s q hs hb hx => lk_X4_read_l48 E hX hr N hs (fun s' hs => hb s' hs) (fun e he => hx _ he) (fun e he => hx _ he)) N _ q1 h1 ?_
  rcases q1 with e | e
  · refine J_iconst (v := 0) E (jd dk_X4_read_0 38 rfl) rfl ?_
    cases hf
    exact J_iret E hr rfl (jd dk_X4_read_0 39 rfl) (Nat.le_refl _) (Nat.le_refl _) ⟨rfl, rfl⟩
  · refine J_iconst (v := 1) E (jd dk_X4_read_0 42 rfl) rfl ?_
    cases hf
    exact J_iret E hr rfl (jd dk_X4_read_0 43 rfl) (Nat.le_refl _) (Nat.le_refl _) ⟨rfl, rfl⟩
set_option maxRecDepth 100000 in
set_option maxHeartbeats 4000000 in
theorem lk_X4_read {G : JG} {l : Launch} (hG : jG G) (htr : l.stackTraces = false) (N : Nat) {h : AH} {a0 : Nat} {a1 : Nat} {a2 : Int32} {r : (Int32 × AH)} (hf : f_X4_read N h a0 a1 a2 = some r) : jMet G l yX4_read cX4_read 4 (some .boolean) 108 0 0 [.ref a0, .ref a1, .int a2] h (jpi r) := by
  unfold f_X4_read at hf
  refine jMet_of hG htr (by decide) (Nat.le_of_ble_eq_true rfl) ?_
  intro X E hl9 hr hX _ _
  show JW G X (RX4, cX4_read, 4) h [(0, .ref a0), (1, .ref a1), (2, .int a2)] [] 0 0 0 (jEnd G X (jpi r) 0 0)
  refine J_aload_n E (jd dk_X4_read_0 0 rfl) rfl 0 rfl ?_
  refine J_aload_n E (jd dk_X4_read_0 1 rfl) rfl 1 rfl ?_
  obtain ⟨h12, e13, hf⟩ := jbind hf
  refine J_put E (jd dk_X4_read_0 2 rfl) fl_RX4_18 e13 (fun _ => rfl) (fun _ => rfl) ?_
  refine J_aload_n E (jd dk_X4_read_0 3 rfl) rfl 0 rfl ?_
  refine J_iload_n E (jd dk_X4_read_0 4 rfl) rfl 2 rfl ?_
  refine J_aload_n E (jd dk_X4_read_0 5 rfl) rfl 1 rfl ?_
  obtain ⟨x14, e15, hf⟩ := jbind hf
  refine J_alen E (by decide) (jd dk_X4_read_0 6 rfl) e15 ?_
  refine J_min E (jd dk_X4_read_0 7 rfl) ml_RX4_57 (Nat.le_of_ble_eq_true rfl) (by rw [hX]; exact ⟨Nat.zero_le _, Nat.zero_le _⟩) ?_
  obtain ⟨h16, e17, hf⟩ := jbind hf
  refine J_put E (jd dk_X4_read_0 8 rfl) fl_RX4_22 e17 (fun _ => rfl) (fun _ => rfl) ?_
  refine J_aload_n E (jd dk_X4_read_0 9 rfl) rfl 0 rfl ?_
  obtain ⟨x18, e19, hf⟩ := jbind hf
  refine J_getr E (jd dk_X4_read_0 10 rfl) fl_RX4_28 e19 ?_
  obtain ⟨u22, e23, hf⟩ := jbind hf
  obtain ⟨r20, e21, hf⟩ := jbind hf
  refine J_callV E (jd dk_X4_read_0 11 rfl) ml_RX4_63 cal_X1_clear e23 rfl (lk_X1_clear (jE_g E) (jE_tr E) N e21) rfl (Nat.le_of_ble_eq_true rfl) (jR_le hX (by decide) (by decide)) (jF0 hX) rfl ?_
  rintro _ _ ⟨rfl, rfl⟩
  refine J_aload_n E (jd dk_X4_read_0 12 rfl) rfl 0 rfl ?_
  refine J_iconst (v := 0) E (jd dk_X4_read_0 13 rfl) rfl ?_
  obtain ⟨h24, e25, hf⟩ := jbind hf
  refine J_put E (jd dk_X4_read_0 14 rfl) fl_RX4_9 e25 (fun _ => rfl) (fun _ => rfl) ?_
  refine J_aload_n E (jd dk_X4_read_0 15 rfl) rfl 0 rfl ?_
  refine J_iconst (v := (-1)) E (jd dk_X4_read_0 16 rfl) rfl ?_
  obtain ⟨h26, e27, hf⟩ := jbind hf
  refine J_put E (jd dk_X4_read_0 17 rfl) fl_RX4_15 e27 (fun _ => rfl) (fun _ => rfl) ?_
  refine J_aload_n E (jd dk_X4_read_0 18 rfl) rfl 0 rfl ?_
  refine J_iconst (v := 0) E (jd dk_X4_read_0 19 rfl) rfl ?_
  obtain ⟨h28, e29, hf⟩ := jbind hf
  refine J_putz E (jd dk_X4_read_0 20 rfl) fl_RX4_50 e29 ?_
  refine J_aload_n E (jd dk_X4_read_0 21 rfl) rfl 0 rfl ?_
  refine J_iconst (v := 0) E (jd dk_X4_read_0 22 rfl) rfl ?_
  obtain ⟨h30, e31, hf⟩ := jbind hf
  refine J_put E (jd dk_X4_read_0 23 rfl) fl_RX4_35 e31 (fun _ => rfl) (fun _ => rfl) ?_
  refine J_aload_n E (jd dk_X4_read_0 24 rfl) rfl 0 rfl ?_
  obtain ⟨u34, e35, hf⟩ := jbind hf
  obtain ⟨r32, e33, hf⟩ := jbind hf
  refine J_callV E (jd dk_X4_read_0 25 rfl) ml_RX4_66 cal_X4_next e35 rfl (lk_X4_next (jE_g E) (jE_tr E) N e33) rfl (Nat.le_of_ble_eq_true rfl) (jR_le hX (by decide) (by decide)) (jF0 hX) rfl ?_
  rintro _ _ ⟨rfl, rfl⟩
  refine J_iconst (v := 0) E (jd dk_X4_read_0 26 rfl) rfl ?_
  refine J_istore_n (lv' := [(3, .int 0), (0, .ref a0), (1, .ref a1), (2, .int a2)]) E (jd dk_X4_read_0 27 rfl) rfl (by decide) rfl ?_
  refine J_sub [1, 0] rfl ?_
  exact lk_X4_read_b48 E hX hr N hf
def f_X6_gorge_b12 (N : Nat)  (h : AH) : Option ((Nat ⊕ Int32) × AH) :=
  some (.inl 2, h)
def f_X6_gorge (N : Nat) (h : AH) (a0 : Nat) (a1 : Int32) : Option ((Nat ⊕ Int32) × AH) :=
  if a1 < 0 then f_X6_gorge_b12 N  h
  else (jgi 6 h a0 1).bind fun x2 =>
  if a1 ≤ x2 then (jwi 6 h a0 1 0).bind fun h5 =>
  (jgr 6 h5 a0 3).bind fun x7 =>
  (jgr 6 h5 a0 0).bind fun x9 =>
  (jck 4 h5 x7).bind fun _ =>
  (f_X4_read N h5 x7 x9 a1).bind fun r11 =>
  if r11.1 = 0 then (jgr 6 r11.2 a0 3).bind fun x38 =>
  (jgi 4 r11.2 x38 1).bind fun x40 =>
  (jwi 6 r11.2 a0 2 x40).bind fun h42 =>
  (jgr 6 h42 a0 5).bind fun x44 =>
  (jgr 0 h42 x44 1).bind fun x46 =>
  (jal 0 h42 x46 0).bind fun x48 =>
  (jas 0 h42 x46 0 (x48 + 1)).bind fun h50 =>
  (jgr 6 h50 a0 3).bind fun x52 =>
  (jgi 4 h50 x52 0).bind fun x54 =>
  some (.inr x54, h50)
  else (jgr 6 r11.2 a0 3).bind fun x16 =>
  (jgr 6 r11.2 a0 4).bind fun x18 =>
  (jck 4 r11.2 x16).bind fun _ =>
  (f_X4_exchange N r11.2 x16 x18).bind fun r20 =>
  (jwr 6 r20.2 a0 4 r20.1).bind fun h24 =>
  (jwi 6 h24 a0 2 ((-1))).bind fun h26 =>
  (jwz 6 h26 a0 7 0).bind fun h28 =>
  (jgr 6 h28 a0 5).bind fun x30 =>
  (jgr 6 h28 a0 4).bind fun x32 =>
  (jck 0 h28 x30).bind fun _ =>
  (f_X0_begin N h28 x30 x32).bind fun r34 =>
  some (.inr 0, r34)
  else f_X6_gorge_b12 N  h
set_option maxRecDepth 100000 in
set_option maxHeartbeats 4000000 in
theorem lk_X6_gorge_b12 {G : JG} {X : JX} (E : jE G X (RX6, cX6_gorge, 2)) (hX : X.2.2.2.1 = jRm 109 1 6) (hr : X.2.2.2.2.2.2.2.2.1.sig.returnType = (some .int)) (htab : ∀ x ∈ X.2.2.2.2.2.2.2.2.2.exceptionTable.toList, False) (N : Nat)  {h : AH}  {r : ((Nat ⊕ Int32) × AH)} (hf : f_X6_gorge_b12 N  h = some r) : JW G X (RX6, cX6_gorge, 2) h [] [] 12 0 0 (jEndX G X (jpXi r) (jpXx r) 1 6) := by
  unfold f_X6_gorge_b12 at hf
  cases hf
  exact J_throw (j := 0) (text := "the tape has not so many bytes") E thr_2 rfl htab (jd dk_X6_gorge_0 6 rfl) (jd dk_X6_gorge_0 7 rfl) (jd dk_X6_gorge_0 8 rfl) (jd dk_X6_gorge_0 9 rfl) (jd dk_X6_gorge_0 10 rfl) (Nat.le_of_ble_eq_true rfl) (jRc hX (by decide) (by decide)) (by decide) (by decide) ⟨2, rfl, rfl, rfl⟩
set_option maxRecDepth 100000 in
set_option maxHeartbeats 4000000 in
theorem lk_X6_gorge {G : JG} {l : Launch} (hG : jG G) (htr : l.stackTraces = false) (N : Nat) {h : AH} {a0 : Nat} {a1 : Int32} {r : ((Nat ⊕ Int32) × AH)} (hf : f_X6_gorge N h a0 a1 = some r) : jMetX G l yX6_gorge cX6_gorge 2 (some .int) 109 1 6 [.ref a0, .int a1] h (jpXi r) (jpXx r) := by
  unfold f_X6_gorge at hf
  refine jMetX_of hG htr (by decide) (Nat.le_of_ble_eq_true rfl) ?_
  intro X E hl9 hr hX htab
  show JW G X (RX6, cX6_gorge, 2) h [(0, .ref a0), (1, .int a1)] [] 0 0 0 (jEndX G X (jpXi r) (jpXx r) 1 6)
  refine J_iload_n E (jd dk_X6_gorge_0 0 rfl) rfl 1 rfl ?_
  refine J_if_lt (tgt := 12) E (jd dk_X6_gorge_0 1 rfl) (by decide) (fun c1 => ?_) (fun c1 => ?_)
  · replace hf := jif_t c1 hf
    refine J_sub [] rfl ?_
    exact lk_X6_gorge_b12 E hX hr htab N hf
  · replace hf := jif_f c1 hf
    refine J_iload_n E (jd dk_X6_gorge_0 2 rfl) rfl 1 rfl ?_
    refine J_aload_n E (jd dk_X6_gorge_0 3 rfl) rfl 0 rfl ?_
    obtain ⟨x2, e3, hf⟩ := jbind hf
    refine J_geti E (jd dk_X6_gorge_0 4 rfl) fl_RX6_13 e3 ?_
    refine J_icmp_le (tgt := 22) E (jd dk_X6_gorge_0 5 rfl) (by decide) (fun c4 => ?_) (fun c4 => ?_)
    · replace hf := jif_t c4 hf
      refine J_aload_n E (jd dk_X6_gorge_0 11 rfl) rfl 0 rfl ?_
      refine J_iconst (v := 0) E (jd dk_X6_gorge_0 12 rfl) rfl ?_
      obtain ⟨h5, e6, hf⟩ := jbind hf
      refine J_put E (jd dk_X6_gorge_0 13 rfl) fl_RX6_13 e6 (fun _ => rfl) (fun _ => rfl) ?_
      refine J_aload_n E (jd dk_X6_gorge_0 14 rfl) rfl 0 rfl ?_
      obtain ⟨x7, e8, hf⟩ := jbind hf
      refine J_getr E (jd dk_X6_gorge_0 15 rfl) fl_RX6_23 e8 ?_
      refine J_aload_n E (jd dk_X6_gorge_0 16 rfl) rfl 0 rfl ?_
      obtain ⟨x9, e10, hf⟩ := jbind hf
      refine J_getr E (jd dk_X6_gorge_0 17 rfl) fl_RX6_9 e10 ?_
      refine J_iload_n E (jd dk_X6_gorge_0 18 rfl) rfl 1 rfl ?_
      obtain ⟨u13, e14, hf⟩ := jbind hf
      obtain ⟨r11, e12, hf⟩ := jbind hf
      refine J_callV E (jd dk_X6_gorge_0 19 rfl) ml_RX6_87 cal_X4_read e14 rfl (lk_X4_read (jE_g E) (jE_tr E) N e12) rfl (Nat.le_of_ble_eq_true rfl) (jR_le hX (by decide) (by decide)) (jFx hX (by decide) (by decide)) rfl ?_
      rintro _ _ ⟨rfl, rfl⟩
      refine J_if_ne (tgt := 74) E (jd dk_X6_gorge_0 20 rfl) (by decide) (fun c15 => ?_) (fun c15 => ?_)
      · replace hf := jif_f c15 hf
        refine J_aload_n E (jd dk_X6_gorge_0 39 rfl) rfl 0 rfl ?_
        refine J_aload_n E (jd dk_X6_gorge_0 40 rfl) rfl 0 rfl ?_
        obtain ⟨x16, e17, hf⟩ := jbind hf
        refine J_getr E (jd dk_X6_gorge_0 41 rfl) fl_RX6_23 e17 ?_
        refine J_aload_n E (jd dk_X6_gorge_0 42 rfl) rfl 0 rfl ?_
        obtain ⟨x18, e19, hf⟩ := jbind hf
        refine J_getr E (jd dk_X6_gorge_0 43 rfl) fl_RX6_30 e19 ?_
        obtain ⟨u22, e23, hf⟩ := jbind hf
        obtain ⟨r20, e21, hf⟩ := jbind hf
        refine J_callV E (jd dk_X6_gorge_0 44 rfl) ml_RX6_100 cal_X4_exchange e23 rfl (lk_X4_exchange (jE_g E) (jE_tr E) N e21) rfl (Nat.le_of_ble_eq_true rfl) (jR_le hX (by decide) (by decide)) (jFx hX (by decide) (by decide)) rfl ?_
        rintro _ _ ⟨rfl, rfl⟩
        obtain ⟨h24, e25, hf⟩ := jbind hf
        refine J_put E (jd dk_X6_gorge_0 45 rfl) fl_RX6_30 e25 (fun _ => rfl) (fun _ => rfl) ?_
        refine J_aload_n E (jd dk_X6_gorge_0 46 rfl) rfl 0 rfl ?_
        refine J_iconst (v := (-1)) E (jd dk_X6_gorge_0 47 rfl) rfl ?_
        obtain ⟨h26, e27, hf⟩ := jbind hf
        refine J_put E (jd dk_X6_gorge_0 48 rfl) fl_RX6_17 e27 (fun _ => rfl) (fun _ => rfl) ?_
        refine J_aload_n E (jd dk_X6_gorge_0 49 rfl) rfl 0 rfl ?_
        refine J_iconst (v := 0) E (jd dk_X6_gorge_1 0 rfl) rfl ?_
        obtain ⟨h28, e29, hf⟩ := jbind hf
        refine J_putz E (jd dk_X6_gorge_1 1 rfl) fl_RX6_44 e29 ?_
        refine J_aload_n E (jd dk_X6_gorge_1 2 rfl) rfl 0 rfl ?_
        obtain ⟨x30, e31, hf⟩ := jbind hf
        refine J_getr E (jd dk_X6_gorge_1 3 rfl) fl_RX6_37 e31 ?_
        refine J_aload_n E (jd dk_X6_gorge_1 4 rfl) rfl 0 rfl ?_
        obtain ⟨x32, e33, hf⟩ := jbind hf
        refine J_getr E (jd dk_X6_gorge_1 5 rfl) fl_RX6_30 e33 ?_
        obtain ⟨u36, e37, hf⟩ := jbind hf
        obtain ⟨r34, e35, hf⟩ := jbind hf
        refine J_callV E (jd dk_X6_gorge_1 6 rfl) ml_RX6_72 cal_X0_begin e37 rfl (lk_X0_begin (jE_g E) (jE_tr E) N e35) rfl (Nat.le_of_ble_eq_true rfl) (jR_le hX (by decide) (by decide)) (jFx hX (by decide) (by decide)) rfl ?_
        rintro _ _ ⟨rfl, rfl⟩
        refine J_iconst (v := 0) E (jd dk_X6_gorge_1 7 rfl) rfl ?_
        cases hf
        exact J_x (J_iret E hr rfl (jd dk_X6_gorge_1 8 rfl) (by decide) (by decide) ⟨_, rfl, rfl, rfl⟩)
      · replace hf := jif_t c15 hf
        refine J_aload_n E (jd dk_X6_gorge_0 21 rfl) rfl 0 rfl ?_
        refine J_aload_n E (jd dk_X6_gorge_0 22 rfl) rfl 0 rfl ?_
        obtain ⟨x38, e39, hf⟩ := jbind hf
        refine J_getr E (jd dk_X6_gorge_0 23 rfl) fl_RX6_23 e39 ?_
        obtain ⟨x40, e41, hf⟩ := jbind hf
        refine J_geti E (jd dk_X6_gorge_0 24 rfl) fl_RX6_91 e41 ?_
        obtain ⟨h42, e43, hf⟩ := jbind hf
        refine J_put E (jd dk_X6_gorge_0 25 rfl) fl_RX6_17 e43 (fun _ => rfl) (fun _ => rfl) ?_
        refine J_aload_n E (jd dk_X6_gorge_0 26 rfl) rfl 0 rfl ?_
        obtain ⟨x44, e45, hf⟩ := jbind hf
        refine J_getr E (jd dk_X6_gorge_0 27 rfl) fl_RX6_37 e45 ?_
        obtain ⟨x46, e47, hf⟩ := jbind hf
        refine J_getr E (jd dk_X6_gorge_0 28 rfl) fl_RX6_94 e47 ?_
        refine J_iconst (v := 0) E (jd dk_X6_gorge_0 29 rfl) rfl ?_
        refine J_dup2 E (jd dk_X6_gorge_0 30 rfl) rfl rfl ?_
        obtain ⟨x48, e49, hf⟩ := jbind hf
        refine J_iald E (jd dk_X6_gorge_0 31 rfl) e49 ?_
        refine J_iconst (v := 1) E (jd dk_X6_gorge_0 32 rfl) rfl ?_
        refine J_iadd E (jd dk_X6_gorge_0 33 rfl) ?_
        obtain ⟨h50, e51, hf⟩ := jbind hf
        refine J_iast E (jd dk_X6_gorge_0 34 rfl) e51 ?_
        refine J_aload_n E (jd dk_X6_gorge_0 35 rfl) rfl 0 rfl ?_
        obtain ⟨x52, e53, hf⟩ := jbind hf
        refine J_getr E (jd dk_X6_gorge_0 36 rfl) fl_RX6_23 e53 ?_
        obtain ⟨x54, e55, hf⟩ := jbind hf
        refine J_geti E (jd dk_X6_gorge_0 37 rfl) fl_RX6_97 e55 ?_
        cases hf
        exact J_x (J_iret E hr rfl (jd dk_X6_gorge_0 38 rfl) (by decide) (by decide) ⟨_, rfl, rfl, rfl⟩)
    · replace hf := jif_f c4 hf
      refine J_sub [] rfl ?_
      exact lk_X6_gorge_b12 E hX hr htab N hf
