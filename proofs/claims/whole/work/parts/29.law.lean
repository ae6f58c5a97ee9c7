/-! the law: its script is of the background -/
def jsx (L : Nat) (xs : Nat → Int32) (i : Int32) : Option Int32 := if ¬ (i < 0 ∨ L ≤ i.toNatClampNeg) then some (xs i.toNatClampNeg) else none
def jScr (G : JG) (X : JX) (L : Nat) (xs : Nat → Int32) : Prop := match X with
  | (_, _, _, _, s, _, _, _, _, _) => va_X (gS G 4000000) L xs s s.heap ∧ gS G 4000000 < s.heap.size ∧ gS G 4000000 < gb G
section JLW
variable {G : JG} {X : JX} {Y : JY} {h h' : AH} {lv lv' : List (Nat × Value)} {st : List Value} {pc cells slots : Nat} {Q : State → Prop}
theorem J_sld (E : jE G X Y) {L : Nat} {xs : Nat → Int32} (hS9 : jScr G X L xs) {i x : Int32} (hd : decode Y.2.1 pc = .ok (.iaload, 1)) (e : jsx L xs i = some x) (k : JW G X Y h lv (.int x :: st) (pc + 1) cells slots Q) : JW G X Y h lv (.int i :: .ref 4000000 :: st) pc cells slots Q := by
  obtain ⟨p, l, e9, R, s, m, args, below, meth, c⟩ := X
  obtain ⟨hx, hb, hml, hown, hts, hK, hG, hsz, hkp, hbg, hlk, htr, hRf, hRl⟩ := E
  obtain ⟨h1, h2, h3⟩ := hS9
  unfold jsx at e
  obtain ⟨hin, e⟩ := jnw e
  cases e
  intro hn H locs ls hP hS hL
  exact va_sld hx hb h1 h2 (show ¬ jA G (gS G 4000000) from Nat.not_le.mpr h3) hS hin hd (k hn H locs ls hP hS hL)
theorem J_slL (E : jE G X Y) {L : Nat} {xs : Nat → Int32} (hS9 : jScr G X L xs) (hd : decode Y.2.1 pc = .ok (.arraylength, 1)) (k : JW G X Y h lv (.int (Int32.ofNat L) :: st) (pc + 1) cells slots Q) : JW G X Y h lv (.ref 4000000 :: st) pc cells slots Q := by
  obtain ⟨p, l, e9, R, s, m, args, below, meth, c⟩ := X
  obtain ⟨hx, hb, hml, hown, hts, hK, hG, hsz, hkp, hbg, hlk, htr, hRf, hRl⟩ := E
  obtain ⟨h1, h2, h3⟩ := hS9
  intro hn H locs ls hP hS hL
  exact va_slen hx hb h1 h2 (show ¬ jA G (gS G 4000000) from Nat.not_le.mpr h3) hS hd (k hn H locs ls hP hS hL)
theorem jRL {dc maxL : Nat} (hX : X.2.2.2.1 = room_1) (h : dc ≤ 200) (hl : maxL ≤ 41) : 10 * dc + 21 ≤ X.2.2.2.1.frames ∧ 60 * dc + 219 + maxL ≤ X.2.2.2.1.locals := by
  rw [hX]
  exact ⟨by show 10 * dc + 21 ≤ 2048; omega, by show 60 * dc + 219 + maxL ≤ 84000; omega⟩
theorem jFL {c9 s9 a b : Nat} (hX : X.2.2.2.1 = room_1) (hc : c9 + 4 ≤ 601024 ∧ s9 + 24 ≤ 7293033) (h1 : a ≤ 4) (h2 : b ≤ 24) : c9 + a ≤ X.2.2.2.1.cells ∧ s9 + b ≤ X.2.2.2.1.slots := by
  rw [hX]
  exact ⟨by show c9 + a ≤ 601024; omega, by show s9 + b ≤ 7293033; omega⟩
theorem jFM {c9 s9 u v a b : Nat} (hX : X.2.2.2.1 = room_1) (hc : c9 + 4 ≤ 601024 ∧ s9 + 24 ≤ 7293033) (h1 : u + a ≤ 4) (h2 : v + b ≤ 24) : c9 + u + a ≤ X.2.2.2.1.cells ∧ s9 + v + b ≤ X.2.2.2.1.slots := by
  rw [hX]
  exact ⟨by show c9 + u + a ≤ 601024; omega, by show s9 + v + b ≤ 7293033; omega⟩
theorem J_stk {st' : List Value} (e : st = st') (k : JW G X Y h lv st' pc cells slots Q) : JW G X Y h lv st pc cells slots Q := by
  subst e
  exact k
end JLW
def f_L_c0 (N L : Nat) (xs : Nat → Int32) (a1 a2 a3 : Nat) (i : Int32) (h : AH) : Option AH :=
  (jsx L xs (i + 1)).bind fun x1 =>
  (jsx L xs (i + 2)).bind fun x3 =>
  (jsx L xs (i + 3)).bind fun x5 =>
  (jsx L xs (i + 4)).bind fun x7 =>
  (jsx L xs (i + 5)).bind fun x9 =>
  (jck 6 h a1).bind fun _ =>
  (f_X6_feed N h a1 x1 x3 x5 x7 x9).bind fun r11 =>
  (jsx L xs (i + 1)).bind fun x15 =>
  (jsx L xs (i + 2)).bind fun x17 =>
  (jsx L xs (i + 3)).bind fun x19 =>
  (jsx L xs (i + 4)).bind fun x21 =>
  (jsx L xs (i + 5)).bind fun x23 =>
  (jck 7 r11.2 a2).bind fun _ =>
  (f_X7_feed N r11.2 a2 x15 x17 x19 x21 x23).bind fun r25 =>
  if ¬ r11.1 = r25.1 then none else
  some r25.2
set_option maxRecDepth 100000 in
set_option maxHeartbeats 4000000 in
theorem lk_L_c0 {G : JG} {X : JX} (E : jE G X (RL, cL_law, 7)) (hX : X.2.2.2.1 = room_1) {L : Nat} {xs : Nat → Int32} (hS9 : jScr G X L xs) (N : Nat) {a1 a2 a3 : Nat} {i : Int32} {h h1 : AH} {cc9 ss9 : Nat} (hc9 : cc9 + 4 ≤ 601024 ∧ ss9 + 24 ≤ 7293033) {Q : State → Prop} (hf : f_L_c0 N L xs a1 a2 a3 i h = some h1) (kb : JW G X (RL, cL_law, 7) h1 [(0, .ref 4000000), (1, .ref a1), (2, .ref a2), (3, .ref a3), (4, .int i)] [] 2480 (cc9 + 4) (ss9 + 24) Q) : JW G X (RL, cL_law, 7) h [(0, .ref 4000000), (1, .ref a1), (2, .ref a2), (3, .ref a3), (4, .int i)] [] 212 cc9 ss9 Q := by
  unfold f_L_c0 at hf
  refine J_aload_n E (jd dk_L_law_0 25 rfl) rfl 1 rfl ?_
  refine J_aload_n E (jd dk_L_law_0 26 rfl) rfl 0 rfl ?_
  refine J_iload E (jd dk_L_law_0 27 rfl) 4 rfl ?_
  refine J_iconst (v := 1) E (jd dk_L_law_0 28 rfl) rfl ?_
  refine J_iadd E (jd dk_L_law_0 29 rfl) ?_
  obtain ⟨x1, e2, hf⟩ := jbind hf
  refine J_sld E hS9 (jd dk_L_law_0 30 rfl) e2 ?_
  refine J_aload_n E (jd dk_L_law_0 31 rfl) rfl 0 rfl ?_
  refine J_iload E (jd dk_L_law_0 32 rfl) 4 rfl ?_
  refine J_iconst (v := 2) E (jd dk_L_law_0 33 rfl) rfl ?_
  refine J_iadd E (jd dk_L_law_0 34 rfl) ?_
  obtain ⟨x3, e4, hf⟩ := jbind hf
  refine J_sld E hS9 (jd dk_L_law_0 35 rfl) e4 ?_
  refine J_aload_n E (jd dk_L_law_0 36 rfl) rfl 0 rfl ?_
  refine J_iload E (jd dk_L_law_0 37 rfl) 4 rfl ?_
  refine J_iconst (v := 3) E (jd dk_L_law_0 38 rfl) rfl ?_
  refine J_iadd E (jd dk_L_law_0 39 rfl) ?_
  obtain ⟨x5, e6, hf⟩ := jbind hf
  refine J_sld E hS9 (jd dk_L_law_0 40 rfl) e6 ?_
  refine J_aload_n E (jd dk_L_law_0 41 rfl) rfl 0 rfl ?_
  refine J_iload E (jd dk_L_law_0 42 rfl) 4 rfl ?_
  refine J_iconst (v := 4) E (jd dk_L_law_0 43 rfl) rfl ?_
  refine J_iadd E (jd dk_L_law_0 44 rfl) ?_
  obtain ⟨x7, e8, hf⟩ := jbind hf
  refine J_sld E hS9 (jd dk_L_law_0 45 rfl) e8 ?_
  refine J_aload_n E (jd dk_L_law_0 46 rfl) rfl 0 rfl ?_
  refine J_iload E (jd dk_L_law_0 47 rfl) 4 rfl ?_
  refine J_iconst (v := 5) E (jd dk_L_law_0 48 rfl) rfl ?_
  refine J_iadd E (jd dk_L_law_0 49 rfl) ?_
  obtain ⟨x9, e10, hf⟩ := jbind hf
  refine J_sld E hS9 (jd dk_L_law_1 0 rfl) e10 ?_
  obtain ⟨u13, e14, hf⟩ := jbind hf
  obtain ⟨r11, e12, hf⟩ := jbind hf
  refine J_callV (st := []) E (jd dk_L_law_1 1 rfl) ml_RL_113 cal_X6_feed e14 rfl (lk_X6_feed (jE_g E) (jE_tr E) N e12) rfl (Nat.le_of_ble_eq_true rfl) (jRL hX (by decide) (by decide)) (jFL hX hc9 (by decide) (by decide)) rfl ?_
  rintro _ _ ⟨rfl, rfl⟩
  refine J_stk (st' := [.int r11.1]) rfl ?_
  refine J_aload_n E (jd dk_L_law_1 2 rfl) rfl 2 rfl ?_
  refine J_aload_n E (jd dk_L_law_1 3 rfl) rfl 0 rfl ?_
  refine J_iload E (jd dk_L_law_1 4 rfl) 4 rfl ?_
  refine J_iconst (v := 1) E (jd dk_L_law_1 5 rfl) rfl ?_
  refine J_iadd E (jd dk_L_law_1 6 rfl) ?_
  obtain ⟨x15, e16, hf⟩ := jbind hf
  refine J_sld E hS9 (jd dk_L_law_1 7 rfl) e16 ?_
  refine J_aload_n E (jd dk_L_law_1 8 rfl) rfl 0 rfl ?_
  refine J_iload E (jd dk_L_law_1 9 rfl) 4 rfl ?_
  refine J_iconst (v := 2) E (jd dk_L_law_1 10 rfl) rfl ?_
  refine J_iadd E (jd dk_L_law_1 11 rfl) ?_
  obtain ⟨x17, e18, hf⟩ := jbind hf
  refine J_sld E hS9 (jd dk_L_law_1 12 rfl) e18 ?_
  refine J_aload_n E (jd dk_L_law_1 13 rfl) rfl 0 rfl ?_
  refine J_iload E (jd dk_L_law_1 14 rfl) 4 rfl ?_
  refine J_iconst (v := 3) E (jd dk_L_law_1 15 rfl) rfl ?_
  refine J_iadd E (jd dk_L_law_1 16 rfl) ?_
  obtain ⟨x19, e20, hf⟩ := jbind hf
  refine J_sld E hS9 (jd dk_L_law_1 17 rfl) e20 ?_
  refine J_aload_n E (jd dk_L_law_1 18 rfl) rfl 0 rfl ?_
  refine J_iload E (jd dk_L_law_1 19 rfl) 4 rfl ?_
  refine J_iconst (v := 4) E (jd dk_L_law_1 20 rfl) rfl ?_
  refine J_iadd E (jd dk_L_law_1 21 rfl) ?_
  obtain ⟨x21, e22, hf⟩ := jbind hf
  refine J_sld E hS9 (jd dk_L_law_1 22 rfl) e22 ?_
  refine J_aload_n E (jd dk_L_law_1 23 rfl) rfl 0 rfl ?_
  refine J_iload E (jd dk_L_law_1 24 rfl) 4 rfl ?_
  refine J_iconst (v := 5) E (jd dk_L_law_1 25 rfl) rfl ?_
  refine J_iadd E (jd dk_L_law_1 26 rfl) ?_
  obtain ⟨x23, e24, hf⟩ := jbind hf
  refine J_sld E hS9 (jd dk_L_law_1 27 rfl) e24 ?_
  obtain ⟨u27, e28, hf⟩ := jbind hf
  obtain ⟨r25, e26, hf⟩ := jbind hf
  refine J_callV (st := [.int r11.1]) E (jd dk_L_law_1 28 rfl) ml_RL_117 cal_X7_feed e28 rfl (lk_X7_feed (jE_g E) (jE_tr E) N e26) rfl (Nat.le_of_ble_eq_true rfl) (jRL hX (by decide) (by decide)) (jFL hX hc9 (by decide) (by decide)) rfl ?_
  rintro _ _ ⟨rfl, rfl⟩
  refine J_stk (st' := [.int r25.1, .int r11.1]) rfl ?_
  obtain ⟨c29, hf⟩ := jnz hf
  refine J_icmp_eq (tgt := 2480) E (jd dk_L_law_1 29 rfl) (by decide) (fun _ => ?_) (fun z => absurd z c29)
  refine J_sub [0, 1, 2, 3, 4] rfl ?_
  refine J_widen (cells' := cc9 + 4) (slots' := ss9 + 24) (by omega) (by omega) ?_
  cases hf
  exact kb
def f_L_c1 (N L : Nat) (xs : Nat → Int32) (a1 a2 a3 : Nat) (i : Int32) (h : AH) : Option AH :=
  (jsx L xs (i + 1)).bind fun x1 =>
  (f_L_gorge N h a1 x1 a3).bind fun r3 =>
  (jsx L xs (i + 1)).bind fun x5 =>
  (jck 7 r3.2 a2).bind fun _ =>
  (f_X7_gorge N r3.2 a2 x5).bind fun r7 =>
  (jck 7 r7.2 a2).bind fun _ =>
  (f_X7_thrown N r7.2 a2).bind fun r11 =>
  if ¬ r11.1 = r3.1 then none else
  if ¬ r3.1 = 0 then some r11.2 else
  (jll 3 r11.2 a3 0).bind fun x17 =>
  if ¬ (lg_cmp x17 (Int32.toInt64 r7.1)) = 0 then none else
  some r11.2
set_option maxRecDepth 100000 in
set_option maxHeartbeats 4000000 in
theorem lk_L_c1 {G : JG} {X : JX} (E : jE G X (RL, cL_law, 7)) (hX : X.2.2.2.1 = room_1) {L : Nat} {xs : Nat → Int32} (hS9 : jScr G X L xs) (N : Nat) {a1 a2 a3 : Nat} {i : Int32} {h h1 : AH} {cc9 ss9 : Nat} (hc9 : cc9 + 4 ≤ 601024 ∧ ss9 + 24 ≤ 7293033) {Q : State → Prop} (hf : f_L_c1 N L xs a1 a2 a3 i h = some h1) (kb : JW G X (RL, cL_law, 7) h1 [(0, .ref 4000000), (1, .ref a1), (2, .ref a2), (3, .ref a3), (4, .int i)] [] 2480 (cc9 + 4) (ss9 + 24) Q) : JW G X (RL, cL_law, 7) h [(0, .ref 4000000), (1, .ref a1), (2, .ref a2), (3, .ref a3), (4, .int i)] [] 285 cc9 ss9 Q := by
  unfold f_L_c1 at hf
  refine J_aload_n E (jd dk_L_law_1 32 rfl) rfl 1 rfl ?_
  refine J_aload_n E (jd dk_L_law_1 33 rfl) rfl 0 rfl ?_
  refine J_iload E (jd dk_L_law_1 34 rfl) 4 rfl ?_
  refine J_iconst (v := 1) E (jd dk_L_law_1 35 rfl) rfl ?_
  refine J_iadd E (jd dk_L_law_1 36 rfl) ?_
  obtain ⟨x1, e2, hf⟩ := jbind hf
  refine J_sld E hS9 (jd dk_L_law_1 37 rfl) e2 ?_
  refine J_aload_n E (jd dk_L_law_1 38 rfl) rfl 3 rfl ?_
  obtain ⟨r3, e4, hf⟩ := jbind hf
  refine J_callSW (st := []) E (jd dk_L_law_1 39 rfl) ml_RL_118 cal_L_gorge.1 cal_L_gorge.2.1 cal_L_gorge.2.2.1 cal_L_gorge.2.2.2 (lk_L_gorge (jE_g E) (jE_tr E) N e4) rfl (Nat.le_of_ble_eq_true rfl) (jRL hX (by decide) (by decide)) (jFL hX hc9 (by decide) (by decide)) rfl ?_
  rintro _ _ ⟨rfl, rfl⟩
  refine J_stk (st' := [.int r3.1]) rfl ?_
  refine J_istore (lv' := [(5, .int r3.1), (0, .ref 4000000), (1, .ref a1), (2, .ref a2), (3, .ref a3), (4, .int i)]) E (jd dk_L_law_1 40 rfl) (by decide) rfl ?_
  refine J_aload_n E (jd dk_L_law_1 41 rfl) rfl 3 rfl ?_
  refine J_aload_n E (jd dk_L_law_1 42 rfl) rfl 1 rfl ?_
  refine J_iload E (jd dk_L_law_1 43 rfl) 5 rfl ?_
  refine J_iconst (v := 1) E (jd dk_L_law_1 44 rfl) rfl ?_
  refine J_iadd E (jd dk_L_law_1 45 rfl) ?_
  obtain ⟨x5, e6, hf⟩ := jbind hf
  refine J_sld E hS9 (jd dk_L_law_1 46 rfl) e6 ?_
  obtain ⟨u9, e10, hf⟩ := jbind hf
  obtain ⟨r7, e8, hf⟩ := jbind hf
  refine J_callV (st := []) E (jd dk_L_law_1 47 rfl) ml_RL_123 cal_X7_gorge e10 rfl (lk_X7_gorge (jE_g E) (jE_tr E) N e8) rfl (Nat.le_of_ble_eq_true rfl) (jRL hX (by decide) (by decide)) (jFM hX hc9 (by decide) (by decide)) rfl ?_
  rintro _ _ ⟨rfl, rfl⟩
  refine J_stk (st' := [.int r7.1]) rfl ?_
  refine J_istore (lv' := [(6, .int r7.1), (5, .int r3.1), (0, .ref 4000000), (1, .ref a1), (2, .ref a2), (3, .ref a3), (4, .int i)]) E (jd dk_L_law_1 48 rfl) (by decide) rfl ?_
  refine J_aload_n E (jd dk_L_law_1 49 rfl) rfl 4 rfl ?_
  obtain ⟨u13, e14, hf⟩ := jbind hf
  obtain ⟨r11, e12, hf⟩ := jbind hf
  refine J_callV (st := []) E (jd dk_L_law_2 0 rfl) ml_RL_124 cal_X7_thrown e14 rfl (lk_X7_thrown (jE_g E) (jE_tr E) N e12) rfl (Nat.le_of_ble_eq_true rfl) (jRL hX (by decide) (by decide)) (jFM hX hc9 (by decide) (by decide)) rfl ?_
  rintro _ _ ⟨rfl, rfl⟩
  refine J_stk (st' := [.int r11.1]) rfl ?_
  refine J_iload E (jd dk_L_law_2 1 rfl) 1 rfl ?_
  obtain ⟨c15, hf⟩ := jnz hf
  refine J_icmp_eq (tgt := 321) E (jd dk_L_law_2 2 rfl) (by decide) (fun _ => ?_) (fun z => absurd z c15)
  refine J_iload E (jd dk_L_law_2 5 rfl) 1 rfl ?_
  by_cases c16 : r3.1 = 0
  · rw [if_neg (not_not_intro c16)] at hf
    refine J_if_ne (tgt := 338) E (jd dk_L_law_2 6 rfl) (by decide) (fun z => absurd c16 z) (fun _ => ?_)
    refine J_aload_n E (jd dk_L_law_2 7 rfl) rfl 5 rfl ?_
    refine J_iconst (v := 0) E (jd dk_L_law_2 8 rfl) rfl ?_
    obtain ⟨x17, e18, hf⟩ := jbind hf
    refine J_lald E (jd dk_L_law_2 9 rfl) e18 ?_
    refine J_iload E (jd dk_L_law_2 10 rfl) 0 rfl ?_
    refine J_i2l E (jd dk_L_law_2 11 rfl) ?_
    refine J_lcmp E (jd dk_L_law_2 12 rfl) ?_
    obtain ⟨c19, hf⟩ := jnz hf
    refine J_if_eq (tgt := 338) E (jd dk_L_law_2 13 rfl) (by decide) (fun _ => ?_) (fun z => absurd z c19)
    refine J_goto (tgt := 2480) E (jd dk_L_law_2 16 rfl) (by decide) ?_
    refine J_sub [2, 3, 4, 5, 6] rfl ?_
    refine J_widen (cells' := cc9 + 4) (slots' := ss9 + 24) (by omega) (by omega) ?_
    cases hf
    exact kb
  · rw [if_pos c16] at hf
    refine J_if_ne (tgt := 338) E (jd dk_L_law_2 6 rfl) (by decide) (fun _ => ?_) (fun z => absurd z c16)
    refine J_goto (tgt := 2480) E (jd dk_L_law_2 16 rfl) (by decide) ?_
    refine J_sub [2, 3, 4, 5, 6] rfl ?_
    refine J_widen (cells' := cc9 + 4) (slots' := ss9 + 24) (by omega) (by omega) ?_
    cases hf
    exact kb
def f_L_c2 (N L : Nat) (xs : Nat → Int32) (a1 a2 a3 : Nat) (i : Int32) (h : AH) : Option AH :=
  (jck 6 h a1).bind fun _ =>
  (f_X6_fault N h a1).bind fun r1 =>
  (jck 7 r1.2 a2).bind fun _ =>
  (f_X7_fault N r1.2 a2).bind fun r5 =>
  if ¬ r1.1 = r5.1 then none else
  some r5.2
set_option maxRecDepth 100000 in
set_option maxHeartbeats 4000000 in
theorem lk_L_c2 {G : JG} {X : JX} (E : jE G X (RL, cL_law, 7)) (hX : X.2.2.2.1 = room_1) {L : Nat} {xs : Nat → Int32} (hS9 : jScr G X L xs) (N : Nat) {a1 a2 a3 : Nat} {i : Int32} {h h1 : AH} {cc9 ss9 : Nat} (hc9 : cc9 + 4 ≤ 601024 ∧ ss9 + 24 ≤ 7293033) {Q : State → Prop} (hf : f_L_c2 N L xs a1 a2 a3 i h = some h1) (kb : JW G X (RL, cL_law, 7) h1 [(0, .ref 4000000), (1, .ref a1), (2, .ref a2), (3, .ref a3), (4, .int i)] [] 2480 (cc9 + 4) (ss9 + 24) Q) : JW G X (RL, cL_law, 7) h [(0, .ref 4000000), (1, .ref a1), (2, .ref a2), (3, .ref a3), (4, .int i)] [] 341 cc9 ss9 Q := by
  unfold f_L_c2 at hf
  refine J_aload_n E (jd dk_L_law_2 17 rfl) rfl 1 rfl ?_
  obtain ⟨u3, e4, hf⟩ := jbind hf
  obtain ⟨r1, e2, hf⟩ := jbind hf
  refine J_callV (st := []) E (jd dk_L_law_2 18 rfl) ml_RL_128 cal_X6_fault e4 rfl (lk_X6_fault (jE_g E) (jE_tr E) N e2) rfl (Nat.le_of_ble_eq_true rfl) (jRL hX (by decide) (by decide)) (jFL hX hc9 (by decide) (by decide)) rfl ?_
  rintro _ _ ⟨rfl, rfl⟩
  refine J_stk (st' := [.int r1.1]) rfl ?_
  refine J_aload_n E (jd dk_L_law_2 19 rfl) rfl 2 rfl ?_
  obtain ⟨u7, e8, hf⟩ := jbind hf
  obtain ⟨r5, e6, hf⟩ := jbind hf
  refine J_callV (st := [.int r1.1]) E (jd dk_L_law_2 20 rfl) ml_RL_131 cal_X7_fault e8 rfl (lk_X7_fault (jE_g E) (jE_tr E) N e6) rfl (Nat.le_of_ble_eq_true rfl) (jRL hX (by decide) (by decide)) (jFL hX hc9 (by decide) (by decide)) rfl ?_
  rintro _ _ ⟨rfl, rfl⟩
  refine J_stk (st' := [.int r5.1, .int r1.1]) rfl ?_
  obtain ⟨c9, hf⟩ := jnz hf
  refine J_icmp_eq (tgt := 2480) E (jd dk_L_law_2 21 rfl) (by decide) (fun _ => ?_) (fun z => absurd z c9)
  refine J_sub [0, 1, 2, 3, 4] rfl ?_
  refine J_widen (cells' := cc9 + 4) (slots' := ss9 + 24) (by omega) (by omega) ?_
  cases hf
  exact kb
def f_L_c3 (N L : Nat) (xs : Nat → Int32) (a1 a2 a3 : Nat) (i : Int32) (h : AH) : Option AH :=
  (jsx L xs (i + 1)).bind fun x1 =>
  (f_L_count N h a1 x1 a3).bind fun r3 =>
  (jsx L xs (i + 1)).bind fun x5 =>
  (jck 7 r3.2 a2).bind fun _ =>
  (f_X7_count N r3.2 a2 x5).bind fun r7 =>
  (jck 7 r7.2 a2).bind fun _ =>
  (f_X7_thrown N r7.2 a2).bind fun r11 =>
  if ¬ r11.1 = r3.1 then none else
  if ¬ r3.1 = 0 then some r11.2 else
  (jll 3 r11.2 a3 0).bind fun x17 =>
  if ¬ (lg_cmp x17 (Int32.toInt64 r7.1)) = 0 then none else
  some r11.2
set_option maxRecDepth 100000 in
set_option maxHeartbeats 4000000 in
theorem lk_L_c3 {G : JG} {X : JX} (E : jE G X (RL, cL_law, 7)) (hX : X.2.2.2.1 = room_1) {L : Nat} {xs : Nat → Int32} (hS9 : jScr G X L xs) (N : Nat) {a1 a2 a3 : Nat} {i : Int32} {h h1 : AH} {cc9 ss9 : Nat} (hc9 : cc9 + 4 ≤ 601024 ∧ ss9 + 24 ≤ 7293033) {Q : State → Prop} (hf : f_L_c3 N L xs a1 a2 a3 i h = some h1) (kb : JW G X (RL, cL_law, 7) h1 [(0, .ref 4000000), (1, .ref a1), (2, .ref a2), (3, .ref a3), (4, .int i)] [] 2480 (cc9 + 4) (ss9 + 24) Q) : JW G X (RL, cL_law, 7) h [(0, .ref 4000000), (1, .ref a1), (2, .ref a2), (3, .ref a3), (4, .int i)] [] 354 cc9 ss9 Q := by
  unfold f_L_c3 at hf
  refine J_aload_n E (jd dk_L_law_2 24 rfl) rfl 1 rfl ?_
  refine J_aload_n E (jd dk_L_law_2 25 rfl) rfl 0 rfl ?_
  refine J_iload E (jd dk_L_law_2 26 rfl) 4 rfl ?_
  refine J_iconst (v := 1) E (jd dk_L_law_2 27 rfl) rfl ?_
  refine J_iadd E (jd dk_L_law_2 28 rfl) ?_
  obtain ⟨x1, e2, hf⟩ := jbind hf
  refine J_sld E hS9 (jd dk_L_law_2 29 rfl) e2 ?_
  refine J_aload_n E (jd dk_L_law_2 30 rfl) rfl 3 rfl ?_
  obtain ⟨r3, e4, hf⟩ := jbind hf
  refine J_callSW (st := []) E (jd dk_L_law_2 31 rfl) ml_RL_132 cal_L_count.1 cal_L_count.2.1 cal_L_count.2.2.1 cal_L_count.2.2.2 (lk_L_count (jE_g E) (jE_tr E) N e4) rfl (Nat.le_of_ble_eq_true rfl) (jRL hX (by decide) (by decide)) (jFL hX hc9 (by decide) (by decide)) rfl ?_
  rintro _ _ ⟨rfl, rfl⟩
  refine J_stk (st' := [.int r3.1]) rfl ?_
  refine J_istore (lv' := [(5, .int r3.1), (0, .ref 4000000), (1, .ref a1), (2, .ref a2), (3, .ref a3), (4, .int i)]) E (jd dk_L_law_2 32 rfl) (by decide) rfl ?_
  refine J_aload_n E (jd dk_L_law_2 33 rfl) rfl 3 rfl ?_
  refine J_aload_n E (jd dk_L_law_2 34 rfl) rfl 1 rfl ?_
  refine J_iload E (jd dk_L_law_2 35 rfl) 5 rfl ?_
  refine J_iconst (v := 1) E (jd dk_L_law_2 36 rfl) rfl ?_
  refine J_iadd E (jd dk_L_law_2 37 rfl) ?_
  obtain ⟨x5, e6, hf⟩ := jbind hf
  refine J_sld E hS9 (jd dk_L_law_2 38 rfl) e6 ?_
  obtain ⟨u9, e10, hf⟩ := jbind hf
  obtain ⟨r7, e8, hf⟩ := jbind hf
  refine J_callV (st := []) E (jd dk_L_law_2 39 rfl) ml_RL_134 cal_X7_count e10 rfl (lk_X7_count (jE_g E) (jE_tr E) N e8) rfl (Nat.le_of_ble_eq_true rfl) (jRL hX (by decide) (by decide)) (jFM hX hc9 (by decide) (by decide)) rfl ?_
  rintro _ _ ⟨rfl, rfl⟩
  refine J_stk (st' := [.int r7.1]) rfl ?_
  refine J_istore (lv' := [(6, .int r7.1), (5, .int r3.1), (0, .ref 4000000), (1, .ref a1), (2, .ref a2), (3, .ref a3), (4, .int i)]) E (jd dk_L_law_2 40 rfl) (by decide) rfl ?_
  refine J_aload_n E (jd dk_L_law_2 41 rfl) rfl 4 rfl ?_
  obtain ⟨u13, e14, hf⟩ := jbind hf
  obtain ⟨r11, e12, hf⟩ := jbind hf
  refine J_callV (st := []) E (jd dk_L_law_2 42 rfl) ml_RL_124 cal_X7_thrown e14 rfl (lk_X7_thrown (jE_g E) (jE_tr E) N e12) rfl (Nat.le_of_ble_eq_true rfl) (jRL hX (by decide) (by decide)) (jFM hX hc9 (by decide) (by decide)) rfl ?_
  rintro _ _ ⟨rfl, rfl⟩
  refine J_stk (st' := [.int r11.1]) rfl ?_
  refine J_iload E (jd dk_L_law_2 43 rfl) 1 rfl ?_
  obtain ⟨c15, hf⟩ := jnz hf
  refine J_icmp_eq (tgt := 390) E (jd dk_L_law_2 44 rfl) (by decide) (fun _ => ?_) (fun z => absurd z c15)
  refine J_iload E (jd dk_L_law_2 47 rfl) 1 rfl ?_
  by_cases c16 : r3.1 = 0
  · rw [if_neg (not_not_intro c16)] at hf
    refine J_if_ne (tgt := 407) E (jd dk_L_law_2 48 rfl) (by decide) (fun z => absurd c16 z) (fun _ => ?_)
    refine J_aload_n E (jd dk_L_law_2 49 rfl) rfl 5 rfl ?_
    refine J_iconst (v := 0) E (jd dk_L_law_3 0 rfl) rfl ?_
    obtain ⟨x17, e18, hf⟩ := jbind hf
    refine J_lald E (jd dk_L_law_3 1 rfl) e18 ?_
    refine J_iload E (jd dk_L_law_3 2 rfl) 0 rfl ?_
    refine J_i2l E (jd dk_L_law_3 3 rfl) ?_
    refine J_lcmp E (jd dk_L_law_3 4 rfl) ?_
    obtain ⟨c19, hf⟩ := jnz hf
    refine J_if_eq (tgt := 407) E (jd dk_L_law_3 5 rfl) (by decide) (fun _ => ?_) (fun z => absurd z c19)
    refine J_goto (tgt := 2480) E (jd dk_L_law_3 8 rfl) (by decide) ?_
    refine J_sub [2, 3, 4, 5, 6] rfl ?_
    refine J_widen (cells' := cc9 + 4) (slots' := ss9 + 24) (by omega) (by omega) ?_
    cases hf
    exact kb
  · rw [if_pos c16] at hf
    refine J_if_ne (tgt := 407) E (jd dk_L_law_2 48 rfl) (by decide) (fun _ => ?_) (fun z => absurd z c16)
    refine J_goto (tgt := 2480) E (jd dk_L_law_3 8 rfl) (by decide) ?_
    refine J_sub [2, 3, 4, 5, 6] rfl ?_
    refine J_widen (cells' := cc9 + 4) (slots' := ss9 + 24) (by omega) (by omega) ?_
    cases hf
    exact kb
def f_L_c4 (N L : Nat) (xs : Nat → Int32) (a1 a2 a3 : Nat) (i : Int32) (h : AH) : Option AH :=
  (jsx L xs (i + 1)).bind fun x1 =>
  (jsx L xs (i + 2)).bind fun x3 =>
  (f_L_reach N h a1 x1 x3 a3).bind fun r5 =>
  (jsx L xs (i + 1)).bind fun x7 =>
  (jsx L xs (i + 2)).bind fun x9 =>
  (jck 7 r5.2 a2).bind fun _ =>
  (f_X7_reach N r5.2 a2 x7 x9).bind fun r11 =>
  (jck 7 r11.2 a2).bind fun _ =>
  (f_X7_thrown N r11.2 a2).bind fun r15 =>
  if ¬ r15.1 = r5.1 then none else
  if ¬ r5.1 = 0 then some r15.2 else
  (jll 3 r15.2 a3 0).bind fun x21 =>
  if ¬ (lg_cmp x21 (Int32.toInt64 r11.1)) = 0 then none else
  some r15.2
set_option maxRecDepth 100000 in
set_option maxHeartbeats 4000000 in
theorem lk_L_c4 {G : JG} {X : JX} (E : jE G X (RL, cL_law, 7)) (hX : X.2.2.2.1 = room_1) {L : Nat} {xs : Nat → Int32} (hS9 : jScr G X L xs) (N : Nat) {a1 a2 a3 : Nat} {i : Int32} {h h1 : AH} {cc9 ss9 : Nat} (hc9 : cc9 + 4 ≤ 601024 ∧ ss9 + 24 ≤ 7293033) {Q : State → Prop} (hf : f_L_c4 N L xs a1 a2 a3 i h = some h1) (kb : JW G X (RL, cL_law, 7) h1 [(0, .ref 4000000), (1, .ref a1), (2, .ref a2), (3, .ref a3), (4, .int i)] [] 2480 (cc9 + 4) (ss9 + 24) Q) : JW G X (RL, cL_law, 7) h [(0, .ref 4000000), (1, .ref a1), (2, .ref a2), (3, .ref a3), (4, .int i)] [] 410 cc9 ss9 Q := by
  unfold f_L_c4 at hf
  refine J_aload_n E (jd dk_L_law_3 9 rfl) rfl 1 rfl ?_
  refine J_aload_n E (jd dk_L_law_3 10 rfl) rfl 0 rfl ?_
  refine J_iload E (jd dk_L_law_3 11 rfl) 4 rfl ?_
  refine J_iconst (v := 1) E (jd dk_L_law_3 12 rfl) rfl ?_
  refine J_iadd E (jd dk_L_law_3 13 rfl) ?_
  obtain ⟨x1, e2, hf⟩ := jbind hf
  refine J_sld E hS9 (jd dk_L_law_3 14 rfl) e2 ?_
  refine J_aload_n E (jd dk_L_law_3 15 rfl) rfl 0 rfl ?_
  refine J_iload E (jd dk_L_law_3 16 rfl) 4 rfl ?_
  refine J_iconst (v := 2) E (jd dk_L_law_3 17 rfl) rfl ?_
  refine J_iadd E (jd dk_L_law_3 18 rfl) ?_
  obtain ⟨x3, e4, hf⟩ := jbind hf
  refine J_sld E hS9 (jd dk_L_law_3 19 rfl) e4 ?_
  refine J_aload_n E (jd dk_L_law_3 20 rfl) rfl 3 rfl ?_
  obtain ⟨r5, e6, hf⟩ := jbind hf
  refine J_callSW (st := []) E (jd dk_L_law_3 21 rfl) ml_RL_135 cal_L_reach.1 cal_L_reach.2.1 cal_L_reach.2.2.1 cal_L_reach.2.2.2 (lk_L_reach (jE_g E) (jE_tr E) N e6) rfl (Nat.le_of_ble_eq_true rfl) (jRL hX (by decide) (by decide)) (jFL hX hc9 (by decide) (by decide)) rfl ?_
  rintro _ _ ⟨rfl, rfl⟩
  refine J_stk (st' := [.int r5.1]) rfl ?_
  refine J_istore (lv' := [(5, .int r5.1), (0, .ref 4000000), (1, .ref a1), (2, .ref a2), (3, .ref a3), (4, .int i)]) E (jd dk_L_law_3 22 rfl) (by decide) rfl ?_
  refine J_aload_n E (jd dk_L_law_3 23 rfl) rfl 3 rfl ?_
  refine J_aload_n E (jd dk_L_law_3 24 rfl) rfl 1 rfl ?_
  refine J_iload E (jd dk_L_law_3 25 rfl) 5 rfl ?_
  refine J_iconst (v := 1) E (jd dk_L_law_3 26 rfl) rfl ?_
  refine J_iadd E (jd dk_L_law_3 27 rfl) ?_
  obtain ⟨x7, e8, hf⟩ := jbind hf
  refine J_sld E hS9 (jd dk_L_law_3 28 rfl) e8 ?_
  refine J_aload_n E (jd dk_L_law_3 29 rfl) rfl 1 rfl ?_
  refine J_iload E (jd dk_L_law_3 30 rfl) 5 rfl ?_
  refine J_iconst (v := 2) E (jd dk_L_law_3 31 rfl) rfl ?_
  refine J_iadd E (jd dk_L_law_3 32 rfl) ?_
  obtain ⟨x9, e10, hf⟩ := jbind hf
  refine J_sld E hS9 (jd dk_L_law_3 33 rfl) e10 ?_
  obtain ⟨u13, e14, hf⟩ := jbind hf
  obtain ⟨r11, e12, hf⟩ := jbind hf
  refine J_callV (st := []) E (jd dk_L_law_3 34 rfl) ml_RL_138 cal_X7_reach e14 rfl (lk_X7_reach (jE_g E) (jE_tr E) N e12) rfl (Nat.le_of_ble_eq_true rfl) (jRL hX (by decide) (by decide)) (jFM hX hc9 (by decide) (by decide)) rfl ?_
  rintro _ _ ⟨rfl, rfl⟩
  refine J_stk (st' := [.int r11.1]) rfl ?_
  refine J_istore (lv' := [(6, .int r11.1), (5, .int r5.1), (0, .ref 4000000), (1, .ref a1), (2, .ref a2), (3, .ref a3), (4, .int i)]) E (jd dk_L_law_3 35 rfl) (by decide) rfl ?_
  refine J_aload_n E (jd dk_L_law_3 36 rfl) rfl 4 rfl ?_
  obtain ⟨u17, e18, hf⟩ := jbind hf
  obtain ⟨r15, e16, hf⟩ := jbind hf
  refine J_callV (st := []) E (jd dk_L_law_3 37 rfl) ml_RL_124 cal_X7_thrown e18 rfl (lk_X7_thrown (jE_g E) (jE_tr E) N e16) rfl (Nat.le_of_ble_eq_true rfl) (jRL hX (by decide) (by decide)) (jFM hX hc9 (by decide) (by decide)) rfl ?_
  rintro _ _ ⟨rfl, rfl⟩
  refine J_stk (st' := [.int r15.1]) rfl ?_
  refine J_iload E (jd dk_L_law_3 38 rfl) 1 rfl ?_
  obtain ⟨c19, hf⟩ := jnz hf
  refine J_icmp_eq (tgt := 458) E (jd dk_L_law_3 39 rfl) (by decide) (fun _ => ?_) (fun z => absurd z c19)
  refine J_iload E (jd dk_L_law_3 42 rfl) 1 rfl ?_
  by_cases c20 : r5.1 = 0
  · rw [if_neg (not_not_intro c20)] at hf
    refine J_if_ne (tgt := 475) E (jd dk_L_law_3 43 rfl) (by decide) (fun z => absurd c20 z) (fun _ => ?_)
    refine J_aload_n E (jd dk_L_law_3 44 rfl) rfl 5 rfl ?_
    refine J_iconst (v := 0) E (jd dk_L_law_3 45 rfl) rfl ?_
    obtain ⟨x21, e22, hf⟩ := jbind hf
    refine J_lald E (jd dk_L_law_3 46 rfl) e22 ?_
    refine J_iload E (jd dk_L_law_3 47 rfl) 0 rfl ?_
    refine J_i2l E (jd dk_L_law_3 48 rfl) ?_
    refine J_lcmp E (jd dk_L_law_3 49 rfl) ?_
    obtain ⟨c23, hf⟩ := jnz hf
    refine J_if_eq (tgt := 475) E (jd dk_L_law_4 0 rfl) (by decide) (fun _ => ?_) (fun z => absurd z c23)
    refine J_goto (tgt := 2480) E (jd dk_L_law_4 3 rfl) (by decide) ?_
    refine J_sub [2, 3, 4, 5, 6] rfl ?_
    refine J_widen (cells' := cc9 + 4) (slots' := ss9 + 24) (by omega) (by omega) ?_
    cases hf
    exact kb
  · rw [if_pos c20] at hf
    refine J_if_ne (tgt := 475) E (jd dk_L_law_3 43 rfl) (by decide) (fun _ => ?_) (fun z => absurd z c20)
    refine J_goto (tgt := 2480) E (jd dk_L_law_4 3 rfl) (by decide) ?_
    refine J_sub [2, 3, 4, 5, 6] rfl ?_
    refine J_widen (cells' := cc9 + 4) (slots' := ss9 + 24) (by omega) (by omega) ?_
    cases hf
    exact kb
def f_L_c5 (N L : Nat) (xs : Nat → Int32) (a1 a2 a3 : Nat) (i : Int32) (h : AH) : Option AH :=
  (jsx L xs (i + 1)).bind fun x1 =>
  (jsx L xs (i + 2)).bind fun x3 =>
  (f_L_judge N h a1 x1 x3 a3).bind fun r5 =>
  (jsx L xs (i + 1)).bind fun x7 =>
  (jsx L xs (i + 2)).bind fun x9 =>
  (jck 7 r5.2 a2).bind fun _ =>
  (f_X7_judge N r5.2 a2 x7 x9).bind fun r11 =>
  (jck 7 r11.2 a2).bind fun _ =>
  (f_X7_thrown N r11.2 a2).bind fun r15 =>
  if ¬ r15.1 = r5.1 then none else
  if ¬ r5.1 = 0 then some r15.2 else
  (jll 3 r15.2 a3 0).bind fun x21 =>
  if ¬ (lg_cmp x21 (Int32.toInt64 r11.1)) = 0 then none else
  some r15.2
set_option maxRecDepth 100000 in
set_option maxHeartbeats 4000000 in
theorem lk_L_c5 {G : JG} {X : JX} (E : jE G X (RL, cL_law, 7)) (hX : X.2.2.2.1 = room_1) {L : Nat} {xs : Nat → Int32} (hS9 : jScr G X L xs) (N : Nat) {a1 a2 a3 : Nat} {i : Int32} {h h1 : AH} {cc9 ss9 : Nat} (hc9 : cc9 + 4 ≤ 601024 ∧ ss9 + 24 ≤ 7293033) {Q : State → Prop} (hf : f_L_c5 N L xs a1 a2 a3 i h = some h1) (kb : JW G X (RL, cL_law, 7) h1 [(0, .ref 4000000), (1, .ref a1), (2, .ref a2), (3, .ref a3), (4, .int i)] [] 2480 (cc9 + 4) (ss9 + 24) Q) : JW G X (RL, cL_law, 7) h [(0, .ref 4000000), (1, .ref a1), (2, .ref a2), (3, .ref a3), (4, .int i)] [] 478 cc9 ss9 Q := by
  unfold f_L_c5 at hf
  refine J_aload_n E (jd dk_L_law_4 4 rfl) rfl 1 rfl ?_
  refine J_aload_n E (jd dk_L_law_4 5 rfl) rfl 0 rfl ?_
  refine J_iload E (jd dk_L_law_4 6 rfl) 4 rfl ?_
  refine J_iconst (v := 1) E (jd dk_L_law_4 7 rfl) rfl ?_
  refine J_iadd E (jd dk_L_law_4 8 rfl) ?_
  obtain ⟨x1, e2, hf⟩ := jbind hf
  refine J_sld E hS9 (jd dk_L_law_4 9 rfl) e2 ?_
  refine J_aload_n E (jd dk_L_law_4 10 rfl) rfl 0 rfl ?_
  refine J_iload E (jd dk_L_law_4 11 rfl) 4 rfl ?_
  refine J_iconst (v := 2) E (jd dk_L_law_4 12 rfl) rfl ?_
  refine J_iadd E (jd dk_L_law_4 13 rfl) ?_
  obtain ⟨x3, e4, hf⟩ := jbind hf
  refine J_sld E hS9 (jd dk_L_law_4 14 rfl) e4 ?_
  refine J_aload_n E (jd dk_L_law_4 15 rfl) rfl 3 rfl ?_
  obtain ⟨r5, e6, hf⟩ := jbind hf
  refine J_callSW (st := []) E (jd dk_L_law_4 16 rfl) ml_RL_139 cal_L_judge.1 cal_L_judge.2.1 cal_L_judge.2.2.1 cal_L_judge.2.2.2 (lk_L_judge (jE_g E) (jE_tr E) N e6) rfl (Nat.le_of_ble_eq_true rfl) (jRL hX (by decide) (by decide)) (jFL hX hc9 (by decide) (by decide)) rfl ?_
  rintro _ _ ⟨rfl, rfl⟩
  refine J_stk (st' := [.int r5.1]) rfl ?_
  refine J_istore (lv' := [(5, .int r5.1), (0, .ref 4000000), (1, .ref a1), (2, .ref a2), (3, .ref a3), (4, .int i)]) E (jd dk_L_law_4 17 rfl) (by decide) rfl ?_
  refine J_aload_n E (jd dk_L_law_4 18 rfl) rfl 3 rfl ?_
  refine J_aload_n E (jd dk_L_law_4 19 rfl) rfl 1 rfl ?_
  refine J_iload E (jd dk_L_law_4 20 rfl) 5 rfl ?_
  refine J_iconst (v := 1) E (jd dk_L_law_4 21 rfl) rfl ?_
  refine J_iadd E (jd dk_L_law_4 22 rfl) ?_
  obtain ⟨x7, e8, hf⟩ := jbind hf
  refine J_sld E hS9 (jd dk_L_law_4 23 rfl) e8 ?_
  refine J_aload_n E (jd dk_L_law_4 24 rfl) rfl 1 rfl ?_
  refine J_iload E (jd dk_L_law_4 25 rfl) 5 rfl ?_
  refine J_iconst (v := 2) E (jd dk_L_law_4 26 rfl) rfl ?_
  refine J_iadd E (jd dk_L_law_4 27 rfl) ?_
  obtain ⟨x9, e10, hf⟩ := jbind hf
  refine J_sld E hS9 (jd dk_L_law_4 28 rfl) e10 ?_
  obtain ⟨u13, e14, hf⟩ := jbind hf
  obtain ⟨r11, e12, hf⟩ := jbind hf
  refine J_callV (st := []) E (jd dk_L_law_4 29 rfl) ml_RL_141 cal_X7_judge e14 rfl (lk_X7_judge (jE_g E) (jE_tr E) N e12) rfl (Nat.le_of_ble_eq_true rfl) (jRL hX (by decide) (by decide)) (jFM hX hc9 (by decide) (by decide)) rfl ?_
  rintro _ _ ⟨rfl, rfl⟩
  refine J_stk (st' := [.int r11.1]) rfl ?_
  refine J_istore (lv' := [(6, .int r11.1), (5, .int r5.1), (0, .ref 4000000), (1, .ref a1), (2, .ref a2), (3, .ref a3), (4, .int i)]) E (jd dk_L_law_4 30 rfl) (by decide) rfl ?_
  refine J_aload_n E (jd dk_L_law_4 31 rfl) rfl 4 rfl ?_
  obtain ⟨u17, e18, hf⟩ := jbind hf
  obtain ⟨r15, e16, hf⟩ := jbind hf
  refine J_callV (st := []) E (jd dk_L_law_4 32 rfl) ml_RL_124 cal_X7_thrown e18 rfl (lk_X7_thrown (jE_g E) (jE_tr E) N e16) rfl (Nat.le_of_ble_eq_true rfl) (jRL hX (by decide) (by decide)) (jFM hX hc9 (by decide) (by decide)) rfl ?_
  rintro _ _ ⟨rfl, rfl⟩
  refine J_stk (st' := [.int r15.1]) rfl ?_
  refine J_iload E (jd dk_L_law_4 33 rfl) 1 rfl ?_
  obtain ⟨c19, hf⟩ := jnz hf
  refine J_icmp_eq (tgt := 526) E (jd dk_L_law_4 34 rfl) (by decide) (fun _ => ?_) (fun z => absurd z c19)
  refine J_iload E (jd dk_L_law_4 37 rfl) 1 rfl ?_
  by_cases c20 : r5.1 = 0
  · rw [if_neg (not_not_intro c20)] at hf
    refine J_if_ne (tgt := 543) E (jd dk_L_law_4 38 rfl) (by decide) (fun z => absurd c20 z) (fun _ => ?_)
    refine J_aload_n E (jd dk_L_law_4 39 rfl) rfl 5 rfl ?_
    refine J_iconst (v := 0) E (jd dk_L_law_4 40 rfl) rfl ?_
    obtain ⟨x21, e22, hf⟩ := jbind hf
    refine J_lald E (jd dk_L_law_4 41 rfl) e22 ?_
    refine J_iload E (jd dk_L_law_4 42 rfl) 0 rfl ?_
    refine J_i2l E (jd dk_L_law_4 43 rfl) ?_
    refine J_lcmp E (jd dk_L_law_4 44 rfl) ?_
    obtain ⟨c23, hf⟩ := jnz hf
    refine J_if_eq (tgt := 543) E (jd dk_L_law_4 45 rfl) (by decide) (fun _ => ?_) (fun z => absurd z c23)
    refine J_goto (tgt := 2480) E (jd dk_L_law_4 48 rfl) (by decide) ?_
    refine J_sub [2, 3, 4, 5, 6] rfl ?_
    refine J_widen (cells' := cc9 + 4) (slots' := ss9 + 24) (by omega) (by omega) ?_
    cases hf
    exact kb
  · rw [if_pos c20] at hf
    refine J_if_ne (tgt := 543) E (jd dk_L_law_4 38 rfl) (by decide) (fun _ => ?_) (fun z => absurd z c20)
    refine J_goto (tgt := 2480) E (jd dk_L_law_4 48 rfl) (by decide) ?_
    refine J_sub [2, 3, 4, 5, 6] rfl ?_
    refine J_widen (cells' := cc9 + 4) (slots' := ss9 + 24) (by omega) (by omega) ?_
    cases hf
    exact kb
def f_L_c6 (N L : Nat) (xs : Nat → Int32) (a1 a2 a3 : Nat) (i : Int32) (h : AH) : Option AH :=
  (jsx L xs (i + 1)).bind fun x1 =>
  (jck 6 h a1).bind fun _ =>
  (f_X6_steps N h a1 x1).bind fun r3 =>
  (jsx L xs (i + 1)).bind fun x7 =>
  (jck 7 r3.2 a2).bind fun _ =>
  (f_X7_steps N r3.2 a2 x7).bind fun r9 =>
  if ¬ r3.1 = r9.1 then none else
  some r9.2
set_option maxRecDepth 100000 in
set_option maxHeartbeats 4000000 in
theorem lk_L_c6 {G : JG} {X : JX} (E : jE G X (RL, cL_law, 7)) (hX : X.2.2.2.1 = room_1) {L : Nat} {xs : Nat → Int32} (hS9 : jScr G X L xs) (N : Nat) {a1 a2 a3 : Nat} {i : Int32} {h h1 : AH} {cc9 ss9 : Nat} (hc9 : cc9 + 4 ≤ 601024 ∧ ss9 + 24 ≤ 7293033) {Q : State → Prop} (hf : f_L_c6 N L xs a1 a2 a3 i h = some h1) (kb : JW G X (RL, cL_law, 7) h1 [(0, .ref 4000000), (1, .ref a1), (2, .ref a2), (3, .ref a3), (4, .int i)] [] 2480 (cc9 + 4) (ss9 + 24) Q) : JW G X (RL, cL_law, 7) h [(0, .ref 4000000), (1, .ref a1), (2, .ref a2), (3, .ref a3), (4, .int i)] [] 546 cc9 ss9 Q := by
  unfold f_L_c6 at hf
  refine J_aload_n E (jd dk_L_law_4 49 rfl) rfl 1 rfl ?_
  refine J_aload_n E (jd dk_L_law_5 0 rfl) rfl 0 rfl ?_
  refine J_iload E (jd dk_L_law_5 1 rfl) 4 rfl ?_
  refine J_iconst (v := 1) E (jd dk_L_law_5 2 rfl) rfl ?_
  refine J_iadd E (jd dk_L_law_5 3 rfl) ?_
  obtain ⟨x1, e2, hf⟩ := jbind hf
  refine J_sld E hS9 (jd dk_L_law_5 4 rfl) e2 ?_
  obtain ⟨u5, e6, hf⟩ := jbind hf
  obtain ⟨r3, e4, hf⟩ := jbind hf
  refine J_callV (st := []) E (jd dk_L_law_5 5 rfl) ml_RL_142 cal_X6_steps e6 rfl (lk_X6_steps (jE_g E) (jE_tr E) N e4) rfl (Nat.le_of_ble_eq_true rfl) (jRL hX (by decide) (by decide)) (jFL hX hc9 (by decide) (by decide)) rfl ?_
  rintro _ _ ⟨rfl, rfl⟩
  refine J_stk (st' := [.int r3.1]) rfl ?_
  refine J_aload_n E (jd dk_L_law_5 6 rfl) rfl 2 rfl ?_
  refine J_aload_n E (jd dk_L_law_5 7 rfl) rfl 0 rfl ?_
  refine J_iload E (jd dk_L_law_5 8 rfl) 4 rfl ?_
  refine J_iconst (v := 1) E (jd dk_L_law_5 9 rfl) rfl ?_
  refine J_iadd E (jd dk_L_law_5 10 rfl) ?_
  obtain ⟨x7, e8, hf⟩ := jbind hf
  refine J_sld E hS9 (jd dk_L_law_5 11 rfl) e8 ?_
  obtain ⟨u11, e12, hf⟩ := jbind hf
  obtain ⟨r9, e10, hf⟩ := jbind hf
  refine J_callV (st := [.int r3.1]) E (jd dk_L_law_5 12 rfl) ml_RL_145 cal_X7_steps e12 rfl (lk_X7_steps (jE_g E) (jE_tr E) N e10) rfl (Nat.le_of_ble_eq_true rfl) (jRL hX (by decide) (by decide)) (jFL hX hc9 (by decide) (by decide)) rfl ?_
  rintro _ _ ⟨rfl, rfl⟩
  refine J_stk (st' := [.int r9.1, .int r3.1]) rfl ?_
  obtain ⟨c13, hf⟩ := jnz hf
  refine J_icmp_eq (tgt := 2480) E (jd dk_L_law_5 13 rfl) (by decide) (fun _ => ?_) (fun z => absurd z c13)
  refine J_sub [0, 1, 2, 3, 4] rfl ?_
  refine J_widen (cells' := cc9 + 4) (slots' := ss9 + 24) (by omega) (by omega) ?_
  cases hf
  exact kb
def f_L_c7 (N L : Nat) (xs : Nat → Int32) (a1 a2 a3 : Nat) (i : Int32) (h : AH) : Option AH :=
  (jsx L xs (i + 1)).bind fun x1 =>
  (f_L_call N h a1 x1 a3).bind fun r3 =>
  (jsx L xs (i + 1)).bind fun x5 =>
  (jck 7 r3.2 a2).bind fun _ =>
  (f_X7_call N r3.2 a2 x5).bind fun r7 =>
  (jck 7 r7.2 a2).bind fun _ =>
  (f_X7_thrown N r7.2 a2).bind fun r11 =>
  if ¬ r11.1 = r3.1 then none else
  if ¬ r3.1 = 0 then some r11.2 else
  (jll 3 r11.2 a3 0).bind fun x17 =>
  if ¬ (lg_cmp x17 (Int32.toInt64 r7.1)) = 0 then none else
  some r11.2
set_option maxRecDepth 100000 in
set_option maxHeartbeats 4000000 in
theorem lk_L_c7 {G : JG} {X : JX} (E : jE G X (RL, cL_law, 7)) (hX : X.2.2.2.1 = room_1) {L : Nat} {xs : Nat → Int32} (hS9 : jScr G X L xs) (N : Nat) {a1 a2 a3 : Nat} {i : Int32} {h h1 : AH} {cc9 ss9 : Nat} (hc9 : cc9 + 4 ≤ 601024 ∧ ss9 + 24 ≤ 7293033) {Q : State → Prop} (hf : f_L_c7 N L xs a1 a2 a3 i h = some h1) (kb : JW G X (RL, cL_law, 7) h1 [(0, .ref 4000000), (1, .ref a1), (2, .ref a2), (3, .ref a3), (4, .int i)] [] 2480 (cc9 + 4) (ss9 + 24) Q) : JW G X (RL, cL_law, 7) h [(0, .ref 4000000), (1, .ref a1), (2, .ref a2), (3, .ref a3), (4, .int i)] [] 571 cc9 ss9 Q := by
  unfold f_L_c7 at hf
  refine J_aload_n E (jd dk_L_law_5 16 rfl) rfl 1 rfl ?_
  refine J_aload_n E (jd dk_L_law_5 17 rfl) rfl 0 rfl ?_
  refine J_iload E (jd dk_L_law_5 18 rfl) 4 rfl ?_
  refine J_iconst (v := 1) E (jd dk_L_law_5 19 rfl) rfl ?_
  refine J_iadd E (jd dk_L_law_5 20 rfl) ?_
  obtain ⟨x1, e2, hf⟩ := jbind hf
  refine J_sld E hS9 (jd dk_L_law_5 21 rfl) e2 ?_
  refine J_aload_n E (jd dk_L_law_5 22 rfl) rfl 3 rfl ?_
  obtain ⟨r3, e4, hf⟩ := jbind hf
  refine J_callSW (st := []) E (jd dk_L_law_5 23 rfl) ml_RL_146 cal_L_call.1 cal_L_call.2.1 cal_L_call.2.2.1 cal_L_call.2.2.2 (lk_L_call (jE_g E) (jE_tr E) N e4) rfl (Nat.le_of_ble_eq_true rfl) (jRL hX (by decide) (by decide)) (jFL hX hc9 (by decide) (by decide)) rfl ?_
  rintro _ _ ⟨rfl, rfl⟩
  refine J_stk (st' := [.int r3.1]) rfl ?_
  refine J_istore (lv' := [(5, .int r3.1), (0, .ref 4000000), (1, .ref a1), (2, .ref a2), (3, .ref a3), (4, .int i)]) E (jd dk_L_law_5 24 rfl) (by decide) rfl ?_
  refine J_aload_n E (jd dk_L_law_5 25 rfl) rfl 3 rfl ?_
  refine J_aload_n E (jd dk_L_law_5 26 rfl) rfl 1 rfl ?_
  refine J_iload E (jd dk_L_law_5 27 rfl) 5 rfl ?_
  refine J_iconst (v := 1) E (jd dk_L_law_5 28 rfl) rfl ?_
  refine J_iadd E (jd dk_L_law_5 29 rfl) ?_
  obtain ⟨x5, e6, hf⟩ := jbind hf
  refine J_sld E hS9 (jd dk_L_law_5 30 rfl) e6 ?_
  obtain ⟨u9, e10, hf⟩ := jbind hf
  obtain ⟨r7, e8, hf⟩ := jbind hf
  refine J_callV (st := []) E (jd dk_L_law_5 31 rfl) ml_RL_148 cal_X7_call e10 rfl (lk_X7_call (jE_g E) (jE_tr E) N e8) rfl (Nat.le_of_ble_eq_true rfl) (jRL hX (by decide) (by decide)) (jFM hX hc9 (by decide) (by decide)) rfl ?_
  rintro _ _ ⟨rfl, rfl⟩
  refine J_stk (st' := [.int r7.1]) rfl ?_
  refine J_istore (lv' := [(6, .int r7.1), (5, .int r3.1), (0, .ref 4000000), (1, .ref a1), (2, .ref a2), (3, .ref a3), (4, .int i)]) E (jd dk_L_law_5 32 rfl) (by decide) rfl ?_
  refine J_aload_n E (jd dk_L_law_5 33 rfl) rfl 4 rfl ?_
  obtain ⟨u13, e14, hf⟩ := jbind hf
  obtain ⟨r11, e12, hf⟩ := jbind hf
  refine J_callV (st := []) E (jd dk_L_law_5 34 rfl) ml_RL_124 cal_X7_thrown e14 rfl (lk_X7_thrown (jE_g E) (jE_tr E) N e12) rfl (Nat.le_of_ble_eq_true rfl) (jRL hX (by decide) (by decide)) (jFM hX hc9 (by decide) (by decide)) rfl ?_
  rintro _ _ ⟨rfl, rfl⟩
  refine J_stk (st' := [.int r11.1]) rfl ?_
  refine J_iload E (jd dk_L_law_5 35 rfl) 1 rfl ?_
  obtain ⟨c15, hf⟩ := jnz hf
  refine J_icmp_eq (tgt := 607) E (jd dk_L_law_5 36 rfl) (by decide) (fun _ => ?_) (fun z => absurd z c15)
  refine J_iload E (jd dk_L_law_5 39 rfl) 1 rfl ?_
  by_cases c16 : r3.1 = 0
  · rw [if_neg (not_not_intro c16)] at hf
    refine J_if_ne (tgt := 624) E (jd dk_L_law_5 40 rfl) (by decide) (fun z => absurd c16 z) (fun _ => ?_)
    refine J_aload_n E (jd dk_L_law_5 41 rfl) rfl 5 rfl ?_
    refine J_iconst (v := 0) E (jd dk_L_law_5 42 rfl) rfl ?_
    obtain ⟨x17, e18, hf⟩ := jbind hf
    refine J_lald E (jd dk_L_law_5 43 rfl) e18 ?_
    refine J_iload E (jd dk_L_law_5 44 rfl) 0 rfl ?_
    refine J_i2l E (jd dk_L_law_5 45 rfl) ?_
    refine J_lcmp E (jd dk_L_law_5 46 rfl) ?_
    obtain ⟨c19, hf⟩ := jnz hf
    refine J_if_eq (tgt := 624) E (jd dk_L_law_5 47 rfl) (by decide) (fun _ => ?_) (fun z => absurd z c19)
    refine J_goto (tgt := 2480) E (jd dk_L_law_6 0 rfl) (by decide) ?_
    refine J_sub [2, 3, 4, 5, 6] rfl ?_
    refine J_widen (cells' := cc9 + 4) (slots' := ss9 + 24) (by omega) (by omega) ?_
    cases hf
    exact kb
  · rw [if_pos c16] at hf
    refine J_if_ne (tgt := 624) E (jd dk_L_law_5 40 rfl) (by decide) (fun _ => ?_) (fun z => absurd z c16)
    refine J_goto (tgt := 2480) E (jd dk_L_law_6 0 rfl) (by decide) ?_
    refine J_sub [2, 3, 4, 5, 6] rfl ?_
    refine J_widen (cells' := cc9 + 4) (slots' := ss9 + 24) (by omega) (by omega) ?_
    cases hf
    exact kb
def f_L_c8 (N L : Nat) (xs : Nat → Int32) (a1 a2 a3 : Nat) (i : Int32) (h : AH) : Option AH :=
  (jsx L xs (i + 1)).bind fun x1 =>
  (jsx L xs (i + 2)).bind fun x3 =>
  (f_L_paddle N h a1 x1 x3 a3).bind fun r5 =>
  (jsx L xs (i + 1)).bind fun x7 =>
  (jsx L xs (i + 2)).bind fun x9 =>
  (jck 7 r5.2 a2).bind fun _ =>
  (f_X7_paddle N r5.2 a2 x7 x9).bind fun r11 =>
  (jck 7 r11.2 a2).bind fun _ =>
  (f_X7_thrown N r11.2 a2).bind fun r15 =>
  if ¬ r15.1 = r5.1 then none else
  if ¬ r5.1 = 0 then some r15.2 else
  (jll 3 r15.2 a3 0).bind fun x21 =>
  if ¬ (lg_cmp x21 (Int32.toInt64 r11.1)) = 0 then none else
  some r15.2
set_option maxRecDepth 100000 in
set_option maxHeartbeats 4000000 in
theorem lk_L_c8 {G : JG} {X : JX} (E : jE G X (RL, cL_law, 7)) (hX : X.2.2.2.1 = room_1) {L : Nat} {xs : Nat → Int32} (hS9 : jScr G X L xs) (N : Nat) {a1 a2 a3 : Nat} {i : Int32} {h h1 : AH} {cc9 ss9 : Nat} (hc9 : cc9 + 4 ≤ 601024 ∧ ss9 + 24 ≤ 7293033) {Q : State → Prop} (hf : f_L_c8 N L xs a1 a2 a3 i h = some h1) (kb : JW G X (RL, cL_law, 7) h1 [(0, .ref 4000000), (1, .ref a1), (2, .ref a2), (3, .ref a3), (4, .int i)] [] 2480 (cc9 + 4) (ss9 + 24) Q) : JW G X (RL, cL_law, 7) h [(0, .ref 4000000), (1, .ref a1), (2, .ref a2), (3, .ref a3), (4, .int i)] [] 627 cc9 ss9 Q := by
  unfold f_L_c8 at hf
  refine J_aload_n E (jd dk_L_law_6 1 rfl) rfl 1 rfl ?_
  refine J_aload_n E (jd dk_L_law_6 2 rfl) rfl 0 rfl ?_
  refine J_iload E (jd dk_L_law_6 3 rfl) 4 rfl ?_
  refine J_iconst (v := 1) E (jd dk_L_law_6 4 rfl) rfl ?_
  refine J_iadd E (jd dk_L_law_6 5 rfl) ?_
  obtain ⟨x1, e2, hf⟩ := jbind hf
  refine J_sld E hS9 (jd dk_L_law_6 6 rfl) e2 ?_
  refine J_aload_n E (jd dk_L_law_6 7 rfl) rfl 0 rfl ?_
  refine J_iload E (jd dk_L_law_6 8 rfl) 4 rfl ?_
  refine J_iconst (v := 2) E (jd dk_L_law_6 9 rfl) rfl ?_
  refine J_iadd E (jd dk_L_law_6 10 rfl) ?_
  obtain ⟨x3, e4, hf⟩ := jbind hf
  refine J_sld E hS9 (jd dk_L_law_6 11 rfl) e4 ?_
  refine J_aload_n E (jd dk_L_law_6 12 rfl) rfl 3 rfl ?_
  obtain ⟨r5, e6, hf⟩ := jbind hf
  refine J_callSW (st := []) E (jd dk_L_law_6 13 rfl) ml_RL_149 cal_L_paddle.1 cal_L_paddle.2.1 cal_L_paddle.2.2.1 cal_L_paddle.2.2.2 (lk_L_paddle (jE_g E) (jE_tr E) N e6) rfl (Nat.le_of_ble_eq_true rfl) (jRL hX (by decide) (by decide)) (jFL hX hc9 (by decide) (by decide)) rfl ?_
  rintro _ _ ⟨rfl, rfl⟩
  refine J_stk (st' := [.int r5.1]) rfl ?_
  refine J_istore (lv' := [(5, .int r5.1), (0, .ref 4000000), (1, .ref a1), (2, .ref a2), (3, .ref a3), (4, .int i)]) E (jd dk_L_law_6 14 rfl) (by decide) rfl ?_
  refine J_aload_n E (jd dk_L_law_6 15 rfl) rfl 3 rfl ?_
  refine J_aload_n E (jd dk_L_law_6 16 rfl) rfl 1 rfl ?_
  refine J_iload E (jd dk_L_law_6 17 rfl) 5 rfl ?_
  refine J_iconst (v := 1) E (jd dk_L_law_6 18 rfl) rfl ?_
  refine J_iadd E (jd dk_L_law_6 19 rfl) ?_
  obtain ⟨x7, e8, hf⟩ := jbind hf
  refine J_sld E hS9 (jd dk_L_law_6 20 rfl) e8 ?_
  refine J_aload_n E (jd dk_L_law_6 21 rfl) rfl 1 rfl ?_
  refine J_iload E (jd dk_L_law_6 22 rfl) 5 rfl ?_
  refine J_iconst (v := 2) E (jd dk_L_law_6 23 rfl) rfl ?_
  refine J_iadd E (jd dk_L_law_6 24 rfl) ?_
  obtain ⟨x9, e10, hf⟩ := jbind hf
  refine J_sld E hS9 (jd dk_L_law_6 25 rfl) e10 ?_
  obtain ⟨u13, e14, hf⟩ := jbind hf
  obtain ⟨r11, e12, hf⟩ := jbind hf
  refine J_callV (st := []) E (jd dk_L_law_6 26 rfl) ml_RL_151 cal_X7_paddle e14 rfl (lk_X7_paddle (jE_g E) (jE_tr E) N e12) rfl (Nat.le_of_ble_eq_true rfl) (jRL hX (by decide) (by decide)) (jFM hX hc9 (by decide) (by decide)) rfl ?_
  rintro _ _ ⟨rfl, rfl⟩
  refine J_stk (st' := [.int r11.1]) rfl ?_
  refine J_istore (lv' := [(6, .int r11.1), (5, .int r5.1), (0, .ref 4000000), (1, .ref a1), (2, .ref a2), (3, .ref a3), (4, .int i)]) E (jd dk_L_law_6 27 rfl) (by decide) rfl ?_
  refine J_aload_n E (jd dk_L_law_6 28 rfl) rfl 4 rfl ?_
  obtain ⟨u17, e18, hf⟩ := jbind hf
  obtain ⟨r15, e16, hf⟩ := jbind hf
  refine J_callV (st := []) E (jd dk_L_law_6 29 rfl) ml_RL_124 cal_X7_thrown e18 rfl (lk_X7_thrown (jE_g E) (jE_tr E) N e16) rfl (Nat.le_of_ble_eq_true rfl) (jRL hX (by decide) (by decide)) (jFM hX hc9 (by decide) (by decide)) rfl ?_
  rintro _ _ ⟨rfl, rfl⟩
  refine J_stk (st' := [.int r15.1]) rfl ?_
  refine J_iload E (jd dk_L_law_6 30 rfl) 1 rfl ?_
  obtain ⟨c19, hf⟩ := jnz hf
  refine J_icmp_eq (tgt := 675) E (jd dk_L_law_6 31 rfl) (by decide) (fun _ => ?_) (fun z => absurd z c19)
  refine J_iload E (jd dk_L_law_6 34 rfl) 1 rfl ?_
  by_cases c20 : r5.1 = 0
  · rw [if_neg (not_not_intro c20)] at hf
    refine J_if_ne (tgt := 692) E (jd dk_L_law_6 35 rfl) (by decide) (fun z => absurd c20 z) (fun _ => ?_)
    refine J_aload_n E (jd dk_L_law_6 36 rfl) rfl 5 rfl ?_
    refine J_iconst (v := 0) E (jd dk_L_law_6 37 rfl) rfl ?_
    obtain ⟨x21, e22, hf⟩ := jbind hf
    refine J_lald E (jd dk_L_law_6 38 rfl) e22 ?_
    refine J_iload E (jd dk_L_law_6 39 rfl) 0 rfl ?_
    refine J_i2l E (jd dk_L_law_6 40 rfl) ?_
    refine J_lcmp E (jd dk_L_law_6 41 rfl) ?_
    obtain ⟨c23, hf⟩ := jnz hf
    refine J_if_eq (tgt := 692) E (jd dk_L_law_6 42 rfl) (by decide) (fun _ => ?_) (fun z => absurd z c23)
    refine J_goto (tgt := 2480) E (jd dk_L_law_6 45 rfl) (by decide) ?_
    refine J_sub [2, 3, 4, 5, 6] rfl ?_
    refine J_widen (cells' := cc9 + 4) (slots' := ss9 + 24) (by omega) (by omega) ?_
    cases hf
    exact kb
  · rw [if_pos c20] at hf
    refine J_if_ne (tgt := 692) E (jd dk_L_law_6 35 rfl) (by decide) (fun _ => ?_) (fun z => absurd z c20)
    refine J_goto (tgt := 2480) E (jd dk_L_law_6 45 rfl) (by decide) ?_
    refine J_sub [2, 3, 4, 5, 6] rfl ?_
    refine J_widen (cells' := cc9 + 4) (slots' := ss9 + 24) (by omega) (by omega) ?_
    cases hf
    exact kb
def f_L_c9 (N L : Nat) (xs : Nat → Int32) (a1 a2 a3 : Nat) (i : Int32) (h : AH) : Option AH :=
  (jsx L xs (i + 1)).bind fun x1 =>
  (jsx L xs (i + 2)).bind fun x3 =>
  (f_L_carry N h a1 x1 x3 a3).bind fun r5 =>
  (jsx L xs (i + 1)).bind fun x7 =>
  (jsx L xs (i + 2)).bind fun x9 =>
  (jck 7 r5.2 a2).bind fun _ =>
  (f_X7_carry N r5.2 a2 x7 x9).bind fun r11 =>
  (jck 7 r11.2 a2).bind fun _ =>
  (f_X7_thrown N r11.2 a2).bind fun r15 =>
  if ¬ r15.1 = r5.1 then none else
  if ¬ r5.1 = 0 then some r15.2 else
  (jll 3 r15.2 a3 0).bind fun x21 =>
  if ¬ (lg_cmp x21 (Int32.toInt64 r11.1)) = 0 then none else
  some r15.2
set_option maxRecDepth 100000 in
set_option maxHeartbeats 4000000 in
theorem lk_L_c9 {G : JG} {X : JX} (E : jE G X (RL, cL_law, 7)) (hX : X.2.2.2.1 = room_1) {L : Nat} {xs : Nat → Int32} (hS9 : jScr G X L xs) (N : Nat) {a1 a2 a3 : Nat} {i : Int32} {h h1 : AH} {cc9 ss9 : Nat} (hc9 : cc9 + 4 ≤ 601024 ∧ ss9 + 24 ≤ 7293033) {Q : State → Prop} (hf : f_L_c9 N L xs a1 a2 a3 i h = some h1) (kb : JW G X (RL, cL_law, 7) h1 [(0, .ref 4000000), (1, .ref a1), (2, .ref a2), (3, .ref a3), (4, .int i)] [] 2480 (cc9 + 4) (ss9 + 24) Q) : JW G X (RL, cL_law, 7) h [(0, .ref 4000000), (1, .ref a1), (2, .ref a2), (3, .ref a3), (4, .int i)] [] 695 cc9 ss9 Q := by
  unfold f_L_c9 at hf
  refine J_aload_n E (jd dk_L_law_6 46 rfl) rfl 1 rfl ?_
  refine J_aload_n E (jd dk_L_law_6 47 rfl) rfl 0 rfl ?_
  refine J_iload E (jd dk_L_law_6 48 rfl) 4 rfl ?_
  refine J_iconst (v := 1) E (jd dk_L_law_6 49 rfl) rfl ?_
  refine J_iadd E (jd dk_L_law_7 0 rfl) ?_
  obtain ⟨x1, e2, hf⟩ := jbind hf
  refine J_sld E hS9 (jd dk_L_law_7 1 rfl) e2 ?_
  refine J_aload_n E (jd dk_L_law_7 2 rfl) rfl 0 rfl ?_
  refine J_iload E (jd dk_L_law_7 3 rfl) 4 rfl ?_
  refine J_iconst (v := 2) E (jd dk_L_law_7 4 rfl) rfl ?_
  refine J_iadd E (jd dk_L_law_7 5 rfl) ?_
  obtain ⟨x3, e4, hf⟩ := jbind hf
  refine J_sld E hS9 (jd dk_L_law_7 6 rfl) e4 ?_
  refine J_aload_n E (jd dk_L_law_7 7 rfl) rfl 3 rfl ?_
  obtain ⟨r5, e6, hf⟩ := jbind hf
  refine J_callSW (st := []) E (jd dk_L_law_7 8 rfl) ml_RL_152 cal_L_carry.1 cal_L_carry.2.1 cal_L_carry.2.2.1 cal_L_carry.2.2.2 (lk_L_carry (jE_g E) (jE_tr E) N e6) rfl (Nat.le_of_ble_eq_true rfl) (jRL hX (by decide) (by decide)) (jFL hX hc9 (by decide) (by decide)) rfl ?_
  rintro _ _ ⟨rfl, rfl⟩
  refine J_stk (st' := [.int r5.1]) rfl ?_
  refine J_istore (lv' := [(5, .int r5.1), (0, .ref 4000000), (1, .ref a1), (2, .ref a2), (3, .ref a3), (4, .int i)]) E (jd dk_L_law_7 9 rfl) (by decide) rfl ?_
  refine J_aload_n E (jd dk_L_law_7 10 rfl) rfl 3 rfl ?_
  refine J_aload_n E (jd dk_L_law_7 11 rfl) rfl 1 rfl ?_
  refine J_iload E (jd dk_L_law_7 12 rfl) 5 rfl ?_
  refine J_iconst (v := 1) E (jd dk_L_law_7 13 rfl) rfl ?_
  refine J_iadd E (jd dk_L_law_7 14 rfl) ?_
  obtain ⟨x7, e8, hf⟩ := jbind hf
  refine J_sld E hS9 (jd dk_L_law_7 15 rfl) e8 ?_
  refine J_aload_n E (jd dk_L_law_7 16 rfl) rfl 1 rfl ?_
  refine J_iload E (jd dk_L_law_7 17 rfl) 5 rfl ?_
  refine J_iconst (v := 2) E (jd dk_L_law_7 18 rfl) rfl ?_
  refine J_iadd E (jd dk_L_law_7 19 rfl) ?_
  obtain ⟨x9, e10, hf⟩ := jbind hf
  refine J_sld E hS9 (jd dk_L_law_7 20 rfl) e10 ?_
  obtain ⟨u13, e14, hf⟩ := jbind hf
  obtain ⟨r11, e12, hf⟩ := jbind hf
  refine J_callV (st := []) E (jd dk_L_law_7 21 rfl) ml_RL_154 cal_X7_carry e14 rfl (lk_X7_carry (jE_g E) (jE_tr E) N e12) rfl (Nat.le_of_ble_eq_true rfl) (jRL hX (by decide) (by decide)) (jFM hX hc9 (by decide) (by decide)) rfl ?_
  rintro _ _ ⟨rfl, rfl⟩
  refine J_stk (st' := [.int r11.1]) rfl ?_
  refine J_istore (lv' := [(6, .int r11.1), (5, .int r5.1), (0, .ref 4000000), (1, .ref a1), (2, .ref a2), (3, .ref a3), (4, .int i)]) E (jd dk_L_law_7 22 rfl) (by decide) rfl ?_
  refine J_aload_n E (jd dk_L_law_7 23 rfl) rfl 4 rfl ?_
  obtain ⟨u17, e18, hf⟩ := jbind hf
  obtain ⟨r15, e16, hf⟩ := jbind hf
  refine J_callV (st := []) E (jd dk_L_law_7 24 rfl) ml_RL_124 cal_X7_thrown e18 rfl (lk_X7_thrown (jE_g E) (jE_tr E) N e16) rfl (Nat.le_of_ble_eq_true rfl) (jRL hX (by decide) (by decide)) (jFM hX hc9 (by decide) (by decide)) rfl ?_
  rintro _ _ ⟨rfl, rfl⟩
  refine J_stk (st' := [.int r15.1]) rfl ?_
  refine J_iload E (jd dk_L_law_7 25 rfl) 1 rfl ?_
  obtain ⟨c19, hf⟩ := jnz hf
  refine J_icmp_eq (tgt := 743) E (jd dk_L_law_7 26 rfl) (by decide) (fun _ => ?_) (fun z => absurd z c19)
  refine J_iload E (jd dk_L_law_7 29 rfl) 1 rfl ?_
  by_cases c20 : r5.1 = 0
  · rw [if_neg (not_not_intro c20)] at hf
    refine J_if_ne (tgt := 760) E (jd dk_L_law_7 30 rfl) (by decide) (fun z => absurd c20 z) (fun _ => ?_)
    refine J_aload_n E (jd dk_L_law_7 31 rfl) rfl 5 rfl ?_
    refine J_iconst (v := 0) E (jd dk_L_law_7 32 rfl) rfl ?_
    obtain ⟨x21, e22, hf⟩ := jbind hf
    refine J_lald E (jd dk_L_law_7 33 rfl) e22 ?_
    refine J_iload E (jd dk_L_law_7 34 rfl) 0 rfl ?_
    refine J_i2l E (jd dk_L_law_7 35 rfl) ?_
    refine J_lcmp E (jd dk_L_law_7 36 rfl) ?_
    obtain ⟨c23, hf⟩ := jnz hf
    refine J_if_eq (tgt := 760) E (jd dk_L_law_7 37 rfl) (by decide) (fun _ => ?_) (fun z => absurd z c23)
    refine J_goto (tgt := 2480) E (jd dk_L_law_7 40 rfl) (by decide) ?_
    refine J_sub [2, 3, 4, 5, 6] rfl ?_
    refine J_widen (cells' := cc9 + 4) (slots' := ss9 + 24) (by omega) (by omega) ?_
    cases hf
    exact kb
  · rw [if_pos c20] at hf
    refine J_if_ne (tgt := 760) E (jd dk_L_law_7 30 rfl) (by decide) (fun _ => ?_) (fun z => absurd z c20)
    refine J_goto (tgt := 2480) E (jd dk_L_law_7 40 rfl) (by decide) ?_
    refine J_sub [2, 3, 4, 5, 6] rfl ?_
    refine J_widen (cells' := cc9 + 4) (slots' := ss9 + 24) (by omega) (by omega) ?_
    cases hf
    exact kb
def f_L_c10 (N L : Nat) (xs : Nat → Int32) (a1 a2 a3 : Nat) (i : Int32) (h : AH) : Option AH :=
  (jsx L xs (i + 1)).bind fun x1 =>
  (jsx L xs (i + 2)).bind fun x3 =>
  (jsx L xs (i + 3)).bind fun x5 =>
  (f_L_dredge N h a1 x1 x3 x5 a3).bind fun r7 =>
  (jsx L xs (i + 1)).bind fun x9 =>
  (jsx L xs (i + 2)).bind fun x11 =>
  (jsx L xs (i + 3)).bind fun x13 =>
  (jck 7 r7.2 a2).bind fun _ =>
  (f_X7_dredge N r7.2 a2 x9 x11 x13).bind fun r15 =>
  (jck 7 r15.2 a2).bind fun _ =>
  (f_X7_thrown N r15.2 a2).bind fun r19 =>
  if ¬ r19.1 = r7.1 then none else
  if ¬ r7.1 = 0 then some r19.2 else
  (jll 3 r19.2 a3 0).bind fun x25 =>
  if ¬ (lg_cmp x25 (Int32.toInt64 r15.1)) = 0 then none else
  some r19.2
set_option maxRecDepth 100000 in
set_option maxHeartbeats 4000000 in
theorem lk_L_c10 {G : JG} {X : JX} (E : jE G X (RL, cL_law, 7)) (hX : X.2.2.2.1 = room_1) {L : Nat} {xs : Nat → Int32} (hS9 : jScr G X L xs) (N : Nat) {a1 a2 a3 : Nat} {i : Int32} {h h1 : AH} {cc9 ss9 : Nat} (hc9 : cc9 + 4 ≤ 601024 ∧ ss9 + 24 ≤ 7293033) {Q : State → Prop} (hf : f_L_c10 N L xs a1 a2 a3 i h = some h1) (kb : JW G X (RL, cL_law, 7) h1 [(0, .ref 4000000), (1, .ref a1), (2, .ref a2), (3, .ref a3), (4, .int i)] [] 2480 (cc9 + 4) (ss9 + 24) Q) : JW G X (RL, cL_law, 7) h [(0, .ref 4000000), (1, .ref a1), (2, .ref a2), (3, .ref a3), (4, .int i)] [] 763 cc9 ss9 Q := by
  unfold f_L_c10 at hf
  refine J_aload_n E (jd dk_L_law_7 41 rfl) rfl 1 rfl ?_
  refine J_aload_n E (jd dk_L_law_7 42 rfl) rfl 0 rfl ?_
  refine J_iload E (jd dk_L_law_7 43 rfl) 4 rfl ?_
  refine J_iconst (v := 1) E (jd dk_L_law_7 44 rfl) rfl ?_
  refine J_iadd E (jd dk_L_law_7 45 rfl) ?_
  obtain ⟨x1, e2, hf⟩ := jbind hf
  refine J_sld E hS9 (jd dk_L_law_7 46 rfl) e2 ?_
  refine J_aload_n E (jd dk_L_law_7 47 rfl) rfl 0 rfl ?_
  refine J_iload E (jd dk_L_law_7 48 rfl) 4 rfl ?_
  refine J_iconst (v := 2) E (jd dk_L_law_7 49 rfl) rfl ?_
  refine J_iadd E (jd dk_L_law_8 0 rfl) ?_
  obtain ⟨x3, e4, hf⟩ := jbind hf
  refine J_sld E hS9 (jd dk_L_law_8 1 rfl) e4 ?_
  refine J_aload_n E (jd dk_L_law_8 2 rfl) rfl 0 rfl ?_
  refine J_iload E (jd dk_L_law_8 3 rfl) 4 rfl ?_
  refine J_iconst (v := 3) E (jd dk_L_law_8 4 rfl) rfl ?_
  refine J_iadd E (jd dk_L_law_8 5 rfl) ?_
  obtain ⟨x5, e6, hf⟩ := jbind hf
  refine J_sld E hS9 (jd dk_L_law_8 6 rfl) e6 ?_
  refine J_aload_n E (jd dk_L_law_8 7 rfl) rfl 3 rfl ?_
  obtain ⟨r7, e8, hf⟩ := jbind hf
  refine J_callSW (st := []) E (jd dk_L_law_8 8 rfl) ml_RL_155 cal_L_dredge.1 cal_L_dredge.2.1 cal_L_dredge.2.2.1 cal_L_dredge.2.2.2 (lk_L_dredge (jE_g E) (jE_tr E) N e8) rfl (Nat.le_of_ble_eq_true rfl) (jRL hX (by decide) (by decide)) (jFL hX hc9 (by decide) (by decide)) rfl ?_
  rintro _ _ ⟨rfl, rfl⟩
  refine J_stk (st' := [.int r7.1]) rfl ?_
  refine J_istore (lv' := [(5, .int r7.1), (0, .ref 4000000), (1, .ref a1), (2, .ref a2), (3, .ref a3), (4, .int i)]) E (jd dk_L_law_8 9 rfl) (by decide) rfl ?_
  refine J_aload_n E (jd dk_L_law_8 10 rfl) rfl 3 rfl ?_
  refine J_aload_n E (jd dk_L_law_8 11 rfl) rfl 1 rfl ?_
  refine J_iload E (jd dk_L_law_8 12 rfl) 5 rfl ?_
  refine J_iconst (v := 1) E (jd dk_L_law_8 13 rfl) rfl ?_
  refine J_iadd E (jd dk_L_law_8 14 rfl) ?_
  obtain ⟨x9, e10, hf⟩ := jbind hf
  refine J_sld E hS9 (jd dk_L_law_8 15 rfl) e10 ?_
  refine J_aload_n E (jd dk_L_law_8 16 rfl) rfl 1 rfl ?_
  refine J_iload E (jd dk_L_law_8 17 rfl) 5 rfl ?_
  refine J_iconst (v := 2) E (jd dk_L_law_8 18 rfl) rfl ?_
  refine J_iadd E (jd dk_L_law_8 19 rfl) ?_
  obtain ⟨x11, e12, hf⟩ := jbind hf
  refine J_sld E hS9 (jd dk_L_law_8 20 rfl) e12 ?_
  refine J_aload_n E (jd dk_L_law_8 21 rfl) rfl 1 rfl ?_
  refine J_iload E (jd dk_L_law_8 22 rfl) 5 rfl ?_
  refine J_iconst (v := 3) E (jd dk_L_law_8 23 rfl) rfl ?_
  refine J_iadd E (jd dk_L_law_8 24 rfl) ?_
  obtain ⟨x13, e14, hf⟩ := jbind hf
  refine J_sld E hS9 (jd dk_L_law_8 25 rfl) e14 ?_
  obtain ⟨u17, e18, hf⟩ := jbind hf
  obtain ⟨r15, e16, hf⟩ := jbind hf
  refine J_callV (st := []) E (jd dk_L_law_8 26 rfl) ml_RL_158 cal_X7_dredge e18 rfl (lk_X7_dredge (jE_g E) (jE_tr E) N e16) rfl (Nat.le_of_ble_eq_true rfl) (jRL hX (by decide) (by decide)) (jFM hX hc9 (by decide) (by decide)) rfl ?_
  rintro _ _ ⟨rfl, rfl⟩
  refine J_stk (st' := [.int r15.1]) rfl ?_
  refine J_istore (lv' := [(6, .int r15.1), (5, .int r7.1), (0, .ref 4000000), (1, .ref a1), (2, .ref a2), (3, .ref a3), (4, .int i)]) E (jd dk_L_law_8 27 rfl) (by decide) rfl ?_
  refine J_aload_n E (jd dk_L_law_8 28 rfl) rfl 4 rfl ?_
  obtain ⟨u21, e22, hf⟩ := jbind hf
  obtain ⟨r19, e20, hf⟩ := jbind hf
  refine J_callV (st := []) E (jd dk_L_law_8 29 rfl) ml_RL_124 cal_X7_thrown e22 rfl (lk_X7_thrown (jE_g E) (jE_tr E) N e20) rfl (Nat.le_of_ble_eq_true rfl) (jRL hX (by decide) (by decide)) (jFM hX hc9 (by decide) (by decide)) rfl ?_
  rintro _ _ ⟨rfl, rfl⟩
  refine J_stk (st' := [.int r19.1]) rfl ?_
  refine J_iload E (jd dk_L_law_8 30 rfl) 1 rfl ?_
  obtain ⟨c23, hf⟩ := jnz hf
  refine J_icmp_eq (tgt := 823) E (jd dk_L_law_8 31 rfl) (by decide) (fun _ => ?_) (fun z => absurd z c23)
  refine J_iload E (jd dk_L_law_8 34 rfl) 1 rfl ?_
  by_cases c24 : r7.1 = 0
  · rw [if_neg (not_not_intro c24)] at hf
    refine J_if_ne (tgt := 840) E (jd dk_L_law_8 35 rfl) (by decide) (fun z => absurd c24 z) (fun _ => ?_)
    refine J_aload_n E (jd dk_L_law_8 36 rfl) rfl 5 rfl ?_
    refine J_iconst (v := 0) E (jd dk_L_law_8 37 rfl) rfl ?_
    obtain ⟨x25, e26, hf⟩ := jbind hf
    refine J_lald E (jd dk_L_law_8 38 rfl) e26 ?_
    refine J_iload E (jd dk_L_law_8 39 rfl) 0 rfl ?_
    refine J_i2l E (jd dk_L_law_8 40 rfl) ?_
    refine J_lcmp E (jd dk_L_law_8 41 rfl) ?_
    obtain ⟨c27, hf⟩ := jnz hf
    refine J_if_eq (tgt := 840) E (jd dk_L_law_8 42 rfl) (by decide) (fun _ => ?_) (fun z => absurd z c27)
    refine J_goto (tgt := 2480) E (jd dk_L_law_8 45 rfl) (by decide) ?_
    refine J_sub [2, 3, 4, 5, 6] rfl ?_
    refine J_widen (cells' := cc9 + 4) (slots' := ss9 + 24) (by omega) (by omega) ?_
    cases hf
    exact kb
  · rw [if_pos c24] at hf
    refine J_if_ne (tgt := 840) E (jd dk_L_law_8 35 rfl) (by decide) (fun _ => ?_) (fun z => absurd z c24)
    refine J_goto (tgt := 2480) E (jd dk_L_law_8 45 rfl) (by decide) ?_
    refine J_sub [2, 3, 4, 5, 6] rfl ?_
    refine J_widen (cells' := cc9 + 4) (slots' := ss9 + 24) (by omega) (by omega) ?_
    cases hf
    exact kb
def f_L_c11 (N L : Nat) (xs : Nat → Int32) (a1 a2 a3 : Nat) (i : Int32) (h : AH) : Option AH :=
  (jck 6 h a1).bind fun _ =>
  (f_X6_undo N h a1).bind fun r1 =>
  (jck 7 r1.2 a2).bind fun _ =>
  (f_X7_undo N r1.2 a2).bind fun r5 =>
  if ¬ r1.1 = r5.1 then none else
  some r5.2
set_option maxRecDepth 100000 in
set_option maxHeartbeats 4000000 in
theorem lk_L_c11 {G : JG} {X : JX} (E : jE G X (RL, cL_law, 7)) (hX : X.2.2.2.1 = room_1) {L : Nat} {xs : Nat → Int32} (hS9 : jScr G X L xs) (N : Nat) {a1 a2 a3 : Nat} {i : Int32} {h h1 : AH} {cc9 ss9 : Nat} (hc9 : cc9 + 4 ≤ 601024 ∧ ss9 + 24 ≤ 7293033) {Q : State → Prop} (hf : f_L_c11 N L xs a1 a2 a3 i h = some h1) (kb : JW G X (RL, cL_law, 7) h1 [(0, .ref 4000000), (1, .ref a1), (2, .ref a2), (3, .ref a3), (4, .int i)] [] 2480 (cc9 + 4) (ss9 + 24) Q) : JW G X (RL, cL_law, 7) h [(0, .ref 4000000), (1, .ref a1), (2, .ref a2), (3, .ref a3), (4, .int i)] [] 843 cc9 ss9 Q := by
  unfold f_L_c11 at hf
  refine J_aload_n E (jd dk_L_law_8 46 rfl) rfl 1 rfl ?_
  obtain ⟨u3, e4, hf⟩ := jbind hf
  obtain ⟨r1, e2, hf⟩ := jbind hf
  refine J_callV (st := []) E (jd dk_L_law_8 47 rfl) ml_RL_159 cal_X6_undo e4 rfl (lk_X6_undo (jE_g E) (jE_tr E) N e2) rfl (Nat.le_of_ble_eq_true rfl) (jRL hX (by decide) (by decide)) (jFL hX hc9 (by decide) (by decide)) rfl ?_
  rintro _ _ ⟨rfl, rfl⟩
  refine J_stk (st' := [.int r1.1]) rfl ?_
  refine J_aload_n E (jd dk_L_law_8 48 rfl) rfl 2 rfl ?_
  obtain ⟨u7, e8, hf⟩ := jbind hf
  obtain ⟨r5, e6, hf⟩ := jbind hf
  refine J_callV (st := [.int r1.1]) E (jd dk_L_law_8 49 rfl) ml_RL_162 cal_X7_undo e8 rfl (lk_X7_undo (jE_g E) (jE_tr E) N e6) rfl (Nat.le_of_ble_eq_true rfl) (jRL hX (by decide) (by decide)) (jFL hX hc9 (by decide) (by decide)) rfl ?_
  rintro _ _ ⟨rfl, rfl⟩
  refine J_stk (st' := [.int r5.1, .int r1.1]) rfl ?_
  obtain ⟨c9, hf⟩ := jnz hf
  refine J_icmp_eq (tgt := 2480) E (jd dk_L_law_9 0 rfl) (by decide) (fun _ => ?_) (fun z => absurd z c9)
  refine J_sub [0, 1, 2, 3, 4] rfl ?_
  refine J_widen (cells' := cc9 + 4) (slots' := ss9 + 24) (by omega) (by omega) ?_
  cases hf
  exact kb
def f_L_c12 (N L : Nat) (xs : Nat → Int32) (a1 a2 a3 : Nat) (i : Int32) (h : AH) : Option AH :=
  (jsx L xs (i + 1)).bind fun x1 =>
  (jsx L xs (i + 2)).bind fun x3 =>
  (jsx L xs (i + 3)).bind fun x5 =>
  (f_L_then N h a1 x1 x3 x5 a3).bind fun r7 =>
  (jsx L xs (i + 1)).bind fun x9 =>
  (jsx L xs (i + 2)).bind fun x11 =>
  (jsx L xs (i + 3)).bind fun x13 =>
  (jck 7 r7.2 a2).bind fun _ =>
  (f_X7_then N r7.2 a2 x9 x11 x13).bind fun r15 =>
  (jck 7 r15.2 a2).bind fun _ =>
  (f_X7_thrown N r15.2 a2).bind fun r19 =>
  if ¬ r19.1 = r7.1 then none else
  if ¬ r7.1 = 0 then some r19.2 else
  (jll 3 r19.2 a3 0).bind fun x25 =>
  if ¬ (lg_cmp x25 (Int32.toInt64 r15.1)) = 0 then none else
  some r19.2
set_option maxRecDepth 100000 in
set_option maxHeartbeats 4000000 in
theorem lk_L_c12 {G : JG} {X : JX} (E : jE G X (RL, cL_law, 7)) (hX : X.2.2.2.1 = room_1) {L : Nat} {xs : Nat → Int32} (hS9 : jScr G X L xs) (N : Nat) {a1 a2 a3 : Nat} {i : Int32} {h h1 : AH} {cc9 ss9 : Nat} (hc9 : cc9 + 4 ≤ 601024 ∧ ss9 + 24 ≤ 7293033) {Q : State → Prop} (hf : f_L_c12 N L xs a1 a2 a3 i h = some h1) (kb : JW G X (RL, cL_law, 7) h1 [(0, .ref 4000000), (1, .ref a1), (2, .ref a2), (3, .ref a3), (4, .int i)] [] 2480 (cc9 + 4) (ss9 + 24) Q) : JW G X (RL, cL_law, 7) h [(0, .ref 4000000), (1, .ref a1), (2, .ref a2), (3, .ref a3), (4, .int i)] [] 856 cc9 ss9 Q := by
  unfold f_L_c12 at hf
  refine J_aload_n E (jd dk_L_law_9 3 rfl) rfl 1 rfl ?_
  refine J_aload_n E (jd dk_L_law_9 4 rfl) rfl 0 rfl ?_
  refine J_iload E (jd dk_L_law_9 5 rfl) 4 rfl ?_
  refine J_iconst (v := 1) E (jd dk_L_law_9 6 rfl) rfl ?_
  refine J_iadd E (jd dk_L_law_9 7 rfl) ?_
  obtain ⟨x1, e2, hf⟩ := jbind hf
  refine J_sld E hS9 (jd dk_L_law_9 8 rfl) e2 ?_
  refine J_aload_n E (jd dk_L_law_9 9 rfl) rfl 0 rfl ?_
  refine J_iload E (jd dk_L_law_9 10 rfl) 4 rfl ?_
  refine J_iconst (v := 2) E (jd dk_L_law_9 11 rfl) rfl ?_
  refine J_iadd E (jd dk_L_law_9 12 rfl) ?_
  obtain ⟨x3, e4, hf⟩ := jbind hf
  refine J_sld E hS9 (jd dk_L_law_9 13 rfl) e4 ?_
  refine J_aload_n E (jd dk_L_law_9 14 rfl) rfl 0 rfl ?_
  refine J_iload E (jd dk_L_law_9 15 rfl) 4 rfl ?_
  refine J_iconst (v := 3) E (jd dk_L_law_9 16 rfl) rfl ?_
  refine J_iadd E (jd dk_L_law_9 17 rfl) ?_
  obtain ⟨x5, e6, hf⟩ := jbind hf
  refine J_sld E hS9 (jd dk_L_law_9 18 rfl) e6 ?_
  refine J_aload_n E (jd dk_L_law_9 19 rfl) rfl 3 rfl ?_
  obtain ⟨r7, e8, hf⟩ := jbind hf
  refine J_callSW (st := []) E (jd dk_L_law_9 20 rfl) ml_RL_163 cal_L_then.1 cal_L_then.2.1 cal_L_then.2.2.1 cal_L_then.2.2.2 (lk_L_then (jE_g E) (jE_tr E) N e8) rfl (Nat.le_of_ble_eq_true rfl) (jRL hX (by decide) (by decide)) (jFL hX hc9 (by decide) (by decide)) rfl ?_
  rintro _ _ ⟨rfl, rfl⟩
  refine J_stk (st' := [.int r7.1]) rfl ?_
  refine J_istore (lv' := [(5, .int r7.1), (0, .ref 4000000), (1, .ref a1), (2, .ref a2), (3, .ref a3), (4, .int i)]) E (jd dk_L_law_9 21 rfl) (by decide) rfl ?_
  refine J_aload_n E (jd dk_L_law_9 22 rfl) rfl 3 rfl ?_
  refine J_aload_n E (jd dk_L_law_9 23 rfl) rfl 1 rfl ?_
  refine J_iload E (jd dk_L_law_9 24 rfl) 5 rfl ?_
  refine J_iconst (v := 1) E (jd dk_L_law_9 25 rfl) rfl ?_
  refine J_iadd E (jd dk_L_law_9 26 rfl) ?_
  obtain ⟨x9, e10, hf⟩ := jbind hf
  refine J_sld E hS9 (jd dk_L_law_9 27 rfl) e10 ?_
  refine J_aload_n E (jd dk_L_law_9 28 rfl) rfl 1 rfl ?_
  refine J_iload E (jd dk_L_law_9 29 rfl) 5 rfl ?_
  refine J_iconst (v := 2) E (jd dk_L_law_9 30 rfl) rfl ?_
  refine J_iadd E (jd dk_L_law_9 31 rfl) ?_
  obtain ⟨x11, e12, hf⟩ := jbind hf
  refine J_sld E hS9 (jd dk_L_law_9 32 rfl) e12 ?_
  refine J_aload_n E (jd dk_L_law_9 33 rfl) rfl 1 rfl ?_
  refine J_iload E (jd dk_L_law_9 34 rfl) 5 rfl ?_
  refine J_iconst (v := 3) E (jd dk_L_law_9 35 rfl) rfl ?_
  refine J_iadd E (jd dk_L_law_9 36 rfl) ?_
  obtain ⟨x13, e14, hf⟩ := jbind hf
  refine J_sld E hS9 (jd dk_L_law_9 37 rfl) e14 ?_
  obtain ⟨u17, e18, hf⟩ := jbind hf
  obtain ⟨r15, e16, hf⟩ := jbind hf
  refine J_callV (st := []) E (jd dk_L_law_9 38 rfl) ml_RL_165 cal_X7_then e18 rfl (lk_X7_then (jE_g E) (jE_tr E) N e16) rfl (Nat.le_of_ble_eq_true rfl) (jRL hX (by decide) (by decide)) (jFM hX hc9 (by decide) (by decide)) rfl ?_
  rintro _ _ ⟨rfl, rfl⟩
  refine J_stk (st' := [.int r15.1]) rfl ?_
  refine J_istore (lv' := [(6, .int r15.1), (5, .int r7.1), (0, .ref 4000000), (1, .ref a1), (2, .ref a2), (3, .ref a3), (4, .int i)]) E (jd dk_L_law_9 39 rfl) (by decide) rfl ?_
  refine J_aload_n E (jd dk_L_law_9 40 rfl) rfl 4 rfl ?_
  obtain ⟨u21, e22, hf⟩ := jbind hf
  obtain ⟨r19, e20, hf⟩ := jbind hf
  refine J_callV (st := []) E (jd dk_L_law_9 41 rfl) ml_RL_124 cal_X7_thrown e22 rfl (lk_X7_thrown (jE_g E) (jE_tr E) N e20) rfl (Nat.le_of_ble_eq_true rfl) (jRL hX (by decide) (by decide)) (jFM hX hc9 (by decide) (by decide)) rfl ?_
  rintro _ _ ⟨rfl, rfl⟩
  refine J_stk (st' := [.int r19.1]) rfl ?_
  refine J_iload E (jd dk_L_law_9 42 rfl) 1 rfl ?_
  obtain ⟨c23, hf⟩ := jnz hf
  refine J_icmp_eq (tgt := 916) E (jd dk_L_law_9 43 rfl) (by decide) (fun _ => ?_) (fun z => absurd z c23)
  refine J_iload E (jd dk_L_law_9 46 rfl) 1 rfl ?_
  by_cases c24 : r7.1 = 0
  · rw [if_neg (not_not_intro c24)] at hf
    refine J_if_ne (tgt := 933) E (jd dk_L_law_9 47 rfl) (by decide) (fun z => absurd c24 z) (fun _ => ?_)
    refine J_aload_n E (jd dk_L_law_9 48 rfl) rfl 5 rfl ?_
    refine J_iconst (v := 0) E (jd dk_L_law_9 49 rfl) rfl ?_
    obtain ⟨x25, e26, hf⟩ := jbind hf
    refine J_lald E (jd dk_L_law_10 0 rfl) e26 ?_
    refine J_iload E (jd dk_L_law_10 1 rfl) 0 rfl ?_
    refine J_i2l E (jd dk_L_law_10 2 rfl) ?_
    refine J_lcmp E (jd dk_L_law_10 3 rfl) ?_
    obtain ⟨c27, hf⟩ := jnz hf
    refine J_if_eq (tgt := 933) E (jd dk_L_law_10 4 rfl) (by decide) (fun _ => ?_) (fun z => absurd z c27)
    refine J_goto (tgt := 2480) E (jd dk_L_law_10 7 rfl) (by decide) ?_
    refine J_sub [2, 3, 4, 5, 6] rfl ?_
    refine J_widen (cells' := cc9 + 4) (slots' := ss9 + 24) (by omega) (by omega) ?_
    cases hf
    exact kb
  · rw [if_pos c24] at hf
    refine J_if_ne (tgt := 933) E (jd dk_L_law_9 47 rfl) (by decide) (fun _ => ?_) (fun z => absurd z c24)
    refine J_goto (tgt := 2480) E (jd dk_L_law_10 7 rfl) (by decide) ?_
    refine J_sub [2, 3, 4, 5, 6] rfl ?_
    refine J_widen (cells' := cc9 + 4) (slots' := ss9 + 24) (by omega) (by omega) ?_
    cases hf
    exact kb
def f_L_c13 (N L : Nat) (xs : Nat → Int32) (a1 a2 a3 : Nat) (i : Int32) (h : AH) : Option AH :=
  (jsx L xs (i + 1)).bind fun x1 =>
  (jsx L xs (i + 2)).bind fun x3 =>
  (f_L_when N h a1 x1 x3 a3).bind fun r5 =>
  (jsx L xs (i + 1)).bind fun x7 =>
  (jsx L xs (i + 2)).bind fun x9 =>
  (jck 7 r5.2 a2).bind fun _ =>
  (f_X7_when N r5.2 a2 x7 x9).bind fun r11 =>
  (jck 7 r11.2 a2).bind fun _ =>
  (f_X7_thrown N r11.2 a2).bind fun r15 =>
  if ¬ r15.1 = r5.1 then none else
  if ¬ r5.1 = 0 then some r15.2 else
  (jll 3 r15.2 a3 0).bind fun x21 =>
  if ¬ (lg_cmp x21 (Int32.toInt64 r11.1)) = 0 then none else
  some r15.2
set_option maxRecDepth 100000 in
set_option maxHeartbeats 4000000 in
theorem lk_L_c13 {G : JG} {X : JX} (E : jE G X (RL, cL_law, 7)) (hX : X.2.2.2.1 = room_1) {L : Nat} {xs : Nat → Int32} (hS9 : jScr G X L xs) (N : Nat) {a1 a2 a3 : Nat} {i : Int32} {h h1 : AH} {cc9 ss9 : Nat} (hc9 : cc9 + 4 ≤ 601024 ∧ ss9 + 24 ≤ 7293033) {Q : State → Prop} (hf : f_L_c13 N L xs a1 a2 a3 i h = some h1) (kb : JW G X (RL, cL_law, 7) h1 [(0, .ref 4000000), (1, .ref a1), (2, .ref a2), (3, .ref a3), (4, .int i)] [] 2480 (cc9 + 4) (ss9 + 24) Q) : JW G X (RL, cL_law, 7) h [(0, .ref 4000000), (1, .ref a1), (2, .ref a2), (3, .ref a3), (4, .int i)] [] 936 cc9 ss9 Q := by
  unfold f_L_c13 at hf
  refine J_aload_n E (jd dk_L_law_10 8 rfl) rfl 1 rfl ?_
  refine J_aload_n E (jd dk_L_law_10 9 rfl) rfl 0 rfl ?_
  refine J_iload E (jd dk_L_law_10 10 rfl) 4 rfl ?_
  refine J_iconst (v := 1) E (jd dk_L_law_10 11 rfl) rfl ?_
  refine J_iadd E (jd dk_L_law_10 12 rfl) ?_
  obtain ⟨x1, e2, hf⟩ := jbind hf
  refine J_sld E hS9 (jd dk_L_law_10 13 rfl) e2 ?_
  refine J_aload_n E (jd dk_L_law_10 14 rfl) rfl 0 rfl ?_
  refine J_iload E (jd dk_L_law_10 15 rfl) 4 rfl ?_
  refine J_iconst (v := 2) E (jd dk_L_law_10 16 rfl) rfl ?_
  refine J_iadd E (jd dk_L_law_10 17 rfl) ?_
  obtain ⟨x3, e4, hf⟩ := jbind hf
  refine J_sld E hS9 (jd dk_L_law_10 18 rfl) e4 ?_
  refine J_aload_n E (jd dk_L_law_10 19 rfl) rfl 3 rfl ?_
  obtain ⟨r5, e6, hf⟩ := jbind hf
  refine J_callSW (st := []) E (jd dk_L_law_10 20 rfl) ml_RL_166 cal_L_when.1 cal_L_when.2.1 cal_L_when.2.2.1 cal_L_when.2.2.2 (lk_L_when (jE_g E) (jE_tr E) N e6) rfl (Nat.le_of_ble_eq_true rfl) (jRL hX (by decide) (by decide)) (jFL hX hc9 (by decide) (by decide)) rfl ?_
  rintro _ _ ⟨rfl, rfl⟩
  refine J_stk (st' := [.int r5.1]) rfl ?_
  refine J_istore (lv' := [(5, .int r5.1), (0, .ref 4000000), (1, .ref a1), (2, .ref a2), (3, .ref a3), (4, .int i)]) E (jd dk_L_law_10 21 rfl) (by decide) rfl ?_
  refine J_aload_n E (jd dk_L_law_10 22 rfl) rfl 3 rfl ?_
  refine J_aload_n E (jd dk_L_law_10 23 rfl) rfl 1 rfl ?_
  refine J_iload E (jd dk_L_law_10 24 rfl) 5 rfl ?_
  refine J_iconst (v := 1) E (jd dk_L_law_10 25 rfl) rfl ?_
  refine J_iadd E (jd dk_L_law_10 26 rfl) ?_
  obtain ⟨x7, e8, hf⟩ := jbind hf
  refine J_sld E hS9 (jd dk_L_law_10 27 rfl) e8 ?_
  refine J_aload_n E (jd dk_L_law_10 28 rfl) rfl 1 rfl ?_
  refine J_iload E (jd dk_L_law_10 29 rfl) 5 rfl ?_
  refine J_iconst (v := 2) E (jd dk_L_law_10 30 rfl) rfl ?_
  refine J_iadd E (jd dk_L_law_10 31 rfl) ?_
  obtain ⟨x9, e10, hf⟩ := jbind hf
  refine J_sld E hS9 (jd dk_L_law_10 32 rfl) e10 ?_
  obtain ⟨u13, e14, hf⟩ := jbind hf
  obtain ⟨r11, e12, hf⟩ := jbind hf
  refine J_callV (st := []) E (jd dk_L_law_10 33 rfl) ml_RL_168 cal_X7_when e14 rfl (lk_X7_when (jE_g E) (jE_tr E) N e12) rfl (Nat.le_of_ble_eq_true rfl) (jRL hX (by decide) (by decide)) (jFM hX hc9 (by decide) (by decide)) rfl ?_
  rintro _ _ ⟨rfl, rfl⟩
  refine J_stk (st' := [.int r11.1]) rfl ?_
  refine J_istore (lv' := [(6, .int r11.1), (5, .int r5.1), (0, .ref 4000000), (1, .ref a1), (2, .ref a2), (3, .ref a3), (4, .int i)]) E (jd dk_L_law_10 34 rfl) (by decide) rfl ?_
  refine J_aload_n E (jd dk_L_law_10 35 rfl) rfl 4 rfl ?_
  obtain ⟨u17, e18, hf⟩ := jbind hf
  obtain ⟨r15, e16, hf⟩ := jbind hf
  refine J_callV (st := []) E (jd dk_L_law_10 36 rfl) ml_RL_124 cal_X7_thrown e18 rfl (lk_X7_thrown (jE_g E) (jE_tr E) N e16) rfl (Nat.le_of_ble_eq_true rfl) (jRL hX (by decide) (by decide)) (jFM hX hc9 (by decide) (by decide)) rfl ?_
  rintro _ _ ⟨rfl, rfl⟩
  refine J_stk (st' := [.int r15.1]) rfl ?_
  refine J_iload E (jd dk_L_law_10 37 rfl) 1 rfl ?_
  obtain ⟨c19, hf⟩ := jnz hf
  refine J_icmp_eq (tgt := 984) E (jd dk_L_law_10 38 rfl) (by decide) (fun _ => ?_) (fun z => absurd z c19)
  refine J_iload E (jd dk_L_law_10 41 rfl) 1 rfl ?_
  by_cases c20 : r5.1 = 0
  · rw [if_neg (not_not_intro c20)] at hf
    refine J_if_ne (tgt := 1001) E (jd dk_L_law_10 42 rfl) (by decide) (fun z => absurd c20 z) (fun _ => ?_)
    refine J_aload_n E (jd dk_L_law_10 43 rfl) rfl 5 rfl ?_
    refine J_iconst (v := 0) E (jd dk_L_law_10 44 rfl) rfl ?_
    obtain ⟨x21, e22, hf⟩ := jbind hf
    refine J_lald E (jd dk_L_law_10 45 rfl) e22 ?_
    refine J_iload E (jd dk_L_law_10 46 rfl) 0 rfl ?_
    refine J_i2l E (jd dk_L_law_10 47 rfl) ?_
    refine J_lcmp E (jd dk_L_law_10 48 rfl) ?_
    obtain ⟨c23, hf⟩ := jnz hf
    refine J_if_eq (tgt := 1001) E (jd dk_L_law_10 49 rfl) (by decide) (fun _ => ?_) (fun z => absurd z c23)
    refine J_goto (tgt := 2480) E (jd dk_L_law_11 2 rfl) (by decide) ?_
    refine J_sub [2, 3, 4, 5, 6] rfl ?_
    refine J_widen (cells' := cc9 + 4) (slots' := ss9 + 24) (by omega) (by omega) ?_
    cases hf
    exact kb
  · rw [if_pos c20] at hf
    refine J_if_ne (tgt := 1001) E (jd dk_L_law_10 42 rfl) (by decide) (fun _ => ?_) (fun z => absurd z c20)
    refine J_goto (tgt := 2480) E (jd dk_L_law_11 2 rfl) (by decide) ?_
    refine J_sub [2, 3, 4, 5, 6] rfl ?_
    refine J_widen (cells' := cc9 + 4) (slots' := ss9 + 24) (by omega) (by omega) ?_
    cases hf
    exact kb
def f_L_c14 (N L : Nat) (xs : Nat → Int32) (a1 a2 a3 : Nat) (i : Int32) (h : AH) : Option AH :=
  (jsx L xs (i + 1)).bind fun x1 =>
  (jsx L xs (i + 2)).bind fun x3 =>
  (f_L_later N h a1 x1 x3 a3).bind fun r5 =>
  (jsx L xs (i + 1)).bind fun x7 =>
  (jsx L xs (i + 2)).bind fun x9 =>
  (jck 7 r5.2 a2).bind fun _ =>
  (f_X7_later N r5.2 a2 x7 x9).bind fun r11 =>
  (jck 7 r11.2 a2).bind fun _ =>
  (f_X7_thrown N r11.2 a2).bind fun r15 =>
  if ¬ r15.1 = r5.1 then none else
  if ¬ r5.1 = 0 then some r15.2 else
  (jll 3 r15.2 a3 0).bind fun x21 =>
  if ¬ (lg_cmp x21 (Int32.toInt64 r11.1)) = 0 then none else
  some r15.2
set_option maxRecDepth 100000 in
set_option maxHeartbeats 4000000 in
theorem lk_L_c14 {G : JG} {X : JX} (E : jE G X (RL, cL_law, 7)) (hX : X.2.2.2.1 = room_1) {L : Nat} {xs : Nat → Int32} (hS9 : jScr G X L xs) (N : Nat) {a1 a2 a3 : Nat} {i : Int32} {h h1 : AH} {cc9 ss9 : Nat} (hc9 : cc9 + 4 ≤ 601024 ∧ ss9 + 24 ≤ 7293033) {Q : State → Prop} (hf : f_L_c14 N L xs a1 a2 a3 i h = some h1) (kb : JW G X (RL, cL_law, 7) h1 [(0, .ref 4000000), (1, .ref a1), (2, .ref a2), (3, .ref a3), (4, .int i)] [] 2480 (cc9 + 4) (ss9 + 24) Q) : JW G X (RL, cL_law, 7) h [(0, .ref 4000000), (1, .ref a1), (2, .ref a2), (3, .ref a3), (4, .int i)] [] 1004 cc9 ss9 Q := by
  unfold f_L_c14 at hf
  refine J_aload_n E (jd dk_L_law_11 3 rfl) rfl 1 rfl ?_
  refine J_aload_n E (jd dk_L_law_11 4 rfl) rfl 0 rfl ?_
  refine J_iload E (jd dk_L_law_11 5 rfl) 4 rfl ?_
  refine J_iconst (v := 1) E (jd dk_L_law_11 6 rfl) rfl ?_
  refine J_iadd E (jd dk_L_law_11 7 rfl) ?_
  obtain ⟨x1, e2, hf⟩ := jbind hf
  refine J_sld E hS9 (jd dk_L_law_11 8 rfl) e2 ?_
  refine J_aload_n E (jd dk_L_law_11 9 rfl) rfl 0 rfl ?_
  refine J_iload E (jd dk_L_law_11 10 rfl) 4 rfl ?_
  refine J_iconst (v := 2) E (jd dk_L_law_11 11 rfl) rfl ?_
  refine J_iadd E (jd dk_L_law_11 12 rfl) ?_
  obtain ⟨x3, e4, hf⟩ := jbind hf
  refine J_sld E hS9 (jd dk_L_law_11 13 rfl) e4 ?_
  refine J_aload_n E (jd dk_L_law_11 14 rfl) rfl 3 rfl ?_
  obtain ⟨r5, e6, hf⟩ := jbind hf
  refine J_callSW (st := []) E (jd dk_L_law_11 15 rfl) ml_RL_169 cal_L_later.1 cal_L_later.2.1 cal_L_later.2.2.1 cal_L_later.2.2.2 (lk_L_later (jE_g E) (jE_tr E) N e6) rfl (Nat.le_of_ble_eq_true rfl) (jRL hX (by decide) (by decide)) (jFL hX hc9 (by decide) (by decide)) rfl ?_
  rintro _ _ ⟨rfl, rfl⟩
  refine J_stk (st' := [.int r5.1]) rfl ?_
  refine J_istore (lv' := [(5, .int r5.1), (0, .ref 4000000), (1, .ref a1), (2, .ref a2), (3, .ref a3), (4, .int i)]) E (jd dk_L_law_11 16 rfl) (by decide) rfl ?_
  refine J_aload_n E (jd dk_L_law_11 17 rfl) rfl 3 rfl ?_
  refine J_aload_n E (jd dk_L_law_11 18 rfl) rfl 1 rfl ?_
  refine J_iload E (jd dk_L_law_11 19 rfl) 5 rfl ?_
  refine J_iconst (v := 1) E (jd dk_L_law_11 20 rfl) rfl ?_
  refine J_iadd E (jd dk_L_law_11 21 rfl) ?_
  obtain ⟨x7, e8, hf⟩ := jbind hf
  refine J_sld E hS9 (jd dk_L_law_11 22 rfl) e8 ?_
  refine J_aload_n E (jd dk_L_law_11 23 rfl) rfl 1 rfl ?_
  refine J_iload E (jd dk_L_law_11 24 rfl) 5 rfl ?_
  refine J_iconst (v := 2) E (jd dk_L_law_11 25 rfl) rfl ?_
  refine J_iadd E (jd dk_L_law_11 26 rfl) ?_
  obtain ⟨x9, e10, hf⟩ := jbind hf
  refine J_sld E hS9 (jd dk_L_law_11 27 rfl) e10 ?_
  obtain ⟨u13, e14, hf⟩ := jbind hf
  obtain ⟨r11, e12, hf⟩ := jbind hf
  refine J_callV (st := []) E (jd dk_L_law_11 28 rfl) ml_RL_171 cal_X7_later e14 rfl (lk_X7_later (jE_g E) (jE_tr E) N e12) rfl (Nat.le_of_ble_eq_true rfl) (jRL hX (by decide) (by decide)) (jFM hX hc9 (by decide) (by decide)) rfl ?_
  rintro _ _ ⟨rfl, rfl⟩
  refine J_stk (st' := [.int r11.1]) rfl ?_
  refine J_istore (lv' := [(6, .int r11.1), (5, .int r5.1), (0, .ref 4000000), (1, .ref a1), (2, .ref a2), (3, .ref a3), (4, .int i)]) E (jd dk_L_law_11 29 rfl) (by decide) rfl ?_
  refine J_aload_n E (jd dk_L_law_11 30 rfl) rfl 4 rfl ?_
  obtain ⟨u17, e18, hf⟩ := jbind hf
  obtain ⟨r15, e16, hf⟩ := jbind hf
  refine J_callV (st := []) E (jd dk_L_law_11 31 rfl) ml_RL_124 cal_X7_thrown e18 rfl (lk_X7_thrown (jE_g E) (jE_tr E) N e16) rfl (Nat.le_of_ble_eq_true rfl) (jRL hX (by decide) (by decide)) (jFM hX hc9 (by decide) (by decide)) rfl ?_
  rintro _ _ ⟨rfl, rfl⟩
  refine J_stk (st' := [.int r15.1]) rfl ?_
  refine J_iload E (jd dk_L_law_11 32 rfl) 1 rfl ?_
  obtain ⟨c19, hf⟩ := jnz hf
  refine J_icmp_eq (tgt := 1052) E (jd dk_L_law_11 33 rfl) (by decide) (fun _ => ?_) (fun z => absurd z c19)
  refine J_iload E (jd dk_L_law_11 36 rfl) 1 rfl ?_
  by_cases c20 : r5.1 = 0
  · rw [if_neg (not_not_intro c20)] at hf
    refine J_if_ne (tgt := 1069) E (jd dk_L_law_11 37 rfl) (by decide) (fun z => absurd c20 z) (fun _ => ?_)
    refine J_aload_n E (jd dk_L_law_11 38 rfl) rfl 5 rfl ?_
    refine J_iconst (v := 0) E (jd dk_L_law_11 39 rfl) rfl ?_
    obtain ⟨x21, e22, hf⟩ := jbind hf
    refine J_lald E (jd dk_L_law_11 40 rfl) e22 ?_
    refine J_iload E (jd dk_L_law_11 41 rfl) 0 rfl ?_
    refine J_i2l E (jd dk_L_law_11 42 rfl) ?_
    refine J_lcmp E (jd dk_L_law_11 43 rfl) ?_
    obtain ⟨c23, hf⟩ := jnz hf
    refine J_if_eq (tgt := 1069) E (jd dk_L_law_11 44 rfl) (by decide) (fun _ => ?_) (fun z => absurd z c23)
    refine J_goto (tgt := 2480) E (jd dk_L_law_11 47 rfl) (by decide) ?_
    refine J_sub [2, 3, 4, 5, 6] rfl ?_
    refine J_widen (cells' := cc9 + 4) (slots' := ss9 + 24) (by omega) (by omega) ?_
    cases hf
    exact kb
  · rw [if_pos c20] at hf
    refine J_if_ne (tgt := 1069) E (jd dk_L_law_11 37 rfl) (by decide) (fun _ => ?_) (fun z => absurd z c20)
    refine J_goto (tgt := 2480) E (jd dk_L_law_11 47 rfl) (by decide) ?_
    refine J_sub [2, 3, 4, 5, 6] rfl ?_
    refine J_widen (cells' := cc9 + 4) (slots' := ss9 + 24) (by omega) (by omega) ?_
    cases hf
    exact kb
def f_L_c15 (N L : Nat) (xs : Nat → Int32) (a1 a2 a3 : Nat) (i : Int32) (h : AH) : Option AH :=
  (jsx L xs (i + 1)).bind fun x1 =>
  (jsx L xs (i + 2)).bind fun x3 =>
  (f_L_beside N h a1 x1 x3 a3).bind fun r5 =>
  (jsx L xs (i + 1)).bind fun x7 =>
  (jsx L xs (i + 2)).bind fun x9 =>
  (jck 7 r5.2 a2).bind fun _ =>
  (f_X7_beside N r5.2 a2 x7 x9).bind fun r11 =>
  (jck 7 r11.2 a2).bind fun _ =>
  (f_X7_thrown N r11.2 a2).bind fun r15 =>
  if ¬ r15.1 = r5.1 then none else
  if ¬ r5.1 = 0 then some r15.2 else
  (jll 3 r15.2 a3 0).bind fun x21 =>
  if ¬ (lg_cmp x21 (Int32.toInt64 r11.1)) = 0 then none else
  some r15.2
set_option maxRecDepth 100000 in
set_option maxHeartbeats 4000000 in
theorem lk_L_c15 {G : JG} {X : JX} (E : jE G X (RL, cL_law, 7)) (hX : X.2.2.2.1 = room_1) {L : Nat} {xs : Nat → Int32} (hS9 : jScr G X L xs) (N : Nat) {a1 a2 a3 : Nat} {i : Int32} {h h1 : AH} {cc9 ss9 : Nat} (hc9 : cc9 + 4 ≤ 601024 ∧ ss9 + 24 ≤ 7293033) {Q : State → Prop} (hf : f_L_c15 N L xs a1 a2 a3 i h = some h1) (kb : JW G X (RL, cL_law, 7) h1 [(0, .ref 4000000), (1, .ref a1), (2, .ref a2), (3, .ref a3), (4, .int i)] [] 2480 (cc9 + 4) (ss9 + 24) Q) : JW G X (RL, cL_law, 7) h [(0, .ref 4000000), (1, .ref a1), (2, .ref a2), (3, .ref a3), (4, .int i)] [] 1072 cc9 ss9 Q := by
  unfold f_L_c15 at hf
  refine J_aload_n E (jd dk_L_law_11 48 rfl) rfl 1 rfl ?_
  refine J_aload_n E (jd dk_L_law_11 49 rfl) rfl 0 rfl ?_
  refine J_iload E (jd dk_L_law_12 0 rfl) 4 rfl ?_
  refine J_iconst (v := 1) E (jd dk_L_law_12 1 rfl) rfl ?_
  refine J_iadd E (jd dk_L_law_12 2 rfl) ?_
  obtain ⟨x1, e2, hf⟩ := jbind hf
  refine J_sld E hS9 (jd dk_L_law_12 3 rfl) e2 ?_
  refine J_aload_n E (jd dk_L_law_12 4 rfl) rfl 0 rfl ?_
  refine J_iload E (jd dk_L_law_12 5 rfl) 4 rfl ?_
  refine J_iconst (v := 2) E (jd dk_L_law_12 6 rfl) rfl ?_
  refine J_iadd E (jd dk_L_law_12 7 rfl) ?_
  obtain ⟨x3, e4, hf⟩ := jbind hf
  refine J_sld E hS9 (jd dk_L_law_12 8 rfl) e4 ?_
  refine J_aload_n E (jd dk_L_law_12 9 rfl) rfl 3 rfl ?_
  obtain ⟨r5, e6, hf⟩ := jbind hf
  refine J_callSW (st := []) E (jd dk_L_law_12 10 rfl) ml_RL_172 cal_L_beside.1 cal_L_beside.2.1 cal_L_beside.2.2.1 cal_L_beside.2.2.2 (lk_L_beside (jE_g E) (jE_tr E) N e6) rfl (Nat.le_of_ble_eq_true rfl) (jRL hX (by decide) (by decide)) (jFL hX hc9 (by decide) (by decide)) rfl ?_
  rintro _ _ ⟨rfl, rfl⟩
  refine J_stk (st' := [.int r5.1]) rfl ?_
  refine J_istore (lv' := [(5, .int r5.1), (0, .ref 4000000), (1, .ref a1), (2, .ref a2), (3, .ref a3), (4, .int i)]) E (jd dk_L_law_12 11 rfl) (by decide) rfl ?_
  refine J_aload_n E (jd dk_L_law_12 12 rfl) rfl 3 rfl ?_
  refine J_aload_n E (jd dk_L_law_12 13 rfl) rfl 1 rfl ?_
  refine J_iload E (jd dk_L_law_12 14 rfl) 5 rfl ?_
  refine J_iconst (v := 1) E (jd dk_L_law_12 15 rfl) rfl ?_
  refine J_iadd E (jd dk_L_law_12 16 rfl) ?_
  obtain ⟨x7, e8, hf⟩ := jbind hf
  refine J_sld E hS9 (jd dk_L_law_12 17 rfl) e8 ?_
  refine J_aload_n E (jd dk_L_law_12 18 rfl) rfl 1 rfl ?_
  refine J_iload E (jd dk_L_law_12 19 rfl) 5 rfl ?_
  refine J_iconst (v := 2) E (jd dk_L_law_12 20 rfl) rfl ?_
  refine J_iadd E (jd dk_L_law_12 21 rfl) ?_
  obtain ⟨x9, e10, hf⟩ := jbind hf
  refine J_sld E hS9 (jd dk_L_law_12 22 rfl) e10 ?_
  obtain ⟨u13, e14, hf⟩ := jbind hf
  obtain ⟨r11, e12, hf⟩ := jbind hf
  refine J_callV (st := []) E (jd dk_L_law_12 23 rfl) ml_RL_174 cal_X7_beside e14 rfl (lk_X7_beside (jE_g E) (jE_tr E) N e12) rfl (Nat.le_of_ble_eq_true rfl) (jRL hX (by decide) (by decide)) (jFM hX hc9 (by decide) (by decide)) rfl ?_
  rintro _ _ ⟨rfl, rfl⟩
  refine J_stk (st' := [.int r11.1]) rfl ?_
  refine J_istore (lv' := [(6, .int r11.1), (5, .int r5.1), (0, .ref 4000000), (1, .ref a1), (2, .ref a2), (3, .ref a3), (4, .int i)]) E (jd dk_L_law_12 24 rfl) (by decide) rfl ?_
  refine J_aload_n E (jd dk_L_law_12 25 rfl) rfl 4 rfl ?_
  obtain ⟨u17, e18, hf⟩ := jbind hf
  obtain ⟨r15, e16, hf⟩ := jbind hf
  refine J_callV (st := []) E (jd dk_L_law_12 26 rfl) ml_RL_124 cal_X7_thrown e18 rfl (lk_X7_thrown (jE_g E) (jE_tr E) N e16) rfl (Nat.le_of_ble_eq_true rfl) (jRL hX (by decide) (by decide)) (jFM hX hc9 (by decide) (by decide)) rfl ?_
  rintro _ _ ⟨rfl, rfl⟩
  refine J_stk (st' := [.int r15.1]) rfl ?_
  refine J_iload E (jd dk_L_law_12 27 rfl) 1 rfl ?_
  obtain ⟨c19, hf⟩ := jnz hf
  refine J_icmp_eq (tgt := 1120) E (jd dk_L_law_12 28 rfl) (by decide) (fun _ => ?_) (fun z => absurd z c19)
  refine J_iload E (jd dk_L_law_12 31 rfl) 1 rfl ?_
  by_cases c20 : r5.1 = 0
  · rw [if_neg (not_not_intro c20)] at hf
    refine J_if_ne (tgt := 1137) E (jd dk_L_law_12 32 rfl) (by decide) (fun z => absurd c20 z) (fun _ => ?_)
    refine J_aload_n E (jd dk_L_law_12 33 rfl) rfl 5 rfl ?_
    refine J_iconst (v := 0) E (jd dk_L_law_12 34 rfl) rfl ?_
    obtain ⟨x21, e22, hf⟩ := jbind hf
    refine J_lald E (jd dk_L_law_12 35 rfl) e22 ?_
    refine J_iload E (jd dk_L_law_12 36 rfl) 0 rfl ?_
    refine J_i2l E (jd dk_L_law_12 37 rfl) ?_
    refine J_lcmp E (jd dk_L_law_12 38 rfl) ?_
    obtain ⟨c23, hf⟩ := jnz hf
    refine J_if_eq (tgt := 1137) E (jd dk_L_law_12 39 rfl) (by decide) (fun _ => ?_) (fun z => absurd z c23)
    refine J_goto (tgt := 2480) E (jd dk_L_law_12 42 rfl) (by decide) ?_
    refine J_sub [2, 3, 4, 5, 6] rfl ?_
    refine J_widen (cells' := cc9 + 4) (slots' := ss9 + 24) (by omega) (by omega) ?_
    cases hf
    exact kb
  · rw [if_pos c20] at hf
    refine J_if_ne (tgt := 1137) E (jd dk_L_law_12 32 rfl) (by decide) (fun _ => ?_) (fun z => absurd z c20)
    refine J_goto (tgt := 2480) E (jd dk_L_law_12 42 rfl) (by decide) ?_
    refine J_sub [2, 3, 4, 5, 6] rfl ?_
    refine J_widen (cells' := cc9 + 4) (slots' := ss9 + 24) (by omega) (by omega) ?_
    cases hf
    exact kb
def f_L_c16 (N L : Nat) (xs : Nat → Int32) (a1 a2 a3 : Nat) (i : Int32) (h : AH) : Option AH :=
  (jck 6 h a1).bind fun _ =>
  (f_X6_first N h a1).bind fun r1 =>
  (jck 7 r1.2 a2).bind fun _ =>
  (f_X7_first N r1.2 a2).bind fun r5 =>
  if ¬ r1.1 = r5.1 then none else
  some r5.2
set_option maxRecDepth 100000 in
set_option maxHeartbeats 4000000 in
theorem lk_L_c16 {G : JG} {X : JX} (E : jE G X (RL, cL_law, 7)) (hX : X.2.2.2.1 = room_1) {L : Nat} {xs : Nat → Int32} (hS9 : jScr G X L xs) (N : Nat) {a1 a2 a3 : Nat} {i : Int32} {h h1 : AH} {cc9 ss9 : Nat} (hc9 : cc9 + 4 ≤ 601024 ∧ ss9 + 24 ≤ 7293033) {Q : State → Prop} (hf : f_L_c16 N L xs a1 a2 a3 i h = some h1) (kb : JW G X (RL, cL_law, 7) h1 [(0, .ref 4000000), (1, .ref a1), (2, .ref a2), (3, .ref a3), (4, .int i)] [] 2480 (cc9 + 4) (ss9 + 24) Q) : JW G X (RL, cL_law, 7) h [(0, .ref 4000000), (1, .ref a1), (2, .ref a2), (3, .ref a3), (4, .int i)] [] 1140 cc9 ss9 Q := by
  unfold f_L_c16 at hf
  refine J_aload_n E (jd dk_L_law_12 43 rfl) rfl 1 rfl ?_
  obtain ⟨u3, e4, hf⟩ := jbind hf
  obtain ⟨r1, e2, hf⟩ := jbind hf
  refine J_callV (st := []) E (jd dk_L_law_12 44 rfl) ml_RL_175 cal_X6_first e4 rfl (lk_X6_first (jE_g E) (jE_tr E) N e2) rfl (Nat.le_of_ble_eq_true rfl) (jRL hX (by decide) (by decide)) (jFL hX hc9 (by decide) (by decide)) rfl ?_
  rintro _ _ ⟨rfl, rfl⟩
  refine J_stk (st' := [.int r1.1]) rfl ?_
  refine J_aload_n E (jd dk_L_law_12 45 rfl) rfl 2 rfl ?_
  obtain ⟨u7, e8, hf⟩ := jbind hf
  obtain ⟨r5, e6, hf⟩ := jbind hf
  refine J_callV (st := [.int r1.1]) E (jd dk_L_law_12 46 rfl) ml_RL_178 cal_X7_first e8 rfl (lk_X7_first (jE_g E) (jE_tr E) N e6) rfl (Nat.le_of_ble_eq_true rfl) (jRL hX (by decide) (by decide)) (jFL hX hc9 (by decide) (by decide)) rfl ?_
  rintro _ _ ⟨rfl, rfl⟩
  refine J_stk (st' := [.int r5.1, .int r1.1]) rfl ?_
  obtain ⟨c9, hf⟩ := jnz hf
  refine J_icmp_eq (tgt := 2480) E (jd dk_L_law_12 47 rfl) (by decide) (fun _ => ?_) (fun z => absurd z c9)
  refine J_sub [0, 1, 2, 3, 4] rfl ?_
  refine J_widen (cells' := cc9 + 4) (slots' := ss9 + 24) (by omega) (by omega) ?_
  cases hf
  exact kb
def f_L_c17 (N L : Nat) (xs : Nat → Int32) (a1 a2 a3 : Nat) (i : Int32) (h : AH) : Option AH :=
  (jsx L xs (i + 1)).bind fun x1 =>
  (f_L_last N h a1 x1 a3).bind fun r3 =>
  (jsx L xs (i + 1)).bind fun x5 =>
  (jck 7 r3.2 a2).bind fun _ =>
  (f_X7_last N r3.2 a2 x5).bind fun r7 =>
  (jck 7 r7.2 a2).bind fun _ =>
  (f_X7_thrown N r7.2 a2).bind fun r11 =>
  if ¬ r11.1 = r3.1 then none else
  if ¬ r3.1 = 0 then some r11.2 else
  (jll 3 r11.2 a3 0).bind fun x17 =>
  if ¬ (lg_cmp x17 (Int32.toInt64 r7.1)) = 0 then none else
  some r11.2
set_option maxRecDepth 100000 in
set_option maxHeartbeats 4000000 in
theorem lk_L_c17 {G : JG} {X : JX} (E : jE G X (RL, cL_law, 7)) (hX : X.2.2.2.1 = room_1) {L : Nat} {xs : Nat → Int32} (hS9 : jScr G X L xs) (N : Nat) {a1 a2 a3 : Nat} {i : Int32} {h h1 : AH} {cc9 ss9 : Nat} (hc9 : cc9 + 4 ≤ 601024 ∧ ss9 + 24 ≤ 7293033) {Q : State → Prop} (hf : f_L_c17 N L xs a1 a2 a3 i h = some h1) (kb : JW G X (RL, cL_law, 7) h1 [(0, .ref 4000000), (1, .ref a1), (2, .ref a2), (3, .ref a3), (4, .int i)] [] 2480 (cc9 + 4) (ss9 + 24) Q) : JW G X (RL, cL_law, 7) h [(0, .ref 4000000), (1, .ref a1), (2, .ref a2), (3, .ref a3), (4, .int i)] [] 1153 cc9 ss9 Q := by
  unfold f_L_c17 at hf
  refine J_aload_n E (jd dk_L_law_13 0 rfl) rfl 1 rfl ?_
  refine J_aload_n E (jd dk_L_law_13 1 rfl) rfl 0 rfl ?_
  refine J_iload E (jd dk_L_law_13 2 rfl) 4 rfl ?_
  refine J_iconst (v := 1) E (jd dk_L_law_13 3 rfl) rfl ?_
  refine J_iadd E (jd dk_L_law_13 4 rfl) ?_
  obtain ⟨x1, e2, hf⟩ := jbind hf
  refine J_sld E hS9 (jd dk_L_law_13 5 rfl) e2 ?_
  refine J_aload_n E (jd dk_L_law_13 6 rfl) rfl 3 rfl ?_
  obtain ⟨r3, e4, hf⟩ := jbind hf
  refine J_callSW (st := []) E (jd dk_L_law_13 7 rfl) ml_RL_179 cal_L_last.1 cal_L_last.2.1 cal_L_last.2.2.1 cal_L_last.2.2.2 (lk_L_last (jE_g E) (jE_tr E) N e4) rfl (Nat.le_of_ble_eq_true rfl) (jRL hX (by decide) (by decide)) (jFL hX hc9 (by decide) (by decide)) rfl ?_
  rintro _ _ ⟨rfl, rfl⟩
  refine J_stk (st' := [.int r3.1]) rfl ?_
  refine J_istore (lv' := [(5, .int r3.1), (0, .ref 4000000), (1, .ref a1), (2, .ref a2), (3, .ref a3), (4, .int i)]) E (jd dk_L_law_13 8 rfl) (by decide) rfl ?_
  refine J_aload_n E (jd dk_L_law_13 9 rfl) rfl 3 rfl ?_
  refine J_aload_n E (jd dk_L_law_13 10 rfl) rfl 1 rfl ?_
  refine J_iload E (jd dk_L_law_13 11 rfl) 5 rfl ?_
  refine J_iconst (v := 1) E (jd dk_L_law_13 12 rfl) rfl ?_
  refine J_iadd E (jd dk_L_law_13 13 rfl) ?_
  obtain ⟨x5, e6, hf⟩ := jbind hf
  refine J_sld E hS9 (jd dk_L_law_13 14 rfl) e6 ?_
  obtain ⟨u9, e10, hf⟩ := jbind hf
  obtain ⟨r7, e8, hf⟩ := jbind hf
  refine J_callV (st := []) E (jd dk_L_law_13 15 rfl) ml_RL_181 cal_X7_last e10 rfl (lk_X7_last (jE_g E) (jE_tr E) N e8) rfl (Nat.le_of_ble_eq_true rfl) (jRL hX (by decide) (by decide)) (jFM hX hc9 (by decide) (by decide)) rfl ?_
  rintro _ _ ⟨rfl, rfl⟩
  refine J_stk (st' := [.int r7.1]) rfl ?_
  refine J_istore (lv' := [(6, .int r7.1), (5, .int r3.1), (0, .ref 4000000), (1, .ref a1), (2, .ref a2), (3, .ref a3), (4, .int i)]) E (jd dk_L_law_13 16 rfl) (by decide) rfl ?_
  refine J_aload_n E (jd dk_L_law_13 17 rfl) rfl 4 rfl ?_
  obtain ⟨u13, e14, hf⟩ := jbind hf
  obtain ⟨r11, e12, hf⟩ := jbind hf
  refine J_callV (st := []) E (jd dk_L_law_13 18 rfl) ml_RL_124 cal_X7_thrown e14 rfl (lk_X7_thrown (jE_g E) (jE_tr E) N e12) rfl (Nat.le_of_ble_eq_true rfl) (jRL hX (by decide) (by decide)) (jFM hX hc9 (by decide) (by decide)) rfl ?_
  rintro _ _ ⟨rfl, rfl⟩
  refine J_stk (st' := [.int r11.1]) rfl ?_
  refine J_iload E (jd dk_L_law_13 19 rfl) 1 rfl ?_
  obtain ⟨c15, hf⟩ := jnz hf
  refine J_icmp_eq (tgt := 1189) E (jd dk_L_law_13 20 rfl) (by decide) (fun _ => ?_) (fun z => absurd z c15)
  refine J_iload E (jd dk_L_law_13 23 rfl) 1 rfl ?_
  by_cases c16 : r3.1 = 0
  · rw [if_neg (not_not_intro c16)] at hf
    refine J_if_ne (tgt := 1206) E (jd dk_L_law_13 24 rfl) (by decide) (fun z => absurd c16 z) (fun _ => ?_)
    refine J_aload_n E (jd dk_L_law_13 25 rfl) rfl 5 rfl ?_
    refine J_iconst (v := 0) E (jd dk_L_law_13 26 rfl) rfl ?_
    obtain ⟨x17, e18, hf⟩ := jbind hf
    refine J_lald E (jd dk_L_law_13 27 rfl) e18 ?_
    refine J_iload E (jd dk_L_law_13 28 rfl) 0 rfl ?_
    refine J_i2l E (jd dk_L_law_13 29 rfl) ?_
    refine J_lcmp E (jd dk_L_law_13 30 rfl) ?_
    obtain ⟨c19, hf⟩ := jnz hf
    refine J_if_eq (tgt := 1206) E (jd dk_L_law_13 31 rfl) (by decide) (fun _ => ?_) (fun z => absurd z c19)
    refine J_goto (tgt := 2480) E (jd dk_L_law_13 34 rfl) (by decide) ?_
    refine J_sub [2, 3, 4, 5, 6] rfl ?_
    refine J_widen (cells' := cc9 + 4) (slots' := ss9 + 24) (by omega) (by omega) ?_
    cases hf
    exact kb
  · rw [if_pos c16] at hf
    refine J_if_ne (tgt := 1206) E (jd dk_L_law_13 24 rfl) (by decide) (fun _ => ?_) (fun z => absurd z c16)
    refine J_goto (tgt := 2480) E (jd dk_L_law_13 34 rfl) (by decide) ?_
    refine J_sub [2, 3, 4, 5, 6] rfl ?_
    refine J_widen (cells' := cc9 + 4) (slots' := ss9 + 24) (by omega) (by omega) ?_
    cases hf
    exact kb
def f_L_c18 (N L : Nat) (xs : Nat → Int32) (a1 a2 a3 : Nat) (i : Int32) (h : AH) : Option AH :=
  (jsx L xs (i + 1)).bind fun x1 =>
  (jsx L xs (i + 2)).bind fun x3 =>
  (jsx L xs (i + 3)).bind fun x5 =>
  (f_L_still N h a1 x1 x3 x5 a3).bind fun r7 =>
  (jsx L xs (i + 1)).bind fun x9 =>
  (jsx L xs (i + 2)).bind fun x11 =>
  (jsx L xs (i + 3)).bind fun x13 =>
  (jck 7 r7.2 a2).bind fun _ =>
  (f_X7_still N r7.2 a2 x9 x11 x13).bind fun r15 =>
  (jck 7 r15.2 a2).bind fun _ =>
  (f_X7_thrown N r15.2 a2).bind fun r19 =>
  if ¬ r19.1 = r7.1 then none else
  if ¬ r7.1 = 0 then some r19.2 else
  (jll 3 r19.2 a3 0).bind fun x25 =>
  if ¬ (lg_cmp x25 (Int32.toInt64 r15.1)) = 0 then none else
  some r19.2
set_option maxRecDepth 100000 in
set_option maxHeartbeats 4000000 in
theorem lk_L_c18 {G : JG} {X : JX} (E : jE G X (RL, cL_law, 7)) (hX : X.2.2.2.1 = room_1) {L : Nat} {xs : Nat → Int32} (hS9 : jScr G X L xs) (N : Nat) {a1 a2 a3 : Nat} {i : Int32} {h h1 : AH} {cc9 ss9 : Nat} (hc9 : cc9 + 4 ≤ 601024 ∧ ss9 + 24 ≤ 7293033) {Q : State → Prop} (hf : f_L_c18 N L xs a1 a2 a3 i h = some h1) (kb : JW G X (RL, cL_law, 7) h1 [(0, .ref 4000000), (1, .ref a1), (2, .ref a2), (3, .ref a3), (4, .int i)] [] 2480 (cc9 + 4) (ss9 + 24) Q) : JW G X (RL, cL_law, 7) h [(0, .ref 4000000), (1, .ref a1), (2, .ref a2), (3, .ref a3), (4, .int i)] [] 1209 cc9 ss9 Q := by
  unfold f_L_c18 at hf
  refine J_aload_n E (jd dk_L_law_13 35 rfl) rfl 1 rfl ?_
  refine J_aload_n E (jd dk_L_law_13 36 rfl) rfl 0 rfl ?_
  refine J_iload E (jd dk_L_law_13 37 rfl) 4 rfl ?_
  refine J_iconst (v := 1) E (jd dk_L_law_13 38 rfl) rfl ?_
  refine J_iadd E (jd dk_L_law_13 39 rfl) ?_
  obtain ⟨x1, e2, hf⟩ := jbind hf
  refine J_sld E hS9 (jd dk_L_law_13 40 rfl) e2 ?_
  refine J_aload_n E (jd dk_L_law_13 41 rfl) rfl 0 rfl ?_
  refine J_iload E (jd dk_L_law_13 42 rfl) 4 rfl ?_
  refine J_iconst (v := 2) E (jd dk_L_law_13 43 rfl) rfl ?_
  refine J_iadd E (jd dk_L_law_13 44 rfl) ?_
  obtain ⟨x3, e4, hf⟩ := jbind hf
  refine J_sld E hS9 (jd dk_L_law_13 45 rfl) e4 ?_
  refine J_aload_n E (jd dk_L_law_13 46 rfl) rfl 0 rfl ?_
  refine J_iload E (jd dk_L_law_13 47 rfl) 4 rfl ?_
  refine J_iconst (v := 3) E (jd dk_L_law_13 48 rfl) rfl ?_
  refine J_iadd E (jd dk_L_law_13 49 rfl) ?_
  obtain ⟨x5, e6, hf⟩ := jbind hf
  refine J_sld E hS9 (jd dk_L_law_14 0 rfl) e6 ?_
  refine J_aload_n E (jd dk_L_law_14 1 rfl) rfl 3 rfl ?_
  obtain ⟨r7, e8, hf⟩ := jbind hf
  refine J_callSW (st := []) E (jd dk_L_law_14 2 rfl) ml_RL_182 cal_L_still.1 cal_L_still.2.1 cal_L_still.2.2.1 cal_L_still.2.2.2 (lk_L_still (jE_g E) (jE_tr E) N e8) rfl (Nat.le_of_ble_eq_true rfl) (jRL hX (by decide) (by decide)) (jFL hX hc9 (by decide) (by decide)) rfl ?_
  rintro _ _ ⟨rfl, rfl⟩
  refine J_stk (st' := [.int r7.1]) rfl ?_
  refine J_istore (lv' := [(5, .int r7.1), (0, .ref 4000000), (1, .ref a1), (2, .ref a2), (3, .ref a3), (4, .int i)]) E (jd dk_L_law_14 3 rfl) (by decide) rfl ?_
  refine J_aload_n E (jd dk_L_law_14 4 rfl) rfl 3 rfl ?_
  refine J_aload_n E (jd dk_L_law_14 5 rfl) rfl 1 rfl ?_
  refine J_iload E (jd dk_L_law_14 6 rfl) 5 rfl ?_
  refine J_iconst (v := 1) E (jd dk_L_law_14 7 rfl) rfl ?_
  refine J_iadd E (jd dk_L_law_14 8 rfl) ?_
  obtain ⟨x9, e10, hf⟩ := jbind hf
  refine J_sld E hS9 (jd dk_L_law_14 9 rfl) e10 ?_
  refine J_aload_n E (jd dk_L_law_14 10 rfl) rfl 1 rfl ?_
  refine J_iload E (jd dk_L_law_14 11 rfl) 5 rfl ?_
  refine J_iconst (v := 2) E (jd dk_L_law_14 12 rfl) rfl ?_
  refine J_iadd E (jd dk_L_law_14 13 rfl) ?_
  obtain ⟨x11, e12, hf⟩ := jbind hf
  refine J_sld E hS9 (jd dk_L_law_14 14 rfl) e12 ?_
  refine J_aload_n E (jd dk_L_law_14 15 rfl) rfl 1 rfl ?_
  refine J_iload E (jd dk_L_law_14 16 rfl) 5 rfl ?_
  refine J_iconst (v := 3) E (jd dk_L_law_14 17 rfl) rfl ?_
  refine J_iadd E (jd dk_L_law_14 18 rfl) ?_
  obtain ⟨x13, e14, hf⟩ := jbind hf
  refine J_sld E hS9 (jd dk_L_law_14 19 rfl) e14 ?_
  obtain ⟨u17, e18, hf⟩ := jbind hf
  obtain ⟨r15, e16, hf⟩ := jbind hf
  refine J_callV (st := []) E (jd dk_L_law_14 20 rfl) ml_RL_184 cal_X7_still e18 rfl (lk_X7_still (jE_g E) (jE_tr E) N e16) rfl (Nat.le_of_ble_eq_true rfl) (jRL hX (by decide) (by decide)) (jFM hX hc9 (by decide) (by decide)) rfl ?_
  rintro _ _ ⟨rfl, rfl⟩
  refine J_stk (st' := [.int r15.1]) rfl ?_
  refine J_istore (lv' := [(6, .int r15.1), (5, .int r7.1), (0, .ref 4000000), (1, .ref a1), (2, .ref a2), (3, .ref a3), (4, .int i)]) E (jd dk_L_law_14 21 rfl) (by decide) rfl ?_
  refine J_aload_n E (jd dk_L_law_14 22 rfl) rfl 4 rfl ?_
  obtain ⟨u21, e22, hf⟩ := jbind hf
  obtain ⟨r19, e20, hf⟩ := jbind hf
  refine J_callV (st := []) E (jd dk_L_law_14 23 rfl) ml_RL_124 cal_X7_thrown e22 rfl (lk_X7_thrown (jE_g E) (jE_tr E) N e20) rfl (Nat.le_of_ble_eq_true rfl) (jRL hX (by decide) (by decide)) (jFM hX hc9 (by decide) (by decide)) rfl ?_
  rintro _ _ ⟨rfl, rfl⟩
  refine J_stk (st' := [.int r19.1]) rfl ?_
  refine J_iload E (jd dk_L_law_14 24 rfl) 1 rfl ?_
  obtain ⟨c23, hf⟩ := jnz hf
  refine J_icmp_eq (tgt := 1269) E (jd dk_L_law_14 25 rfl) (by decide) (fun _ => ?_) (fun z => absurd z c23)
  refine J_iload E (jd dk_L_law_14 28 rfl) 1 rfl ?_
  by_cases c24 : r7.1 = 0
  · rw [if_neg (not_not_intro c24)] at hf
    refine J_if_ne (tgt := 1286) E (jd dk_L_law_14 29 rfl) (by decide) (fun z => absurd c24 z) (fun _ => ?_)
    refine J_aload_n E (jd dk_L_law_14 30 rfl) rfl 5 rfl ?_
    refine J_iconst (v := 0) E (jd dk_L_law_14 31 rfl) rfl ?_
    obtain ⟨x25, e26, hf⟩ := jbind hf
    refine J_lald E (jd dk_L_law_14 32 rfl) e26 ?_
    refine J_iload E (jd dk_L_law_14 33 rfl) 0 rfl ?_
    refine J_i2l E (jd dk_L_law_14 34 rfl) ?_
    refine J_lcmp E (jd dk_L_law_14 35 rfl) ?_
    obtain ⟨c27, hf⟩ := jnz hf
    refine J_if_eq (tgt := 1286) E (jd dk_L_law_14 36 rfl) (by decide) (fun _ => ?_) (fun z => absurd z c27)
    refine J_goto (tgt := 2480) E (jd dk_L_law_14 39 rfl) (by decide) ?_
    refine J_sub [2, 3, 4, 5, 6] rfl ?_
    refine J_widen (cells' := cc9 + 4) (slots' := ss9 + 24) (by omega) (by omega) ?_
    cases hf
    exact kb
  · rw [if_pos c24] at hf
    refine J_if_ne (tgt := 1286) E (jd dk_L_law_14 29 rfl) (by decide) (fun _ => ?_) (fun z => absurd z c24)
    refine J_goto (tgt := 2480) E (jd dk_L_law_14 39 rfl) (by decide) ?_
    refine J_sub [2, 3, 4, 5, 6] rfl ?_
    refine J_widen (cells' := cc9 + 4) (slots' := ss9 + 24) (by omega) (by omega) ?_
    cases hf
    exact kb
def f_L_c19 (N L : Nat) (xs : Nat → Int32) (a1 a2 a3 : Nat) (i : Int32) (h : AH) : Option AH :=
  (jsx L xs (i + 1)).bind fun x1 =>
  (jsx L xs (i + 2)).bind fun x3 =>
  (f_L_turned N h a1 x1 x3 a3).bind fun r5 =>
  (jsx L xs (i + 1)).bind fun x7 =>
  (jsx L xs (i + 2)).bind fun x9 =>
  (jck 7 r5.2 a2).bind fun _ =>
  (f_X7_turned N r5.2 a2 x7 x9).bind fun r11 =>
  (jck 7 r11.2 a2).bind fun _ =>
  (f_X7_thrown N r11.2 a2).bind fun r15 =>
  if ¬ r15.1 = r5.1 then none else
  if ¬ r5.1 = 0 then some r15.2 else
  (jll 3 r15.2 a3 0).bind fun x21 =>
  if ¬ (lg_cmp x21 (Int32.toInt64 r11.1)) = 0 then none else
  some r15.2
set_option maxRecDepth 100000 in
set_option maxHeartbeats 4000000 in
theorem lk_L_c19 {G : JG} {X : JX} (E : jE G X (RL, cL_law, 7)) (hX : X.2.2.2.1 = room_1) {L : Nat} {xs : Nat → Int32} (hS9 : jScr G X L xs) (N : Nat) {a1 a2 a3 : Nat} {i : Int32} {h h1 : AH} {cc9 ss9 : Nat} (hc9 : cc9 + 4 ≤ 601024 ∧ ss9 + 24 ≤ 7293033) {Q : State → Prop} (hf : f_L_c19 N L xs a1 a2 a3 i h = some h1) (kb : JW G X (RL, cL_law, 7) h1 [(0, .ref 4000000), (1, .ref a1), (2, .ref a2), (3, .ref a3), (4, .int i)] [] 2480 (cc9 + 4) (ss9 + 24) Q) : JW G X (RL, cL_law, 7) h [(0, .ref 4000000), (1, .ref a1), (2, .ref a2), (3, .ref a3), (4, .int i)] [] 1289 cc9 ss9 Q := by
  unfold f_L_c19 at hf
  refine J_aload_n E (jd dk_L_law_14 40 rfl) rfl 1 rfl ?_
  refine J_aload_n E (jd dk_L_law_14 41 rfl) rfl 0 rfl ?_
  refine J_iload E (jd dk_L_law_14 42 rfl) 4 rfl ?_
  refine J_iconst (v := 1) E (jd dk_L_law_14 43 rfl) rfl ?_
  refine J_iadd E (jd dk_L_law_14 44 rfl) ?_
  obtain ⟨x1, e2, hf⟩ := jbind hf
  refine J_sld E hS9 (jd dk_L_law_14 45 rfl) e2 ?_
  refine J_aload_n E (jd dk_L_law_14 46 rfl) rfl 0 rfl ?_
  refine J_iload E (jd dk_L_law_14 47 rfl) 4 rfl ?_
  refine J_iconst (v := 2) E (jd dk_L_law_14 48 rfl) rfl ?_
  refine J_iadd E (jd dk_L_law_14 49 rfl) ?_
  obtain ⟨x3, e4, hf⟩ := jbind hf
  refine J_sld E hS9 (jd dk_L_law_15 0 rfl) e4 ?_
  refine J_aload_n E (jd dk_L_law_15 1 rfl) rfl 3 rfl ?_
  obtain ⟨r5, e6, hf⟩ := jbind hf
  refine J_callSW (st := []) E (jd dk_L_law_15 2 rfl) ml_RL_185 cal_L_turned.1 cal_L_turned.2.1 cal_L_turned.2.2.1 cal_L_turned.2.2.2 (lk_L_turned (jE_g E) (jE_tr E) N e6) rfl (Nat.le_of_ble_eq_true rfl) (jRL hX (by decide) (by decide)) (jFL hX hc9 (by decide) (by decide)) rfl ?_
  rintro _ _ ⟨rfl, rfl⟩
  refine J_stk (st' := [.int r5.1]) rfl ?_
  refine J_istore (lv' := [(5, .int r5.1), (0, .ref 4000000), (1, .ref a1), (2, .ref a2), (3, .ref a3), (4, .int i)]) E (jd dk_L_law_15 3 rfl) (by decide) rfl ?_
  refine J_aload_n E (jd dk_L_law_15 4 rfl) rfl 3 rfl ?_
  refine J_aload_n E (jd dk_L_law_15 5 rfl) rfl 1 rfl ?_
  refine J_iload E (jd dk_L_law_15 6 rfl) 5 rfl ?_
  refine J_iconst (v := 1) E (jd dk_L_law_15 7 rfl) rfl ?_
  refine J_iadd E (jd dk_L_law_15 8 rfl) ?_
  obtain ⟨x7, e8, hf⟩ := jbind hf
  refine J_sld E hS9 (jd dk_L_law_15 9 rfl) e8 ?_
  refine J_aload_n E (jd dk_L_law_15 10 rfl) rfl 1 rfl ?_
  refine J_iload E (jd dk_L_law_15 11 rfl) 5 rfl ?_
  refine J_iconst (v := 2) E (jd dk_L_law_15 12 rfl) rfl ?_
  refine J_iadd E (jd dk_L_law_15 13 rfl) ?_
  obtain ⟨x9, e10, hf⟩ := jbind hf
  refine J_sld E hS9 (jd dk_L_law_15 14 rfl) e10 ?_
  obtain ⟨u13, e14, hf⟩ := jbind hf
  obtain ⟨r11, e12, hf⟩ := jbind hf
  refine J_callV (st := []) E (jd dk_L_law_15 15 rfl) ml_RL_187 cal_X7_turned e14 rfl (lk_X7_turned (jE_g E) (jE_tr E) N e12) rfl (Nat.le_of_ble_eq_true rfl) (jRL hX (by decide) (by decide)) (jFM hX hc9 (by decide) (by decide)) rfl ?_
  rintro _ _ ⟨rfl, rfl⟩
  refine J_stk (st' := [.int r11.1]) rfl ?_
  refine J_istore (lv' := [(6, .int r11.1), (5, .int r5.1), (0, .ref 4000000), (1, .ref a1), (2, .ref a2), (3, .ref a3), (4, .int i)]) E (jd dk_L_law_15 16 rfl) (by decide) rfl ?_
  refine J_aload_n E (jd dk_L_law_15 17 rfl) rfl 4 rfl ?_
  obtain ⟨u17, e18, hf⟩ := jbind hf
  obtain ⟨r15, e16, hf⟩ := jbind hf
  refine J_callV (st := []) E (jd dk_L_law_15 18 rfl) ml_RL_124 cal_X7_thrown e18 rfl (lk_X7_thrown (jE_g E) (jE_tr E) N e16) rfl (Nat.le_of_ble_eq_true rfl) (jRL hX (by decide) (by decide)) (jFM hX hc9 (by decide) (by decide)) rfl ?_
  rintro _ _ ⟨rfl, rfl⟩
  refine J_stk (st' := [.int r15.1]) rfl ?_
  refine J_iload E (jd dk_L_law_15 19 rfl) 1 rfl ?_
  obtain ⟨c19, hf⟩ := jnz hf
  refine J_icmp_eq (tgt := 1337) E (jd dk_L_law_15 20 rfl) (by decide) (fun _ => ?_) (fun z => absurd z c19)
  refine J_iload E (jd dk_L_law_15 23 rfl) 1 rfl ?_
  by_cases c20 : r5.1 = 0
  · rw [if_neg (not_not_intro c20)] at hf
    refine J_if_ne (tgt := 1354) E (jd dk_L_law_15 24 rfl) (by decide) (fun z => absurd c20 z) (fun _ => ?_)
    refine J_aload_n E (jd dk_L_law_15 25 rfl) rfl 5 rfl ?_
    refine J_iconst (v := 0) E (jd dk_L_law_15 26 rfl) rfl ?_
    obtain ⟨x21, e22, hf⟩ := jbind hf
    refine J_lald E (jd dk_L_law_15 27 rfl) e22 ?_
    refine J_iload E (jd dk_L_law_15 28 rfl) 0 rfl ?_
    refine J_i2l E (jd dk_L_law_15 29 rfl) ?_
    refine J_lcmp E (jd dk_L_law_15 30 rfl) ?_
    obtain ⟨c23, hf⟩ := jnz hf
    refine J_if_eq (tgt := 1354) E (jd dk_L_law_15 31 rfl) (by decide) (fun _ => ?_) (fun z => absurd z c23)
    refine J_goto (tgt := 2480) E (jd dk_L_law_15 34 rfl) (by decide) ?_
    refine J_sub [2, 3, 4, 5, 6] rfl ?_
    refine J_widen (cells' := cc9 + 4) (slots' := ss9 + 24) (by omega) (by omega) ?_
    cases hf
    exact kb
  · rw [if_pos c20] at hf
    refine J_if_ne (tgt := 1354) E (jd dk_L_law_15 24 rfl) (by decide) (fun _ => ?_) (fun z => absurd z c20)
    refine J_goto (tgt := 2480) E (jd dk_L_law_15 34 rfl) (by decide) ?_
    refine J_sub [2, 3, 4, 5, 6] rfl ?_
    refine J_widen (cells' := cc9 + 4) (slots' := ss9 + 24) (by omega) (by omega) ?_
    cases hf
    exact kb
def f_L_c20 (N L : Nat) (xs : Nat → Int32) (a1 a2 a3 : Nat) (i : Int32) (h : AH) : Option AH :=
  (jsx L xs (i + 1)).bind fun x1 =>
  (f_L_stay N h a1 x1 a3).bind fun r3 =>
  (jsx L xs (i + 1)).bind fun x5 =>
  (jck 7 r3.2 a2).bind fun _ =>
  (f_X7_stay N r3.2 a2 x5).bind fun r7 =>
  (jck 7 r7.2 a2).bind fun _ =>
  (f_X7_thrown N r7.2 a2).bind fun r11 =>
  if ¬ r11.1 = r3.1 then none else
  if ¬ r3.1 = 0 then some r11.2 else
  (jll 3 r11.2 a3 0).bind fun x17 =>
  if ¬ (lg_cmp x17 (Int32.toInt64 r7.1)) = 0 then none else
  some r11.2
set_option maxRecDepth 100000 in
set_option maxHeartbeats 4000000 in
theorem lk_L_c20 {G : JG} {X : JX} (E : jE G X (RL, cL_law, 7)) (hX : X.2.2.2.1 = room_1) {L : Nat} {xs : Nat → Int32} (hS9 : jScr G X L xs) (N : Nat) {a1 a2 a3 : Nat} {i : Int32} {h h1 : AH} {cc9 ss9 : Nat} (hc9 : cc9 + 4 ≤ 601024 ∧ ss9 + 24 ≤ 7293033) {Q : State → Prop} (hf : f_L_c20 N L xs a1 a2 a3 i h = some h1) (kb : JW G X (RL, cL_law, 7) h1 [(0, .ref 4000000), (1, .ref a1), (2, .ref a2), (3, .ref a3), (4, .int i)] [] 2480 (cc9 + 4) (ss9 + 24) Q) : JW G X (RL, cL_law, 7) h [(0, .ref 4000000), (1, .ref a1), (2, .ref a2), (3, .ref a3), (4, .int i)] [] 1357 cc9 ss9 Q := by
  unfold f_L_c20 at hf
  refine J_aload_n E (jd dk_L_law_15 35 rfl) rfl 1 rfl ?_
  refine J_aload_n E (jd dk_L_law_15 36 rfl) rfl 0 rfl ?_
  refine J_iload E (jd dk_L_law_15 37 rfl) 4 rfl ?_
  refine J_iconst (v := 1) E (jd dk_L_law_15 38 rfl) rfl ?_
  refine J_iadd E (jd dk_L_law_15 39 rfl) ?_
  obtain ⟨x1, e2, hf⟩ := jbind hf
  refine J_sld E hS9 (jd dk_L_law_15 40 rfl) e2 ?_
  refine J_aload_n E (jd dk_L_law_15 41 rfl) rfl 3 rfl ?_
  obtain ⟨r3, e4, hf⟩ := jbind hf
  refine J_callSW (st := []) E (jd dk_L_law_15 42 rfl) ml_RL_188 cal_L_stay.1 cal_L_stay.2.1 cal_L_stay.2.2.1 cal_L_stay.2.2.2 (lk_L_stay (jE_g E) (jE_tr E) N e4) rfl (Nat.le_of_ble_eq_true rfl) (jRL hX (by decide) (by decide)) (jFL hX hc9 (by decide) (by decide)) rfl ?_
  rintro _ _ ⟨rfl, rfl⟩
  refine J_stk (st' := [.int r3.1]) rfl ?_
  refine J_istore (lv' := [(5, .int r3.1), (0, .ref 4000000), (1, .ref a1), (2, .ref a2), (3, .ref a3), (4, .int i)]) E (jd dk_L_law_15 43 rfl) (by decide) rfl ?_
  refine J_aload_n E (jd dk_L_law_15 44 rfl) rfl 3 rfl ?_
  refine J_aload_n E (jd dk_L_law_15 45 rfl) rfl 1 rfl ?_
  refine J_iload E (jd dk_L_law_15 46 rfl) 5 rfl ?_
  refine J_iconst (v := 1) E (jd dk_L_law_15 47 rfl) rfl ?_
  refine J_iadd E (jd dk_L_law_15 48 rfl) ?_
  obtain ⟨x5, e6, hf⟩ := jbind hf
  refine J_sld E hS9 (jd dk_L_law_15 49 rfl) e6 ?_
  obtain ⟨u9, e10, hf⟩ := jbind hf
  obtain ⟨r7, e8, hf⟩ := jbind hf
  refine J_callV (st := []) E (jd dk_L_law_16 0 rfl) ml_RL_190 cal_X7_stay e10 rfl (lk_X7_stay (jE_g E) (jE_tr E) N e8) rfl (Nat.le_of_ble_eq_true rfl) (jRL hX (by decide) (by decide)) (jFM hX hc9 (by decide) (by decide)) rfl ?_
  rintro _ _ ⟨rfl, rfl⟩
  refine J_stk (st' := [.int r7.1]) rfl ?_
  refine J_istore (lv' := [(6, .int r7.1), (5, .int r3.1), (0, .ref 4000000), (1, .ref a1), (2, .ref a2), (3, .ref a3), (4, .int i)]) E (jd dk_L_law_16 1 rfl) (by decide) rfl ?_
  refine J_aload_n E (jd dk_L_law_16 2 rfl) rfl 4 rfl ?_
  obtain ⟨u13, e14, hf⟩ := jbind hf
  obtain ⟨r11, e12, hf⟩ := jbind hf
  refine J_callV (st := []) E (jd dk_L_law_16 3 rfl) ml_RL_124 cal_X7_thrown e14 rfl (lk_X7_thrown (jE_g E) (jE_tr E) N e12) rfl (Nat.le_of_ble_eq_true rfl) (jRL hX (by decide) (by decide)) (jFM hX hc9 (by decide) (by decide)) rfl ?_
  rintro _ _ ⟨rfl, rfl⟩
  refine J_stk (st' := [.int r11.1]) rfl ?_
  refine J_iload E (jd dk_L_law_16 4 rfl) 1 rfl ?_
  obtain ⟨c15, hf⟩ := jnz hf
  refine J_icmp_eq (tgt := 1393) E (jd dk_L_law_16 5 rfl) (by decide) (fun _ => ?_) (fun z => absurd z c15)
  refine J_iload E (jd dk_L_law_16 8 rfl) 1 rfl ?_
  by_cases c16 : r3.1 = 0
  · rw [if_neg (not_not_intro c16)] at hf
    refine J_if_ne (tgt := 1410) E (jd dk_L_law_16 9 rfl) (by decide) (fun z => absurd c16 z) (fun _ => ?_)
    refine J_aload_n E (jd dk_L_law_16 10 rfl) rfl 5 rfl ?_
    refine J_iconst (v := 0) E (jd dk_L_law_16 11 rfl) rfl ?_
    obtain ⟨x17, e18, hf⟩ := jbind hf
    refine J_lald E (jd dk_L_law_16 12 rfl) e18 ?_
    refine J_iload E (jd dk_L_law_16 13 rfl) 0 rfl ?_
    refine J_i2l E (jd dk_L_law_16 14 rfl) ?_
    refine J_lcmp E (jd dk_L_law_16 15 rfl) ?_
    obtain ⟨c19, hf⟩ := jnz hf
    refine J_if_eq (tgt := 1410) E (jd dk_L_law_16 16 rfl) (by decide) (fun _ => ?_) (fun z => absurd z c19)
    refine J_goto (tgt := 2480) E (jd dk_L_law_16 19 rfl) (by decide) ?_
    refine J_sub [2, 3, 4, 5, 6] rfl ?_
    refine J_widen (cells' := cc9 + 4) (slots' := ss9 + 24) (by omega) (by omega) ?_
    cases hf
    exact kb
  · rw [if_pos c16] at hf
    refine J_if_ne (tgt := 1410) E (jd dk_L_law_16 9 rfl) (by decide) (fun _ => ?_) (fun z => absurd z c16)
    refine J_goto (tgt := 2480) E (jd dk_L_law_16 19 rfl) (by decide) ?_
    refine J_sub [2, 3, 4, 5, 6] rfl ?_
    refine J_widen (cells' := cc9 + 4) (slots' := ss9 + 24) (by omega) (by omega) ?_
    cases hf
    exact kb
def f_L_c21 (N L : Nat) (xs : Nat → Int32) (a1 a2 a3 : Nat) (i : Int32) (h : AH) : Option AH :=
  (jsx L xs (i + 1)).bind fun x1 =>
  (jsx L xs (i + 2)).bind fun x3 =>
  (f_L_toSet N h a1 x1 x3 a3).bind fun r5 =>
  (jsx L xs (i + 1)).bind fun x7 =>
  (jsx L xs (i + 2)).bind fun x9 =>
  (jck 7 r5.2 a2).bind fun _ =>
  (f_X7_toSet N r5.2 a2 x7 x9).bind fun r11 =>
  (jck 7 r11.2 a2).bind fun _ =>
  (f_X7_thrown N r11.2 a2).bind fun r15 =>
  if ¬ r15.1 = r5.1 then none else
  if ¬ r5.1 = 0 then some r15.2 else
  (jll 3 r15.2 a3 0).bind fun x21 =>
  if ¬ (lg_cmp x21 (Int32.toInt64 r11.1)) = 0 then none else
  some r15.2
set_option maxRecDepth 100000 in
set_option maxHeartbeats 4000000 in
theorem lk_L_c21 {G : JG} {X : JX} (E : jE G X (RL, cL_law, 7)) (hX : X.2.2.2.1 = room_1) {L : Nat} {xs : Nat → Int32} (hS9 : jScr G X L xs) (N : Nat) {a1 a2 a3 : Nat} {i : Int32} {h h1 : AH} {cc9 ss9 : Nat} (hc9 : cc9 + 4 ≤ 601024 ∧ ss9 + 24 ≤ 7293033) {Q : State → Prop} (hf : f_L_c21 N L xs a1 a2 a3 i h = some h1) (kb : JW G X (RL, cL_law, 7) h1 [(0, .ref 4000000), (1, .ref a1), (2, .ref a2), (3, .ref a3), (4, .int i)] [] 2480 (cc9 + 4) (ss9 + 24) Q) : JW G X (RL, cL_law, 7) h [(0, .ref 4000000), (1, .ref a1), (2, .ref a2), (3, .ref a3), (4, .int i)] [] 1413 cc9 ss9 Q := by
  unfold f_L_c21 at hf
  refine J_aload_n E (jd dk_L_law_16 20 rfl) rfl 1 rfl ?_
  refine J_aload_n E (jd dk_L_law_16 21 rfl) rfl 0 rfl ?_
  refine J_iload E (jd dk_L_law_16 22 rfl) 4 rfl ?_
  refine J_iconst (v := 1) E (jd dk_L_law_16 23 rfl) rfl ?_
  refine J_iadd E (jd dk_L_law_16 24 rfl) ?_
  obtain ⟨x1, e2, hf⟩ := jbind hf
  refine J_sld E hS9 (jd dk_L_law_16 25 rfl) e2 ?_
  refine J_aload_n E (jd dk_L_law_16 26 rfl) rfl 0 rfl ?_
  refine J_iload E (jd dk_L_law_16 27 rfl) 4 rfl ?_
  refine J_iconst (v := 2) E (jd dk_L_law_16 28 rfl) rfl ?_
  refine J_iadd E (jd dk_L_law_16 29 rfl) ?_
  obtain ⟨x3, e4, hf⟩ := jbind hf
  refine J_sld E hS9 (jd dk_L_law_16 30 rfl) e4 ?_
  refine J_aload_n E (jd dk_L_law_16 31 rfl) rfl 3 rfl ?_
  obtain ⟨r5, e6, hf⟩ := jbind hf
  refine J_callSW (st := []) E (jd dk_L_law_16 32 rfl) ml_RL_191 cal_L_toSet.1 cal_L_toSet.2.1 cal_L_toSet.2.2.1 cal_L_toSet.2.2.2 (lk_L_toSet (jE_g E) (jE_tr E) N e6) rfl (Nat.le_of_ble_eq_true rfl) (jRL hX (by decide) (by decide)) (jFL hX hc9 (by decide) (by decide)) rfl ?_
  rintro _ _ ⟨rfl, rfl⟩
  refine J_stk (st' := [.int r5.1]) rfl ?_
  refine J_istore (lv' := [(5, .int r5.1), (0, .ref 4000000), (1, .ref a1), (2, .ref a2), (3, .ref a3), (4, .int i)]) E (jd dk_L_law_16 33 rfl) (by decide) rfl ?_
  refine J_aload_n E (jd dk_L_law_16 34 rfl) rfl 3 rfl ?_
  refine J_aload_n E (jd dk_L_law_16 35 rfl) rfl 1 rfl ?_
  refine J_iload E (jd dk_L_law_16 36 rfl) 5 rfl ?_
  refine J_iconst (v := 1) E (jd dk_L_law_16 37 rfl) rfl ?_
  refine J_iadd E (jd dk_L_law_16 38 rfl) ?_
  obtain ⟨x7, e8, hf⟩ := jbind hf
  refine J_sld E hS9 (jd dk_L_law_16 39 rfl) e8 ?_
  refine J_aload_n E (jd dk_L_law_16 40 rfl) rfl 1 rfl ?_
  refine J_iload E (jd dk_L_law_16 41 rfl) 5 rfl ?_
  refine J_iconst (v := 2) E (jd dk_L_law_16 42 rfl) rfl ?_
  refine J_iadd E (jd dk_L_law_16 43 rfl) ?_
  obtain ⟨x9, e10, hf⟩ := jbind hf
  refine J_sld E hS9 (jd dk_L_law_16 44 rfl) e10 ?_
  obtain ⟨u13, e14, hf⟩ := jbind hf
  obtain ⟨r11, e12, hf⟩ := jbind hf
  refine J_callV (st := []) E (jd dk_L_law_16 45 rfl) ml_RL_193 cal_X7_toSet e14 rfl (lk_X7_toSet (jE_g E) (jE_tr E) N e12) rfl (Nat.le_of_ble_eq_true rfl) (jRL hX (by decide) (by decide)) (jFM hX hc9 (by decide) (by decide)) rfl ?_
  rintro _ _ ⟨rfl, rfl⟩
  refine J_stk (st' := [.int r11.1]) rfl ?_
  refine J_istore (lv' := [(6, .int r11.1), (5, .int r5.1), (0, .ref 4000000), (1, .ref a1), (2, .ref a2), (3, .ref a3), (4, .int i)]) E (jd dk_L_law_16 46 rfl) (by decide) rfl ?_
  refine J_aload_n E (jd dk_L_law_16 47 rfl) rfl 4 rfl ?_
  obtain ⟨u17, e18, hf⟩ := jbind hf
  obtain ⟨r15, e16, hf⟩ := jbind hf
  refine J_callV (st := []) E (jd dk_L_law_16 48 rfl) ml_RL_124 cal_X7_thrown e18 rfl (lk_X7_thrown (jE_g E) (jE_tr E) N e16) rfl (Nat.le_of_ble_eq_true rfl) (jRL hX (by decide) (by decide)) (jFM hX hc9 (by decide) (by decide)) rfl ?_
  rintro _ _ ⟨rfl, rfl⟩
  refine J_stk (st' := [.int r15.1]) rfl ?_
  refine J_iload E (jd dk_L_law_16 49 rfl) 1 rfl ?_
  obtain ⟨c19, hf⟩ := jnz hf
  refine J_icmp_eq (tgt := 1461) E (jd dk_L_law_17 0 rfl) (by decide) (fun _ => ?_) (fun z => absurd z c19)
  refine J_iload E (jd dk_L_law_17 3 rfl) 1 rfl ?_
  by_cases c20 : r5.1 = 0
  · rw [if_neg (not_not_intro c20)] at hf
    refine J_if_ne (tgt := 1478) E (jd dk_L_law_17 4 rfl) (by decide) (fun z => absurd c20 z) (fun _ => ?_)
    refine J_aload_n E (jd dk_L_law_17 5 rfl) rfl 5 rfl ?_
    refine J_iconst (v := 0) E (jd dk_L_law_17 6 rfl) rfl ?_
    obtain ⟨x21, e22, hf⟩ := jbind hf
    refine J_lald E (jd dk_L_law_17 7 rfl) e22 ?_
    refine J_iload E (jd dk_L_law_17 8 rfl) 0 rfl ?_
    refine J_i2l E (jd dk_L_law_17 9 rfl) ?_
    refine J_lcmp E (jd dk_L_law_17 10 rfl) ?_
    obtain ⟨c23, hf⟩ := jnz hf
    refine J_if_eq (tgt := 1478) E (jd dk_L_law_17 11 rfl) (by decide) (fun _ => ?_) (fun z => absurd z c23)
    refine J_goto (tgt := 2480) E (jd dk_L_law_17 14 rfl) (by decide) ?_
    refine J_sub [2, 3, 4, 5, 6] rfl ?_
    refine J_widen (cells' := cc9 + 4) (slots' := ss9 + 24) (by omega) (by omega) ?_
    cases hf
    exact kb
  · rw [if_pos c20] at hf
    refine J_if_ne (tgt := 1478) E (jd dk_L_law_17 4 rfl) (by decide) (fun _ => ?_) (fun z => absurd z c20)
    refine J_goto (tgt := 2480) E (jd dk_L_law_17 14 rfl) (by decide) ?_
    refine J_sub [2, 3, 4, 5, 6] rfl ?_
    refine J_widen (cells' := cc9 + 4) (slots' := ss9 + 24) (by omega) (by omega) ?_
    cases hf
    exact kb
def f_L_c22 (N L : Nat) (xs : Nat → Int32) (a1 a2 a3 : Nat) (i : Int32) (h : AH) : Option AH :=
  (jsx L xs (i + 1)).bind fun x1 =>
  (jsx L xs (i + 2)).bind fun x3 =>
  (jsx L xs (i + 3)).bind fun x5 =>
  (f_L_toSpin N h a1 x1 x3 x5 a3).bind fun r7 =>
  (jsx L xs (i + 1)).bind fun x9 =>
  (jsx L xs (i + 2)).bind fun x11 =>
  (jsx L xs (i + 3)).bind fun x13 =>
  (jck 7 r7.2 a2).bind fun _ =>
  (f_X7_toSpin N r7.2 a2 x9 x11 x13).bind fun r15 =>
  (jck 7 r15.2 a2).bind fun _ =>
  (f_X7_thrown N r15.2 a2).bind fun r19 =>
  if ¬ r19.1 = r7.1 then none else
  if ¬ r7.1 = 0 then some r19.2 else
  (jll 3 r19.2 a3 0).bind fun x25 =>
  if ¬ (lg_cmp x25 (Int32.toInt64 r15.1)) = 0 then none else
  some r19.2
set_option maxRecDepth 100000 in
set_option maxHeartbeats 4000000 in
theorem lk_L_c22 {G : JG} {X : JX} (E : jE G X (RL, cL_law, 7)) (hX : X.2.2.2.1 = room_1) {L : Nat} {xs : Nat → Int32} (hS9 : jScr G X L xs) (N : Nat) {a1 a2 a3 : Nat} {i : Int32} {h h1 : AH} {cc9 ss9 : Nat} (hc9 : cc9 + 4 ≤ 601024 ∧ ss9 + 24 ≤ 7293033) {Q : State → Prop} (hf : f_L_c22 N L xs a1 a2 a3 i h = some h1) (kb : JW G X (RL, cL_law, 7) h1 [(0, .ref 4000000), (1, .ref a1), (2, .ref a2), (3, .ref a3), (4, .int i)] [] 2480 (cc9 + 4) (ss9 + 24) Q) : JW G X (RL, cL_law, 7) h [(0, .ref 4000000), (1, .ref a1), (2, .ref a2), (3, .ref a3), (4, .int i)] [] 1481 cc9 ss9 Q := by
  unfold f_L_c22 at hf
  refine J_aload_n E (jd dk_L_law_17 15 rfl) rfl 1 rfl ?_
  refine J_aload_n E (jd dk_L_law_17 16 rfl) rfl 0 rfl ?_
  refine J_iload E (jd dk_L_law_17 17 rfl) 4 rfl ?_
  refine J_iconst (v := 1) E (jd dk_L_law_17 18 rfl) rfl ?_
  refine J_iadd E (jd dk_L_law_17 19 rfl) ?_
  obtain ⟨x1, e2, hf⟩ := jbind hf
  refine J_sld E hS9 (jd dk_L_law_17 20 rfl) e2 ?_
  refine J_aload_n E (jd dk_L_law_17 21 rfl) rfl 0 rfl ?_
  refine J_iload E (jd dk_L_law_17 22 rfl) 4 rfl ?_
  refine J_iconst (v := 2) E (jd dk_L_law_17 23 rfl) rfl ?_
  refine J_iadd E (jd dk_L_law_17 24 rfl) ?_
  obtain ⟨x3, e4, hf⟩ := jbind hf
  refine J_sld E hS9 (jd dk_L_law_17 25 rfl) e4 ?_
  refine J_aload_n E (jd dk_L_law_17 26 rfl) rfl 0 rfl ?_
  refine J_iload E (jd dk_L_law_17 27 rfl) 4 rfl ?_
  refine J_iconst (v := 3) E (jd dk_L_law_17 28 rfl) rfl ?_
  refine J_iadd E (jd dk_L_law_17 29 rfl) ?_
  obtain ⟨x5, e6, hf⟩ := jbind hf
  refine J_sld E hS9 (jd dk_L_law_17 30 rfl) e6 ?_
  refine J_aload_n E (jd dk_L_law_17 31 rfl) rfl 3 rfl ?_
  obtain ⟨r7, e8, hf⟩ := jbind hf
  refine J_callSW (st := []) E (jd dk_L_law_17 32 rfl) ml_RL_194 cal_L_toSpin.1 cal_L_toSpin.2.1 cal_L_toSpin.2.2.1 cal_L_toSpin.2.2.2 (lk_L_toSpin (jE_g E) (jE_tr E) N e8) rfl (Nat.le_of_ble_eq_true rfl) (jRL hX (by decide) (by decide)) (jFL hX hc9 (by decide) (by decide)) rfl ?_
  rintro _ _ ⟨rfl, rfl⟩
  refine J_stk (st' := [.int r7.1]) rfl ?_
  refine J_istore (lv' := [(5, .int r7.1), (0, .ref 4000000), (1, .ref a1), (2, .ref a2), (3, .ref a3), (4, .int i)]) E (jd dk_L_law_17 33 rfl) (by decide) rfl ?_
  refine J_aload_n E (jd dk_L_law_17 34 rfl) rfl 3 rfl ?_
  refine J_aload_n E (jd dk_L_law_17 35 rfl) rfl 1 rfl ?_
  refine J_iload E (jd dk_L_law_17 36 rfl) 5 rfl ?_
  refine J_iconst (v := 1) E (jd dk_L_law_17 37 rfl) rfl ?_
  refine J_iadd E (jd dk_L_law_17 38 rfl) ?_
  obtain ⟨x9, e10, hf⟩ := jbind hf
  refine J_sld E hS9 (jd dk_L_law_17 39 rfl) e10 ?_
  refine J_aload_n E (jd dk_L_law_17 40 rfl) rfl 1 rfl ?_
  refine J_iload E (jd dk_L_law_17 41 rfl) 5 rfl ?_
  refine J_iconst (v := 2) E (jd dk_L_law_17 42 rfl) rfl ?_
  refine J_iadd E (jd dk_L_law_17 43 rfl) ?_
  obtain ⟨x11, e12, hf⟩ := jbind hf
  refine J_sld E hS9 (jd dk_L_law_17 44 rfl) e12 ?_
  refine J_aload_n E (jd dk_L_law_17 45 rfl) rfl 1 rfl ?_
  refine J_iload E (jd dk_L_law_17 46 rfl) 5 rfl ?_
  refine J_iconst (v := 3) E (jd dk_L_law_17 47 rfl) rfl ?_
  refine J_iadd E (jd dk_L_law_17 48 rfl) ?_
  obtain ⟨x13, e14, hf⟩ := jbind hf
  refine J_sld E hS9 (jd dk_L_law_17 49 rfl) e14 ?_
  obtain ⟨u17, e18, hf⟩ := jbind hf
  obtain ⟨r15, e16, hf⟩ := jbind hf
  refine J_callV (st := []) E (jd dk_L_law_18 0 rfl) ml_RL_196 cal_X7_toSpin e18 rfl (lk_X7_toSpin (jE_g E) (jE_tr E) N e16) rfl (Nat.le_of_ble_eq_true rfl) (jRL hX (by decide) (by decide)) (jFM hX hc9 (by decide) (by decide)) rfl ?_
  rintro _ _ ⟨rfl, rfl⟩
  refine J_stk (st' := [.int r15.1]) rfl ?_
  refine J_istore (lv' := [(6, .int r15.1), (5, .int r7.1), (0, .ref 4000000), (1, .ref a1), (2, .ref a2), (3, .ref a3), (4, .int i)]) E (jd dk_L_law_18 1 rfl) (by decide) rfl ?_
  refine J_aload_n E (jd dk_L_law_18 2 rfl) rfl 4 rfl ?_
  obtain ⟨u21, e22, hf⟩ := jbind hf
  obtain ⟨r19, e20, hf⟩ := jbind hf
  refine J_callV (st := []) E (jd dk_L_law_18 3 rfl) ml_RL_124 cal_X7_thrown e22 rfl (lk_X7_thrown (jE_g E) (jE_tr E) N e20) rfl (Nat.le_of_ble_eq_true rfl) (jRL hX (by decide) (by decide)) (jFM hX hc9 (by decide) (by decide)) rfl ?_
  rintro _ _ ⟨rfl, rfl⟩
  refine J_stk (st' := [.int r19.1]) rfl ?_
  refine J_iload E (jd dk_L_law_18 4 rfl) 1 rfl ?_
  obtain ⟨c23, hf⟩ := jnz hf
  refine J_icmp_eq (tgt := 1541) E (jd dk_L_law_18 5 rfl) (by decide) (fun _ => ?_) (fun z => absurd z c23)
  refine J_iload E (jd dk_L_law_18 8 rfl) 1 rfl ?_
  by_cases c24 : r7.1 = 0
  · rw [if_neg (not_not_intro c24)] at hf
    refine J_if_ne (tgt := 1558) E (jd dk_L_law_18 9 rfl) (by decide) (fun z => absurd c24 z) (fun _ => ?_)
    refine J_aload_n E (jd dk_L_law_18 10 rfl) rfl 5 rfl ?_
    refine J_iconst (v := 0) E (jd dk_L_law_18 11 rfl) rfl ?_
    obtain ⟨x25, e26, hf⟩ := jbind hf
    refine J_lald E (jd dk_L_law_18 12 rfl) e26 ?_
    refine J_iload E (jd dk_L_law_18 13 rfl) 0 rfl ?_
    refine J_i2l E (jd dk_L_law_18 14 rfl) ?_
    refine J_lcmp E (jd dk_L_law_18 15 rfl) ?_
    obtain ⟨c27, hf⟩ := jnz hf
    refine J_if_eq (tgt := 1558) E (jd dk_L_law_18 16 rfl) (by decide) (fun _ => ?_) (fun z => absurd z c27)
    refine J_goto (tgt := 2480) E (jd dk_L_law_18 19 rfl) (by decide) ?_
    refine J_sub [2, 3, 4, 5, 6] rfl ?_
    refine J_widen (cells' := cc9 + 4) (slots' := ss9 + 24) (by omega) (by omega) ?_
    cases hf
    exact kb
  · rw [if_pos c24] at hf
    refine J_if_ne (tgt := 1558) E (jd dk_L_law_18 9 rfl) (by decide) (fun _ => ?_) (fun z => absurd z c24)
    refine J_goto (tgt := 2480) E (jd dk_L_law_18 19 rfl) (by decide) ?_
    refine J_sub [2, 3, 4, 5, 6] rfl ?_
    refine J_widen (cells' := cc9 + 4) (slots' := ss9 + 24) (by omega) (by omega) ?_
    cases hf
    exact kb
def f_L_c23 (N L : Nat) (xs : Nat → Int32) (a1 a2 a3 : Nat) (i : Int32) (h : AH) : Option AH :=
  (jsx L xs (i + 1)).bind fun x1 =>
  (f_L_toCall N h a1 x1 a3).bind fun r3 =>
  (jsx L xs (i + 1)).bind fun x5 =>
  (jck 7 r3.2 a2).bind fun _ =>
  (f_X7_toCall N r3.2 a2 x5).bind fun r7 =>
  (jck 7 r7.2 a2).bind fun _ =>
  (f_X7_thrown N r7.2 a2).bind fun r11 =>
  if ¬ r11.1 = r3.1 then none else
  if ¬ r3.1 = 0 then some r11.2 else
  (jll 3 r11.2 a3 0).bind fun x17 =>
  if ¬ (lg_cmp x17 (Int32.toInt64 r7.1)) = 0 then none else
  some r11.2
set_option maxRecDepth 100000 in
set_option maxHeartbeats 4000000 in
theorem lk_L_c23 {G : JG} {X : JX} (E : jE G X (RL, cL_law, 7)) (hX : X.2.2.2.1 = room_1) {L : Nat} {xs : Nat → Int32} (hS9 : jScr G X L xs) (N : Nat) {a1 a2 a3 : Nat} {i : Int32} {h h1 : AH} {cc9 ss9 : Nat} (hc9 : cc9 + 4 ≤ 601024 ∧ ss9 + 24 ≤ 7293033) {Q : State → Prop} (hf : f_L_c23 N L xs a1 a2 a3 i h = some h1) (kb : JW G X (RL, cL_law, 7) h1 [(0, .ref 4000000), (1, .ref a1), (2, .ref a2), (3, .ref a3), (4, .int i)] [] 2480 (cc9 + 4) (ss9 + 24) Q) : JW G X (RL, cL_law, 7) h [(0, .ref 4000000), (1, .ref a1), (2, .ref a2), (3, .ref a3), (4, .int i)] [] 1561 cc9 ss9 Q := by
  unfold f_L_c23 at hf
  refine J_aload_n E (jd dk_L_law_18 20 rfl) rfl 1 rfl ?_
  refine J_aload_n E (jd dk_L_law_18 21 rfl) rfl 0 rfl ?_
  refine J_iload E (jd dk_L_law_18 22 rfl) 4 rfl ?_
  refine J_iconst (v := 1) E (jd dk_L_law_18 23 rfl) rfl ?_
  refine J_iadd E (jd dk_L_law_18 24 rfl) ?_
  obtain ⟨x1, e2, hf⟩ := jbind hf
  refine J_sld E hS9 (jd dk_L_law_18 25 rfl) e2 ?_
  refine J_aload_n E (jd dk_L_law_18 26 rfl) rfl 3 rfl ?_
  obtain ⟨r3, e4, hf⟩ := jbind hf
  refine J_callSW (st := []) E (jd dk_L_law_18 27 rfl) ml_RL_197 cal_L_toCall.1 cal_L_toCall.2.1 cal_L_toCall.2.2.1 cal_L_toCall.2.2.2 (lk_L_toCall (jE_g E) (jE_tr E) N e4) rfl (Nat.le_of_ble_eq_true rfl) (jRL hX (by decide) (by decide)) (jFL hX hc9 (by decide) (by decide)) rfl ?_
  rintro _ _ ⟨rfl, rfl⟩
  refine J_stk (st' := [.int r3.1]) rfl ?_
  refine J_istore (lv' := [(5, .int r3.1), (0, .ref 4000000), (1, .ref a1), (2, .ref a2), (3, .ref a3), (4, .int i)]) E (jd dk_L_law_18 28 rfl) (by decide) rfl ?_
  refine J_aload_n E (jd dk_L_law_18 29 rfl) rfl 3 rfl ?_
  refine J_aload_n E (jd dk_L_law_18 30 rfl) rfl 1 rfl ?_
  refine J_iload E (jd dk_L_law_18 31 rfl) 5 rfl ?_
  refine J_iconst (v := 1) E (jd dk_L_law_18 32 rfl) rfl ?_
  refine J_iadd E (jd dk_L_law_18 33 rfl) ?_
  obtain ⟨x5, e6, hf⟩ := jbind hf
  refine J_sld E hS9 (jd dk_L_law_18 34 rfl) e6 ?_
  obtain ⟨u9, e10, hf⟩ := jbind hf
  obtain ⟨r7, e8, hf⟩ := jbind hf
  refine J_callV (st := []) E (jd dk_L_law_18 35 rfl) ml_RL_199 cal_X7_toCall e10 rfl (lk_X7_toCall (jE_g E) (jE_tr E) N e8) rfl (Nat.le_of_ble_eq_true rfl) (jRL hX (by decide) (by decide)) (jFM hX hc9 (by decide) (by decide)) rfl ?_
  rintro _ _ ⟨rfl, rfl⟩
  refine J_stk (st' := [.int r7.1]) rfl ?_
  refine J_istore (lv' := [(6, .int r7.1), (5, .int r3.1), (0, .ref 4000000), (1, .ref a1), (2, .ref a2), (3, .ref a3), (4, .int i)]) E (jd dk_L_law_18 36 rfl) (by decide) rfl ?_
  refine J_aload_n E (jd dk_L_law_18 37 rfl) rfl 4 rfl ?_
  obtain ⟨u13, e14, hf⟩ := jbind hf
  obtain ⟨r11, e12, hf⟩ := jbind hf
  refine J_callV (st := []) E (jd dk_L_law_18 38 rfl) ml_RL_124 cal_X7_thrown e14 rfl (lk_X7_thrown (jE_g E) (jE_tr E) N e12) rfl (Nat.le_of_ble_eq_true rfl) (jRL hX (by decide) (by decide)) (jFM hX hc9 (by decide) (by decide)) rfl ?_
  rintro _ _ ⟨rfl, rfl⟩
  refine J_stk (st' := [.int r11.1]) rfl ?_
  refine J_iload E (jd dk_L_law_18 39 rfl) 1 rfl ?_
  obtain ⟨c15, hf⟩ := jnz hf
  refine J_icmp_eq (tgt := 1597) E (jd dk_L_law_18 40 rfl) (by decide) (fun _ => ?_) (fun z => absurd z c15)
  refine J_iload E (jd dk_L_law_18 43 rfl) 1 rfl ?_
  by_cases c16 : r3.1 = 0
  · rw [if_neg (not_not_intro c16)] at hf
    refine J_if_ne (tgt := 1614) E (jd dk_L_law_18 44 rfl) (by decide) (fun z => absurd c16 z) (fun _ => ?_)
    refine J_aload_n E (jd dk_L_law_18 45 rfl) rfl 5 rfl ?_
    refine J_iconst (v := 0) E (jd dk_L_law_18 46 rfl) rfl ?_
    obtain ⟨x17, e18, hf⟩ := jbind hf
    refine J_lald E (jd dk_L_law_18 47 rfl) e18 ?_
    refine J_iload E (jd dk_L_law_18 48 rfl) 0 rfl ?_
    refine J_i2l E (jd dk_L_law_18 49 rfl) ?_
    refine J_lcmp E (jd dk_L_law_19 0 rfl) ?_
    obtain ⟨c19, hf⟩ := jnz hf
    refine J_if_eq (tgt := 1614) E (jd dk_L_law_19 1 rfl) (by decide) (fun _ => ?_) (fun z => absurd z c19)
    refine J_goto (tgt := 2480) E (jd dk_L_law_19 4 rfl) (by decide) ?_
    refine J_sub [2, 3, 4, 5, 6] rfl ?_
    refine J_widen (cells' := cc9 + 4) (slots' := ss9 + 24) (by omega) (by omega) ?_
    cases hf
    exact kb
  · rw [if_pos c16] at hf
    refine J_if_ne (tgt := 1614) E (jd dk_L_law_18 44 rfl) (by decide) (fun _ => ?_) (fun z => absurd z c16)
    refine J_goto (tgt := 2480) E (jd dk_L_law_19 4 rfl) (by decide) ?_
    refine J_sub [2, 3, 4, 5, 6] rfl ?_
    refine J_widen (cells' := cc9 + 4) (slots' := ss9 + 24) (by omega) (by omega) ?_
    cases hf
    exact kb
def f_L_c24 (N L : Nat) (xs : Nat → Int32) (a1 a2 a3 : Nat) (i : Int32) (h : AH) : Option AH :=
  (jsx L xs (i + 1)).bind fun x1 =>
  (f_L_panel N h a1 x1 a3).bind fun r3 =>
  (jsx L xs (i + 1)).bind fun x5 =>
  (jck 7 r3.2 a2).bind fun _ =>
  (f_X7_panel N r3.2 a2 x5).bind fun r7 =>
  (jck 7 r7.2 a2).bind fun _ =>
  (f_X7_thrown N r7.2 a2).bind fun r11 =>
  if ¬ r11.1 = r3.1 then none else
  if ¬ r3.1 = 0 then some r11.2 else
  (jll 3 r11.2 a3 0).bind fun x17 =>
  if ¬ (lg_cmp x17 (Int32.toInt64 r7.1)) = 0 then none else
  some r11.2
set_option maxRecDepth 100000 in
set_option maxHeartbeats 4000000 in
theorem lk_L_c24 {G : JG} {X : JX} (E : jE G X (RL, cL_law, 7)) (hX : X.2.2.2.1 = room_1) {L : Nat} {xs : Nat → Int32} (hS9 : jScr G X L xs) (N : Nat) {a1 a2 a3 : Nat} {i : Int32} {h h1 : AH} {cc9 ss9 : Nat} (hc9 : cc9 + 4 ≤ 601024 ∧ ss9 + 24 ≤ 7293033) {Q : State → Prop} (hf : f_L_c24 N L xs a1 a2 a3 i h = some h1) (kb : JW G X (RL, cL_law, 7) h1 [(0, .ref 4000000), (1, .ref a1), (2, .ref a2), (3, .ref a3), (4, .int i)] [] 2480 (cc9 + 4) (ss9 + 24) Q) : JW G X (RL, cL_law, 7) h [(0, .ref 4000000), (1, .ref a1), (2, .ref a2), (3, .ref a3), (4, .int i)] [] 1617 cc9 ss9 Q := by
  unfold f_L_c24 at hf
  refine J_aload_n E (jd dk_L_law_19 5 rfl) rfl 1 rfl ?_
  refine J_aload_n E (jd dk_L_law_19 6 rfl) rfl 0 rfl ?_
  refine J_iload E (jd dk_L_law_19 7 rfl) 4 rfl ?_
  refine J_iconst (v := 1) E (jd dk_L_law_19 8 rfl) rfl ?_
  refine J_iadd E (jd dk_L_law_19 9 rfl) ?_
  obtain ⟨x1, e2, hf⟩ := jbind hf
  refine J_sld E hS9 (jd dk_L_law_19 10 rfl) e2 ?_
  refine J_aload_n E (jd dk_L_law_19 11 rfl) rfl 3 rfl ?_
  obtain ⟨r3, e4, hf⟩ := jbind hf
  refine J_callSW (st := []) E (jd dk_L_law_19 12 rfl) ml_RL_200 cal_L_panel.1 cal_L_panel.2.1 cal_L_panel.2.2.1 cal_L_panel.2.2.2 (lk_L_panel (jE_g E) (jE_tr E) N e4) rfl (Nat.le_of_ble_eq_true rfl) (jRL hX (by decide) (by decide)) (jFL hX hc9 (by decide) (by decide)) rfl ?_
  rintro _ _ ⟨rfl, rfl⟩
  refine J_stk (st' := [.int r3.1]) rfl ?_
  refine J_istore (lv' := [(5, .int r3.1), (0, .ref 4000000), (1, .ref a1), (2, .ref a2), (3, .ref a3), (4, .int i)]) E (jd dk_L_law_19 13 rfl) (by decide) rfl ?_
  refine J_aload_n E (jd dk_L_law_19 14 rfl) rfl 3 rfl ?_
  refine J_aload_n E (jd dk_L_law_19 15 rfl) rfl 1 rfl ?_
  refine J_iload E (jd dk_L_law_19 16 rfl) 5 rfl ?_
  refine J_iconst (v := 1) E (jd dk_L_law_19 17 rfl) rfl ?_
  refine J_iadd E (jd dk_L_law_19 18 rfl) ?_
  obtain ⟨x5, e6, hf⟩ := jbind hf
  refine J_sld E hS9 (jd dk_L_law_19 19 rfl) e6 ?_
  obtain ⟨u9, e10, hf⟩ := jbind hf
  obtain ⟨r7, e8, hf⟩ := jbind hf
  refine J_callV (st := []) E (jd dk_L_law_19 20 rfl) ml_RL_202 cal_X7_panel e10 rfl (lk_X7_panel (jE_g E) (jE_tr E) N e8) rfl (Nat.le_of_ble_eq_true rfl) (jRL hX (by decide) (by decide)) (jFM hX hc9 (by decide) (by decide)) rfl ?_
  rintro _ _ ⟨rfl, rfl⟩
  refine J_stk (st' := [.int r7.1]) rfl ?_
  refine J_istore (lv' := [(6, .int r7.1), (5, .int r3.1), (0, .ref 4000000), (1, .ref a1), (2, .ref a2), (3, .ref a3), (4, .int i)]) E (jd dk_L_law_19 21 rfl) (by decide) rfl ?_
  refine J_aload_n E (jd dk_L_law_19 22 rfl) rfl 4 rfl ?_
  obtain ⟨u13, e14, hf⟩ := jbind hf
  obtain ⟨r11, e12, hf⟩ := jbind hf
  refine J_callV (st := []) E (jd dk_L_law_19 23 rfl) ml_RL_124 cal_X7_thrown e14 rfl (lk_X7_thrown (jE_g E) (jE_tr E) N e12) rfl (Nat.le_of_ble_eq_true rfl) (jRL hX (by decide) (by decide)) (jFM hX hc9 (by decide) (by decide)) rfl ?_
  rintro _ _ ⟨rfl, rfl⟩
  refine J_stk (st' := [.int r11.1]) rfl ?_
  refine J_iload E (jd dk_L_law_19 24 rfl) 1 rfl ?_
  obtain ⟨c15, hf⟩ := jnz hf
  refine J_icmp_eq (tgt := 1653) E (jd dk_L_law_19 25 rfl) (by decide) (fun _ => ?_) (fun z => absurd z c15)
  refine J_iload E (jd dk_L_law_19 28 rfl) 1 rfl ?_
  by_cases c16 : r3.1 = 0
  · rw [if_neg (not_not_intro c16)] at hf
    refine J_if_ne (tgt := 1670) E (jd dk_L_law_19 29 rfl) (by decide) (fun z => absurd c16 z) (fun _ => ?_)
    refine J_aload_n E (jd dk_L_law_19 30 rfl) rfl 5 rfl ?_
    refine J_iconst (v := 0) E (jd dk_L_law_19 31 rfl) rfl ?_
    obtain ⟨x17, e18, hf⟩ := jbind hf
    refine J_lald E (jd dk_L_law_19 32 rfl) e18 ?_
    refine J_iload E (jd dk_L_law_19 33 rfl) 0 rfl ?_
    refine J_i2l E (jd dk_L_law_19 34 rfl) ?_
    refine J_lcmp E (jd dk_L_law_19 35 rfl) ?_
    obtain ⟨c19, hf⟩ := jnz hf
    refine J_if_eq (tgt := 1670) E (jd dk_L_law_19 36 rfl) (by decide) (fun _ => ?_) (fun z => absurd z c19)
    refine J_goto (tgt := 2480) E (jd dk_L_law_19 39 rfl) (by decide) ?_
    refine J_sub [2, 3, 4, 5, 6] rfl ?_
    refine J_widen (cells' := cc9 + 4) (slots' := ss9 + 24) (by omega) (by omega) ?_
    cases hf
    exact kb
  · rw [if_pos c16] at hf
    refine J_if_ne (tgt := 1670) E (jd dk_L_law_19 29 rfl) (by decide) (fun _ => ?_) (fun z => absurd z c16)
    refine J_goto (tgt := 2480) E (jd dk_L_law_19 39 rfl) (by decide) ?_
    refine J_sub [2, 3, 4, 5, 6] rfl ?_
    refine J_widen (cells' := cc9 + 4) (slots' := ss9 + 24) (by omega) (by omega) ?_
    cases hf
    exact kb
def f_L_c25 (N L : Nat) (xs : Nat → Int32) (a1 a2 a3 : Nat) (i : Int32) (h : AH) : Option AH :=
  (jsx L xs (i + 1)).bind fun x1 =>
  (f_L_seat N h a1 x1 a3).bind fun r3 =>
  (jsx L xs (i + 1)).bind fun x5 =>
  (jck 7 r3.2 a2).bind fun _ =>
  (f_X7_seat N r3.2 a2 x5).bind fun r7 =>
  (jck 7 r7.2 a2).bind fun _ =>
  (f_X7_thrown N r7.2 a2).bind fun r11 =>
  if ¬ r11.1 = r3.1 then none else
  if ¬ r3.1 = 0 then some r11.2 else
  (jll 3 r11.2 a3 0).bind fun x17 =>
  if ¬ (lg_cmp x17 (Int32.toInt64 r7.1)) = 0 then none else
  some r11.2
set_option maxRecDepth 100000 in
set_option maxHeartbeats 4000000 in
theorem lk_L_c25 {G : JG} {X : JX} (E : jE G X (RL, cL_law, 7)) (hX : X.2.2.2.1 = room_1) {L : Nat} {xs : Nat → Int32} (hS9 : jScr G X L xs) (N : Nat) {a1 a2 a3 : Nat} {i : Int32} {h h1 : AH} {cc9 ss9 : Nat} (hc9 : cc9 + 4 ≤ 601024 ∧ ss9 + 24 ≤ 7293033) {Q : State → Prop} (hf : f_L_c25 N L xs a1 a2 a3 i h = some h1) (kb : JW G X (RL, cL_law, 7) h1 [(0, .ref 4000000), (1, .ref a1), (2, .ref a2), (3, .ref a3), (4, .int i)] [] 2480 (cc9 + 4) (ss9 + 24) Q) : JW G X (RL, cL_law, 7) h [(0, .ref 4000000), (1, .ref a1), (2, .ref a2), (3, .ref a3), (4, .int i)] [] 1673 cc9 ss9 Q := by
  unfold f_L_c25 at hf
  refine J_aload_n E (jd dk_L_law_19 40 rfl) rfl 1 rfl ?_
  refine J_aload_n E (jd dk_L_law_19 41 rfl) rfl 0 rfl ?_
  refine J_iload E (jd dk_L_law_19 42 rfl) 4 rfl ?_
  refine J_iconst (v := 1) E (jd dk_L_law_19 43 rfl) rfl ?_
  refine J_iadd E (jd dk_L_law_19 44 rfl) ?_
  obtain ⟨x1, e2, hf⟩ := jbind hf
  refine J_sld E hS9 (jd dk_L_law_19 45 rfl) e2 ?_
  refine J_aload_n E (jd dk_L_law_19 46 rfl) rfl 3 rfl ?_
  obtain ⟨r3, e4, hf⟩ := jbind hf
  refine J_callSW (st := []) E (jd dk_L_law_19 47 rfl) ml_RL_203 cal_L_seat.1 cal_L_seat.2.1 cal_L_seat.2.2.1 cal_L_seat.2.2.2 (lk_L_seat (jE_g E) (jE_tr E) N e4) rfl (Nat.le_of_ble_eq_true rfl) (jRL hX (by decide) (by decide)) (jFL hX hc9 (by decide) (by decide)) rfl ?_
  rintro _ _ ⟨rfl, rfl⟩
  refine J_stk (st' := [.int r3.1]) rfl ?_
  refine J_istore (lv' := [(5, .int r3.1), (0, .ref 4000000), (1, .ref a1), (2, .ref a2), (3, .ref a3), (4, .int i)]) E (jd dk_L_law_19 48 rfl) (by decide) rfl ?_
  refine J_aload_n E (jd dk_L_law_19 49 rfl) rfl 3 rfl ?_
  refine J_aload_n E (jd dk_L_law_20 0 rfl) rfl 1 rfl ?_
  refine J_iload E (jd dk_L_law_20 1 rfl) 5 rfl ?_
  refine J_iconst (v := 1) E (jd dk_L_law_20 2 rfl) rfl ?_
  refine J_iadd E (jd dk_L_law_20 3 rfl) ?_
  obtain ⟨x5, e6, hf⟩ := jbind hf
  refine J_sld E hS9 (jd dk_L_law_20 4 rfl) e6 ?_
  obtain ⟨u9, e10, hf⟩ := jbind hf
  obtain ⟨r7, e8, hf⟩ := jbind hf
  refine J_callV (st := []) E (jd dk_L_law_20 5 rfl) ml_RL_205 cal_X7_seat e10 rfl (lk_X7_seat (jE_g E) (jE_tr E) N e8) rfl (Nat.le_of_ble_eq_true rfl) (jRL hX (by decide) (by decide)) (jFM hX hc9 (by decide) (by decide)) rfl ?_
  rintro _ _ ⟨rfl, rfl⟩
  refine J_stk (st' := [.int r7.1]) rfl ?_
  refine J_istore (lv' := [(6, .int r7.1), (5, .int r3.1), (0, .ref 4000000), (1, .ref a1), (2, .ref a2), (3, .ref a3), (4, .int i)]) E (jd dk_L_law_20 6 rfl) (by decide) rfl ?_
  refine J_aload_n E (jd dk_L_law_20 7 rfl) rfl 4 rfl ?_
  obtain ⟨u13, e14, hf⟩ := jbind hf
  obtain ⟨r11, e12, hf⟩ := jbind hf
  refine J_callV (st := []) E (jd dk_L_law_20 8 rfl) ml_RL_124 cal_X7_thrown e14 rfl (lk_X7_thrown (jE_g E) (jE_tr E) N e12) rfl (Nat.le_of_ble_eq_true rfl) (jRL hX (by decide) (by decide)) (jFM hX hc9 (by decide) (by decide)) rfl ?_
  rintro _ _ ⟨rfl, rfl⟩
  refine J_stk (st' := [.int r11.1]) rfl ?_
  refine J_iload E (jd dk_L_law_20 9 rfl) 1 rfl ?_
  obtain ⟨c15, hf⟩ := jnz hf
  refine J_icmp_eq (tgt := 1709) E (jd dk_L_law_20 10 rfl) (by decide) (fun _ => ?_) (fun z => absurd z c15)
  refine J_iload E (jd dk_L_law_20 13 rfl) 1 rfl ?_
  by_cases c16 : r3.1 = 0
  · rw [if_neg (not_not_intro c16)] at hf
    refine J_if_ne (tgt := 1726) E (jd dk_L_law_20 14 rfl) (by decide) (fun z => absurd c16 z) (fun _ => ?_)
    refine J_aload_n E (jd dk_L_law_20 15 rfl) rfl 5 rfl ?_
    refine J_iconst (v := 0) E (jd dk_L_law_20 16 rfl) rfl ?_
    obtain ⟨x17, e18, hf⟩ := jbind hf
    refine J_lald E (jd dk_L_law_20 17 rfl) e18 ?_
    refine J_iload E (jd dk_L_law_20 18 rfl) 0 rfl ?_
    refine J_i2l E (jd dk_L_law_20 19 rfl) ?_
    refine J_lcmp E (jd dk_L_law_20 20 rfl) ?_
    obtain ⟨c19, hf⟩ := jnz hf
    refine J_if_eq (tgt := 1726) E (jd dk_L_law_20 21 rfl) (by decide) (fun _ => ?_) (fun z => absurd z c19)
    refine J_goto (tgt := 2480) E (jd dk_L_law_20 24 rfl) (by decide) ?_
    refine J_sub [2, 3, 4, 5, 6] rfl ?_
    refine J_widen (cells' := cc9 + 4) (slots' := ss9 + 24) (by omega) (by omega) ?_
    cases hf
    exact kb
  · rw [if_pos c16] at hf
    refine J_if_ne (tgt := 1726) E (jd dk_L_law_20 14 rfl) (by decide) (fun _ => ?_) (fun z => absurd z c16)
    refine J_goto (tgt := 2480) E (jd dk_L_law_20 24 rfl) (by decide) ?_
    refine J_sub [2, 3, 4, 5, 6] rfl ?_
    refine J_widen (cells' := cc9 + 4) (slots' := ss9 + 24) (by omega) (by omega) ?_
    cases hf
    exact kb
def f_L_c26 (N L : Nat) (xs : Nat → Int32) (a1 a2 a3 : Nat) (i : Int32) (h : AH) : Option AH :=
  (jsx L xs (i + 1)).bind fun x1 =>
  (jsx L xs (i + 2)).bind fun x3 =>
  (f_L_unlike N h a1 x1 x3 a3).bind fun r5 =>
  (jsx L xs (i + 1)).bind fun x7 =>
  (jsx L xs (i + 2)).bind fun x9 =>
  (jck 7 r5.2 a2).bind fun _ =>
  (f_X7_unlike N r5.2 a2 x7 x9).bind fun r11 =>
  (jck 7 r11.2 a2).bind fun _ =>
  (f_X7_thrown N r11.2 a2).bind fun r15 =>
  if ¬ r15.1 = r5.1 then none else
  if ¬ r5.1 = 0 then some r15.2 else
  (jll 3 r15.2 a3 0).bind fun x21 =>
  if ¬ (lg_cmp x21 (Int32.toInt64 r11.1)) = 0 then none else
  some r15.2
set_option maxRecDepth 100000 in
set_option maxHeartbeats 4000000 in
theorem lk_L_c26 {G : JG} {X : JX} (E : jE G X (RL, cL_law, 7)) (hX : X.2.2.2.1 = room_1) {L : Nat} {xs : Nat → Int32} (hS9 : jScr G X L xs) (N : Nat) {a1 a2 a3 : Nat} {i : Int32} {h h1 : AH} {cc9 ss9 : Nat} (hc9 : cc9 + 4 ≤ 601024 ∧ ss9 + 24 ≤ 7293033) {Q : State → Prop} (hf : f_L_c26 N L xs a1 a2 a3 i h = some h1) (kb : JW G X (RL, cL_law, 7) h1 [(0, .ref 4000000), (1, .ref a1), (2, .ref a2), (3, .ref a3), (4, .int i)] [] 2480 (cc9 + 4) (ss9 + 24) Q) : JW G X (RL, cL_law, 7) h [(0, .ref 4000000), (1, .ref a1), (2, .ref a2), (3, .ref a3), (4, .int i)] [] 1729 cc9 ss9 Q := by
  unfold f_L_c26 at hf
  refine J_aload_n E (jd dk_L_law_20 25 rfl) rfl 1 rfl ?_
  refine J_aload_n E (jd dk_L_law_20 26 rfl) rfl 0 rfl ?_
  refine J_iload E (jd dk_L_law_20 27 rfl) 4 rfl ?_
  refine J_iconst (v := 1) E (jd dk_L_law_20 28 rfl) rfl ?_
  refine J_iadd E (jd dk_L_law_20 29 rfl) ?_
  obtain ⟨x1, e2, hf⟩ := jbind hf
  refine J_sld E hS9 (jd dk_L_law_20 30 rfl) e2 ?_
  refine J_aload_n E (jd dk_L_law_20 31 rfl) rfl 0 rfl ?_
  refine J_iload E (jd dk_L_law_20 32 rfl) 4 rfl ?_
  refine J_iconst (v := 2) E (jd dk_L_law_20 33 rfl) rfl ?_
  refine J_iadd E (jd dk_L_law_20 34 rfl) ?_
  obtain ⟨x3, e4, hf⟩ := jbind hf
  refine J_sld E hS9 (jd dk_L_law_20 35 rfl) e4 ?_
  refine J_aload_n E (jd dk_L_law_20 36 rfl) rfl 3 rfl ?_
  obtain ⟨r5, e6, hf⟩ := jbind hf
  refine J_callSW (st := []) E (jd dk_L_law_20 37 rfl) ml_RL_206 cal_L_unlike.1 cal_L_unlike.2.1 cal_L_unlike.2.2.1 cal_L_unlike.2.2.2 (lk_L_unlike (jE_g E) (jE_tr E) N e6) rfl (Nat.le_of_ble_eq_true rfl) (jRL hX (by decide) (by decide)) (jFL hX hc9 (by decide) (by decide)) rfl ?_
  rintro _ _ ⟨rfl, rfl⟩
  refine J_stk (st' := [.int r5.1]) rfl ?_
  refine J_istore (lv' := [(5, .int r5.1), (0, .ref 4000000), (1, .ref a1), (2, .ref a2), (3, .ref a3), (4, .int i)]) E (jd dk_L_law_20 38 rfl) (by decide) rfl ?_
  refine J_aload_n E (jd dk_L_law_20 39 rfl) rfl 3 rfl ?_
  refine J_aload_n E (jd dk_L_law_20 40 rfl) rfl 1 rfl ?_
  refine J_iload E (jd dk_L_law_20 41 rfl) 5 rfl ?_
  refine J_iconst (v := 1) E (jd dk_L_law_20 42 rfl) rfl ?_
  refine J_iadd E (jd dk_L_law_20 43 rfl) ?_
  obtain ⟨x7, e8, hf⟩ := jbind hf
  refine J_sld E hS9 (jd dk_L_law_20 44 rfl) e8 ?_
  refine J_aload_n E (jd dk_L_law_20 45 rfl) rfl 1 rfl ?_
  refine J_iload E (jd dk_L_law_20 46 rfl) 5 rfl ?_
  refine J_iconst (v := 2) E (jd dk_L_law_20 47 rfl) rfl ?_
  refine J_iadd E (jd dk_L_law_20 48 rfl) ?_
  obtain ⟨x9, e10, hf⟩ := jbind hf
  refine J_sld E hS9 (jd dk_L_law_20 49 rfl) e10 ?_
  obtain ⟨u13, e14, hf⟩ := jbind hf
  obtain ⟨r11, e12, hf⟩ := jbind hf
  refine J_callV (st := []) E (jd dk_L_law_21 0 rfl) ml_RL_208 cal_X7_unlike e14 rfl (lk_X7_unlike (jE_g E) (jE_tr E) N e12) rfl (Nat.le_of_ble_eq_true rfl) (jRL hX (by decide) (by decide)) (jFM hX hc9 (by decide) (by decide)) rfl ?_
  rintro _ _ ⟨rfl, rfl⟩
  refine J_stk (st' := [.int r11.1]) rfl ?_
  refine J_istore (lv' := [(6, .int r11.1), (5, .int r5.1), (0, .ref 4000000), (1, .ref a1), (2, .ref a2), (3, .ref a3), (4, .int i)]) E (jd dk_L_law_21 1 rfl) (by decide) rfl ?_
  refine J_aload_n E (jd dk_L_law_21 2 rfl) rfl 4 rfl ?_
  obtain ⟨u17, e18, hf⟩ := jbind hf
  obtain ⟨r15, e16, hf⟩ := jbind hf
  refine J_callV (st := []) E (jd dk_L_law_21 3 rfl) ml_RL_124 cal_X7_thrown e18 rfl (lk_X7_thrown (jE_g E) (jE_tr E) N e16) rfl (Nat.le_of_ble_eq_true rfl) (jRL hX (by decide) (by decide)) (jFM hX hc9 (by decide) (by decide)) rfl ?_
  rintro _ _ ⟨rfl, rfl⟩
  refine J_stk (st' := [.int r15.1]) rfl ?_
  refine J_iload E (jd dk_L_law_21 4 rfl) 1 rfl ?_
  obtain ⟨c19, hf⟩ := jnz hf
  refine J_icmp_eq (tgt := 1777) E (jd dk_L_law_21 5 rfl) (by decide) (fun _ => ?_) (fun z => absurd z c19)
  refine J_iload E (jd dk_L_law_21 8 rfl) 1 rfl ?_
  by_cases c20 : r5.1 = 0
  · rw [if_neg (not_not_intro c20)] at hf
    refine J_if_ne (tgt := 1794) E (jd dk_L_law_21 9 rfl) (by decide) (fun z => absurd c20 z) (fun _ => ?_)
    refine J_aload_n E (jd dk_L_law_21 10 rfl) rfl 5 rfl ?_
    refine J_iconst (v := 0) E (jd dk_L_law_21 11 rfl) rfl ?_
    obtain ⟨x21, e22, hf⟩ := jbind hf
    refine J_lald E (jd dk_L_law_21 12 rfl) e22 ?_
    refine J_iload E (jd dk_L_law_21 13 rfl) 0 rfl ?_
    refine J_i2l E (jd dk_L_law_21 14 rfl) ?_
    refine J_lcmp E (jd dk_L_law_21 15 rfl) ?_
    obtain ⟨c23, hf⟩ := jnz hf
    refine J_if_eq (tgt := 1794) E (jd dk_L_law_21 16 rfl) (by decide) (fun _ => ?_) (fun z => absurd z c23)
    refine J_goto (tgt := 2480) E (jd dk_L_law_21 19 rfl) (by decide) ?_
    refine J_sub [2, 3, 4, 5, 6] rfl ?_
    refine J_widen (cells' := cc9 + 4) (slots' := ss9 + 24) (by omega) (by omega) ?_
    cases hf
    exact kb
  · rw [if_pos c20] at hf
    refine J_if_ne (tgt := 1794) E (jd dk_L_law_21 9 rfl) (by decide) (fun _ => ?_) (fun z => absurd z c20)
    refine J_goto (tgt := 2480) E (jd dk_L_law_21 19 rfl) (by decide) ?_
    refine J_sub [2, 3, 4, 5, 6] rfl ?_
    refine J_widen (cells' := cc9 + 4) (slots' := ss9 + 24) (by omega) (by omega) ?_
    cases hf
    exact kb
def f_L_c27 (N L : Nat) (xs : Nat → Int32) (a1 a2 a3 : Nat) (i : Int32) (h : AH) : Option AH :=
  (jsx L xs (i + 1)).bind fun x1 =>
  (jsx L xs (i + 2)).bind fun x3 =>
  (f_L_sides N h a1 x1 x3 a3).bind fun r5 =>
  (jsx L xs (i + 1)).bind fun x7 =>
  (jsx L xs (i + 2)).bind fun x9 =>
  (jck 7 r5.2 a2).bind fun _ =>
  (f_X7_sides N r5.2 a2 x7 x9).bind fun r11 =>
  (jck 7 r11.2 a2).bind fun _ =>
  (f_X7_thrown N r11.2 a2).bind fun r15 =>
  if ¬ r15.1 = r5.1 then none else
  if ¬ r5.1 = 0 then some r15.2 else
  (jll 3 r15.2 a3 0).bind fun x21 =>
  if ¬ (lg_cmp x21 (Int32.toInt64 r11.1)) = 0 then none else
  some r15.2
set_option maxRecDepth 100000 in
set_option maxHeartbeats 4000000 in
theorem lk_L_c27 {G : JG} {X : JX} (E : jE G X (RL, cL_law, 7)) (hX : X.2.2.2.1 = room_1) {L : Nat} {xs : Nat → Int32} (hS9 : jScr G X L xs) (N : Nat) {a1 a2 a3 : Nat} {i : Int32} {h h1 : AH} {cc9 ss9 : Nat} (hc9 : cc9 + 4 ≤ 601024 ∧ ss9 + 24 ≤ 7293033) {Q : State → Prop} (hf : f_L_c27 N L xs a1 a2 a3 i h = some h1) (kb : JW G X (RL, cL_law, 7) h1 [(0, .ref 4000000), (1, .ref a1), (2, .ref a2), (3, .ref a3), (4, .int i)] [] 2480 (cc9 + 4) (ss9 + 24) Q) : JW G X (RL, cL_law, 7) h [(0, .ref 4000000), (1, .ref a1), (2, .ref a2), (3, .ref a3), (4, .int i)] [] 1797 cc9 ss9 Q := by
  unfold f_L_c27 at hf
  refine J_aload_n E (jd dk_L_law_21 20 rfl) rfl 1 rfl ?_
  refine J_aload_n E (jd dk_L_law_21 21 rfl) rfl 0 rfl ?_
  refine J_iload E (jd dk_L_law_21 22 rfl) 4 rfl ?_
  refine J_iconst (v := 1) E (jd dk_L_law_21 23 rfl) rfl ?_
  refine J_iadd E (jd dk_L_law_21 24 rfl) ?_
  obtain ⟨x1, e2, hf⟩ := jbind hf
  refine J_sld E hS9 (jd dk_L_law_21 25 rfl) e2 ?_
  refine J_aload_n E (jd dk_L_law_21 26 rfl) rfl 0 rfl ?_
  refine J_iload E (jd dk_L_law_21 27 rfl) 4 rfl ?_
  refine J_iconst (v := 2) E (jd dk_L_law_21 28 rfl) rfl ?_
  refine J_iadd E (jd dk_L_law_21 29 rfl) ?_
  obtain ⟨x3, e4, hf⟩ := jbind hf
  refine J_sld E hS9 (jd dk_L_law_21 30 rfl) e4 ?_
  refine J_aload_n E (jd dk_L_law_21 31 rfl) rfl 3 rfl ?_
  obtain ⟨r5, e6, hf⟩ := jbind hf
  refine J_callSW (st := []) E (jd dk_L_law_21 32 rfl) ml_RL_209 cal_L_sides.1 cal_L_sides.2.1 cal_L_sides.2.2.1 cal_L_sides.2.2.2 (lk_L_sides (jE_g E) (jE_tr E) N e6) rfl (Nat.le_of_ble_eq_true rfl) (jRL hX (by decide) (by decide)) (jFL hX hc9 (by decide) (by decide)) rfl ?_
  rintro _ _ ⟨rfl, rfl⟩
  refine J_stk (st' := [.int r5.1]) rfl ?_
  refine J_istore (lv' := [(5, .int r5.1), (0, .ref 4000000), (1, .ref a1), (2, .ref a2), (3, .ref a3), (4, .int i)]) E (jd dk_L_law_21 33 rfl) (by decide) rfl ?_
  refine J_aload_n E (jd dk_L_law_21 34 rfl) rfl 3 rfl ?_
  refine J_aload_n E (jd dk_L_law_21 35 rfl) rfl 1 rfl ?_
  refine J_iload E (jd dk_L_law_21 36 rfl) 5 rfl ?_
  refine J_iconst (v := 1) E (jd dk_L_law_21 37 rfl) rfl ?_
  refine J_iadd E (jd dk_L_law_21 38 rfl) ?_
  obtain ⟨x7, e8, hf⟩ := jbind hf
  refine J_sld E hS9 (jd dk_L_law_21 39 rfl) e8 ?_
  refine J_aload_n E (jd dk_L_law_21 40 rfl) rfl 1 rfl ?_
  refine J_iload E (jd dk_L_law_21 41 rfl) 5 rfl ?_
  refine J_iconst (v := 2) E (jd dk_L_law_21 42 rfl) rfl ?_
  refine J_iadd E (jd dk_L_law_21 43 rfl) ?_
  obtain ⟨x9, e10, hf⟩ := jbind hf
  refine J_sld E hS9 (jd dk_L_law_21 44 rfl) e10 ?_
  obtain ⟨u13, e14, hf⟩ := jbind hf
  obtain ⟨r11, e12, hf⟩ := jbind hf
  refine J_callV (st := []) E (jd dk_L_law_21 45 rfl) ml_RL_211 cal_X7_sides e14 rfl (lk_X7_sides (jE_g E) (jE_tr E) N e12) rfl (Nat.le_of_ble_eq_true rfl) (jRL hX (by decide) (by decide)) (jFM hX hc9 (by decide) (by decide)) rfl ?_
  rintro _ _ ⟨rfl, rfl⟩
  refine J_stk (st' := [.int r11.1]) rfl ?_
  refine J_istore (lv' := [(6, .int r11.1), (5, .int r5.1), (0, .ref 4000000), (1, .ref a1), (2, .ref a2), (3, .ref a3), (4, .int i)]) E (jd dk_L_law_21 46 rfl) (by decide) rfl ?_
  refine J_aload_n E (jd dk_L_law_21 47 rfl) rfl 4 rfl ?_
  obtain ⟨u17, e18, hf⟩ := jbind hf
  obtain ⟨r15, e16, hf⟩ := jbind hf
  refine J_callV (st := []) E (jd dk_L_law_21 48 rfl) ml_RL_124 cal_X7_thrown e18 rfl (lk_X7_thrown (jE_g E) (jE_tr E) N e16) rfl (Nat.le_of_ble_eq_true rfl) (jRL hX (by decide) (by decide)) (jFM hX hc9 (by decide) (by decide)) rfl ?_
  rintro _ _ ⟨rfl, rfl⟩
  refine J_stk (st' := [.int r15.1]) rfl ?_
  refine J_iload E (jd dk_L_law_21 49 rfl) 1 rfl ?_
  obtain ⟨c19, hf⟩ := jnz hf
  refine J_icmp_eq (tgt := 1845) E (jd dk_L_law_22 0 rfl) (by decide) (fun _ => ?_) (fun z => absurd z c19)
  refine J_iload E (jd dk_L_law_22 3 rfl) 1 rfl ?_
  by_cases c20 : r5.1 = 0
  · rw [if_neg (not_not_intro c20)] at hf
    refine J_if_ne (tgt := 1862) E (jd dk_L_law_22 4 rfl) (by decide) (fun z => absurd c20 z) (fun _ => ?_)
    refine J_aload_n E (jd dk_L_law_22 5 rfl) rfl 5 rfl ?_
    refine J_iconst (v := 0) E (jd dk_L_law_22 6 rfl) rfl ?_
    obtain ⟨x21, e22, hf⟩ := jbind hf
    refine J_lald E (jd dk_L_law_22 7 rfl) e22 ?_
    refine J_iload E (jd dk_L_law_22 8 rfl) 0 rfl ?_
    refine J_i2l E (jd dk_L_law_22 9 rfl) ?_
    refine J_lcmp E (jd dk_L_law_22 10 rfl) ?_
    obtain ⟨c23, hf⟩ := jnz hf
    refine J_if_eq (tgt := 1862) E (jd dk_L_law_22 11 rfl) (by decide) (fun _ => ?_) (fun z => absurd z c23)
    refine J_goto (tgt := 2480) E (jd dk_L_law_22 14 rfl) (by decide) ?_
    refine J_sub [2, 3, 4, 5, 6] rfl ?_
    refine J_widen (cells' := cc9 + 4) (slots' := ss9 + 24) (by omega) (by omega) ?_
    cases hf
    exact kb
  · rw [if_pos c20] at hf
    refine J_if_ne (tgt := 1862) E (jd dk_L_law_22 4 rfl) (by decide) (fun _ => ?_) (fun z => absurd z c20)
    refine J_goto (tgt := 2480) E (jd dk_L_law_22 14 rfl) (by decide) ?_
    refine J_sub [2, 3, 4, 5, 6] rfl ?_
    refine J_widen (cells' := cc9 + 4) (slots' := ss9 + 24) (by omega) (by omega) ?_
    cases hf
    exact kb
def f_L_c28 (N L : Nat) (xs : Nat → Int32) (a1 a2 a3 : Nat) (i : Int32) (h : AH) : Option AH :=
  (jsx L xs (i + 1)).bind fun x1 =>
  (jsx L xs (i + 2)).bind fun x3 =>
  (f_L_facing N h a1 x1 x3 a3).bind fun r5 =>
  (jsx L xs (i + 1)).bind fun x7 =>
  (jsx L xs (i + 2)).bind fun x9 =>
  (jck 7 r5.2 a2).bind fun _ =>
  (f_X7_facing N r5.2 a2 x7 x9).bind fun r11 =>
  (jck 7 r11.2 a2).bind fun _ =>
  (f_X7_thrown N r11.2 a2).bind fun r15 =>
  if ¬ r15.1 = r5.1 then none else
  if ¬ r5.1 = 0 then some r15.2 else
  (jll 3 r15.2 a3 0).bind fun x21 =>
  if ¬ (lg_cmp x21 (Int32.toInt64 r11.1)) = 0 then none else
  some r15.2
set_option maxRecDepth 100000 in
set_option maxHeartbeats 4000000 in
theorem lk_L_c28 {G : JG} {X : JX} (E : jE G X (RL, cL_law, 7)) (hX : X.2.2.2.1 = room_1) {L : Nat} {xs : Nat → Int32} (hS9 : jScr G X L xs) (N : Nat) {a1 a2 a3 : Nat} {i : Int32} {h h1 : AH} {cc9 ss9 : Nat} (hc9 : cc9 + 4 ≤ 601024 ∧ ss9 + 24 ≤ 7293033) {Q : State → Prop} (hf : f_L_c28 N L xs a1 a2 a3 i h = some h1) (kb : JW G X (RL, cL_law, 7) h1 [(0, .ref 4000000), (1, .ref a1), (2, .ref a2), (3, .ref a3), (4, .int i)] [] 2480 (cc9 + 4) (ss9 + 24) Q) : JW G X (RL, cL_law, 7) h [(0, .ref 4000000), (1, .ref a1), (2, .ref a2), (3, .ref a3), (4, .int i)] [] 1865 cc9 ss9 Q := by
  unfold f_L_c28 at hf
  refine J_aload_n E (jd dk_L_law_22 15 rfl) rfl 1 rfl ?_
  refine J_aload_n E (jd dk_L_law_22 16 rfl) rfl 0 rfl ?_
  refine J_iload E (jd dk_L_law_22 17 rfl) 4 rfl ?_
  refine J_iconst (v := 1) E (jd dk_L_law_22 18 rfl) rfl ?_
  refine J_iadd E (jd dk_L_law_22 19 rfl) ?_
  obtain ⟨x1, e2, hf⟩ := jbind hf
  refine J_sld E hS9 (jd dk_L_law_22 20 rfl) e2 ?_
  refine J_aload_n E (jd dk_L_law_22 21 rfl) rfl 0 rfl ?_
  refine J_iload E (jd dk_L_law_22 22 rfl) 4 rfl ?_
  refine J_iconst (v := 2) E (jd dk_L_law_22 23 rfl) rfl ?_
  refine J_iadd E (jd dk_L_law_22 24 rfl) ?_
  obtain ⟨x3, e4, hf⟩ := jbind hf
  refine J_sld E hS9 (jd dk_L_law_22 25 rfl) e4 ?_
  refine J_aload_n E (jd dk_L_law_22 26 rfl) rfl 3 rfl ?_
  obtain ⟨r5, e6, hf⟩ := jbind hf
  refine J_callSW (st := []) E (jd dk_L_law_22 27 rfl) ml_RL_212 cal_L_facing.1 cal_L_facing.2.1 cal_L_facing.2.2.1 cal_L_facing.2.2.2 (lk_L_facing (jE_g E) (jE_tr E) N e6) rfl (Nat.le_of_ble_eq_true rfl) (jRL hX (by decide) (by decide)) (jFL hX hc9 (by decide) (by decide)) rfl ?_
  rintro _ _ ⟨rfl, rfl⟩
  refine J_stk (st' := [.int r5.1]) rfl ?_
  refine J_istore (lv' := [(5, .int r5.1), (0, .ref 4000000), (1, .ref a1), (2, .ref a2), (3, .ref a3), (4, .int i)]) E (jd dk_L_law_22 28 rfl) (by decide) rfl ?_
  refine J_aload_n E (jd dk_L_law_22 29 rfl) rfl 3 rfl ?_
  refine J_aload_n E (jd dk_L_law_22 30 rfl) rfl 1 rfl ?_
  refine J_iload E (jd dk_L_law_22 31 rfl) 5 rfl ?_
  refine J_iconst (v := 1) E (jd dk_L_law_22 32 rfl) rfl ?_
  refine J_iadd E (jd dk_L_law_22 33 rfl) ?_
  obtain ⟨x7, e8, hf⟩ := jbind hf
  refine J_sld E hS9 (jd dk_L_law_22 34 rfl) e8 ?_
  refine J_aload_n E (jd dk_L_law_22 35 rfl) rfl 1 rfl ?_
  refine J_iload E (jd dk_L_law_22 36 rfl) 5 rfl ?_
  refine J_iconst (v := 2) E (jd dk_L_law_22 37 rfl) rfl ?_
  refine J_iadd E (jd dk_L_law_22 38 rfl) ?_
  obtain ⟨x9, e10, hf⟩ := jbind hf
  refine J_sld E hS9 (jd dk_L_law_22 39 rfl) e10 ?_
  obtain ⟨u13, e14, hf⟩ := jbind hf
  obtain ⟨r11, e12, hf⟩ := jbind hf
  refine J_callV (st := []) E (jd dk_L_law_22 40 rfl) ml_RL_214 cal_X7_facing e14 rfl (lk_X7_facing (jE_g E) (jE_tr E) N e12) rfl (Nat.le_of_ble_eq_true rfl) (jRL hX (by decide) (by decide)) (jFM hX hc9 (by decide) (by decide)) rfl ?_
  rintro _ _ ⟨rfl, rfl⟩
  refine J_stk (st' := [.int r11.1]) rfl ?_
  refine J_istore (lv' := [(6, .int r11.1), (5, .int r5.1), (0, .ref 4000000), (1, .ref a1), (2, .ref a2), (3, .ref a3), (4, .int i)]) E (jd dk_L_law_22 41 rfl) (by decide) rfl ?_
  refine J_aload_n E (jd dk_L_law_22 42 rfl) rfl 4 rfl ?_
  obtain ⟨u17, e18, hf⟩ := jbind hf
  obtain ⟨r15, e16, hf⟩ := jbind hf
  refine J_callV (st := []) E (jd dk_L_law_22 43 rfl) ml_RL_124 cal_X7_thrown e18 rfl (lk_X7_thrown (jE_g E) (jE_tr E) N e16) rfl (Nat.le_of_ble_eq_true rfl) (jRL hX (by decide) (by decide)) (jFM hX hc9 (by decide) (by decide)) rfl ?_
  rintro _ _ ⟨rfl, rfl⟩
  refine J_stk (st' := [.int r15.1]) rfl ?_
  refine J_iload E (jd dk_L_law_22 44 rfl) 1 rfl ?_
  obtain ⟨c19, hf⟩ := jnz hf
  refine J_icmp_eq (tgt := 1913) E (jd dk_L_law_22 45 rfl) (by decide) (fun _ => ?_) (fun z => absurd z c19)
  refine J_iload E (jd dk_L_law_22 48 rfl) 1 rfl ?_
  by_cases c20 : r5.1 = 0
  · rw [if_neg (not_not_intro c20)] at hf
    refine J_if_ne (tgt := 1930) E (jd dk_L_law_22 49 rfl) (by decide) (fun z => absurd c20 z) (fun _ => ?_)
    refine J_aload_n E (jd dk_L_law_23 0 rfl) rfl 5 rfl ?_
    refine J_iconst (v := 0) E (jd dk_L_law_23 1 rfl) rfl ?_
    obtain ⟨x21, e22, hf⟩ := jbind hf
    refine J_lald E (jd dk_L_law_23 2 rfl) e22 ?_
    refine J_iload E (jd dk_L_law_23 3 rfl) 0 rfl ?_
    refine J_i2l E (jd dk_L_law_23 4 rfl) ?_
    refine J_lcmp E (jd dk_L_law_23 5 rfl) ?_
    obtain ⟨c23, hf⟩ := jnz hf
    refine J_if_eq (tgt := 1930) E (jd dk_L_law_23 6 rfl) (by decide) (fun _ => ?_) (fun z => absurd z c23)
    refine J_goto (tgt := 2480) E (jd dk_L_law_23 9 rfl) (by decide) ?_
    refine J_sub [2, 3, 4, 5, 6] rfl ?_
    refine J_widen (cells' := cc9 + 4) (slots' := ss9 + 24) (by omega) (by omega) ?_
    cases hf
    exact kb
  · rw [if_pos c20] at hf
    refine J_if_ne (tgt := 1930) E (jd dk_L_law_22 49 rfl) (by decide) (fun _ => ?_) (fun z => absurd z c20)
    refine J_goto (tgt := 2480) E (jd dk_L_law_23 9 rfl) (by decide) ?_
    refine J_sub [2, 3, 4, 5, 6] rfl ?_
    refine J_widen (cells' := cc9 + 4) (slots' := ss9 + 24) (by omega) (by omega) ?_
    cases hf
    exact kb
def f_L_c29 (N L : Nat) (xs : Nat → Int32) (a1 a2 a3 : Nat) (i : Int32) (h : AH) : Option AH :=
  (jsx L xs (i + 1)).bind fun x1 =>
  (jsx L xs (i + 2)).bind fun x3 =>
  (jsx L xs (i + 3)).bind fun x5 =>
  (f_L_agree N h a1 x1 x3 x5 a3).bind fun r7 =>
  (jsx L xs (i + 1)).bind fun x9 =>
  (jsx L xs (i + 2)).bind fun x11 =>
  (jsx L xs (i + 3)).bind fun x13 =>
  (jck 7 r7.2 a2).bind fun _ =>
  (f_X7_agree N r7.2 a2 x9 x11 x13).bind fun r15 =>
  (jck 7 r15.2 a2).bind fun _ =>
  (f_X7_thrown N r15.2 a2).bind fun r19 =>
  if ¬ r19.1 = r7.1 then none else
  if ¬ r7.1 = 0 then some r19.2 else
  (jll 3 r19.2 a3 0).bind fun x25 =>
  if ¬ (lg_cmp x25 (Int32.toInt64 r15.1)) = 0 then none else
  some r19.2
set_option maxRecDepth 100000 in
set_option maxHeartbeats 4000000 in
theorem lk_L_c29 {G : JG} {X : JX} (E : jE G X (RL, cL_law, 7)) (hX : X.2.2.2.1 = room_1) {L : Nat} {xs : Nat → Int32} (hS9 : jScr G X L xs) (N : Nat) {a1 a2 a3 : Nat} {i : Int32} {h h1 : AH} {cc9 ss9 : Nat} (hc9 : cc9 + 4 ≤ 601024 ∧ ss9 + 24 ≤ 7293033) {Q : State → Prop} (hf : f_L_c29 N L xs a1 a2 a3 i h = some h1) (kb : JW G X (RL, cL_law, 7) h1 [(0, .ref 4000000), (1, .ref a1), (2, .ref a2), (3, .ref a3), (4, .int i)] [] 2480 (cc9 + 4) (ss9 + 24) Q) : JW G X (RL, cL_law, 7) h [(0, .ref 4000000), (1, .ref a1), (2, .ref a2), (3, .ref a3), (4, .int i)] [] 1933 cc9 ss9 Q := by
  unfold f_L_c29 at hf
  refine J_aload_n E (jd dk_L_law_23 10 rfl) rfl 1 rfl ?_
  refine J_aload_n E (jd dk_L_law_23 11 rfl) rfl 0 rfl ?_
  refine J_iload E (jd dk_L_law_23 12 rfl) 4 rfl ?_
  refine J_iconst (v := 1) E (jd dk_L_law_23 13 rfl) rfl ?_
  refine J_iadd E (jd dk_L_law_23 14 rfl) ?_
  obtain ⟨x1, e2, hf⟩ := jbind hf
  refine J_sld E hS9 (jd dk_L_law_23 15 rfl) e2 ?_
  refine J_aload_n E (jd dk_L_law_23 16 rfl) rfl 0 rfl ?_
  refine J_iload E (jd dk_L_law_23 17 rfl) 4 rfl ?_
  refine J_iconst (v := 2) E (jd dk_L_law_23 18 rfl) rfl ?_
  refine J_iadd E (jd dk_L_law_23 19 rfl) ?_
  obtain ⟨x3, e4, hf⟩ := jbind hf
  refine J_sld E hS9 (jd dk_L_law_23 20 rfl) e4 ?_
  refine J_aload_n E (jd dk_L_law_23 21 rfl) rfl 0 rfl ?_
  refine J_iload E (jd dk_L_law_23 22 rfl) 4 rfl ?_
  refine J_iconst (v := 3) E (jd dk_L_law_23 23 rfl) rfl ?_
  refine J_iadd E (jd dk_L_law_23 24 rfl) ?_
  obtain ⟨x5, e6, hf⟩ := jbind hf
  refine J_sld E hS9 (jd dk_L_law_23 25 rfl) e6 ?_
  refine J_aload_n E (jd dk_L_law_23 26 rfl) rfl 3 rfl ?_
  obtain ⟨r7, e8, hf⟩ := jbind hf
  refine J_callSW (st := []) E (jd dk_L_law_23 27 rfl) ml_RL_215 cal_L_agree.1 cal_L_agree.2.1 cal_L_agree.2.2.1 cal_L_agree.2.2.2 (lk_L_agree (jE_g E) (jE_tr E) N e8) rfl (Nat.le_of_ble_eq_true rfl) (jRL hX (by decide) (by decide)) (jFL hX hc9 (by decide) (by decide)) rfl ?_
  rintro _ _ ⟨rfl, rfl⟩
  refine J_stk (st' := [.int r7.1]) rfl ?_
  refine J_istore (lv' := [(5, .int r7.1), (0, .ref 4000000), (1, .ref a1), (2, .ref a2), (3, .ref a3), (4, .int i)]) E (jd dk_L_law_23 28 rfl) (by decide) rfl ?_
  refine J_aload_n E (jd dk_L_law_23 29 rfl) rfl 3 rfl ?_
  refine J_aload_n E (jd dk_L_law_23 30 rfl) rfl 1 rfl ?_
  refine J_iload E (jd dk_L_law_23 31 rfl) 5 rfl ?_
  refine J_iconst (v := 1) E (jd dk_L_law_23 32 rfl) rfl ?_
  refine J_iadd E (jd dk_L_law_23 33 rfl) ?_
  obtain ⟨x9, e10, hf⟩ := jbind hf
  refine J_sld E hS9 (jd dk_L_law_23 34 rfl) e10 ?_
  refine J_aload_n E (jd dk_L_law_23 35 rfl) rfl 1 rfl ?_
  refine J_iload E (jd dk_L_law_23 36 rfl) 5 rfl ?_
  refine J_iconst (v := 2) E (jd dk_L_law_23 37 rfl) rfl ?_
  refine J_iadd E (jd dk_L_law_23 38 rfl) ?_
  obtain ⟨x11, e12, hf⟩ := jbind hf
  refine J_sld E hS9 (jd dk_L_law_23 39 rfl) e12 ?_
  refine J_aload_n E (jd dk_L_law_23 40 rfl) rfl 1 rfl ?_
  refine J_iload E (jd dk_L_law_23 41 rfl) 5 rfl ?_
  refine J_iconst (v := 3) E (jd dk_L_law_23 42 rfl) rfl ?_
  refine J_iadd E (jd dk_L_law_23 43 rfl) ?_
  obtain ⟨x13, e14, hf⟩ := jbind hf
  refine J_sld E hS9 (jd dk_L_law_23 44 rfl) e14 ?_
  obtain ⟨u17, e18, hf⟩ := jbind hf
  obtain ⟨r15, e16, hf⟩ := jbind hf
  refine J_callV (st := []) E (jd dk_L_law_23 45 rfl) ml_RL_217 cal_X7_agree e18 rfl (lk_X7_agree (jE_g E) (jE_tr E) N e16) rfl (Nat.le_of_ble_eq_true rfl) (jRL hX (by decide) (by decide)) (jFM hX hc9 (by decide) (by decide)) rfl ?_
  rintro _ _ ⟨rfl, rfl⟩
  refine J_stk (st' := [.int r15.1]) rfl ?_
  refine J_istore (lv' := [(6, .int r15.1), (5, .int r7.1), (0, .ref 4000000), (1, .ref a1), (2, .ref a2), (3, .ref a3), (4, .int i)]) E (jd dk_L_law_23 46 rfl) (by decide) rfl ?_
  refine J_aload_n E (jd dk_L_law_23 47 rfl) rfl 4 rfl ?_
  obtain ⟨u21, e22, hf⟩ := jbind hf
  obtain ⟨r19, e20, hf⟩ := jbind hf
  refine J_callV (st := []) E (jd dk_L_law_23 48 rfl) ml_RL_124 cal_X7_thrown e22 rfl (lk_X7_thrown (jE_g E) (jE_tr E) N e20) rfl (Nat.le_of_ble_eq_true rfl) (jRL hX (by decide) (by decide)) (jFM hX hc9 (by decide) (by decide)) rfl ?_
  rintro _ _ ⟨rfl, rfl⟩
  refine J_stk (st' := [.int r19.1]) rfl ?_
  refine J_iload E (jd dk_L_law_23 49 rfl) 1 rfl ?_
  obtain ⟨c23, hf⟩ := jnz hf
  refine J_icmp_eq (tgt := 1993) E (jd dk_L_law_24 0 rfl) (by decide) (fun _ => ?_) (fun z => absurd z c23)
  refine J_iload E (jd dk_L_law_24 3 rfl) 1 rfl ?_
  by_cases c24 : r7.1 = 0
  · rw [if_neg (not_not_intro c24)] at hf
    refine J_if_ne (tgt := 2010) E (jd dk_L_law_24 4 rfl) (by decide) (fun z => absurd c24 z) (fun _ => ?_)
    refine J_aload_n E (jd dk_L_law_24 5 rfl) rfl 5 rfl ?_
    refine J_iconst (v := 0) E (jd dk_L_law_24 6 rfl) rfl ?_
    obtain ⟨x25, e26, hf⟩ := jbind hf
    refine J_lald E (jd dk_L_law_24 7 rfl) e26 ?_
    refine J_iload E (jd dk_L_law_24 8 rfl) 0 rfl ?_
    refine J_i2l E (jd dk_L_law_24 9 rfl) ?_
    refine J_lcmp E (jd dk_L_law_24 10 rfl) ?_
    obtain ⟨c27, hf⟩ := jnz hf
    refine J_if_eq (tgt := 2010) E (jd dk_L_law_24 11 rfl) (by decide) (fun _ => ?_) (fun z => absurd z c27)
    refine J_goto (tgt := 2480) E (jd dk_L_law_24 14 rfl) (by decide) ?_
    refine J_sub [2, 3, 4, 5, 6] rfl ?_
    refine J_widen (cells' := cc9 + 4) (slots' := ss9 + 24) (by omega) (by omega) ?_
    cases hf
    exact kb
  · rw [if_pos c24] at hf
    refine J_if_ne (tgt := 2010) E (jd dk_L_law_24 4 rfl) (by decide) (fun _ => ?_) (fun z => absurd z c24)
    refine J_goto (tgt := 2480) E (jd dk_L_law_24 14 rfl) (by decide) ?_
    refine J_sub [2, 3, 4, 5, 6] rfl ?_
    refine J_widen (cells' := cc9 + 4) (slots' := ss9 + 24) (by omega) (by omega) ?_
    cases hf
    exact kb
def f_L_c30 (N L : Nat) (xs : Nat → Int32) (a1 a2 a3 : Nat) (i : Int32) (h : AH) : Option AH :=
  (jsx L xs (i + 1)).bind fun x1 =>
  (jsx L xs (i + 2)).bind fun x3 =>
  (jsx L xs (i + 3)).bind fun x5 =>
  (f_L_see N h a1 x1 x3 x5 a3).bind fun r7 =>
  (jsx L xs (i + 1)).bind fun x9 =>
  (jsx L xs (i + 2)).bind fun x11 =>
  (jsx L xs (i + 3)).bind fun x13 =>
  (jck 7 r7.2 a2).bind fun _ =>
  (f_X7_see N r7.2 a2 x9 x11 x13).bind fun r15 =>
  (jck 7 r15.2 a2).bind fun _ =>
  (f_X7_thrown N r15.2 a2).bind fun r19 =>
  if ¬ r19.1 = r7.1 then none else
  if ¬ r7.1 = 0 then some r19.2 else
  (jll 3 r19.2 a3 0).bind fun x25 =>
  if ¬ (lg_cmp x25 (Int32.toInt64 r15.1)) = 0 then none else
  some r19.2
set_option maxRecDepth 100000 in
set_option maxHeartbeats 4000000 in
theorem lk_L_c30 {G : JG} {X : JX} (E : jE G X (RL, cL_law, 7)) (hX : X.2.2.2.1 = room_1) {L : Nat} {xs : Nat → Int32} (hS9 : jScr G X L xs) (N : Nat) {a1 a2 a3 : Nat} {i : Int32} {h h1 : AH} {cc9 ss9 : Nat} (hc9 : cc9 + 4 ≤ 601024 ∧ ss9 + 24 ≤ 7293033) {Q : State → Prop} (hf : f_L_c30 N L xs a1 a2 a3 i h = some h1) (kb : JW G X (RL, cL_law, 7) h1 [(0, .ref 4000000), (1, .ref a1), (2, .ref a2), (3, .ref a3), (4, .int i)] [] 2480 (cc9 + 4) (ss9 + 24) Q) : JW G X (RL, cL_law, 7) h [(0, .ref 4000000), (1, .ref a1), (2, .ref a2), (3, .ref a3), (4, .int i)] [] 2013 cc9 ss9 Q := by
  unfold f_L_c30 at hf
  refine J_aload_n E (jd dk_L_law_24 15 rfl) rfl 1 rfl ?_
  refine J_aload_n E (jd dk_L_law_24 16 rfl) rfl 0 rfl ?_
  refine J_iload E (jd dk_L_law_24 17 rfl) 4 rfl ?_
  refine J_iconst (v := 1) E (jd dk_L_law_24 18 rfl) rfl ?_
  refine J_iadd E (jd dk_L_law_24 19 rfl) ?_
  obtain ⟨x1, e2, hf⟩ := jbind hf
  refine J_sld E hS9 (jd dk_L_law_24 20 rfl) e2 ?_
  refine J_aload_n E (jd dk_L_law_24 21 rfl) rfl 0 rfl ?_
  refine J_iload E (jd dk_L_law_24 22 rfl) 4 rfl ?_
  refine J_iconst (v := 2) E (jd dk_L_law_24 23 rfl) rfl ?_
  refine J_iadd E (jd dk_L_law_24 24 rfl) ?_
  obtain ⟨x3, e4, hf⟩ := jbind hf
  refine J_sld E hS9 (jd dk_L_law_24 25 rfl) e4 ?_
  refine J_aload_n E (jd dk_L_law_24 26 rfl) rfl 0 rfl ?_
  refine J_iload E (jd dk_L_law_24 27 rfl) 4 rfl ?_
  refine J_iconst (v := 3) E (jd dk_L_law_24 28 rfl) rfl ?_
  refine J_iadd E (jd dk_L_law_24 29 rfl) ?_
  obtain ⟨x5, e6, hf⟩ := jbind hf
  refine J_sld E hS9 (jd dk_L_law_24 30 rfl) e6 ?_
  refine J_aload_n E (jd dk_L_law_24 31 rfl) rfl 3 rfl ?_
  obtain ⟨r7, e8, hf⟩ := jbind hf
  refine J_callSW (st := []) E (jd dk_L_law_24 32 rfl) ml_RL_218 cal_L_see.1 cal_L_see.2.1 cal_L_see.2.2.1 cal_L_see.2.2.2 (lk_L_see (jE_g E) (jE_tr E) N e8) rfl (Nat.le_of_ble_eq_true rfl) (jRL hX (by decide) (by decide)) (jFL hX hc9 (by decide) (by decide)) rfl ?_
  rintro _ _ ⟨rfl, rfl⟩
  refine J_stk (st' := [.int r7.1]) rfl ?_
  refine J_istore (lv' := [(5, .int r7.1), (0, .ref 4000000), (1, .ref a1), (2, .ref a2), (3, .ref a3), (4, .int i)]) E (jd dk_L_law_24 33 rfl) (by decide) rfl ?_
  refine J_aload_n E (jd dk_L_law_24 34 rfl) rfl 3 rfl ?_
  refine J_aload_n E (jd dk_L_law_24 35 rfl) rfl 1 rfl ?_
  refine J_iload E (jd dk_L_law_24 36 rfl) 5 rfl ?_
  refine J_iconst (v := 1) E (jd dk_L_law_24 37 rfl) rfl ?_
  refine J_iadd E (jd dk_L_law_24 38 rfl) ?_
  obtain ⟨x9, e10, hf⟩ := jbind hf
  refine J_sld E hS9 (jd dk_L_law_24 39 rfl) e10 ?_
  refine J_aload_n E (jd dk_L_law_24 40 rfl) rfl 1 rfl ?_
  refine J_iload E (jd dk_L_law_24 41 rfl) 5 rfl ?_
  refine J_iconst (v := 2) E (jd dk_L_law_24 42 rfl) rfl ?_
  refine J_iadd E (jd dk_L_law_24 43 rfl) ?_
  obtain ⟨x11, e12, hf⟩ := jbind hf
  refine J_sld E hS9 (jd dk_L_law_24 44 rfl) e12 ?_
  refine J_aload_n E (jd dk_L_law_24 45 rfl) rfl 1 rfl ?_
  refine J_iload E (jd dk_L_law_24 46 rfl) 5 rfl ?_
  refine J_iconst (v := 3) E (jd dk_L_law_24 47 rfl) rfl ?_
  refine J_iadd E (jd dk_L_law_24 48 rfl) ?_
  obtain ⟨x13, e14, hf⟩ := jbind hf
  refine J_sld E hS9 (jd dk_L_law_24 49 rfl) e14 ?_
  obtain ⟨u17, e18, hf⟩ := jbind hf
  obtain ⟨r15, e16, hf⟩ := jbind hf
  refine J_callV (st := []) E (jd dk_L_law_25 0 rfl) ml_RL_220 cal_X7_see e18 rfl (lk_X7_see (jE_g E) (jE_tr E) N e16) rfl (Nat.le_of_ble_eq_true rfl) (jRL hX (by decide) (by decide)) (jFM hX hc9 (by decide) (by decide)) rfl ?_
  rintro _ _ ⟨rfl, rfl⟩
  refine J_stk (st' := [.int r15.1]) rfl ?_
  refine J_istore (lv' := [(6, .int r15.1), (5, .int r7.1), (0, .ref 4000000), (1, .ref a1), (2, .ref a2), (3, .ref a3), (4, .int i)]) E (jd dk_L_law_25 1 rfl) (by decide) rfl ?_
  refine J_aload_n E (jd dk_L_law_25 2 rfl) rfl 4 rfl ?_
  obtain ⟨u21, e22, hf⟩ := jbind hf
  obtain ⟨r19, e20, hf⟩ := jbind hf
  refine J_callV (st := []) E (jd dk_L_law_25 3 rfl) ml_RL_124 cal_X7_thrown e22 rfl (lk_X7_thrown (jE_g E) (jE_tr E) N e20) rfl (Nat.le_of_ble_eq_true rfl) (jRL hX (by decide) (by decide)) (jFM hX hc9 (by decide) (by decide)) rfl ?_
  rintro _ _ ⟨rfl, rfl⟩
  refine J_stk (st' := [.int r19.1]) rfl ?_
  refine J_iload E (jd dk_L_law_25 4 rfl) 1 rfl ?_
  obtain ⟨c23, hf⟩ := jnz hf
  refine J_icmp_eq (tgt := 2073) E (jd dk_L_law_25 5 rfl) (by decide) (fun _ => ?_) (fun z => absurd z c23)
  refine J_iload E (jd dk_L_law_25 8 rfl) 1 rfl ?_
  by_cases c24 : r7.1 = 0
  · rw [if_neg (not_not_intro c24)] at hf
    refine J_if_ne (tgt := 2090) E (jd dk_L_law_25 9 rfl) (by decide) (fun z => absurd c24 z) (fun _ => ?_)
    refine J_aload_n E (jd dk_L_law_25 10 rfl) rfl 5 rfl ?_
    refine J_iconst (v := 0) E (jd dk_L_law_25 11 rfl) rfl ?_
    obtain ⟨x25, e26, hf⟩ := jbind hf
    refine J_lald E (jd dk_L_law_25 12 rfl) e26 ?_
    refine J_iload E (jd dk_L_law_25 13 rfl) 0 rfl ?_
    refine J_i2l E (jd dk_L_law_25 14 rfl) ?_
    refine J_lcmp E (jd dk_L_law_25 15 rfl) ?_
    obtain ⟨c27, hf⟩ := jnz hf
    refine J_if_eq (tgt := 2090) E (jd dk_L_law_25 16 rfl) (by decide) (fun _ => ?_) (fun z => absurd z c27)
    refine J_goto (tgt := 2480) E (jd dk_L_law_25 19 rfl) (by decide) ?_
    refine J_sub [2, 3, 4, 5, 6] rfl ?_
    refine J_widen (cells' := cc9 + 4) (slots' := ss9 + 24) (by omega) (by omega) ?_
    cases hf
    exact kb
  · rw [if_pos c24] at hf
    refine J_if_ne (tgt := 2090) E (jd dk_L_law_25 9 rfl) (by decide) (fun _ => ?_) (fun z => absurd z c24)
    refine J_goto (tgt := 2480) E (jd dk_L_law_25 19 rfl) (by decide) ?_
    refine J_sub [2, 3, 4, 5, 6] rfl ?_
    refine J_widen (cells' := cc9 + 4) (slots' := ss9 + 24) (by omega) (by omega) ?_
    cases hf
    exact kb
def f_L_c31 (N L : Nat) (xs : Nat → Int32) (a1 a2 a3 : Nat) (i : Int32) (h : AH) : Option AH :=
  (jsx L xs (i + 1)).bind fun x1 =>
  (f_L_leans N h a1 x1 a3).bind fun r3 =>
  (jsx L xs (i + 1)).bind fun x5 =>
  (jck 7 r3.2 a2).bind fun _ =>
  (f_X7_leans N r3.2 a2 x5).bind fun r7 =>
  (jck 7 r7.2 a2).bind fun _ =>
  (f_X7_thrown N r7.2 a2).bind fun r11 =>
  if ¬ r11.1 = r3.1 then none else
  if ¬ r3.1 = 0 then some r11.2 else
  (jll 3 r11.2 a3 0).bind fun x17 =>
  if ¬ (lg_cmp x17 (Int32.toInt64 r7.1)) = 0 then none else
  some r11.2
set_option maxRecDepth 100000 in
set_option maxHeartbeats 4000000 in
theorem lk_L_c31 {G : JG} {X : JX} (E : jE G X (RL, cL_law, 7)) (hX : X.2.2.2.1 = room_1) {L : Nat} {xs : Nat → Int32} (hS9 : jScr G X L xs) (N : Nat) {a1 a2 a3 : Nat} {i : Int32} {h h1 : AH} {cc9 ss9 : Nat} (hc9 : cc9 + 4 ≤ 601024 ∧ ss9 + 24 ≤ 7293033) {Q : State → Prop} (hf : f_L_c31 N L xs a1 a2 a3 i h = some h1) (kb : JW G X (RL, cL_law, 7) h1 [(0, .ref 4000000), (1, .ref a1), (2, .ref a2), (3, .ref a3), (4, .int i)] [] 2480 (cc9 + 4) (ss9 + 24) Q) : JW G X (RL, cL_law, 7) h [(0, .ref 4000000), (1, .ref a1), (2, .ref a2), (3, .ref a3), (4, .int i)] [] 2093 cc9 ss9 Q := by
  unfold f_L_c31 at hf
  refine J_aload_n E (jd dk_L_law_25 20 rfl) rfl 1 rfl ?_
  refine J_aload_n E (jd dk_L_law_25 21 rfl) rfl 0 rfl ?_
  refine J_iload E (jd dk_L_law_25 22 rfl) 4 rfl ?_
  refine J_iconst (v := 1) E (jd dk_L_law_25 23 rfl) rfl ?_
  refine J_iadd E (jd dk_L_law_25 24 rfl) ?_
  obtain ⟨x1, e2, hf⟩ := jbind hf
  refine J_sld E hS9 (jd dk_L_law_25 25 rfl) e2 ?_
  refine J_aload_n E (jd dk_L_law_25 26 rfl) rfl 3 rfl ?_
  obtain ⟨r3, e4, hf⟩ := jbind hf
  refine J_callSW (st := []) E (jd dk_L_law_25 27 rfl) ml_RL_221 cal_L_leans.1 cal_L_leans.2.1 cal_L_leans.2.2.1 cal_L_leans.2.2.2 (lk_L_leans (jE_g E) (jE_tr E) N e4) rfl (Nat.le_of_ble_eq_true rfl) (jRL hX (by decide) (by decide)) (jFL hX hc9 (by decide) (by decide)) rfl ?_
  rintro _ _ ⟨rfl, rfl⟩
  refine J_stk (st' := [.int r3.1]) rfl ?_
  refine J_istore (lv' := [(5, .int r3.1), (0, .ref 4000000), (1, .ref a1), (2, .ref a2), (3, .ref a3), (4, .int i)]) E (jd dk_L_law_25 28 rfl) (by decide) rfl ?_
  refine J_aload_n E (jd dk_L_law_25 29 rfl) rfl 3 rfl ?_
  refine J_aload_n E (jd dk_L_law_25 30 rfl) rfl 1 rfl ?_
  refine J_iload E (jd dk_L_law_25 31 rfl) 5 rfl ?_
  refine J_iconst (v := 1) E (jd dk_L_law_25 32 rfl) rfl ?_
  refine J_iadd E (jd dk_L_law_25 33 rfl) ?_
  obtain ⟨x5, e6, hf⟩ := jbind hf
  refine J_sld E hS9 (jd dk_L_law_25 34 rfl) e6 ?_
  obtain ⟨u9, e10, hf⟩ := jbind hf
  obtain ⟨r7, e8, hf⟩ := jbind hf
  refine J_callV (st := []) E (jd dk_L_law_25 35 rfl) ml_RL_223 cal_X7_leans e10 rfl (lk_X7_leans (jE_g E) (jE_tr E) N e8) rfl (Nat.le_of_ble_eq_true rfl) (jRL hX (by decide) (by decide)) (jFM hX hc9 (by decide) (by decide)) rfl ?_
  rintro _ _ ⟨rfl, rfl⟩
  refine J_stk (st' := [.int r7.1]) rfl ?_
  refine J_istore (lv' := [(6, .int r7.1), (5, .int r3.1), (0, .ref 4000000), (1, .ref a1), (2, .ref a2), (3, .ref a3), (4, .int i)]) E (jd dk_L_law_25 36 rfl) (by decide) rfl ?_
  refine J_aload_n E (jd dk_L_law_25 37 rfl) rfl 4 rfl ?_
  obtain ⟨u13, e14, hf⟩ := jbind hf
  obtain ⟨r11, e12, hf⟩ := jbind hf
  refine J_callV (st := []) E (jd dk_L_law_25 38 rfl) ml_RL_124 cal_X7_thrown e14 rfl (lk_X7_thrown (jE_g E) (jE_tr E) N e12) rfl (Nat.le_of_ble_eq_true rfl) (jRL hX (by decide) (by decide)) (jFM hX hc9 (by decide) (by decide)) rfl ?_
  rintro _ _ ⟨rfl, rfl⟩
  refine J_stk (st' := [.int r11.1]) rfl ?_
  refine J_iload E (jd dk_L_law_25 39 rfl) 1 rfl ?_
  obtain ⟨c15, hf⟩ := jnz hf
  refine J_icmp_eq (tgt := 2129) E (jd dk_L_law_25 40 rfl) (by decide) (fun _ => ?_) (fun z => absurd z c15)
  refine J_iload E (jd dk_L_law_25 43 rfl) 1 rfl ?_
  by_cases c16 : r3.1 = 0
  · rw [if_neg (not_not_intro c16)] at hf
    refine J_if_ne (tgt := 2146) E (jd dk_L_law_25 44 rfl) (by decide) (fun z => absurd c16 z) (fun _ => ?_)
    refine J_aload_n E (jd dk_L_law_25 45 rfl) rfl 5 rfl ?_
    refine J_iconst (v := 0) E (jd dk_L_law_25 46 rfl) rfl ?_
    obtain ⟨x17, e18, hf⟩ := jbind hf
    refine J_lald E (jd dk_L_law_25 47 rfl) e18 ?_
    refine J_iload E (jd dk_L_law_25 48 rfl) 0 rfl ?_
    refine J_i2l E (jd dk_L_law_25 49 rfl) ?_
    refine J_lcmp E (jd dk_L_law_26 0 rfl) ?_
    obtain ⟨c19, hf⟩ := jnz hf
    refine J_if_eq (tgt := 2146) E (jd dk_L_law_26 1 rfl) (by decide) (fun _ => ?_) (fun z => absurd z c19)
    refine J_goto (tgt := 2480) E (jd dk_L_law_26 4 rfl) (by decide) ?_
    refine J_sub [2, 3, 4, 5, 6] rfl ?_
    refine J_widen (cells' := cc9 + 4) (slots' := ss9 + 24) (by omega) (by omega) ?_
    cases hf
    exact kb
  · rw [if_pos c16] at hf
    refine J_if_ne (tgt := 2146) E (jd dk_L_law_25 44 rfl) (by decide) (fun _ => ?_) (fun z => absurd z c16)
    refine J_goto (tgt := 2480) E (jd dk_L_law_26 4 rfl) (by decide) ?_
    refine J_sub [2, 3, 4, 5, 6] rfl ?_
    refine J_widen (cells' := cc9 + 4) (slots' := ss9 + 24) (by omega) (by omega) ?_
    cases hf
    exact kb
def f_L_c32 (N L : Nat) (xs : Nat → Int32) (a1 a2 a3 : Nat) (i : Int32) (h : AH) : Option AH :=
  (jsx L xs (i + 1)).bind fun x1 =>
  (f_L_watch N h a1 x1 a3).bind fun r3 =>
  (jsx L xs (i + 1)).bind fun x5 =>
  (jck 7 r3.2 a2).bind fun _ =>
  (f_X7_watch N r3.2 a2 x5).bind fun r7 =>
  (jck 7 r7.2 a2).bind fun _ =>
  (f_X7_thrown N r7.2 a2).bind fun r11 =>
  if ¬ r11.1 = r3.1 then none else
  if ¬ r3.1 = 0 then some r11.2 else
  (jll 3 r11.2 a3 0).bind fun x17 =>
  if ¬ (lg_cmp x17 (Int32.toInt64 r7.1)) = 0 then none else
  some r11.2
set_option maxRecDepth 100000 in
set_option maxHeartbeats 4000000 in
theorem lk_L_c32 {G : JG} {X : JX} (E : jE G X (RL, cL_law, 7)) (hX : X.2.2.2.1 = room_1) {L : Nat} {xs : Nat → Int32} (hS9 : jScr G X L xs) (N : Nat) {a1 a2 a3 : Nat} {i : Int32} {h h1 : AH} {cc9 ss9 : Nat} (hc9 : cc9 + 4 ≤ 601024 ∧ ss9 + 24 ≤ 7293033) {Q : State → Prop} (hf : f_L_c32 N L xs a1 a2 a3 i h = some h1) (kb : JW G X (RL, cL_law, 7) h1 [(0, .ref 4000000), (1, .ref a1), (2, .ref a2), (3, .ref a3), (4, .int i)] [] 2480 (cc9 + 4) (ss9 + 24) Q) : JW G X (RL, cL_law, 7) h [(0, .ref 4000000), (1, .ref a1), (2, .ref a2), (3, .ref a3), (4, .int i)] [] 2149 cc9 ss9 Q := by
  unfold f_L_c32 at hf
  refine J_aload_n E (jd dk_L_law_26 5 rfl) rfl 1 rfl ?_
  refine J_aload_n E (jd dk_L_law_26 6 rfl) rfl 0 rfl ?_
  refine J_iload E (jd dk_L_law_26 7 rfl) 4 rfl ?_
  refine J_iconst (v := 1) E (jd dk_L_law_26 8 rfl) rfl ?_
  refine J_iadd E (jd dk_L_law_26 9 rfl) ?_
  obtain ⟨x1, e2, hf⟩ := jbind hf
  refine J_sld E hS9 (jd dk_L_law_26 10 rfl) e2 ?_
  refine J_aload_n E (jd dk_L_law_26 11 rfl) rfl 3 rfl ?_
  obtain ⟨r3, e4, hf⟩ := jbind hf
  refine J_callSW (st := []) E (jd dk_L_law_26 12 rfl) ml_RL_224 cal_L_watch.1 cal_L_watch.2.1 cal_L_watch.2.2.1 cal_L_watch.2.2.2 (lk_L_watch (jE_g E) (jE_tr E) N e4) rfl (Nat.le_of_ble_eq_true rfl) (jRL hX (by decide) (by decide)) (jFL hX hc9 (by decide) (by decide)) rfl ?_
  rintro _ _ ⟨rfl, rfl⟩
  refine J_stk (st' := [.int r3.1]) rfl ?_
  refine J_istore (lv' := [(5, .int r3.1), (0, .ref 4000000), (1, .ref a1), (2, .ref a2), (3, .ref a3), (4, .int i)]) E (jd dk_L_law_26 13 rfl) (by decide) rfl ?_
  refine J_aload_n E (jd dk_L_law_26 14 rfl) rfl 3 rfl ?_
  refine J_aload_n E (jd dk_L_law_26 15 rfl) rfl 1 rfl ?_
  refine J_iload E (jd dk_L_law_26 16 rfl) 5 rfl ?_
  refine J_iconst (v := 1) E (jd dk_L_law_26 17 rfl) rfl ?_
  refine J_iadd E (jd dk_L_law_26 18 rfl) ?_
  obtain ⟨x5, e6, hf⟩ := jbind hf
  refine J_sld E hS9 (jd dk_L_law_26 19 rfl) e6 ?_
  obtain ⟨u9, e10, hf⟩ := jbind hf
  obtain ⟨r7, e8, hf⟩ := jbind hf
  refine J_callV (st := []) E (jd dk_L_law_26 20 rfl) ml_RL_226 cal_X7_watch e10 rfl (lk_X7_watch (jE_g E) (jE_tr E) N e8) rfl (Nat.le_of_ble_eq_true rfl) (jRL hX (by decide) (by decide)) (jFM hX hc9 (by decide) (by decide)) rfl ?_
  rintro _ _ ⟨rfl, rfl⟩
  refine J_stk (st' := [.int r7.1]) rfl ?_
  refine J_istore (lv' := [(6, .int r7.1), (5, .int r3.1), (0, .ref 4000000), (1, .ref a1), (2, .ref a2), (3, .ref a3), (4, .int i)]) E (jd dk_L_law_26 21 rfl) (by decide) rfl ?_
  refine J_aload_n E (jd dk_L_law_26 22 rfl) rfl 4 rfl ?_
  obtain ⟨u13, e14, hf⟩ := jbind hf
  obtain ⟨r11, e12, hf⟩ := jbind hf
  refine J_callV (st := []) E (jd dk_L_law_26 23 rfl) ml_RL_124 cal_X7_thrown e14 rfl (lk_X7_thrown (jE_g E) (jE_tr E) N e12) rfl (Nat.le_of_ble_eq_true rfl) (jRL hX (by decide) (by decide)) (jFM hX hc9 (by decide) (by decide)) rfl ?_
  rintro _ _ ⟨rfl, rfl⟩
  refine J_stk (st' := [.int r11.1]) rfl ?_
  refine J_iload E (jd dk_L_law_26 24 rfl) 1 rfl ?_
  obtain ⟨c15, hf⟩ := jnz hf
  refine J_icmp_eq (tgt := 2185) E (jd dk_L_law_26 25 rfl) (by decide) (fun _ => ?_) (fun z => absurd z c15)
  refine J_iload E (jd dk_L_law_26 28 rfl) 1 rfl ?_
  by_cases c16 : r3.1 = 0
  · rw [if_neg (not_not_intro c16)] at hf
    refine J_if_ne (tgt := 2202) E (jd dk_L_law_26 29 rfl) (by decide) (fun z => absurd c16 z) (fun _ => ?_)
    refine J_aload_n E (jd dk_L_law_26 30 rfl) rfl 5 rfl ?_
    refine J_iconst (v := 0) E (jd dk_L_law_26 31 rfl) rfl ?_
    obtain ⟨x17, e18, hf⟩ := jbind hf
    refine J_lald E (jd dk_L_law_26 32 rfl) e18 ?_
    refine J_iload E (jd dk_L_law_26 33 rfl) 0 rfl ?_
    refine J_i2l E (jd dk_L_law_26 34 rfl) ?_
    refine J_lcmp E (jd dk_L_law_26 35 rfl) ?_
    obtain ⟨c19, hf⟩ := jnz hf
    refine J_if_eq (tgt := 2202) E (jd dk_L_law_26 36 rfl) (by decide) (fun _ => ?_) (fun z => absurd z c19)
    refine J_goto (tgt := 2480) E (jd dk_L_law_26 39 rfl) (by decide) ?_
    refine J_sub [2, 3, 4, 5, 6] rfl ?_
    refine J_widen (cells' := cc9 + 4) (slots' := ss9 + 24) (by omega) (by omega) ?_
    cases hf
    exact kb
  · rw [if_pos c16] at hf
    refine J_if_ne (tgt := 2202) E (jd dk_L_law_26 29 rfl) (by decide) (fun _ => ?_) (fun z => absurd z c16)
    refine J_goto (tgt := 2480) E (jd dk_L_law_26 39 rfl) (by decide) ?_
    refine J_sub [2, 3, 4, 5, 6] rfl ?_
    refine J_widen (cells' := cc9 + 4) (slots' := ss9 + 24) (by omega) (by omega) ?_
    cases hf
    exact kb
def f_L_c33 (N L : Nat) (xs : Nat → Int32) (a1 a2 a3 : Nat) (i : Int32) (h : AH) : Option AH :=
  (jck 6 h a1).bind fun _ =>
  (f_X6_forget N h a1).bind fun r1 =>
  (jck 7 r1 a2).bind fun _ =>
  (f_X7_forget N r1 a2).bind fun r5 =>
  some r5
set_option maxRecDepth 100000 in
set_option maxHeartbeats 4000000 in
theorem lk_L_c33 {G : JG} {X : JX} (E : jE G X (RL, cL_law, 7)) (hX : X.2.2.2.1 = room_1) {L : Nat} {xs : Nat → Int32} (hS9 : jScr G X L xs) (N : Nat) {a1 a2 a3 : Nat} {i : Int32} {h h1 : AH} {cc9 ss9 : Nat} (hc9 : cc9 + 4 ≤ 601024 ∧ ss9 + 24 ≤ 7293033) {Q : State → Prop} (hf : f_L_c33 N L xs a1 a2 a3 i h = some h1) (kb : JW G X (RL, cL_law, 7) h1 [(0, .ref 4000000), (1, .ref a1), (2, .ref a2), (3, .ref a3), (4, .int i)] [] 2480 (cc9 + 4) (ss9 + 24) Q) : JW G X (RL, cL_law, 7) h [(0, .ref 4000000), (1, .ref a1), (2, .ref a2), (3, .ref a3), (4, .int i)] [] 2205 cc9 ss9 Q := by
  unfold f_L_c33 at hf
  refine J_aload_n E (jd dk_L_law_26 40 rfl) rfl 1 rfl ?_
  obtain ⟨u3, e4, hf⟩ := jbind hf
  obtain ⟨r1, e2, hf⟩ := jbind hf
  refine J_callV (st := []) E (jd dk_L_law_26 41 rfl) ml_RL_227 cal_X6_forget e4 rfl (lk_X6_forget (jE_g E) (jE_tr E) N e2) rfl (Nat.le_of_ble_eq_true rfl) (jRL hX (by decide) (by decide)) (jFL hX hc9 (by decide) (by decide)) rfl ?_
  rintro _ _ ⟨rfl, rfl⟩
  refine J_stk (st' := []) rfl ?_
  refine J_aload_n E (jd dk_L_law_26 42 rfl) rfl 2 rfl ?_
  obtain ⟨u7, e8, hf⟩ := jbind hf
  obtain ⟨r5, e6, hf⟩ := jbind hf
  refine J_callV (st := []) E (jd dk_L_law_26 43 rfl) ml_RL_230 cal_X7_forget e8 rfl (lk_X7_forget (jE_g E) (jE_tr E) N e6) rfl (Nat.le_of_ble_eq_true rfl) (jRL hX (by decide) (by decide)) (jFL hX hc9 (by decide) (by decide)) rfl ?_
  rintro _ _ ⟨rfl, rfl⟩
  refine J_stk (st' := []) rfl ?_
  refine J_goto (tgt := 2480) E (jd dk_L_law_26 44 rfl) (by decide) ?_
  refine J_sub [0, 1, 2, 3, 4] rfl ?_
  refine J_widen (cells' := cc9 + 4) (slots' := ss9 + 24) (by omega) (by omega) ?_
  cases hf
  exact kb
def f_L_c34 (N L : Nat) (xs : Nat → Int32) (a1 a2 a3 : Nat) (i : Int32) (h : AH) : Option AH :=
  (jsx L xs (i + 1)).bind fun x1 =>
  (jsx L xs (i + 2)).bind fun x3 =>
  (jsx L xs (i + 3)).bind fun x5 =>
  (f_L_floods N h a1 x1 x3 x5 a3).bind fun r7 =>
  (jsx L xs (i + 1)).bind fun x9 =>
  (jsx L xs (i + 2)).bind fun x11 =>
  (jsx L xs (i + 3)).bind fun x13 =>
  (jck 7 r7.2 a2).bind fun _ =>
  (f_X7_floods N r7.2 a2 x9 x11 x13).bind fun r15 =>
  (jck 7 r15.2 a2).bind fun _ =>
  (f_X7_thrown N r15.2 a2).bind fun r19 =>
  if ¬ r19.1 = r7.1 then none else
  if ¬ r7.1 = 0 then some r19.2 else
  (jll 3 r19.2 a3 0).bind fun x25 =>
  if ¬ (lg_cmp x25 (Int32.toInt64 r15.1)) = 0 then none else
  some r19.2
set_option maxRecDepth 100000 in
set_option maxHeartbeats 4000000 in
theorem lk_L_c34 {G : JG} {X : JX} (E : jE G X (RL, cL_law, 7)) (hX : X.2.2.2.1 = room_1) {L : Nat} {xs : Nat → Int32} (hS9 : jScr G X L xs) (N : Nat) {a1 a2 a3 : Nat} {i : Int32} {h h1 : AH} {cc9 ss9 : Nat} (hc9 : cc9 + 4 ≤ 601024 ∧ ss9 + 24 ≤ 7293033) {Q : State → Prop} (hf : f_L_c34 N L xs a1 a2 a3 i h = some h1) (kb : JW G X (RL, cL_law, 7) h1 [(0, .ref 4000000), (1, .ref a1), (2, .ref a2), (3, .ref a3), (4, .int i)] [] 2480 (cc9 + 4) (ss9 + 24) Q) : JW G X (RL, cL_law, 7) h [(0, .ref 4000000), (1, .ref a1), (2, .ref a2), (3, .ref a3), (4, .int i)] [] 2216 cc9 ss9 Q := by
  unfold f_L_c34 at hf
  refine J_aload_n E (jd dk_L_law_26 45 rfl) rfl 1 rfl ?_
  refine J_aload_n E (jd dk_L_law_26 46 rfl) rfl 0 rfl ?_
  refine J_iload E (jd dk_L_law_26 47 rfl) 4 rfl ?_
  refine J_iconst (v := 1) E (jd dk_L_law_26 48 rfl) rfl ?_
  refine J_iadd E (jd dk_L_law_26 49 rfl) ?_
  obtain ⟨x1, e2, hf⟩ := jbind hf
  refine J_sld E hS9 (jd dk_L_law_27 0 rfl) e2 ?_
  refine J_aload_n E (jd dk_L_law_27 1 rfl) rfl 0 rfl ?_
  refine J_iload E (jd dk_L_law_27 2 rfl) 4 rfl ?_
  refine J_iconst (v := 2) E (jd dk_L_law_27 3 rfl) rfl ?_
  refine J_iadd E (jd dk_L_law_27 4 rfl) ?_
  obtain ⟨x3, e4, hf⟩ := jbind hf
  refine J_sld E hS9 (jd dk_L_law_27 5 rfl) e4 ?_
  refine J_aload_n E (jd dk_L_law_27 6 rfl) rfl 0 rfl ?_
  refine J_iload E (jd dk_L_law_27 7 rfl) 4 rfl ?_
  refine J_iconst (v := 3) E (jd dk_L_law_27 8 rfl) rfl ?_
  refine J_iadd E (jd dk_L_law_27 9 rfl) ?_
  obtain ⟨x5, e6, hf⟩ := jbind hf
  refine J_sld E hS9 (jd dk_L_law_27 10 rfl) e6 ?_
  refine J_aload_n E (jd dk_L_law_27 11 rfl) rfl 3 rfl ?_
  obtain ⟨r7, e8, hf⟩ := jbind hf
  refine J_callSW (st := []) E (jd dk_L_law_27 12 rfl) ml_RL_231 cal_L_floods.1 cal_L_floods.2.1 cal_L_floods.2.2.1 cal_L_floods.2.2.2 (lk_L_floods (jE_g E) (jE_tr E) N e8) rfl (Nat.le_of_ble_eq_true rfl) (jRL hX (by decide) (by decide)) (jFL hX hc9 (by decide) (by decide)) rfl ?_
  rintro _ _ ⟨rfl, rfl⟩
  refine J_stk (st' := [.int r7.1]) rfl ?_
  refine J_istore (lv' := [(5, .int r7.1), (0, .ref 4000000), (1, .ref a1), (2, .ref a2), (3, .ref a3), (4, .int i)]) E (jd dk_L_law_27 13 rfl) (by decide) rfl ?_
  refine J_aload_n E (jd dk_L_law_27 14 rfl) rfl 3 rfl ?_
  refine J_aload_n E (jd dk_L_law_27 15 rfl) rfl 1 rfl ?_
  refine J_iload E (jd dk_L_law_27 16 rfl) 5 rfl ?_
  refine J_iconst (v := 1) E (jd dk_L_law_27 17 rfl) rfl ?_
  refine J_iadd E (jd dk_L_law_27 18 rfl) ?_
  obtain ⟨x9, e10, hf⟩ := jbind hf
  refine J_sld E hS9 (jd dk_L_law_27 19 rfl) e10 ?_
  refine J_aload_n E (jd dk_L_law_27 20 rfl) rfl 1 rfl ?_
  refine J_iload E (jd dk_L_law_27 21 rfl) 5 rfl ?_
  refine J_iconst (v := 2) E (jd dk_L_law_27 22 rfl) rfl ?_
  refine J_iadd E (jd dk_L_law_27 23 rfl) ?_
  obtain ⟨x11, e12, hf⟩ := jbind hf
  refine J_sld E hS9 (jd dk_L_law_27 24 rfl) e12 ?_
  refine J_aload_n E (jd dk_L_law_27 25 rfl) rfl 1 rfl ?_
  refine J_iload E (jd dk_L_law_27 26 rfl) 5 rfl ?_
  refine J_iconst (v := 3) E (jd dk_L_law_27 27 rfl) rfl ?_
  refine J_iadd E (jd dk_L_law_27 28 rfl) ?_
  obtain ⟨x13, e14, hf⟩ := jbind hf
  refine J_sld E hS9 (jd dk_L_law_27 29 rfl) e14 ?_
  obtain ⟨u17, e18, hf⟩ := jbind hf
  obtain ⟨r15, e16, hf⟩ := jbind hf
  refine J_callV (st := []) E (jd dk_L_law_27 30 rfl) ml_RL_233 cal_X7_floods e18 rfl (lk_X7_floods (jE_g E) (jE_tr E) N e16) rfl (Nat.le_of_ble_eq_true rfl) (jRL hX (by decide) (by decide)) (jFM hX hc9 (by decide) (by decide)) rfl ?_
  rintro _ _ ⟨rfl, rfl⟩
  refine J_stk (st' := [.int r15.1]) rfl ?_
  refine J_istore (lv' := [(6, .int r15.1), (5, .int r7.1), (0, .ref 4000000), (1, .ref a1), (2, .ref a2), (3, .ref a3), (4, .int i)]) E (jd dk_L_law_27 31 rfl) (by decide) rfl ?_
  refine J_aload_n E (jd dk_L_law_27 32 rfl) rfl 4 rfl ?_
  obtain ⟨u21, e22, hf⟩ := jbind hf
  obtain ⟨r19, e20, hf⟩ := jbind hf
  refine J_callV (st := []) E (jd dk_L_law_27 33 rfl) ml_RL_124 cal_X7_thrown e22 rfl (lk_X7_thrown (jE_g E) (jE_tr E) N e20) rfl (Nat.le_of_ble_eq_true rfl) (jRL hX (by decide) (by decide)) (jFM hX hc9 (by decide) (by decide)) rfl ?_
  rintro _ _ ⟨rfl, rfl⟩
  refine J_stk (st' := [.int r19.1]) rfl ?_
  refine J_iload E (jd dk_L_law_27 34 rfl) 1 rfl ?_
  obtain ⟨c23, hf⟩ := jnz hf
  refine J_icmp_eq (tgt := 2276) E (jd dk_L_law_27 35 rfl) (by decide) (fun _ => ?_) (fun z => absurd z c23)
  refine J_iload E (jd dk_L_law_27 38 rfl) 1 rfl ?_
  by_cases c24 : r7.1 = 0
  · rw [if_neg (not_not_intro c24)] at hf
    refine J_if_ne (tgt := 2293) E (jd dk_L_law_27 39 rfl) (by decide) (fun z => absurd c24 z) (fun _ => ?_)
    refine J_aload_n E (jd dk_L_law_27 40 rfl) rfl 5 rfl ?_
    refine J_iconst (v := 0) E (jd dk_L_law_27 41 rfl) rfl ?_
    obtain ⟨x25, e26, hf⟩ := jbind hf
    refine J_lald E (jd dk_L_law_27 42 rfl) e26 ?_
    refine J_iload E (jd dk_L_law_27 43 rfl) 0 rfl ?_
    refine J_i2l E (jd dk_L_law_27 44 rfl) ?_
    refine J_lcmp E (jd dk_L_law_27 45 rfl) ?_
    obtain ⟨c27, hf⟩ := jnz hf
    refine J_if_eq (tgt := 2293) E (jd dk_L_law_27 46 rfl) (by decide) (fun _ => ?_) (fun z => absurd z c27)
    refine J_goto (tgt := 2480) E (jd dk_L_law_27 49 rfl) (by decide) ?_
    refine J_sub [2, 3, 4, 5, 6] rfl ?_
    refine J_widen (cells' := cc9 + 4) (slots' := ss9 + 24) (by omega) (by omega) ?_
    cases hf
    exact kb
  · rw [if_pos c24] at hf
    refine J_if_ne (tgt := 2293) E (jd dk_L_law_27 39 rfl) (by decide) (fun _ => ?_) (fun z => absurd z c24)
    refine J_goto (tgt := 2480) E (jd dk_L_law_27 49 rfl) (by decide) ?_
    refine J_sub [2, 3, 4, 5, 6] rfl ?_
    refine J_widen (cells' := cc9 + 4) (slots' := ss9 + 24) (by omega) (by omega) ?_
    cases hf
    exact kb
def f_L_c35 (N L : Nat) (xs : Nat → Int32) (a1 a2 a3 : Nat) (i : Int32) (h : AH) : Option AH :=
  (jsx L xs (i + 1)).bind fun x1 =>
  (jsx L xs (i + 2)).bind fun x3 =>
  (jsx L xs (i + 3)).bind fun x5 =>
  (f_L_game N h a1 x1 x3 x5 a3).bind fun r7 =>
  (jsx L xs (i + 1)).bind fun x9 =>
  (jsx L xs (i + 2)).bind fun x11 =>
  (jsx L xs (i + 3)).bind fun x13 =>
  (jck 7 r7.2 a2).bind fun _ =>
  (f_X7_game N r7.2 a2 x9 x11 x13).bind fun r15 =>
  (jck 7 r15.2 a2).bind fun _ =>
  (f_X7_thrown N r15.2 a2).bind fun r19 =>
  if ¬ r19.1 = r7.1 then none else
  if ¬ r7.1 = 0 then some r19.2 else
  (jll 3 r19.2 a3 0).bind fun x25 =>
  if ¬ (lg_cmp x25 (Int32.toInt64 r15.1)) = 0 then none else
  some r19.2
set_option maxRecDepth 100000 in
set_option maxHeartbeats 4000000 in
theorem lk_L_c35 {G : JG} {X : JX} (E : jE G X (RL, cL_law, 7)) (hX : X.2.2.2.1 = room_1) {L : Nat} {xs : Nat → Int32} (hS9 : jScr G X L xs) (N : Nat) {a1 a2 a3 : Nat} {i : Int32} {h h1 : AH} {cc9 ss9 : Nat} (hc9 : cc9 + 4 ≤ 601024 ∧ ss9 + 24 ≤ 7293033) {Q : State → Prop} (hf : f_L_c35 N L xs a1 a2 a3 i h = some h1) (kb : JW G X (RL, cL_law, 7) h1 [(0, .ref 4000000), (1, .ref a1), (2, .ref a2), (3, .ref a3), (4, .int i)] [] 2480 (cc9 + 4) (ss9 + 24) Q) : JW G X (RL, cL_law, 7) h [(0, .ref 4000000), (1, .ref a1), (2, .ref a2), (3, .ref a3), (4, .int i)] [] 2296 cc9 ss9 Q := by
  unfold f_L_c35 at hf
  refine J_aload_n E (jd dk_L_law_28 0 rfl) rfl 1 rfl ?_
  refine J_aload_n E (jd dk_L_law_28 1 rfl) rfl 0 rfl ?_
  refine J_iload E (jd dk_L_law_28 2 rfl) 4 rfl ?_
  refine J_iconst (v := 1) E (jd dk_L_law_28 3 rfl) rfl ?_
  refine J_iadd E (jd dk_L_law_28 4 rfl) ?_
  obtain ⟨x1, e2, hf⟩ := jbind hf
  refine J_sld E hS9 (jd dk_L_law_28 5 rfl) e2 ?_
  refine J_aload_n E (jd dk_L_law_28 6 rfl) rfl 0 rfl ?_
  refine J_iload E (jd dk_L_law_28 7 rfl) 4 rfl ?_
  refine J_iconst (v := 2) E (jd dk_L_law_28 8 rfl) rfl ?_
  refine J_iadd E (jd dk_L_law_28 9 rfl) ?_
  obtain ⟨x3, e4, hf⟩ := jbind hf
  refine J_sld E hS9 (jd dk_L_law_28 10 rfl) e4 ?_
  refine J_aload_n E (jd dk_L_law_28 11 rfl) rfl 0 rfl ?_
  refine J_iload E (jd dk_L_law_28 12 rfl) 4 rfl ?_
  refine J_iconst (v := 3) E (jd dk_L_law_28 13 rfl) rfl ?_
  refine J_iadd E (jd dk_L_law_28 14 rfl) ?_
  obtain ⟨x5, e6, hf⟩ := jbind hf
  refine J_sld E hS9 (jd dk_L_law_28 15 rfl) e6 ?_
  refine J_aload_n E (jd dk_L_law_28 16 rfl) rfl 3 rfl ?_
  obtain ⟨r7, e8, hf⟩ := jbind hf
  refine J_callSW (st := []) E (jd dk_L_law_28 17 rfl) ml_RL_234 cal_L_game.1 cal_L_game.2.1 cal_L_game.2.2.1 cal_L_game.2.2.2 (lk_L_game (jE_g E) (jE_tr E) N e8) rfl (Nat.le_of_ble_eq_true rfl) (jRL hX (by decide) (by decide)) (jFL hX hc9 (by decide) (by decide)) rfl ?_
  rintro _ _ ⟨rfl, rfl⟩
  refine J_stk (st' := [.int r7.1]) rfl ?_
  refine J_istore (lv' := [(5, .int r7.1), (0, .ref 4000000), (1, .ref a1), (2, .ref a2), (3, .ref a3), (4, .int i)]) E (jd dk_L_law_28 18 rfl) (by decide) rfl ?_
  refine J_aload_n E (jd dk_L_law_28 19 rfl) rfl 3 rfl ?_
  refine J_aload_n E (jd dk_L_law_28 20 rfl) rfl 1 rfl ?_
  refine J_iload E (jd dk_L_law_28 21 rfl) 5 rfl ?_
  refine J_iconst (v := 1) E (jd dk_L_law_28 22 rfl) rfl ?_
  refine J_iadd E (jd dk_L_law_28 23 rfl) ?_
  obtain ⟨x9, e10, hf⟩ := jbind hf
  refine J_sld E hS9 (jd dk_L_law_28 24 rfl) e10 ?_
  refine J_aload_n E (jd dk_L_law_28 25 rfl) rfl 1 rfl ?_
  refine J_iload E (jd dk_L_law_28 26 rfl) 5 rfl ?_
  refine J_iconst (v := 2) E (jd dk_L_law_28 27 rfl) rfl ?_
  refine J_iadd E (jd dk_L_law_28 28 rfl) ?_
  obtain ⟨x11, e12, hf⟩ := jbind hf
  refine J_sld E hS9 (jd dk_L_law_28 29 rfl) e12 ?_
  refine J_aload_n E (jd dk_L_law_28 30 rfl) rfl 1 rfl ?_
  refine J_iload E (jd dk_L_law_28 31 rfl) 5 rfl ?_
  refine J_iconst (v := 3) E (jd dk_L_law_28 32 rfl) rfl ?_
  refine J_iadd E (jd dk_L_law_28 33 rfl) ?_
  obtain ⟨x13, e14, hf⟩ := jbind hf
  refine J_sld E hS9 (jd dk_L_law_28 34 rfl) e14 ?_
  obtain ⟨u17, e18, hf⟩ := jbind hf
  obtain ⟨r15, e16, hf⟩ := jbind hf
  refine J_callV (st := []) E (jd dk_L_law_28 35 rfl) ml_RL_236 cal_X7_game e18 rfl (lk_X7_game (jE_g E) (jE_tr E) N e16) rfl (Nat.le_of_ble_eq_true rfl) (jRL hX (by decide) (by decide)) (jFM hX hc9 (by decide) (by decide)) rfl ?_
  rintro _ _ ⟨rfl, rfl⟩
  refine J_stk (st' := [.int r15.1]) rfl ?_
  refine J_istore (lv' := [(6, .int r15.1), (5, .int r7.1), (0, .ref 4000000), (1, .ref a1), (2, .ref a2), (3, .ref a3), (4, .int i)]) E (jd dk_L_law_28 36 rfl) (by decide) rfl ?_
  refine J_aload_n E (jd dk_L_law_28 37 rfl) rfl 4 rfl ?_
  obtain ⟨u21, e22, hf⟩ := jbind hf
  obtain ⟨r19, e20, hf⟩ := jbind hf
  refine J_callV (st := []) E (jd dk_L_law_28 38 rfl) ml_RL_124 cal_X7_thrown e22 rfl (lk_X7_thrown (jE_g E) (jE_tr E) N e20) rfl (Nat.le_of_ble_eq_true rfl) (jRL hX (by decide) (by decide)) (jFM hX hc9 (by decide) (by decide)) rfl ?_
  rintro _ _ ⟨rfl, rfl⟩
  refine J_stk (st' := [.int r19.1]) rfl ?_
  refine J_iload E (jd dk_L_law_28 39 rfl) 1 rfl ?_
  obtain ⟨c23, hf⟩ := jnz hf
  refine J_icmp_eq (tgt := 2356) E (jd dk_L_law_28 40 rfl) (by decide) (fun _ => ?_) (fun z => absurd z c23)
  refine J_iload E (jd dk_L_law_28 43 rfl) 1 rfl ?_
  by_cases c24 : r7.1 = 0
  · rw [if_neg (not_not_intro c24)] at hf
    refine J_if_ne (tgt := 2373) E (jd dk_L_law_28 44 rfl) (by decide) (fun z => absurd c24 z) (fun _ => ?_)
    refine J_aload_n E (jd dk_L_law_28 45 rfl) rfl 5 rfl ?_
    refine J_iconst (v := 0) E (jd dk_L_law_28 46 rfl) rfl ?_
    obtain ⟨x25, e26, hf⟩ := jbind hf
    refine J_lald E (jd dk_L_law_28 47 rfl) e26 ?_
    refine J_iload E (jd dk_L_law_28 48 rfl) 0 rfl ?_
    refine J_i2l E (jd dk_L_law_28 49 rfl) ?_
    refine J_lcmp E (jd dk_L_law_29 0 rfl) ?_
    obtain ⟨c27, hf⟩ := jnz hf
    refine J_if_eq (tgt := 2373) E (jd dk_L_law_29 1 rfl) (by decide) (fun _ => ?_) (fun z => absurd z c27)
    refine J_goto (tgt := 2480) E (jd dk_L_law_29 4 rfl) (by decide) ?_
    refine J_sub [2, 3, 4, 5, 6] rfl ?_
    refine J_widen (cells' := cc9 + 4) (slots' := ss9 + 24) (by omega) (by omega) ?_
    cases hf
    exact kb
  · rw [if_pos c24] at hf
    refine J_if_ne (tgt := 2373) E (jd dk_L_law_28 44 rfl) (by decide) (fun _ => ?_) (fun z => absurd z c24)
    refine J_goto (tgt := 2480) E (jd dk_L_law_29 4 rfl) (by decide) ?_
    refine J_sub [2, 3, 4, 5, 6] rfl ?_
    refine J_widen (cells' := cc9 + 4) (slots' := ss9 + 24) (by omega) (by omega) ?_
    cases hf
    exact kb
def f_L_c36 (N L : Nat) (xs : Nat → Int32) (a1 a2 a3 : Nat) (i : Int32) (h : AH) : Option AH :=
  (jsx L xs (i + 1)).bind fun x1 =>
  (jsx L xs (i + 2)).bind fun x3 =>
  (jsx L xs (i + 3)).bind fun x5 =>
  (f_L_years N h a1 x1 x3 x5 a3).bind fun r7 =>
  (jsx L xs (i + 1)).bind fun x9 =>
  (jsx L xs (i + 2)).bind fun x11 =>
  (jsx L xs (i + 3)).bind fun x13 =>
  (jck 7 r7.2 a2).bind fun _ =>
  (f_X7_years N r7.2 a2 x9 x11 x13).bind fun r15 =>
  (jck 7 r15.2 a2).bind fun _ =>
  (f_X7_thrown N r15.2 a2).bind fun r19 =>
  if ¬ r19.1 = r7.1 then none else
  if ¬ r7.1 = 0 then some r19.2 else
  (jll 3 r19.2 a3 0).bind fun x25 =>
  if ¬ (lg_cmp x25 (Int32.toInt64 r15.1)) = 0 then none else
  some r19.2
set_option maxRecDepth 100000 in
set_option maxHeartbeats 4000000 in
theorem lk_L_c36 {G : JG} {X : JX} (E : jE G X (RL, cL_law, 7)) (hX : X.2.2.2.1 = room_1) {L : Nat} {xs : Nat → Int32} (hS9 : jScr G X L xs) (N : Nat) {a1 a2 a3 : Nat} {i : Int32} {h h1 : AH} {cc9 ss9 : Nat} (hc9 : cc9 + 4 ≤ 601024 ∧ ss9 + 24 ≤ 7293033) {Q : State → Prop} (hf : f_L_c36 N L xs a1 a2 a3 i h = some h1) (kb : JW G X (RL, cL_law, 7) h1 [(0, .ref 4000000), (1, .ref a1), (2, .ref a2), (3, .ref a3), (4, .int i)] [] 2480 (cc9 + 4) (ss9 + 24) Q) : JW G X (RL, cL_law, 7) h [(0, .ref 4000000), (1, .ref a1), (2, .ref a2), (3, .ref a3), (4, .int i)] [] 2376 cc9 ss9 Q := by
  unfold f_L_c36 at hf
  refine J_aload_n E (jd dk_L_law_29 5 rfl) rfl 1 rfl ?_
  refine J_aload_n E (jd dk_L_law_29 6 rfl) rfl 0 rfl ?_
  refine J_iload E (jd dk_L_law_29 7 rfl) 4 rfl ?_
  refine J_iconst (v := 1) E (jd dk_L_law_29 8 rfl) rfl ?_
  refine J_iadd E (jd dk_L_law_29 9 rfl) ?_
  obtain ⟨x1, e2, hf⟩ := jbind hf
  refine J_sld E hS9 (jd dk_L_law_29 10 rfl) e2 ?_
  refine J_aload_n E (jd dk_L_law_29 11 rfl) rfl 0 rfl ?_
  refine J_iload E (jd dk_L_law_29 12 rfl) 4 rfl ?_
  refine J_iconst (v := 2) E (jd dk_L_law_29 13 rfl) rfl ?_
  refine J_iadd E (jd dk_L_law_29 14 rfl) ?_
  obtain ⟨x3, e4, hf⟩ := jbind hf
  refine J_sld E hS9 (jd dk_L_law_29 15 rfl) e4 ?_
  refine J_aload_n E (jd dk_L_law_29 16 rfl) rfl 0 rfl ?_
  refine J_iload E (jd dk_L_law_29 17 rfl) 4 rfl ?_
  refine J_iconst (v := 3) E (jd dk_L_law_29 18 rfl) rfl ?_
  refine J_iadd E (jd dk_L_law_29 19 rfl) ?_
  obtain ⟨x5, e6, hf⟩ := jbind hf
  refine J_sld E hS9 (jd dk_L_law_29 20 rfl) e6 ?_
  refine J_aload_n E (jd dk_L_law_29 21 rfl) rfl 3 rfl ?_
  obtain ⟨r7, e8, hf⟩ := jbind hf
  refine J_callSW (st := []) E (jd dk_L_law_29 22 rfl) ml_RL_237 cal_L_years.1 cal_L_years.2.1 cal_L_years.2.2.1 cal_L_years.2.2.2 (lk_L_years (jE_g E) (jE_tr E) N e8) rfl (Nat.le_of_ble_eq_true rfl) (jRL hX (by decide) (by decide)) (jFL hX hc9 (by decide) (by decide)) rfl ?_
  rintro _ _ ⟨rfl, rfl⟩
  refine J_stk (st' := [.int r7.1]) rfl ?_
  refine J_istore (lv' := [(5, .int r7.1), (0, .ref 4000000), (1, .ref a1), (2, .ref a2), (3, .ref a3), (4, .int i)]) E (jd dk_L_law_29 23 rfl) (by decide) rfl ?_
  refine J_aload_n E (jd dk_L_law_29 24 rfl) rfl 3 rfl ?_
  refine J_aload_n E (jd dk_L_law_29 25 rfl) rfl 1 rfl ?_
  refine J_iload E (jd dk_L_law_29 26 rfl) 5 rfl ?_
  refine J_iconst (v := 1) E (jd dk_L_law_29 27 rfl) rfl ?_
  refine J_iadd E (jd dk_L_law_29 28 rfl) ?_
  obtain ⟨x9, e10, hf⟩ := jbind hf
  refine J_sld E hS9 (jd dk_L_law_29 29 rfl) e10 ?_
  refine J_aload_n E (jd dk_L_law_29 30 rfl) rfl 1 rfl ?_
  refine J_iload E (jd dk_L_law_29 31 rfl) 5 rfl ?_
  refine J_iconst (v := 2) E (jd dk_L_law_29 32 rfl) rfl ?_
  refine J_iadd E (jd dk_L_law_29 33 rfl) ?_
  obtain ⟨x11, e12, hf⟩ := jbind hf
  refine J_sld E hS9 (jd dk_L_law_29 34 rfl) e12 ?_
  refine J_aload_n E (jd dk_L_law_29 35 rfl) rfl 1 rfl ?_
  refine J_iload E (jd dk_L_law_29 36 rfl) 5 rfl ?_
  refine J_iconst (v := 3) E (jd dk_L_law_29 37 rfl) rfl ?_
  refine J_iadd E (jd dk_L_law_29 38 rfl) ?_
  obtain ⟨x13, e14, hf⟩ := jbind hf
  refine J_sld E hS9 (jd dk_L_law_29 39 rfl) e14 ?_
  obtain ⟨u17, e18, hf⟩ := jbind hf
  obtain ⟨r15, e16, hf⟩ := jbind hf
  refine J_callV (st := []) E (jd dk_L_law_29 40 rfl) ml_RL_239 cal_X7_years e18 rfl (lk_X7_years (jE_g E) (jE_tr E) N e16) rfl (Nat.le_of_ble_eq_true rfl) (jRL hX (by decide) (by decide)) (jFM hX hc9 (by decide) (by decide)) rfl ?_
  rintro _ _ ⟨rfl, rfl⟩
  refine J_stk (st' := [.int r15.1]) rfl ?_
  refine J_istore (lv' := [(6, .int r15.1), (5, .int r7.1), (0, .ref 4000000), (1, .ref a1), (2, .ref a2), (3, .ref a3), (4, .int i)]) E (jd dk_L_law_29 41 rfl) (by decide) rfl ?_
  refine J_aload_n E (jd dk_L_law_29 42 rfl) rfl 4 rfl ?_
  obtain ⟨u21, e22, hf⟩ := jbind hf
  obtain ⟨r19, e20, hf⟩ := jbind hf
  refine J_callV (st := []) E (jd dk_L_law_29 43 rfl) ml_RL_124 cal_X7_thrown e22 rfl (lk_X7_thrown (jE_g E) (jE_tr E) N e20) rfl (Nat.le_of_ble_eq_true rfl) (jRL hX (by decide) (by decide)) (jFM hX hc9 (by decide) (by decide)) rfl ?_
  rintro _ _ ⟨rfl, rfl⟩
  refine J_stk (st' := [.int r19.1]) rfl ?_
  refine J_iload E (jd dk_L_law_29 44 rfl) 1 rfl ?_
  obtain ⟨c23, hf⟩ := jnz hf
  refine J_icmp_eq (tgt := 2436) E (jd dk_L_law_29 45 rfl) (by decide) (fun _ => ?_) (fun z => absurd z c23)
  refine J_iload E (jd dk_L_law_29 48 rfl) 1 rfl ?_
  by_cases c24 : r7.1 = 0
  · rw [if_neg (not_not_intro c24)] at hf
    refine J_if_ne (tgt := 2453) E (jd dk_L_law_29 49 rfl) (by decide) (fun z => absurd c24 z) (fun _ => ?_)
    refine J_aload_n E (jd dk_L_law_30 0 rfl) rfl 5 rfl ?_
    refine J_iconst (v := 0) E (jd dk_L_law_30 1 rfl) rfl ?_
    obtain ⟨x25, e26, hf⟩ := jbind hf
    refine J_lald E (jd dk_L_law_30 2 rfl) e26 ?_
    refine J_iload E (jd dk_L_law_30 3 rfl) 0 rfl ?_
    refine J_i2l E (jd dk_L_law_30 4 rfl) ?_
    refine J_lcmp E (jd dk_L_law_30 5 rfl) ?_
    obtain ⟨c27, hf⟩ := jnz hf
    refine J_if_eq (tgt := 2453) E (jd dk_L_law_30 6 rfl) (by decide) (fun _ => ?_) (fun z => absurd z c27)
    refine J_goto (tgt := 2480) E (jd dk_L_law_30 9 rfl) (by decide) ?_
    refine J_sub [2, 3, 4, 5, 6] rfl ?_
    refine J_widen (cells' := cc9 + 4) (slots' := ss9 + 24) (by omega) (by omega) ?_
    cases hf
    exact kb
  · rw [if_pos c24] at hf
    refine J_if_ne (tgt := 2453) E (jd dk_L_law_29 49 rfl) (by decide) (fun _ => ?_) (fun z => absurd z c24)
    refine J_goto (tgt := 2480) E (jd dk_L_law_30 9 rfl) (by decide) ?_
    refine J_sub [2, 3, 4, 5, 6] rfl ?_
    refine J_widen (cells' := cc9 + 4) (slots' := ss9 + 24) (by omega) (by omega) ?_
    cases hf
    exact kb
def f_L_c37 (N L : Nat) (xs : Nat → Int32) (a1 a2 a3 : Nat) (i : Int32) (h : AH) : Option AH :=
  (jck 6 h a1).bind fun _ =>
  (f_X6_image N h a1).bind fun r1 =>
  (jck 7 r1 a2).bind fun _ =>
  (f_X7_image N r1 a2).bind fun r5 =>
  some r5
set_option maxRecDepth 100000 in
set_option maxHeartbeats 4000000 in
theorem lk_L_c37 {G : JG} {X : JX} (E : jE G X (RL, cL_law, 7)) (hX : X.2.2.2.1 = room_1) {L : Nat} {xs : Nat → Int32} (hS9 : jScr G X L xs) (N : Nat) {a1 a2 a3 : Nat} {i : Int32} {h h1 : AH} {cc9 ss9 : Nat} (hc9 : cc9 + 4 ≤ 601024 ∧ ss9 + 24 ≤ 7293033) {Q : State → Prop} (hf : f_L_c37 N L xs a1 a2 a3 i h = some h1) (kb : JW G X (RL, cL_law, 7) h1 [(0, .ref 4000000), (1, .ref a1), (2, .ref a2), (3, .ref a3), (4, .int i)] [] 2480 (cc9 + 4) (ss9 + 24) Q) : JW G X (RL, cL_law, 7) h [(0, .ref 4000000), (1, .ref a1), (2, .ref a2), (3, .ref a3), (4, .int i)] [] 2456 cc9 ss9 Q := by
  unfold f_L_c37 at hf
  refine J_aload_n E (jd dk_L_law_30 10 rfl) rfl 1 rfl ?_
  obtain ⟨u3, e4, hf⟩ := jbind hf
  obtain ⟨r1, e2, hf⟩ := jbind hf
  refine J_callV (st := []) E (jd dk_L_law_30 11 rfl) ml_RL_240 cal_X6_image e4 rfl (lk_X6_image (jE_g E) (jE_tr E) N e2) rfl (Nat.le_of_ble_eq_true rfl) (jRL hX (by decide) (by decide)) (jFL hX hc9 (by decide) (by decide)) rfl ?_
  rintro _ _ ⟨rfl, rfl⟩
  refine J_stk (st' := []) rfl ?_
  refine J_aload_n E (jd dk_L_law_30 12 rfl) rfl 2 rfl ?_
  obtain ⟨u7, e8, hf⟩ := jbind hf
  obtain ⟨r5, e6, hf⟩ := jbind hf
  refine J_callV (st := []) E (jd dk_L_law_30 13 rfl) ml_RL_243 cal_X7_image e8 rfl (lk_X7_image (jE_g E) (jE_tr E) N e6) rfl (Nat.le_of_ble_eq_true rfl) (jRL hX (by decide) (by decide)) (jFL hX hc9 (by decide) (by decide)) rfl ?_
  rintro _ _ ⟨rfl, rfl⟩
  refine J_stk (st' := []) rfl ?_
  refine J_goto (tgt := 2480) E (jd dk_L_law_30 14 rfl) (by decide) ?_
  refine J_sub [0, 1, 2, 3, 4] rfl ?_
  refine J_widen (cells' := cc9 + 4) (slots' := ss9 + 24) (by omega) (by omega) ?_
  cases hf
  exact kb
def f_L_c38 (N L : Nat) (xs : Nat → Int32) (a1 a2 a3 : Nat) (i : Int32) (h : AH) : Option AH :=
  (jck 6 h a1).bind fun _ =>
  (f_X6_restore N h a1).bind fun r1 =>
  (jck 7 r1.2 a2).bind fun _ =>
  (f_X7_restore N r1.2 a2).bind fun r5 =>
  if ¬ r1.1 = r5.1 then none else
  some r5.2
set_option maxRecDepth 100000 in
set_option maxHeartbeats 4000000 in
theorem lk_L_c38 {G : JG} {X : JX} (E : jE G X (RL, cL_law, 7)) (hX : X.2.2.2.1 = room_1) {L : Nat} {xs : Nat → Int32} (hS9 : jScr G X L xs) (N : Nat) {a1 a2 a3 : Nat} {i : Int32} {h h1 : AH} {cc9 ss9 : Nat} (hc9 : cc9 + 4 ≤ 601024 ∧ ss9 + 24 ≤ 7293033) {Q : State → Prop} (hf : f_L_c38 N L xs a1 a2 a3 i h = some h1) (kb : JW G X (RL, cL_law, 7) h1 [(0, .ref 4000000), (1, .ref a1), (2, .ref a2), (3, .ref a3), (4, .int i)] [] 2480 (cc9 + 4) (ss9 + 24) Q) : JW G X (RL, cL_law, 7) h [(0, .ref 4000000), (1, .ref a1), (2, .ref a2), (3, .ref a3), (4, .int i)] [] 2467 cc9 ss9 Q := by
  unfold f_L_c38 at hf
  refine J_aload_n E (jd dk_L_law_30 15 rfl) rfl 1 rfl ?_
  obtain ⟨u3, e4, hf⟩ := jbind hf
  obtain ⟨r1, e2, hf⟩ := jbind hf
  refine J_callV (st := []) E (jd dk_L_law_30 16 rfl) ml_RL_244 cal_X6_restore e4 rfl (lk_X6_restore (jE_g E) (jE_tr E) N e2) rfl (Nat.le_of_ble_eq_true rfl) (jRL hX (by decide) (by decide)) (jFL hX hc9 (by decide) (by decide)) rfl ?_
  rintro _ _ ⟨rfl, rfl⟩
  refine J_stk (st' := [.int r1.1]) rfl ?_
  refine J_aload_n E (jd dk_L_law_30 17 rfl) rfl 2 rfl ?_
  obtain ⟨u7, e8, hf⟩ := jbind hf
  obtain ⟨r5, e6, hf⟩ := jbind hf
  refine J_callV (st := [.int r1.1]) E (jd dk_L_law_30 18 rfl) ml_RL_248 cal_X7_restore e8 rfl (lk_X7_restore (jE_g E) (jE_tr E) N e6) rfl (Nat.le_of_ble_eq_true rfl) (jRL hX (by decide) (by decide)) (jFL hX hc9 (by decide) (by decide)) rfl ?_
  rintro _ _ ⟨rfl, rfl⟩
  refine J_stk (st' := [.int r5.1, .int r1.1]) rfl ?_
  obtain ⟨c9, hf⟩ := jnz hf
  refine J_icmp_eq (tgt := 2480) E (jd dk_L_law_30 19 rfl) (by decide) (fun _ => ?_) (fun z => absurd z c9)
  refine J_sub [0, 1, 2, 3, 4] rfl ?_
  refine J_widen (cells' := cc9 + 4) (slots' := ss9 + 24) (by omega) (by omega) ?_
  cases hf
  exact kb
def f_L_step (N L : Nat) (xs : Nat → Int32) (a1 a2 a3 : Nat) (i : Int32) (h : AH) : Option AH :=
  (jsx L xs i).bind fun x0 =>
  if x0 &&& 63 = 0 then f_L_c0 N L xs a1 a2 a3 i h
  else if x0 &&& 63 = 1 then f_L_c1 N L xs a1 a2 a3 i h
  else if x0 &&& 63 = 2 then f_L_c2 N L xs a1 a2 a3 i h
  else if x0 &&& 63 = 3 then f_L_c3 N L xs a1 a2 a3 i h
  else if x0 &&& 63 = 4 then f_L_c4 N L xs a1 a2 a3 i h
  else if x0 &&& 63 = 5 then f_L_c5 N L xs a1 a2 a3 i h
  else if x0 &&& 63 = 6 then f_L_c6 N L xs a1 a2 a3 i h
  else if x0 &&& 63 = 7 then f_L_c7 N L xs a1 a2 a3 i h
  else if x0 &&& 63 = 8 then f_L_c8 N L xs a1 a2 a3 i h
  else if x0 &&& 63 = 9 then f_L_c9 N L xs a1 a2 a3 i h
  else if x0 &&& 63 = 10 then f_L_c10 N L xs a1 a2 a3 i h
  else if x0 &&& 63 = 11 then f_L_c11 N L xs a1 a2 a3 i h
  else if x0 &&& 63 = 12 then f_L_c12 N L xs a1 a2 a3 i h
  else if x0 &&& 63 = 13 then f_L_c13 N L xs a1 a2 a3 i h
  else if x0 &&& 63 = 14 then f_L_c14 N L xs a1 a2 a3 i h
  else if x0 &&& 63 = 15 then f_L_c15 N L xs a1 a2 a3 i h
  else if x0 &&& 63 = 16 then f_L_c16 N L xs a1 a2 a3 i h
  else if x0 &&& 63 = 17 then f_L_c17 N L xs a1 a2 a3 i h
  else if x0 &&& 63 = 18 then f_L_c18 N L xs a1 a2 a3 i h
  else if x0 &&& 63 = 19 then f_L_c19 N L xs a1 a2 a3 i h
  else if x0 &&& 63 = 20 then f_L_c20 N L xs a1 a2 a3 i h
  else if x0 &&& 63 = 21 then f_L_c21 N L xs a1 a2 a3 i h
  else if x0 &&& 63 = 22 then f_L_c22 N L xs a1 a2 a3 i h
  else if x0 &&& 63 = 23 then f_L_c23 N L xs a1 a2 a3 i h
  else if x0 &&& 63 = 24 then f_L_c24 N L xs a1 a2 a3 i h
  else if x0 &&& 63 = 25 then f_L_c25 N L xs a1 a2 a3 i h
  else if x0 &&& 63 = 26 then f_L_c26 N L xs a1 a2 a3 i h
  else if x0 &&& 63 = 27 then f_L_c27 N L xs a1 a2 a3 i h
  else if x0 &&& 63 = 28 then f_L_c28 N L xs a1 a2 a3 i h
  else if x0 &&& 63 = 29 then f_L_c29 N L xs a1 a2 a3 i h
  else if x0 &&& 63 = 30 then f_L_c30 N L xs a1 a2 a3 i h
  else if x0 &&& 63 = 31 then f_L_c31 N L xs a1 a2 a3 i h
  else if x0 &&& 63 = 32 then f_L_c32 N L xs a1 a2 a3 i h
  else if x0 &&& 63 = 33 then f_L_c33 N L xs a1 a2 a3 i h
  else if x0 &&& 63 = 34 then f_L_c34 N L xs a1 a2 a3 i h
  else if x0 &&& 63 = 35 then f_L_c35 N L xs a1 a2 a3 i h
  else if x0 &&& 63 = 36 then f_L_c36 N L xs a1 a2 a3 i h
  else if x0 &&& 63 = 37 then f_L_c37 N L xs a1 a2 a3 i h
  else if x0 &&& 63 = 38 then f_L_c38 N L xs a1 a2 a3 i h
  else some h
set_option maxRecDepth 100000 in
set_option maxHeartbeats 4000000 in
theorem lk_L_step {G : JG} {X : JX} (E : jE G X (RL, cL_law, 7)) (hX : X.2.2.2.1 = room_1) {L : Nat} {xs : Nat → Int32} (hS9 : jScr G X L xs) (N : Nat) {a1 a2 a3 : Nat} {i : Int32} {h h1 : AH} {cc9 ss9 : Nat} (hc9 : cc9 + 4 ≤ 601024 ∧ ss9 + 24 ≤ 7293033) {Q : State → Prop} (hf : f_L_step N L xs a1 a2 a3 i h = some h1) (kb : JW G X (RL, cL_law, 7) h1 [(0, .ref 4000000), (1, .ref a1), (2, .ref a2), (3, .ref a3), (4, .int i)] [] 2480 (cc9 + 4) (ss9 + 24) Q) : JW G X (RL, cL_law, 7) h [(0, .ref 4000000), (1, .ref a1), (2, .ref a2), (3, .ref a3), (4, .int i)] [] 33 cc9 ss9 Q := by
  unfold f_L_step at hf
  refine J_aload_n E (jd dk_L_law_0 19 rfl) rfl 0 rfl ?_
  refine J_iload E (jd dk_L_law_0 20 rfl) 4 rfl ?_
  obtain ⟨x0, e0, hf⟩ := jbind hf
  refine J_sld E hS9 (jd dk_L_law_0 21 rfl) e0 ?_
  refine J_bipush (v := 63) E (jd dk_L_law_0 22 rfl) (by decide) ?_
  refine J_iand E (jd dk_L_law_0 23 rfl) ?_
  by_cases c_0 : x0 &&& 63 = 0
  · replace hf := jif_t c_0 hf
    refine J_tableIn (off := 172) (tgt := 212) E (jd dk_L_law_0 24 rfl) (by rw [c_0]; decide) (by rw [c_0]; decide) (by rw [c_0]; decide) (by decide) ?_
    exact lk_L_c0 E hX hS9 N hc9 hf kb
  replace hf := jif_f c_0 hf
  by_cases c_1 : x0 &&& 63 = 1
  · replace hf := jif_t c_1 hf
    refine J_tableIn (off := 245) (tgt := 285) E (jd dk_L_law_0 24 rfl) (by rw [c_1]; decide) (by rw [c_1]; decide) (by rw [c_1]; decide) (by decide) ?_
    exact lk_L_c1 E hX hS9 N hc9 hf kb
  replace hf := jif_f c_1 hf
  by_cases c_2 : x0 &&& 63 = 2
  · replace hf := jif_t c_2 hf
    refine J_tableIn (off := 301) (tgt := 341) E (jd dk_L_law_0 24 rfl) (by rw [c_2]; decide) (by rw [c_2]; decide) (by rw [c_2]; decide) (by decide) ?_
    exact lk_L_c2 E hX hS9 N hc9 hf kb
  replace hf := jif_f c_2 hf
  by_cases c_3 : x0 &&& 63 = 3
  · replace hf := jif_t c_3 hf
    refine J_tableIn (off := 314) (tgt := 354) E (jd dk_L_law_0 24 rfl) (by rw [c_3]; decide) (by rw [c_3]; decide) (by rw [c_3]; decide) (by decide) ?_
    exact lk_L_c3 E hX hS9 N hc9 hf kb
  replace hf := jif_f c_3 hf
  by_cases c_4 : x0 &&& 63 = 4
  · replace hf := jif_t c_4 hf
    refine J_tableIn (off := 370) (tgt := 410) E (jd dk_L_law_0 24 rfl) (by rw [c_4]; decide) (by rw [c_4]; decide) (by rw [c_4]; decide) (by decide) ?_
    exact lk_L_c4 E hX hS9 N hc9 hf kb
  replace hf := jif_f c_4 hf
  by_cases c_5 : x0 &&& 63 = 5
  · replace hf := jif_t c_5 hf
    refine J_tableIn (off := 438) (tgt := 478) E (jd dk_L_law_0 24 rfl) (by rw [c_5]; decide) (by rw [c_5]; decide) (by rw [c_5]; decide) (by decide) ?_
    exact lk_L_c5 E hX hS9 N hc9 hf kb
  replace hf := jif_f c_5 hf
  by_cases c_6 : x0 &&& 63 = 6
  · replace hf := jif_t c_6 hf
    refine J_tableIn (off := 506) (tgt := 546) E (jd dk_L_law_0 24 rfl) (by rw [c_6]; decide) (by rw [c_6]; decide) (by rw [c_6]; decide) (by decide) ?_
    exact lk_L_c6 E hX hS9 N hc9 hf kb
  replace hf := jif_f c_6 hf
  by_cases c_7 : x0 &&& 63 = 7
  · replace hf := jif_t c_7 hf
    refine J_tableIn (off := 531) (tgt := 571) E (jd dk_L_law_0 24 rfl) (by rw [c_7]; decide) (by rw [c_7]; decide) (by rw [c_7]; decide) (by decide) ?_
    exact lk_L_c7 E hX hS9 N hc9 hf kb
  replace hf := jif_f c_7 hf
  by_cases c_8 : x0 &&& 63 = 8
  · replace hf := jif_t c_8 hf
    refine J_tableIn (off := 587) (tgt := 627) E (jd dk_L_law_0 24 rfl) (by rw [c_8]; decide) (by rw [c_8]; decide) (by rw [c_8]; decide) (by decide) ?_
    exact lk_L_c8 E hX hS9 N hc9 hf kb
  replace hf := jif_f c_8 hf
  by_cases c_9 : x0 &&& 63 = 9
  · replace hf := jif_t c_9 hf
    refine J_tableIn (off := 655) (tgt := 695) E (jd dk_L_law_0 24 rfl) (by rw [c_9]; decide) (by rw [c_9]; decide) (by rw [c_9]; decide) (by decide) ?_
    exact lk_L_c9 E hX hS9 N hc9 hf kb
  replace hf := jif_f c_9 hf
  by_cases c_10 : x0 &&& 63 = 10
  · replace hf := jif_t c_10 hf
    refine J_tableIn (off := 723) (tgt := 763) E (jd dk_L_law_0 24 rfl) (by rw [c_10]; decide) (by rw [c_10]; decide) (by rw [c_10]; decide) (by decide) ?_
    exact lk_L_c10 E hX hS9 N hc9 hf kb
  replace hf := jif_f c_10 hf
  by_cases c_11 : x0 &&& 63 = 11
  · replace hf := jif_t c_11 hf
    refine J_tableIn (off := 803) (tgt := 843) E (jd dk_L_law_0 24 rfl) (by rw [c_11]; decide) (by rw [c_11]; decide) (by rw [c_11]; decide) (by decide) ?_
    exact lk_L_c11 E hX hS9 N hc9 hf kb
  replace hf := jif_f c_11 hf
  by_cases c_12 : x0 &&& 63 = 12
  · replace hf := jif_t c_12 hf
    refine J_tableIn (off := 816) (tgt := 856) E (jd dk_L_law_0 24 rfl) (by rw [c_12]; decide) (by rw [c_12]; decide) (by rw [c_12]; decide) (by decide) ?_
    exact lk_L_c12 E hX hS9 N hc9 hf kb
  replace hf := jif_f c_12 hf
  by_cases c_13 : x0 &&& 63 = 13
  · replace hf := jif_t c_13 hf
    refine J_tableIn (off := 896) (tgt := 936) E (jd dk_L_law_0 24 rfl) (by rw [c_13]; decide) (by rw [c_13]; decide) (by rw [c_13]; decide) (by decide) ?_
    exact lk_L_c13 E hX hS9 N hc9 hf kb
  replace hf := jif_f c_13 hf
  by_cases c_14 : x0 &&& 63 = 14
  · replace hf := jif_t c_14 hf
    refine J_tableIn (off := 964) (tgt := 1004) E (jd dk_L_law_0 24 rfl) (by rw [c_14]; decide) (by rw [c_14]; decide) (by rw [c_14]; decide) (by decide) ?_
    exact lk_L_c14 E hX hS9 N hc9 hf kb
  replace hf := jif_f c_14 hf
  by_cases c_15 : x0 &&& 63 = 15
  · replace hf := jif_t c_15 hf
    refine J_tableIn (off := 1032) (tgt := 1072) E (jd dk_L_law_0 24 rfl) (by rw [c_15]; decide) (by rw [c_15]; decide) (by rw [c_15]; decide) (by decide) ?_
    exact lk_L_c15 E hX hS9 N hc9 hf kb
  replace hf := jif_f c_15 hf
  by_cases c_16 : x0 &&& 63 = 16
  · replace hf := jif_t c_16 hf
    refine J_tableIn (off := 1100) (tgt := 1140) E (jd dk_L_law_0 24 rfl) (by rw [c_16]; decide) (by rw [c_16]; decide) (by rw [c_16]; decide) (by decide) ?_
    exact lk_L_c16 E hX hS9 N hc9 hf kb
  replace hf := jif_f c_16 hf
  by_cases c_17 : x0 &&& 63 = 17
  · replace hf := jif_t c_17 hf
    refine J_tableIn (off := 1113) (tgt := 1153) E (jd dk_L_law_0 24 rfl) (by rw [c_17]; decide) (by rw [c_17]; decide) (by rw [c_17]; decide) (by decide) ?_
    exact lk_L_c17 E hX hS9 N hc9 hf kb
  replace hf := jif_f c_17 hf
  by_cases c_18 : x0 &&& 63 = 18
  · replace hf := jif_t c_18 hf
    refine J_tableIn (off := 1169) (tgt := 1209) E (jd dk_L_law_0 24 rfl) (by rw [c_18]; decide) (by rw [c_18]; decide) (by rw [c_18]; decide) (by decide) ?_
    exact lk_L_c18 E hX hS9 N hc9 hf kb
  replace hf := jif_f c_18 hf
  by_cases c_19 : x0 &&& 63 = 19
  · replace hf := jif_t c_19 hf
    refine J_tableIn (off := 1249) (tgt := 1289) E (jd dk_L_law_0 24 rfl) (by rw [c_19]; decide) (by rw [c_19]; decide) (by rw [c_19]; decide) (by decide) ?_
    exact lk_L_c19 E hX hS9 N hc9 hf kb
  replace hf := jif_f c_19 hf
  by_cases c_20 : x0 &&& 63 = 20
  · replace hf := jif_t c_20 hf
    refine J_tableIn (off := 1317) (tgt := 1357) E (jd dk_L_law_0 24 rfl) (by rw [c_20]; decide) (by rw [c_20]; decide) (by rw [c_20]; decide) (by decide) ?_
    exact lk_L_c20 E hX hS9 N hc9 hf kb
  replace hf := jif_f c_20 hf
  by_cases c_21 : x0 &&& 63 = 21
  · replace hf := jif_t c_21 hf
    refine J_tableIn (off := 1373) (tgt := 1413) E (jd dk_L_law_0 24 rfl) (by rw [c_21]; decide) (by rw [c_21]; decide) (by rw [c_21]; decide) (by decide) ?_
    exact lk_L_c21 E hX hS9 N hc9 hf kb
  replace hf := jif_f c_21 hf
  by_cases c_22 : x0 &&& 63 = 22
  · replace hf := jif_t c_22 hf
    refine J_tableIn (off := 1441) (tgt := 1481) E (jd dk_L_law_0 24 rfl) (by rw [c_22]; decide) (by rw [c_22]; decide) (by rw [c_22]; decide) (by decide) ?_
    exact lk_L_c22 E hX hS9 N hc9 hf kb
  replace hf := jif_f c_22 hf
  by_cases c_23 : x0 &&& 63 = 23
  · replace hf := jif_t c_23 hf
    refine J_tableIn (off := 1521) (tgt := 1561) E (jd dk_L_law_0 24 rfl) (by rw [c_23]; decide) (by rw [c_23]; decide) (by rw [c_23]; decide) (by decide) ?_
    exact lk_L_c23 E hX hS9 N hc9 hf kb
  replace hf := jif_f c_23 hf
  by_cases c_24 : x0 &&& 63 = 24
  · replace hf := jif_t c_24 hf
    refine J_tableIn (off := 1577) (tgt := 1617) E (jd dk_L_law_0 24 rfl) (by rw [c_24]; decide) (by rw [c_24]; decide) (by rw [c_24]; decide) (by decide) ?_
    exact lk_L_c24 E hX hS9 N hc9 hf kb
  replace hf := jif_f c_24 hf
  by_cases c_25 : x0 &&& 63 = 25
  · replace hf := jif_t c_25 hf
    refine J_tableIn (off := 1633) (tgt := 1673) E (jd dk_L_law_0 24 rfl) (by rw [c_25]; decide) (by rw [c_25]; decide) (by rw [c_25]; decide) (by decide) ?_
    exact lk_L_c25 E hX hS9 N hc9 hf kb
  replace hf := jif_f c_25 hf
  by_cases c_26 : x0 &&& 63 = 26
  · replace hf := jif_t c_26 hf
    refine J_tableIn (off := 1689) (tgt := 1729) E (jd dk_L_law_0 24 rfl) (by rw [c_26]; decide) (by rw [c_26]; decide) (by rw [c_26]; decide) (by decide) ?_
    exact lk_L_c26 E hX hS9 N hc9 hf kb
  replace hf := jif_f c_26 hf
  by_cases c_27 : x0 &&& 63 = 27
  · replace hf := jif_t c_27 hf
    refine J_tableIn (off := 1757) (tgt := 1797) E (jd dk_L_law_0 24 rfl) (by rw [c_27]; decide) (by rw [c_27]; decide) (by rw [c_27]; decide) (by decide) ?_
    exact lk_L_c27 E hX hS9 N hc9 hf kb
  replace hf := jif_f c_27 hf
  by_cases c_28 : x0 &&& 63 = 28
  · replace hf := jif_t c_28 hf
    refine J_tableIn (off := 1825) (tgt := 1865) E (jd dk_L_law_0 24 rfl) (by rw [c_28]; decide) (by rw [c_28]; decide) (by rw [c_28]; decide) (by decide) ?_
    exact lk_L_c28 E hX hS9 N hc9 hf kb
  replace hf := jif_f c_28 hf
  by_cases c_29 : x0 &&& 63 = 29
  · replace hf := jif_t c_29 hf
    refine J_tableIn (off := 1893) (tgt := 1933) E (jd dk_L_law_0 24 rfl) (by rw [c_29]; decide) (by rw [c_29]; decide) (by rw [c_29]; decide) (by decide) ?_
    exact lk_L_c29 E hX hS9 N hc9 hf kb
  replace hf := jif_f c_29 hf
  by_cases c_30 : x0 &&& 63 = 30
  · replace hf := jif_t c_30 hf
    refine J_tableIn (off := 1973) (tgt := 2013) E (jd dk_L_law_0 24 rfl) (by rw [c_30]; decide) (by rw [c_30]; decide) (by rw [c_30]; decide) (by decide) ?_
    exact lk_L_c30 E hX hS9 N hc9 hf kb
  replace hf := jif_f c_30 hf
  by_cases c_31 : x0 &&& 63 = 31
  · replace hf := jif_t c_31 hf
    refine J_tableIn (off := 2053) (tgt := 2093) E (jd dk_L_law_0 24 rfl) (by rw [c_31]; decide) (by rw [c_31]; decide) (by rw [c_31]; decide) (by decide) ?_
    exact lk_L_c31 E hX hS9 N hc9 hf kb
  replace hf := jif_f c_31 hf
  by_cases c_32 : x0 &&& 63 = 32
  · replace hf := jif_t c_32 hf
    refine J_tableIn (off := 2109) (tgt := 2149) E (jd dk_L_law_0 24 rfl) (by rw [c_32]; decide) (by rw [c_32]; decide) (by rw [c_32]; decide) (by decide) ?_
    exact lk_L_c32 E hX hS9 N hc9 hf kb
  replace hf := jif_f c_32 hf
  by_cases c_33 : x0 &&& 63 = 33
  · replace hf := jif_t c_33 hf
    refine J_tableIn (off := 2165) (tgt := 2205) E (jd dk_L_law_0 24 rfl) (by rw [c_33]; decide) (by rw [c_33]; decide) (by rw [c_33]; decide) (by decide) ?_
    exact lk_L_c33 E hX hS9 N hc9 hf kb
  replace hf := jif_f c_33 hf
  by_cases c_34 : x0 &&& 63 = 34
  · replace hf := jif_t c_34 hf
    refine J_tableIn (off := 2176) (tgt := 2216) E (jd dk_L_law_0 24 rfl) (by rw [c_34]; decide) (by rw [c_34]; decide) (by rw [c_34]; decide) (by decide) ?_
    exact lk_L_c34 E hX hS9 N hc9 hf kb
  replace hf := jif_f c_34 hf
  by_cases c_35 : x0 &&& 63 = 35
  · replace hf := jif_t c_35 hf
    refine J_tableIn (off := 2256) (tgt := 2296) E (jd dk_L_law_0 24 rfl) (by rw [c_35]; decide) (by rw [c_35]; decide) (by rw [c_35]; decide) (by decide) ?_
    exact lk_L_c35 E hX hS9 N hc9 hf kb
  replace hf := jif_f c_35 hf
  by_cases c_36 : x0 &&& 63 = 36
  · replace hf := jif_t c_36 hf
    refine J_tableIn (off := 2336) (tgt := 2376) E (jd dk_L_law_0 24 rfl) (by rw [c_36]; decide) (by rw [c_36]; decide) (by rw [c_36]; decide) (by decide) ?_
    exact lk_L_c36 E hX hS9 N hc9 hf kb
  replace hf := jif_f c_36 hf
  by_cases c_37 : x0 &&& 63 = 37
  · replace hf := jif_t c_37 hf
    refine J_tableIn (off := 2416) (tgt := 2456) E (jd dk_L_law_0 24 rfl) (by rw [c_37]; decide) (by rw [c_37]; decide) (by rw [c_37]; decide) (by decide) ?_
    exact lk_L_c37 E hX hS9 N hc9 hf kb
  replace hf := jif_f c_37 hf
  by_cases c_38 : x0 &&& 63 = 38
  · replace hf := jif_t c_38 hf
    refine J_tableIn (off := 2427) (tgt := 2467) E (jd dk_L_law_0 24 rfl) (by rw [c_38]; decide) (by rw [c_38]; decide) (by rw [c_38]; decide) (by decide) ?_
    exact lk_L_c38 E hX hS9 N hc9 hf kb
  replace hf := jif_f c_38 hf
  refine J_tableOut (tgt := 2480) E (jd dk_L_law_0 24 rfl) (jsw (v := 38) (jsw (v := 37) (jsw (v := 36) (jsw (v := 35) (jsw (v := 34) (jsw (v := 33) (jsw (v := 32) (jsw (v := 31) (jsw (v := 30) (jsw (v := 29) (jsw (v := 28) (jsw (v := 27) (jsw (v := 26) (jsw (v := 25) (jsw (v := 24) (jsw (v := 23) (jsw (v := 22) (jsw (v := 21) (jsw (v := 20) (jsw (v := 19) (jsw (v := 18) (jsw (v := 17) (jsw (v := 16) (jsw (v := 15) (jsw (v := 14) (jsw (v := 13) (jsw (v := 12) (jsw (v := 11) (jsw (v := 10) (jsw (v := 9) (jsw (v := 8) (jsw (v := 7) (jsw (v := 6) (jsw (v := 5) (jsw (v := 4) (jsw (v := 3) (jsw (v := 2) (jsw (v := 1) (jsw (v := 0) (jsw0 (x := x0 &&& 63) (0)) (by decide) c_0) (by decide) c_1) (by decide) c_2) (by decide) c_3) (by decide) c_4) (by decide) c_5) (by decide) c_6) (by decide) c_7) (by decide) c_8) (by decide) c_9) (by decide) c_10) (by decide) c_11) (by decide) c_12) (by decide) c_13) (by decide) c_14) (by decide) c_15) (by decide) c_16) (by decide) c_17) (by decide) c_18) (by decide) c_19) (by decide) c_20) (by decide) c_21) (by decide) c_22) (by decide) c_23) (by decide) c_24) (by decide) c_25) (by decide) c_26) (by decide) c_27) (by decide) c_28) (by decide) c_29) (by decide) c_30) (by decide) c_31) (by decide) c_32) (by decide) c_33) (by decide) c_34) (by decide) c_35) (by decide) c_36) (by decide) c_37) (by decide) c_38) (by decide) ?_
  refine J_widen (cells' := cc9 + 4) (slots' := ss9 + 24) (by omega) (by omega) ?_
  cases hf
  exact kb
