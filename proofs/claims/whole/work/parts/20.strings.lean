/-! String constants: length() and charAt(int) of the pinned JDK, over the background -/
section JS
variable {G : JG} {X : JX} {Y : JY} {h : AH} {lv : List (Nat × Value)} {st : List Value} {pc cells slots : Nat} {Q : State → Prop}
theorem jkp {s : State} (hG : jG G) (hkp : ∀ q, q < gb G → s.heap[q]? = (gB G)[q]?) : ∀ a : Nat, a < (gB G).size → ¬ jA G a → s.heap[a]? = (gB G)[a]? := fun a ha _ => hkp a (by rw [← hG.2]; exact ha)
theorem J_sval (E : jE G X Y) {i j : Nat} {q : String × Nat × String} (hd : decode Y.2.1 pc = .ok (.getfield i, 3)) (hl : Cond.fieldLink Y.1 i "java/lang/String" "value" "[B" ∈ jT) (hs : jstr[j]? = some q) (k : JW G X Y h lv (.ref (2000000 + j) :: st) (pc + 3) cells slots Q) : JW G X Y h lv (.ref (1000000 + j) :: st) pc cells slots Q := by
  obtain ⟨p, l, e, R, s, m, args, below, meth, c⟩ := X
  obtain ⟨hx, hb, hml, hown, hts, hK, hG, hsz, hkp, hbg, hlk, htr, hRf, hRl⟩ := E
  intro hn H locs ls hP hS hL
  exact vk_getf hx hb ((hbg.1 j q hs).2.2.2.1.kept (jkp hG hkp)) hS hown (hts _ hl) (fun _ z => z) hd (k hn H locs ls hP hS hL)
theorem J_scod (E : jE G X Y) {i j : Nat} {q : String × Nat × String} (hd : decode Y.2.1 pc = .ok (.getfield i, 3)) (hl : Cond.fieldLink Y.1 i "java/lang/String" "coder" "B" ∈ jT) (hs : jstr[j]? = some q) (k : JW G X Y h lv (.int 0 :: st) (pc + 3) cells slots Q) : JW G X Y h lv (.ref (1000000 + j) :: st) pc cells slots Q := by
  obtain ⟨p, l, e, R, s, m, args, below, meth, c⟩ := X
  obtain ⟨hx, hb, hml, hown, hts, hK, hG, hsz, hkp, hbg, hlk, htr, hRf, hRl⟩ := E
  intro hn H locs ls hP hS hL
  exact vk_getf hx hb ((hbg.1 j q hs).2.2.1.kept (jkp hG hkp)) hS hown (hts _ hl) (fun _ z => z) hd (k hn H locs ls hP hS hL)
theorem J_salen (E : jE G X Y) {j : Nat} {q : String × Nat × String} (hd : decode Y.2.1 pc = .ok (.arraylength, 1)) (hs : jstr[j]? = some q) (k : JW G X Y h lv (.int (nI q.2.2.toList.length) :: st) (pc + 1) cells slots Q) : JW G X Y h lv (.ref (2000000 + j) :: st) pc cells slots Q := by
  obtain ⟨p, l, e, R, s, m, args, below, meth, c⟩ := X
  obtain ⟨hx, hb, hml, hown, hts, hK, hG, hsz, hkp, hbg, hlk, htr, hRf, hRl⟩ := E
  intro hn H locs ls hP hS hL
  exact va_tlen hx hb ((hbg.1 j q hs).2.2.2.2.kept (jkp hG hkp)) hS rfl hd (k hn H locs ls hP hS hL)
theorem J_sbyte (E : jE G X Y) {j : Nat} {i : Int32} {q : String × Nat × String} (hd : decode Y.2.1 pc = .ok (.baload, 1)) (hs : jstr[j]? = some q) (hin : vp_in i q.2.2.toList.length) (k : JW G X Y h lv (.int (jbyt q.2.2 i.toNatClampNeg) :: st) (pc + 1) cells slots Q) : JW G X Y h lv (.int i :: .ref (2000000 + j) :: st) pc cells slots Q := by
  obtain ⟨p, l, e, R, s, m, args, below, meth, c⟩ := X
  obtain ⟨hx, hb, hml, hown, hts, hK, hG, hsz, hkp, hbg, hlk, htr, hRf, hRl⟩ := E
  intro hn H locs ls hP hS hL
  exact va_tb hx hb ((hbg.1 j q hs).2.2.2.2.kept (jkp hG hkp)) hS hin rfl hd (k hn H locs ls hP hS hL)
theorem J_compact (E : jE G X Y) {i : Nat} (hd : decode Y.2.1 pc = .ok (.getstatic i, 3)) (hl : Cond.fieldLink Y.1 i "java/lang/String" "COMPACT_STRINGS" "Z" ∈ jT) (k : JW G X Y h lv (.int 1 :: st) (pc + 3) cells slots Q) : JW G X Y h lv st pc cells slots Q := by
  obtain ⟨p, l, e, R, s, m, args, below, meth, c⟩ := X
  obtain ⟨hx, hb, hml, hown, hts, hK, hG, hsz, hkp, hbg, hlk, htr, hRf, hRl⟩ := E
  intro hn H locs ls hP hS hL
  exact va_gets hx hb (hbg.2.2.2.2.1.kept (jkp hG hkp)) hS hown (hts _ hl) (fun _ z => z) hd (k hn H locs ls hP hS hL)
theorem J_format (E : jE G X Y) {i : Nat} (hd : decode Y.2.1 pc = .ok (.getstatic i, 3)) (hl : Cond.fieldLink Y.1 i "jdk/internal/util/Preconditions" "SIOOBE_FORMATTER" "Ljava/util/function/BiFunction;" ∈ jT) (k : ∀ w : Value, (w = .null ∨ w = .ref 3000000) → JW G X Y h lv (w :: st) (pc + 3) cells slots Q) : JW G X Y h lv st pc cells slots Q := by
  obtain ⟨p, l, e, R, s, m, args, below, meth, c⟩ := X
  obtain ⟨hx, hb, hml, hown, hts, hK, hG, hsz, hkp, hbg, hlk, htr, hRf, hRl⟩ := E
  intro hn H locs ls hP hS hL
  rcases hbg.2.2.2.2.2.2.1 with hz | hz
  · exact va_gets hx hb (hz.kept (jkp hG hkp)) hS hown (hts _ hl) (fun _ z => z) hd (k .null (Or.inl rfl) hn H locs ls hP hS hL)
  · exact va_gets hx hb (hz.kept (jkp hG hkp)) hS hown (hts _ hl) (fun _ z => z) hd (k (.ref 3000000) (Or.inr rfl) hn H locs ls hP hS hL)
theorem J_i2c (E : jE G X Y) {x : Int32} (hd : decode Y.2.1 pc = .ok (.i2c, 1)) (k : JW G X Y h lv (.int (x.toUInt32 % 65536).toInt32 :: st) (pc + 1) cells slots Q) : JW G X Y h lv (.int x :: st) pc cells slots Q := by
  obtain ⟨p, l, e, R, s, m, args, below, meth, c⟩ := X
  obtain ⟨hx, hb, hml, hown, hts, hK, hG, hsz, hkp, hbg, hlk, htr, hRf, hRl⟩ := E
  intro hn H locs ls hP hS hL
  exact lv_i2c hx hb hd rfl (k hn H locs ls hP hS hL)
/-- a call on a String constant -/
theorem J_callVs (E : jE G X Y) {y : MethodName} {bytes : ByteArray} {maxL : Nat} {ret : Option FieldType} {n i d mc ms j : Nat} {q : String × Nat × String} {As : List Value} {post : Option Value → AH → Prop} (hd : decode Y.2.1 pc = .ok (.invokevirtual i, 3)) (hl : Cond.methodLink Y.1 i y ∈ jT) (C : jCV y bytes maxL ret n) (hs : jstr[j]? = some q) (hci : y.cls = "java/lang/String")
    (hM : jMet G X.2.1 y bytes maxL ret d mc ms (.ref (1000000 + j) :: As) h post) (hn : As.length = n) (hst : (st.map fun v => v.category).sum ≤ 8) (hR : 10 * d + 21 ≤ X.2.2.2.1.frames ∧ 60 * d + 219 + maxL ≤ X.2.2.2.1.locals) (hf : cells + mc ≤ X.2.2.2.1.cells ∧ slots + ms ≤ X.2.2.2.1.slots)
    {st0 : List Value} (hs0 : As.reverse ++ .ref (1000000 + j) :: st = st0) (kk : ∀ v h', post v h' → JW G X Y h' lv (v.toList ++ st) (pc + 3) (cells + mc) (slots + ms) Q) : JW G X Y h lv st0 pc cells slots Q := by
  obtain ⟨p, l, e, R, s, m, args, below, meth, c⟩ := X
  have E' := E
  obtain ⟨hx, hb, hml, hown, hts, hK, hG, hsz, hkp, hbg, hlk, htr, hRf, hRl⟩ := E
  obtain ⟨C1, C2, C3, C4, C5, C6, C7⟩ := C
  subst hs0
  intro hn9 H locs ls hP hS hL
  have hGd : GoodIn jT (wsV Y.1 i y.cls y (jws y bytes maxL ret)) := jGoodA (jGood C1) (by
    intro w hw
    simp only [List.mem_cons, List.not_mem_nil, or_false] at hw
    rcases hw with rfl | rfl | rfl | rfl
    · exact hl
    · exact C2
    · exact C3
    · exact C4)
  have hpre := jpre E' hn9 hP hS (.ref (1000000 + j) :: As)
  have hrc : ∃ cell : Cell, H[gS G (1000000 + j)]? = some cell ∧ cell.vm.isStatics = false ∧ s.vm.findClass y.cls = some cell.cls := by
    obtain ⟨cell, q1, q2, q3, -⟩ := ((hbg.1 j q hs).2.1.kept (jkp hG hkp)).kept hS.2.1
    exact ⟨cell, q1, q2, by rw [hci]; exact q3⟩
  refine jcall (va_runV (C := y.cls) (As := As.map (jv (gS G))) (rest := st.map (jv (gS G))) (b := gS G (1000000 + j)) ⟨hx, hb, hml, hown, hts⟩ hM (cwV n hts hGd rfl rfl rfl ⟨rfl, C5, C6, C7⟩ ⟨by show 10 * d + 20 + 1 ≤ R.frames; exact hR.1, by show 8 + (maxL + 11) + (60 * d + 200) ≤ R.locals; have hq9 : 60 * d + 219 + maxL ≤ R.locals := hR.2; omega⟩) ⟨hpre.1, hrc, hpre.2⟩ rfl (by simpa using hn) hL.1 (by simp [jv]) (lv_room (jrest hst)) hd hf) hS ?_
  intro v h' H1 locs1 hp hn1 hP1 hS1
  rw [jv_list]
  exact kk v h' hp hn1 H1 locs1 ls hP1 hS1 hL
end JS
def RJ3 : String := "jdk/internal/util/Preconditions"
abbrev cJ0_checkIndex_df160 : ByteArray := prog_18_method_155_code
def yJ0_checkIndex_df160 : MethodName := ⟨RJ0, "checkIndex", "(II)V"⟩
abbrev cJ3_checkIndex_8e157 : ByteArray := prog_27_method_11_code
def yJ3_checkIndex_8e157 : MethodName := ⟨RJ3, "checkIndex", "(IILjava/util/function/BiFunction;)I"⟩
theorem dk_J0_length_8abf5_0 : jDec cJ0_length_8abf5 [(0, .aload_n 0, 1), (1, .getfield 9, 3), (4, .arraylength, 1), (5, .aload_n 0, 1), (6, .invokevirtual 335, 3), (9, .ishr, 1), (10, .ireturn, 1)] := by
  unfold jDec
  decide +kernel
theorem cal_J0_length_8abf5 : jCV yJ0_length_8abf5 cJ0_length_8abf5 1 (some .int) 0 := ⟨(jl11_in _ (List.mem_of_getElem? (i := 20) rfl)), (jl11_in _ (List.mem_of_getElem? (i := 18) rfl)), (jl11_in _ (List.mem_of_getElem? (i := 19) rfl)), (jl0_in _ (List.mem_of_getElem? (i := 16) rfl)), ⟨by decide, by decide, by decide +kernel⟩⟩
theorem dk_J0_charAt_5068e_0 : jDec cJ0_charAt_5068e [(0, .aload_n 0, 1), (1, .invokevirtual 492, 3), (4, .ifCond .eq 12, 3), (7, .aload_n 0, 1), (8, .getfield 9, 3), (11, .iload_n 1, 1), (12, .invokestatic 495, 3), (15, .ireturn, 1), (16, .aload_n 0, 1), (17, .getfield 9, 3), (20, .iload_n 1, 1), (21, .invokestatic 498, 3), (24, .ireturn, 1)] := by
  unfold jDec
  decide +kernel
theorem cal_J0_charAt_5068e : jCV yJ0_charAt_5068e cJ0_charAt_5068e 2 (some .char) 1 := ⟨(jl11_in _ (List.mem_of_getElem? (i := 29) rfl)), (jl11_in _ (List.mem_of_getElem? (i := 27) rfl)), (jl11_in _ (List.mem_of_getElem? (i := 28) rfl)), (jl0_in _ (List.mem_of_getElem? (i := 16) rfl)), ⟨by decide, by decide, by decide +kernel⟩⟩
theorem dk_J0_coder_7d493_0 : jDec cJ0_coder_7d493 [(0, .getstatic 38, 3), (3, .ifCond .eq 10, 3), (6, .aload_n 0, 1), (7, .getfield 15, 3), (10, .goto 4, 3), (13, .iconst 1, 1), (14, .ireturn, 1)] := by
  unfold jDec
  decide +kernel
theorem cal_J0_coder_7d493 : jCV yJ0_coder_7d493 cJ0_coder_7d493 1 (some .byte) 0 := ⟨(jl11_in _ (List.mem_of_getElem? (i := 24) rfl)), (jl11_in _ (List.mem_of_getElem? (i := 22) rfl)), (jl11_in _ (List.mem_of_getElem? (i := 23) rfl)), (jl0_in _ (List.mem_of_getElem? (i := 16) rfl)), ⟨by decide, by decide, by decide +kernel⟩⟩
theorem dk_J0_isLatin1_aae02_0 : jDec cJ0_isLatin1_aae02 [(0, .getstatic 38, 3), (3, .ifCond .eq 14, 3), (6, .aload_n 0, 1), (7, .getfield 15, 3), (10, .ifCond .ne 7, 3), (13, .iconst 1, 1), (14, .goto 4, 3), (17, .iconst 0, 1), (18, .ireturn, 1)] := by
  unfold jDec
  decide +kernel
theorem cal_J0_isLatin1_aae02 : jCV yJ0_isLatin1_aae02 cJ0_isLatin1_aae02 1 (some .boolean) 0 := ⟨(jl11_in _ (List.mem_of_getElem? (i := 33) rfl)), (jl11_in _ (List.mem_of_getElem? (i := 31) rfl)), (jl11_in _ (List.mem_of_getElem? (i := 32) rfl)), (jl0_in _ (List.mem_of_getElem? (i := 16) rfl)), ⟨by decide, by decide, by decide +kernel⟩⟩
theorem dk_J0_checkIndex_df160_0 : jDec cJ0_checkIndex_df160 [(0, .iload_n 0, 1), (1, .iload_n 1, 1), (2, .getstatic 1053, 3), (5, .invokestatic 1059, 3), (8, .pop, 1), (9, .return_, 1)] := by
  unfold jDec
  decide +kernel
theorem cal_J0_checkIndex_df160 : jCS yJ0_checkIndex_df160 cJ0_checkIndex_df160 2 none 2 := ⟨(jl11_in _ (List.mem_of_getElem? (i := 39) rfl)), (jl11_in _ (List.mem_of_getElem? (i := 38) rfl)), (jl0_in _ (List.mem_of_getElem? (i := 16) rfl)), ⟨by decide, by decide, by decide +kernel⟩⟩
theorem dk_J1_charAt_3b067_0 : jDec cJ1_charAt_3b067 [(0, .iload_n 1, 1), (1, .aload_n 0, 1), (2, .arraylength, 1), (3, .invokestatic 9, 3), (6, .aload_n 0, 1), (7, .iload_n 1, 1), (8, .baload, 1), (9, .sipush 255, 3), (12, .iand, 1), (13, .i2c, 1), (14, .ireturn, 1)] := by
  unfold jDec
  decide +kernel
theorem cal_J1_charAt_3b067 : jCS yJ1_charAt_3b067 cJ1_charAt_3b067 2 (some .char) 2 := ⟨(jl11_in _ (List.mem_of_getElem? (i := 36) rfl)), (jl11_in _ (List.mem_of_getElem? (i := 35) rfl)), (jl0_in _ (List.mem_of_getElem? (i := 17) rfl)), ⟨by decide, by decide, by decide +kernel⟩⟩
theorem dk_J3_checkIndex_8e157_0 : jDec cJ3_checkIndex_8e157 [(0, .iload_n 0, 1), (1, .ifCond .lt 8, 3), (4, .iload_n 0, 1), (5, .iload_n 1, 1), (6, .if_icmp .lt 10, 3), (9, .aload_n 2, 1), (10, .iload_n 0, 1), (11, .iload_n 1, 1), (12, .invokestatic 95, 3), (15, .athrow, 1), (16, .iload_n 0, 1), (17, .ireturn, 1)] := by
  unfold jDec
  decide +kernel
theorem cal_J3_checkIndex_8e157 : jCS yJ3_checkIndex_8e157 cJ3_checkIndex_8e157 3 (some .int) 3 := ⟨(jl12_in _ (List.mem_of_getElem? (i := 3) rfl)), (jl12_in _ (List.mem_of_getElem? (i := 2) rfl)), (jl0_in _ (List.mem_of_getElem? (i := 18) rfl)), ⟨by decide, by decide, by decide +kernel⟩⟩
theorem ls_cod {G : JG} {l : Launch} (hG : jG G) (htr : l.stackTraces = false) {h : AH} {j : Nat} {q : String × Nat × String} (hs : jstr[j]? = some q) : jMet G l yJ0_coder_7d493 cJ0_coder_7d493 1 (some .byte) 0 0 0 [.ref (1000000 + j)] h (fun a b => a = some (.int 0) ∧ b = h) := by
  refine jMet_of hG htr (by decide) (Nat.le_of_ble_eq_true rfl) ?_
  intro X E hl9 hr hX _ _
  show JW G X (RJ0, cJ0_coder_7d493, 1) h [(0, .ref (1000000 + j))] [] 0 0 0 (jEnd G X (fun a b => a = some (.int 0) ∧ b = h) 0 0)
  refine J_compact E (jd dk_J0_coder_7d493_0 0 rfl) (jl11_in _ (List.mem_of_getElem? (i := 25) rfl)) ?_
  refine J_if_eq (tgt := 13) E (jd dk_J0_coder_7d493_0 1 rfl) (by decide) (fun c => absurd c (by decide)) (fun _ => ?_)
  refine J_aload_n E (jd dk_J0_coder_7d493_0 2 rfl) rfl 0 rfl ?_
  refine J_scod E (jd dk_J0_coder_7d493_0 3 rfl) (jl36_in _ (List.mem_of_getElem? (i := 27) rfl)) hs ?_
  refine J_goto (tgt := 14) E (jd dk_J0_coder_7d493_0 4 rfl) (by decide) ?_
  exact J_iret E hr rfl (jd dk_J0_coder_7d493_0 6 rfl) (Nat.le_refl _) (Nat.le_refl _) ⟨rfl, rfl⟩
theorem ls_lat {G : JG} {l : Launch} (hG : jG G) (htr : l.stackTraces = false) {h : AH} {j : Nat} {q : String × Nat × String} (hs : jstr[j]? = some q) : jMet G l yJ0_isLatin1_aae02 cJ0_isLatin1_aae02 1 (some .boolean) 0 0 0 [.ref (1000000 + j)] h (fun a b => a = some (.int 1) ∧ b = h) := by
  refine jMet_of hG htr (by decide) (Nat.le_of_ble_eq_true rfl) ?_
  intro X E hl9 hr hX _ _
  show JW G X (RJ0, cJ0_isLatin1_aae02, 1) h [(0, .ref (1000000 + j))] [] 0 0 0 (jEnd G X (fun a b => a = some (.int 1) ∧ b = h) 0 0)
  refine J_compact E (jd dk_J0_isLatin1_aae02_0 0 rfl) (jl11_in _ (List.mem_of_getElem? (i := 25) rfl)) ?_
  refine J_if_eq (tgt := 17) E (jd dk_J0_isLatin1_aae02_0 1 rfl) (by decide) (fun c => absurd c (by decide)) (fun _ => ?_)
  refine J_aload_n E (jd dk_J0_isLatin1_aae02_0 2 rfl) rfl 0 rfl ?_
  refine J_scod E (jd dk_J0_isLatin1_aae02_0 3 rfl) (jl36_in _ (List.mem_of_getElem? (i := 27) rfl)) hs ?_
  refine J_if_ne (tgt := 17) E (jd dk_J0_isLatin1_aae02_0 4 rfl) (by decide) (fun c => absurd rfl c) (fun _ => ?_)
  refine J_iconst (v := 1) E (jd dk_J0_isLatin1_aae02_0 5 rfl) rfl ?_
  refine J_goto (tgt := 18) E (jd dk_J0_isLatin1_aae02_0 6 rfl) (by decide) ?_
  exact J_iret E hr rfl (jd dk_J0_isLatin1_aae02_0 8 rfl) (Nat.le_refl _) (Nat.le_refl _) ⟨rfl, rfl⟩
theorem js_len : ∀ q ∈ jstr, q.2.2.toList.length < 100 ∧ ∀ c ∈ q.2.2.toList, c.toNat < 128 := by decide +kernel
theorem js_lt {j : Nat} {q : String × Nat × String} (hs : jstr[j]? = some q) : q.2.2.toList.length < 100 := (js_len q (List.mem_of_getElem? hs)).1
def jsl (a : Nat) : Option Int32 := if 1000000 ≤ a then (jstr[a - 1000000]?).map (fun q => nI q.2.2.toList.length) else none
def jsc (a : Nat) (i : Int32) : Option Int32 := if 1000000 ≤ a then (jstr[a - 1000000]?).bind (fun q => if ¬ (i < 0 ∨ q.2.2.toList.length ≤ i.toNatClampNeg) then some (jbyt q.2.2 i.toNatClampNeg) else none) else none
theorem jsl_inv {a : Nat} {x : Int32} (e : jsl a = some x) : ∃ j q, a = 1000000 + j ∧ jstr[j]? = some q ∧ x = nI q.2.2.toList.length := by
  unfold jsl at e
  obtain ⟨h1, e⟩ := jnw e
  obtain ⟨q, h2, h3⟩ := Option.map_eq_some_iff.mp e
  exact ⟨a - 1000000, q, by omega, h2, h3.symm⟩
theorem jsc_inv {a : Nat} {i x : Int32} (e : jsc a i = some x) : ∃ j q, a = 1000000 + j ∧ jstr[j]? = some q ∧ vp_in i q.2.2.toList.length ∧ x = jbyt q.2.2 i.toNatClampNeg := by
  unfold jsc at e
  obtain ⟨h1, e⟩ := jnw e
  obtain ⟨q, h2, h3⟩ := jbind e
  obtain ⟨h4, h5⟩ := jnw h3
  cases h5
  exact ⟨a - 1000000, q, by omega, h2, h4, rfl⟩
theorem js_b128 : ∀ n, n < 128 → ((nI n &&& 255).toUInt32 % 65536).toInt32 = nI n := by decide +kernel
theorem js_byte {j : Nat} {q : String × Nat × String} (hs : jstr[j]? = some q) (k : Nat) : ((jbyt q.2.2 k &&& 255).toUInt32 % 65536).toInt32 = jbyt q.2.2 k := by
  refine js_b128 _ ?_
  by_cases hk : k < q.2.2.toList.length
  · have := (js_len q (List.mem_of_getElem? hs)).2 (q.2.2.toList[k]) (List.getElem_mem hk)
    simpa [List.getD_eq_getElem?_getD, hk] using this
  · simp [List.getD_eq_getElem?_getD, hk]
theorem ls_len {G : JG} {l : Launch} (hG : jG G) (htr : l.stackTraces = false) {h : AH} {j : Nat} {q : String × Nat × String} (hs : jstr[j]? = some q) : jMet G l yJ0_length_8abf5 cJ0_length_8abf5 1 (some .int) 1 0 0 [.ref (1000000 + j)] h (fun a b => a = some (.int (nI q.2.2.toList.length)) ∧ b = h) := by
  refine jMet_of hG htr (by decide) (Nat.le_of_ble_eq_true rfl) ?_
  intro X E hl9 hr hX _ _
  show JW G X (RJ0, cJ0_length_8abf5, 1) h [(0, .ref (1000000 + j))] [] 0 0 0 (jEnd G X (fun a b => a = some (.int (nI q.2.2.toList.length)) ∧ b = h) 0 0)
  refine J_aload_n E (jd dk_J0_length_8abf5_0 0 rfl) rfl 0 rfl ?_
  refine J_sval E (jd dk_J0_length_8abf5_0 1 rfl) (jl36_in _ (List.mem_of_getElem? (i := 26) rfl)) hs ?_
  refine J_salen E (jd dk_J0_length_8abf5_0 2 rfl) hs ?_
  refine J_aload_n E (jd dk_J0_length_8abf5_0 3 rfl) rfl 0 rfl ?_
  refine J_callVs E (jd dk_J0_length_8abf5_0 4 rfl) (jl11_in _ (List.mem_of_getElem? (i := 21) rfl)) cal_J0_coder_7d493 hs rfl (ls_cod (jE_g E) (jE_tr E) hs) rfl (Nat.le_of_ble_eq_true rfl) (jR_le hX (by decide) (by decide)) (jF0 hX) rfl ?_
  rintro _ _ ⟨rfl, rfl⟩
  refine J_ishr E (jd dk_J0_length_8abf5_0 5 rfl) ?_
  refine J_iret E hr rfl (jd dk_J0_length_8abf5_0 6 rfl) (Nat.le_refl _) (Nat.le_refl _) ⟨?_, rfl⟩
  have := js_lt hs
  rw [sc_shr0 (by omega)]
theorem ls_pre {G : JG} {l : Launch} (hG : jG G) (htr : l.stackTraces = false) {h : AH} {i n : Int32} {w : Value} (hw : w = .null ∨ w = .ref 3000000) (h1 : ¬ i < 0) (h2 : i < n) : jMet G l yJ3_checkIndex_8e157 cJ3_checkIndex_8e157 3 (some .int) 0 0 0 [.int i, .int n, w] h (fun a b => a = some (.int i) ∧ b = h) := by
  refine jMet_of hG htr (by decide) (by rcases hw with rfl | rfl <;> exact Nat.le_of_ble_eq_true rfl) ?_
  intro X E hl9 hr hX _ _
  show JW G X (RJ3, cJ3_checkIndex_8e157, 3) h [(0, .int i), (1, .int n), (2, w)] [] 0 0 0 (jEnd G X (fun a b => a = some (.int i) ∧ b = h) 0 0)
  refine J_iload_n E (jd dk_J3_checkIndex_8e157_0 0 rfl) rfl 0 rfl ?_
  refine J_if_lt (tgt := 9) E (jd dk_J3_checkIndex_8e157_0 1 rfl) (by decide) (fun c => absurd c h1) (fun _ => ?_)
  refine J_iload_n E (jd dk_J3_checkIndex_8e157_0 2 rfl) rfl 0 rfl ?_
  refine J_iload_n E (jd dk_J3_checkIndex_8e157_0 3 rfl) rfl 1 rfl ?_
  refine J_icmp_lt (tgt := 16) E (jd dk_J3_checkIndex_8e157_0 4 rfl) (by decide) (fun _ => ?_) (fun c => absurd h2 c)
  refine J_iload_n E (jd dk_J3_checkIndex_8e157_0 10 rfl) rfl 0 rfl ?_
  exact J_iret E hr rfl (jd dk_J3_checkIndex_8e157_0 11 rfl) (Nat.le_refl _) (Nat.le_refl _) ⟨rfl, rfl⟩
theorem ls_chk {G : JG} {l : Launch} (hG : jG G) (htr : l.stackTraces = false) {h : AH} {i n : Int32} (h1 : ¬ i < 0) (h2 : i < n) : jMet G l yJ0_checkIndex_df160 cJ0_checkIndex_df160 2 none 1 0 0 [.int i, .int n] h (fun a b => a = none ∧ b = h) := by
  refine jMet_of hG htr (by decide) (Nat.le_of_ble_eq_true rfl) ?_
  intro X E hl9 hr hX _ _
  show JW G X (RJ0, cJ0_checkIndex_df160, 2) h [(0, .int i), (1, .int n)] [] 0 0 0 (jEnd G X (fun a b => a = none ∧ b = h) 0 0)
  refine J_iload_n E (jd dk_J0_checkIndex_df160_0 0 rfl) rfl 0 rfl ?_
  refine J_iload_n E (jd dk_J0_checkIndex_df160_0 1 rfl) rfl 1 rfl ?_
  refine J_format E (jd dk_J0_checkIndex_df160_0 2 rfl) (jl12_in _ (List.mem_of_getElem? (i := 0) rfl)) ?_
  intro w hw
  refine J_callS E (jd dk_J0_checkIndex_df160_0 3 rfl) (jl12_in _ (List.mem_of_getElem? (i := 1) rfl)) cal_J3_checkIndex_8e157 (ls_pre (jE_g E) (jE_tr E) hw h1 h2) rfl (Nat.le_of_ble_eq_true rfl) (jR_le hX (by decide) (by decide)) (jF0 hX) rfl ?_
  rintro _ _ ⟨rfl, rfl⟩
  refine J_pop E (jd dk_J0_checkIndex_df160_0 4 rfl) rfl ?_
  exact J_vret E hr (jd dk_J0_checkIndex_df160_0 5 rfl) (Nat.le_refl _) (Nat.le_refl _) ⟨rfl, rfl⟩
theorem js_in {i : Int32} {n : Nat} (hn : n < 100) (h : vp_in i n) : ¬ i < 0 ∧ i < nI n := by
  obtain ⟨k, hk, rfl⟩ := vp_in_of h (by omega)
  exact ⟨nI_pos (by omega), nI_lt hk (by omega)⟩
theorem ls_lch {G : JG} {l : Launch} (hG : jG G) (htr : l.stackTraces = false) {h : AH} {j : Nat} {q : String × Nat × String} (hs : jstr[j]? = some q) {i : Int32} (hi : vp_in i q.2.2.toList.length) : jMet G l yJ1_charAt_3b067 cJ1_charAt_3b067 2 (some .char) 2 0 0 [.ref (2000000 + j), .int i] h (fun a b => a = some (.int (jbyt q.2.2 i.toNatClampNeg)) ∧ b = h) := by
  refine jMet_of hG htr (by decide) (Nat.le_of_ble_eq_true rfl) ?_
  intro X E hl9 hr hX _ _
  show JW G X (RJ1, cJ1_charAt_3b067, 2) h [(0, .ref (2000000 + j)), (1, .int i)] [] 0 0 0 (jEnd G X (fun a b => a = some (.int (jbyt q.2.2 i.toNatClampNeg)) ∧ b = h) 0 0)
  refine J_iload_n E (jd dk_J1_charAt_3b067_0 0 rfl) rfl 1 rfl ?_
  refine J_aload_n E (jd dk_J1_charAt_3b067_0 1 rfl) rfl 0 rfl ?_
  refine J_salen E (jd dk_J1_charAt_3b067_0 2 rfl) hs ?_
  refine J_callS E (jd dk_J1_charAt_3b067_0 3 rfl) (jl11_in _ (List.mem_of_getElem? (i := 37) rfl)) cal_J0_checkIndex_df160 (ls_chk (jE_g E) (jE_tr E) (js_in (js_lt hs) hi).1 (js_in (js_lt hs) hi).2) rfl (Nat.le_of_ble_eq_true rfl) (jR_le hX (by decide) (by decide)) (jF0 hX) rfl ?_
  rintro _ _ ⟨rfl, rfl⟩
  refine J_aload_n E (jd dk_J1_charAt_3b067_0 4 rfl) rfl 0 rfl ?_
  refine J_iload_n E (jd dk_J1_charAt_3b067_0 5 rfl) rfl 1 rfl ?_
  refine J_sbyte E (jd dk_J1_charAt_3b067_0 6 rfl) hs hi ?_
  refine J_sipush (v := 255) E (jd dk_J1_charAt_3b067_0 7 rfl) (by decide) ?_
  refine J_iand E (jd dk_J1_charAt_3b067_0 8 rfl) ?_
  refine J_i2c E (jd dk_J1_charAt_3b067_0 9 rfl) ?_
  exact J_iret E hr (pk_nc _) (jd dk_J1_charAt_3b067_0 10 rfl) (Nat.le_refl _) (Nat.le_refl _) ⟨by rw [js_byte hs], rfl⟩
theorem ls_chr {G : JG} {l : Launch} (hG : jG G) (htr : l.stackTraces = false) {h : AH} {j : Nat} {q : String × Nat × String} (hs : jstr[j]? = some q) {i : Int32} (hi : vp_in i q.2.2.toList.length) : jMet G l yJ0_charAt_5068e cJ0_charAt_5068e 2 (some .char) 3 0 0 [.ref (1000000 + j), .int i] h (fun a b => a = some (.int (jbyt q.2.2 i.toNatClampNeg)) ∧ b = h) := by
  refine jMet_of hG htr (by decide) (Nat.le_of_ble_eq_true rfl) ?_
  intro X E hl9 hr hX _ _
  show JW G X (RJ0, cJ0_charAt_5068e, 2) h [(0, .ref (1000000 + j)), (1, .int i)] [] 0 0 0 (jEnd G X (fun a b => a = some (.int (jbyt q.2.2 i.toNatClampNeg)) ∧ b = h) 0 0)
  refine J_aload_n E (jd dk_J0_charAt_5068e_0 0 rfl) rfl 0 rfl ?_
  refine J_callVs E (jd dk_J0_charAt_5068e_0 1 rfl) (jl11_in _ (List.mem_of_getElem? (i := 30) rfl)) cal_J0_isLatin1_aae02 hs rfl (ls_lat (jE_g E) (jE_tr E) hs) rfl (Nat.le_of_ble_eq_true rfl) (jR_le hX (by decide) (by decide)) (jF0 hX) rfl ?_
  rintro _ _ ⟨rfl, rfl⟩
  refine J_if_eq (tgt := 16) E (jd dk_J0_charAt_5068e_0 2 rfl) (by decide) (fun c => absurd c (by decide)) (fun _ => ?_)
  refine J_aload_n E (jd dk_J0_charAt_5068e_0 3 rfl) rfl 0 rfl ?_
  refine J_sval E (jd dk_J0_charAt_5068e_0 4 rfl) (jl36_in _ (List.mem_of_getElem? (i := 26) rfl)) hs ?_
  refine J_iload_n E (jd dk_J0_charAt_5068e_0 5 rfl) rfl 1 rfl ?_
  refine J_callS E (jd dk_J0_charAt_5068e_0 6 rfl) (jl11_in _ (List.mem_of_getElem? (i := 34) rfl)) cal_J1_charAt_3b067 (ls_lch (jE_g E) (jE_tr E) hs hi) rfl (Nat.le_of_ble_eq_true rfl) (jR_le hX (by decide) (by decide)) (jF0 hX) rfl ?_
  rintro _ _ ⟨rfl, rfl⟩
  exact J_iret E hr (by rw [← js_byte hs]; exact pk_nc _) (jd dk_J0_charAt_5068e_0 7 rfl) (Nat.le_refl _) (Nat.le_refl _) ⟨rfl, rfl⟩
section JT
variable {G : JG} {X : JX} {Y : JY} {h : AH} {lv : List (Nat × Value)} {st : List Value} {pc : Nat} {Q : State → Prop}
theorem J_slen (E : jE G X Y) {i a : Nat} {x : Int32} (hd : decode Y.2.1 pc = .ok (.invokevirtual i, 3)) (hl : Cond.methodLink Y.1 i yJ0_length_8abf5 ∈ jT) (e : jsl a = some x) (hst : (st.map fun v => v.category).sum ≤ 8) (hR : 10 * 1 + 21 ≤ X.2.2.2.1.frames ∧ 60 * 1 + 219 + 1 ≤ X.2.2.2.1.locals) (hf : 0 + 0 ≤ X.2.2.2.1.cells ∧ 0 + 0 ≤ X.2.2.2.1.slots) (k : JW G X Y h lv (.int x :: st) (pc + 3) 0 0 Q) : JW G X Y h lv (.ref a :: st) pc 0 0 Q := by
  obtain ⟨j, q, rfl, hs, rfl⟩ := jsl_inv e
  refine J_callVs E hd hl cal_J0_length_8abf5 hs rfl (ls_len (jE_g E) (jE_tr E) hs) rfl hst hR hf rfl ?_
  rintro _ _ ⟨rfl, rfl⟩
  exact k
theorem J_char (E : jE G X Y) {i a : Nat} {n x : Int32} (hd : decode Y.2.1 pc = .ok (.invokevirtual i, 3)) (hl : Cond.methodLink Y.1 i yJ0_charAt_5068e ∈ jT) (e : jsc a n = some x) (hst : (st.map fun v => v.category).sum ≤ 8) (hR : 10 * 3 + 21 ≤ X.2.2.2.1.frames ∧ 60 * 3 + 219 + 2 ≤ X.2.2.2.1.locals) (hf : 0 + 0 ≤ X.2.2.2.1.cells ∧ 0 + 0 ≤ X.2.2.2.1.slots) (k : JW G X Y h lv (.int x :: st) (pc + 3) 0 0 Q) : JW G X Y h lv (.int n :: .ref a :: st) pc 0 0 Q := by
  obtain ⟨j, q, rfl, hs, hi, rfl⟩ := jsc_inv e
  refine J_callVs E hd hl cal_J0_charAt_5068e hs rfl (ls_chr (jE_g E) (jE_tr E) hs hi) rfl hst hR hf rfl ?_
  rintro _ _ ⟨rfl, rfl⟩
  exact k
end JT
