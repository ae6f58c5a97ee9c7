/-! entries, returns, throws, catches -/
theorem jv_args {σ : Nat → Nat} : ∀ (As : List Value) (i : Nat), lv_args i (As.map (jv σ)) = (lv_args i As).map (fun q => (q.1, jv σ q.2)) := by
  intro As
  induction As with
  | nil => intro i; rfl
  | cons v As ih => intro i; simp only [List.map_cons, lv_args, jv_cat, ih]
theorem jv_sl {σ : Nat → Nat} (As : List Value) : (lg_sl (As.map (jv σ))).length = (lg_sl As).length := by
  induction As with
  | nil => rfl
  | cons v As ih =>
    simp only [lg_sl, List.map_cons, List.flatMap_cons, List.length_append, jv_cat] at ih ⊢
    rw [ih]
    cases v <;> rfl
theorem jX_E {G : JG} {l : Launch} {y : MethodName} {bytes : ByteArray} {maxL d mc ms : Nat} {ret : Option FieldType} {As : List Value} {h : AH} {ws : List Cond} (hG : jG G) (htr : l.stackTraces = false)
    {p : Program} {e : Env} {s s₁ : State} {m : MethodId} {args : Array Value} {below : List Frame} {meth : Method} {c : Code} (hws : ∀ w ∈ jT, w ∈ ws)
    (B : BodyLoose p l y (headSpec ws (jRm d mc ms)) bytes maxL ret e s m args below meth c s₁) (hml : c.maxLocals = maxL) (hv : jPc G As h args s) : jE G (p, l, e, jRm d mc ms, s, m, args, below, meth, c) (y.cls, bytes, maxL) := by
  obtain ⟨-, q1, q2, q3, q4, q5, q6⟩ := hv
  exact ⟨B.exec, B.bytes, hml, findClass_of_methodNamed B.named, fun w hw => atoms_spec (ws := ws) B.pre w (hws w hw), q3, hG, q5, q4, q6, B.notSynchronized, htr, Nat.le_add_left _ _, Nat.le_add_left _ _⟩
theorem jMet_of {G : JG} {l : Launch} {y : MethodName} {bytes : ByteArray} {maxL d mc ms : Nat} {ret : Option FieldType} {As : List Value} {h : AH} {post : Option Value → AH → Prop} (hG : jG G) (htr : l.stackTraces = false) (hy : plainName y.cls = true) (hle : (lg_sl As).length ≤ maxL)
    (body : ∀ X : JX, jE G X (y.cls, bytes, maxL) → X.2.1 = l → X.2.2.2.2.2.2.2.2.1.sig.returnType = ret → X.2.2.2.1 = jRm d mc ms → X.2.2.2.2.2.2.2.2.1.name = y.name → X.2.2.2.2.1.heap.size = X.2.2.2.2.1.heap.size → JW G X (y.cls, bytes, maxL) h (lv_args 0 As) [] 0 0 0 (jEnd G X post mc ms)) : jMet G l y bytes maxL ret d mc ms As h post := by
  refine Met.ofW (cc := bytes) (maxL := maxL) (ret := ret) hy rfl ?_
  intro p e s m args below meth c s₁ B hml hv
  have E := jX_E hG htr (fun w hw => List.mem_cons_of_mem _ hw) B hml hv
  obtain ⟨rfl, q1, q2, q3, q4, q5, q6⟩ := hv
  have hl := lv_entry (As.map (jv (gS G))) (n := maxL) (by rw [jv_sl]; exact hle)
  rw [lg_entry_eq]
  rw [jv_args] at hl
  exact body _ E rfl B.returns rfl (name_of_methodNamed B.named B.method).1 rfl q1 s.heap [] _ q2 va_S.rf hl
theorem jMetX_of {G : JG} {l : Launch} {y : MethodName} {bytes : ByteArray} {maxL d mc ms : Nat} {ret : Option FieldType} {As : List Value} {h : AH} {post : Option Value → AH → Prop} {postX : String → AH → Prop} (hG : jG G) (htr : l.stackTraces = false) (hy : plainName y.cls = true) (hle : (lg_sl As).length ≤ maxL)
    (body : ∀ X : JX, jE G X (y.cls, bytes, maxL) → X.2.1 = l → X.2.2.2.2.2.2.2.2.1.sig.returnType = ret → X.2.2.2.1 = jRm d mc ms → (∀ x ∈ X.2.2.2.2.2.2.2.2.2.exceptionTable.toList, False) → JW G X (y.cls, bytes, maxL) h (lv_args 0 As) [] 0 0 0 (jEndX G X post postX mc ms)) : jMetX G l y bytes maxL ret d mc ms As h post postX := by
  refine vx_ofW (cc := bytes) (maxL := maxL) (ret := ret) hy rfl ?_
  intro p e s m args below meth c s₁ B hml htab hv
  have E := jX_E hG htr (fun w hw => List.mem_cons_of_mem _ hw) B hml hv
  obtain ⟨rfl, q1, q2, q3, q4, q5, q6⟩ := hv
  have hl := lv_entry (As.map (jv (gS G))) (n := maxL) (by rw [jv_sl]; exact hle)
  rw [lg_entry_eq]
  rw [jv_args] at hl
  exact body _ E rfl B.returns rfl htab q1 s.heap [] _ q2 va_S.rf hl
/-- a method with handlers that returns -/
def jMetW (G : JG) (l : Launch) (y : MethodName) (bytes : ByteArray) (maxL : Nat) (ret : Option FieldType) (hh : List (Nat × Nat × Nat × Nat)) (d mc ms : Nat) (As : List Value) (h : AH) (post : Option Value → AH → Prop) : Prop :=
  Met l y (Cond.codeWith y bytes maxL ret hh :: jT) (jRm d mc ms) (jPc G As h) (jQ G post) mc ms (jA G)
theorem jMetW_of {G : JG} {l : Launch} {y : MethodName} {bytes : ByteArray} {maxL d mc ms : Nat} {ret : Option FieldType} {hh : List (Nat × Nat × Nat × Nat)} {As : List Value} {h : AH} {post : Option Value → AH → Prop} (hG : jG G) (htr : l.stackTraces = false) (hy : plainName y.cls = true) (hle : (lg_sl As).length ≤ maxL)
    (body : ∀ X : JX, jE G X (y.cls, bytes, maxL) → X.2.1 = l → X.2.2.2.2.2.2.2.2.1.sig.returnType = ret → X.2.2.2.1 = jRm d mc ms → X.2.2.2.2.2.2.2.2.2.exceptionTable.toList = tableOf hh → JW G X (y.cls, bytes, maxL) h (lv_args 0 As) [] 0 0 0 (jEnd G X post mc ms)) : jMetW G l y bytes maxL ret hh d mc ms As h post := by
  refine va_MetW (cc := bytes) (maxL := maxL) (ret := ret) (hh := hh) hy rfl ?_
  intro p e s m args below meth c s₁ B hml hv
  have E := jX_E hG htr (fun w hw => List.mem_cons_of_mem _ hw) B hml hv
  have ht := vx_table (x := y) (hh := hh) B (atoms_spec (ws := Cond.codeWith y bytes maxL ret hh :: jT) B.pre _ List.mem_cons_self)
  obtain ⟨rfl, q1, q2, q3, q4, q5, q6⟩ := hv
  have hl := lv_entry (As.map (jv (gS G))) (n := maxL) (by rw [jv_sl]; exact hle)
  rw [lg_entry_eq]
  rw [jv_args] at hl
  exact body _ E rfl B.returns rfl ht q1 s.heap [] _ q2 va_S.rf hl
section JR
variable {G : JG} {X : JX} {Y : JY} {h h' : AH} {lv lv' : List (Nat × Value)} {st : List Value} {pc cells slots mc ms : Nat} {Q : State → Prop} {post : Option Value → AH → Prop} {postX : String → AH → Prop}
theorem J_iret (E : jE G X Y) {v : Int32} {ty : FieldType} (hr : X.2.2.2.2.2.2.2.2.1.sig.returnType = some ty) (hnr : narrow ty (.int v) = .int v) (hd : decode Y.2.1 pc = .ok (.ireturn, 1)) (hc : cells ≤ mc) (hs : slots ≤ ms) (hp : post (some (.int v)) h) : JW G X Y h lv [.int v] pc cells slots (jEnd G X post mc ms) := by
  obtain ⟨p, l, e, R, s, m, args, below, meth, c⟩ := X
  obtain ⟨hx, hb, hml, hown, hts, hK, hG, hsz, hkp, hbg, hlk, htr, hRf, hRl⟩ := E
  intro hn H locs ls hP hS hL
  exact W.widen hc hs (W.zret hx hb hr hnr (fun t ht _ => ⟨some (.int v), h, rfl, hp, hn, by rw [ht]; exact hP, hS.F ht⟩) hS.2.2 hd hlk)
theorem J_vret (E : jE G X Y) (hr : X.2.2.2.2.2.2.2.2.1.sig.returnType = none) (hd : decode Y.2.1 pc = .ok (.return_, 1)) (hc : cells ≤ mc) (hs : slots ≤ ms) (hp : post none h) : JW G X Y h lv [] pc cells slots (jEnd G X post mc ms) := by
  obtain ⟨p, l, e, R, s, m, args, below, meth, c⟩ := X
  obtain ⟨hx, hb, hml, hown, hts, hK, hG, hsz, hkp, hbg, hlk, htr, hRf, hRl⟩ := E
  intro hn H locs ls hP hS hL
  exact W.widen hc hs (W.vret hx hb hr (fun t ht _ => ⟨none, h, rfl, hp, hn, by rw [ht]; exact hP, hS.F ht⟩) hS.2.2 hd hlk)
theorem J_aret (E : jE G X Y) {a : Nat} {ty : FieldType} (hr : X.2.2.2.2.2.2.2.2.1.sig.returnType = some ty) (hrt : (∃ n, ty = .object n) ∨ ∃ t, ty = .array t) (hd : decode Y.2.1 pc = .ok (.areturn, 1)) (hc : cells ≤ mc) (hs : slots ≤ ms) (hp : post (some (.ref a)) h) : JW G X Y h lv [.ref a] pc cells slots (jEnd G X post mc ms) := by
  obtain ⟨p, l, e, R, s, m, args, below, meth, c⟩ := X
  obtain ⟨hx, hb, hml, hown, hts, hK, hG, hsz, hkp, hbg, hlk, htr, hRf, hRl⟩ := E
  intro hn H locs ls hP hS hL
  exact W.widen hc hs (W.aret hx hb hr hrt (Or.inr ⟨_, rfl⟩) (fun t ht _ => ⟨some (.ref a), h, rfl, hp, hn, by rw [ht]; exact hP, hS.F ht⟩) hS.2.2 hd hlk)
theorem J_x (k : JW G X Y h lv st pc cells slots (jEnd G X post mc ms)) : JW G X Y h lv st pc cells slots (jEndX G X post postX mc ms) := by
  obtain ⟨p, l, e, R, s, m, args, below, meth, c⟩ := X
  intro hn H locs ls hP hS hL
  exact vx_ret (k hn H locs ls hP hS hL)
/-- what a throw's words are -/
def jThr (own : String) (ik ic : Nat) (cls : String) : Prop :=
  Cond.classLink own ik cls ∈ jT ∧ Cond.initialized cls ∈ jT ∧ Bundle.fit cls = true ∧ (∀ w ∈ (vx_atS own ic cls ["java/lang/RuntimeException", "java/lang/Exception"]).filter goodWord, w ∈ jT) ∧
  (∀ w ∈ (vx_atS own ic cls ["java/lang/RuntimeException", "java/lang/Exception"]).filter (fun w => !goodWord w), w ∈ jNG ∧ jkind w = true) ∧
  (∀ w ∈ Cond.classLink own ik cls :: Cond.initialized cls :: vx_atS own ic cls ["java/lang/RuntimeException", "java/lang/Exception"], vx_ot w = true)
theorem jThr_fit : ∀ n ∈ ["java/lang/RuntimeException", "java/lang/Exception"], Bundle.fit n = true := by decide +kernel
theorem jThr_at {s : State} {args : Array Value} {own cls : String} {ik ic : Nat} (T : jThr own ik ic cls) (hts : ∀ w ∈ jT, w.before args s = true) (hbg : jB G s) : ∀ w ∈ vx_atS own ic cls ["java/lang/RuntimeException", "java/lang/Exception"], w.before args s = true := by
  obtain ⟨T1, T2, T3, T4, T5, T6⟩ := T
  intro w hw
  by_cases g : goodWord w = true
  · exact hts w (T4 w (List.mem_filter.mpr ⟨hw, g⟩))
  · obtain ⟨g1, g2⟩ := T5 w (List.mem_filter.mpr ⟨hw, by simp [g]⟩)
    refine va_Nw.use ?_ (hbg.2.1 w g1 g2)
    cases w <;> first | rfl | simp [jkind] at g2
theorem jZ_kept {C n d : String} {s : State} (hG : jG G) (hkp : ∀ q, q < gb G → s.heap[q]? = (gB G)[q]?) (hz : vx_Zq C n d (jA G) s (gB G)) : vx_Zq C n d (jA G) s s.heap :=
  hz.kept (fun a ha hA => hkp a (by rw [← hG.2]; exact ha))
theorem J_throw (E : jE G X Y) {ik is ic j : Nat} {cls text : String} (T : jThr Y.1 ik ic cls) (hsr : jstr[j]? = some (Y.1, is, text)) (htab : ∀ x ∈ X.2.2.2.2.2.2.2.2.2.exceptionTable.toList, False)
    (d0 : decode Y.2.1 pc = .ok (.new ik, 3)) (d3 : decode Y.2.1 (pc + 3) = .ok (.dup, 1)) (d4 : decode Y.2.1 (pc + 4) = .ok (.ldc is, 2)) (d6 : decode Y.2.1 (pc + 6) = .ok (.invokespecial ic, 3)) (d9 : decode Y.2.1 (pc + 9) = .ok (.athrow, 1))
    (hst : (st.map fun v => v.category).sum ≤ 8) (hRc : cells + 1 ≤ X.2.2.2.1.cells ∧ slots + 6 ≤ X.2.2.2.1.slots) (hc : cells + 1 ≤ mc) (hs : slots + 6 ≤ ms) (hp : postX cls h) : JW G X Y h lv st pc cells slots (jEndX G X post postX mc ms) := by
  obtain ⟨p, l, e, R, s, m, args, below, meth, c⟩ := X
  obtain ⟨hx, hb, hml, hown, hts, hK, hG, hsz, hkp, hbg, hlk, htr, hRf, hRl⟩ := E
  intro hn H locs ls hP hS hL
  have hat := jThr_at T hts hbg
  obtain ⟨T1, T2, T3, T4, T5, T6⟩ := T
  have hst9 := jrest (σ := gS G) hst
  refine vx_throwS (A := jA G) hx hb htr hown T3 jThr_fit (hts _ T1) (hts _ T2) (hbg.1 j _ hsr).1 hat T6 (jZ_kept hG hkp hbg.2.2.1) (jZ_kept hG hkp hbg.2.2.2.1) hS (by rw [hL.1]; exact hml.symm) d0 d3 d4 d6 d9 (fun x hx => (htab x hx).elim) (by show 2 + 3 < R.frames; omega) (by show _ + (13 * (2 + 1) + 43) ≤ R.locals; omega) hRc.1 hRc.2 hlk ?_ hS.2.2 hc hs
  intro t ht hz hk
  exact ⟨h, hp, hn, hP.kept (fun k q hq => hk q.1 ((hP k q hq).lt)), Nat.le_trans hS.1 hz, fun q hq hA => (hk q (Nat.lt_of_lt_of_le hq hS.1)).trans (hS.2.1 q hq hA)⟩
theorem J_throwW (E : jE G X Y) {ik is ic j : Nat} {cls text : String} (T : jThr Y.1 ik ic cls) (hsr : jstr[j]? = some (Y.1, is, text)) (htab : ∀ x ∈ X.2.2.2.2.2.2.2.2.2.exceptionTable.toList, False)
    (d0 : decode Y.2.1 pc = .ok (.new ik, 3)) (d3 : decode Y.2.1 (pc + 3) = .ok (.dup, 1)) (d4 : decode Y.2.1 (pc + 4) = .ok (.ldc_w is, 3)) (d6 : decode Y.2.1 (pc + 7) = .ok (.invokespecial ic, 3)) (d9 : decode Y.2.1 (pc + 10) = .ok (.athrow, 1))
    (hst : (st.map fun v => v.category).sum ≤ 8) (hRc : cells + 1 ≤ X.2.2.2.1.cells ∧ slots + 6 ≤ X.2.2.2.1.slots) (hc : cells + 1 ≤ mc) (hs : slots + 6 ≤ ms) (hp : postX cls h) : JW G X Y h lv st pc cells slots (jEndX G X post postX mc ms) := by
  obtain ⟨p, l, e, R, s, m, args, below, meth, c⟩ := X
  obtain ⟨hx, hb, hml, hown, hts, hK, hG, hsz, hkp, hbg, hlk, htr, hRf, hRl⟩ := E
  intro hn H locs ls hP hS hL
  have hat := jThr_at T hts hbg
  obtain ⟨T1, T2, T3, T4, T5, T6⟩ := T
  have hst9 := jrest (σ := gS G) hst
  refine vx_throwSW (A := jA G) hx hb htr hown T3 jThr_fit (hts _ T1) (hts _ T2) (hbg.1 j _ hsr).1 hat T6 (jZ_kept hG hkp hbg.2.2.1) (jZ_kept hG hkp hbg.2.2.2.1) hS (by rw [hL.1]; exact hml.symm) d0 d3 d4 d6 d9 (fun x hx => (htab x hx).elim) (by show 2 + 3 < R.frames; omega) (by show _ + (13 * (2 + 1) + 43) ≤ R.locals; omega) hRc.1 hRc.2 hlk ?_ hS.2.2 hc hs
  intro t ht hz hk
  exact ⟨h, hp, hn, hP.kept (fun k q hq => hk q.1 ((hP k q hq).lt)), Nat.le_trans hS.1 hz, fun q hq hA => (hk q (Nat.lt_of_lt_of_le hq hS.1)).trans (hS.2.1 q hq hA)⟩
/-- .. of NoSuchElementException -/
def jThrN (own : String) (ik ic : Nat) (cls : String) (bytes : ByteArray) (index : Nat) : Prop :=
  Cond.classLink own ik cls ∈ jT ∧ Cond.initialized cls ∈ jT ∧ Bundle.fit cls = true ∧ (∀ w ∈ (xt_at own ic cls bytes index "java/lang/RuntimeException" ["java/lang/Exception"]).filter goodWord, w ∈ jT) ∧
  (∀ w ∈ (xt_at own ic cls bytes index "java/lang/RuntimeException" ["java/lang/Exception"]).filter (fun w => !goodWord w), w ∈ jNG ∧ jkind w = true) ∧
  (∀ w ∈ Cond.classLink own ik cls :: Cond.initialized cls :: xt_at own ic cls bytes index "java/lang/RuntimeException" ["java/lang/Exception"], vx_ot w = true) ∧
  (decode bytes 0 = .ok (.aload_n 0, 1) ∧ decode bytes 1 = .ok (.aload_n 1, 1) ∧ decode bytes 2 = .ok (.invokespecial index, 3) ∧ decode bytes 5 = .ok (.return_, 1))
theorem jThrN_fit : ∀ n ∈ ["java/lang/Exception"], Bundle.fit n = true := by decide +kernel
theorem jThrN_at {s : State} {args : Array Value} {own cls : String} {ik ic index : Nat} {bytes : ByteArray} (T : jThrN own ik ic cls bytes index) (hts : ∀ w ∈ jT, w.before args s = true) (hbg : jB G s) : ∀ w ∈ xt_at own ic cls bytes index "java/lang/RuntimeException" ["java/lang/Exception"], w.before args s = true := by
  obtain ⟨T1, T2, T3, T4, T5, T6, T7⟩ := T
  intro w hw
  by_cases g : goodWord w = true
  · exact hts w (T4 w (List.mem_filter.mpr ⟨hw, g⟩))
  · obtain ⟨g1, g2⟩ := T5 w (List.mem_filter.mpr ⟨hw, by simp [g]⟩)
    refine va_Nw.use ?_ (hbg.2.1 w g1 g2)
    cases w <;> first | rfl | simp [jkind] at g2
theorem J_throwN (E : jE G X Y) {ik is ic j index : Nat} {bytes : ByteArray} {cls text : String} (T : jThrN Y.1 ik ic cls bytes index) (hsr : jstr[j]? = some (Y.1, is, text)) (htab : ∀ x ∈ X.2.2.2.2.2.2.2.2.2.exceptionTable.toList, False)
    (d0 : decode Y.2.1 pc = .ok (.new ik, 3)) (d3 : decode Y.2.1 (pc + 3) = .ok (.dup, 1)) (d4 : decode Y.2.1 (pc + 4) = .ok (.ldc is, 2)) (d6 : decode Y.2.1 (pc + 6) = .ok (.invokespecial ic, 3)) (d9 : decode Y.2.1 (pc + 9) = .ok (.athrow, 1))
    (hst : (st.map fun v => v.category).sum ≤ 8) (hRc : cells + 1 ≤ X.2.2.2.1.cells ∧ slots + 6 ≤ X.2.2.2.1.slots) (hc : cells + 1 ≤ mc) (hs : slots + 6 ≤ ms) (hp : postX cls h) : JW G X Y h lv st pc cells slots (jEndX G X post postX mc ms) := by
  obtain ⟨p, l, e, R, s, m, args, below, meth, c⟩ := X
  obtain ⟨hx, hb, hml, hown, hts, hK, hG, hsz, hkp, hbg, hlk, htr, hRf, hRl⟩ := E
  intro hn H locs ls hP hS hL
  have hat := jThrN_at T hts hbg
  obtain ⟨T1, T2, T3, T4, T5, T6, T7⟩ := T
  have hst9 := jrest (σ := gS G) hst
  refine xt_throw (A := jA G) hx hb htr T7 (by decide) hown T3 jThrN_fit (hts _ T1) (hts _ T2) (hbg.1 j _ hsr).1 hat T6 (jZ_kept hG hkp hbg.2.2.1) (jZ_kept hG hkp hbg.2.2.2.1) hS (by rw [hL.1]; exact hml.symm) d0 d3 d4 d6 d9 (fun x hx => (htab x hx).elim) (by show 1 + 4 < R.frames; omega) (by show _ + (13 * (1 + 2) + 43) ≤ R.locals; omega) hRc.1 hRc.2 hlk ?_ hS.2.2 hc hs
  intro t ht hz hk
  exact ⟨h, hp, hn, hP.kept (fun k q hq => hk q.1 ((hP k q hq).lt)), Nat.le_trans hS.1 hz, fun q hq hA => (hk q (Nat.lt_of_lt_of_le hq hS.1)).trans (hS.2.1 q hq hA)⟩
theorem J_throwNW (E : jE G X Y) {ik is ic j index : Nat} {bytes : ByteArray} {cls text : String} (T : jThrN Y.1 ik ic cls bytes index) (hsr : jstr[j]? = some (Y.1, is, text)) (htab : ∀ x ∈ X.2.2.2.2.2.2.2.2.2.exceptionTable.toList, False)
    (d0 : decode Y.2.1 pc = .ok (.new ik, 3)) (d3 : decode Y.2.1 (pc + 3) = .ok (.dup, 1)) (d4 : decode Y.2.1 (pc + 4) = .ok (.ldc_w is, 3)) (d6 : decode Y.2.1 (pc + 7) = .ok (.invokespecial ic, 3)) (d9 : decode Y.2.1 (pc + 10) = .ok (.athrow, 1))
    (hst : (st.map fun v => v.category).sum ≤ 8) (hRc : cells + 1 ≤ X.2.2.2.1.cells ∧ slots + 6 ≤ X.2.2.2.1.slots) (hc : cells + 1 ≤ mc) (hs : slots + 6 ≤ ms) (hp : postX cls h) : JW G X Y h lv st pc cells slots (jEndX G X post postX mc ms) := by
  obtain ⟨p, l, e, R, s, m, args, below, meth, c⟩ := X
  obtain ⟨hx, hb, hml, hown, hts, hK, hG, hsz, hkp, hbg, hlk, htr, hRf, hRl⟩ := E
  intro hn H locs ls hP hS hL
  have hat := jThrN_at T hts hbg
  obtain ⟨T1, T2, T3, T4, T5, T6, T7⟩ := T
  have hst9 := jrest (σ := gS G) hst
  refine xt_throwW (A := jA G) hx hb htr T7 (by decide) hown T3 jThrN_fit (hts _ T1) (hts _ T2) (hbg.1 j _ hsr).1 hat T6 (jZ_kept hG hkp hbg.2.2.1) (jZ_kept hG hkp hbg.2.2.2.1) hS (by rw [hL.1]; exact hml.symm) d0 d3 d4 d6 d9 (fun x hx => (htab x hx).elim) (by show 1 + 4 < R.frames; omega) (by show _ + (13 * (1 + 2) + 43) ≤ R.locals; omega) hRc.1 hRc.2 hlk ?_ hS.2.2 hc hs
  intro t ht hz hk
  exact ⟨h, hp, hn, hP.kept (fun k q hq => hk q.1 ((hP k q hq).lt)), Nat.le_trans hS.1 hz, fun q hq hA => (hk q (Nat.lt_of_lt_of_le hq hS.1)).trans (hS.2.1 q hq hA)⟩
/-- thrown further -/
theorem J_out (E : jE G X Y) {cls : String} (htab : ∀ x ∈ X.2.2.2.2.2.2.2.2.2.exceptionTable.toList, False) (hc : cells ≤ mc) (hs : slots ≤ ms) (hp : postX cls h) : JWX G X Y cls h lv st pc cells slots (jEndX G X post postX mc ms) := by
  obtain ⟨p, l, e, R, s, m, args, below, meth, c⟩ := X
  obtain ⟨hx, hb, hml, hown, hts, hK, hG, hsz, hkp, hbg, hlk, htr, hRf, hRl⟩ := E
  intro hn H locs ls ce q9 hP hS hL hce hcv hcl
  exact vx_out (fun x hx => (htab x hx).elim) hlk hce hcv hcl (fun t ht _ => ⟨h, hp, hn, by rw [ht]; exact hP, hS.F ht⟩) hS.2.2 hc hs
/-- caught; a number is returned: astore, iconst, ireturn -/
theorem J_caught (E : jE G X Y) {cls name : String} (pre : List ExceptionTableEntry) (x : ExceptionTableEntry) (suf : List ExceptionTableEntry) (htab : X.2.2.2.2.2.2.2.2.2.exceptionTable.toList = pre ++ x :: suf) (hpre : pre = [] ∨ (cls = "java/lang/IllegalArgumentException" ∧ ∀ z ∈ pre, z.catchType ≠ 0 ∧ Cond.classLink Y.1 z.catchType "java/util/NoSuchElementException" ∈ jT))
    (hcov : covers x pc = true) (h0 : x.catchType ≠ 0) (hln : Cond.classLink Y.1 x.catchType name ∈ jT) (hct : Cond.castable cls name ∈ jNG) {i : Nat} {n : Int} {v : Int32} (hi : i < Y.2.2) (hv : Int32.ofInt n = v) (d0 : decode Y.2.1 x.handlerPc = .ok (.astore i, 2) ∨ ∃ j : Fin 4, (j : Nat) = i ∧ decode Y.2.1 x.handlerPc = .ok (.astore_n j, 1)) {q1 : Nat} (hq : q1 = x.handlerPc + (if i < 4 then 1 else 2)) (hi4 : (∃ j : Fin 4, (j : Nat) = i ∧ decode Y.2.1 x.handlerPc = .ok (.astore_n j, 1)) ↔ i < 4)
    (d1 : decode Y.2.1 q1 = .ok (.iconst n, 1)) (d2 : decode Y.2.1 (q1 + 1) = .ok (.ireturn, 1)) (hr : X.2.2.2.2.2.2.2.2.1.sig.returnType = some .int) (hc : cells ≤ mc) (hs : slots ≤ ms) (hp : post (some (.int v)) h) : JWX G X Y cls h lv st pc cells slots (jEnd G X post mc ms) := by
  obtain ⟨p, l, e, R, s, m, args, below, meth, c⟩ := X
  obtain ⟨hx, hb, hml, hown, hts, hK, hG, hsz, hkp, hbg, hlk, htr, hRf, hRl⟩ := E
  intro hn H locs ls ce q9 hP hS hL hce hcv hcl
  refine xc_catch (own := Y.1) (name := name) hown pre x suf htab ?_ hcov h0 (hts _ hln) (va_Nw.use rfl (hbg.2.1 _ hct rfl)) hce hcv hcl ?_
  · intro z hz
    rcases hpre with rfl | ⟨rfl, hpre⟩
    · cases hz
    · exact ⟨(hpre z hz).1, _, hts _ (hpre z hz).2, hbg.2.2.2.2.2.1⟩
  · have fin : ∀ ls' : Array Slot, W p l e R s m args below meth c H locs cells slots (MQ below (jQ G post) args s mc ms (jA G)) (F0 m q1 ls' []) := by
      intro ls'
      refine lv_iconst hx hb d1 hv ?_
      exact W.widen hc hs (W.zret hx hb hr rfl (fun t ht _ => ⟨some (.int v), h, rfl, hp, hn, by rw [ht]; exact hP, hS.F ht⟩) hS.2.2 d2 hlk)
    rcases d0 with d0 | ⟨j, hj, d0⟩
    · have h4 : ¬ i < 4 := fun z => by
        obtain ⟨j, -, hj⟩ := hi4.mpr z
        rw [d0] at hj
        cases hj
      rw [if_neg h4] at hq
      exact lv_astore hx hb d0 hL hi rfl (fun ls' _ => by rw [← hq]; exact fin ls')
    · rw [if_pos (hi4.mp ⟨j, hj, d0⟩)] at hq
      exact lv_astore_n hx hb d0 hj hL hi rfl (fun ls' _ => by rw [← hq]; exact fin ls')
/-- a static method with handlers -/
theorem J_callSW (E : jE G X Y) {y : MethodName} {bytes : ByteArray} {maxL : Nat} {ret : Option FieldType} {hh : List (Nat × Nat × Nat × Nat)} {n i d mc ms : Nat} {As : List Value} (hd : decode Y.2.1 pc = .ok (.invokestatic i, 3)) (hl : Cond.methodLink Y.1 i y ∈ jT) (C1 : Cond.codeWith y bytes maxL ret hh ∈ jT) (C2 : Cond.static y ∈ jT) (C4 : Cond.initialized y.cls ∈ jT) (C5 : jN y n)
    (hM : jMetW G X.2.1 y bytes maxL ret hh d mc ms As h post) (hn : As.length = n) (hst : (st.map fun v => v.category).sum ≤ 8) (hR : 10 * d + 21 ≤ X.2.2.2.1.frames ∧ 60 * d + 219 + maxL ≤ X.2.2.2.1.locals) (hf : cells + mc ≤ X.2.2.2.1.cells ∧ slots + ms ≤ X.2.2.2.1.slots)
    {st0 : List Value} (hs0 : As.reverse ++ st = st0) (kk : ∀ v h', post v h' → JW G X Y h' lv (v.toList ++ st) (pc + 3) (cells + mc) (slots + ms) Q) : JW G X Y h lv st0 pc cells slots Q := by
  obtain ⟨p, l, e, R, s, m, args, below, meth, c⟩ := X
  have E' := E
  obtain ⟨hx, hb, hml, hown, hts, hK, hG, hsz, hkp, hbg, hlk, htr, hRf, hRl⟩ := E
  subst hs0
  intro hn9 H locs ls hP hS hL
  have hGd : GoodIn jT (va_wsS Y.1 i y (Cond.codeWith y bytes maxL ret hh :: jT)) := jGoodA (by
    intro w hw
    rcases List.mem_cons.mp hw with rfl | hw
    · exact ⟨C1, jT_good C1⟩
    · exact ⟨hw, jT_good hw⟩) (by
    intro w hw
    simp only [List.mem_cons, List.not_mem_nil, or_false] at hw
    rcases hw with rfl | rfl | rfl
    · exact hl
    · exact C2
    · exact C4)
  refine jcall (vx_runSW (As := As.map (jv (gS G))) (rest := st.map (jv (gS G))) ⟨hx, hb, hml, hown, hts⟩ hM (vx_cwSW n hts hGd rfl rfl rfl C5 ⟨by show 10 * d + 20 + 1 ≤ R.frames; exact hR.1, by show 8 + (maxL + 11) + (60 * d + 200) ≤ R.locals; have hq9 : 60 * d + 219 + maxL ≤ R.locals := hR.2; omega⟩) (jpre E' hn9 hP hS As) rfl (by simpa using hn) hL.1 (by simp) (lv_room (jrest hst)) hd hf) hS ?_
  intro v h' H1 locs1 hp hn1 hP1 hS1
  rw [jv_list]
  exact kk v h' hp hn1 H1 locs1 ls hP1 hS1 hL
end JR
