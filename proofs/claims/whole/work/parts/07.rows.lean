/-! THE JUDGEMENT JW: the machine at a frame of one of the system's methods, over the abstract heap. G: the global numbers; X: the invocation; Y: the method's class, bytes and locals. -/
abbrev JG : Type := (Nat → Nat) × Nat × (Nat → ClassId) × (Nat → ClassId) × (Nat → Nat → Nat) × Heap
abbrev gS (G : JG) : Nat → Nat := G.1
abbrev gb (G : JG) : Nat := G.2.1
abbrev gA (G : JG) : Nat → ClassId := G.2.2.1
abbrev gD (G : JG) : va_G := (G.2.2.2.1, G.2.2.2.2.1)
abbrev gB (G : JG) : Heap := G.2.2.2.2.2
def jA (G : JG) : Nat → Prop := fun q => gb G ≤ q
abbrev jty (G : JG) : List (ClassId × FieldType) := [(gA G 0, .int), (gA G 1, .byte), (gA G 2, .boolean), (gA G 3, .long), (gA G 4, .object "java/lang/String")]
def jG (G : JG) : Prop := (∀ k, k < 1000000 → gS G k = gb G + k) ∧ (gB G).size = gb G
/-- the String constants: class, entry, text -/
def jstr : List (String × Nat × String) := [("RoundCoracles", 82, "the tape has not so many bytes"), ("RoundCoracles$Reader", 98, "sides"), ("RoundCoracles$Reader", 107, "reach"), ("RoundCoracles$Reader", 112, "judge"), ("RoundCoracles$Reader", 118, "bigot"), ("RoundCoracles$Reader", 120, "turns"), ("RoundCoracles$Reader", 211, "not"), ("RoundCoracles$Reader", 225, "lean"), ("RoundCoracles$Reader", 226, "seen"), ("RoundCoracles$Reader", 228, "faces"), ("RoundCoracles$Reader", 230, "here"), ("RoundCoracles$Reader", 232, "step"), ("RoundCoracles$Reader", 234, "spin"), ("RoundCoracles$Reader", 235, "flow"), ("RoundCoracles$Reader", 209, "and"), ("RoundCoracles$Reader", 198, "or"), ("RoundCoracles$Reader", 125, "goes"), ("RoundCoracles", 144, "no such what"), ("RoundCoracles", 341, "no such reach"), ("RoundCoracles", 339, "no such judge"), ("RoundCoracles", 343, "no such side"), ("RoundCoracles", 345, "not so many steps"), ("RoundCoracles", 302, "not 0 to 10 tenths"), ("RoundCoracles", 304, "both are one"), ("RoundCoraclesModel", 11, "judge"), ("RoundCoraclesModel", 13, "bigot"), ("RoundCoraclesModel", 19, "lean"), ("RoundCoraclesModel", 21, "seen"), ("RoundCoraclesModel", 23, "faces"), ("RoundCoraclesModel", 25, "here"), ("RoundCoraclesModel", 27, "step"), ("RoundCoraclesModel", 29, "spin"), ("RoundCoraclesModel", 34, "flow"), ("RoundCoraclesModel", 276, "sides"), ("RoundCoraclesModel", 278, "turns"), ("RoundCoraclesModel", 280, "goes"), ("RoundCoraclesModel", 257, "not"), ("RoundCoraclesModel", 265, "and"), ("RoundCoraclesModel", 270, "or"), ("RoundCoraclesModel", 288, "reach")]
def jbyt (t : String) (j : Nat) : Int32 := nI ((t.toList.getD j (Char.ofNat 0)).toNat)
def jStr (G : JG) (i : Nat) (q : String × Nat × String) (U : State) : Prop :=
  vk_R q.1 q.2.1 q.2.2 (gS G (1000000 + i)) U ∧ va_O "java/lang/String" (gS G (1000000 + i)) (jA G) U (gB G) ∧ va_OF "java/lang/String" "coder" "B" (.int 0) (gS G (1000000 + i)) (jA G) U (gB G) ∧
  va_OF "java/lang/String" "value" "[B" (.ref (gS G (2000000 + i))) (gS G (1000000 + i)) (jA G) U (gB G) ∧ va_T .byte (gS G (2000000 + i)) q.2.2.toList.length (fun j => .int (jbyt q.2.2 j)) (jA G) U (gB G)
def jkind (w : Cond) : Bool := match w with
  | .methodLinkNest .. => true
  | .declares _ => true
  | .castable .. => true
  | _ => false
/-- what is so of the background, whatever the system does -/
def jB (G : JG) (U : State) : Prop :=
  (∀ (i : Nat) (q : String × Nat × String), jstr[i]? = some q → jStr G i q U) ∧ (∀ w ∈ jNG, jkind w = true → va_Nw w U) ∧ vx_Zq Bundle.tN "UNASSIGNED_STACK" Bundle.steD (jA G) U (gB G) ∧ vx_Zq Bundle.tN "SUPPRESSED_SENTINEL" Bundle.listD (jA G) U (gB G) ∧
  va_Z "java/lang/String" "COMPACT_STRINGS" "Z" (.int 1) (jA G) U (gB G) ∧ va_Nc "java/lang/IllegalArgumentException" "java/util/NoSuchElementException" U ∧
  (va_Z "jdk/internal/util/Preconditions" "SIOOBE_FORMATTER" "Ljava/util/function/BiFunction;" .null (jA G) U (gB G) ∨ va_Z "jdk/internal/util/Preconditions" "SIOOBE_FORMATTER" "Ljava/util/function/BiFunction;" (.ref (gS G 3000000)) (jA G) U (gB G)) ∧ va_AO "java/lang/String" U
theorem jNw_warm {w : Cond} {s U : State} (hk : jkind w = true) (hW : s.WarmedH U.vm) (h : va_Nw w s) : va_Nw w U := by
  cases w with
  | methodLinkNest => exact va_Nw.warmM hW h
  | declares => exact va_Nw.warmD hW h
  | castable =>
    have ha := hW.alike
    simp only [va_Nw, Cond.before, Cond.holds, Cond.value, ha.findClass, ha.assignable] at h ⊢
    exact h
  | _ => simp [jkind] at hk
theorem jB.warm {G : JG} {s U : State} (hW : s.WarmedH U.vm) (h : jB G s) : jB G U := by
  obtain ⟨h1, h2, h3, h4, h5, h6, h7, h8⟩ := h
  refine ⟨fun i q hq => ?_, fun w hw hk => jNw_warm hk hW (h2 w hw hk), h3.moved hW.alike, h4.moved hW.alike, h5.moved hW.alike, va_Nc.moved hW.alike h6, h7.imp (fun z => z.moved hW.alike) (fun z => z.moved hW.alike), va_AO.moved hW.alike h8⟩
  obtain ⟨a1, a2, a3, a4, a5⟩ := h1 i q hq
  exact ⟨a1.warm hW, a2.moved hW.alike, a3.moved hW.alike, a4.moved hW.alike, a5.moved hW.alike⟩
abbrev JX : Type := Program × Launch × Env × Room × State × MethodId × Array Value × List Frame × Method × Code
abbrev JY : Type := String × ByteArray × Nat
def jE (G : JG) (X : JX) (Y : JY) : Prop := match X with
  | (p, l, _, R, s, m, args, _, meth, c) => p.tables.exec = Jvm.exec ∧ c.code = Y.2.1 ∧ c.maxLocals = Y.2.2 ∧ s.vm.findClass Y.1 = some m.cls ∧ (∀ w ∈ jT, w.before args s = true) ∧ va_K (gD G) vwCl (jty G) s ∧ jG G ∧ gb G ≤ s.heap.size ∧
    (∀ q, q < gb G → s.heap[q]? = (gB G)[q]?) ∧ jB G s ∧ meth.locks = false ∧ l.stackTraces = false ∧ 20 ≤ R.frames ∧ 200 ≤ R.locals
def jL (G : JG) (lv : List (Nat × Value)) : List (Nat × Value) := lv.map (fun q => (q.1, jv (gS G) q.2))
def JW (G : JG) (X : JX) (Y : JY) (h : AH) (lv : List (Nat × Value)) (st : List Value) (pc cells slots : Nat) (Q : State → Prop) : Prop := match X with
  | (p, l, e, R, s, m, args, below, meth, c) => h.length ≤ 1000000 → ∀ (H : Heap) (locs : List Loc) (ls : Array Slot), va_P (gD G) vwCl (jw (gS G) (gA G) h) H → va_S (jA G) s.heap H locs → lv_has ls Y.2.2 (jL G lv) →
    W p l e R s m args below meth c H locs cells slots Q (F0 m pc ls (st.map (jv (gS G))))
section J
variable {G : JG} {X : JX} {Y : JY} {h : AH} {lv lv' : List (Nat × Value)} {st : List Value} {pc cells slots : Nat} {Q : State → Prop}
theorem jL_at {ls : Array Slot} {n : Nat} (H : lv_has ls n (jL G lv)) (k : Nat) {i : Nat} {v : Value} (hk : lv[k]? = some (i, v)) : ls[i]? = some (.val (jv (gS G) v)) :=
  lv_at H k (by simp [jL, hk])
theorem jv_cat (σ : Nat → Nat) (v : Value) : (jv σ v).category = v.category := by cases v <;> rfl
def jset (lv : List (Nat × Value)) (i : Nat) (v : Value) : List (Nat × Value) := (i, v) :: lv.filter (fun q => !(q.1 == i) && !(q.1 + 1 == i && q.2.category == 2))
theorem jL_set {i : Nat} {v : Value} : (i, jv (gS G) v) :: (jL G lv).filter (fun q => !(q.1 == i) && !(q.1 + 1 == i && q.2.category == 2)) = jL G (jset lv i v) := by
  simp only [jL, jset, List.map_cons, List.filter_map]
  congr 2
  apply List.filter_congr
  intro q _
  simp [jv_cat]
/-- fewer locals, in any order -/
theorem J_sub (ks : List Nat) (hl : ks.filterMap (fun k => lv[k]?) = lv') (k : JW G X Y h lv' st pc cells slots Q) : JW G X Y h lv st pc cells slots Q := by
  obtain ⟨p, l, e, R, s, m, args, below, meth, c⟩ := X
  intro hn H locs ls hP hS hL
  refine k hn H locs ls hP hS ⟨hL.1, hL.2.1, fun q hq => ?_⟩
  rw [← hl] at hq
  simp only [jL, List.mem_map] at hq
  obtain ⟨q0, h1, rfl⟩ := hq
  obtain ⟨i, -, hi⟩ := List.mem_filterMap.mp h1
  exact jL_at hL i hi
theorem J_widen {cells' slots' : Nat} (h1 : cells ≤ cells') (h2 : slots ≤ slots') (k : JW G X Y h lv st pc cells' slots' Q) : JW G X Y h lv st pc cells slots Q := by
  obtain ⟨p, l, e, R, s, m, args, below, meth, c⟩ := X
  intro hn H locs ls hP hS hL
  exact W.widen h1 h2 (k hn H locs ls hP hS hL)
theorem J_iconst (E : jE G X Y) {n : Int} {v : Int32} (hd : decode Y.2.1 pc = .ok (.iconst n, 1)) (hv : Int32.ofInt n = v) (k : JW G X Y h lv (.int v :: st) (pc + 1) cells slots Q) : JW G X Y h lv (st) pc cells slots Q := by
  obtain ⟨p, l, e, R, s, m, args, below, meth, c⟩ := X
  obtain ⟨hx, hb, hml, hown, hts, hK, hG, hsz, hkp, hbg, hlk, htr, hRf, hRl⟩ := E
  intro hn H locs ls hP hS hL
  exact lv_iconst hx hb hd hv (k hn H locs ls hP hS hL)
theorem J_bipush (E : jE G X Y) {n : Int} {v : Int32} (hd : decode Y.2.1 pc = .ok (.bipush n, 2)) (hv : (Int8.ofInt n).toInt32 = v) (k : JW G X Y h lv (.int v :: st) (pc + 2) cells slots Q) : JW G X Y h lv (st) pc cells slots Q := by
  obtain ⟨p, l, e, R, s, m, args, below, meth, c⟩ := X
  obtain ⟨hx, hb, hml, hown, hts, hK, hG, hsz, hkp, hbg, hlk, htr, hRf, hRl⟩ := E
  intro hn H locs ls hP hS hL
  exact lv_bipush hx hb hd hv (k hn H locs ls hP hS hL)
theorem J_sipush (E : jE G X Y) {n : Int} {v : Int32} (hd : decode Y.2.1 pc = .ok (.sipush n, 3)) (hv : (Int16.ofInt n).toInt32 = v) (k : JW G X Y h lv (.int v :: st) (pc + 3) cells slots Q) : JW G X Y h lv (st) pc cells slots Q := by
  obtain ⟨p, l, e, R, s, m, args, below, meth, c⟩ := X
  obtain ⟨hx, hb, hml, hown, hts, hK, hG, hsz, hkp, hbg, hlk, htr, hRf, hRl⟩ := E
  intro hn H locs ls hP hS hL
  exact lv_sipush hx hb hd hv (k hn H locs ls hP hS hL)
theorem J_lconst (E : jE G X Y) {n : Fin 2} {v : Int64} (hd : decode Y.2.1 pc = .ok (.lconst n, 1)) (hv : Int64.ofNat (n : Nat) = v) (k : JW G X Y h lv (.long v :: st) (pc + 1) cells slots Q) : JW G X Y h lv (st) pc cells slots Q := by
  obtain ⟨p, l, e, R, s, m, args, below, meth, c⟩ := X
  obtain ⟨hx, hb, hml, hown, hts, hK, hG, hsz, hkp, hbg, hlk, htr, hRf, hRl⟩ := E
  intro hn H locs ls hP hS hL
  exact lv_lconst hx hb hd hv (k hn H locs ls hP hS hL)
theorem J_ldc (E : jE G X Y) {i : Nat} {v : Int32} (hd : decode Y.2.1 pc = .ok (.ldc i, 2)) (hc : Cond.constant Y.1 i v ∈ jT) (k : JW G X Y h lv (.int v :: st) (pc + 2) cells slots Q) : JW G X Y h lv (st) pc cells slots Q := by
  obtain ⟨p, l, e, R, s, m, args, below, meth, c⟩ := X
  obtain ⟨hx, hb, hml, hown, hts, hK, hG, hsz, hkp, hbg, hlk, htr, hRf, hRl⟩ := E
  intro hn H locs ls hP hS hL
  exact lv_ldc hx hb hown (hts _ hc) hd (k hn H locs ls hP hS hL)
theorem J_ldcw (E : jE G X Y) {i : Nat} {v : Int32} (hd : decode Y.2.1 pc = .ok (.ldc_w i, 3)) (hc : Cond.constant Y.1 i v ∈ jT) (k : JW G X Y h lv (.int v :: st) (pc + 3) cells slots Q) : JW G X Y h lv (st) pc cells slots Q := by
  obtain ⟨p, l, e, R, s, m, args, below, meth, c⟩ := X
  obtain ⟨hx, hb, hml, hown, hts, hK, hG, hsz, hkp, hbg, hlk, htr, hRf, hRl⟩ := E
  intro hn H locs ls hP hS hL
  exact lv_ldcw hx hb hown (hts _ hc) hd (k hn H locs ls hP hS hL)
theorem J_ldc2 (E : jE G X Y) {i : Nat} {v : Int64} (hd : decode Y.2.1 pc = .ok (.ldc2_w i, 3)) (hc : Cond.constantLong Y.1 i v ∈ jT) (k : JW G X Y h lv (.long v :: st) (pc + 3) cells slots Q) : JW G X Y h lv (st) pc cells slots Q := by
  obtain ⟨p, l, e, R, s, m, args, below, meth, c⟩ := X
  obtain ⟨hx, hb, hml, hown, hts, hK, hG, hsz, hkp, hbg, hlk, htr, hRf, hRl⟩ := E
  intro hn H locs ls hP hS hL
  exact lv_ldc2 hx hb hown (hts _ hc) hd (k hn H locs ls hP hS hL)
theorem J_ldcS (E : jE G X Y) {i j : Nat} {tx : String} (hd : decode Y.2.1 pc = .ok (.ldc i, 2)) (hs : jstr[j]? = some (Y.1, i, tx)) (k : JW G X Y h lv (.ref (1000000 + j) :: st) (pc + 2) cells slots Q) : JW G X Y h lv (st) pc cells slots Q := by
  obtain ⟨p, l, e, R, s, m, args, below, meth, c⟩ := X
  obtain ⟨hx, hb, hml, hown, hts, hK, hG, hsz, hkp, hbg, hlk, htr, hRf, hRl⟩ := E
  intro hn H locs ls hP hS hL
  exact va_ldcS hx hb hown (hbg.1 j _ hs).1 hd (k hn H locs ls hP hS hL)
theorem J_iload_n (E : jE G X Y) {n : Fin 4} {i : Nat} {x : Int32} (hd : decode Y.2.1 pc = .ok (.iload_n n, 1)) (hi : (n : Nat) = i) (q : Nat) (hq : lv[q]? = some (i, .int x)) (k : JW G X Y h lv (.int x :: st) (pc + 1) cells slots Q) : JW G X Y h lv (st) pc cells slots Q := by
  obtain ⟨p, l, e, R, s, m, args, below, meth, c⟩ := X
  obtain ⟨hx, hb, hml, hown, hts, hK, hG, hsz, hkp, hbg, hlk, htr, hRf, hRl⟩ := E
  intro hn H locs ls hP hS hL
  exact lv_iload_n hx hb hd hi (jL_at hL q hq) (k hn H locs ls hP hS hL)
theorem J_iload (E : jE G X Y) {i : Nat} {x : Int32} (hd : decode Y.2.1 pc = .ok (.iload i, 2)) (q : Nat) (hq : lv[q]? = some (i, .int x)) (k : JW G X Y h lv (.int x :: st) (pc + 2) cells slots Q) : JW G X Y h lv (st) pc cells slots Q := by
  obtain ⟨p, l, e, R, s, m, args, below, meth, c⟩ := X
  obtain ⟨hx, hb, hml, hown, hts, hK, hG, hsz, hkp, hbg, hlk, htr, hRf, hRl⟩ := E
  intro hn H locs ls hP hS hL
  exact lv_iload hx hb hd (jL_at hL q hq) (k hn H locs ls hP hS hL)
theorem J_lload_n (E : jE G X Y) {n : Fin 4} {i : Nat} {x : Int64} (hd : decode Y.2.1 pc = .ok (.lload_n n, 1)) (hi : (n : Nat) = i) (q : Nat) (hq : lv[q]? = some (i, .long x)) (k : JW G X Y h lv (.long x :: st) (pc + 1) cells slots Q) : JW G X Y h lv (st) pc cells slots Q := by
  obtain ⟨p, l, e, R, s, m, args, below, meth, c⟩ := X
  obtain ⟨hx, hb, hml, hown, hts, hK, hG, hsz, hkp, hbg, hlk, htr, hRf, hRl⟩ := E
  intro hn H locs ls hP hS hL
  exact lv_lload_n hx hb hd hi (jL_at hL q hq) (k hn H locs ls hP hS hL)
theorem J_lload (E : jE G X Y) {i : Nat} {x : Int64} (hd : decode Y.2.1 pc = .ok (.lload i, 2)) (q : Nat) (hq : lv[q]? = some (i, .long x)) (k : JW G X Y h lv (.long x :: st) (pc + 2) cells slots Q) : JW G X Y h lv (st) pc cells slots Q := by
  obtain ⟨p, l, e, R, s, m, args, below, meth, c⟩ := X
  obtain ⟨hx, hb, hml, hown, hts, hK, hG, hsz, hkp, hbg, hlk, htr, hRf, hRl⟩ := E
  intro hn H locs ls hP hS hL
  exact lv_lload hx hb hd (jL_at hL q hq) (k hn H locs ls hP hS hL)
theorem J_aload_n (E : jE G X Y) {n : Fin 4} {i : Nat} {x : Nat} (hd : decode Y.2.1 pc = .ok (.aload_n n, 1)) (hi : (n : Nat) = i) (q : Nat) (hq : lv[q]? = some (i, .ref x)) (k : JW G X Y h lv (.ref x :: st) (pc + 1) cells slots Q) : JW G X Y h lv (st) pc cells slots Q := by
  obtain ⟨p, l, e, R, s, m, args, below, meth, c⟩ := X
  obtain ⟨hx, hb, hml, hown, hts, hK, hG, hsz, hkp, hbg, hlk, htr, hRf, hRl⟩ := E
  intro hn H locs ls hP hS hL
  exact lv_aload_n hx hb hd hi (jL_at hL q hq) (k hn H locs ls hP hS hL)
theorem J_aload (E : jE G X Y) {i : Nat} {x : Nat} (hd : decode Y.2.1 pc = .ok (.aload i, 2)) (q : Nat) (hq : lv[q]? = some (i, .ref x)) (k : JW G X Y h lv (.ref x :: st) (pc + 2) cells slots Q) : JW G X Y h lv (st) pc cells slots Q := by
  obtain ⟨p, l, e, R, s, m, args, below, meth, c⟩ := X
  obtain ⟨hx, hb, hml, hown, hts, hK, hG, hsz, hkp, hbg, hlk, htr, hRf, hRl⟩ := E
  intro hn H locs ls hP hS hL
  exact lv_aload hx hb hd (jL_at hL q hq) (k hn H locs ls hP hS hL)
theorem J_istore_n (E : jE G X Y) {n : Fin 4} {i : Nat} {x : Int32} (hd : decode Y.2.1 pc = .ok (.istore_n n, 1)) (hi : (n : Nat) = i) (hi9 : i < Y.2.2) (hl : jset lv i (.int x) = lv') (k : JW G X Y h lv' st (pc + 1) cells slots Q) : JW G X Y h lv (.int x :: st) pc cells slots Q := by
  obtain ⟨p, l, e, R, s, m, args, below, meth, c⟩ := X
  obtain ⟨hx, hb, hml, hown, hts, hK, hG, hsz, hkp, hbg, hlk, htr, hRf, hRl⟩ := E
  intro hn H locs ls hP hS hL
  subst hl
  exact lv_istore_n hx hb hd hi hL hi9 (jL_set (v := .int x)) (fun ls hL => k hn H locs ls hP hS hL)
theorem J_istore (E : jE G X Y) {i : Nat} {x : Int32} (hd : decode Y.2.1 pc = .ok (.istore i, 2)) (hi9 : i < Y.2.2) (hl : jset lv i (.int x) = lv') (k : JW G X Y h lv' st (pc + 2) cells slots Q) : JW G X Y h lv (.int x :: st) pc cells slots Q := by
  obtain ⟨p, l, e, R, s, m, args, below, meth, c⟩ := X
  obtain ⟨hx, hb, hml, hown, hts, hK, hG, hsz, hkp, hbg, hlk, htr, hRf, hRl⟩ := E
  intro hn H locs ls hP hS hL
  subst hl
  exact lv_istore hx hb hd hL hi9 (jL_set (v := .int x)) (fun ls hL => k hn H locs ls hP hS hL)
theorem J_astore_n (E : jE G X Y) {n : Fin 4} {i : Nat} {x : Nat} (hd : decode Y.2.1 pc = .ok (.astore_n n, 1)) (hi : (n : Nat) = i) (hi9 : i < Y.2.2) (hl : jset lv i (.ref x) = lv') (k : JW G X Y h lv' st (pc + 1) cells slots Q) : JW G X Y h lv (.ref x :: st) pc cells slots Q := by
  obtain ⟨p, l, e, R, s, m, args, below, meth, c⟩ := X
  obtain ⟨hx, hb, hml, hown, hts, hK, hG, hsz, hkp, hbg, hlk, htr, hRf, hRl⟩ := E
  intro hn H locs ls hP hS hL
  subst hl
  exact lv_astore_n hx hb hd hi hL hi9 (jL_set (v := .ref x)) (fun ls hL => k hn H locs ls hP hS hL)
theorem J_astore (E : jE G X Y) {i : Nat} {x : Nat} (hd : decode Y.2.1 pc = .ok (.astore i, 2)) (hi9 : i < Y.2.2) (hl : jset lv i (.ref x) = lv') (k : JW G X Y h lv' st (pc + 2) cells slots Q) : JW G X Y h lv (.ref x :: st) pc cells slots Q := by
  obtain ⟨p, l, e, R, s, m, args, below, meth, c⟩ := X
  obtain ⟨hx, hb, hml, hown, hts, hK, hG, hsz, hkp, hbg, hlk, htr, hRf, hRl⟩ := E
  intro hn H locs ls hP hS hL
  subst hl
  exact lv_astore hx hb hd hL hi9 (jL_set (v := .ref x)) (fun ls hL => k hn H locs ls hP hS hL)
theorem J_iinc (E : jE G X Y) {i : Nat} {n : Int} {x v : Int32} (hd : decode Y.2.1 pc = .ok (.iinc i n, 3)) (q : Nat) (hq : lv[q]? = some (i, .int x)) (hv : x + Int32.ofInt n = v) (hi9 : i < Y.2.2) (hl : jset lv i (.int v) = lv') (k : JW G X Y h lv' st (pc + 3) cells slots Q) : JW G X Y h lv st pc cells slots Q := by
  obtain ⟨p, l, e, R, s, m, args, below, meth, c⟩ := X
  obtain ⟨hx, hb, hml, hown, hts, hK, hG, hsz, hkp, hbg, hlk, htr, hRf, hRl⟩ := E
  intro hn H locs ls hP hS hL
  subst hl
  exact lv_iinc hx hb hd hL (k := q) (x := x) (by simp [jL, hq, jv]) hv hi9 (jL_set (v := .int v)) (fun ls hL => k hn H locs ls hP hS hL)
theorem J_iadd (E : jE G X Y) {x y : Int32} (hd : decode Y.2.1 pc = .ok (.iadd, 1)) (k : JW G X Y h lv (.int (x + y) :: st) (pc + 1) cells slots Q) : JW G X Y h lv (.int y :: .int x :: st) pc cells slots Q := by
  obtain ⟨p, l, e, R, s, m, args, below, meth, c⟩ := X
  obtain ⟨hx, hb, hml, hown, hts, hK, hG, hsz, hkp, hbg, hlk, htr, hRf, hRl⟩ := E
  intro hn H locs ls hP hS hL
  exact lv_iadd hx hb hd (k hn H locs ls hP hS hL)
theorem J_isub (E : jE G X Y) {x y : Int32} (hd : decode Y.2.1 pc = .ok (.isub, 1)) (k : JW G X Y h lv (.int (x - y) :: st) (pc + 1) cells slots Q) : JW G X Y h lv (.int y :: .int x :: st) pc cells slots Q := by
  obtain ⟨p, l, e, R, s, m, args, below, meth, c⟩ := X
  obtain ⟨hx, hb, hml, hown, hts, hK, hG, hsz, hkp, hbg, hlk, htr, hRf, hRl⟩ := E
  intro hn H locs ls hP hS hL
  exact lv_isub hx hb hd (k hn H locs ls hP hS hL)
theorem J_imul (E : jE G X Y) {x y : Int32} (hd : decode Y.2.1 pc = .ok (.imul, 1)) (k : JW G X Y h lv (.int (x * y) :: st) (pc + 1) cells slots Q) : JW G X Y h lv (.int y :: .int x :: st) pc cells slots Q := by
  obtain ⟨p, l, e, R, s, m, args, below, meth, c⟩ := X
  obtain ⟨hx, hb, hml, hown, hts, hK, hG, hsz, hkp, hbg, hlk, htr, hRf, hRl⟩ := E
  intro hn H locs ls hP hS hL
  exact lv_imul hx hb hd (k hn H locs ls hP hS hL)
theorem J_iand (E : jE G X Y) {x y : Int32} (hd : decode Y.2.1 pc = .ok (.iand, 1)) (k : JW G X Y h lv (.int (x &&& y) :: st) (pc + 1) cells slots Q) : JW G X Y h lv (.int y :: .int x :: st) pc cells slots Q := by
  obtain ⟨p, l, e, R, s, m, args, below, meth, c⟩ := X
  obtain ⟨hx, hb, hml, hown, hts, hK, hG, hsz, hkp, hbg, hlk, htr, hRf, hRl⟩ := E
  intro hn H locs ls hP hS hL
  exact lv_iand hx hb hd (k hn H locs ls hP hS hL)
theorem J_ior (E : jE G X Y) {x y : Int32} (hd : decode Y.2.1 pc = .ok (.ior, 1)) (k : JW G X Y h lv (.int (x ||| y) :: st) (pc + 1) cells slots Q) : JW G X Y h lv (.int y :: .int x :: st) pc cells slots Q := by
  obtain ⟨p, l, e, R, s, m, args, below, meth, c⟩ := X
  obtain ⟨hx, hb, hml, hown, hts, hK, hG, hsz, hkp, hbg, hlk, htr, hRf, hRl⟩ := E
  intro hn H locs ls hP hS hL
  exact lv_ior hx hb hd (k hn H locs ls hP hS hL)
theorem J_ixor (E : jE G X Y) {x y : Int32} (hd : decode Y.2.1 pc = .ok (.ixor, 1)) (k : JW G X Y h lv (.int (x ^^^ y) :: st) (pc + 1) cells slots Q) : JW G X Y h lv (.int y :: .int x :: st) pc cells slots Q := by
  obtain ⟨p, l, e, R, s, m, args, below, meth, c⟩ := X
  obtain ⟨hx, hb, hml, hown, hts, hK, hG, hsz, hkp, hbg, hlk, htr, hRf, hRl⟩ := E
  intro hn H locs ls hP hS hL
  exact lv_ixor hx hb hd (k hn H locs ls hP hS hL)
theorem J_ishl (E : jE G X Y) {x y : Int32} (hd : decode Y.2.1 pc = .ok (.ishl, 1)) (k : JW G X Y h lv (.int (x <<< (y &&& 31)) :: st) (pc + 1) cells slots Q) : JW G X Y h lv (.int y :: .int x :: st) pc cells slots Q := by
  obtain ⟨p, l, e, R, s, m, args, below, meth, c⟩ := X
  obtain ⟨hx, hb, hml, hown, hts, hK, hG, hsz, hkp, hbg, hlk, htr, hRf, hRl⟩ := E
  intro hn H locs ls hP hS hL
  exact lv_ishl hx hb hd (k hn H locs ls hP hS hL)
theorem J_ishr (E : jE G X Y) {x y : Int32} (hd : decode Y.2.1 pc = .ok (.ishr, 1)) (k : JW G X Y h lv (.int (x >>> (y &&& 31)) :: st) (pc + 1) cells slots Q) : JW G X Y h lv (.int y :: .int x :: st) pc cells slots Q := by
  obtain ⟨p, l, e, R, s, m, args, below, meth, c⟩ := X
  obtain ⟨hx, hb, hml, hown, hts, hK, hG, hsz, hkp, hbg, hlk, htr, hRf, hRl⟩ := E
  intro hn H locs ls hP hS hL
  exact lv_ishr hx hb hd (k hn H locs ls hP hS hL)
theorem J_iushr (E : jE G X Y) {x y : Int32} (hd : decode Y.2.1 pc = .ok (.iushr, 1)) (k : JW G X Y h lv (.int (x.toUInt32 >>> (y.toUInt32 &&& Int32.toUInt32 31)).toInt32 :: st) (pc + 1) cells slots Q) : JW G X Y h lv (.int y :: .int x :: st) pc cells slots Q := by
  obtain ⟨p, l, e, R, s, m, args, below, meth, c⟩ := X
  obtain ⟨hx, hb, hml, hown, hts, hK, hG, hsz, hkp, hbg, hlk, htr, hRf, hRl⟩ := E
  intro hn H locs ls hP hS hL
  exact lv_iushr hx hb hd rfl (k hn H locs ls hP hS hL)
theorem J_idiv (E : jE G X Y) {x y : Int32} (hd : decode Y.2.1 pc = .ok (.idiv, 1)) (hz : ¬ y = 0) (k : JW G X Y h lv (.int (x / y) :: st) (pc + 1) cells slots Q) : JW G X Y h lv (.int y :: .int x :: st) pc cells slots Q := by
  obtain ⟨p, l, e, R, s, m, args, below, meth, c⟩ := X
  obtain ⟨hx, hb, hml, hown, hts, hK, hG, hsz, hkp, hbg, hlk, htr, hRf, hRl⟩ := E
  intro hn H locs ls hP hS hL
  exact lv_idiv hx hb hd hz (k hn H locs ls hP hS hL)
theorem J_irem (E : jE G X Y) {x y : Int32} (hd : decode Y.2.1 pc = .ok (.irem, 1)) (hz : ¬ y = 0) (k : JW G X Y h lv (.int (x - x / y * y) :: st) (pc + 1) cells slots Q) : JW G X Y h lv (.int y :: .int x :: st) pc cells slots Q := by
  obtain ⟨p, l, e, R, s, m, args, below, meth, c⟩ := X
  obtain ⟨hx, hb, hml, hown, hts, hK, hG, hsz, hkp, hbg, hlk, htr, hRf, hRl⟩ := E
  intro hn H locs ls hP hS hL
  exact lv_irem hx hb hd hz (k hn H locs ls hP hS hL)
theorem J_i2l (E : jE G X Y) {x : Int32} (hd : decode Y.2.1 pc = .ok (.i2l, 1)) (k : JW G X Y h lv (.long x.toInt64 :: st) (pc + 1) cells slots Q) : JW G X Y h lv (.int x :: st) pc cells slots Q := by
  obtain ⟨p, l, e, R, s, m, args, below, meth, c⟩ := X
  obtain ⟨hx, hb, hml, hown, hts, hK, hG, hsz, hkp, hbg, hlk, htr, hRf, hRl⟩ := E
  intro hn H locs ls hP hS hL
  exact lv_i2l hx hb hd rfl (k hn H locs ls hP hS hL)
theorem J_i2b (E : jE G X Y) {x : Int32} (hd : decode Y.2.1 pc = .ok (.i2b, 1)) (k : JW G X Y h lv (.int x.toInt8.toInt32 :: st) (pc + 1) cells slots Q) : JW G X Y h lv (.int x :: st) pc cells slots Q := by
  obtain ⟨p, l, e, R, s, m, args, below, meth, c⟩ := X
  obtain ⟨hx, hb, hml, hown, hts, hK, hG, hsz, hkp, hbg, hlk, htr, hRf, hRl⟩ := E
  intro hn H locs ls hP hS hL
  exact lv_i2b hx hb hd rfl (k hn H locs ls hP hS hL)
theorem J_lcmp (E : jE G X Y) {x y : Int64} (hd : decode Y.2.1 pc = .ok (.lcmp, 1)) (k : JW G X Y h lv (.int (lg_cmp x y) :: st) (pc + 1) cells slots Q) : JW G X Y h lv (.long y :: .long x :: st) pc cells slots Q := by
  obtain ⟨p, l, e, R, s, m, args, below, meth, c⟩ := X
  obtain ⟨hx, hb, hml, hown, hts, hK, hG, hsz, hkp, hbg, hlk, htr, hRf, hRl⟩ := E
  intro hn H locs ls hP hS hL
  exact W.lcmp hx hb hd (k hn H locs ls hP hS hL)
theorem J_dup (E : jE G X Y) {va : Value} (hd : decode Y.2.1 pc = .ok (.dup, 1)) (ha : va.category = 1) (k : JW G X Y h lv (va :: va :: st) (pc + 1) cells slots Q) : JW G X Y h lv (va :: st) pc cells slots Q := by
  obtain ⟨p, l, e, R, s, m, args, below, meth, c⟩ := X
  obtain ⟨hx, hb, hml, hown, hts, hK, hG, hsz, hkp, hbg, hlk, htr, hRf, hRl⟩ := E
  intro hn H locs ls hP hS hL
  exact lv_dup hx hb hd (by rw [jv_cat]; exact ha) (k hn H locs ls hP hS hL)
theorem J_pop (E : jE G X Y) {va : Value} (hd : decode Y.2.1 pc = .ok (.pop, 1)) (ha : va.category = 1) (k : JW G X Y h lv (st) (pc + 1) cells slots Q) : JW G X Y h lv (va :: st) pc cells slots Q := by
  obtain ⟨p, l, e, R, s, m, args, below, meth, c⟩ := X
  obtain ⟨hx, hb, hml, hown, hts, hK, hG, hsz, hkp, hbg, hlk, htr, hRf, hRl⟩ := E
  intro hn H locs ls hP hS hL
  exact lv_pop hx hb hd (by rw [jv_cat]; exact ha) (k hn H locs ls hP hS hL)
theorem J_dup_x1 (E : jE G X Y) {va vb : Value} (hd : decode Y.2.1 pc = .ok (.dup_x1, 1)) (ha : va.category = 1) (hb9 : vb.category = 1) (k : JW G X Y h lv (va :: vb :: va :: st) (pc + 1) cells slots Q) : JW G X Y h lv (va :: vb :: st) pc cells slots Q := by
  obtain ⟨p, l, e, R, s, m, args, below, meth, c⟩ := X
  obtain ⟨hx, hb, hml, hown, hts, hK, hG, hsz, hkp, hbg, hlk, htr, hRf, hRl⟩ := E
  intro hn H locs ls hP hS hL
  exact lv_dup_x1 hx hb hd (by rw [jv_cat]; exact ha) (by rw [jv_cat]; exact hb9) (k hn H locs ls hP hS hL)
theorem J_dup2 (E : jE G X Y) {va vb : Value} (hd : decode Y.2.1 pc = .ok (.dup2, 1)) (ha : va.category = 1) (hb9 : vb.category = 1) (k : JW G X Y h lv (va :: vb :: va :: vb :: st) (pc + 1) cells slots Q) : JW G X Y h lv (va :: vb :: st) pc cells slots Q := by
  obtain ⟨p, l, e, R, s, m, args, below, meth, c⟩ := X
  obtain ⟨hx, hb, hml, hown, hts, hK, hG, hsz, hkp, hbg, hlk, htr, hRf, hRl⟩ := E
  intro hn H locs ls hP hS hL
  exact lv_dup2_11 hx hb hd (by rw [jv_cat]; exact ha) (by rw [jv_cat]; exact hb9) (k hn H locs ls hP hS hL)
theorem J_icmp_eq (E : jE G X Y) {x y : Int32} {off : Int} {tgt : Nat} (hd : decode Y.2.1 pc = .ok (.if_icmp .eq off, 3)) (ht : (pc : Int) + off = (tgt : Int)) (kt : x = y → JW G X Y h lv st tgt cells slots Q) (kf : ¬ (x = y) → JW G X Y h lv st (pc + 3) cells slots Q) : JW G X Y h lv (.int y :: .int x :: st) pc cells slots Q := by
  obtain ⟨p, l, e, R, s, m, args, below, meth, c⟩ := X
  obtain ⟨hx, hb, hml, hown, hts, hK, hG, hsz, hkp, hbg, hlk, htr, hRf, hRl⟩ := E
  intro hn H locs ls hP hS hL
  exact lv_icmp_eq hx hb hd ht (fun q => kt q hn H locs ls hP hS hL) (fun q => kf q hn H locs ls hP hS hL)
theorem J_if_eq (E : jE G X Y) {x : Int32} {off : Int} {tgt : Nat} (hd : decode Y.2.1 pc = .ok (.ifCond .eq off, 3)) (ht : (pc : Int) + off = (tgt : Int)) (kt : x = 0 → JW G X Y h lv st tgt cells slots Q) (kf : ¬ (x = 0) → JW G X Y h lv st (pc + 3) cells slots Q) : JW G X Y h lv (.int x :: st) pc cells slots Q := by
  obtain ⟨p, l, e, R, s, m, args, below, meth, c⟩ := X
  obtain ⟨hx, hb, hml, hown, hts, hK, hG, hsz, hkp, hbg, hlk, htr, hRf, hRl⟩ := E
  intro hn H locs ls hP hS hL
  exact lv_if_eq hx hb hd ht (fun q => kt q hn H locs ls hP hS hL) (fun q => kf q hn H locs ls hP hS hL)
theorem J_icmp_ne (E : jE G X Y) {x y : Int32} {off : Int} {tgt : Nat} (hd : decode Y.2.1 pc = .ok (.if_icmp .ne off, 3)) (ht : (pc : Int) + off = (tgt : Int)) (kt : ¬ x = y → JW G X Y h lv st tgt cells slots Q) (kf : x = y → JW G X Y h lv st (pc + 3) cells slots Q) : JW G X Y h lv (.int y :: .int x :: st) pc cells slots Q := by
  obtain ⟨p, l, e, R, s, m, args, below, meth, c⟩ := X
  obtain ⟨hx, hb, hml, hown, hts, hK, hG, hsz, hkp, hbg, hlk, htr, hRf, hRl⟩ := E
  intro hn H locs ls hP hS hL
  exact lv_icmp_ne hx hb hd ht (fun q => kt q hn H locs ls hP hS hL) (fun q => kf q hn H locs ls hP hS hL)
theorem J_if_ne (E : jE G X Y) {x : Int32} {off : Int} {tgt : Nat} (hd : decode Y.2.1 pc = .ok (.ifCond .ne off, 3)) (ht : (pc : Int) + off = (tgt : Int)) (kt : ¬ x = 0 → JW G X Y h lv st tgt cells slots Q) (kf : x = 0 → JW G X Y h lv st (pc + 3) cells slots Q) : JW G X Y h lv (.int x :: st) pc cells slots Q := by
  obtain ⟨p, l, e, R, s, m, args, below, meth, c⟩ := X
  obtain ⟨hx, hb, hml, hown, hts, hK, hG, hsz, hkp, hbg, hlk, htr, hRf, hRl⟩ := E
  intro hn H locs ls hP hS hL
  exact lv_if_ne hx hb hd ht (fun q => kt q hn H locs ls hP hS hL) (fun q => kf q hn H locs ls hP hS hL)
theorem J_icmp_lt (E : jE G X Y) {x y : Int32} {off : Int} {tgt : Nat} (hd : decode Y.2.1 pc = .ok (.if_icmp .lt off, 3)) (ht : (pc : Int) + off = (tgt : Int)) (kt : x < y → JW G X Y h lv st tgt cells slots Q) (kf : ¬ (x < y) → JW G X Y h lv st (pc + 3) cells slots Q) : JW G X Y h lv (.int y :: .int x :: st) pc cells slots Q := by
  obtain ⟨p, l, e, R, s, m, args, below, meth, c⟩ := X
  obtain ⟨hx, hb, hml, hown, hts, hK, hG, hsz, hkp, hbg, hlk, htr, hRf, hRl⟩ := E
  intro hn H locs ls hP hS hL
  exact lv_icmp_lt hx hb hd ht (fun q => kt q hn H locs ls hP hS hL) (fun q => kf q hn H locs ls hP hS hL)
theorem J_if_lt (E : jE G X Y) {x : Int32} {off : Int} {tgt : Nat} (hd : decode Y.2.1 pc = .ok (.ifCond .lt off, 3)) (ht : (pc : Int) + off = (tgt : Int)) (kt : x < 0 → JW G X Y h lv st tgt cells slots Q) (kf : ¬ (x < 0) → JW G X Y h lv st (pc + 3) cells slots Q) : JW G X Y h lv (.int x :: st) pc cells slots Q := by
  obtain ⟨p, l, e, R, s, m, args, below, meth, c⟩ := X
  obtain ⟨hx, hb, hml, hown, hts, hK, hG, hsz, hkp, hbg, hlk, htr, hRf, hRl⟩ := E
  intro hn H locs ls hP hS hL
  exact lv_if_lt hx hb hd ht (fun q => kt q hn H locs ls hP hS hL) (fun q => kf q hn H locs ls hP hS hL)
theorem J_icmp_ge (E : jE G X Y) {x y : Int32} {off : Int} {tgt : Nat} (hd : decode Y.2.1 pc = .ok (.if_icmp .ge off, 3)) (ht : (pc : Int) + off = (tgt : Int)) (kt : y ≤ x → JW G X Y h lv st tgt cells slots Q) (kf : ¬ (y ≤ x) → JW G X Y h lv st (pc + 3) cells slots Q) : JW G X Y h lv (.int y :: .int x :: st) pc cells slots Q := by
  obtain ⟨p, l, e, R, s, m, args, below, meth, c⟩ := X
  obtain ⟨hx, hb, hml, hown, hts, hK, hG, hsz, hkp, hbg, hlk, htr, hRf, hRl⟩ := E
  intro hn H locs ls hP hS hL
  exact lv_icmp_ge hx hb hd ht (fun q => kt q hn H locs ls hP hS hL) (fun q => kf q hn H locs ls hP hS hL)
theorem J_if_ge (E : jE G X Y) {x : Int32} {off : Int} {tgt : Nat} (hd : decode Y.2.1 pc = .ok (.ifCond .ge off, 3)) (ht : (pc : Int) + off = (tgt : Int)) (kt : 0 ≤ x → JW G X Y h lv st tgt cells slots Q) (kf : ¬ (0 ≤ x) → JW G X Y h lv st (pc + 3) cells slots Q) : JW G X Y h lv (.int x :: st) pc cells slots Q := by
  obtain ⟨p, l, e, R, s, m, args, below, meth, c⟩ := X
  obtain ⟨hx, hb, hml, hown, hts, hK, hG, hsz, hkp, hbg, hlk, htr, hRf, hRl⟩ := E
  intro hn H locs ls hP hS hL
  exact lv_if_ge hx hb hd ht (fun q => kt q hn H locs ls hP hS hL) (fun q => kf q hn H locs ls hP hS hL)
theorem J_icmp_gt (E : jE G X Y) {x y : Int32} {off : Int} {tgt : Nat} (hd : decode Y.2.1 pc = .ok (.if_icmp .gt off, 3)) (ht : (pc : Int) + off = (tgt : Int)) (kt : y < x → JW G X Y h lv st tgt cells slots Q) (kf : ¬ (y < x) → JW G X Y h lv st (pc + 3) cells slots Q) : JW G X Y h lv (.int y :: .int x :: st) pc cells slots Q := by
  obtain ⟨p, l, e, R, s, m, args, below, meth, c⟩ := X
  obtain ⟨hx, hb, hml, hown, hts, hK, hG, hsz, hkp, hbg, hlk, htr, hRf, hRl⟩ := E
  intro hn H locs ls hP hS hL
  exact lv_icmp_gt hx hb hd ht (fun q => kt q hn H locs ls hP hS hL) (fun q => kf q hn H locs ls hP hS hL)
theorem J_if_gt (E : jE G X Y) {x : Int32} {off : Int} {tgt : Nat} (hd : decode Y.2.1 pc = .ok (.ifCond .gt off, 3)) (ht : (pc : Int) + off = (tgt : Int)) (kt : 0 < x → JW G X Y h lv st tgt cells slots Q) (kf : ¬ (0 < x) → JW G X Y h lv st (pc + 3) cells slots Q) : JW G X Y h lv (.int x :: st) pc cells slots Q := by
  obtain ⟨p, l, e, R, s, m, args, below, meth, c⟩ := X
  obtain ⟨hx, hb, hml, hown, hts, hK, hG, hsz, hkp, hbg, hlk, htr, hRf, hRl⟩ := E
  intro hn H locs ls hP hS hL
  exact lv_if_gt hx hb hd ht (fun q => kt q hn H locs ls hP hS hL) (fun q => kf q hn H locs ls hP hS hL)
theorem J_icmp_le (E : jE G X Y) {x y : Int32} {off : Int} {tgt : Nat} (hd : decode Y.2.1 pc = .ok (.if_icmp .le off, 3)) (ht : (pc : Int) + off = (tgt : Int)) (kt : x ≤ y → JW G X Y h lv st tgt cells slots Q) (kf : ¬ (x ≤ y) → JW G X Y h lv st (pc + 3) cells slots Q) : JW G X Y h lv (.int y :: .int x :: st) pc cells slots Q := by
  obtain ⟨p, l, e, R, s, m, args, below, meth, c⟩ := X
  obtain ⟨hx, hb, hml, hown, hts, hK, hG, hsz, hkp, hbg, hlk, htr, hRf, hRl⟩ := E
  intro hn H locs ls hP hS hL
  exact lv_icmp_le hx hb hd ht (fun q => kt q hn H locs ls hP hS hL) (fun q => kf q hn H locs ls hP hS hL)
theorem J_if_le (E : jE G X Y) {x : Int32} {off : Int} {tgt : Nat} (hd : decode Y.2.1 pc = .ok (.ifCond .le off, 3)) (ht : (pc : Int) + off = (tgt : Int)) (kt : x ≤ 0 → JW G X Y h lv st tgt cells slots Q) (kf : ¬ (x ≤ 0) → JW G X Y h lv st (pc + 3) cells slots Q) : JW G X Y h lv (.int x :: st) pc cells slots Q := by
  obtain ⟨p, l, e, R, s, m, args, below, meth, c⟩ := X
  obtain ⟨hx, hb, hml, hown, hts, hK, hG, hsz, hkp, hbg, hlk, htr, hRf, hRl⟩ := E
  intro hn H locs ls hP hS hL
  exact lv_if_le hx hb hd ht (fun q => kt q hn H locs ls hP hS hL) (fun q => kf q hn H locs ls hP hS hL)
theorem J_goto (E : jE G X Y) {off : Int} {tgt : Nat} (hd : decode Y.2.1 pc = .ok (.goto off, 3)) (ht : (pc : Int) + off = (tgt : Int)) (k : JW G X Y h lv st tgt cells slots Q) : JW G X Y h lv st pc cells slots Q := by
  obtain ⟨p, l, e, R, s, m, args, below, meth, c⟩ := X
  obtain ⟨hx, hb, hml, hown, hts, hK, hG, hsz, hkp, hbg, hlk, htr, hRf, hRl⟩ := E
  intro hn H locs ls hP hS hL
  exact lv_goto hx hb hd ht (k hn H locs ls hP hS hL)
theorem J_tableOut (E : jE G X Y) {dflt lo hi : Int} {offs : Array Int} {len : Nat} {x : Int32} {tgt : Nat} (hd : decode Y.2.1 pc = .ok (.tableswitch dflt lo hi offs, len)) (ho : x.toInt < lo ∨ hi < x.toInt) (ht : (pc : Int) + dflt = (tgt : Int)) (k : JW G X Y h lv st tgt cells slots Q) : JW G X Y h lv (.int x :: st) pc cells slots Q := by
  obtain ⟨p, l, e, R, s, m, args, below, meth, c⟩ := X
  obtain ⟨hx, hb, hml, hown, hts, hK, hG, hsz, hkp, hbg, hlk, htr, hRf, hRl⟩ := E
  intro hn H locs ls hP hS hL
  exact lv_tableOut hx hb hd ho ht (k hn H locs ls hP hS hL)
theorem J_tableIn (E : jE G X Y) {dflt lo hi : Int} {offs : Array Int} {len : Nat} {x : Int32} {off : Int} {tgt : Nat} (hd : decode Y.2.1 pc = .ok (.tableswitch dflt lo hi offs, len)) (h1 : ¬ x.toInt < lo) (h2 : ¬ hi < x.toInt) (ho : offs[(x.toInt - lo).toNat]? = some off) (ht : (pc : Int) + off = (tgt : Int)) (k : JW G X Y h lv st tgt cells slots Q) : JW G X Y h lv (.int x :: st) pc cells slots Q := by
  obtain ⟨p, l, e, R, s, m, args, below, meth, c⟩ := X
  obtain ⟨hx, hb, hml, hown, hts, hK, hG, hsz, hkp, hbg, hlk, htr, hRf, hRl⟩ := E
  intro hn H locs ls hP hS hL
  exact lv_tableIn hx hb hd h1 h2 ho ht (k hn H locs ls hP hS hL)
end J
