/-! contracts over the abstract heap; their ends; calls by contract; throws -/
def jOK (G : JG) (h : AH) (U : State) : Prop := h.length ≤ 1000000 ∧ va_P (gD G) vwCl (jw (gS G) (gA G) h) U.heap ∧ va_K (gD G) vwCl (jty G) U ∧ (∀ q, q < gb G → U.heap[q]? = (gB G)[q]?) ∧ gb G ≤ U.heap.size ∧ jB G U
def jPc (G : JG) (As : List Value) (h : AH) : Array Value → State → Prop := va_Pc (As.map (jv (gS G))) (jOK G h)
def jQ (G : JG) (post : Option Value → AH → Prop) : Array Value → State → Outcome → State → Prop := fun _ st o t =>
  ∃ (v : Option Value) (h : AH), o = .returned (v.map (jv (gS G))) ∧ post v h ∧ h.length ≤ 1000000 ∧ va_P (gD G) vwCl (jw (gS G) (gA G) h) t.heap ∧ va_F (jA G) st t
def jQX (G : JG) (postX : String → AH → Prop) : String → State → State → Prop := fun E st t =>
  ∃ h : AH, postX E h ∧ h.length ≤ 1000000 ∧ va_P (gD G) vwCl (jw (gS G) (gA G) h) t.heap ∧ va_F (jA G) st t
def jRm (d mc ms : Nat) : Room := { frames := 10 * d + 20, cells := mc, slots := ms, locals := 60 * d + 200 }
def jws (y : MethodName) (bytes : ByteArray) (maxL : Nat) (ret : Option FieldType) : List Cond := Cond.code y bytes maxL ret :: jT
/-- a method that returns -/
def jMet (G : JG) (l : Launch) (y : MethodName) (bytes : ByteArray) (maxL : Nat) (ret : Option FieldType) (d mc ms : Nat) (As : List Value) (h : AH) (post : Option Value → AH → Prop) : Prop :=
  Met l y (jws y bytes maxL ret) (jRm d mc ms) (jPc G As h) (jQ G post) mc ms (jA G)
/-- a method that returns or throws -/
def jMetX (G : JG) (l : Launch) (y : MethodName) (bytes : ByteArray) (maxL : Nat) (ret : Option FieldType) (d mc ms : Nat) (As : List Value) (h : AH) (post : Option Value → AH → Prop) (postX : String → AH → Prop) : Prop :=
  vx_Met l y (jws y bytes maxL ret) (jRm d mc ms) (jPc G As h) (jQ G post) (jQX G postX) mc ms (jA G)
def jEnd (G : JG) (X : JX) (post : Option Value → AH → Prop) (mc ms : Nat) : State → Prop := match X with
  | (_, _, _, _, s, _, args, below, _, _) => MQ below (jQ G post) args s mc ms (jA G)
def jEndX (G : JG) (X : JX) (post : Option Value → AH → Prop) (postX : String → AH → Prop) (mc ms : Nat) : State → Prop := match X with
  | (_, _, _, _, s, _, args, below, _, _) => vx_MQ below (jQ G post) (jQX G postX) args s mc ms (jA G)
theorem jPc_blind {G : JG} {As : List Value} {h : AH} : FrameBlind (jPc G As h) := by
  intro a U g mk q
  obtain ⟨q0, q1, q2, q3, q4, q5, q6⟩ := q
  exact ⟨q0, q1, q2, va_K.moved (u := U) (U := U.calling g mk a) (Vm.Alike.refl U.vm) q3, q4, q5, q6.warm (s := U) (U := U.calling g mk a) (State.WarmedH.refl U)⟩
theorem jGood {y : MethodName} {bytes : ByteArray} {maxL : Nat} {ret : Option FieldType} (h : Cond.code y bytes maxL ret ∈ jT) : GoodIn jT (jws y bytes maxL ret) := by
  intro w hw
  rcases List.mem_cons.mp hw with rfl | hw
  · exact ⟨h, jT_good h⟩
  · exact ⟨hw, jT_good hw⟩
theorem jGoodA {ws : List Cond} {vs : List Cond} (h : GoodIn jT ws) (hv : ∀ w ∈ vs, w ∈ jT) : GoodIn jT (vs ++ ws) := by
  intro w hw
  rcases List.mem_append.mp hw with hw | hw
  · exact ⟨hv w hw, jT_good (hv w hw)⟩
  · exact h w hw
/-- what a callee's name needs -/
def jN (y : MethodName) (n : Nat) : Prop := y.cls ≠ "java/lang/invoke/MethodHandle" ∧ y.cls ≠ "java/lang/invoke/VarHandle" ∧ (parseMethodDescriptor y.desc).map (fun d => d.parameters.length) = some n
def jCV (y : MethodName) (bytes : ByteArray) (maxL : Nat) (ret : Option FieldType) (n : Nat) : Prop := Cond.code y bytes maxL ret ∈ jT ∧ Cond.instanceMethod y ∈ jT ∧ Cond.selects y.cls y y ∈ jT ∧ Cond.initialized y.cls ∈ jT ∧ jN y n
def jCS (y : MethodName) (bytes : ByteArray) (maxL : Nat) (ret : Option FieldType) (n : Nat) : Prop := Cond.code y bytes maxL ret ∈ jT ∧ Cond.static y ∈ jT ∧ Cond.initialized y.cls ∈ jT ∧ jN y n
def jCI (y : MethodName) (bytes : ByteArray) (maxL : Nat) (n : Nat) : Prop := Cond.code y bytes maxL none ∈ jT ∧ Cond.instanceMethod y ∈ jT ∧ Cond.initialized y.cls ∈ jT ∧ y.name = "<init>" ∧ jN y n
def JWX (G : JG) (X : JX) (Y : JY) (E : String) (h : AH) (lv : List (Nat × Value)) (st : List Value) (pc cells slots : Nat) (Q : State → Prop) : Prop := match X with
  | (p, l, e, R, s, m, args, below, meth, c) => h.length ≤ 1000000 → ∀ (H : Heap) (locs : List Loc) (ls : Array Slot) (ce : Cell) (q9 : Addr), va_P (gD G) vwCl (jw (gS G) (gA G) h) H → va_S (jA G) s.heap H locs → lv_has ls Y.2.2 (jL G lv) → H[q9]? = some ce → ce.vm = .none → s.vm.findClass E = some ce.cls →
    vx_W p l e R s m args below meth c H locs cells slots Q (F0 m pc ls (st.map (jv (gS G)))) q9
section JC
variable {G : JG} {X : JX} {Y : JY} {h h' : AH} {lv lv' : List (Nat × Value)} {st : List Value} {pc cells slots : Nat} {Q : State → Prop}
theorem jcall {p : Program} {l : Launch} {e : Env} {R : Room} {s : State} {m : MethodId} {args : Array Value} {below : List Frame} {meth : Method} {c : Code} {H : Heap} {locs : List Loc} {mc ms : Nat} {ls : Array Slot} {st0 rest : List Value} {a : Array Value} {post : Option Value → AH → Prop}
    (hr : va_Run p l e R s m args below meth c H locs cells slots mc ms (F0 m pc ls st0) rest (jQ G post a) (jA G)) (hS : va_S (jA G) s.heap H locs)
    (kk : ∀ (v : Option Value) (h' : AH) (H1 : Heap) (locs1 : List Loc), post v h' → h'.length ≤ 1000000 → va_P (gD G) vwCl (jw (gS G) (gA G) h') H1 → va_S (jA G) s.heap H1 locs1 → W p l e R s m args below meth c H1 locs1 (cells + mc) (slots + ms) Q (F0 m (pc + 3) ls ((v.map (jv (gS G))).toList ++ rest))) : W p l e R s m args below meth c H locs cells slots Q (F0 m pc ls st0) := by
  intro T hT X
  obtain ⟨v, st₀, t, T', L, h0, X', hL, e1, e2, ⟨w, h', hv, hp, hn, hP, hF⟩, stp⟩ := hr T hT X
  cases hv
  obtain ⟨k1, k2, k3⟩ := vx_keep h0 e1 hS (fun _ _ z => z) (fun _ z => z) hL hF
  obtain ⟨t2, a1, b1⟩ := kk w h' T'.heap (locs ++ L) hp hn (by rw [e1]; exact hP) k3 T' rfl X'
  exact ⟨t2, stp t2 a1, b1⟩
theorem jcallX {p : Program} {l : Launch} {e : Env} {R : Room} {s : State} {m : MethodId} {args : Array Value} {below : List Frame} {meth : Method} {c : Code} {H : Heap} {locs : List Loc} {mc ms : Nat} {ls : Array Slot} {st0 rest : List Value} {a : Array Value} {post : Option Value → AH → Prop} {postX : String → AH → Prop}
    (hr : vx_Run p l e R s m args below meth c H locs cells slots mc ms (F0 m pc ls st0) rest (jQ G post a) (jQX G postX) (jA G)) (hS : va_S (jA G) s.heap H locs)
    (kk : ∀ (v : Option Value) (h' : AH) (H1 : Heap) (locs1 : List Loc), post v h' → h'.length ≤ 1000000 → va_P (gD G) vwCl (jw (gS G) (gA G) h') H1 → va_S (jA G) s.heap H1 locs1 → W p l e R s m args below meth c H1 locs1 (cells + mc) (slots + ms) Q (F0 m (pc + 3) ls ((v.map (jv (gS G))).toList ++ rest)))
    (kx : ∀ (E : String) (h' : AH) (H1 : Heap) (locs1 : List Loc) (ce : Cell) (q9 : Addr), postX E h' → h'.length ≤ 1000000 → va_P (gD G) vwCl (jw (gS G) (gA G) h') H1 → va_S (jA G) s.heap H1 locs1 → H1[q9]? = some ce → ce.vm = .none → s.vm.findClass E = some ce.cls → vx_W p l e R s m args below meth c H1 locs1 (cells + mc) (slots + ms) Q (F0 m pc ls rest) q9) : W p l e R s m args below meth c H locs cells slots Q (F0 m pc ls st0) := by
  intro T hT X
  rcases hr T hT X with ⟨v, st₀, t, T', L, h0, X', hL, e1, e2, ⟨w, h', hv, hp, hn, hP, hF⟩, stp⟩ | ⟨q, st₀, t, T', L, E, ce, h0, X', hL, e1, e2, ⟨h', hp, hn, hP, hF⟩, hce, hcv, hcl, stp⟩
  · cases hv
    obtain ⟨k1, k2, k3⟩ := vx_keep h0 e1 hS (fun _ _ z => z) (fun _ z => z) hL hF
    obtain ⟨t2, a1, b1⟩ := kk w h' T'.heap (locs ++ L) hp hn (by rw [e1]; exact hP) k3 T' rfl X'
    exact ⟨t2, stp t2 a1, b1⟩
  · obtain ⟨k1, k2, k3⟩ := vx_keep h0 e1 hS (fun _ _ z => z) (fun _ z => z) hL hF
    obtain ⟨t2, a1, b1⟩ := kx E h' T'.heap (locs ++ L) ce q hp hn (by rw [e1]; exact hP) k3 (by rw [e1]; exact hce) hcv hcl T' rfl X'
    exact ⟨t2, stp.trans a1, b1⟩
theorem jrest {σ : Nat → Nat} (hst : (st.map fun v => v.category).sum ≤ 8) : ((st.map (jv σ)).map fun v => v.category).sum ≤ 8 := by
  have : (fun v => Value.category (jv σ v)) = fun v => v.category := funext fun v => jv_cat _ v
  simpa [List.map_map, Function.comp_def, this] using hst
theorem jv_list {σ : Nat → Nat} (v : Option Value) : ((v.map (jv σ)).toList ++ st.map (jv σ)) = (v.toList ++ st).map (jv σ) := by
  cases v <;> rfl
theorem jpre {p : Program} {l : Launch} {e : Env} {R : Room} {s : State} {m : MethodId} {args : Array Value} {below : List Frame} {meth : Method} {c : Code} {H : Heap} {locs : List Loc} (E : jE G (p, l, e, R, s, m, args, below, meth, c) Y) (hn : h.length ≤ 1000000) (hP : va_P (gD G) vwCl (jw (gS G) (gA G) h) H) (hS : va_S (jA G) s.heap H locs) (As : List Value) : PreS s H (jPc G As h) (As.map (jv (gS G))) := by
  obtain ⟨hx, hb, hml, hown, hts, hK, hG, hsz, hkp, hbg, hlk, htr, hRf, hRl⟩ := E
  refine ⟨jPc_blind, fun U hU hW => ⟨rfl, hn, by rw [hU]; exact hP, va_K.moved hW.alike hK, fun q hq => ?_, by rw [hU]; exact Nat.le_trans hsz hS.1, hbg.warm hW⟩⟩
  rw [hU, hS.2.1 q (Nat.lt_of_lt_of_le hq hsz) (fun z => Nat.not_le.mpr hq z)]
  exact hkp q hq
theorem J_callV (E : jE G X Y) {y : MethodName} {bytes : ByteArray} {maxL : Nat} {ret : Option FieldType} {n i d mc ms a ci : Nat} {As : List Value} {post : Option Value → AH → Prop} (hd : decode Y.2.1 pc = .ok (.invokevirtual i, 3)) (hl : Cond.methodLink Y.1 i y ∈ jT) (C : jCV y bytes maxL ret n) {u : Unit} (hck : jck ci h a = some u) (hci : (vwCl[ci]?).map (·.1) = some y.cls)
    (hM : jMet G X.2.1 y bytes maxL ret d mc ms (.ref a :: As) h post) (hn : As.length = n) (hst : (st.map fun v => v.category).sum ≤ 8) (hR : 10 * d + 21 ≤ X.2.2.2.1.frames ∧ 60 * d + 219 + maxL ≤ X.2.2.2.1.locals) (hf : cells + mc ≤ X.2.2.2.1.cells ∧ slots + ms ≤ X.2.2.2.1.slots)
    {st0 : List Value} (hs0 : As.reverse ++ .ref a :: st = st0) (kk : ∀ v h', post v h' → JW G X Y h' lv (v.toList ++ st) (pc + 3) (cells + mc) (slots + ms) Q) : JW G X Y h lv st0 pc cells slots Q := by
  obtain ⟨p, l, e, R, s, m, args, below, meth, c⟩ := X
  have E' := E
  obtain ⟨hx, hb, hml, hown, hts, hK, hG, hsz, hkp, hbg, hlk, htr, hRf, hRl⟩ := E
  obtain ⟨C1, C2, C3, C4, C5, C6, C7⟩ := C
  obtain ⟨fs, h1⟩ := jck_inv hck
  obtain ⟨q, hq, hq1⟩ := Option.map_eq_some_iff.mp hci
  subst hs0
  intro hn9 H locs ls hP hS hL
  have hGd : GoodIn jT (wsV Y.1 i y.cls y (jws y bytes maxL ret)) := jGoodA (jGood C1) (by
    intro w hw
    simp only [List.mem_cons, List.not_mem_nil, or_false] at hw
    rcases hw with rfl | rfl | rfl | rfl
    · exact hl
    · exact C2
    · exact C3
    · exact C4)
  have hpre := jpre E' hn9 hP hS (.ref a :: As)
  refine jcall (va_runV (C := y.cls) (As := As.map (jv (gS G))) (rest := st.map (jv (gS G))) (b := gS G a) ⟨hx, hb, hml, hown, hts⟩ hM (cwV n hts hGd rfl rfl rfl ⟨rfl, C5, C6, C7⟩ ⟨by show 10 * d + 20 + 1 ≤ R.frames; exact hR.1, by show 8 + (maxL + 11) + (60 * d + 200) ≤ R.locals; have hq9 : 60 * d + 219 + maxL ≤ R.locals := hR.2; omega⟩) ⟨hpre.1, by rw [← hq1]; exact va_recv hK hP hq (jw_get h1), hpre.2⟩ rfl (by simpa using hn) hL.1 (by simp [jv]) (lv_room (jrest hst)) hd hf) hS ?_
  intro v h' H1 locs1 hp hn1 hP1 hS1
  rw [jv_list]
  exact kk v h' hp hn1 H1 locs1 ls hP1 hS1 hL
theorem J_callVX (E : jE G X Y) {y : MethodName} {bytes : ByteArray} {maxL : Nat} {ret : Option FieldType} {n i d mc ms a ci : Nat} {As : List Value} {post : Option Value → AH → Prop} {postX : String → AH → Prop} (hd : decode Y.2.1 pc = .ok (.invokevirtual i, 3)) (hl : Cond.methodLink Y.1 i y ∈ jT) (C : jCV y bytes maxL ret n) {u : Unit} (hck : jck ci h a = some u) (hci : (vwCl[ci]?).map (·.1) = some y.cls)
    (hM : jMetX G X.2.1 y bytes maxL ret d mc ms (.ref a :: As) h post postX) (hn : As.length = n) (hst : (st.map fun v => v.category).sum ≤ 8) (hR : 10 * d + 21 ≤ X.2.2.2.1.frames ∧ 60 * d + 219 + maxL ≤ X.2.2.2.1.locals) (hf : cells + mc ≤ X.2.2.2.1.cells ∧ slots + ms ≤ X.2.2.2.1.slots)
    {st0 : List Value} (hs0 : As.reverse ++ .ref a :: st = st0) (kk : ∀ v h', post v h' → JW G X Y h' lv (v.toList ++ st) (pc + 3) (cells + mc) (slots + ms) Q) (kx : ∀ E h', postX E h' → JWX G X Y E h' lv st pc (cells + mc) (slots + ms) Q) : JW G X Y h lv st0 pc cells slots Q := by
  obtain ⟨p, l, e, R, s, m, args, below, meth, c⟩ := X
  have E' := E
  obtain ⟨hx, hb, hml, hown, hts, hK, hG, hsz, hkp, hbg, hlk, htr, hRf, hRl⟩ := E
  obtain ⟨C1, C2, C3, C4, C5, C6, C7⟩ := C
  obtain ⟨fs, h1⟩ := jck_inv hck
  obtain ⟨q, hq, hq1⟩ := Option.map_eq_some_iff.mp hci
  subst hs0
  intro hn9 H locs ls hP hS hL
  have hGd : GoodIn jT (wsV Y.1 i y.cls y (jws y bytes maxL ret)) := jGoodA (jGood C1) (by
    intro w hw
    simp only [List.mem_cons, List.not_mem_nil, or_false] at hw
    rcases hw with rfl | rfl | rfl | rfl
    · exact hl
    · exact C2
    · exact C3
    · exact C4)
  have hpre := jpre E' hn9 hP hS (.ref a :: As)
  refine jcallX (vx_runV (C := y.cls) (As := As.map (jv (gS G))) (rest := st.map (jv (gS G))) (b := gS G a) ⟨hx, hb, hml, hown, hts⟩ hM (cwV n hts hGd rfl rfl rfl ⟨rfl, C5, C6, C7⟩ ⟨by show 10 * d + 20 + 1 ≤ R.frames; exact hR.1, by show 8 + (maxL + 11) + (60 * d + 200) ≤ R.locals; have hq9 : 60 * d + 219 + maxL ≤ R.locals := hR.2; omega⟩) ⟨hpre.1, by rw [← hq1]; exact va_recv hK hP hq (jw_get h1), hpre.2⟩ rfl (by simpa using hn) hL.1 (by simp [jv]) (lv_room (jrest hst)) hd hf) hS ?_ ?_
  · intro v h' H1 locs1 hp hn1 hP1 hS1
    rw [jv_list]
    exact kk v h' hp hn1 H1 locs1 ls hP1 hS1 hL
  · intro E1 h' H1 locs1 ce q9 hp hn1 hP1 hS1 hce hcv hcl
    exact kx E1 h' hp hn1 H1 locs1 ls ce q9 hP1 hS1 hL hce hcv hcl
theorem J_callS (E : jE G X Y) {y : MethodName} {bytes : ByteArray} {maxL : Nat} {ret : Option FieldType} {n i d mc ms : Nat} {As : List Value} {post : Option Value → AH → Prop} (hd : decode Y.2.1 pc = .ok (.invokestatic i, 3)) (hl : Cond.methodLink Y.1 i y ∈ jT) (C : jCS y bytes maxL ret n)
    (hM : jMet G X.2.1 y bytes maxL ret d mc ms As h post) (hn : As.length = n) (hst : (st.map fun v => v.category).sum ≤ 8) (hR : 10 * d + 21 ≤ X.2.2.2.1.frames ∧ 60 * d + 219 + maxL ≤ X.2.2.2.1.locals) (hf : cells + mc ≤ X.2.2.2.1.cells ∧ slots + ms ≤ X.2.2.2.1.slots)
    {st0 : List Value} (hs0 : As.reverse ++ st = st0) (kk : ∀ v h', post v h' → JW G X Y h' lv (v.toList ++ st) (pc + 3) (cells + mc) (slots + ms) Q) : JW G X Y h lv st0 pc cells slots Q := by
  obtain ⟨p, l, e, R, s, m, args, below, meth, c⟩ := X
  have E' := E
  obtain ⟨hx, hb, hml, hown, hts, hK, hG, hsz, hkp, hbg, hlk, htr, hRf, hRl⟩ := E
  obtain ⟨C1, C2, C4, C5, C6, C7⟩ := C
  subst hs0
  intro hn9 H locs ls hP hS hL
  have hGd : GoodIn jT (va_wsS Y.1 i y (jws y bytes maxL ret)) := jGoodA (jGood C1) (by
    intro w hw
    simp only [List.mem_cons, List.not_mem_nil, or_false] at hw
    rcases hw with rfl | rfl | rfl
    · exact hl
    · exact C2
    · exact C4)
  refine jcall (va_runS (As := As.map (jv (gS G))) (rest := st.map (jv (gS G))) ⟨hx, hb, hml, hown, hts⟩ hM (va_cwS n hts hGd rfl rfl rfl ⟨C5, C6, C7⟩ ⟨by show 10 * d + 20 + 1 ≤ R.frames; exact hR.1, by show 8 + (maxL + 11) + (60 * d + 200) ≤ R.locals; have hq9 : 60 * d + 219 + maxL ≤ R.locals := hR.2; omega⟩) (jpre E' hn9 hP hS As) rfl (by simpa using hn) hL.1 (by simp) (lv_room (jrest hst)) hd hf) hS ?_
  intro v h' H1 locs1 hp hn1 hP1 hS1
  rw [jv_list]
  exact kk v h' hp hn1 H1 locs1 ls hP1 hS1 hL
theorem J_callSX (E : jE G X Y) {y : MethodName} {bytes : ByteArray} {maxL : Nat} {ret : Option FieldType} {n i d mc ms : Nat} {As : List Value} {post : Option Value → AH → Prop} {postX : String → AH → Prop} (hd : decode Y.2.1 pc = .ok (.invokestatic i, 3)) (hl : Cond.methodLink Y.1 i y ∈ jT) (C : jCS y bytes maxL ret n)
    (hM : jMetX G X.2.1 y bytes maxL ret d mc ms As h post postX) (hn : As.length = n) (hst : (st.map fun v => v.category).sum ≤ 8) (hR : 10 * d + 21 ≤ X.2.2.2.1.frames ∧ 60 * d + 219 + maxL ≤ X.2.2.2.1.locals) (hf : cells + mc ≤ X.2.2.2.1.cells ∧ slots + ms ≤ X.2.2.2.1.slots)
    {st0 : List Value} (hs0 : As.reverse ++ st = st0) (kk : ∀ v h', post v h' → JW G X Y h' lv (v.toList ++ st) (pc + 3) (cells + mc) (slots + ms) Q) (kx : ∀ E h', postX E h' → JWX G X Y E h' lv st pc (cells + mc) (slots + ms) Q) : JW G X Y h lv st0 pc cells slots Q := by
  obtain ⟨p, l, e, R, s, m, args, below, meth, c⟩ := X
  have E' := E
  obtain ⟨hx, hb, hml, hown, hts, hK, hG, hsz, hkp, hbg, hlk, htr, hRf, hRl⟩ := E
  obtain ⟨C1, C2, C4, C5, C6, C7⟩ := C
  subst hs0
  intro hn9 H locs ls hP hS hL
  have hGd : GoodIn jT (va_wsS Y.1 i y (jws y bytes maxL ret)) := jGoodA (jGood C1) (by
    intro w hw
    simp only [List.mem_cons, List.not_mem_nil, or_false] at hw
    rcases hw with rfl | rfl | rfl
    · exact hl
    · exact C2
    · exact C4)
  refine jcallX (vx_runS (As := As.map (jv (gS G))) (rest := st.map (jv (gS G))) ⟨hx, hb, hml, hown, hts⟩ hM (va_cwS n hts hGd rfl rfl rfl ⟨C5, C6, C7⟩ ⟨by show 10 * d + 20 + 1 ≤ R.frames; exact hR.1, by show 8 + (maxL + 11) + (60 * d + 200) ≤ R.locals; have hq9 : 60 * d + 219 + maxL ≤ R.locals := hR.2; omega⟩) (jpre E' hn9 hP hS As) rfl (by simpa using hn) hL.1 (by simp) (lv_room (jrest hst)) hd hf) hS ?_ ?_
  · intro v h' H1 locs1 hp hn1 hP1 hS1
    rw [jv_list]
    exact kk v h' hp hn1 H1 locs1 ls hP1 hS1 hL
  · intro E1 h' H1 locs1 ce q9 hp hn1 hP1 hS1 hce hcv hcl
    exact kx E1 h' hp hn1 H1 locs1 ls ce q9 hP1 hS1 hL hce hcv hcl
/-- a private static method of a nest mate -/
theorem J_callSN (E : jE G X Y) {y : MethodName} {bytes : ByteArray} {maxL : Nat} {ret : Option FieldType} {host : String} {n i d mc ms : Nat} {As : List Value} {post : Option Value → AH → Prop} (hd : decode Y.2.1 pc = .ok (.invokestatic i, 3)) (hl : Cond.methodLinkNest Y.1 i y host ∈ jNG) (C : jCS y bytes maxL ret n)
    (hM : jMet G X.2.1 y bytes maxL ret d mc ms As h post) (hn : As.length = n) (hst : (st.map fun v => v.category).sum ≤ 8) (hR : 10 * d + 21 ≤ X.2.2.2.1.frames ∧ 60 * d + 219 + maxL ≤ X.2.2.2.1.locals) (hf : cells + mc ≤ X.2.2.2.1.cells ∧ slots + ms ≤ X.2.2.2.1.slots)
    {st0 : List Value} (hs0 : As.reverse ++ st = st0) (kk : ∀ v h', post v h' → JW G X Y h' lv (v.toList ++ st) (pc + 3) (cells + mc) (slots + ms) Q) : JW G X Y h lv st0 pc cells slots Q := by
  obtain ⟨p, l, e, R, s, m, args, below, meth, c⟩ := X
  have E' := E
  obtain ⟨hx, hb, hml, hown, hts, hK, hG, hsz, hkp, hbg, hlk, htr, hRf, hRl⟩ := E
  obtain ⟨C1, C2, C4, C5, C6, C7⟩ := C
  subst hs0
  intro hn9 H locs ls hP hS hL
  refine jcall (va_runSN (As := As.map (jv (gS G))) (rest := st.map (jv (gS G))) ⟨hx, hb, hml, hown, hts⟩ hM ⟨va_cnB n hts (jGood C1) rfl rfl rfl (hbg.2.1 _ hl rfl) (hts _ C4) ⟨C5, C6, C7⟩ ⟨by show 10 * d + 20 + 1 ≤ R.frames; exact hR.1, by show 8 + (maxL + 11) + (60 * d + 200) ≤ R.locals; have hq9 : 60 * d + 219 + maxL ≤ R.locals := hR.2; omega⟩, hts _ C2, trivial⟩ (jpre E' hn9 hP hS As) rfl (by simpa using hn) hL.1 (by simp) (lv_room (jrest hst)) hd hf) hS ?_
  intro v h' H1 locs1 hp hn1 hP1 hS1
  rw [jv_list]
  exact kk v h' hp hn1 H1 locs1 ls hP1 hS1 hL
/-- a constructor, its own class's or a nest mate's -/
theorem J_callI (E : jE G X Y) {y : MethodName} {bytes : ByteArray} {maxL : Nat} {n i d mc ms a : Nat} {As : List Value} {post : Option Value → AH → Prop} (hd : decode Y.2.1 pc = .ok (.invokespecial i, 3)) (hl : Cond.methodLink Y.1 i y ∈ jT) (C : jCI y bytes maxL n)
    (hM : jMet G X.2.1 y bytes maxL none d mc ms (.ref a :: As) h post) (hn : As.length = n) (hst : (st.map fun v => v.category).sum ≤ 8) (hR : 10 * d + 21 ≤ X.2.2.2.1.frames ∧ 60 * d + 219 + maxL ≤ X.2.2.2.1.locals) (hf : cells + mc ≤ X.2.2.2.1.cells ∧ slots + ms ≤ X.2.2.2.1.slots)
    {st0 : List Value} (hs0 : As.reverse ++ .ref a :: st = st0) (kk : ∀ v h', post v h' → JW G X Y h' lv (v.toList ++ st) (pc + 3) (cells + mc) (slots + ms) Q) : JW G X Y h lv st0 pc cells slots Q := by
  obtain ⟨p, l, e, R, s, m, args, below, meth, c⟩ := X
  have E' := E
  obtain ⟨hx, hb, hml, hown, hts, hK, hG, hsz, hkp, hbg, hlk, htr, hRf, hRl⟩ := E
  obtain ⟨C1, C2, C4, C3, C5, C6, C7⟩ := C
  subst hs0
  intro hn9 H locs ls hP hS hL
  refine jcall (va_runI (As := As.map (jv (gS G))) (rest := st.map (jv (gS G))) (b := gS G a) ⟨hx, hb, hml, hown, hts⟩ hM (cwI n hts (jGood C1) rfl rfl rfl (hts _ C4) (hts _ hl) (hts _ C2) C3 ⟨C5, C6, C7⟩ ⟨by show 10 * d + 20 + 1 ≤ R.frames; exact hR.1, by show 8 + (maxL + 11) + (60 * d + 200) ≤ R.locals; have hq9 : 60 * d + 219 + maxL ≤ R.locals := hR.2; omega⟩) (jpre E' hn9 hP hS (.ref a :: As)) rfl (by simpa using hn) hL.1 (by simp [jv]) (lv_room (jrest hst)) hd hf) hS ?_
  intro v h' H1 locs1 hp hn1 hP1 hS1
  rw [jv_list]
  exact kk v h' hp hn1 H1 locs1 ls hP1 hS1 hL
theorem J_callIN (E : jE G X Y) {y : MethodName} {bytes : ByteArray} {maxL : Nat} {host : String} {n i d mc ms a : Nat} {As : List Value} {post : Option Value → AH → Prop} (hd : decode Y.2.1 pc = .ok (.invokespecial i, 3)) (hl : Cond.methodLinkNest Y.1 i y host ∈ jNG) (C : jCI y bytes maxL n)
    (hM : jMet G X.2.1 y bytes maxL none d mc ms (.ref a :: As) h post) (hn : As.length = n) (hst : (st.map fun v => v.category).sum ≤ 8) (hR : 10 * d + 21 ≤ X.2.2.2.1.frames ∧ 60 * d + 219 + maxL ≤ X.2.2.2.1.locals) (hf : cells + mc ≤ X.2.2.2.1.cells ∧ slots + ms ≤ X.2.2.2.1.slots)
    {st0 : List Value} (hs0 : As.reverse ++ .ref a :: st = st0) (kk : ∀ v h', post v h' → JW G X Y h' lv (v.toList ++ st) (pc + 3) (cells + mc) (slots + ms) Q) : JW G X Y h lv st0 pc cells slots Q := by
  obtain ⟨p, l, e, R, s, m, args, below, meth, c⟩ := X
  have E' := E
  obtain ⟨hx, hb, hml, hown, hts, hK, hG, hsz, hkp, hbg, hlk, htr, hRf, hRl⟩ := E
  obtain ⟨C1, C2, C4, C3, C5, C6, C7⟩ := C
  subst hs0
  intro hn9 H locs ls hP hS hL
  refine jcall (va_runIN (As := As.map (jv (gS G))) (rest := st.map (jv (gS G))) (b := gS G a) ⟨hx, hb, hml, hown, hts⟩ hM ⟨va_cnB n hts (jGood C1) rfl rfl rfl (hbg.2.1 _ hl rfl) (hts _ C4) ⟨C5, C6, C7⟩ ⟨by show 10 * d + 20 + 1 ≤ R.frames; exact hR.1, by show 8 + (maxL + 11) + (60 * d + 200) ≤ R.locals; have hq9 : 60 * d + 219 + maxL ≤ R.locals := hR.2; omega⟩, C3, hts _ C2⟩ (jpre E' hn9 hP hS (.ref a :: As)) rfl (by simpa using hn) hL.1 (by simp [jv]) (lv_room (jrest hst)) hd hf) hS ?_
  intro v h' H1 locs1 hp hn1 hP1 hS1
  rw [jv_list]
  exact kk v h' hp hn1 H1 locs1 ls hP1 hS1 hL
end JC
