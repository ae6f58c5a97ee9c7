/-! A throw that is caught by its class's name, the link of the handler's entry cold or warm. -/
section XC
variable {e : Env} {f : JFrame} {a : Addr}
/-- the search's answer, and the tables behind it -/
def xc_F (e : Env) (s : State) (f : JFrame) (a : Addr) (hd : Handler) (vm9 : Vm) : Prop :=
  ∀ (Q : Handler → Jvm.Pre) (E : Jvm.CtlPost) (d : Bool) (acts : List Action), Sem.wp (findHandler f a) Q E e d acts s ↔ Q hd d acts (s.setVm vm9)
/-- an entry of the table that covers the place and links to a class: what it says of the thrown object -/
theorem xc_one {s : State} {x : ExceptionTableEntry} {t : List ExceptionTableEntry} {k : ClassId} {cell : Cell} (hx : covers x f.pc = true) (h0 : x.catchType ≠ 0)
    (hl : s.vm.ClassLinks e.platform f.method.cls x.catchType k) (hcell : s.heap[a]? = some cell) (hobj : ∀ j, cell.vm ≠ .statics j)
    (hk : ∃ j, s.vm.classes[cell.cls]? = some j) (Q : Handler → Jvm.Pre) (E : Jvm.CtlPost) (d : Bool) (acts : List Action) :
    Sem.wp (findHandler.go f a (x :: t)) Q E e d acts s ↔
      (if s.vm.assignable cell.cls k = true then Q (.found x.handlerPc) d acts (s.setVm (s.vm.noted f.method.cls x.catchType (.cls k)))
       else Sem.wp (findHandler.go f a t) Q E e d acts (s.setVm (s.vm.noted f.method.cls x.catchType (.cls k)))) := by
  simp only [covers] at hx
  obtain ⟨ha, ht⟩ := (resolveClass_links e.toSetting hl).op (op := VmOp.resolveClass f.method.cls x.catchType) rfl
  have hal : s.vm.Alike (s.vm.noted f.method.cls x.catchType (.cls k)) := (Vm.Alike.refl s.vm).noted _ _ _
  obtain ⟨_, _, _, k2, _, _, _, _, _, hk2, _, _⟩ := hl.here
  obtain ⟨k1, hk1⟩ := hk
  obtain ⟨k1', hk1', -⟩ := hal.2.2 _ _ hk1
  obtain ⟨k2', hk2', -⟩ := hal.2.2 _ _ hk2
  cases hfit : s.vm.assignable cell.cls k
  · have hf9 : (s.vm.noted f.method.cls x.catchType (.cls k)).assignable cell.cls k = false := by rw [hal.assignable]; exact hfit
    simp [findHandler.go, hx, h0, ha, ht, hcell, hobj, hk1', hk2', hf9, VmOp.dirties, VmOp.acts]
  · have hf9 : (s.vm.noted f.method.cls x.catchType (.cls k)).assignable cell.cls k = true := by rw [hal.assignable]; exact hfit
    simp [findHandler.go, hx, h0, ha, ht, hcell, hobj, hk1', hk2', hf9, VmOp.dirties, VmOp.acts]
/-- the walk goes on at the handler, over warmer tables -/
theorem xc_steps {tb : Tables} {s target : State} {g : JFrame} {c : Code} {below : List Frame} (h : At s g.method c below) {pc : Nat} {vm9 : Vm}
    (hfind : xc_F e ((s.setTop g).pushFrame (.throwing a)) g a (.found pc) vm9) (hrest : Steps tb e below ((s.setVm vm9).setTop { g with pc := pc, stack := [.ref a] }) target) :
    Steps tb e below ((s.setTop g).pushFrame (.throwing a)) target := by
  obtain ⟨hgo, hw⟩ := h.throwing a
  refine Steps.head hgo hw ?_
  have hone : (stepThrowing e ((s.setTop g).pushFrame (.throwing a)) a (.java g :: s.frames.tail)).Is ((((s.setTop g).pushFrame (.throwing a)).setVm vm9).setFrames (.java { g with pc := pc, stack := [.ref a] } :: s.frames.tail)) [] := by
    simp only [stepThrowing, searchFrame, vmDo]
    generalize hr : Sem.go _ e false [] ((s.setTop g).pushFrame (.throwing a)) = res
    obtain ⟨as, rfl, ha⟩ := Sem.eq_ok_of hr (a := Handler.found pc) (s' := ((s.setTop g).pushFrame (.throwing a)).setVm vm9) (acts' := []) (by simp [hfind _ _ _ _])
    exact ⟨rfl, ha⟩
  obtain ⟨g₀, hg⟩ := Option.isSome_iff_exists.mp h.top
  obtain ⟨r, hr⟩ := State.topJava?_eq_some.mp hg
  rw [stepThread_throwing (frames_entered h.top _), hone.1]
  have hr' : (s.setVm vm9).frames = .java g₀ :: r := hr
  rw [State.setTop_of_frames _ hr'] at hrest
  have e1 : ∀ (F G : List Frame) (u : State), ((u.setFrames F).setVm vm9).setFrames G = (u.setVm vm9).setFrames G := fun F G u => by
    have h1 : (u.setFrames F).setVm vm9 = (u.setVm vm9).setFrames F := rfl
    rw [h1, State.setFrames_setFrames]
  rw [hr, List.tail_cons, State.pushFrame, e1, State.setTop_of_frames _ hr, e1]
  exact hrest
end XC
section XD
variable {p : Program} {l : Launch} {e : Env} {R : Room} {s : State} {m : MethodId} {args : Array Value} {below : List Frame} {meth : Method} {c : Code} {H : Heap} {locs : List Loc} {cells slots : Nat} {Q : State → Prop}
variable {pc : Nat} {ls : Array Slot} {rest : List Value}
theorem xc_goes {own name : String} {E : String} {ce : Cell} {q : Addr} (hown : s.vm.findClass own = some m.cls) (x : ExceptionTableEntry) (suf : List ExceptionTableEntry) (hx : covers x pc = true) (h0 : x.catchType ≠ 0)
    (hlink : (Cond.classLink own x.catchType name).before args s = true) (hcast : (Cond.castable E name).before args s = true) (hv : ce.vm = .none) (hcl : s.vm.findClass E = some ce.cls) (hpl : e.platform.magicAccessors = ({} : Platform).magicAccessors) :
    ∀ (pre : List ExceptionTableEntry) (S : State), (∀ z ∈ pre, z.catchType ≠ 0 ∧ ∃ nm : String, (Cond.classLink own z.catchType nm).before args s = true ∧ va_Nc E nm s) → s.WarmedH S.vm → S.heap[q]? = some ce →
      ∃ vm9, s.WarmedH vm9 ∧ ∀ (Q : Handler → Jvm.Pre) (E : Jvm.CtlPost) (d : Bool) (acts : List Action), Sem.wp (findHandler.go (F0 m pc ls rest) q (pre ++ x :: suf)) Q E e d acts S ↔ Q (.found x.handlerPc) d acts (S.setVm vm9) := by
  obtain ⟨k0, hk0, -⟩ := Vm.findClass_spec hcl
  obtain ⟨c3, c4, hc3, hc4, hasg⟩ := Cond.castable_spec hcast
  cases Option.some.inj (hc3.symm.trans hcl)
  have hobj : ∀ j, ce.vm ≠ .statics j := fun j h => by rw [hv] at h; cases h
  intro pre
  induction pre with
  | nil =>
    intro S _ hW hce
    obtain ⟨c5, hc5, hl⟩ := Cond.classLink_spec hown hlink e.platform hpl
    cases Option.some.inj (hc4.symm.trans hc5)
    obtain ⟨k0', hk0', -⟩ := hW.alike.2.2 _ _ hk0
    obtain ⟨_, _, _, _, hd, _, _, _, _, _, _, hopen⟩ := hl.here
    refine ⟨_, hW.noted hd hopen (State.rightAt_cls hl), fun Q E d acts => ?_⟩
    rw [List.nil_append, xc_one (f := F0 m pc ls rest) hx h0 (hW.classLinks hl) hce hobj ⟨k0', hk0'⟩, if_pos (by rw [hW.alike.assignable]; exact hasg)]
  | cons z zs ih =>
    intro S hp hW hce
    obtain ⟨hz0, nm, hl1, hn1⟩ := hp z List.mem_cons_self
    obtain ⟨c6, hc6, hl6⟩ := Cond.classLink_spec hown hl1 e.platform hpl
    obtain ⟨a8, b8, h1, h2, h3⟩ := hn1
    cases Option.some.inj (h1.symm.trans hcl)
    cases Option.some.inj (h2.symm.trans hc6)
    obtain ⟨k0', hk0', -⟩ := hW.alike.2.2 _ _ hk0
    obtain ⟨_, _, _, _, hd, _, _, _, _, _, _, hopen⟩ := hl6.here
    have hps : ∀ y ∈ zs, y.catchType ≠ 0 ∧ ∃ nm : String, (Cond.classLink own y.catchType nm).before args s = true ∧ va_Nc E nm s := fun y hy => hp y (List.mem_cons_of_mem _ hy)
    by_cases hcov : covers z pc = true
    · obtain ⟨vm9, hW9, hq⟩ := ih (S.setVm (S.vm.noted m.cls z.catchType (.cls c6))) hps (hW.noted hd hopen (State.rightAt_cls hl6)) hce
      refine ⟨vm9, hW9, fun Q E d acts => ?_⟩
      rw [List.cons_append, xc_one (f := F0 m pc ls rest) hcov hz0 (hW.classLinks hl6) hce hobj ⟨k0', hk0'⟩, if_neg (by rw [hW.alike.assignable, h3]; decide)]
      exact hq Q E d acts
    · obtain ⟨vm9, hW9, hq⟩ := ih S hps hW hce
      refine ⟨vm9, hW9, fun Q E d acts => ?_⟩
      rw [List.cons_append, W.findHandler_go_skip (by simpa using hcov)]
      exact hq Q E d acts
/-- caught by the row x of this method's table; the rows ahead name other classes -/
theorem xc_catch {own name : String} {E : String} {ce : Cell} {q : Addr} (hown : s.vm.findClass own = some m.cls) (pre : List ExceptionTableEntry) (x : ExceptionTableEntry) (suf : List ExceptionTableEntry) (hsplit : c.exceptionTable.toList = pre ++ x :: suf)
    (hpass : ∀ z ∈ pre, z.catchType ≠ 0 ∧ ∃ nm : String, (Cond.classLink own z.catchType nm).before args s = true ∧ va_Nc E nm s) (hx : covers x pc = true) (h0 : x.catchType ≠ 0)
    (hlink : (Cond.classLink own x.catchType name).before args s = true) (hcast : (Cond.castable E name).before args s = true) (hcell : H[q]? = some ce) (hv : ce.vm = .none) (hcl : s.vm.findClass E = some ce.cls)
    (kk : W p l e R s m args below meth c H locs cells slots Q (F0 m x.handlerPc ls [.ref q])) : vx_W p l e R s m args below meth c H locs cells slots Q (F0 m pc ls rest) q := by
  intro T hT X
  have hpl : e.platform.magicAccessors = ({} : Platform).magicAccessors := by rw [X.admits.platform]
  obtain ⟨vm9, hW9, hq⟩ := xc_goes (e := e) (ls := ls) (rest := rest) hown x suf hx h0 hlink hcast hv hcl hpl pre ((T.setTop (F0 m pc ls rest)).pushFrame (.throwing q)) hpass X.warmed (by show T.heap[q]? = some ce; rw [hT]; exact hcell)
  obtain ⟨t, a1, b1⟩ := kk (T.setVm vm9) hT (X.noted hW9)
  refine ⟨t, xc_steps (g := F0 m pc ls rest) X.here (vm9 := vm9) (fun Q E d acts => ?_) a1, b1⟩
  rw [W.findHandler_eq X.method' X.code, hsplit]
  exact hq Q E d acts
end XD
