/-! making: new, newarray, anewarray, aastore of a constant; constructors know the heap's size -/
def jmk (x : AC) (h : AH) : Option (Nat × AH) := some (h.length, h ++ [x])
theorem jpf_len {ci : Nat} {h h' : AH} {a k : Nat} {v : Value} (e : jpf ci h a k v = some h') : h'.length = h.length := by
  obtain ⟨fs, -, -, rfl⟩ := jpf_inv e
  simp
theorem jwz_len {ci : Nat} {h h' : AH} {a k : Nat} {v : Int32} (e : jwz ci h a k v = some h') : h'.length = h.length := by
  unfold jwz at e
  exact jpf_len (jnw e).2
theorem jas_len {ak : Nat} {h h' : AH} {a : Nat} {i v : Int32} (e : jas ak h a i v = some h') : h'.length = h.length := by
  obtain ⟨n, f, -, -, rfl⟩ := jas_inv e
  simp
/-- a String constant into an array of them -/
def jrs (h : AH) (a : Nat) (i : Int32) (v : Nat) : Option AH := match h[a]? with
  | some (.inl (c, n, .inr (.inr (.inr (.inr f))))) => if c = 4 ∧ ¬ (i < 0 ∨ n ≤ i.toNatClampNeg) then some (h.set a (.inl (c, n, .inr (.inr (.inr (.inr (va_up f i.toNatClampNeg (some v)))))))) else none
  | _ => none
theorem jrs_inv {h h' : AH} {a v : Nat} {i : Int32} (e : jrs h a i v = some h') : ∃ n f, h[a]? = some (.inl (4, n, .inr (.inr (.inr (.inr f))))) ∧ vp_in i n ∧ h' = h.set a (.inl (4, n, .inr (.inr (.inr (.inr (va_up f i.toNatClampNeg (some v))))))) := by
  unfold jrs at e
  split at e
  · split at e
    · rename_i hc
      obtain ⟨rfl, hk⟩ := hc
      cases e; exact ⟨_, _, by assumption, hk, rfl⟩
    · cases e
  · cases e
theorem jrs_len {h h' : AH} {a v : Nat} {i : Int32} (e : jrs h a i v = some h') : h'.length = h.length := by
  obtain ⟨n, f, -, -, rfl⟩ := jrs_inv e
  simp
section JN
variable {G : JG} {X : JX} {Y : JY} {h h' : AH} {lv lv' : List (Nat × Value)} {st : List Value} {pc cells slots : Nat} {Q : State → Prop}
theorem jsize {p : Program} {l : Launch} {e : Env} {R : Room} {s : State} {m : MethodId} {args : Array Value} {below : List Frame} {meth : Method} {c : Code} {T : State} {H : Heap} {locs : List Loc} (hG : jG G) (hsz : gb G ≤ s.heap.size) (hn : h.length ≤ 1000000) (hz : s.heap.size + cells = gb G + h.length)
    (hP : va_P (gD G) vwCl (jw (gS G) (gA G) h) H) (hS : va_S (jA G) s.heap H locs) (hT : T.heap = H) (X : Stand p l e R s m args below meth c T locs cells slots) : H.size = gb G + h.length := by
  have h1 := X.heapSize
  rw [hT] at h1
  have h2 := hS.1
  by_cases h0 : h.length = 0
  · omega
  · have hlt : h.length - 1 < h.length := by omega
    have hk : h[h.length - 1]? = some h[h.length - 1] := List.getElem?_eq_getElem hlt
    have h3 := (hP _ _ (jw_get hk)).lt
    rw [show (gS G (h.length - 1), je (gS G) (gA G) h[h.length - 1]).1 = gS G (h.length - 1) from rfl, hG.1 _ (by omega)] at h3
    omega
theorem J_obj (E : jE G X Y) {i a : Nat} (hd : decode Y.2.1 pc = .ok (.invokespecial i, 3)) (h1 : Cond.methodLink Y.1 i Lib.objectInit ∈ jT) (h2 : Cond.instanceMethod Lib.objectInit ∈ jT) (h3 : Cond.code Lib.objectInit ⟨#[0xb1]⟩ 1 none ∈ jT) (hst : (st.map fun v => v.category).sum ≤ 8) (k : JW G X Y h lv st (pc + 3) cells slots Q) : JW G X Y h lv (.ref a :: st) pc cells slots Q := by
  obtain ⟨p, l, e, R, s, m, args, below, meth, c⟩ := X
  obtain ⟨hx, hb, hml, hown, hts, hK, hG, hsz, hkp, hbg, hlk, htr, hRf, hRl⟩ := E
  intro hn H locs ls hP hS hL
  have hst9 := jrest (σ := gS G) hst
  exact W.objInit hx hb hown (hts _ h1) (hts _ h2) (hts _ h3) (g := F0 m pc ls (.ref (gS G a) :: st.map (jv (gS G)))) rfl (by rw [hml]; exact hL.1) rfl hd (Nat.le_trans (by decide) hRf) (by show 2 * 0 + _ + 12 ≤ R.locals; omega) (k hn H locs ls hP hS hL)
theorem J_new (E : jE G X Y) {i ci n : Nat} {C : String} {T : u_T} (ty : Nat → FieldType) (hd : decode Y.2.1 pc = .ok (.new i, 3)) (hcl : Cond.classLink Y.1 i C ∈ jT) (hins : Cond.instantiable C n ∈ jT) (hini : Cond.initialized C ∈ jT) (hc : vwCl[ci]? = some (C, T, n)) (hin : ∀ w ∈ u_ws C T n, w ∈ jT) (hty : ∀ k, k < n → parseFieldDescriptor (T k).2.2.1 = some (ty k)) {fs : List Value} (hfs : ∀ j, j < n → defaultValue (ty j) = vp_V fs j) (hfs0 : ∀ σ, fs.map (jv σ) = fs)
    (hz : X.2.2.2.2.1.heap.size + cells = gb G + h.length) (hl : h.length < 1000000) (hR : cells + 1 ≤ X.2.2.2.1.cells ∧ slots + n ≤ X.2.2.2.1.slots) (k : JW G X Y (h ++ [.inr (ci, fs)]) lv (.ref h.length :: st) (pc + 3) (cells + 1) (slots + n) Q) : JW G X Y h lv st pc cells slots Q := by
  obtain ⟨p, l, e, R, s, m, args, below, meth, c⟩ := X
  obtain ⟨hx, hb, hml, hown, hts, hK, hG, hsz, hkp, hbg, hlk, htr, hRf, hRl⟩ := E
  intro hn H locs ls hP hS hL T9 hT9 X9
  have hsz9 := jsize hG hsz hn hz hP hS hT9 X9
  have hKn := hK.1 ci _ hc
  refine W.newcK hx hb hown (hts _ hcl) (hts _ hins) (hts _ hini) (g := F0 m pc ls (st.map (jv (gS G)))) rfl hd hR.1 hR.2 hKn.2.1 rfl (fun H1 kC hkC e1 z1 o1 => ?_) T9 hT9 X9
  have e9 : H.size = gS G h.length := by rw [hsz9, hG.1 _ hl]
  have hP1 : va_P (gD G) vwCl (jw (gS G) (gA G) (h ++ [.inr (ci, fs)])) H1 := by
    rw [← jw_push]
    refine (hP.kept (fun k q hq => o1 q.1 ((hP k q hq).lt))).app (fun k q hq => ?_)
    have hk0 : k < 1 := (List.getElem?_eq_some_iff.mp hq).1
    rw [show k = 0 by omega] at hq
    cases hq
    refine ⟨_, hc, ?_⟩
    rw [← e9]
    refine (u_born ty hts hin hKn hkC e1 hty).to (fun j hj => ?_)
    rw [hfs0]
    exact hfs j hj
  have hW := k (by simp; omega) H1 locs ls hP1 ⟨Nat.le_trans hS.1 (by omega), fun q h1 h2 => (o1 q (Nat.lt_of_lt_of_le h1 hS.1)).trans (hS.2.1 q h1 h2), hS.2.2⟩ hL
  rw [show (Value.ref h.length :: st).map (jv (gS G)) = .ref H.size :: st.map (jv (gS G)) by rw [e9]; rfl] at hW
  exact hW
theorem J_newa (E : jE G X Y) {ak N' : Nat} {at9 : ArrayType} {ty : FieldType} {n : Int32} {a0 : vp_A} (hd : decode Y.2.1 pc = .ok (.newarray at9, 2)) (hty : newarray.typeOf at9 = ty) (har : Cond.arrayClass ty ∈ jT) (hak : (jty G)[ak]? = some (gA G ak, ty)) (hra : ∀ (U : State) (c : ClassId), va_RA U c ty → U.vm.findClass ("[" ++ ty.toString) = some c)
    (ha : ∀ (cA : ClassId), vp_cell cA (ja (gS G) a0) = arrV cA N' (fun _ => defaultValue ty)) (hn0 : ¬ n < 0) (hN : n.toNatClampNeg = N') (hby : N' * componentBytes ty ≤ 536870912)
    (hz : X.2.2.2.2.1.heap.size + cells = gb G + h.length) (hl : h.length < 1000000) (hR : cells + 1 ≤ X.2.2.2.1.cells ∧ slots + N' ≤ X.2.2.2.1.slots) (k : JW G X Y (h ++ [.inl (ak, a0)]) lv (.ref h.length :: st) (pc + 2) (cells + 1) (slots + N') Q) : JW G X Y h lv (.int n :: st) pc cells slots Q := by
  obtain ⟨p, l, e, R, s, m, args, below, meth, c⟩ := X
  obtain ⟨hx, hb, hml, hown, hts, hK, hG, hsz, hkp, hbg, hlk, htr, hRf, hRl⟩ := E
  subst hty
  intro hn H locs ls hP hS hL T9 hT9 X9
  have hsz9 := jsize hG hsz hn hz hP hS hT9 X9
  refine va_newaK hx hb (hts _ har) (g := F0 m pc ls (.int n :: st.map (jv (gS G)))) rfl hd rfl hn0 hN hby hR.1 hR.2 rfl (fun H1 cA e1 z1 o1 hAr hNm => ?_) T9 hT9 X9
  have e9 : H.size = gS G h.length := by rw [hsz9, hG.1 _ hl]
  have ec : cA = gA G ak := Option.some.inj (hNm.symm.trans (hra s _ (hK.2 ak _ hak).2))
  have hP1 : va_P (gD G) vwCl (jw (gS G) (gA G) (h ++ [.inl (ak, a0)])) H1 := by
    rw [← jw_push]
    refine (hP.kept (fun k q hq => o1 q.1 ((hP k q hq).lt))).app (fun k q hq => ?_)
    have hk0 : k < 1 := (List.getElem?_eq_some_iff.mp hq).1
    rw [show k = 0 by omega] at hq
    cases hq
    show H1[gS G h.length]? = some (vp_cell (gA G ak) (ja (gS G) a0))
    rw [← e9, ha, ← ec]
    exact e1
  have hW := k (by simp; omega) H1 locs ls hP1 ⟨Nat.le_trans hS.1 (by omega), fun q h1 h2 => (o1 q (Nat.lt_of_lt_of_le h1 hS.1)).trans (hS.2.1 q h1 h2), hS.2.2⟩ hL
  rw [show (Value.ref h.length :: st).map (jv (gS G)) = .ref H.size :: st.map (jv (gS G)) by rw [e9]; rfl] at hW
  exact hW
theorem J_anew (E : jE G X Y) {i N' : Nat} {n : Int32} (hd : decode Y.2.1 pc = .ok (.anewarray i, 3)) (hcl : Cond.classLink Y.1 i "java/lang/String" ∈ jT) (hn0 : ¬ n < 0) (hN : n.toNatClampNeg = N') (hby : N' * 4 ≤ 536870912)
    (hz : X.2.2.2.2.1.heap.size + cells = gb G + h.length) (hl : h.length < 1000000) (hR : cells + 1 ≤ X.2.2.2.1.cells ∧ slots + N' ≤ X.2.2.2.1.slots) (k : JW G X Y (h ++ [.inl (4, N', .inr (.inr (.inr (.inr (fun _ => none)))))]) lv (.ref h.length :: st) (pc + 3) (cells + 1) (slots + N') Q) : JW G X Y h lv (.int n :: st) pc cells slots Q := by
  obtain ⟨p, l, e, R, s, m, args, below, meth, c⟩ := X
  obtain ⟨hx, hb, hml, hown, hts, hK, hG, hsz, hkp, hbg, hlk, htr, hRf, hRl⟩ := E
  subst hN
  intro hn H locs ls hP hS hL T9 hT9 X9
  have hsz9 := jsize hG hsz hn hz hP hS hT9 X9
  refine W.anew hx hb hown (hts _ hcl) (va_AO.use hbg.2.2.2.2.2.2.2) (g := F0 m pc ls (.int n :: st.map (jv (gS G)))) rfl hd rfl hn0 hby hR.1 hR.2 (fun cA kA comp f1 f2 f3 f4 => ?_) T9 hT9 X9
  have e9 : H.size = gS G h.length := by rw [hsz9, hG.1 _ hl]
  obtain ⟨kA9, comp9, q1, q2, q3, q4⟩ := (hK.2 4 _ rfl).2
  have ec : cA = gA G 4 := Option.some.inj (f1.symm.trans q4)
  have o1 : ∀ q, q < H.size → (H.push { cls := cA, slots := Array.replicate n.toNatClampNeg .null, vm := .none })[q]? = H[q]? := by
    intro q hq
    rw [Array.getElem?_push, if_neg (Nat.ne_of_lt hq)]
  have hP1 : va_P (gD G) vwCl (jw (gS G) (gA G) (h ++ [.inl (4, n.toNatClampNeg, .inr (.inr (.inr (.inr (fun _ => none)))))])) (H.push { cls := cA, slots := Array.replicate n.toNatClampNeg .null, vm := .none }) := by
    rw [← jw_push]
    refine (hP.kept (fun k q hq => o1 q.1 ((hP k q hq).lt))).app (fun k q hq => ?_)
    have hk0 : k < 1 := (List.getElem?_eq_some_iff.mp hq).1
    rw [show k = 0 by omega] at hq
    cases hq
    show (H.push _)[gS G h.length]? = some (vp_cell (gA G 4) _)
    rw [← e9, ← ec]
    simp only [Array.getElem?_push_size, Option.some.injEq]
    exact arrV_new cA n.toNatClampNeg .null
  have hW := k (by simp; omega) _ locs ls hP1 ⟨Nat.le_trans hS.1 (by simp), fun q h1 h2 => (o1 q (Nat.lt_of_lt_of_le h1 hS.1)).trans (hS.2.1 q h1 h2), hS.2.2⟩ hL
  rw [show (Value.ref h.length :: st).map (jv (gS G)) = .ref H.size :: st.map (jv (gS G)) by rw [e9]; rfl] at hW
  exact hW
theorem J_aast (E : jE G X Y) {a j : Nat} {i : Int32} {q : String × Nat × String} (hs : jstr[j]? = some q) (hd : decode Y.2.1 pc = .ok (.aastore, 1)) (hv : jrs h a i (1000000 + j) = some h') (kk : JW G X Y h' lv st (pc + 1) cells slots Q) : JW G X Y h lv (.ref (1000000 + j) :: .int i :: .ref a :: st) pc cells slots Q := by
  obtain ⟨p, l, e, R, s, m, args, below, meth, c⟩ := X
  obtain ⟨hx, hb, hml, hown, hts, hK, hG, hsz, hkp, hbg, hlk, htr, hRf, hRl⟩ := E
  obtain ⟨n, f, h1, h2, rfl⟩ := jrs_inv hv
  intro hn H locs ls hP hS hL
  have hany : va_Any "java/lang/String" s H (gS G (1000000 + j)) := by
    obtain ⟨cell, q1, q2, q3, -⟩ := ((hbg.1 j q hs).2.1.kept (jkp hG hkp)).kept hS.2.1
    obtain ⟨k9, hk9, -⟩ := Vm.findClass_spec q3
    exact ⟨cell, q1, q2, ⟨k9, hk9⟩, fun E9 hE => by
      cases Option.some.inj (hE.symm.trans q3)
      exact va_asg _ _⟩
  refine va_astqM hx hb hK hP (jw_D hG.1 hn) hS a 4 (jw_get h1) rfl hany h2 hd (fun H1 locs1 hP1 _ hS1 => kk (by simpa using hn) H1 locs1 ls ?_ hS1 hL)
  rw [← jw_set]
  have e1 : je (gS G) (gA G) (.inl (4, n, .inr (.inr (.inr (.inr (va_up f i.toNatClampNeg (some (1000000 + j)))))))) = .inl (gA G 4, n, .inr (.inr (.inr (.inr (va_up (fun j => (f j).map (gS G)) i.toNatClampNeg (some (gS G (1000000 + j)))))))) := by
    simp only [je, ja]
    congr 7
    funext k
    unfold va_up
    split <;> rfl
  rw [e1]
  exact hP1
end JN
/-- a constructor: it knows how many cells there are -/
def jPcN (G : JG) (As : List Value) (h : AH) : Array Value → State → Prop := va_Pc (As.map (jv (gS G))) (fun U => jOK G h U ∧ U.heap.size = gb G + h.length)
def jMetN (G : JG) (l : Launch) (y : MethodName) (bytes : ByteArray) (maxL d mc ms : Nat) (As : List Value) (h : AH) (post : Option Value → AH → Prop) : Prop :=
  Met l y (jws y bytes maxL none) (jRm d mc ms) (jPcN G As h) (jQ G post) mc ms (jA G)
theorem jMetN_of {G : JG} {l : Launch} {y : MethodName} {bytes : ByteArray} {maxL d mc ms : Nat} {As : List Value} {h : AH} {post : Option Value → AH → Prop} (hG : jG G) (htr : l.stackTraces = false) (hy : plainName y.cls = true) (hle : (lg_sl As).length ≤ maxL)
    (body : ∀ X : JX, jE G X (y.cls, bytes, maxL) → X.2.1 = l → X.2.2.2.2.2.2.2.2.1.sig.returnType = none → X.2.2.2.1 = jRm d mc ms → X.2.2.2.2.2.2.2.2.1.name = y.name → X.2.2.2.2.1.heap.size = gb G + h.length → JW G X (y.cls, bytes, maxL) h (lv_args 0 As) [] 0 0 0 (jEnd G X post mc ms)) : jMetN G l y bytes maxL d mc ms As h post := by
  refine Met.ofW (cc := bytes) (maxL := maxL) (ret := none) hy rfl ?_
  intro p e s m args below meth c s₁ B hml hv
  obtain ⟨hv1, hv2, hv3⟩ := hv
  have E := jX_E (As := As) (h := h) hG htr (fun w hw => List.mem_cons_of_mem _ hw) B hml ⟨hv1, hv2⟩
  subst hv1
  obtain ⟨q1, q2, q3, q4, q5, q6⟩ := hv2
  have hl := lv_entry (As.map (jv (gS G))) (n := maxL) (by rw [jv_sl]; exact hle)
  rw [lg_entry_eq]
  rw [jv_args] at hl
  exact body _ E rfl B.returns rfl (name_of_methodNamed B.named B.method).1 hv3 q1 s.heap [] _ q2 va_S.rf hl
section JO
variable {G : JG} {X : JX} {Y : JY} {h h' : AH} {lv lv' : List (Nat × Value)} {st : List Value} {pc cells slots : Nat} {Q : State → Prop}
theorem jpreN {p : Program} {l : Launch} {e : Env} {R : Room} {s : State} {m : MethodId} {args : Array Value} {below : List Frame} {meth : Method} {c : Code} {H : Heap} {locs : List Loc} (E : jE G (p, l, e, R, s, m, args, below, meth, c) Y) (hn : h.length ≤ 1000000) (hP : va_P (gD G) vwCl (jw (gS G) (gA G) h) H) (hS : va_S (jA G) s.heap H locs) (hz : H.size = gb G + h.length) (As : List Value) : PreS s H (jPcN G As h) (As.map (jv (gS G))) := by
  have h0 := jpre E hn hP hS As
  refine ⟨fun a U g mk q => ⟨(h0.1 a U g mk ⟨q.1, q.2.1⟩).1, (h0.1 a U g mk ⟨q.1, q.2.1⟩).2, q.2.2⟩, fun U hU hW => ⟨(h0.2 U hU hW).1, (h0.2 U hU hW).2, by rw [hU]; exact hz⟩⟩
theorem J_ctor (E : jE G X Y) {y : MethodName} {bytes : ByteArray} {maxL : Nat} {host : String} {n i d mc ms a : Nat} {As : List Value} {post : Option Value → AH → Prop} (hd : decode Y.2.1 pc = .ok (.invokespecial i, 3)) (hl : Cond.methodLinkNest Y.1 i y host ∈ jNG ∨ Cond.methodLink Y.1 i y ∈ jT) (C : jCI y bytes maxL n)
    (hz : X.2.2.2.2.1.heap.size + cells = gb G + h.length) (hM : jMetN G X.2.1 y bytes maxL d mc ms (.ref a :: As) h post) (hn : As.length = n) (hst : (st.map fun v => v.category).sum ≤ 8) (hR : 10 * d + 21 ≤ X.2.2.2.1.frames ∧ 60 * d + 219 + maxL ≤ X.2.2.2.1.locals) (hf : cells + mc ≤ X.2.2.2.1.cells ∧ slots + ms ≤ X.2.2.2.1.slots)
    {st0 : List Value} (hs0 : As.reverse ++ .ref a :: st = st0) (kk : ∀ v h', post v h' → JW G X Y h' lv (v.toList ++ st) (pc + 3) (cells + mc) (slots + ms) Q) : JW G X Y h lv st0 pc cells slots Q := by
  obtain ⟨p, l, e, R, s, m, args, below, meth, c⟩ := X
  have E' := E
  obtain ⟨hx, hb, hml, hown, hts, hK, hG, hsz, hkp, hbg, hlk, htr, hRf, hRl⟩ := E
  obtain ⟨C1, C2, C4, C3, C5, C6, C7⟩ := C
  subst hs0
  intro hn9 H locs ls hP hS hL T9 hT9 X9
  have hsz9 := jsize hG hsz hn9 hz hP hS hT9 X9
  have hrm : (jRm d mc ms).frames + 1 ≤ R.frames ∧ 8 + (maxL + 11) + (jRm d mc ms).locals ≤ R.locals := ⟨by show 10 * d + 20 + 1 ≤ R.frames; exact hR.1, by show 8 + (maxL + 11) + (60 * d + 200) ≤ R.locals; have hq9 : 60 * d + 219 + maxL ≤ R.locals := hR.2; omega⟩
  have hgo : ∀ (v : Option Value) (h' : AH) (H1 : Heap) (locs1 : List Loc), post v h' → h'.length ≤ 1000000 → va_P (gD G) vwCl (jw (gS G) (gA G) h') H1 → va_S (jA G) s.heap H1 locs1 → W p l e R s m args below meth c H1 locs1 (cells + mc) (slots + ms) Q (F0 m (pc + 3) ls ((v.map (jv (gS G))).toList ++ st.map (jv (gS G)))) := by
    intro v h' H1 locs1 hp hn1 hP1 hS1
    rw [jv_list]
    exact kk v h' hp hn1 H1 locs1 ls hP1 hS1 hL
  rcases hl with hl | hl
  · exact jcall (va_runIN (As := As.map (jv (gS G))) (rest := st.map (jv (gS G))) (b := gS G a) ⟨hx, hb, hml, hown, hts⟩ hM ⟨va_cnB n hts (jGood C1) rfl rfl rfl (hbg.2.1 _ hl rfl) (hts _ C4) ⟨C5, C6, C7⟩ hrm, C3, hts _ C2⟩ (jpreN E' hn9 hP hS hsz9 (.ref a :: As)) rfl (by simpa using hn) hL.1 (by simp [jv]) (lv_room (jrest hst)) hd hf) hS hgo T9 hT9 X9
  · exact jcall (va_runI (As := As.map (jv (gS G))) (rest := st.map (jv (gS G))) (b := gS G a) ⟨hx, hb, hml, hown, hts⟩ hM (cwI n hts (jGood C1) rfl rfl rfl (hts _ C4) (hts _ hl) (hts _ C2) C3 ⟨C5, C6, C7⟩ hrm) (jpreN E' hn9 hP hS hsz9 (.ref a :: As)) rfl (by simpa using hn) hL.1 (by simp [jv]) (lv_room (jrest hst)) hd hf) hS hgo T9 hT9 X9
end JO
theorem jmk_len {x : AC} {h h' : AH} {a : Nat} (e : jmk x h = some (a, h')) : h'.length = h.length + 1 ∧ a = h.length := by
  cases e
  exact ⟨by simp, rfl⟩
section JV
variable {G : JG} {X : JX} {Y : JY} {h h' : AH} {lv lv' : List (Nat × Value)} {st : List Value} {pc cells slots : Nat} {Q : State → Prop}
theorem J_newv (E : jE G X Y) {i ci n a : Nat} {C : String} {T : u_T} (ty : Nat → FieldType) (hd : decode Y.2.1 pc = .ok (.new i, 3)) (hcl : Cond.classLink Y.1 i C ∈ jT) (hins : Cond.instantiable C n ∈ jT) (hini : Cond.initialized C ∈ jT) (hc : vwCl[ci]? = some (C, T, n)) (hin : ∀ w ∈ u_ws C T n, w ∈ jT) (hty : ∀ k, k < n → parseFieldDescriptor (T k).2.2.1 = some (ty k)) {fs : List Value} (hfs : ∀ j, j < n → defaultValue (ty j) = vp_V fs j) (hfs0 : ∀ σ, fs.map (jv σ) = fs)
    (hz : X.2.2.2.2.1.heap.size + cells = gb G + h.length) (hl : h.length < 1000000) (hR : cells + 1 ≤ X.2.2.2.1.cells ∧ slots + n ≤ X.2.2.2.1.slots) (e : jmk (.inr (ci, fs)) h = some (a, h')) (k : JW G X Y h' lv (.ref a :: st) (pc + 3) (cells + 1) (slots + n) Q) : JW G X Y h lv st pc cells slots Q := by
  cases e
  exact J_new E ty hd hcl hins hini hc hin hty hfs hfs0 hz hl hR k
theorem J_newav (E : jE G X Y) {ak N' a : Nat} {at9 : ArrayType} {ty : FieldType} {n : Int32} {a0 : vp_A} (hd : decode Y.2.1 pc = .ok (.newarray at9, 2)) (hty : newarray.typeOf at9 = ty) (har : Cond.arrayClass ty ∈ jT) (hak : (jty G)[ak]? = some (gA G ak, ty)) (hra : ∀ (U : State) (c : ClassId), va_RA U c ty → U.vm.findClass ("[" ++ ty.toString) = some c)
    (ha : ∀ (cA : ClassId), vp_cell cA (ja (gS G) a0) = arrV cA N' (fun _ => defaultValue ty)) (hn0 : ¬ n < 0) (hN : n.toNatClampNeg = N') (hby : N' * componentBytes ty ≤ 536870912)
    (hz : X.2.2.2.2.1.heap.size + cells = gb G + h.length) (hl : h.length < 1000000) (hR : cells + 1 ≤ X.2.2.2.1.cells ∧ slots + N' ≤ X.2.2.2.1.slots) (e : jmk (.inl (ak, a0)) h = some (a, h')) (k : JW G X Y h' lv (.ref a :: st) (pc + 2) (cells + 1) (slots + N') Q) : JW G X Y h lv (.int n :: st) pc cells slots Q := by
  cases e
  exact J_newa E hd hty har hak hra ha hn0 hN hby hz hl hR k
theorem J_anewv (E : jE G X Y) {i N' a : Nat} {n : Int32} (hd : decode Y.2.1 pc = .ok (.anewarray i, 3)) (hcl : Cond.classLink Y.1 i "java/lang/String" ∈ jT) (hn0 : ¬ n < 0) (hN : n.toNatClampNeg = N') (hby : N' * 4 ≤ 536870912)
    (hz : X.2.2.2.2.1.heap.size + cells = gb G + h.length) (hl : h.length < 1000000) (hR : cells + 1 ≤ X.2.2.2.1.cells ∧ slots + N' ≤ X.2.2.2.1.slots) (e : jmk (.inl (4, N', .inr (.inr (.inr (.inr (fun _ => none)))))) h = some (a, h')) (k : JW G X Y h' lv (.ref a :: st) (pc + 3) (cells + 1) (slots + N') Q) : JW G X Y h lv (.int n :: st) pc cells slots Q := by
  cases e
  exact J_anew E hd hcl hn0 hN hby hz hl hR k
end JV
