/-! rows of the heap: fields, arrays; returns; calls; throws -/
def jFld (own : String) (i ci k : Nat) (ty : FieldType) (fin : Bool) : Prop := ∃ (C : String) (T : u_T) (N : Nat) (ty0 : Nat → FieldType), vwCl[ci]? = some (C, T, N) ∧ (∀ w ∈ u_ws C T N, w ∈ jT) ∧ (∀ j, j < N → parseFieldDescriptor (T j).2.2.1 = some (ty0 j)) ∧
  (∀ a, a < N → ∀ b, b < N → a ≠ b → (T a).2.1 ≠ (T b).2.1) ∧ k < N ∧ Cond.fieldLink own i (T k).1 (T k).2.1 (T k).2.2.1 ∈ jT ∧ parseFieldDescriptor (T k).2.2.1 = some ty ∧ (T k).2.2.2 = fin
section JH
variable {G : JG} {X : JX} {Y : JY} {h h' : AH} {lv lv' : List (Nat × Value)} {st : List Value} {pc cells slots : Nat} {Q : State → Prop}
theorem J_geti (E : jE G X Y) {i ci k a : Nat} {x : Int32} {ty : FieldType} {fin : Bool} (hd : decode Y.2.1 pc = .ok (.getfield i, 3)) (F : jFld Y.1 i ci k ty fin) (hv : jgi ci h a k = some x) (kk : JW G X Y h lv (.int x :: st) (pc + 3) cells slots Q) : JW G X Y h lv (.ref a :: st) pc cells slots Q := by
  obtain ⟨p, l, e, R, s, m, args, below, meth, c⟩ := X
  obtain ⟨hx, hb, hml, hown, hts, hK, hG, hsz, hkp, hbg, hlk, htr, hRf, hRl⟩ := E
  obtain ⟨fs, h1, h2⟩ := jgi_inv hv
  obtain ⟨C, T, N, ty0, f1, f2, f3, f4, f5, f6, f7, f8⟩ := F
  intro hn H locs ls hP hS hL
  exact va_get hx hb hts f2 hown hK hP a (jw_get h1) f1 k f5 (hts _ f6) (fun _ z => z) (v := .int x) (by simp [h2, jv]) hd (kk hn H locs ls hP hS hL)
theorem J_getr (E : jE G X Y) {i ci k a x : Nat} {ty : FieldType} {fin : Bool} (hd : decode Y.2.1 pc = .ok (.getfield i, 3)) (F : jFld Y.1 i ci k ty fin) (hv : jgr ci h a k = some x) (kk : JW G X Y h lv (.ref x :: st) (pc + 3) cells slots Q) : JW G X Y h lv (.ref a :: st) pc cells slots Q := by
  obtain ⟨p, l, e, R, s, m, args, below, meth, c⟩ := X
  obtain ⟨hx, hb, hml, hown, hts, hK, hG, hsz, hkp, hbg, hlk, htr, hRf, hRl⟩ := E
  obtain ⟨fs, h1, h2⟩ := jgr_inv hv
  obtain ⟨C, T, N, ty0, f1, f2, f3, f4, f5, f6, f7, f8⟩ := F
  intro hn H locs ls hP hS hL
  exact va_get hx hb hts f2 hown hK hP a (jw_get h1) f1 k f5 (hts _ f6) (fun _ z => z) (v := .ref (gS G x)) (by simp [h2, jv]) hd (kk hn H locs ls hP hS hL)
theorem J_put (E : jE G X Y) {i ci k a : Nat} {v : Value} {ty : FieldType} (hd : decode Y.2.1 pc = .ok (.putfield i, 3)) (F : jFld Y.1 i ci k ty false) (hv : jpf ci h a k v = some h') (hnr : ∀ σ, narrow ty (jv σ v) = jv σ v) (hft : ∀ σ, fits ty (jv σ v) = true) (kk : JW G X Y h' lv st (pc + 3) cells slots Q) : JW G X Y h lv (v :: .ref a :: st) pc cells slots Q := by
  obtain ⟨p, l, e, R, s, m, args, below, meth, c⟩ := X
  obtain ⟨hx, hb, hml, hown, hts, hK, hG, hsz, hkp, hbg, hlk, htr, hRf, hRl⟩ := E
  obtain ⟨fs, h1, h2, rfl⟩ := jpf_inv hv
  obtain ⟨C, T, N, ty0, f1, f2, f3, f4, f5, f6, f7, f8⟩ := F
  intro hn H locs ls hP hS hL
  refine va_put hx hb hts f2 ty0 f3 f4 hown hK hP (jw_D hG.1 hn) hS a (jw_get h1) f1 k f5 (hts _ f6) (fun _ z => z) f8 f7 (hnr _) (hft _) (by simpa using h2) hd (fun H1 locs1 hP1 _ hS1 => ?_)
  refine kk (by simpa using hn) H1 locs1 ls ?_ hS1 hL
  rw [← jw_set]
  have e1 : je (gS G) (gA G) (.inr (ci, fs.set k v)) = .inr (ci, (fs.map (jv (gS G))).set k (jv (gS G) v)) := by simp [je, List.map_set]
  rw [e1]
  exact hP1
theorem J_putF (E : jE G X Y) (hin : X.2.2.2.2.2.2.2.2.1.name = "<init>") {i ci k a : Nat} {v : Value} {ty : FieldType} (hd : decode Y.2.1 pc = .ok (.putfield i, 3)) (F : jFld Y.1 i ci k ty true) (hdc : ∃ C T N, vwCl[ci]? = some (C, T, N) ∧ (T k).1 = Y.1) (hv : jpf ci h a k v = some h') (hnr : ∀ σ, narrow ty (jv σ v) = jv σ v) (hft : ∀ σ, fits ty (jv σ v) = true) (kk : JW G X Y h' lv st (pc + 3) cells slots Q) : JW G X Y h lv (v :: .ref a :: st) pc cells slots Q := by
  obtain ⟨p, l, e, R, s, m, args, below, meth, c⟩ := X
  obtain ⟨hx, hb, hml, hown, hts, hK, hG, hsz, hkp, hbg, hlk, htr, hRf, hRl⟩ := E
  obtain ⟨fs, h1, h2, rfl⟩ := jpf_inv hv
  obtain ⟨C, T, N, ty0, f1, f2, f3, f4, f5, f6, f7, f8⟩ := F
  obtain ⟨C9, T9, N9, g1, g2⟩ := hdc
  cases Option.some.inj (f1.symm.trans g1)
  intro hn H locs ls hP hS hL
  refine va_putF hx hb hts f2 ty0 f3 f4 hown hK hP (jw_D hG.1 hn) hS a (jw_get h1) f1 k f5 (hts _ f6) (fun _ z => z) f8 hin g2 f7 (hnr _) (hft _) (by simpa using h2) hd (fun H1 locs1 hP1 _ hS1 => ?_)
  refine kk (by simpa using hn) H1 locs1 ls ?_ hS1 hL
  rw [← jw_set]
  have e1 : je (gS G) (gA G) (.inr (ci, fs.set k v)) = .inr (ci, (fs.map (jv (gS G))).set k (jv (gS G) v)) := by simp [je, List.map_set]
  rw [e1]
  exact hP1
theorem J_iald (E : jE G X Y) {a : Nat} {i x : Int32} (hd : decode Y.2.1 pc = .ok (.iaload, 1)) (hv : jal 0 h a i = some x) (kk : JW G X Y h lv (.int x :: st) (pc + 1) cells slots Q) : JW G X Y h lv (.int i :: .ref a :: st) pc cells slots Q := by
  obtain ⟨p, l, e, R, s, m, args, below, meth, c⟩ := X
  obtain ⟨hx, hb, hml, hown, hts, hK, hG, hsz, hkp, hbg, hlk, htr, hRf, hRl⟩ := E
  obtain ⟨n, f, h1, h2, rfl⟩ := jal_inv hv
  intro hn H locs ls hP hS hL
  exact va_iald hx hb hK hP a 0 (jw_get h1) rfl h2 hd (kk hn H locs ls hP hS hL)
theorem J_bald (E : jE G X Y) {a : Nat} {i x : Int32} (hd : decode Y.2.1 pc = .ok (.baload, 1)) (hv : jal 1 h a i = some x) (kk : JW G X Y h lv (.int x :: st) (pc + 1) cells slots Q) : JW G X Y h lv (.int i :: .ref a :: st) pc cells slots Q := by
  obtain ⟨p, l, e, R, s, m, args, below, meth, c⟩ := X
  obtain ⟨hx, hb, hml, hown, hts, hK, hG, hsz, hkp, hbg, hlk, htr, hRf, hRl⟩ := E
  obtain ⟨n, f, h1, h2, rfl⟩ := jal_inv hv
  intro hn H locs ls hP hS hL
  exact va_bald hx hb hK hP a 1 (jw_get h1) rfl h2 hd (kk hn H locs ls hP hS hL)
theorem J_zald (E : jE G X Y) {a : Nat} {i x : Int32} (hd : decode Y.2.1 pc = .ok (.baload, 1)) (hv : jal 2 h a i = some x) (kk : JW G X Y h lv (.int x :: st) (pc + 1) cells slots Q) : JW G X Y h lv (.int i :: .ref a :: st) pc cells slots Q := by
  obtain ⟨p, l, e, R, s, m, args, below, meth, c⟩ := X
  obtain ⟨hx, hb, hml, hown, hts, hK, hG, hsz, hkp, hbg, hlk, htr, hRf, hRl⟩ := E
  obtain ⟨n, f, h1, h2, rfl⟩ := jal_inv hv
  intro hn H locs ls hP hS hL
  exact va_zald hx hb hK hP a 2 (jw_get h1) rfl h2 hd (kk hn H locs ls hP hS hL)
theorem J_lald (E : jE G X Y) {a : Nat} {i : Int32} {x : Int64} (hd : decode Y.2.1 pc = .ok (.laload, 1)) (hv : jll 3 h a i = some x) (kk : JW G X Y h lv (.long x :: st) (pc + 1) cells slots Q) : JW G X Y h lv (.int i :: .ref a :: st) pc cells slots Q := by
  obtain ⟨p, l, e, R, s, m, args, below, meth, c⟩ := X
  obtain ⟨hx, hb, hml, hown, hts, hK, hG, hsz, hkp, hbg, hlk, htr, hRf, hRl⟩ := E
  obtain ⟨n, f, h1, h2, rfl⟩ := jll_inv hv
  intro hn H locs ls hP hS hL
  exact va_lald hx hb hK hP a 3 (jw_get h1) rfl h2 hd (kk hn H locs ls hP hS hL)
theorem J_aald (E : jE G X Y) {a x : Nat} {i : Int32} (hd : decode Y.2.1 pc = .ok (.aaload, 1)) (hv : jar 4 h a i = some x) (kk : JW G X Y h lv (.ref x :: st) (pc + 1) cells slots Q) : JW G X Y h lv (.int i :: .ref a :: st) pc cells slots Q := by
  obtain ⟨p, l, e, R, s, m, args, below, meth, c⟩ := X
  obtain ⟨hx, hb, hml, hown, hts, hK, hG, hsz, hkp, hbg, hlk, htr, hRf, hRl⟩ := E
  obtain ⟨n, f, h1, h2, h3⟩ := jar_inv hv
  intro hn H locs ls hP hS hL
  refine va_aldq hx hb hK hP a 4 (jw_get h1) rfl h2 hd ?_
  have e1 : va_rf ((f i.toNatClampNeg).map (gS G)) = .ref (gS G x) := by rw [h3]; rfl
  rw [e1]
  exact kk hn H locs ls hP hS hL
theorem J_iast (E : jE G X Y) {a : Nat} {i x : Int32} (hd : decode Y.2.1 pc = .ok (.iastore, 1)) (hv : jas 0 h a i x = some h') (kk : JW G X Y h' lv st (pc + 1) cells slots Q) : JW G X Y h lv (.int x :: .int i :: .ref a :: st) pc cells slots Q := by
  obtain ⟨p, l, e, R, s, m, args, below, meth, c⟩ := X
  obtain ⟨hx, hb, hml, hown, hts, hK, hG, hsz, hkp, hbg, hlk, htr, hRf, hRl⟩ := E
  obtain ⟨n, f, h1, h2, rfl⟩ := jas_inv hv
  intro hn H locs ls hP hS hL
  refine va_iast hx hb hK hP (jw_D hG.1 hn) hS a 0 (jw_get h1) rfl h2 hd (fun H1 locs1 hP1 _ hS1 => kk (by simpa using hn) H1 locs1 ls ?_ hS1 hL)
  rw [← jw_set]
  exact hP1
theorem J_bast (E : jE G X Y) {a : Nat} {i x : Int32} (hd : decode Y.2.1 pc = .ok (.bastore, 1)) (hv : jas 1 h a i (vp_nar .byte x) = some h') (kk : JW G X Y h' lv st (pc + 1) cells slots Q) : JW G X Y h lv (.int x :: .int i :: .ref a :: st) pc cells slots Q := by
  obtain ⟨p, l, e, R, s, m, args, below, meth, c⟩ := X
  obtain ⟨hx, hb, hml, hown, hts, hK, hG, hsz, hkp, hbg, hlk, htr, hRf, hRl⟩ := E
  obtain ⟨n, f, h1, h2, rfl⟩ := jas_inv hv
  intro hn H locs ls hP hS hL
  refine va_bast hx hb hK hP (jw_D hG.1 hn) hS a 1 (jw_get h1) rfl h2 hd (fun H1 locs1 hP1 _ hS1 => kk (by simpa using hn) H1 locs1 ls ?_ hS1 hL)
  rw [← jw_set]
  exact hP1
theorem J_zast (E : jE G X Y) {a : Nat} {i x : Int32} (hd : decode Y.2.1 pc = .ok (.bastore, 1)) (hv : jas 2 h a i (vp_nar .boolean x) = some h') (kk : JW G X Y h' lv st (pc + 1) cells slots Q) : JW G X Y h lv (.int x :: .int i :: .ref a :: st) pc cells slots Q := by
  obtain ⟨p, l, e, R, s, m, args, below, meth, c⟩ := X
  obtain ⟨hx, hb, hml, hown, hts, hK, hG, hsz, hkp, hbg, hlk, htr, hRf, hRl⟩ := E
  obtain ⟨n, f, h1, h2, rfl⟩ := jas_inv hv
  intro hn H locs ls hP hS hL
  refine va_zast hx hb hK hP (jw_D hG.1 hn) hS a 2 (jw_get h1) rfl h2 hd (fun H1 locs1 hP1 _ hS1 => kk (by simpa using hn) H1 locs1 ls ?_ hS1 hL)
  rw [← jw_set]
  exact hP1
theorem J_last (E : jE G X Y) {a : Nat} {i : Int32} {x : Int64} (hd : decode Y.2.1 pc = .ok (.lastore, 1)) (hv : jls 3 h a i x = some h') (kk : JW G X Y h' lv st (pc + 1) cells slots Q) : JW G X Y h lv (.long x :: .int i :: .ref a :: st) pc cells slots Q := by
  obtain ⟨p, l, e, R, s, m, args, below, meth, c⟩ := X
  obtain ⟨hx, hb, hml, hown, hts, hK, hG, hsz, hkp, hbg, hlk, htr, hRf, hRl⟩ := E
  obtain ⟨n, f, h1, h2, rfl⟩ := jls_inv hv
  intro hn H locs ls hP hS hL
  refine va_last hx hb hK hP (jw_D hG.1 hn) hS a 3 (jw_get h1) rfl h2 hd (fun H1 locs1 hP1 _ hS1 => kk (by simpa using hn) H1 locs1 ls ?_ hS1 hL)
  rw [← jw_set]
  exact hP1
theorem ja_len (σ : Nat → Nat) (a : vp_A) : (ja σ a).1 = a.1 := by
  unfold ja
  split <;> rfl
theorem J_alen (E : jE G X Y) {a ak : Nat} {x : Int32} (hk : ak < 5) (hd : decode Y.2.1 pc = .ok (.arraylength, 1)) (hv : jln ak h a = some x) (kk : JW G X Y h lv (.int x :: st) (pc + 1) cells slots Q) : JW G X Y h lv (.ref a :: st) pc cells slots Q := by
  obtain ⟨p, l, e, R, s, m, args, below, meth, c⟩ := X
  obtain ⟨hx, hb, hml, hown, hts, hK, hG, hsz, hkp, hbg, hlk, htr, hRf, hRl⟩ := E
  obtain ⟨n, f, h1, rfl⟩ := jln_inv hv
  intro hn H locs ls hP hS hL
  have ht : ∃ ty, (jty G)[ak]? = some (gA G ak, ty) := by
    rcases (show ak = 0 ∨ ak = 1 ∨ ak = 2 ∨ ak = 3 ∨ ak = 4 by omega) with rfl | rfl | rfl | rfl | rfl <;> exact ⟨_, rfl⟩
  obtain ⟨ty, ht⟩ := ht
  exact va_alen hx hb hK hP a ak (x := ja (gS G) (n, f)) (jw_get h1) ht (by rw [ja_len]; rfl) hd (kk hn H locs ls hP hS hL)
theorem J_copy (E : jE G X Y) {a d i : Nat} {sp dp n : Int32} (hd : decode Y.2.1 pc = .ok (.invokestatic i, 3)) (hl : Cond.methodLink Y.1 i arraycopyName ∈ jT) (hl2 : Cond.native arraycopyName ∈ jT) (hl3 : Cond.static arraycopyName ∈ jT) (hl4 : Cond.initialized "java/lang/System" ∈ jT) (hst : (st.map fun v => v.category).sum ≤ 8)
    (hv : jcp h a sp d dp n = some h') (kk : JW G X Y h' lv st (pc + 3) cells slots Q) : JW G X Y h lv (.int n :: .int dp :: .ref d :: .int sp :: .ref a :: st) pc cells slots Q := by
  obtain ⟨p, l, e, R, s, m, args, below, meth, c⟩ := X
  obtain ⟨hx, hb, hml, hown, hts, hK, hG, hsz, hkp, hbg, hlk, htr, hRf, hRl⟩ := E
  obtain ⟨na, f, nd, g, h1, h2, ⟨q1, q2, q3, q4, q5, q6⟩, rfl⟩ := jcp_inv hv
  intro hn H locs ls hP hS hL
  have hst' : ((st.map (jv (gS G))).map fun v => v.category).sum ≤ 8 := by
    have : (fun v => Value.category (jv (gS G) v)) = fun v => v.category := funext fun v => jv_cat _ v
    simpa [List.map_map, Function.comp_def, this] using hst
  have hnw : nativeFrameWords "java/lang/System" "arraycopy" 5 + 11 ≤ 100 := by decide
  refine va_copyi hx hb (by rw [hL.1]; exact hml) hown (hts _ hl) (hts _ hl2) (hts _ hl3) (hts _ hl4) hK hP (jw_D hG.1 hn) hS a d 0 0 (jw_get h1) (jw_get h2) (ty := .int) rfl rfl rfl q1 q2 q3 q4 q5 (fun _ _ => rfl) (Nat.le_trans (by decide) hRf) (by omega) hd (fun H1 locs1 hP1 _ hS1 => kk (by simpa using hn) H1 locs1 ls ?_ hS1 hL)
  rw [← jw_set]
  exact hP1
end JH
