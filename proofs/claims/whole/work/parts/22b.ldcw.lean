/-! a String constant by ldc_w -/
theorem jldcW {p : Program} {l : Launch} {e : Env} {R : Room} {s : State} {m : MethodId} {args : Array Value} {below : List Frame} {meth : Method} {c : Code} {T : State} {locs : List Loc} {cells slots : Nat}
    (X : Stand p l e R s m args below meth c T locs cells slots) (hexec : p.tables.exec = Jvm.exec) {own text : String} {index : Nat} {a : Addr} (hown : s.vm.findClass own = some m.cls)
    (hc : vk_R own index text a s) {g : JFrame} (hg : g.method = m) (hdg : decode c.code g.pc = .ok (.ldc_w index, 3)) :
    ∀ target, Steps p.tables e below (T.setTop { g with pc := g.pc + 3, stack := .ref a :: g.stack }) target → Steps p.tables e below (T.setTop g) target := by
  obtain ⟨k, cf, i, a', hk, hcf, hcp, -, hr, hev'⟩ := Cond.stringRef_spec hown hc.1
  cases hc.2.symm.trans hev'
  obtain ⟨k', hk', he⟩ := X.warmed.alike.2.2 _ _ hk
  have hr' : k'.resolved[index]? = some (some (.string a)) := by
    rcases X.warmed.entry hk hk' index with h | ⟨h, -⟩
    · rw [h]; exact hr
    · rw [hr] at h; cases h
  intro target hrest
  subst hg
  jvm_step X.here [hexec, hdg, ldc_w.wp_string (e := e) (s := T) (f := g) X.here.top hk' (by rw [he]; exact hcf) hcp hr']
  exact hrest
section JLW
variable {G : JG} {X : JX} {Y : JY} {h : AH} {lv : List (Nat × Value)} {st : List Value} {pc cells slots : Nat} {Q : State → Prop}
theorem J_ldcSw (E : jE G X Y) {i j : Nat} {tx : String} (hd : decode Y.2.1 pc = .ok (.ldc_w i, 3)) (hs : jstr[j]? = some (Y.1, i, tx)) (k : JW G X Y h lv (.ref (1000000 + j) :: st) (pc + 3) cells slots Q) : JW G X Y h lv (st) pc cells slots Q := by
  obtain ⟨p, l, e, R, s, m, args, below, meth, c⟩ := X
  obtain ⟨hx, hb, hml, hown, hts, hK, hG, hsz, hkp, hbg, hlk, htr, hRf, hRl⟩ := E
  intro hn H locs ls hP hS hL T hT X9
  obtain ⟨t, a1, b1⟩ := k hn H locs ls hP hS hL T hT X9
  exact ⟨t, jldcW X9 hx hown (hbg.1 j _ hs).1 (g := F0 m pc ls (st.map (jv (gS G)))) rfl (by rw [hb]; exact hd) t a1, b1⟩
end JLW
