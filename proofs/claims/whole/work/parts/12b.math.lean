def jmx (x y : Int32) : Int32 := if x < y then y else x
def jmn (x y : Int32) : Int32 := if y < x then y else x
section JM
variable {G : JG} {X : JX} {Y : JY} {h : AH} {lv : List (Nat × Value)} {st : List Value} {pc cells slots : Nat} {Q : State → Prop}
theorem J_max (E : jE G X Y) {i : Nat} {x y : Int32} (hd : decode Y.2.1 pc = .ok (.invokestatic i, 3)) (hl : Cond.methodLink Y.1 i yJ9_max_7cf53 ∈ jT) (hst : (st.map fun v => v.category).sum ≤ 8) (hf : cells ≤ X.2.2.2.1.cells ∧ slots ≤ X.2.2.2.1.slots) (k : JW G X Y h lv (.int (jmx x y) :: st) (pc + 3) cells slots Q) : JW G X Y h lv (.int y :: .int x :: st) pc cells slots Q := by
  obtain ⟨p, l, e, R, s, m, args, below, meth, c⟩ := X
  obtain ⟨hx, hb, hml, hown, hts, hK, hG, hsz, hkp, hbg, hlk, htr, hRf, hRl⟩ := E
  intro hn H locs ls hP hS hL
  have hst9 := jrest (σ := gS G) hst
  exact va_mmax hx hb (by rw [hL.1]; exact hml) hown (hts _ hl) (hts _ cal_J9_max_7cf53.2.1) (hts _ cal_J9_max_7cf53.2.2.1) (hts _ cal_J9_max_7cf53.1) (Nat.le_trans (by decide) hRf) (by omega) hf.1 hf.2 hd (k hn H locs ls hP hS hL)
theorem J_min (E : jE G X Y) {i : Nat} {x y : Int32} (hd : decode Y.2.1 pc = .ok (.invokestatic i, 3)) (hl : Cond.methodLink Y.1 i yJ9_min_7cf53 ∈ jT) (hst : (st.map fun v => v.category).sum ≤ 8) (hf : cells ≤ X.2.2.2.1.cells ∧ slots ≤ X.2.2.2.1.slots) (k : JW G X Y h lv (.int (jmn x y) :: st) (pc + 3) cells slots Q) : JW G X Y h lv (.int y :: .int x :: st) pc cells slots Q := by
  obtain ⟨p, l, e, R, s, m, args, below, meth, c⟩ := X
  obtain ⟨hx, hb, hml, hown, hts, hK, hG, hsz, hkp, hbg, hlk, htr, hRf, hRl⟩ := E
  intro hn H locs ls hP hS hL
  have hst9 := jrest (σ := gS G) hst
  exact va_mmin hx hb (by rw [hL.1]; exact hml) hown (hts _ hl) (hts _ cal_J9_min_7cf53.2.1) (hts _ cal_J9_min_7cf53.2.2.1) (hts _ cal_J9_min_7cf53.1) (Nat.le_trans (by decide) hRf) (by omega) hf.1 hf.2 hd (k hn H locs ls hP hS hL)
end JM
