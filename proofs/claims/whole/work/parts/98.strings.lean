/-! the start: String constants -/
def nF : List Cond := flatC (Jvm.Cond.and given_1 narrow_1)
def sT (q : String × Nat × String) : Term := .string q.1 q.2.1
def sV (q : String × Nat × String) : Term := .field (sT q) "java/lang/String" "value" "[B"
def sWs (q : String × Nat × String) : List Cond := [.exactly (sT q) "java/lang/String", .eq (.field (sT q) "java/lang/String" "coder" "B") (.int 0), .arrayOf (sV q) .byte, .eq (.length (sV q)) (.int (Int32.ofNat q.2.2.toList.length))] ++ (List.range q.2.2.toList.length).map (fun j => .eq (.elem (sV q) (.int (Int32.ofNat j))) (.int (jbyt q.2.2 j)))
def sSt : List Nat := [29, 63, 72, 81, 90, 99, 108, 115, 123, 131, 140, 148, 156, 164, 172, 179, 185, 193, 209, 226, 243, 259, 280, 302, 318, 328, 338, 347, 356, 366, 375, 384, 393, 402, 412, 422, 431, 439, 447, 454]
def ckS : Bool := (jstr.zip sSt).all (fun p => decide ((nF.drop p.2).take (sWs p.1).length = sWs p.1)) && decide (jstr.length = sSt.length)
theorem ckS_y : ckS = true := by decide +kernel
theorem sIn {i : Nat} {q : String × Nat × String} (hq : jstr[i]? = some q) : ∀ w ∈ sWs q, w ∈ nF := by
  intro w hw
  have h := ckS_y
  unfold ckS at h
  rw [Bool.and_eq_true, List.all_eq_true, decide_eq_true_eq] at h
  have hi : i < sSt.length := by rw [← h.2]; exact (List.getElem?_eq_some_iff.mp hq).1
  have hz : (jstr.zip sSt)[i]? = some (q, sSt[i]) := by
    rw [List.getElem?_zip_eq_some]
    exact ⟨hq, List.getElem?_eq_getElem hi⟩
  have e := of_decide_eq_true (h.1 _ (List.mem_of_getElem? hz))
  rw [← e] at hw
  exact List.mem_of_mem_drop (List.mem_of_mem_take hw)
theorem strF {b : Nat} {s : State} (h : (Jvm.Cond.and given_1 narrow_1).before #[Value.ref b] s = true) {A : Nat → Prop} (hA : ∀ a : Nat, a < s.heap.size → ¬ A a) : ∃ ad : Nat → Nat × Nat, ∀ i q, jstr[i]? = some q → (sT q).eval #[Value.ref b] s none [] s = some (.ref (ad i).1) ∧ va_O "java/lang/String" (ad i).1 A s s.heap ∧ va_OF "java/lang/String" "coder" "B" (.int 0) (ad i).1 A s s.heap ∧ va_OF "java/lang/String" "value" "[B" (.ref (ad i).2) (ad i).1 A s s.heap ∧ va_T .byte (ad i).2 q.2.2.toList.length (fun j => .int (jbyt q.2.2 j)) A s s.heap := by
  have hs := flat_of_before _ h
  have h0 : ∀ i : Nat, ∃ p : Nat × Nat, ∀ q, jstr[i]? = some q → (sT q).eval #[Value.ref b] s none [] s = some (.ref p.1) ∧ va_O "java/lang/String" p.1 A s s.heap ∧ va_OF "java/lang/String" "coder" "B" (.int 0) p.1 A s s.heap ∧ va_OF "java/lang/String" "value" "[B" (.ref p.2) p.1 A s s.heap ∧ va_T .byte p.2 q.2.2.toList.length (fun j => .int (jbyt q.2.2 j)) A s s.heap := by
    intro i
    cases hq : jstr[i]? with
    | none => exact ⟨(0, 0), fun q e => by cases e⟩
    | some q =>
      have g : ∀ w ∈ sWs q, w.before #[Value.ref b] s = true := fun w hw => hs w (sIn hq w hw)
      have g1 := g (.exactly (sT q) "java/lang/String") (by simp [sWs])
      have g2 := g (.eq (.field (sT q) "java/lang/String" "coder" "B") (.int 0)) (by simp [sWs])
      have g3 := g (.arrayOf (sV q) .byte) (by simp [sWs])
      have g4 := g (.eq (.length (sV q)) (.int (Int32.ofNat q.2.2.toList.length))) (by simp [sWs])
      have g5 : ∀ j, j < q.2.2.toList.length → (Cond.eq (.elem (sV q) (.int (Int32.ofNat j))) (.int (jbyt q.2.2 j))).before #[Value.ref b] s = true := fun j hj => g _ (List.mem_append_right _ (List.mem_map.mpr ⟨j, List.mem_range.mpr hj, rfl⟩))
      have hN : q.2.2.toList.length < 2 ^ 31 := by
        have : ∀ q ∈ jstr, q.2.2.toList.length < 100 := by decide +kernel
        have := this q (List.mem_of_getElem? hq)
        omega
      obtain ⟨a, c, cA, kA, q1, q2, q3, q4, q5, q6, -⟩ := Cond.exactly_spec (args := #[Value.ref b]) (first := s) (o := none) (s := s) (idx := []) (t := sT q) (cls := "java/lang/String") g1
      obtain ⟨t, ht, hT⟩ := va_Tof (f := fun j => .int (jbyt q.2.2 j)) (A := A) hN g3 (va_eqt g4) (fun j hj => va_eqt (g5 j hj)) hA
      refine ⟨(a, t), fun q' e => ?_⟩
      have e' : q = q' := Option.some.inj e
      rw [← e']
      exact ⟨q1, ⟨cA, q3, q5, by rw [q6]; exact q2, hA a (Array.getElem?_eq_some_iff.mp q3).1⟩, vk_OFof q1 (va_eqt g2) hA, vk_OFof q1 ht hA, hT⟩
  obtain ⟨ad, had⟩ := Classical.axiomOfChoice h0
  exact ⟨ad, had⟩
