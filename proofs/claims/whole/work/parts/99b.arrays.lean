/-! the start: arrays -/
theorem arP {args : Array Value} {s : State} {ty : FieldType} (h : (Cond.arrayClass ty).before args s = true) : ∃ cA, ArrOfT s cA ty ∧ s.vm.findClass ("[" ++ ty.toString) = some cA := by
  obtain ⟨cA, kA, comp, h1, h2, h3⟩ := Cond.arrayClass_spec (args := args) (first := s) (o := none) (s := s) (idx := []) (type := ty) h
  exact ⟨cA, fun n z => ⟨fun k h => (by cases h), kA, h2, comp, h3⟩, h1⟩
theorem arrK {b : Nat} {s : State} (hts : ∀ w ∈ jT, w.before #[Value.ref b] s = true) (hao : va_AO "java/lang/String" s) : ∃ gA : Nat → ClassId, ∀ (k : Nat) (q : ClassId × FieldType), ([(gA 0, .int), (gA 1, .byte), (gA 2, .boolean), (gA 3, .long), (gA 4, .object "java/lang/String")] : List (ClassId × FieldType))[k]? = some q → ArrOfT s q.1 q.2 ∧ va_RA s q.1 q.2 := by
  obtain ⟨c0, a0, b0⟩ := arP (ty := .int) (hts _ (jl2_in _ (List.mem_of_getElem? (i := 13) rfl)))
  obtain ⟨c1, a1, b1⟩ := arP (ty := .byte) (hts _ (jl2_in _ (List.mem_of_getElem? (i := 12) rfl)))
  obtain ⟨c2, a2, b2⟩ := arP (ty := .boolean) (hts _ (jl2_in _ (List.mem_of_getElem? (i := 14) rfl)))
  obtain ⟨c3, a3, b3⟩ := arP (ty := .long) (hts _ (jl36_in _ (List.mem_of_getElem? (i := 25) rfl)))
  obtain ⟨comp, c4, k4, h1, h2, h3, h4, h5⟩ := Cond.arrayOver_spec hao
  refine ⟨fun k => match k with
    | 0 => c0
    | 1 => c1
    | 2 => c2
    | 3 => c3
    | _ => c4, fun k q hq => ?_⟩
  rcases k with _ | _ | _ | _ | _ | k
  · cases hq; exact ⟨a0, b0⟩
  · cases hq; exact ⟨a1, b1⟩
  · cases hq; exact ⟨a2, b2⟩
  · cases hq; exact ⟨a3, b3⟩
  · cases hq; exact ⟨fun n z => ⟨fun k h => (by cases h), k4, h3, comp, h4⟩, ⟨k4, comp, h3, h4, h1, h5⟩⟩
  · cases hq
