/-! the start: what is known of the classes -/
theorem clsK {b : Nat} {s : State} (hts : ∀ w ∈ jT, w.before #[Value.ref b] s = true) : ∃ D : Nat → ClassId × (Nat → Nat), ∀ c q, vwCl[c]? = some q → u_Kn s q.1 q.2.1 q.2.2 (D c).1 (D c).2 := by
  obtain ⟨c0, i0, h0⟩ := u_known (C := RX0) (T := TX0) (N := 9) (n := 9) hts inX0 (hts _ (jl2_in _ (List.mem_of_getElem? (i := 32) rfl)))
  obtain ⟨c1, i1, h1⟩ := u_known (C := RX1) (T := TX1) (N := 15) (n := 15) hts inX1 (hts _ (jl0_in _ (List.mem_of_getElem? (i := 36) rfl)))
  obtain ⟨c2, i2, h2⟩ := u_known (C := RX2) (T := TX2) (N := 2) (n := 2) hts inX2 (hts _ (jl3_in _ (List.mem_of_getElem? (i := 2) rfl)))
  obtain ⟨c3, i3, h3⟩ := u_known (C := RX3) (T := TX3) (N := 4) (n := 4) hts inX3 (hts _ (jl4_in _ (List.mem_of_getElem? (i := 13) rfl)))
  obtain ⟨c4, i4, h4⟩ := u_known (C := RX4) (T := TX4) (N := 13) (n := 13) hts inX4 (hts _ (jl0_in _ (List.mem_of_getElem? (i := 31) rfl)))
  obtain ⟨c5, i5, h5⟩ := u_known (C := RX5) (T := TX5) (N := 9) (n := 9) hts inX5 (hts _ (jl2_in _ (List.mem_of_getElem? (i := 37) rfl)))
  obtain ⟨c6, i6, h6⟩ := u_known (C := RX6) (T := TX6) (N := 13) (n := 13) hts inX6 (hts _ (jl0_in _ (List.mem_of_getElem? (i := 23) rfl)))
  obtain ⟨c7, i7, h7⟩ := u_known (C := RX7) (T := TX7) (N := 61) (n := 61) hts inX7 (hts _ (jl23_in _ (List.mem_of_getElem? (i := 31) rfl)))
  refine ⟨fun c => match c with
    | 0 => (c0, i0)
    | 1 => (c1, i1)
    | 2 => (c2, i2)
    | 3 => (c3, i3)
    | 4 => (c4, i4)
    | 5 => (c5, i5)
    | 6 => (c6, i6)
    | _ => (c7, i7), fun c q hq => ?_⟩
  rcases c with _ | _ | _ | _ | _ | _ | _ | _ | c
  · cases hq; exact h0
  · cases hq; exact h1
  · cases hq; exact h2
  · cases hq; exact h3
  · cases hq; exact h4
  · cases hq; exact h5
  · cases hq; exact h6
  · cases hq; exact h7
  · cases hq
