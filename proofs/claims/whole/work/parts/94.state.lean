/-! the start: HP with REL -/
def oz : AC := .inl (3, 1, .inr (.inl (fun _ => 0)))
def G0 : GT := ((4, 0, 0), (fun _ => 0, fun _ => 0, fun _ => 0), (fun _ => .inl 0, 0), (fun _ => .inl 0, 0))
def ck4 : Bool := (shp.mapIdx (fun i q => decide (q.1 = 4 → (i = 72 ∧ q = (4, 2, [1000024, 1000025])) ∨ (i = 73 ∧ q = (4, 6, [1000026, 1000027, 1000028, 1000029, 1000030, 1000031])) ∨ (i = 74 ∧ q = (4, 6, [1000026, 1000027, 1000028, 1000029, 1000030, 1000032]))) && decide (q.1 = 3 → i = 111 ∧ q = (3, 1, [])))).all (fun b => b)
theorem ck4_y : ck4 = true := by decide +kernel
theorem ck4_inv {i : Nat} {q : Nat × Nat × List Nat} (hq : shp[i]? = some q) : (q.1 = 4 → (i = 72 ∧ q = (4, 2, [1000024, 1000025])) ∨ (i = 73 ∧ q = (4, 6, [1000026, 1000027, 1000028, 1000029, 1000030, 1000031])) ∨ (i = 74 ∧ q = (4, 6, [1000026, 1000027, 1000028, 1000029, 1000030, 1000032]))) ∧ (q.1 = 3 → i = 111 ∧ q = (3, 1, [])) := by
  have h := ck4_y
  unfold ck4 at h
  rw [List.all_eq_true] at h
  have h1 := List.mem_of_getElem? (l := shp.mapIdx (fun i q => decide (q.1 = 4 → (i = 72 ∧ q = (4, 2, [1000024, 1000025])) ∨ (i = 73 ∧ q = (4, 6, [1000026, 1000027, 1000028, 1000029, 1000030, 1000031])) ∨ (i = 74 ∧ q = (4, 6, [1000026, 1000027, 1000028, 1000029, 1000030, 1000032]))) && decide (q.1 = 3 → i = 111 ∧ q = (3, 1, [])))) (i := i) (by rw [List.getElem?_mapIdx, hq]; rfl)
  have h2 := h _ h1
  rw [Bool.and_eq_true, decide_eq_true_eq, decide_eq_true_eq] at h2
  exact h2
theorem ckV_inv {h : AH} {l : List (Nat × Nat × Int32)} (hv : ckV h l = true) {a k : Nat} {v : Int32} (hm : (a, k, v) ∈ l) : cnH h a k = v := by
  unfold ckV at hv
  rw [List.all_eq_true] at hv
  have e := hv _ hm
  simp only [beq_iff_eq] at e
  unfold cnH
  cases hx : h[a]? with
  | none => rw [hx] at e; cases e
  | some x => rw [hx] at e; exact Option.some.inj e
theorem start : ∃ h6' h7' C M G W, f_X6_init 10000 [b6] 0 = some h6' ∧ h6'.length = 71 ∧ f_X7_init 10000 (h6' ++ [b7]) 71 = some h7' ∧ h7'.length = 111 ∧ h7' ++ [oz] = HP C M K0 (fun _ => 0) ∧ REL K0 C M G W := by
  obtain ⟨h, e7, ec⟩ : ∃ h, h7 = some h ∧ (ckA9 K0 h shp && ckV h v0) = true := by
    have e := h7_ok
    cases hh : h7 with
    | none => rw [hh] at e; cases e
    | some h => rw [hh] at e; exact ⟨h, rfl, e⟩
  rw [Bool.and_eq_true] at ec
  unfold h7 at e7
  obtain ⟨a, e6, e7⟩ := jbind e7
  obtain ⟨h', e8, e9⟩ := jbind e7
  have e9 : h' ++ [oz] = h := Option.some.inj e9
  have la : a.length = 71 := by
    have e := h6_ok
    rw [e6] at e
    have e' : ckA9 K0 a (shp.take 71) = true := e
    rw [(ckA9_get e').1]
    decide
  unfold h6 at e6
  have ft := strs (h := a ++ [b7]) (N := 10000) (by rw [List.length_append, la]; rfl) h' e8
  have gl : ∀ (j : Nat) x, h'[j]? = some x → h[j]? = some x := fun j x hj => by
    rw [← e9, List.getElem?_append_left (List.getElem?_eq_some_iff.mp hj).1]; exact hj
  have eh : h = HP (cnH h) (cnH h) K0 (fun _ => 0) := by
    refine HP_of ec.1 (fun i q hq h4 => ?_) (fun i q hq h3 => ?_)
    · rcases (ck4_inv hq).1 h4 with ⟨rfl, rfl⟩ | ⟨rfl, rfl⟩ | ⟨rfl, rfl⟩
      · exact gl 72 _ (ft.2 0 _ rfl)
      · exact gl 73 _ (ft.2 1 _ rfl)
      · exact gl 74 _ (ft.2 2 _ rfl)
    · obtain ⟨rfl, rfl⟩ := (ck4_inv hq).2 h3
      rw [← e9, List.getElem?_append_right (by rw [ft.1]; exact Nat.le_refl _), ft.1]
      rfl
  have V : ∀ {a k : Nat} {v : Int32}, (a, k, v) ∈ v0 → cnH h a k = v := fun hm => ckV_inv ec.2 hm
  have ng : ∀ (i : Nat) (Q : Prop), i < 0 → Q := fun i Q hi => absurd hi (Nat.not_lt_zero i)
  have wf0 : WFr (fun _ => .inl 0) 0 := ⟨by decide, fun z => ng 0 _ z, fun k hk => ng k _ hk⟩
  have og : okG G0 := ⟨⟨by decide, by decide⟩, by decide, by decide, fun i hi => ng i _ hi, wf0, wf0⟩
  have ow : okW G0 (fun _ _ => 0) := ⟨fun i hi => ng i _ hi, fun i hi => ng i _ hi⟩
  refine ⟨a, h', cnH h, cnH h, G0, fun _ _ => 0, e6, la, e8, ft.1, e9.trans eh, ?_⟩
  refine ⟨⟨⟨.inr rfl, og, ⟨V (by decide), V (by decide), V (by decide), fun i hi => ng i _ hi, ⟨0, V (by decide), V (by decide), by decide, fun i hi => ng i _ hi⟩, ⟨0, V (by decide), V (by decide), by decide, fun i hi => ng i _ hi⟩⟩, ⟨V (by decide), fun i j _ _ hj => ng j _ hj, fun r hr => ng r _ hr⟩, ow⟩, ⟨og, ⟨V (by decide), V (by decide), V (by decide), fun i hi => ng i _ hi, ⟨V (by decide), fun i hi => ng i _ hi⟩, ⟨V (by decide), fun i hi => ng i _ hi⟩⟩, ⟨V (by decide), fun z => absurd z (by decide), fun i hi => ng i _ hi, fun i hi => ng i _ hi⟩, ow⟩, fun i hi => ng i _ hi⟩, ⟨0, by decide, V (by decide), V (by decide), fun i hi => ng i _ hi⟩, ?_, ⟨0, 0, by decide, by decide, V (by decide), V (by decide), V (by decide), fun i hi => ng i _ hi⟩, ⟨0, by decide, V (by decide), V (by decide), fun i hi => ng i _ hi⟩, fun k hk => ?_, .inl ⟨V (by decide), V (by decide)⟩, .inr ⟨rfl, rfl⟩⟩
  · exact (V (a := 0) (k := 2) (v := -1) (by decide)).trans (V (a := 71) (k := 26) (v := -1) (by decide)).symm
  · rcases (show k = 0 ∨ k = 1 ∨ k = 2 by omega) with rfl | rfl | rfl
    · exact (V (a := 32) (k := 0) (v := 0) (by decide)).trans (V (a := 84) (k := 0) (v := 0) (by decide)).symm
    · exact (V (a := 32) (k := 1) (v := 0) (by decide)).trans (V (a := 84) (k := 1) (v := 0) (by decide)).symm
    · exact (V (a := 32) (k := 2) (v := 0) (by decide)).trans (V (a := 84) (k := 2) (v := 0) (by decide)).symm
