/-! the start -/
def cont : AC → Nat → Int32
  | .inl (_, _, .inl S) => S
  | .inr (_, fs) => fun k => match fs[k]? with
    | some (.int x) => x
    | _ => 0
  | _ => fun _ => 0
def ckF (K : KT) (v : Value) (c : Nat) : Bool := match v with
  | .int _ => c == 0
  | .ref a => c != 0 && a == rf K c
  | _ => false
def ckC (K : KT) (x : AC) (q : Nat × Nat × List Nat) : Bool := match x with
  | .inl (c, n, .inl _) => decide (c < 3) && c == q.1 && n == q.2.1
  | .inl (c, n, .inr (.inl _)) => c == 3 && q.1 == 3 && n == q.2.1
  | .inl (c, n, .inr (.inr (.inr (.inr _)))) => c == 4 && q.1 == 4 && n == q.2.1
  | .inr (ci, fs) => q.1 == ci + 10 && fs.length == q.2.2.length && (fs.zip q.2.2).all (fun p => ckF K p.1 p.2)
  | _ => false
def ckA9 (K : KT) : AH → List (Nat × Nat × List Nat) → Bool
  | [], [] => true
  | x :: h, q :: l => ckC K x q && ckA9 K h l
  | _, _ => false
def K0 : KT := (12, 4, 3, 73)
def b6 : AC := .inr (6, [.null, .int 0, .int 0, .null, .null, .null, .null, .int 0, .null, .null, .null, .null, .null])
def b7 : AC := .inr (7, [.null, .null, .null, .null, .int 0, .null, .null, .null, .null, .null, .null, .null, .null, .null, .null, .null, .null, .int 0, .int 0, .int 0, .int 0, .int 0, .int 0, .int 0, .int 0, .int 0, .int 0, .int 0, .null, .null, .null, .null, .null, .null, .int 0, .int 0, .int 0, .null, .null, .null, .int 0, .null, .null, .null, .null, .null, .null, .null, .null, .int 0, .null, .int 0, .int 0, .int 0, .int 0, .null, .null, .null, .null, .null, .null])
def h6 : Option AH := f_X6_init 10000 [b6] 0
def h7 : Option AH := h6.bind fun h => (f_X7_init 10000 (h ++ [b7]) 71).bind fun h' => some (h' ++ [.inl (3, 1, .inr (.inl (fun _ => 0)))])
def ckV (h : AH) (l : List (Nat × Nat × Int32)) : Bool := l.all (fun q => (h[q.1]?).map (fun x => cont x q.2.1) == some q.2.2)
def v0 : List (Nat × Nat × Int32) := [(12, 0, 4), (12, 1, 0), (12, 2, 0), (12, 11, 0), (12, 12, 0), (12, 13, 0), (12, 14, 0), (21, 0, 0), (0, 1, 0), (0, 2, -1), (0, 7, 0), (20, 2, 0), (20, 3, 0), (20, 8, 0), (32, 0, 0), (32, 1, 0), (32, 2, 0), (71, 4, 0), (71, 17, 0), (71, 26, -1), (71, 34, 0), (71, 35, 0), (71, 36, 0), (71, 52, 0), (75, 0, 4), (75, 1, 0), (75, 2, 0), (75, 3, 0), (75, 4, 0), (84, 0, 0), (84, 1, 0), (84, 2, 0)]
theorem h6_ok : (match h6 with
  | some h => ckA9 K0 h (shp.take 71)
  | none => false) = true := by decide +kernel
theorem h7_ok : (match h7 with
  | some h => ckA9 K0 h shp && ckV h v0
  | none => false) = true := by decide +kernel
section S92
variable {K : KT} {O : Nat → Int64}
theorem ckA9_get : ∀ {h : AH} {l : List (Nat × Nat × List Nat)}, ckA9 K h l = true → h.length = l.length ∧ ∀ (i : Nat) q, l[i]? = some q → ∃ x, h[i]? = some x ∧ ckC K x q = true
  | [], [], _ => ⟨rfl, fun i q e => by cases e⟩
  | x :: h, q :: l, e => by
    unfold ckA9 at e
    rw [Bool.and_eq_true] at e
    obtain ⟨a1, a2⟩ := ckA9_get e.2
    refine ⟨by rw [List.length_cons, List.length_cons, a1], fun i q' hq => ?_⟩
    cases i with
    | zero =>
      rw [List.getElem?_cons_zero] at hq ⊢
      cases hq
      exact ⟨x, rfl, e.1⟩
    | succ i =>
      rw [List.getElem?_cons_succ] at hq ⊢
      exact a2 i q' hq
  | [], _ :: _, e => by cases e
  | _ :: _, [], e => by cases e
theorem ckF_inv {v : Value} {c : Nat} (h : ckF K v c = true) : (∃ y, v = .int y ∧ c = 0) ∨ (v = .ref (rf K c) ∧ c ≠ 0) := by
  unfold ckF at h
  split at h
  · exact .inl ⟨_, rfl, by simpa using h⟩
  · rename_i a
    rw [Bool.and_eq_true] at h
    refine .inr ⟨?_, by simpa using h.1⟩
    have : a = rf K c := by simpa using h.2
    rw [this]
  · cases h
theorem cel_of {x : AC} {q : Nat × Nat × List Nat} (h : ckC K x q = true) (h4 : q.1 = 4 → x = .inl (4, q.2.1, .inr (.inr (.inr (.inr (strA q.2.2)))))) (h3 : q.1 = 3 → x = .inl (3, q.2.1, .inr (.inl O))) : x = cel (cont x) K O q := by
  unfold ckC at h
  split at h
  · rename_i c n S
    simp only [Bool.and_eq_true, decide_eq_true_eq, beq_iff_eq] at h
    unfold cel cont
    rw [if_pos (by omega), h.1.2, h.2]
  · simp only [Bool.and_eq_true, beq_iff_eq] at h
    have e := h3 h.1.2
    rw [e]
    unfold cel
    rw [if_neg (by omega), if_pos h.1.2]
  · simp only [Bool.and_eq_true, beq_iff_eq] at h
    have e := h4 h.1.2
    rw [e]
    unfold cel
    rw [if_neg (by omega), if_neg (by omega), if_pos h.1.2]
  · rename_i ci fs
    simp only [Bool.and_eq_true, beq_iff_eq, List.all_eq_true] at h
    obtain ⟨⟨a1, a2⟩, a3⟩ := h
    have e : fs = q.2.2.mapIdx (fun k c => fv (cont (.inr (ci, fs))) K k c) := by
      apply List.ext_getElem?
      intro k
      rw [List.getElem?_mapIdx]
      cases hc : q.2.2[k]? with
      | none =>
        rw [Option.map_none]
        rw [List.getElem?_eq_none_iff] at hc ⊢
        omega
      | some c =>
        have hk : k < fs.length := by rw [a2]; exact (List.getElem?_eq_some_iff.mp hc).1
        have hv : fs[k]? = some fs[k] := List.getElem?_eq_getElem hk
        have hz : (fs.zip q.2.2)[k]? = some (fs[k], c) := by
          rw [List.getElem?_zip_eq_some]
          exact ⟨hv, hc⟩
        have g : ckF K fs[k] c = true := a3 _ (List.mem_of_getElem? hz)
        rw [hv, Option.map_some]
        refine congrArg some ?_
        rcases ckF_inv g with ⟨y, e1, e2⟩ | ⟨e1, e2⟩
        · unfold fv
          rw [if_pos e2]
          have e3 : cont (.inr (ci, fs)) k = y := by
            unfold cont
            simp only []
            rw [hv, e1]
          rw [e3]
          exact e1
        · unfold fv
          rw [if_neg e2]
          exact e1
    unfold cel
    rw [if_neg (by omega), if_neg (by omega), if_neg (by omega), ← e]
    rw [show q.1 - 10 = ci by omega]
  · cases h
def cnH (h : AH) : ST := fun a => match h[a]? with
  | some x => cont x
  | none => fun _ => 0
theorem HP_of {h : AH} (hc : ckA9 K h shp = true) (h4 : ∀ (a : Nat) q, shp[a]? = some q → q.1 = 4 → h[a]? = some (.inl (4, q.2.1, .inr (.inr (.inr (.inr (strA q.2.2))))))) (h3 : ∀ (a : Nat) q, shp[a]? = some q → q.1 = 3 → h[a]? = some (.inl (3, q.2.1, .inr (.inl O)))) : h = HP (cnH h) (cnH h) K O := by
  obtain ⟨l1, l2⟩ := ckA9_get hc
  apply List.ext_getElem?
  intro i
  cases hq : shp[i]? with
  | none =>
    have e : (HP (cnH h) (cnH h) K O)[i]? = none := by unfold HP; rw [List.getElem?_mapIdx, hq]; rfl
    rw [e, List.getElem?_eq_none_iff]
    rw [List.getElem?_eq_none_iff] at hq
    omega
  | some q =>
    obtain ⟨x, x1, x2⟩ := l2 i q hq
    have es : stx (cnH h) (cnH h) i = cont x := by
      unfold stx
      have : cnH h i = cont x := by unfold cnH; rw [x1]
      rw [this, ite_self]
    rw [hp_get hq, es, x1]
    refine congrArg some (cel_of x2 (fun z => ?_) (fun z => ?_))
    · have := h4 i q hq z
      rw [x1] at this
      exact Option.some.inj this
    · have := h3 i q hq z
      rw [x1] at this
      exact Option.some.inj this
end S92
