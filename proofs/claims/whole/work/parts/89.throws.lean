/-! which codes a call throws -/
def NT {α : Type} (P : Nat → Prop) (x : Option ((Nat ⊕ α) × AH)) : Prop := ∀ k h, x = some (.inl k, h) → P k
section S89
variable {P : Nat → Prop}
theorem NT_inr {α : Type} {y : α} {h : AH} : NT P (some (.inr y, h)) := fun k h e => by
  cases e
theorem NT_inl {α : Type} {j : Nat} {h : AH} (hj : P j) : NT P (some ((.inl j : Nat ⊕ α), h)) := fun k h e => by
  have e1 := congrArg Prod.fst (Option.some.inj e)
  have e2 : j = k := Sum.inl.inj e1
  rw [← e2]; exact hj
theorem NT_bind {α β : Type} {y : Option β} {f : β → Option ((Nat ⊕ α) × AH)} (hf : ∀ b, NT P (f b)) : NT P (y.bind f) := fun k h e => by
  cases y with
  | none => cases e
  | some b => exact hf b k h e
theorem NT_ite {α : Type} {c : Prop} [Decidable c] {x y : Option ((Nat ⊕ α) × AH)} (h1 : NT P x) (h2 : NT P y) : NT P (if c then x else y) := by
  split
  · exact h1
  · exact h2
theorem NT_elim {α β : Type} {y : Option ((Nat ⊕ β) × AH)} {f : ((Nat ⊕ β) × AH) → β → Option ((Nat ⊕ α) × AH)} (hy : NT P y) (hf : ∀ r b, NT P (f r b)) : NT P (y.bind fun r => Sum.elim (fun k => some (.inl k, r.2)) (fun b => f r b) r.1) := fun k h e => by
  cases y with
  | none => cases e
  | some r =>
    obtain ⟨s, h'⟩ := r
    cases s with
    | inl j =>
      have e1 := congrArg Prod.fst (Option.some.inj e)
      have e2 : j = k := Sum.inl.inj e1
      rw [← e2]
      exact hy j h' rfl
    | inr b => exact hf (.inr b, h') b k h e
theorem NT_sum {α β γ : Type} {s : β ⊕ γ} {f : β → Option ((Nat ⊕ α) × AH)} {g : γ → Option ((Nat ⊕ α) × AH)} (h1 : ∀ b, NT P (f b)) (h2 : ∀ b, NT P (g b)) : NT P (Sum.elim f g s) := by
  cases s
  · exact h1 _
  · exact h2 _
theorem nt_count {N : Nat} {h : AH} {a0 : Nat} {a1 : Int32} (p1 : P 1) : NT P (f_X6_count N h a0 a1) := by
  unfold f_X6_count
  repeat' (first | with_reducible exact NT_inr | with_reducible exact NT_inl p1 | with_reducible refine NT_ite ?_ ?_ | with_reducible refine NT_bind (fun _ => ?_) | with_reducible refine NT_sum (fun _ => ?_) (fun _ => ?_))
theorem nt_needReach_b15 {N : Nat}  {h : AH} (p1 : P 1) : NT P (f_X6_needReach_b15 N h) := by
  unfold f_X6_needReach_b15
  repeat' (first | with_reducible exact NT_inr | with_reducible exact NT_inl p1 | with_reducible refine NT_ite ?_ ?_ | with_reducible refine NT_bind (fun _ => ?_) | with_reducible refine NT_sum (fun _ => ?_) (fun _ => ?_))
theorem nt_needReach {N : Nat} {h : AH} {a0 : Nat} {a1 : Int32} (p1 : P 1) : NT P (f_X6_needReach N h a0 a1) := by
  unfold f_X6_needReach
  repeat' (first | with_reducible exact NT_inr | with_reducible exact NT_inl p1 | with_reducible refine NT_ite ?_ ?_ | with_reducible refine NT_elim (nt_needReach_b15 p1) (fun _ _ => ?_) | with_reducible exact (nt_needReach_b15 p1) | with_reducible refine NT_bind (fun _ => ?_) | with_reducible refine NT_sum (fun _ => ?_) (fun _ => ?_))
theorem nt_needWhat_b9 {N : Nat}  {h : AH} (p1 : P 1) : NT P (f_X6_needWhat_b9 N h) := by
  unfold f_X6_needWhat_b9
  repeat' (first | with_reducible exact NT_inr | with_reducible exact NT_inl p1 | with_reducible refine NT_ite ?_ ?_ | with_reducible refine NT_bind (fun _ => ?_) | with_reducible refine NT_sum (fun _ => ?_) (fun _ => ?_))
theorem nt_needWhat {N : Nat} {h : AH} {a0 : Int32} {a1 : Int32} (p1 : P 1) : NT P (f_X6_needWhat N h a0 a1) := by
  unfold f_X6_needWhat
  repeat' (first | with_reducible exact NT_inr | with_reducible exact NT_inl p1 | with_reducible refine NT_ite ?_ ?_ | with_reducible refine NT_elim (nt_needWhat_b9 p1) (fun _ _ => ?_) | with_reducible exact (nt_needWhat_b9 p1) | with_reducible refine NT_bind (fun _ => ?_) | with_reducible refine NT_sum (fun _ => ?_) (fun _ => ?_))
theorem nt_reach {N : Nat} {h : AH} {a0 : Nat} {a1 : Int32} {a2 : Int32} (p1 : P 1) : NT P (f_X6_reach N h a0 a1 a2) := by
  unfold f_X6_reach
  repeat' (first | with_reducible exact NT_inr | with_reducible exact NT_inl p1 | with_reducible refine NT_ite ?_ ?_ | with_reducible refine NT_elim (nt_needReach p1) (fun _ _ => ?_) | with_reducible exact (nt_needReach p1) | with_reducible refine NT_elim (nt_needWhat p1) (fun _ _ => ?_) | with_reducible exact (nt_needWhat p1) | with_reducible refine NT_bind (fun _ => ?_) | with_reducible refine NT_sum (fun _ => ?_) (fun _ => ?_))
theorem nt_needJudge_b15 {N : Nat}  {h : AH} (p1 : P 1) : NT P (f_X6_needJudge_b15 N h) := by
  unfold f_X6_needJudge_b15
  repeat' (first | with_reducible exact NT_inr | with_reducible exact NT_inl p1 | with_reducible refine NT_ite ?_ ?_ | with_reducible refine NT_bind (fun _ => ?_) | with_reducible refine NT_sum (fun _ => ?_) (fun _ => ?_))
theorem nt_needJudge {N : Nat} {h : AH} {a0 : Nat} {a1 : Int32} (p1 : P 1) : NT P (f_X6_needJudge N h a0 a1) := by
  unfold f_X6_needJudge
  repeat' (first | with_reducible exact NT_inr | with_reducible exact NT_inl p1 | with_reducible refine NT_ite ?_ ?_ | with_reducible refine NT_elim (nt_needJudge_b15 p1) (fun _ _ => ?_) | with_reducible exact (nt_needJudge_b15 p1) | with_reducible refine NT_bind (fun _ => ?_) | with_reducible refine NT_sum (fun _ => ?_) (fun _ => ?_))
theorem nt_judge {N : Nat} {h : AH} {a0 : Nat} {a1 : Int32} {a2 : Int32} (p1 : P 1) : NT P (f_X6_judge N h a0 a1 a2) := by
  unfold f_X6_judge
  repeat' (first | with_reducible exact NT_inr | with_reducible exact NT_inl p1 | with_reducible refine NT_ite ?_ ?_ | with_reducible refine NT_elim (nt_needJudge p1) (fun _ _ => ?_) | with_reducible exact (nt_needJudge p1) | with_reducible refine NT_bind (fun _ => ?_) | with_reducible refine NT_sum (fun _ => ?_) (fun _ => ?_))
theorem nt_call {N : Nat} {h : AH} {a0 : Nat} {a1 : Int32} (p1 : P 1) : NT P (f_X6_call N h a0 a1) := by
  unfold f_X6_call
  repeat' (first | with_reducible exact NT_inr | with_reducible exact NT_inl p1 | with_reducible refine NT_ite ?_ ?_ | with_reducible refine NT_elim (nt_needJudge p1) (fun _ _ => ?_) | with_reducible exact (nt_needJudge p1) | with_reducible refine NT_bind (fun _ => ?_) | with_reducible refine NT_sum (fun _ => ?_) (fun _ => ?_))
theorem nt_needSide_b15 {N : Nat}  {h : AH} (p1 : P 1) : NT P (f_X6_needSide_b15 N h) := by
  unfold f_X6_needSide_b15
  repeat' (first | with_reducible exact NT_inr | with_reducible exact NT_inl p1 | with_reducible refine NT_ite ?_ ?_ | with_reducible refine NT_bind (fun _ => ?_) | with_reducible refine NT_sum (fun _ => ?_) (fun _ => ?_))
theorem nt_needSide {N : Nat} {h : AH} {a0 : Nat} {a1 : Int32} (p1 : P 1) : NT P (f_X6_needSide N h a0 a1) := by
  unfold f_X6_needSide
  repeat' (first | with_reducible exact NT_inr | with_reducible exact NT_inl p1 | with_reducible refine NT_ite ?_ ?_ | with_reducible refine NT_elim (nt_needSide_b15 p1) (fun _ _ => ?_) | with_reducible exact (nt_needSide_b15 p1) | with_reducible refine NT_bind (fun _ => ?_) | with_reducible refine NT_sum (fun _ => ?_) (fun _ => ?_))
theorem nt_paddle_b45 {N : Nat} {v0 : Nat} {h : AH}  : NT P (f_X6_paddle_b45 N v0 h) := by
  unfold f_X6_paddle_b45
  repeat' (first | with_reducible exact NT_inr | with_reducible refine NT_ite ?_ ?_ | with_reducible refine NT_bind (fun _ => ?_) | with_reducible refine NT_sum (fun _ => ?_) (fun _ => ?_))
theorem nt_paddle {N : Nat} {h : AH} {a0 : Nat} {a1 : Int32} {a2 : Int32} (p1 : P 1) : NT P (f_X6_paddle N h a0 a1 a2) := by
  unfold f_X6_paddle
  repeat' (first | with_reducible exact NT_inr | with_reducible exact NT_inl p1 | with_reducible refine NT_ite ?_ ?_ | with_reducible refine NT_elim (nt_needJudge p1) (fun _ _ => ?_) | with_reducible exact (nt_needJudge p1) | with_reducible refine NT_elim (nt_needSide p1) (fun _ _ => ?_) | with_reducible exact (nt_needSide p1) | with_reducible refine NT_elim nt_paddle_b45 (fun _ _ => ?_) | with_reducible exact nt_paddle_b45 | with_reducible refine NT_bind (fun _ => ?_) | with_reducible refine NT_sum (fun _ => ?_) (fun _ => ?_))
theorem nt_carry_b33 {N : Nat} {v0 : Nat} {h : AH}  : NT P (f_X6_carry_b33 N v0 h) := by
  unfold f_X6_carry_b33
  repeat' (first | with_reducible exact NT_inr | with_reducible refine NT_ite ?_ ?_ | with_reducible refine NT_bind (fun _ => ?_) | with_reducible refine NT_sum (fun _ => ?_) (fun _ => ?_))
theorem nt_carry {N : Nat} {h : AH} {a0 : Nat} {a1 : Int32} {a2 : Int32} (p1 : P 1) : NT P (f_X6_carry N h a0 a1 a2) := by
  unfold f_X6_carry
  repeat' (first | with_reducible exact NT_inr | with_reducible exact NT_inl p1 | with_reducible refine NT_ite ?_ ?_ | with_reducible refine NT_elim (nt_needJudge p1) (fun _ _ => ?_) | with_reducible exact (nt_needJudge p1) | with_reducible refine NT_elim (nt_needReach p1) (fun _ _ => ?_) | with_reducible exact (nt_needReach p1) | with_reducible refine NT_elim nt_carry_b33 (fun _ _ => ?_) | with_reducible exact nt_carry_b33 | with_reducible refine NT_bind (fun _ => ?_) | with_reducible refine NT_sum (fun _ => ?_) (fun _ => ?_))
theorem nt_dredge_b24 {N : Nat} {v0 : Nat} {h : AH}  : NT P (f_X6_dredge_b24 N v0 h) := by
  unfold f_X6_dredge_b24
  repeat' (first | with_reducible exact NT_inr | with_reducible refine NT_ite ?_ ?_ | with_reducible refine NT_bind (fun _ => ?_) | with_reducible refine NT_sum (fun _ => ?_) (fun _ => ?_))
theorem nt_dredge {N : Nat} {h : AH} {a0 : Nat} {a1 : Int32} {a2 : Int32} {a3 : Int32} (p1 : P 1) : NT P (f_X6_dredge N h a0 a1 a2 a3) := by
  unfold f_X6_dredge
  repeat' (first | with_reducible exact NT_inr | with_reducible exact NT_inl p1 | with_reducible refine NT_ite ?_ ?_ | with_reducible refine NT_elim (nt_needReach p1) (fun _ _ => ?_) | with_reducible exact (nt_needReach p1) | with_reducible refine NT_elim nt_dredge_b24 (fun _ _ => ?_) | with_reducible exact nt_dredge_b24 | with_reducible refine NT_bind (fun _ => ?_) | with_reducible refine NT_sum (fun _ => ?_) (fun _ => ?_))
theorem nt_needSteps_b10 {N : Nat}  {h : AH} (p2 : P 2) : NT P (f_X6_needSteps_b10 N h) := by
  unfold f_X6_needSteps_b10
  repeat' (first | with_reducible exact NT_inr | with_reducible exact NT_inl p2 | with_reducible refine NT_ite ?_ ?_ | with_reducible refine NT_bind (fun _ => ?_) | with_reducible refine NT_sum (fun _ => ?_) (fun _ => ?_))
theorem nt_needSteps {N : Nat} {h : AH} {a0 : Int32} {a1 : Int32} {a2 : Int32} (p2 : P 2) : NT P (f_X6_needSteps N h a0 a1 a2) := by
  unfold f_X6_needSteps
  repeat' (first | with_reducible exact NT_inr | with_reducible exact NT_inl p2 | with_reducible refine NT_ite ?_ ?_ | with_reducible refine NT_elim (nt_needSteps_b10 p2) (fun _ _ => ?_) | with_reducible exact (nt_needSteps_b10 p2) | with_reducible refine NT_bind (fun _ => ?_) | with_reducible refine NT_sum (fun _ => ?_) (fun _ => ?_))
theorem nt_then {N : Nat} {h : AH} {a0 : Nat} {a1 : Int32} {a2 : Int32} {a3 : Int32} (p1 : P 1) (p2 : P 2) : NT P (f_X6_then N h a0 a1 a2 a3) := by
  unfold f_X6_then
  repeat' (first | with_reducible exact NT_inr | with_reducible exact NT_inl p1 | with_reducible exact NT_inl p2 | with_reducible refine NT_ite ?_ ?_ | with_reducible refine NT_elim (nt_needJudge p1) (fun _ _ => ?_) | with_reducible exact (nt_needJudge p1) | with_reducible refine NT_elim (nt_needWhat p1) (fun _ _ => ?_) | with_reducible exact (nt_needWhat p1) | with_reducible refine NT_elim (nt_needSteps p2) (fun _ _ => ?_) | with_reducible exact (nt_needSteps p2) | with_reducible refine NT_bind (fun _ => ?_) | with_reducible refine NT_sum (fun _ => ?_) (fun _ => ?_))
theorem nt_when {N : Nat} {h : AH} {a0 : Nat} {a1 : Int32} {a2 : Int32} (p1 : P 1) : NT P (f_X6_when N h a0 a1 a2) := by
  unfold f_X6_when
  repeat' (first | with_reducible exact NT_inr | with_reducible exact NT_inl p1 | with_reducible refine NT_ite ?_ ?_ | with_reducible refine NT_elim (nt_needJudge p1) (fun _ _ => ?_) | with_reducible exact (nt_needJudge p1) | with_reducible refine NT_elim (nt_needWhat p1) (fun _ _ => ?_) | with_reducible exact (nt_needWhat p1) | with_reducible refine NT_bind (fun _ => ?_) | with_reducible refine NT_sum (fun _ => ?_) (fun _ => ?_))
theorem nt_later {N : Nat} {h : AH} {a0 : Nat} {a1 : Int32} {a2 : Int32} (p1 : P 1) (p2 : P 2) : NT P (f_X6_later N h a0 a1 a2) := by
  unfold f_X6_later
  repeat' (first | with_reducible exact NT_inr | with_reducible exact NT_inl p1 | with_reducible exact NT_inl p2 | with_reducible refine NT_ite ?_ ?_ | with_reducible refine NT_elim (nt_needWhat p1) (fun _ _ => ?_) | with_reducible exact (nt_needWhat p1) | with_reducible refine NT_elim (nt_needSteps p2) (fun _ _ => ?_) | with_reducible exact (nt_needSteps p2) | with_reducible refine NT_bind (fun _ => ?_) | with_reducible refine NT_sum (fun _ => ?_) (fun _ => ?_))
theorem nt_beside_b23 {N : Nat} {v0 : Nat} {v1 : Int32} {v2 : Int32} {v3 : Int32} {h : AH}  : NT P (f_X6_beside_b23 N v0 v1 v2 v3 h) := by
  unfold f_X6_beside_b23
  repeat' (first | with_reducible exact NT_inr | with_reducible refine NT_ite ?_ ?_ | with_reducible refine NT_bind (fun _ => ?_) | with_reducible refine NT_sum (fun _ => ?_) (fun _ => ?_))
theorem nt_beside {N : Nat} {h : AH} {a0 : Nat} {a1 : Int32} {a2 : Int32} (p1 : P 1) : NT P (f_X6_beside N h a0 a1 a2) := by
  unfold f_X6_beside
  repeat' (first | with_reducible exact NT_inr | with_reducible exact NT_inl p1 | with_reducible refine NT_ite ?_ ?_ | with_reducible refine NT_elim (nt_needJudge p1) (fun _ _ => ?_) | with_reducible exact (nt_needJudge p1) | with_reducible refine NT_elim nt_beside_b23 (fun _ _ => ?_) | with_reducible exact nt_beside_b23 | with_reducible refine NT_bind (fun _ => ?_) | with_reducible refine NT_sum (fun _ => ?_) (fun _ => ?_))
theorem nt_last_b13 {N : Nat} {v0 : Nat} {v1 : Int32} {v2 : Int32} {v3 : Int32} {h : AH}  : NT P (f_X6_last_b13 N v0 v1 v2 v3 h) := by
  unfold f_X6_last_b13
  repeat' (first | with_reducible exact NT_inr | with_reducible refine NT_ite ?_ ?_ | with_reducible refine NT_bind (fun _ => ?_) | with_reducible refine NT_sum (fun _ => ?_) (fun _ => ?_))
theorem nt_last {N : Nat} {h : AH} {a0 : Nat} {a1 : Int32} (p1 : P 1) : NT P (f_X6_last N h a0 a1) := by
  unfold f_X6_last
  repeat' (first | with_reducible exact NT_inr | with_reducible exact NT_inl p1 | with_reducible refine NT_ite ?_ ?_ | with_reducible refine NT_elim (nt_needJudge p1) (fun _ _ => ?_) | with_reducible exact (nt_needJudge p1) | with_reducible refine NT_elim nt_last_b13 (fun _ _ => ?_) | with_reducible exact nt_last_b13 | with_reducible refine NT_bind (fun _ => ?_) | with_reducible refine NT_sum (fun _ => ?_) (fun _ => ?_))
theorem nt_still_b27 {N : Nat} {v0 : Nat} {v1 : Int32} {v2 : Int32} {v3 : Int32} {v4 : Int32} {v5 : Int32} {h : AH}  : NT P (f_X6_still_b27 N v0 v1 v2 v3 v4 v5 h) := by
  unfold f_X6_still_b27
  repeat' (first | with_reducible exact NT_inr | with_reducible refine NT_ite ?_ ?_ | with_reducible refine NT_bind (fun _ => ?_) | with_reducible refine NT_sum (fun _ => ?_) (fun _ => ?_))
theorem nt_still {N : Nat} {h : AH} {a0 : Nat} {a1 : Int32} {a2 : Int32} {a3 : Int32} (p1 : P 1) (p2 : P 2) : NT P (f_X6_still N h a0 a1 a2 a3) := by
  unfold f_X6_still
  repeat' (first | with_reducible exact NT_inr | with_reducible exact NT_inl p1 | with_reducible exact NT_inl p2 | with_reducible refine NT_ite ?_ ?_ | with_reducible refine NT_elim (nt_needJudge p1) (fun _ _ => ?_) | with_reducible exact (nt_needJudge p1) | with_reducible refine NT_elim (nt_needWhat p1) (fun _ _ => ?_) | with_reducible exact (nt_needWhat p1) | with_reducible refine NT_elim (nt_needSteps p2) (fun _ _ => ?_) | with_reducible exact (nt_needSteps p2) | with_reducible refine NT_elim nt_still_b27 (fun _ _ => ?_) | with_reducible exact nt_still_b27 | with_reducible refine NT_bind (fun _ => ?_) | with_reducible refine NT_sum (fun _ => ?_) (fun _ => ?_))
theorem nt_turned {N : Nat} {h : AH} {a0 : Nat} {a1 : Int32} {a2 : Int32} (p1 : P 1) (p2 : P 2) : NT P (f_X6_turned N h a0 a1 a2) := by
  unfold f_X6_turned
  repeat' (first | with_reducible exact NT_inr | with_reducible exact NT_inl p1 | with_reducible exact NT_inl p2 | with_reducible refine NT_ite ?_ ?_ | with_reducible refine NT_elim (nt_needJudge p1) (fun _ _ => ?_) | with_reducible exact (nt_needJudge p1) | with_reducible refine NT_elim (nt_needSteps p2) (fun _ _ => ?_) | with_reducible exact (nt_needSteps p2) | with_reducible refine NT_bind (fun _ => ?_) | with_reducible refine NT_sum (fun _ => ?_) (fun _ => ?_))
theorem nt_stay_b19 {N : Nat} {v0 : Nat} {v1 : Int32} {v2 : Int32} {v3 : Int32} {v4 : Int32} {v5 : Int32} {h : AH}  : NT P (f_X6_stay_b19 N v0 v1 v2 v3 v4 v5 h) := by
  unfold f_X6_stay_b19
  repeat' (first | with_reducible exact NT_inr | with_reducible refine NT_ite ?_ ?_ | with_reducible refine NT_bind (fun _ => ?_) | with_reducible refine NT_sum (fun _ => ?_) (fun _ => ?_))
theorem nt_stay {N : Nat} {h : AH} {a0 : Nat} {a1 : Int32} (p1 : P 1) : NT P (f_X6_stay N h a0 a1) := by
  unfold f_X6_stay
  repeat' (first | with_reducible exact NT_inr | with_reducible exact NT_inl p1 | with_reducible refine NT_ite ?_ ?_ | with_reducible refine NT_elim (nt_needJudge p1) (fun _ _ => ?_) | with_reducible exact (nt_needJudge p1) | with_reducible refine NT_elim nt_stay_b19 (fun _ _ => ?_) | with_reducible exact nt_stay_b19 | with_reducible refine NT_bind (fun _ => ?_) | with_reducible refine NT_sum (fun _ => ?_) (fun _ => ?_))
theorem nt_toSet_b18 {N : Nat} {v0 : Nat} {v1 : Int32} {v2 : Int32} {v3 : Int32} {v4 : Int32} {v5 : Int32} {h : AH}  : NT P (f_X6_toSet_b18 N v0 v1 v2 v3 v4 v5 h) := by
  unfold f_X6_toSet_b18
  repeat' (first | with_reducible exact NT_inr | with_reducible refine NT_ite ?_ ?_ | with_reducible refine NT_bind (fun _ => ?_) | with_reducible refine NT_sum (fun _ => ?_) (fun _ => ?_))
theorem nt_toSet {N : Nat} {h : AH} {a0 : Nat} {a1 : Int32} {a2 : Int32} (p1 : P 1) : NT P (f_X6_toSet N h a0 a1 a2) := by
  unfold f_X6_toSet
  repeat' (first | with_reducible exact NT_inr | with_reducible exact NT_inl p1 | with_reducible refine NT_ite ?_ ?_ | with_reducible refine NT_elim (nt_needJudge p1) (fun _ _ => ?_) | with_reducible exact (nt_needJudge p1) | with_reducible refine NT_elim (nt_needWhat p1) (fun _ _ => ?_) | with_reducible exact (nt_needWhat p1) | with_reducible refine NT_elim nt_toSet_b18 (fun _ _ => ?_) | with_reducible exact nt_toSet_b18 | with_reducible refine NT_bind (fun _ => ?_) | with_reducible refine NT_sum (fun _ => ?_) (fun _ => ?_))
theorem nt_toSpin_b26 {N : Nat} {v0 : Nat} {v1 : Int32} {v2 : Int32} {v3 : Int32} {v4 : Int32} {v5 : Int32} {v6 : Int32} {h : AH}  : NT P (f_X6_toSpin_b26 N v0 v1 v2 v3 v4 v5 v6 h) := by
  unfold f_X6_toSpin_b26
  repeat' (first | with_reducible exact NT_inr | with_reducible refine NT_ite ?_ ?_ | with_reducible refine NT_bind (fun _ => ?_) | with_reducible refine NT_sum (fun _ => ?_) (fun _ => ?_))
theorem nt_toSpin {N : Nat} {h : AH} {a0 : Nat} {a1 : Int32} {a2 : Int32} {a3 : Int32} (p1 : P 1) (p2 : P 2) : NT P (f_X6_toSpin N h a0 a1 a2 a3) := by
  unfold f_X6_toSpin
  repeat' (first | with_reducible exact NT_inr | with_reducible exact NT_inl p1 | with_reducible exact NT_inl p2 | with_reducible refine NT_ite ?_ ?_ | with_reducible refine NT_elim (nt_needReach p1) (fun _ _ => ?_) | with_reducible exact (nt_needReach p1) | with_reducible refine NT_elim (nt_needWhat p1) (fun _ _ => ?_) | with_reducible exact (nt_needWhat p1) | with_reducible refine NT_elim (nt_needSteps p2) (fun _ _ => ?_) | with_reducible exact (nt_needSteps p2) | with_reducible refine NT_elim nt_toSpin_b26 (fun _ _ => ?_) | with_reducible exact nt_toSpin_b26 | with_reducible refine NT_bind (fun _ => ?_) | with_reducible refine NT_sum (fun _ => ?_) (fun _ => ?_))
theorem nt_toCall_b20 {N : Nat} {v0 : Nat} {v1 : Int32} {v2 : Int32} {v3 : Int32} {v4 : Int32} {h : AH}  : NT P (f_X6_toCall_b20 N v0 v1 v2 v3 v4 h) := by
  unfold f_X6_toCall_b20
  repeat' (first | with_reducible exact NT_inr | with_reducible refine NT_ite ?_ ?_ | with_reducible refine NT_bind (fun _ => ?_) | with_reducible refine NT_sum (fun _ => ?_) (fun _ => ?_))
theorem nt_toCall {N : Nat} {h : AH} {a0 : Nat} {a1 : Int32} (p1 : P 1) : NT P (f_X6_toCall N h a0 a1) := by
  unfold f_X6_toCall
  repeat' (first | with_reducible exact NT_inr | with_reducible exact NT_inl p1 | with_reducible refine NT_ite ?_ ?_ | with_reducible refine NT_elim (nt_needJudge p1) (fun _ _ => ?_) | with_reducible exact (nt_needJudge p1) | with_reducible refine NT_elim nt_toCall_b20 (fun _ _ => ?_) | with_reducible exact nt_toCall_b20 | with_reducible refine NT_bind (fun _ => ?_) | with_reducible refine NT_sum (fun _ => ?_) (fun _ => ?_))
theorem nt_panel {N : Nat} {h : AH} {a0 : Nat} {a1 : Int32} (p1 : P 1) : NT P (f_X6_panel N h a0 a1) := by
  unfold f_X6_panel
  repeat' (first | with_reducible exact NT_inr | with_reducible exact NT_inl p1 | with_reducible refine NT_ite ?_ ?_ | with_reducible refine NT_elim (nt_needWhat p1) (fun _ _ => ?_) | with_reducible exact (nt_needWhat p1) | with_reducible refine NT_bind (fun _ => ?_) | with_reducible refine NT_sum (fun _ => ?_) (fun _ => ?_))
theorem nt_seat {N : Nat} {h : AH} {a0 : Nat} {a1 : Int32} (p1 : P 1) : NT P (f_X6_seat N h a0 a1) := by
  unfold f_X6_seat
  repeat' (first | with_reducible exact NT_inr | with_reducible exact NT_inl p1 | with_reducible refine NT_ite ?_ ?_ | with_reducible refine NT_elim (nt_needSide p1) (fun _ _ => ?_) | with_reducible exact (nt_needSide p1) | with_reducible refine NT_bind (fun _ => ?_) | with_reducible refine NT_sum (fun _ => ?_) (fun _ => ?_))
theorem nt_unlike {N : Nat} {h : AH} {a0 : Nat} {a1 : Int32} {a2 : Int32} (p1 : P 1) : NT P (f_X6_unlike N h a0 a1 a2) := by
  unfold f_X6_unlike
  repeat' (first | with_reducible exact NT_inr | with_reducible exact NT_inl p1 | with_reducible refine NT_ite ?_ ?_ | with_reducible refine NT_elim (nt_needJudge p1) (fun _ _ => ?_) | with_reducible exact (nt_needJudge p1) | with_reducible refine NT_bind (fun _ => ?_) | with_reducible refine NT_sum (fun _ => ?_) (fun _ => ?_))
theorem nt_sides_b31 {N : Nat} {v0 : Nat} {v2 : Int32} {v3 : Int32} {v4 : Int32} {v5 : Int32} {h : AH}  : NT P (f_X6_sides_b31 N v0 v2 v3 v4 v5 h) := by
  unfold f_X6_sides_b31
  repeat' (first | with_reducible exact NT_inr | with_reducible refine NT_ite ?_ ?_ | with_reducible refine NT_bind (fun _ => ?_) | with_reducible refine NT_sum (fun _ => ?_) (fun _ => ?_))
theorem nt_sides {N : Nat} {h : AH} {a0 : Nat} {a1 : Int32} {a2 : Int32} (p1 : P 1) (p2 : P 2) : NT P (f_X6_sides N h a0 a1 a2) := by
  unfold f_X6_sides
  repeat' (first | with_reducible exact NT_inr | with_reducible exact NT_inl p1 | with_reducible exact NT_inl p2 | with_reducible refine NT_ite ?_ ?_ | with_reducible refine NT_elim (nt_needWhat p1) (fun _ _ => ?_) | with_reducible exact (nt_needWhat p1) | with_reducible refine NT_elim (nt_needSteps p2) (fun _ _ => ?_) | with_reducible exact (nt_needSteps p2) | with_reducible refine NT_elim nt_sides_b31 (fun _ _ => ?_) | with_reducible exact nt_sides_b31 | with_reducible refine NT_bind (fun _ => ?_) | with_reducible refine NT_sum (fun _ => ?_) (fun _ => ?_))
theorem nt_facing_b22 {N : Nat} {v0 : Nat} {v1 : Int32} {v3 : Int32} {v4 : Int32} {h : AH}  : NT P (f_X6_facing_b22 N v0 v1 v3 v4 h) := by
  unfold f_X6_facing_b22
  repeat' (first | with_reducible exact NT_inr | with_reducible refine NT_ite ?_ ?_ | with_reducible refine NT_bind (fun _ => ?_) | with_reducible refine NT_sum (fun _ => ?_) (fun _ => ?_))
theorem nt_facing {N : Nat} {h : AH} {a0 : Nat} {a1 : Int32} {a2 : Int32} (p1 : P 1) (p2 : P 2) : NT P (f_X6_facing N h a0 a1 a2) := by
  unfold f_X6_facing
  repeat' (first | with_reducible exact NT_inr | with_reducible exact NT_inl p1 | with_reducible exact NT_inl p2 | with_reducible refine NT_ite ?_ ?_ | with_reducible refine NT_elim (nt_needSide p1) (fun _ _ => ?_) | with_reducible exact (nt_needSide p1) | with_reducible refine NT_elim (nt_needSteps p2) (fun _ _ => ?_) | with_reducible exact (nt_needSteps p2) | with_reducible refine NT_elim nt_facing_b22 (fun _ _ => ?_) | with_reducible exact nt_facing_b22 | with_reducible refine NT_bind (fun _ => ?_) | with_reducible refine NT_sum (fun _ => ?_) (fun _ => ?_))
theorem nt_agree_b27 {N : Nat} {v0 : Nat} {v1 : Int32} {v2 : Int32} {v3 : Int32} {v4 : Int32} {v5 : Int32} {h : AH}  : NT P (f_X6_agree_b27 N v0 v1 v2 v3 v4 v5 h) := by
  unfold f_X6_agree_b27
  repeat' (first | with_reducible exact NT_inr | with_reducible refine NT_ite ?_ ?_ | with_reducible refine NT_bind (fun _ => ?_) | with_reducible refine NT_sum (fun _ => ?_) (fun _ => ?_))
theorem nt_agree {N : Nat} {h : AH} {a0 : Nat} {a1 : Int32} {a2 : Int32} {a3 : Int32} (p1 : P 1) (p2 : P 2) : NT P (f_X6_agree N h a0 a1 a2 a3) := by
  unfold f_X6_agree
  repeat' (first | with_reducible exact NT_inr | with_reducible exact NT_inl p1 | with_reducible exact NT_inl p2 | with_reducible refine NT_ite ?_ ?_ | with_reducible refine NT_elim (nt_needJudge p1) (fun _ _ => ?_) | with_reducible exact (nt_needJudge p1) | with_reducible refine NT_elim (nt_needSteps p2) (fun _ _ => ?_) | with_reducible exact (nt_needSteps p2) | with_reducible refine NT_elim nt_agree_b27 (fun _ _ => ?_) | with_reducible exact nt_agree_b27 | with_reducible refine NT_bind (fun _ => ?_) | with_reducible refine NT_sum (fun _ => ?_) (fun _ => ?_))
theorem nt_see_b42 {N : Nat} {v0 : Nat} {h : AH}  : NT P (f_X6_see_b42 N v0 h) := by
  unfold f_X6_see_b42
  repeat' (first | with_reducible exact NT_inr | with_reducible refine NT_ite ?_ ?_ | with_reducible refine NT_bind (fun _ => ?_) | with_reducible refine NT_sum (fun _ => ?_) (fun _ => ?_))
theorem nt_see {N : Nat} {h : AH} {a0 : Nat} {a1 : Int32} {a2 : Int32} {a3 : Int32} (p1 : P 1) : NT P (f_X6_see N h a0 a1 a2 a3) := by
  unfold f_X6_see
  repeat' (first | with_reducible exact NT_inr | with_reducible exact NT_inl p1 | with_reducible refine NT_ite ?_ ?_ | with_reducible refine NT_elim (nt_needJudge p1) (fun _ _ => ?_) | with_reducible exact (nt_needJudge p1) | with_reducible refine NT_elim nt_see_b42 (fun _ _ => ?_) | with_reducible exact nt_see_b42 | with_reducible refine NT_bind (fun _ => ?_) | with_reducible refine NT_sum (fun _ => ?_) (fun _ => ?_))
theorem nt_leans_b31 {N : Nat} {v0 : Nat} {v1 : Int32} {v2 : Int32} {v3 : Int32} {h : AH}  : NT P (f_X6_leans_b31 N v0 v1 v2 v3 h) := by
  unfold f_X6_leans_b31
  repeat' (first | with_reducible exact NT_inr | with_reducible refine NT_ite ?_ ?_ | with_reducible refine NT_bind (fun _ => ?_) | with_reducible refine NT_sum (fun _ => ?_) (fun _ => ?_))
theorem nt_leans {N : Nat} {h : AH} {a0 : Nat} {a1 : Int32} (p1 : P 1) : NT P (f_X6_leans N h a0 a1) := by
  unfold f_X6_leans
  repeat' (first | with_reducible exact NT_inr | with_reducible exact NT_inl p1 | with_reducible refine NT_ite ?_ ?_ | with_reducible refine NT_elim (nt_needWhat p1) (fun _ _ => ?_) | with_reducible exact (nt_needWhat p1) | with_reducible refine NT_elim nt_leans_b31 (fun _ _ => ?_) | with_reducible exact nt_leans_b31 | with_reducible refine NT_bind (fun _ => ?_) | with_reducible refine NT_sum (fun _ => ?_) (fun _ => ?_))
theorem nt_watch_b62 {N : Nat} {v0 : Nat} {v1 : Int32} {v2 : Int32} {v3 : Int32} {v4 : Int32} {h : AH}  : NT P (f_X6_watch_b62 N v0 v1 v2 v3 v4 h) := by
  unfold f_X6_watch_b62
  repeat' (first | with_reducible exact NT_inr | with_reducible refine NT_ite ?_ ?_ | with_reducible refine NT_bind (fun _ => ?_) | with_reducible refine NT_sum (fun _ => ?_) (fun _ => ?_))
theorem nt_watch_b15 {N : Nat} {v0 : Nat} {v1 : Int32} {v2 : Int32} {h : AH}  : NT P (f_X6_watch_b15 N v0 v1 v2 h) := by
  unfold f_X6_watch_b15
  repeat' (first | with_reducible exact NT_inr | with_reducible refine NT_ite ?_ ?_ | with_reducible refine NT_elim nt_watch_b62 (fun _ _ => ?_) | with_reducible exact nt_watch_b62 | with_reducible refine NT_bind (fun _ => ?_) | with_reducible refine NT_sum (fun _ => ?_) (fun _ => ?_))
theorem nt_watch {N : Nat} {h : AH} {a0 : Nat} {a1 : Int32} (p1 : P 1) : NT P (f_X6_watch N h a0 a1) := by
  unfold f_X6_watch
  repeat' (first | with_reducible exact NT_inr | with_reducible exact NT_inl p1 | with_reducible refine NT_ite ?_ ?_ | with_reducible refine NT_elim (nt_needWhat p1) (fun _ _ => ?_) | with_reducible exact (nt_needWhat p1) | with_reducible refine NT_elim nt_watch_b15 (fun _ _ => ?_) | with_reducible exact nt_watch_b15 | with_reducible refine NT_bind (fun _ => ?_) | with_reducible refine NT_sum (fun _ => ?_) (fun _ => ?_))
theorem nt_floods_b21 {N : Nat}  {h : AH} (p2 : P 2) : NT P (f_X6_floods_b21 N h) := by
  unfold f_X6_floods_b21
  repeat' (first | with_reducible exact NT_inr | with_reducible exact NT_inl p2 | with_reducible refine NT_ite ?_ ?_ | with_reducible refine NT_bind (fun _ => ?_) | with_reducible refine NT_sum (fun _ => ?_) (fun _ => ?_))
theorem nt_floods_b38 {N : Nat} {v0 : Nat} {v1 : Int32} {v2 : Int32} {v3 : Int32} {v4 : Int32} {v5 : Int32} {h : AH}  : NT P (f_X6_floods_b38 N v0 v1 v2 v3 v4 v5 h) := by
  unfold f_X6_floods_b38
  repeat' (first | with_reducible exact NT_inr | with_reducible refine NT_ite ?_ ?_ | with_reducible refine NT_bind (fun _ => ?_) | with_reducible refine NT_sum (fun _ => ?_) (fun _ => ?_))
theorem nt_floods {N : Nat} {h : AH} {a0 : Nat} {a1 : Int32} {a2 : Int32} {a3 : Int32} (p1 : P 1) (p2 : P 2) : NT P (f_X6_floods N h a0 a1 a2 a3) := by
  unfold f_X6_floods
  repeat' (first | with_reducible exact NT_inr | with_reducible exact NT_inl p1 | with_reducible exact NT_inl p2 | with_reducible refine NT_ite ?_ ?_ | with_reducible refine NT_elim (nt_needJudge p1) (fun _ _ => ?_) | with_reducible exact (nt_needJudge p1) | with_reducible refine NT_elim (nt_needSteps p2) (fun _ _ => ?_) | with_reducible exact (nt_needSteps p2) | with_reducible refine NT_elim (nt_floods_b21 p2) (fun _ _ => ?_) | with_reducible exact (nt_floods_b21 p2) | with_reducible refine NT_elim nt_floods_b38 (fun _ _ => ?_) | with_reducible exact nt_floods_b38 | with_reducible refine NT_bind (fun _ => ?_) | with_reducible refine NT_sum (fun _ => ?_) (fun _ => ?_))
theorem nt_game_b115 {N : Nat} {v0 : Nat} {v3 : Int32} {v4 : Int32} {v5 : Int32} {v6 : Int32} {v7 : Int32} {h : AH}  : NT P (f_X6_game_b115 N v0 v3 v4 v5 v6 v7 h) := by
  unfold f_X6_game_b115
  repeat' (first | with_reducible exact NT_inr | with_reducible refine NT_ite ?_ ?_ | with_reducible refine NT_bind (fun _ => ?_) | with_reducible refine NT_sum (fun _ => ?_) (fun _ => ?_))
theorem nt_game_b83 {N : Nat} {v0 : Nat} {v1 : Int32} {v2 : Int32} {v3 : Int32} {v4 : Int32} {v5 : Int32} {h : AH}  : NT P (f_X6_game_b83 N v0 v1 v2 v3 v4 v5 h) := by
  unfold f_X6_game_b83
  repeat' (first | with_reducible exact NT_inr | with_reducible refine NT_ite ?_ ?_ | with_reducible refine NT_elim nt_game_b115 (fun _ _ => ?_) | with_reducible exact nt_game_b115 | with_reducible refine NT_bind (fun _ => ?_) | with_reducible refine NT_sum (fun _ => ?_) (fun _ => ?_))
theorem nt_game_b80 {N : Nat} {v0 : Nat} {v1 : Int32} {v2 : Int32} {v3 : Int32} {v4 : Int32} {h : AH}  : NT P (f_X6_game_b80 N v0 v1 v2 v3 v4 h) := by
  unfold f_X6_game_b80
  repeat' (first | with_reducible exact NT_inr | with_reducible refine NT_ite ?_ ?_ | with_reducible refine NT_elim nt_game_b83 (fun _ _ => ?_) | with_reducible exact nt_game_b83 | with_reducible refine NT_bind (fun _ => ?_) | with_reducible refine NT_sum (fun _ => ?_) (fun _ => ?_))
theorem nt_game_b57 {N : Nat} {v0 : Nat} {v1 : Int32} {v2 : Int32} {v3 : Int32} {v4 : Int32} {h : AH}  : NT P (f_X6_game_b57 N v0 v1 v2 v3 v4 h) := by
  unfold f_X6_game_b57
  repeat' (first | with_reducible exact NT_inr | with_reducible refine NT_ite ?_ ?_ | with_reducible refine NT_elim nt_game_b80 (fun _ _ => ?_) | with_reducible exact nt_game_b80 | with_reducible refine NT_bind (fun _ => ?_) | with_reducible refine NT_sum (fun _ => ?_) (fun _ => ?_))
theorem nt_game {N : Nat} {h : AH} {a0 : Nat} {a1 : Int32} {a2 : Int32} {a3 : Int32} (p1 : P 1) (p2 : P 2) : NT P (f_X6_game N h a0 a1 a2 a3) := by
  unfold f_X6_game
  repeat' (first | with_reducible exact NT_inr | with_reducible exact NT_inl p1 | with_reducible exact NT_inl p2 | with_reducible refine NT_ite ?_ ?_ | with_reducible refine NT_elim (nt_needJudge p1) (fun _ _ => ?_) | with_reducible exact (nt_needJudge p1) | with_reducible refine NT_elim (nt_needWhat p1) (fun _ _ => ?_) | with_reducible exact (nt_needWhat p1) | with_reducible refine NT_elim nt_game_b57 (fun _ _ => ?_) | with_reducible exact nt_game_b57 | with_reducible refine NT_bind (fun _ => ?_) | with_reducible refine NT_sum (fun _ => ?_) (fun _ => ?_))
theorem nt_years_b22 {N : Nat} {v0 : Nat} {v2 : Int32} {v3 : Int32} {v4 : Int32} {v5 : Int32} {h : AH}  : NT P (f_X6_years_b22 N v0 v2 v3 v4 v5 h) := by
  unfold f_X6_years_b22
  repeat' (first | with_reducible exact NT_inr | with_reducible refine NT_ite ?_ ?_ | with_reducible refine NT_bind (fun _ => ?_) | with_reducible refine NT_sum (fun _ => ?_) (fun _ => ?_))
theorem nt_years {N : Nat} {h : AH} {a0 : Nat} {a1 : Int32} {a2 : Int32} {a3 : Int32} (p1 : P 1) (p2 : P 2) : NT P (f_X6_years N h a0 a1 a2 a3) := by
  unfold f_X6_years
  repeat' (first | with_reducible exact NT_inr | with_reducible exact NT_inl p1 | with_reducible exact NT_inl p2 | with_reducible refine NT_ite ?_ ?_ | with_reducible refine NT_elim (nt_needWhat p1) (fun _ _ => ?_) | with_reducible exact (nt_needWhat p1) | with_reducible refine NT_elim (nt_needSteps p2) (fun _ _ => ?_) | with_reducible exact (nt_needSteps p2) | with_reducible refine NT_elim nt_years_b22 (fun _ _ => ?_) | with_reducible exact nt_years_b22 | with_reducible refine NT_bind (fun _ => ?_) | with_reducible refine NT_sum (fun _ => ?_) (fun _ => ?_))
end S89
