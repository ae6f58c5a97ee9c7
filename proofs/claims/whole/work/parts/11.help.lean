/-! helpers of the printed walks -/
def jDec (code : ByteArray) (L : List (Nat × Instr × Nat)) : Prop := ∀ q ∈ L, decode code q.1 = .ok (q.2.1, q.2.2)
theorem jd {code : ByteArray} {L : List (Nat × Instr × Nat)} (h : jDec code L) (k : Nat) {pc : Nat} {i : Instr} {n : Nat} (hk : L[k]? = some (pc, i, n)) : decode code pc = .ok (i, n) := h (pc, i, n) (List.mem_of_getElem? hk)
theorem jif_t {α : Type} {c : Prop} [Decidable c] {a b : Option α} {r : α} (h : c) (hf : (if c then a else b) = some r) : a = some r := by rw [if_pos h] at hf; exact hf
theorem jif_f {α : Type} {c : Prop} [Decidable c] {a b : Option α} {r : α} (h : ¬ c) (hf : (if c then a else b) = some r) : b = some r := by rw [if_neg h] at hf; exact hf
theorem jnz {α : Type} {c : Prop} [Decidable c] {b : Option α} {r : α} (hf : (if c then none else b) = some r) : ¬ c ∧ b = some r := by
  by_cases h : c
  · rw [if_pos h] at hf; cases hf
  · rw [if_neg h] at hf; exact ⟨h, hf⟩
theorem jnw {α : Type} {c : Prop} [Decidable c] {b : Option α} {r : α} (hf : (if c then b else none) = some r) : c ∧ b = some r := by
  by_cases h : c
  · rw [if_pos h] at hf; exact ⟨h, hf⟩
  · rw [if_neg h] at hf; cases hf
theorem jloop {σ ρ : Type} {body : σ → Option (σ ⊕ ρ)} {P : σ → Prop} {Ex : ρ → Prop} (step : ∀ s q, body s = some q → (∀ s', q = .inl s' → P s') → (∀ e, q = .inr e → Ex e) → P s) : ∀ (n : Nat) (s : σ) (r : ρ), itr body n s = some r → Ex r → P s := by
  intro n
  induction n with
  | zero => intro s r h _; cases h
  | succ n ih =>
    intro s r h hE
    unfold itr at h
    split at h
    · cases h
    · rename_i s' hb
      refine step s _ hb (fun s2 hs => ?_) (fun e he => by cases he)
      cases hs
      exact ih s' r h hE
    · rename_i r' hb
      cases h
      refine step s _ hb (fun s2 hs => by cases hs) (fun e he => ?_)
      cases he
      exact hE
def jpi (r : Int32 × AH) : Option Value → AH → Prop := fun a b => a = some (.int r.1) ∧ b = r.2
def jpa (r : Nat × AH) : Option Value → AH → Prop := fun a b => a = some (.ref r.1) ∧ b = r.2
def jpv (r : AH) : Option Value → AH → Prop := fun a b => a = none ∧ b = r
def jexc (k : Nat) : String := if k = 1 then "java/util/NoSuchElementException" else "java/lang/IllegalArgumentException"
def jpXi (r : (Nat ⊕ Int32) × AH) : Option Value → AH → Prop := fun a b => ∃ v, r.1 = .inr v ∧ a = some (.int v) ∧ b = r.2
def jpXv (r : (Nat ⊕ Unit) × AH) : Option Value → AH → Prop := fun a b => r.1 = .inr () ∧ a = none ∧ b = r.2
def jpXx {α : Type} (r : (Nat ⊕ α) × AH) : String → AH → Prop := fun E b => ∃ k, r.1 = .inl k ∧ E = jexc k ∧ b = r.2
section JP
variable {G : JG} {X : JX} {Y : JY}
theorem jE_g (E : jE G X Y) : jG G := by obtain ⟨p, l, e, R, s, m, args, below, meth, c⟩ := X; exact E.2.2.2.2.2.2.1
theorem jE_tr (E : jE G X Y) : X.2.1.stackTraces = false := by obtain ⟨p, l, e, R, s, m, args, below, meth, c⟩ := X; exact E.2.2.2.2.2.2.2.2.2.2.2.1
theorem jR_le {d dc mc ms maxL : Nat} (hX : X.2.2.2.1 = jRm d mc ms) (h : dc + 1 ≤ d) (hl : maxL ≤ 41) : 10 * dc + 21 ≤ X.2.2.2.1.frames ∧ 60 * dc + 219 + maxL ≤ X.2.2.2.1.locals := by
  rw [hX]
  exact ⟨by show 10 * dc + 21 ≤ 10 * d + 20; omega, by show 60 * dc + 219 + maxL ≤ 60 * d + 200; omega⟩
theorem jF0 {d mc ms : Nat} (hX : X.2.2.2.1 = jRm d mc ms) : 0 + 0 ≤ X.2.2.2.1.cells ∧ 0 + 0 ≤ X.2.2.2.1.slots := ⟨Nat.zero_le _, Nat.zero_le _⟩
theorem jFx {d mc ms a b c e : Nat} (hX : X.2.2.2.1 = jRm d mc ms) (h1 : a + b ≤ mc) (h2 : c + e ≤ ms) : a + b ≤ X.2.2.2.1.cells ∧ c + e ≤ X.2.2.2.1.slots := by
  rw [hX]
  exact ⟨h1, h2⟩
theorem jRc {d mc ms a c : Nat} (hX : X.2.2.2.1 = jRm d mc ms) (h1 : a + 1 ≤ mc) (h2 : c + 6 ≤ ms) : a + 1 ≤ X.2.2.2.1.cells ∧ c + 6 ≤ X.2.2.2.1.slots := jFx hX h1 h2
theorem J_putz {h h' : AH} {lv : List (Nat × Value)} {st : List Value} {pc cells slots : Nat} {Q : State → Prop} (E : jE G X Y) {i ci k a : Nat} {v : Int32} (hd : decode Y.2.1 pc = .ok (.putfield i, 3)) (F : jFld Y.1 i ci k .boolean false) (hv : jwz ci h a k v = some h') (kk : JW G X Y h' lv st (pc + 3) cells slots Q) : JW G X Y h lv (.int v :: .ref a :: st) pc cells slots Q := by
  unfold jwz at hv
  obtain ⟨hz, hv⟩ := jnw hv
  refine J_put E hd F hv ?_ ?_ kk
  · rcases hz with rfl | rfl <;> exact fun _ => rfl
  · rcases hz with rfl | rfl <;> exact fun _ => rfl
end JP
theorem jsw0 {x : Int32} (lo : Int) : x.toInt < lo ∨ lo - 1 < x.toInt := by omega
theorem jsw {x v : Int32} {lo hi : Int} (h : x.toInt < lo ∨ hi < x.toInt) (hv : v.toInt = hi + 1) (hne : ¬ x = v) : x.toInt < lo ∨ hi + 1 < x.toInt := by
  rcases h with h | h
  · exact Or.inl h
  · refine Or.inr ?_
    have : x.toInt ≠ v.toInt := fun e => hne (Int32.toInt_inj.mp e)
    omega
