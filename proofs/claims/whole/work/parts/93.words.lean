/-! the start: the reference's rows of words -/
def KQ (Q : AH → Prop) (y : Option AH) : Prop := ∀ r, y = some r → Q r
def FT (m : Nat) (s : List AC) (h : AH) : Prop := h.length = m ∧ ∀ (j : Nat) x, s[j]? = some x → h[72 + j]? = some x
abbrev sC (n : Nat) (f : Nat → Option Nat) : AC := .inl (4, n, .inr (.inr (.inr (.inr f))))
section S93
variable {Q : AH → Prop} {m : Nat} {s : List AC} {h : AH}
theorem R_jmkS {c : AC} {F : Nat × AH → Option AH} (k : FT m s h) (hm : m = 72 + s.length) (hk : ∀ h', FT (m + 1) (s ++ [c]) h' → KQ Q (F (m, h'))) : KQ Q ((jmk c h).bind F) := by
  intro r e
  have e' : F (h.length, h ++ [c]) = some r := e
  rw [k.1] at e'
  refine hk _ ⟨by rw [List.length_append, k.1]; rfl, fun j x hj => ?_⟩ r e'
  rw [List.getElem?_append] at hj
  split at hj
  · have := k.2 j x hj
    rw [List.getElem?_append_left (List.getElem?_eq_some_iff.mp this).1]
    exact this
  · rename_i hn
    have hz : j - s.length = 0 := by
      rcases Nat.eq_zero_or_pos (j - s.length) with z | z
      · exact z
      · rw [List.getElem?_eq_none_iff.mpr (by simp only [List.length_cons, List.length_nil]; omega)] at hj
        cases hj
    rw [hz, List.getElem?_cons_zero] at hj
    rw [show 72 + j = h.length by rw [k.1]; omega, List.getElem?_append_right (Nat.le_refl _), Nat.sub_self, List.getElem?_cons_zero]
    exact hj
theorem R_jmk {c : AC} {F : Nat × AH → Option AH} (k : FT m s h) (hk : ∀ h', FT (m + 1) s h' → KQ Q (F (m, h'))) : KQ Q ((jmk c h).bind F) := by
  intro r e
  have e' : F (h.length, h ++ [c]) = some r := e
  rw [k.1] at e'
  refine hk _ ⟨by rw [List.length_append, k.1]; rfl, fun j x hj => ?_⟩ r e'
  have := k.2 j x hj
  rw [List.getElem?_append_left (List.getElem?_eq_some_iff.mp this).1]
  exact this
theorem R_jpf {ci a' : Nat} {v : Value} {F : AH → Option AH} (k : FT m s h) (hk : ∀ h', FT m s h' → KQ Q (F h')) : KQ Q ((jpf ci h 71 a' v).bind F) := by
  intro r e
  obtain ⟨h', e1, e2⟩ := jbind e
  obtain ⟨fs, -, -, e3⟩ := jpf_inv e1
  refine hk h' ⟨by rw [e3, List.length_set]; exact k.1, fun j x hj => ?_⟩ r e2
  rw [e3, List.getElem?_set_ne (by omega)]
  exact k.2 j x hj
theorem R_jrs {a n v : Nat} {i : Int32} {f : Nat → Option Nat} {F : AH → Option AH} (k : FT m (s ++ [sC n f]) h) (ha : a = 72 + s.length) (hk : ∀ h', FT m (s ++ [sC n (va_up f i.toNatClampNeg (some v))]) h' → KQ Q (F h')) : KQ Q ((jrs h a i v).bind F) := by
  intro r e
  obtain ⟨h', e1, e2⟩ := jbind e
  obtain ⟨n', f', e3, -, e4⟩ := jrs_inv e1
  have e5 := k.2 s.length (sC n f) (by rw [List.getElem?_append_right (Nat.le_refl _), Nat.sub_self, List.getElem?_cons_zero])
  rw [ha, e5] at e3
  have e6 : n = n' ∧ f = f' := by
    simp only [Option.some.injEq, Sum.inl.injEq, Prod.mk.injEq, Sum.inr.injEq, true_and] at e3
    exact e3
  refine hk h' ⟨by rw [e4, List.length_set]; exact k.1, fun j x hj => ?_⟩ r e2
  rw [e4, ← e6.1, ← e6.2, ha]
  by_cases z : j = s.length
  · rw [z, List.getElem?_append_right (Nat.le_refl _), Nat.sub_self, List.getElem?_cons_zero] at hj
    rw [z, List.getElem?_set_self (List.getElem?_eq_some_iff.mp e5).1]
    exact hj
  · rw [List.getElem?_set_ne (by omega)]
    refine k.2 j x ?_
    rw [List.getElem?_append] at hj ⊢
    split at hj
    · rename_i hn; rw [if_pos hn]; exact hj
    · rename_i hn
      rw [List.getElem?_eq_none_iff.mpr (by simp only [List.length_cons, List.length_nil]; omega)] at hj
      cases hj
theorem R_jas {a : Nat} {i v : Int32} {F : AH → Option AH} (k : FT m s h) (hs : ∀ (j : Nat) x, s[j]? = some x → ∃ n f, x = sC n f) (hk : ∀ h', FT m s h' → KQ Q (F h')) : KQ Q ((jas 0 h a i v).bind F) := by
  intro r e
  obtain ⟨h', e1, e2⟩ := jbind e
  obtain ⟨n', f', e3, -, e4⟩ := jas_inv e1
  refine hk h' ⟨by rw [e4, List.length_set]; exact k.1, fun j x hj => ?_⟩ r e2
  have u := k.2 j x hj
  obtain ⟨n, f, e5⟩ := hs j x hj
  rw [e4, List.getElem?_set_ne (fun z => ?_)]
  · exact u
  · rw [z, u, e5] at e3
    simp only [Option.some.injEq, Sum.inl.injEq, Prod.mk.injEq, reduceCtorEq, and_false] at e3
theorem R_jgr {ci a b : Nat} {F : Nat → Option AH} (hk : ∀ x, KQ Q (F x)) : KQ Q ((jgr ci h a b).bind F) := by
  intro r e
  obtain ⟨x, _, e2⟩ := jbind e
  exact hk x r e2
theorem R_end (h1 : Q h) : KQ Q (some h) := fun r e => by
  have := Option.some.inj e
  rw [← this]; exact h1
set_option maxHeartbeats 4000000 in
theorem strs {N : Nat} (hl : h.length = 72) : KQ (FT 111 [sC 2 (strA [1000024, 1000025]), sC 6 (strA [1000026, 1000027, 1000028, 1000029, 1000030, 1000031]), sC 6 (strA [1000026, 1000027, 1000028, 1000029, 1000030, 1000032])]) (f_X7_init N h 71) := by
  have k : FT 72 [] h := ⟨hl, fun j x hj => by cases hj⟩
  unfold f_X7_init
  refine R_jmkS k rfl (fun h k => ?_)
  dsimp only
  refine R_jrs k rfl (fun h k => ?_)
  refine R_jrs k rfl (fun h k => ?_)
  refine R_jpf k (fun h k => ?_)
  refine R_jmkS k rfl (fun h k => ?_)
  dsimp only
  refine R_jrs k rfl (fun h k => ?_)
  refine R_jrs k rfl (fun h k => ?_)
  refine R_jrs k rfl (fun h k => ?_)
  refine R_jrs k rfl (fun h k => ?_)
  refine R_jrs k rfl (fun h k => ?_)
  refine R_jrs k rfl (fun h k => ?_)
  refine R_jpf k (fun h k => ?_)
  refine R_jmkS k rfl (fun h k => ?_)
  dsimp only
  refine R_jrs k rfl (fun h k => ?_)
  refine R_jrs k rfl (fun h k => ?_)
  refine R_jrs k rfl (fun h k => ?_)
  refine R_jrs k rfl (fun h k => ?_)
  refine R_jrs k rfl (fun h k => ?_)
  refine R_jrs k rfl (fun h k => ?_)
  refine R_jpf k (fun h k => ?_)
  refine R_jgr (fun _ => ?_)
  refine R_jpf k (fun h k => ?_)
  refine R_jmk k (fun h k => ?_)
  dsimp only
  refine R_jpf k (fun h k => ?_)
  refine R_jmk k (fun h k => ?_)
  dsimp only
  refine R_jpf k (fun h k => ?_)
  refine R_jmk k (fun h k => ?_)
  dsimp only
  refine R_jpf k (fun h k => ?_)
  refine R_jmk k (fun h k => ?_)
  dsimp only
  refine R_jpf k (fun h k => ?_)
  refine R_jmk k (fun h k => ?_)
  dsimp only
  refine R_jpf k (fun h k => ?_)
  refine R_jmk k (fun h k => ?_)
  dsimp only
  refine R_jpf k (fun h k => ?_)
  refine R_jmk k (fun h k => ?_)
  dsimp only
  refine R_jpf k (fun h k => ?_)
  refine R_jmk k (fun h k => ?_)
  dsimp only
  refine R_jpf k (fun h k => ?_)
  refine R_jmk k (fun h k => ?_)
  dsimp only
  refine R_jpf k (fun h k => ?_)
  refine R_jmk k (fun h k => ?_)
  dsimp only
  refine R_jpf k (fun h k => ?_)
  refine R_jmk k (fun h k => ?_)
  dsimp only
  refine R_jpf k (fun h k => ?_)
  refine R_jmk k (fun h k => ?_)
  dsimp only
  refine R_jpf k (fun h k => ?_)
  refine R_jpf k (fun h k => ?_)
  refine R_jmk k (fun h k => ?_)
  dsimp only
  refine R_jpf k (fun h k => ?_)
  refine R_jmk k (fun h k => ?_)
  dsimp only
  refine R_jpf k (fun h k => ?_)
  refine R_jmk k (fun h k => ?_)
  dsimp only
  refine R_jpf k (fun h k => ?_)
  refine R_jmk k (fun h k => ?_)
  dsimp only
  refine R_jpf k (fun h k => ?_)
  refine R_jmk k (fun h k => ?_)
  dsimp only
  refine R_jpf k (fun h k => ?_)
  refine R_jmk k (fun h k => ?_)
  dsimp only
  refine R_jpf k (fun h k => ?_)
  refine R_jmk k (fun h k => ?_)
  dsimp only
  refine R_jpf k (fun h k => ?_)
  refine R_jmk k (fun h k => ?_)
  dsimp only
  refine R_jpf k (fun h k => ?_)
  refine R_jmk k (fun h k => ?_)
  dsimp only
  refine R_jpf k (fun h k => ?_)
  refine R_jmk k (fun h k => ?_)
  dsimp only
  refine R_jpf k (fun h k => ?_)
  refine R_jmk k (fun h k => ?_)
  dsimp only
  refine R_jpf k (fun h k => ?_)
  refine R_jmk k (fun h k => ?_)
  dsimp only
  refine R_jpf k (fun h k => ?_)
  refine R_jmk k (fun h k => ?_)
  dsimp only
  refine R_jpf k (fun h k => ?_)
  refine R_jmk k (fun h k => ?_)
  dsimp only
  refine R_jpf k (fun h k => ?_)
  refine R_jmk k (fun h k => ?_)
  dsimp only
  refine R_jpf k (fun h k => ?_)
  refine R_jmk k (fun h k => ?_)
  dsimp only
  refine R_jpf k (fun h k => ?_)
  refine R_jmk k (fun h k => ?_)
  dsimp only
  refine R_jpf k (fun h k => ?_)
  refine R_jmk k (fun h k => ?_)
  dsimp only
  refine R_jpf k (fun h k => ?_)
  refine R_jmk k (fun h k => ?_)
  dsimp only
  refine R_jpf k (fun h k => ?_)
  refine R_jmk k (fun h k => ?_)
  dsimp only
  refine R_jpf k (fun h k => ?_)
  refine R_jmk k (fun h k => ?_)
  dsimp only
  refine R_jpf k (fun h k => ?_)
  refine R_jmk k (fun h k => ?_)
  dsimp only
  refine R_jpf k (fun h k => ?_)
  refine R_jmk k (fun h k => ?_)
  dsimp only
  refine R_jpf k (fun h k => ?_)
  refine R_jmk k (fun h k => ?_)
  dsimp only
  refine R_jpf k (fun h k => ?_)
  refine R_jgr (fun _ => ?_)
  refine R_jas k (fun j x hj => ?_) (fun h k => ?_)
  · rcases j with _ | _ | _ | j
    · exact ⟨_, _, (Option.some.inj hj).symm⟩
    · exact ⟨_, _, (Option.some.inj hj).symm⟩
    · exact ⟨_, _, (Option.some.inj hj).symm⟩
    · cases hj
  exact R_end k
end S93
