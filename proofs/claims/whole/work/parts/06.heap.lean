/-! THE ABSTRACT HEAP: a list of cells; a reference is a place in the list, or (from 1000000 on) a String constant. -/
abbrev AC : Type := (Nat × vp_A) ⊕ (Nat × List Value)
abbrev AH : Type := List AC
def jv (σ : Nat → Nat) (v : Value) : Value := match v with
  | .ref k => .ref (σ k)
  | v => v
def ja (σ : Nat → Nat) (a : vp_A) : vp_A := match a with
  | (n, .inr (.inr (.inr (.inr f)))) => (n, .inr (.inr (.inr (.inr (fun j => (f j).map σ)))))
  | a => a
def je (σ : Nat → Nat) (aC : Nat → ClassId) (x : AC) : va_E := match x with
  | .inl (k, a) => .inl (aC k, ja σ a)
  | .inr (c, fs) => .inr (c, fs.map (jv σ))
def jw (σ : Nat → Nat) (aC : Nat → ClassId) (h : AH) : va_W := h.mapIdx (fun k x => (σ k, je σ aC x))
theorem jw_get {σ : Nat → Nat} {aC : Nat → ClassId} {h : AH} {k : Nat} {x : AC} (e : h[k]? = some x) : (jw σ aC h)[k]? = some (σ k, je σ aC x) := by
  simp [jw, e]
theorem jw_len {σ : Nat → Nat} {aC : Nat → ClassId} {h : AH} : (jw σ aC h).length = h.length := by simp [jw]
theorem jw_inv {σ : Nat → Nat} {aC : Nat → ClassId} {h : AH} {k : Nat} {q : Nat × va_E} (e : (jw σ aC h)[k]? = some q) : ∃ x, h[k]? = some x ∧ q = (σ k, je σ aC x) := by
  simp only [jw, List.getElem?_mapIdx, Option.map_eq_some_iff] at e
  obtain ⟨x, h1, h2⟩ := e
  exact ⟨x, h1, h2.symm⟩
theorem jw_set {σ : Nat → Nat} {aC : Nat → ClassId} {h : AH} {k : Nat} {x : AC} : (jw σ aC h).set k (σ k, je σ aC x) = jw σ aC (h.set k x) := by
  apply List.ext_getElem?
  intro i
  simp only [jw, List.getElem?_set, List.getElem?_mapIdx, List.length_mapIdx]
  by_cases hi : k = i
  · subst hi
    by_cases hl : k < h.length <;> simp [hl]
  · simp [hi]
theorem jw_push {σ : Nat → Nat} {aC : Nat → ClassId} {h : AH} {x : AC} : jw σ aC h ++ [(σ h.length, je σ aC x)] = jw σ aC (h ++ [x]) := by
  simp [jw, List.mapIdx_append]
theorem jw_D {σ : Nat → Nat} {aC : Nat → ClassId} {h : AH} {b : Nat} (hσ : ∀ k, k < 1000000 → σ k = b + k) (hl : h.length ≤ 1000000) : va_D (fun q => b ≤ q) (jw σ aC h) := by
  have lt : ∀ {i : Nat} {x : AC}, h[i]? = some x → i < 1000000 := fun e => Nat.lt_of_lt_of_le (List.getElem?_eq_some_iff.mp e).1 hl
  refine ⟨fun i j p q hi hj hpq => ?_, fun k q hk => ?_⟩
  · obtain ⟨x, h1, rfl⟩ := jw_inv hi
    obtain ⟨y, h2, rfl⟩ := jw_inv hj
    have h3 : σ i = σ j := hpq
    rw [hσ i (lt h1), hσ j (lt h2)] at h3
    omega
  · obtain ⟨x, h1, rfl⟩ := jw_inv hk
    show b ≤ σ k
    rw [hσ k (lt h1)]
    omega
/-! reads and writes of the abstract heap; 'none' where the machine itself would throw -/
def jgi (ci : Nat) (h : AH) (a k : Nat) : Option Int32 := match h[a]? with
  | some (.inr (c, fs)) => if c = ci then (match fs[k]? with | some (.int x) => some x | _ => none) else none
  | _ => none
def jgr (ci : Nat) (h : AH) (a k : Nat) : Option Nat := match h[a]? with
  | some (.inr (c, fs)) => if c = ci then (match fs[k]? with | some (.ref x) => some x | _ => none) else none
  | _ => none
def jpf (ci : Nat) (h : AH) (a k : Nat) (v : Value) : Option AH := match h[a]? with
  | some (.inr (c, fs)) => if c = ci ∧ k < fs.length then some (h.set a (.inr (c, fs.set k v))) else none
  | _ => none
abbrev jwi (ci : Nat) (h : AH) (a k : Nat) (v : Int32) : Option AH := jpf ci h a k (.int v)
abbrev jwr (ci : Nat) (h : AH) (a k : Nat) (v : Nat) : Option AH := jpf ci h a k (.ref v)
def jwz (ci : Nat) (h : AH) (a k : Nat) (v : Int32) : Option AH := if v = 0 ∨ v = 1 then jpf ci h a k (.int v) else none
def jln (ak : Nat) (h : AH) (a : Nat) : Option Int32 := match h[a]? with
  | some (.inl (c, n, _)) => if c = ak then some (nI n) else none
  | _ => none
def jal (ak : Nat) (h : AH) (a : Nat) (i : Int32) : Option Int32 := match h[a]? with
  | some (.inl (c, n, .inl f)) => if c = ak ∧ ¬ (i < 0 ∨ n ≤ i.toNatClampNeg) then some (f i.toNatClampNeg) else none
  | _ => none
def jas (ak : Nat) (h : AH) (a : Nat) (i v : Int32) : Option AH := match h[a]? with
  | some (.inl (c, n, .inl f)) => if c = ak ∧ ¬ (i < 0 ∨ n ≤ i.toNatClampNeg) then some (h.set a (.inl (c, n, .inl (upd f i.toNatClampNeg v)))) else none
  | _ => none
def jll (ak : Nat) (h : AH) (a : Nat) (i : Int32) : Option Int64 := match h[a]? with
  | some (.inl (c, n, .inr (.inl f))) => if c = ak ∧ ¬ (i < 0 ∨ n ≤ i.toNatClampNeg) then some (f i.toNatClampNeg) else none
  | _ => none
def jls (ak : Nat) (h : AH) (a : Nat) (i : Int32) (v : Int64) : Option AH := match h[a]? with
  | some (.inl (c, n, .inr (.inl f))) => if c = ak ∧ ¬ (i < 0 ∨ n ≤ i.toNatClampNeg) then some (h.set a (.inl (c, n, .inr (.inl (vp_updL f i.toNatClampNeg v))))) else none
  | _ => none
def jar (ak : Nat) (h : AH) (a : Nat) (i : Int32) : Option Nat := match h[a]? with
  | some (.inl (c, n, .inr (.inr (.inr (.inr f))))) => if c = ak ∧ ¬ (i < 0 ∨ n ≤ i.toNatClampNeg) then f i.toNatClampNeg else none
  | _ => none
/-- System.arraycopy over int arrays -/
def jcp (h : AH) (a : Nat) (sp : Int32) (d : Nat) (dp n : Int32) : Option AH := match h[a]?, h[d]? with
  | some (.inl (0, na, .inl f)), some (.inl (0, nd, .inl g)) =>
    if ¬ sp < 0 ∧ ¬ dp < 0 ∧ ¬ n < 0 ∧ sp.toNatClampNeg + n.toNatClampNeg ≤ na ∧ dp.toNatClampNeg + n.toNatClampNeg ≤ nd ∧ a ≠ d then some (h.set d (.inl (0, nd, .inl (va_cpy f g sp.toNatClampNeg dp.toNatClampNeg n.toNatClampNeg)))) else none
  | _, _ => none
theorem jgi_inv {ci : Nat} {h : AH} {a k : Nat} {x : Int32} (e : jgi ci h a k = some x) : ∃ fs, h[a]? = some (.inr (ci, fs)) ∧ fs[k]? = some (.int x) := by
  unfold jgi at e
  split at e
  · split at e
    · split at e
      · cases e; subst_vars; exact ⟨_, by assumption, by assumption⟩
      · cases e
    · cases e
  · cases e
theorem jgr_inv {ci : Nat} {h : AH} {a k x : Nat} (e : jgr ci h a k = some x) : ∃ fs, h[a]? = some (.inr (ci, fs)) ∧ fs[k]? = some (.ref x) := by
  unfold jgr at e
  split at e
  · split at e
    · split at e
      · cases e; subst_vars; exact ⟨_, by assumption, by assumption⟩
      · cases e
    · cases e
  · cases e
theorem jpf_inv {ci : Nat} {h h' : AH} {a k : Nat} {v : Value} (e : jpf ci h a k v = some h') : ∃ fs, h[a]? = some (.inr (ci, fs)) ∧ k < fs.length ∧ h' = h.set a (.inr (ci, fs.set k v)) := by
  unfold jpf at e
  split at e
  · split at e
    · rename_i hc
      obtain ⟨rfl, hk⟩ := hc
      cases e; exact ⟨_, by assumption, hk, rfl⟩
    · cases e
  · cases e
theorem jln_inv {ak : Nat} {h : AH} {a : Nat} {x : Int32} (e : jln ak h a = some x) : ∃ n f, h[a]? = some (.inl (ak, n, f)) ∧ x = nI n := by
  unfold jln at e
  split at e
  · split at e
    · subst_vars; cases e; exact ⟨_, _, by assumption, rfl⟩
    · cases e
  · cases e
/-- an object of a class -/
def jck (ci : Nat) (h : AH) (a : Nat) : Option Unit := match h[a]? with
  | some (.inr (c, _)) => if c = ci then some () else none
  | _ => none
theorem jck_inv {ci : Nat} {h : AH} {a : Nat} {u : Unit} (e : jck ci h a = some u) : ∃ fs, h[a]? = some (.inr (ci, fs)) := by
  unfold jck at e
  split at e
  · split at e
    · subst_vars; exact ⟨_, by assumption⟩
    · cases e
  · cases e
theorem jal_inv {ak : Nat} {h : AH} {a : Nat} {i x : Int32} (e : jal ak h a i = some x) : ∃ n f, h[a]? = some (.inl (ak, n, .inl f)) ∧ vp_in i n ∧ x = f i.toNatClampNeg := by
  unfold jal at e
  split at e
  · split at e
    · rename_i hc
      obtain ⟨rfl, hk⟩ := hc
      cases e; exact ⟨_, _, by assumption, hk, rfl⟩
    · cases e
  · cases e
theorem jas_inv {ak : Nat} {h h' : AH} {a : Nat} {i v : Int32} (e : jas ak h a i v = some h') : ∃ n f, h[a]? = some (.inl (ak, n, .inl f)) ∧ vp_in i n ∧ h' = h.set a (.inl (ak, n, .inl (upd f i.toNatClampNeg v))) := by
  unfold jas at e
  split at e
  · split at e
    · rename_i hc
      obtain ⟨rfl, hk⟩ := hc
      cases e; exact ⟨_, _, by assumption, hk, rfl⟩
    · cases e
  · cases e
theorem jll_inv {ak : Nat} {h : AH} {a : Nat} {i : Int32} {x : Int64} (e : jll ak h a i = some x) : ∃ n f, h[a]? = some (.inl (ak, n, .inr (.inl f))) ∧ vp_in i n ∧ x = f i.toNatClampNeg := by
  unfold jll at e
  split at e
  · split at e
    · rename_i hc
      obtain ⟨rfl, hk⟩ := hc
      cases e; exact ⟨_, _, by assumption, hk, rfl⟩
    · cases e
  · cases e
theorem jls_inv {ak : Nat} {h h' : AH} {a : Nat} {i : Int32} {v : Int64} (e : jls ak h a i v = some h') : ∃ n f, h[a]? = some (.inl (ak, n, .inr (.inl f))) ∧ vp_in i n ∧ h' = h.set a (.inl (ak, n, .inr (.inl (vp_updL f i.toNatClampNeg v)))) := by
  unfold jls at e
  split at e
  · split at e
    · rename_i hc
      obtain ⟨rfl, hk⟩ := hc
      cases e; exact ⟨_, _, by assumption, hk, rfl⟩
    · cases e
  · cases e
theorem jar_inv {ak : Nat} {h : AH} {a x : Nat} {i : Int32} (e : jar ak h a i = some x) : ∃ n f, h[a]? = some (.inl (ak, n, .inr (.inr (.inr (.inr f))))) ∧ vp_in i n ∧ f i.toNatClampNeg = some x := by
  unfold jar at e
  split at e
  · split at e
    · rename_i hc
      obtain ⟨rfl, hk⟩ := hc
      exact ⟨_, _, by assumption, hk, e⟩
    · cases e
  · cases e
theorem jcp_inv {h h' : AH} {a d : Nat} {sp dp n : Int32} (e : jcp h a sp d dp n = some h') : ∃ na f nd g, h[a]? = some (.inl (0, na, .inl f)) ∧ h[d]? = some (.inl (0, nd, .inl g)) ∧ (¬ sp < 0 ∧ ¬ dp < 0 ∧ ¬ n < 0 ∧ sp.toNatClampNeg + n.toNatClampNeg ≤ na ∧ dp.toNatClampNeg + n.toNatClampNeg ≤ nd ∧ a ≠ d) ∧
    h' = h.set d (.inl (0, nd, .inl (va_cpy f g sp.toNatClampNeg dp.toNatClampNeg n.toNatClampNeg))) := by
  unfold jcp at e
  split at e
  · split at e
    · cases e; exact ⟨_, _, _, _, by assumption, by assumption, by assumption, rfl⟩
    · cases e
  · cases e
/-- a loop with fuel -/
def itr {σ ρ : Type} (body : σ → Option (σ ⊕ ρ)) : Nat → σ → Option ρ
  | 0, _ => none
  | n + 1, s => match body s with
    | none => none
    | some (.inl s') => itr body n s'
    | some (.inr r) => some r
theorem jbind {α β : Type} {x : Option α} {f : α → Option β} {r : β} (h : x.bind f = some r) : ∃ a, x = some a ∧ f a = some r := Option.bind_eq_some_iff.mp h
