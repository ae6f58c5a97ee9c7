/-! loops of the pure functions -/
theorem itr_l {σ ρ : Type} {body : σ → Option (σ ⊕ ρ)} {s s' : σ} (h : body s = some (.inl s')) (n : Nat) : itr body (n + 1) s = itr body n s' := by
  show (match body s with | none => none | some (.inl s') => itr body n s' | some (.inr r) => some r) = _
  rw [h]
theorem itr_r {σ ρ : Type} {body : σ → Option (σ ⊕ ρ)} {s : σ} {r : ρ} (h : body s = some (.inr r)) (n : Nat) : itr body (n + 1) s = some r := by
  show (match body s with | none => none | some (.inl s') => itr body n s' | some (.inr r) => some r) = _
  rw [h]
/-- a loop that goes over the states st 0, st 1 .. st n, and leaves there -/
theorem itr_seq {σ ρ : Type} {body : σ → Option (σ ⊕ ρ)} (st : Nat → σ) {n : Nat} {r : ρ} (hs : ∀ k, k < n → body (st k) = some (.inl (st (k + 1)))) (he : body (st n) = some (.inr r)) {N : Nat} (hN : n < N) : itr body N (st 0) = some r := by
  have go : ∀ m k, k + m = n → ∀ N, m < N → itr body N (st k) = some r := by
    intro m
    induction m with
    | zero =>
      intro k hk N hN
      obtain ⟨N, rfl⟩ : ∃ q, N = q + 1 := ⟨N - 1, by omega⟩
      rw [show k = n by omega]
      exact itr_r he N
    | succ m ih =>
      intro k hk N hN
      obtain ⟨N, rfl⟩ : ∃ q, N = q + 1 := ⟨N - 1, by omega⟩
      rw [itr_l (hs k (by omega))]
      exact ih (k + 1) (by omega) N (by omega)
  exact go n 0 (by omega) N hN
/-- a loop by an invariant -/
theorem itr_inv {σ ρ : Type} {body : σ → Option (σ ⊕ ρ)} (I : Nat → σ → Prop) {P : ρ → Prop} {n : Nat} (hs : ∀ k s, k < n → I k s → (∃ s', body s = some (.inl s') ∧ I (k + 1) s') ∨ ∃ r, body s = some (.inr r) ∧ P r) (he : ∀ s, I n s → ∃ r, body s = some (.inr r) ∧ P r) {s : σ} (h0 : I 0 s) {N : Nat} (hN : n < N) : ∃ r, itr body N s = some r ∧ P r := by
  have go : ∀ m k s, k + m = n → I k s → ∀ N, m < N → ∃ r, itr body N s = some r ∧ P r := by
    intro m
    induction m with
    | zero =>
      intro k s hk hI N hN
      obtain ⟨N, rfl⟩ : ∃ q, N = q + 1 := ⟨N - 1, by omega⟩
      rw [show k = n by omega] at hI
      obtain ⟨r, h1, h2⟩ := he s hI
      exact ⟨r, itr_r h1 N, h2⟩
    | succ m ih =>
      intro k s hk hI N hN
      obtain ⟨N, rfl⟩ : ∃ q, N = q + 1 := ⟨N - 1, by omega⟩
      rcases hs k s (by omega) hI with ⟨s', h1, h2⟩ | ⟨r, h1, h2⟩
      · obtain ⟨r, h3, h4⟩ := ih (k + 1) s' (by omega) h2 N (by omega)
        exact ⟨r, by rw [itr_l h1]; exact h3, h4⟩
      · exact ⟨r, itr_r h1 N, h2⟩
  exact go n 0 s (by omega) h0 N hN
/-- two loops side by side, each over its own part of the heap, whatever the other part holds -/
theorem itr_two {α β σ σ' ρ ρ' τ τ' κ κ' : Type} {b1 : σ → Option (σ ⊕ ρ)} {b2 : σ' → Option (σ' ⊕ ρ')} (e1 : τ → α → σ) (e2 : τ' → β → σ') (q1 : κ → α → ρ) (q2 : κ' → β → ρ') (I : Nat → τ → τ' → Prop) {P : κ → κ' → Prop} {n : Nat}
    (hs : ∀ k t t', k < n → I k t t' → (∃ u u', (∀ a, b1 (e1 t a) = some (.inl (e1 u a))) ∧ (∀ b, b2 (e2 t' b) = some (.inl (e2 u' b))) ∧ I (k + 1) u u') ∨ (∃ r r', (∀ N a, 3 ≤ N → itr b1 N (e1 t a) = some (q1 r a)) ∧ (∀ N b, 3 ≤ N → itr b2 N (e2 t' b) = some (q2 r' b)) ∧ P r r'))
    (he : ∀ t t', I n t t' → ∃ r r', (∀ N a, 3 ≤ N → itr b1 N (e1 t a) = some (q1 r a)) ∧ (∀ N b, 3 ≤ N → itr b2 N (e2 t' b) = some (q2 r' b)) ∧ P r r')
    {t : τ} {t' : τ'} (h0 : I 0 t t') {N : Nat} (hN : n + 3 ≤ N) : ∃ r r', (∀ a, itr b1 N (e1 t a) = some (q1 r a)) ∧ (∀ b, itr b2 N (e2 t' b) = some (q2 r' b)) ∧ P r r' := by
  have go : ∀ m k t t', k + m = n → I k t t' → ∀ N, m + 3 ≤ N → ∃ r r', (∀ a, itr b1 N (e1 t a) = some (q1 r a)) ∧ (∀ b, itr b2 N (e2 t' b) = some (q2 r' b)) ∧ P r r' := by
    intro m
    induction m with
    | zero =>
      intro k t t' hk hI N hN
      rw [show k = n by omega] at hI
      obtain ⟨r, r', h1, h2, h3⟩ := he t t' hI
      exact ⟨r, r', fun a => h1 N a (by omega), fun b => h2 N b (by omega), h3⟩
    | succ m ih =>
      intro k t t' hk hI N hN
      rcases hs k t t' (by omega) hI with ⟨u, u', h1, h2, h3⟩ | ⟨r, r', h1, h2, h3⟩
      · obtain ⟨N, rfl⟩ : ∃ q, N = q + 1 := ⟨N - 1, by omega⟩
        obtain ⟨r, r', h4, h5, h6⟩ := ih (k + 1) u u' (by omega) h3 N (by omega)
        exact ⟨r, r', fun a => by rw [itr_l (h1 a)]; exact h4 a, fun b => by rw [itr_l (h2 b)]; exact h5 b, h6⟩
      · exact ⟨r, r', fun a => h1 N a (by omega), fun b => h2 N b (by omega), h3⟩
  exact go n 0 t t' (by omega) h0 N hN
