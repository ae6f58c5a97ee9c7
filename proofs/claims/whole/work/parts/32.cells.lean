/-! sets of judges as bits; comparisons; the waters' and the gorge's cells wherever they lie -/
def ones (p : Nat → Bool) : Nat → Int32
  | 0 => 0
  | k + 1 => if p k then ones p k ||| ((1 : Int32) <<< (nI k &&& 31)) else ones p k
theorem ones_congr {p q : Nat → Bool} : ∀ {n : Nat}, (∀ j, j < n → p j = q j) → ones p n = ones q n := by
  intro n
  induction n with
  | zero => intro _; rfl
  | succ k ih =>
    intro h
    rw [ones, ones, ih (fun j hj => h j (by omega)), h k (by omega)]
theorem nle {k n : Nat} (h : k < n) (hn : n ≤ 10000) : (nI n ≤ nI k) = False := eq_false (nI_ge h (by omega))
theorem yle {k n : Nat} (h : n ≤ k) (hn : k ≤ 10000) : (nI n ≤ nI k) = True := eq_true (nI_le h (by omega))
theorem le_nI {a b : Nat} (ha : a < 2 ^ 31) (hb : b < 2 ^ 31) : (nI a ≤ nI b) ↔ a ≤ b := by
  rw [Int32.le_iff_toInt_le, nI_toInt ha, nI_toInt hb]; omega
theorem lt_nI {a b : Nat} (ha : a < 2 ^ 31) (hb : b < 2 ^ 31) : (nI a < nI b) ↔ a < b := by
  rw [Int32.lt_iff_toInt_lt, nI_toInt ha, nI_toInt hb]; omega
theorem eq_nI {a b : Nat} (ha : a < 2 ^ 31) (hb : b < 2 ^ 31) : (nI a = nI b) ↔ a = b := by
  constructor
  · intro h
    have := congrArg Int32.toInt h
    rw [nI_toInt ha, nI_toInt hb] at this
    omega
  · intro h; rw [h]
theorem upd_s {f : Nat → Int32} {k : Nat} {v : Int32} : upd f k v k = v := by simp [upd]
theorem upd_o {f : Nat → Int32} {k j : Nat} {v : Int32} (h : j ≠ k) : upd f k v j = f j := by simp [upd, h]
theorem up_s {C : ST} {a j : Nat} {v : Int32} : up C a j v a = upd (C a) j v := by simp [up]
theorem up_o {C : ST} {a b j : Nat} {v : Int32} (h : b ≠ a) : up C a j v b = C b := by simp [up, h]
theorem nI_m1 (n : Nat) : nI (n + 1) + -1 = nI n := by
  rw [← nI_pred n, Int32.sub_eq_add_neg]
def wok (wa : Nat) : Prop := wa = 21 ∨ wa = 38 ∨ wa = 54
def gok (g : Nat) : Prop := g = 4 ∨ g = 12
section S32
variable {wa g : Nat}
set_option maxHeartbeats 4000000 in
theorem rW (hw : wok wa) (C M : ST) (K : KT) (O : Nat → Int64) : jck 5 (HP C M K O) wa = some () ∧ jgi 5 (HP C M K O) wa 0 = some (C wa 0) ∧ jgr 5 (HP C M K O) wa 1 = some (wa + 1) ∧ jgr 5 (HP C M K O) wa 2 = some (wa + 2) ∧ jgr 5 (HP C M K O) wa 3 = some (wa + 3) ∧ jgr 5 (HP C M K O) wa 4 = some (wa + 4) ∧ jgr 5 (HP C M K O) wa 5 = some (wa + 5) ∧ jgr 5 (HP C M K O) wa 6 = some (wa + 6) ∧ jgr 5 (HP C M K O) wa 7 = some (wa + 7) ∧ jgr 5 (HP C M K O) wa 8 = some (wa + 8) ∧ jck 2 (HP C M K O) (wa + 8) = some () ∧ jgr 2 (HP C M K O) (wa + 8) 0 = some (wa + 9) ∧ jgr 2 (HP C M K O) (wa + 8) 1 = some (wa + 10) ∧ (∀ v, jpf 5 (HP C M K O) wa 0 (.int v) = some (HP (up C wa 0 v) M K O)) := by
  rcases hw with rfl | rfl | rfl <;> simp only [rdC, wrC, Nat.reduceAdd, and_true, true_and, implies_true]
set_option maxHeartbeats 4000000 in
theorem rWa (hw : wok wa) (C M : ST) (K : KT) (O : Nat → Int64) : (∀ j, j < 8 → jal 0 (HP C M K O) (wa + 1) (nI j) = some (C (wa + 1) j)) ∧ (∀ j, j < 8 → jal 0 (HP C M K O) (wa + 2) (nI j) = some (C (wa + 2) j)) ∧ (∀ j, j < 8 → jal 0 (HP C M K O) (wa + 3) (nI j) = some (C (wa + 3) j)) ∧ (∀ j, j < 8 → jal 0 (HP C M K O) (wa + 4) (nI j) = some (C (wa + 4) j)) ∧ (∀ j, j < 8 → jal 0 (HP C M K O) (wa + 5) (nI j) = some (C (wa + 5) j)) ∧ (∀ j, j < 9 → jal 0 (HP C M K O) (wa + 6) (nI j) = some (C (wa + 6) j)) ∧ (∀ j, j < 9 → jal 0 (HP C M K O) (wa + 7) (nI j) = some (C (wa + 7) j)) ∧ (∀ j, j < 6 → jal 0 (HP C M K O) (wa + 9) (nI j) = some (C (wa + 9) j)) ∧ (∀ j, j < 48 → jal 0 (HP C M K O) (wa + 10) (nI j) = some (C (wa + 10) j)) ∧ jal 0 (HP C M K O) (wa + 10) 0 = some (C (wa + 10) 0) ∧ jln 0 (HP C M K O) (wa + 10) = some (nI 48) ∧ jln 0 (HP C M K O) (wa + 9) = some (nI 6) ∧ jln 0 (HP C M K O) (wa + 6) = some (nI 9) := by
  rcases hw with rfl | rfl | rfl <;> refine ⟨?_, ?_, ?_, ?_, ?_, ?_, ?_, ?_, ?_, ?_, ?_, ?_, ?_⟩ <;> first | (intro j hj; simp only [raC, Nat.reduceAdd, hj]; done) | (simp only [rlC, lnH, Nat.reduceAdd]; done) | exact hAC (n := 48) (j := 0) (by decide) (by decide)
set_option maxHeartbeats 4000000 in
theorem wWa (hw : wok wa) (C M : ST) (K : KT) (O : Nat → Int64) : (∀ j v, j < 8 → jas 0 (HP C M K O) (wa + 1) (nI j) v = some (HP (up C (wa + 1) j v) M K O)) ∧ (∀ j v, j < 8 → jas 0 (HP C M K O) (wa + 2) (nI j) v = some (HP (up C (wa + 2) j v) M K O)) ∧ (∀ j v, j < 8 → jas 0 (HP C M K O) (wa + 3) (nI j) v = some (HP (up C (wa + 3) j v) M K O)) ∧ (∀ j v, j < 8 → jas 0 (HP C M K O) (wa + 4) (nI j) v = some (HP (up C (wa + 4) j v) M K O)) ∧ (∀ j v, j < 8 → jas 0 (HP C M K O) (wa + 5) (nI j) v = some (HP (up C (wa + 5) j v) M K O)) ∧ (∀ j v, j < 9 → jas 0 (HP C M K O) (wa + 6) (nI j) v = some (HP (up C (wa + 6) j v) M K O)) ∧ (∀ j v, j < 9 → jas 0 (HP C M K O) (wa + 7) (nI j) v = some (HP (up C (wa + 7) j v) M K O)) ∧ (∀ j v, j < 48 → jas 0 (HP C M K O) (wa + 10) (nI j) v = some (HP (up C (wa + 10) j v) M K O)) ∧ (∀ v, jas 0 (HP C M K O) (wa + 9) 0 v = some (HP (up C (wa + 9) 0 v) M K O)) ∧ (∀ v, jas 0 (HP C M K O) (wa + 9) 1 v = some (HP (up C (wa + 9) 1 v) M K O)) ∧ (∀ v, jas 0 (HP C M K O) (wa + 9) 2 v = some (HP (up C (wa + 9) 2 v) M K O)) ∧ (∀ v, jas 0 (HP C M K O) (wa + 9) 3 v = some (HP (up C (wa + 9) 3 v) M K O)) ∧ (∀ v, jas 0 (HP C M K O) (wa + 9) 4 v = some (HP (up C (wa + 9) 4 v) M K O)) ∧ (∀ v, jas 0 (HP C M K O) (wa + 9) 5 v = some (HP (up C (wa + 9) 5 v) M K O)) := by
  have q : ∀ (k : Nat) (v : Int32), k < 6 → jas 0 (HP C M K O) (wa + 9) (nI k) v = some (HP (up C (wa + 9) k v) M K O) := by
    rcases hw with rfl | rfl | rfl <;> intro k v hk <;> simp only [waC, Nat.reduceAdd, hk]
  refine ⟨?_, ?_, ?_, ?_, ?_, ?_, ?_, ?_, fun v => q 0 v (by decide), fun v => q 1 v (by decide), fun v => q 2 v (by decide), fun v => q 3 v (by decide), fun v => q 4 v (by decide), fun v => q 5 v (by decide)⟩ <;> rcases hw with rfl | rfl | rfl <;> intro j v hj <;> simp only [waC, Nat.reduceAdd, hj]
set_option maxHeartbeats 4000000 in
theorem rG (hg : gok g) (C M : ST) (K : KT) (O : Nat → Int64) : jck 1 (HP C M K O) g = some () ∧ jgi 1 (HP C M K O) g 0 = some (C g 0) ∧ jgi 1 (HP C M K O) g 1 = some (C g 1) ∧ jgi 1 (HP C M K O) g 2 = some (C g 2) ∧ jgi 1 (HP C M K O) g 10 = some (C g 10) ∧ jgi 1 (HP C M K O) g 11 = some (C g 11) ∧ jgi 1 (HP C M K O) g 12 = some (C g 12) ∧ jgi 1 (HP C M K O) g 13 = some (C g 13) ∧ jgi 1 (HP C M K O) g 14 = some (C g 14) ∧ jgr 1 (HP C M K O) g 3 = some (g + 1) ∧ jgr 1 (HP C M K O) g 4 = some (g + 2) ∧ jgr 1 (HP C M K O) g 5 = some (g + 3) ∧ jgr 1 (HP C M K O) g 6 = some (g + 4) ∧ jgr 1 (HP C M K O) g 7 = some (g + 5) ∧ jgr 1 (HP C M K O) g 8 = some (g + 6) ∧ jgr 1 (HP C M K O) g 9 = some (g + 7) := by
  rcases hg with rfl | rfl <;> simp only [rdC, Nat.reduceAdd, and_true, true_and, implies_true]
set_option maxHeartbeats 4000000 in
theorem rGa (hg : gok g) (C M : ST) (K : KT) (O : Nat → Int64) : (∀ j, j < 9 → jal 0 (HP C M K O) (g + 1) (nI j) = some (C (g + 1) j)) ∧ (∀ j, j < 9 → jal 0 (HP C M K O) (g + 2) (nI j) = some (C (g + 2) j)) ∧ (∀ j, j < 8 → jal 0 (HP C M K O) (g + 3) (nI j) = some (C (g + 3) j)) ∧ (∀ j, j < 8 → jal 0 (HP C M K O) (g + 4) (nI j) = some (C (g + 4) j)) ∧ (∀ j, j < 8 → jal 0 (HP C M K O) (g + 5) (nI j) = some (C (g + 5) j)) ∧ (∀ j, j < 8 → jal 2 (HP C M K O) (g + 6) (nI j) = some (C (g + 6) j)) ∧ (∀ j, j < 700 → jal 0 (HP C M K O) (g + 7) (nI j) = some (C (g + 7) j)) ∧ jln 0 (HP C M K O) (g + 7) = some (nI 700) := by
  rcases hg with rfl | rfl <;> refine ⟨?_, ?_, ?_, ?_, ?_, ?_, ?_, ?_⟩ <;> first | (intro j hj; simp only [raC, Nat.reduceAdd, hj]) | simp only [lnH, Nat.reduceAdd]
set_option maxRecDepth 4000 in
theorem b_rW (hw : wok wa) (C M : ST) (K : KT) (O : Nat → Int64) : (∀ (β : Type) (k : Unit → Option β), Option.bind (jck 5 (HP C M K O) wa) k = k ()) ∧
    (∀ (β : Type) (k : Int32 → Option β), Option.bind (jgi 5 (HP C M K O) wa 0) k = k (C wa 0)) ∧
    (∀ (β : Type) (k : Nat → Option β), Option.bind (jgr 5 (HP C M K O) wa 1) k = k (wa + 1)) ∧
    (∀ (β : Type) (k : Nat → Option β), Option.bind (jgr 5 (HP C M K O) wa 2) k = k (wa + 2)) ∧
    (∀ (β : Type) (k : Nat → Option β), Option.bind (jgr 5 (HP C M K O) wa 3) k = k (wa + 3)) ∧
    (∀ (β : Type) (k : Nat → Option β), Option.bind (jgr 5 (HP C M K O) wa 4) k = k (wa + 4)) ∧
    (∀ (β : Type) (k : Nat → Option β), Option.bind (jgr 5 (HP C M K O) wa 5) k = k (wa + 5)) ∧
    (∀ (β : Type) (k : Nat → Option β), Option.bind (jgr 5 (HP C M K O) wa 6) k = k (wa + 6)) ∧
    (∀ (β : Type) (k : Nat → Option β), Option.bind (jgr 5 (HP C M K O) wa 7) k = k (wa + 7)) ∧
    (∀ (β : Type) (k : Nat → Option β), Option.bind (jgr 5 (HP C M K O) wa 8) k = k (wa + 8)) ∧
    (∀ (β : Type) (k : Unit → Option β), Option.bind (jck 2 (HP C M K O) (wa + 8)) k = k ()) ∧
    (∀ (β : Type) (k : Nat → Option β), Option.bind (jgr 2 (HP C M K O) (wa + 8) 0) k = k (wa + 9)) ∧
    (∀ (β : Type) (k : Nat → Option β), Option.bind (jgr 2 (HP C M K O) (wa + 8) 1) k = k (wa + 10)) ∧
    (∀ v, ∀ (β : Type) (k : AH → Option β), Option.bind (jpf 5 (HP C M K O) wa 0 (.int v)) k = k (HP (up C wa 0 v) M K O)) :=
  (and_b (fun h => bnd h) <| and_b (fun h => bnd h) <| and_b (fun h => bnd h) <| and_b (fun h => bnd h) <| and_b (fun h => bnd h) <| and_b (fun h => bnd h) <| and_b (fun h => bnd h) <| and_b (fun h => bnd h) <| and_b (fun h => bnd h) <| and_b (fun h => bnd h) <| and_b (fun h => bnd h) <| and_b (fun h => bnd h) <| and_b (fun h => bnd h) <| (fun h x0 => bnd (h x0))) (rW hw C M K O)
set_option maxRecDepth 4000 in
theorem b_rWa (hw : wok wa) (C M : ST) (K : KT) (O : Nat → Int64) : (∀ j, j < 8 → ∀ (β : Type) (k : Int32 → Option β), Option.bind (jal 0 (HP C M K O) (wa + 1) (nI j)) k = k (C (wa + 1) j)) ∧
    (∀ j, j < 8 → ∀ (β : Type) (k : Int32 → Option β), Option.bind (jal 0 (HP C M K O) (wa + 2) (nI j)) k = k (C (wa + 2) j)) ∧
    (∀ j, j < 8 → ∀ (β : Type) (k : Int32 → Option β), Option.bind (jal 0 (HP C M K O) (wa + 3) (nI j)) k = k (C (wa + 3) j)) ∧
    (∀ j, j < 8 → ∀ (β : Type) (k : Int32 → Option β), Option.bind (jal 0 (HP C M K O) (wa + 4) (nI j)) k = k (C (wa + 4) j)) ∧
    (∀ j, j < 8 → ∀ (β : Type) (k : Int32 → Option β), Option.bind (jal 0 (HP C M K O) (wa + 5) (nI j)) k = k (C (wa + 5) j)) ∧
    (∀ j, j < 9 → ∀ (β : Type) (k : Int32 → Option β), Option.bind (jal 0 (HP C M K O) (wa + 6) (nI j)) k = k (C (wa + 6) j)) ∧
    (∀ j, j < 9 → ∀ (β : Type) (k : Int32 → Option β), Option.bind (jal 0 (HP C M K O) (wa + 7) (nI j)) k = k (C (wa + 7) j)) ∧
    (∀ j, j < 6 → ∀ (β : Type) (k : Int32 → Option β), Option.bind (jal 0 (HP C M K O) (wa + 9) (nI j)) k = k (C (wa + 9) j)) ∧
    (∀ j, j < 48 → ∀ (β : Type) (k : Int32 → Option β), Option.bind (jal 0 (HP C M K O) (wa + 10) (nI j)) k = k (C (wa + 10) j)) ∧
    (∀ (β : Type) (k : Int32 → Option β), Option.bind (jal 0 (HP C M K O) (wa + 10) 0) k = k (C (wa + 10) 0)) ∧
    (∀ (β : Type) (k : Int32 → Option β), Option.bind (jln 0 (HP C M K O) (wa + 10)) k = k (nI 48)) ∧
    (∀ (β : Type) (k : Int32 → Option β), Option.bind (jln 0 (HP C M K O) (wa + 9)) k = k (nI 6)) ∧
    (∀ (β : Type) (k : Int32 → Option β), Option.bind (jln 0 (HP C M K O) (wa + 6)) k = k (nI 9)) :=
  (and_b (fun h x0 x1 => bnd (h x0 x1)) <| and_b (fun h x0 x1 => bnd (h x0 x1)) <| and_b (fun h x0 x1 => bnd (h x0 x1)) <| and_b (fun h x0 x1 => bnd (h x0 x1)) <| and_b (fun h x0 x1 => bnd (h x0 x1)) <| and_b (fun h x0 x1 => bnd (h x0 x1)) <| and_b (fun h x0 x1 => bnd (h x0 x1)) <| and_b (fun h x0 x1 => bnd (h x0 x1)) <| and_b (fun h x0 x1 => bnd (h x0 x1)) <| and_b (fun h => bnd h) <| and_b (fun h => bnd h) <| and_b (fun h => bnd h) <| (fun h => bnd h)) (rWa hw C M K O)
set_option maxRecDepth 4000 in
theorem b_wWa (hw : wok wa) (C M : ST) (K : KT) (O : Nat → Int64) : (∀ j v, j < 8 → ∀ (β : Type) (k : AH → Option β), Option.bind (jas 0 (HP C M K O) (wa + 1) (nI j) v) k = k (HP (up C (wa + 1) j v) M K O)) ∧
    (∀ j v, j < 8 → ∀ (β : Type) (k : AH → Option β), Option.bind (jas 0 (HP C M K O) (wa + 2) (nI j) v) k = k (HP (up C (wa + 2) j v) M K O)) ∧
    (∀ j v, j < 8 → ∀ (β : Type) (k : AH → Option β), Option.bind (jas 0 (HP C M K O) (wa + 3) (nI j) v) k = k (HP (up C (wa + 3) j v) M K O)) ∧
    (∀ j v, j < 8 → ∀ (β : Type) (k : AH → Option β), Option.bind (jas 0 (HP C M K O) (wa + 4) (nI j) v) k = k (HP (up C (wa + 4) j v) M K O)) ∧
    (∀ j v, j < 8 → ∀ (β : Type) (k : AH → Option β), Option.bind (jas 0 (HP C M K O) (wa + 5) (nI j) v) k = k (HP (up C (wa + 5) j v) M K O)) ∧
    (∀ j v, j < 9 → ∀ (β : Type) (k : AH → Option β), Option.bind (jas 0 (HP C M K O) (wa + 6) (nI j) v) k = k (HP (up C (wa + 6) j v) M K O)) ∧
    (∀ j v, j < 9 → ∀ (β : Type) (k : AH → Option β), Option.bind (jas 0 (HP C M K O) (wa + 7) (nI j) v) k = k (HP (up C (wa + 7) j v) M K O)) ∧
    (∀ j v, j < 48 → ∀ (β : Type) (k : AH → Option β), Option.bind (jas 0 (HP C M K O) (wa + 10) (nI j) v) k = k (HP (up C (wa + 10) j v) M K O)) ∧
    (∀ v, ∀ (β : Type) (k : AH → Option β), Option.bind (jas 0 (HP C M K O) (wa + 9) 0 v) k = k (HP (up C (wa + 9) 0 v) M K O)) ∧
    (∀ v, ∀ (β : Type) (k : AH → Option β), Option.bind (jas 0 (HP C M K O) (wa + 9) 1 v) k = k (HP (up C (wa + 9) 1 v) M K O)) ∧
    (∀ v, ∀ (β : Type) (k : AH → Option β), Option.bind (jas 0 (HP C M K O) (wa + 9) 2 v) k = k (HP (up C (wa + 9) 2 v) M K O)) ∧
    (∀ v, ∀ (β : Type) (k : AH → Option β), Option.bind (jas 0 (HP C M K O) (wa + 9) 3 v) k = k (HP (up C (wa + 9) 3 v) M K O)) ∧
    (∀ v, ∀ (β : Type) (k : AH → Option β), Option.bind (jas 0 (HP C M K O) (wa + 9) 4 v) k = k (HP (up C (wa + 9) 4 v) M K O)) ∧
    (∀ v, ∀ (β : Type) (k : AH → Option β), Option.bind (jas 0 (HP C M K O) (wa + 9) 5 v) k = k (HP (up C (wa + 9) 5 v) M K O)) :=
  (and_b (fun h x0 x1 x2 => bnd (h x0 x1 x2)) <| and_b (fun h x0 x1 x2 => bnd (h x0 x1 x2)) <| and_b (fun h x0 x1 x2 => bnd (h x0 x1 x2)) <| and_b (fun h x0 x1 x2 => bnd (h x0 x1 x2)) <| and_b (fun h x0 x1 x2 => bnd (h x0 x1 x2)) <| and_b (fun h x0 x1 x2 => bnd (h x0 x1 x2)) <| and_b (fun h x0 x1 x2 => bnd (h x0 x1 x2)) <| and_b (fun h x0 x1 x2 => bnd (h x0 x1 x2)) <| and_b (fun h x0 => bnd (h x0)) <| and_b (fun h x0 => bnd (h x0)) <| and_b (fun h x0 => bnd (h x0)) <| and_b (fun h x0 => bnd (h x0)) <| and_b (fun h x0 => bnd (h x0)) <| (fun h x0 => bnd (h x0))) (wWa hw C M K O)
set_option maxRecDepth 4000 in
theorem b_rG (hg : gok g) (C M : ST) (K : KT) (O : Nat → Int64) : (∀ (β : Type) (k : Unit → Option β), Option.bind (jck 1 (HP C M K O) g) k = k ()) ∧
    (∀ (β : Type) (k : Int32 → Option β), Option.bind (jgi 1 (HP C M K O) g 0) k = k (C g 0)) ∧
    (∀ (β : Type) (k : Int32 → Option β), Option.bind (jgi 1 (HP C M K O) g 1) k = k (C g 1)) ∧
    (∀ (β : Type) (k : Int32 → Option β), Option.bind (jgi 1 (HP C M K O) g 2) k = k (C g 2)) ∧
    (∀ (β : Type) (k : Int32 → Option β), Option.bind (jgi 1 (HP C M K O) g 10) k = k (C g 10)) ∧
    (∀ (β : Type) (k : Int32 → Option β), Option.bind (jgi 1 (HP C M K O) g 11) k = k (C g 11)) ∧
    (∀ (β : Type) (k : Int32 → Option β), Option.bind (jgi 1 (HP C M K O) g 12) k = k (C g 12)) ∧
    (∀ (β : Type) (k : Int32 → Option β), Option.bind (jgi 1 (HP C M K O) g 13) k = k (C g 13)) ∧
    (∀ (β : Type) (k : Int32 → Option β), Option.bind (jgi 1 (HP C M K O) g 14) k = k (C g 14)) ∧
    (∀ (β : Type) (k : Nat → Option β), Option.bind (jgr 1 (HP C M K O) g 3) k = k (g + 1)) ∧
    (∀ (β : Type) (k : Nat → Option β), Option.bind (jgr 1 (HP C M K O) g 4) k = k (g + 2)) ∧
    (∀ (β : Type) (k : Nat → Option β), Option.bind (jgr 1 (HP C M K O) g 5) k = k (g + 3)) ∧
    (∀ (β : Type) (k : Nat → Option β), Option.bind (jgr 1 (HP C M K O) g 6) k = k (g + 4)) ∧
    (∀ (β : Type) (k : Nat → Option β), Option.bind (jgr 1 (HP C M K O) g 7) k = k (g + 5)) ∧
    (∀ (β : Type) (k : Nat → Option β), Option.bind (jgr 1 (HP C M K O) g 8) k = k (g + 6)) ∧
    (∀ (β : Type) (k : Nat → Option β), Option.bind (jgr 1 (HP C M K O) g 9) k = k (g + 7)) :=
  (and_b (fun h => bnd h) <| and_b (fun h => bnd h) <| and_b (fun h => bnd h) <| and_b (fun h => bnd h) <| and_b (fun h => bnd h) <| and_b (fun h => bnd h) <| and_b (fun h => bnd h) <| and_b (fun h => bnd h) <| and_b (fun h => bnd h) <| and_b (fun h => bnd h) <| and_b (fun h => bnd h) <| and_b (fun h => bnd h) <| and_b (fun h => bnd h) <| and_b (fun h => bnd h) <| and_b (fun h => bnd h) <| (fun h => bnd h)) (rG hg C M K O)
set_option maxRecDepth 4000 in
theorem b_rGa (hg : gok g) (C M : ST) (K : KT) (O : Nat → Int64) : (∀ j, j < 9 → ∀ (β : Type) (k : Int32 → Option β), Option.bind (jal 0 (HP C M K O) (g + 1) (nI j)) k = k (C (g + 1) j)) ∧
    (∀ j, j < 9 → ∀ (β : Type) (k : Int32 → Option β), Option.bind (jal 0 (HP C M K O) (g + 2) (nI j)) k = k (C (g + 2) j)) ∧
    (∀ j, j < 8 → ∀ (β : Type) (k : Int32 → Option β), Option.bind (jal 0 (HP C M K O) (g + 3) (nI j)) k = k (C (g + 3) j)) ∧
    (∀ j, j < 8 → ∀ (β : Type) (k : Int32 → Option β), Option.bind (jal 0 (HP C M K O) (g + 4) (nI j)) k = k (C (g + 4) j)) ∧
    (∀ j, j < 8 → ∀ (β : Type) (k : Int32 → Option β), Option.bind (jal 0 (HP C M K O) (g + 5) (nI j)) k = k (C (g + 5) j)) ∧
    (∀ j, j < 8 → ∀ (β : Type) (k : Int32 → Option β), Option.bind (jal 2 (HP C M K O) (g + 6) (nI j)) k = k (C (g + 6) j)) ∧
    (∀ j, j < 700 → ∀ (β : Type) (k : Int32 → Option β), Option.bind (jal 0 (HP C M K O) (g + 7) (nI j)) k = k (C (g + 7) j)) ∧
    (∀ (β : Type) (k : Int32 → Option β), Option.bind (jln 0 (HP C M K O) (g + 7)) k = k (nI 700)) :=
  (and_b (fun h x0 x1 => bnd (h x0 x1)) <| and_b (fun h x0 x1 => bnd (h x0 x1)) <| and_b (fun h x0 x1 => bnd (h x0 x1)) <| and_b (fun h x0 x1 => bnd (h x0 x1)) <| and_b (fun h x0 x1 => bnd (h x0 x1)) <| and_b (fun h x0 x1 => bnd (h x0 x1)) <| and_b (fun h x0 x1 => bnd (h x0 x1)) <| (fun h => bnd h)) (rGa hg C M K O)
end S32
