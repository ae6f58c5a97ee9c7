/-! THE SYSTEM'S HEAP. Its shape is fixed: C what the class's cells hold (places below 71), M the reference's, K the references that change (told, the reader's gorge, its text; values), O the law's out. -/
abbrev ST : Type := Nat → Nat → Int32
abbrev KT : Type := Nat × Nat × Nat × Nat
def shp : List (Nat × Nat × List Nat) := [(16, 0, [2, 0, 0, 3, 2000001, 21, 38, 0, 55, 66, 69, 70, 71]), (1, 700, []), (14, 0, [0, 0, 2000003, 0, 2000002, 0, 0, 0, 0, 0, 0, 0, 0]), (1, 0, []), (11, 0, [0, 0, 0, 6, 7, 8, 9, 10, 11, 12, 0, 0, 0, 0, 0]), (0, 9, []), (0, 9, []), (0, 8, []), (0, 8, []), (0, 8, []), (2, 8, []), (0, 700, []), (11, 0, [0, 0, 0, 14, 15, 16, 17, 18, 19, 20, 0, 0, 0, 0, 0]), (0, 9, []), (0, 9, []), (0, 8, []), (0, 8, []), (0, 8, []), (2, 8, []), (0, 700, []), (10, 0, [22, 33, 0, 0, 34, 35, 36, 37, 0]), (15, 0, [0, 23, 24, 25, 26, 27, 28, 29, 30]), (0, 8, []), (0, 8, []), (0, 8, []), (0, 8, []), (0, 8, []), (0, 9, []), (0, 9, []), (12, 0, [31, 32]), (0, 6, []), (0, 48, []), (0, 3, []), (0, 8, []), (0, 8, []), (0, 8, []), (0, 1720, []), (10, 0, [39, 50, 0, 0, 51, 52, 53, 54, 0]), (15, 0, [0, 40, 41, 42, 43, 44, 45, 46, 47]), (0, 8, []), (0, 8, []), (0, 8, []), (0, 8, []), (0, 8, []), (0, 9, []), (0, 9, []), (12, 0, [48, 49]), (0, 6, []), (0, 48, []), (0, 3, []), (0, 8, []), (0, 8, []), (0, 8, []), (0, 1720, []), (15, 0, [0, 56, 57, 58, 59, 60, 61, 62, 63]), (0, 8, []), (0, 8, []), (0, 8, []), (0, 8, []), (0, 8, []), (0, 9, []), (0, 9, []), (12, 0, [64, 65]), (0, 6, []), (0, 48, []), (13, 0, [0, 0, 67, 68]), (0, 8, []), (0, 2304, []), (0, 8, []), (0, 4, []), (0, 4, []), (17, 0, [73, 74, 75, 2000004, 0, 76, 77, 78, 79, 80, 81, 82, 83, 84, 85, 86, 87, 0, 0, 0, 0, 0, 0, 0, 0, 0, 0, 0, 88, 89, 90, 91, 92, 93, 0, 0, 0, 94, 95, 96, 0, 97, 98, 99, 100, 101, 102, 103, 104, 0, 105, 0, 0, 0, 0, 106, 107, 108, 109, 110, 111]), (4, 2, [1000024, 1000025]), (4, 6, [1000026, 1000027, 1000028, 1000029, 1000030, 1000031]), (4, 6, [1000026, 1000027, 1000028, 1000029, 1000030, 1000032]), (0, 10, []), (0, 18, []), (0, 18, []), (0, 16, []), (0, 16, []), (0, 16, []), (0, 16, []), (0, 1400, []), (0, 1400, []), (0, 3, []), (0, 8, []), (0, 700, []), (0, 8, []), (0, 8, []), (0, 8, []), (0, 9, []), (0, 9, []), (0, 1720, []), (0, 6, []), (0, 64, []), (0, 8, []), (0, 43, []), (0, 2304, []), (0, 8, []), (0, 8, []), (0, 8, []), (0, 43, []), (0, 80, []), (0, 8, []), (0, 8, []), (0, 43, []), (0, 1720, []), (0, 8, []), (0, 8, []), (0, 8, []), (0, 3, []), (3, 1, [])]
def rf (K : KT) (c : Nat) : Nat := if c = 2000001 then K.1 else if c = 2000002 then K.2.1 else if c = 2000003 then K.2.2.1 else if c = 2000004 then K.2.2.2 else c - 1
def fv (S : Nat → Int32) (K : KT) (k c : Nat) : Value := if c = 0 then .int (S k) else .ref (rf K c)
def strA (l : List Nat) : Nat → Option Nat := (l.foldl (fun (q : Nat × (Nat → Option Nat)) x => (q.1 + 1, va_up q.2 q.1 (some x))) (0, fun _ => none)).2
def cel (S : Nat → Int32) (K : KT) (O : Nat → Int64) (q : Nat × Nat × List Nat) : AC :=
  if q.1 < 3 then .inl (q.1, q.2.1, .inl S) else if q.1 = 3 then .inl (3, q.2.1, .inr (.inl O)) else if q.1 = 4 then .inl (4, q.2.1, .inr (.inr (.inr (.inr (strA q.2.2))))) else .inr (q.1 - 10, q.2.2.mapIdx (fun k c => fv S K k c))
def stx (C M : ST) (a : Nat) : Nat → Int32 := if a < 71 then C a else M a
def HP (C M : ST) (K : KT) (O : Nat → Int64) : AH := shp.mapIdx (fun a q => cel (stx C M a) K O q)
def up (C : ST) (a j : Nat) (v : Int32) : ST := fun b => if b = a then upd (C a) j v else C b
def cps (C : ST) (a sp d dp n : Nat) : ST := fun b => if b = d then va_cpy (C a) (C d) sp dp n else C b
section HPs
variable {C M : ST} {K : KT} {O : Nat → Int64}
theorem hp_get {a : Nat} {q : Nat × Nat × List Nat} (e : shp[a]? = some q) : (HP C M K O)[a]? = some (cel (stx C M a) K O q) := by
  simp [HP, e]
def ckI (ci a k : Nat) : Bool := match shp[a]? with
  | some q => q.1 == 10 + ci && q.2.2[k]? == some 0
  | none => false
def ckR (ci a k c : Nat) : Bool := match shp[a]? with
  | some q => q.1 == 10 + ci && q.2.2[k]? == some c && c != 0
  | none => false
def ckA (ak a n : Nat) : Bool := match shp[a]? with
  | some q => q.1 == ak && q.2.1 == n && decide (ak < 3) && decide (n < 10000)
  | none => false
def ckL (ak a n : Nat) : Bool := match shp[a]? with
  | some q => q.1 == ak && q.2.1 == n && decide (ak < 5)
  | none => false
def ckO (ci a : Nat) : Bool := match shp[a]? with
  | some q => q.1 == 10 + ci
  | none => false
theorem cel_o {S : Nat → Int32} {ci n : Nat} {l : List Nat} : cel S K O (10 + ci, n, l) = .inr (ci, l.mapIdx (fun k c => fv S K k c)) := by
  unfold cel
  rw [if_neg (by omega), if_neg (by omega), if_neg (by omega)]
  simp
theorem cel_a {S : Nat → Int32} {ak n : Nat} {l : List Nat} (h : ak < 3) : cel S K O (ak, n, l) = .inl (ak, n, .inl S) := by
  unfold cel
  rw [if_pos h]
theorem ckI_inv {ci a k : Nat} (h : ckI ci a k = true) : ∃ n l, shp[a]? = some (10 + ci, n, l) ∧ l[k]? = some 0 := by
  unfold ckI at h
  split at h
  · rename_i q hq
    obtain ⟨k0, n, l⟩ := q
    simp only [Bool.and_eq_true, beq_iff_eq] at h
    obtain ⟨rfl, h⟩ := h
    exact ⟨n, l, hq, h⟩
  · cases h
theorem ckO_inv {ci a : Nat} (h : ckO ci a = true) : ∃ n l, shp[a]? = some (10 + ci, n, l) := by
  unfold ckO at h
  split at h
  · rename_i q hq
    obtain ⟨k0, n, l⟩ := q
    simp only [beq_iff_eq] at h
    subst h
    exact ⟨n, l, hq⟩
  · cases h
theorem ckR_inv {ci a k c : Nat} (h : ckR ci a k c = true) : ∃ n l, shp[a]? = some (10 + ci, n, l) ∧ l[k]? = some c ∧ c ≠ 0 := by
  unfold ckR at h
  split at h
  · rename_i q hq
    obtain ⟨k0, n, l⟩ := q
    simp only [Bool.and_eq_true, beq_iff_eq, bne_iff_ne] at h
    obtain ⟨⟨rfl, h⟩, h2⟩ := h
    exact ⟨n, l, hq, h, h2⟩
  · cases h
theorem ckA_inv {ak a n : Nat} (h : ckA ak a n = true) : ∃ l, shp[a]? = some (ak, n, l) ∧ ak < 3 ∧ n < 10000 := by
  unfold ckA at h
  split at h
  · rename_i q hq
    obtain ⟨k0, n0, l⟩ := q
    simp only [Bool.and_eq_true, beq_iff_eq, decide_eq_true_eq] at h
    obtain ⟨⟨⟨rfl, rfl⟩, h1⟩, h2⟩ := h
    exact ⟨l, hq, h1, h2⟩
  · cases h
theorem hI {ci a k : Nat} (h : ckI ci a k = true) : jgi ci (HP C M K O) a k = some (stx C M a k) := by
  obtain ⟨n, l, h1, h2⟩ := ckI_inv h
  unfold jgi
  rw [hp_get h1, cel_o]
  simp [h2, fv]
theorem hRf {ci a k c : Nat} (h : ckR ci a k c = true) : jgr ci (HP C M K O) a k = some (rf K c) := by
  obtain ⟨n, l, h1, h2, h3⟩ := ckR_inv h
  unfold jgr
  rw [hp_get h1, cel_o]
  simp [h2, fv, h3]
theorem hCk {ci a : Nat} (h : ckO ci a = true) : jck ci (HP C M K O) a = some () := by
  obtain ⟨n, l, h1⟩ := ckO_inv h
  unfold jck
  rw [hp_get h1, cel_o]
  simp
theorem hLn {ak a n : Nat} (h : ckL ak a n = true) : jln ak (HP C M K O) a = some (nI n) := by
  unfold ckL at h
  split at h
  · rename_i q hq
    obtain ⟨k0, n0, l⟩ := q
    simp only [Bool.and_eq_true, beq_iff_eq, decide_eq_true_eq] at h
    obtain ⟨⟨rfl, rfl⟩, h1⟩ := h
    unfold jln
    rw [hp_get hq]
    unfold cel
    by_cases g1 : k0 < 3
    · simp [g1]
    · by_cases g2 : k0 = 3
      · subst g2; simp
      · have g3 : k0 = 4 := by omega
        subst g3; simp
  · cases h
theorem hA {ak a n j : Nat} (h : ckA ak a n = true) (hj : j < n) : jal ak (HP C M K O) a (nI j) = some (stx C M a j) := by
  obtain ⟨l, h1, h2, h3⟩ := ckA_inv h
  unfold jal
  rw [hp_get h1, cel_a h2]
  simp only []
  rw [if_pos ⟨trivial, nI_in hj (by omega)⟩, nI_clamp (by omega)]
theorem stx_C {a : Nat} (h : a < 71) : stx C M a = C a := by simp [stx, h]
theorem stx_M {a : Nat} (h : ¬ a < 71) : stx C M a = M a := by simp [stx, h]
theorem stx_upC {a b j : Nat} {v : Int32} (h : a < 71) : stx (up C a j v) M b = if b = a then upd (stx C M a) j v else stx C M b := by
  unfold stx up
  by_cases hb : b = a
  · subst hb; simp [h]
  · simp [hb]
theorem stx_upM {a b j : Nat} {v : Int32} (h : ¬ a < 71) : stx C (up M a j v) b = if b = a then upd (stx C M a) j v else stx C M b := by
  unfold stx up
  by_cases hb : b = a
  · subst hb; simp [h]
  · simp [hb]
theorem hp_set {C' M' : ST} {a : Nat} {q : Nat × Nat × List Nat} {x : AC} (e : shp[a]? = some q) (hx : x = cel (stx C' M' a) K O q) (ho : ∀ b, b ≠ a → stx C' M' b = stx C M b) : (HP C M K O).set a x = HP C' M' K O := by
  subst hx
  apply List.ext_getElem?
  intro i
  simp only [HP, List.getElem?_set, List.getElem?_mapIdx, List.length_mapIdx]
  by_cases hi : a = i
  · subst hi
    have hl : a < shp.length := (List.getElem?_eq_some_iff.mp e).1
    simp only [if_true, hl, e, Option.map_some]
  · simp only [hi, if_false]
    rw [ho i (fun z => hi z.symm)]
theorem hAw {ak a n j : Nat} {v : Int32} {C' M' : ST} (h : ckA ak a n = true) (hj : j < n) (hs : ∀ b, stx C' M' b = if b = a then upd (stx C M a) j v else stx C M b) : jas ak (HP C M K O) a (nI j) v = some (HP C' M' K O) := by
  obtain ⟨l, h1, h2, h3⟩ := ckA_inv h
  unfold jas
  rw [hp_get h1, cel_a h2]
  simp only []
  rw [if_pos ⟨trivial, nI_in hj (by omega)⟩, nI_clamp (by omega)]
  exact congrArg some (hp_set h1 (by rw [cel_a h2, hs a, if_pos rfl]) (fun b hb => by rw [hs b, if_neg hb]))
theorem fv_set {S : Nat → Int32} {l : List Nat} {k : Nat} {v : Int32} (h : l[k]? = some 0) : (l.mapIdx (fun k c => fv S K k c)).set k (.int v) = l.mapIdx (fun i c => fv (upd S k v) K i c) := by
  apply List.ext_getElem?
  intro i
  simp only [List.getElem?_set, List.getElem?_mapIdx, List.length_mapIdx]
  by_cases hi : k = i
  · subst hi
    have hl : k < l.length := (List.getElem?_eq_some_iff.mp h).1
    simp only [if_true, hl, h, Option.map_some, fv, upd]
  · simp only [hi, if_false]
    cases l[i]? with
    | none => rfl
    | some c =>
      have : ¬ i = k := fun z => hi z.symm
      simp [fv, upd, this]
theorem hIw {ci a k : Nat} {v : Int32} {C' M' : ST} (h : ckI ci a k = true) (hs : ∀ b, stx C' M' b = if b = a then upd (stx C M a) k v else stx C M b) : jpf ci (HP C M K O) a k (.int v) = some (HP C' M' K O) := by
  obtain ⟨n, l, h1, h2⟩ := ckI_inv h
  have hl : k < l.length := (List.getElem?_eq_some_iff.mp h2).1
  unfold jpf
  rw [hp_get h1, cel_o]
  simp only [List.length_mapIdx]
  rw [if_pos ⟨trivial, hl⟩]
  exact congrArg some (hp_set h1 (by rw [cel_o, hs a, if_pos rfl, fv_set h2]) (fun b hb => by rw [hs b, if_neg hb]))
theorem hIwC' {ci a k : Nat} {v : Int32} (h : ckI ci a k = true) (ha : a < 71) : jpf ci (HP C M K O) a k (.int v) = some (HP (up C a k v) M K O) := hIw h (fun _ => stx_upC ha)
theorem hIwC {ci a k : Nat} {v : Int32} (h : (ckI ci a k && decide (a < 71)) = true) : jpf ci (HP C M K O) a k (.int v) = some (HP (up C a k v) M K O) := by
  simp only [Bool.and_eq_true, decide_eq_true_eq] at h
  exact hIwC' h.1 h.2
theorem hIwM {ci a k : Nat} {v : Int32} (h : (ckI ci a k && decide (¬ a < 71)) = true) : jpf ci (HP C M K O) a k (.int v) = some (HP C (up M a k v) K O) := by
  simp only [Bool.and_eq_true, decide_eq_true_eq] at h
  exact hIw h.1 (fun _ => stx_upM h.2)
theorem hAC {ak a n j : Nat} (h : (ckA ak a n && decide (a < 71)) = true) (hj : j < n) : jal ak (HP C M K O) a (nI j) = some (C a j) := by
  simp only [Bool.and_eq_true, decide_eq_true_eq] at h
  rw [hA h.1 hj, stx_C h.2]
theorem hAM {ak a n j : Nat} (h : (ckA ak a n && decide (¬ a < 71)) = true) (hj : j < n) : jal ak (HP C M K O) a (nI j) = some (M a j) := by
  simp only [Bool.and_eq_true, decide_eq_true_eq] at h
  rw [hA h.1 hj, stx_M h.2]
theorem hAwC {ak a n j : Nat} {v : Int32} (h : (ckA ak a n && decide (a < 71)) = true) (hj : j < n) : jas ak (HP C M K O) a (nI j) v = some (HP (up C a j v) M K O) := by
  simp only [Bool.and_eq_true, decide_eq_true_eq] at h
  exact hAw h.1 hj (fun _ => stx_upC h.2)
theorem hAwM {ak a n j : Nat} {v : Int32} (h : (ckA ak a n && decide (¬ a < 71)) = true) (hj : j < n) : jas ak (HP C M K O) a (nI j) v = some (HP C (up M a j v) K O) := by
  simp only [Bool.and_eq_true, decide_eq_true_eq] at h
  exact hAw h.1 hj (fun _ => stx_upM h.2)
/-- System.arraycopy between the class's arrays -/
theorem hCp {a d na nd sp dp n : Nat} (h1 : (ckA 0 a na && decide (a < 71)) = true) (h2 : (ckA 0 d nd && decide (d < 71)) = true) (h3 : sp + n ≤ na) (h4 : dp + n ≤ nd) (h5 : a ≠ d) : jcp (HP C M K O) a (nI sp) d (nI dp) (nI n) = some (HP (cps C a sp d dp n) M K O) := by
  simp only [Bool.and_eq_true, decide_eq_true_eq] at h1 h2
  obtain ⟨l1, e1, -, b1⟩ := ckA_inv h1.1
  obtain ⟨l2, e2, -, b2⟩ := ckA_inv h2.1
  unfold jcp
  rw [hp_get e1, hp_get e2, cel_a (by decide), cel_a (by decide)]
  simp only []
  rw [nI_clamp (by omega), nI_clamp (by omega), nI_clamp (by omega), if_pos ⟨nI_pos (by omega), nI_pos (by omega), nI_pos (by omega), h3, h4, h5⟩]
  refine congrArg some (hp_set e2 ?_ ?_)
  · rw [cel_a (by decide)]
    simp [stx, cps, h1.2, h2.2]
  · intro b hb
    simp [stx, cps, hb]
theorem jwz_eq {ci : Nat} {h : AH} {a k : Nat} {v : Int32} (hv : v = 0 ∨ v = 1) : jwz ci h a k v = jpf ci h a k (.int v) := by
  unfold jwz
  rw [if_pos hv]
end HPs
theorem rdC (C M : ST) (K : KT) (O : Nat → Int64) : (jgr 6 (HP C M K O) 0 0 = some 1) ∧
    (jgi 6 (HP C M K O) 0 1 = some (C 0 1)) ∧
    (jgi 6 (HP C M K O) 0 2 = some (C 0 2)) ∧
    (jgr 6 (HP C M K O) 0 3 = some 2) ∧
    (jgr 6 (HP C M K O) 0 4 = some (K.1)) ∧
    (jgr 6 (HP C M K O) 0 5 = some 20) ∧
    (jgr 6 (HP C M K O) 0 6 = some 37) ∧
    (jgi 6 (HP C M K O) 0 7 = some (C 0 7)) ∧
    (jgr 6 (HP C M K O) 0 8 = some 54) ∧
    (jgr 6 (HP C M K O) 0 9 = some 65) ∧
    (jgr 6 (HP C M K O) 0 10 = some 68) ∧
    (jgr 6 (HP C M K O) 0 11 = some 69) ∧
    (jgr 6 (HP C M K O) 0 12 = some 70) ∧
    (jck 6 (HP C M K O) 0 = some ()) ∧
    (jgi 4 (HP C M K O) 2 0 = some (C 2 0)) ∧
    (jgi 4 (HP C M K O) 2 1 = some (C 2 1)) ∧
    (jgr 4 (HP C M K O) 2 2 = some (K.2.2.1)) ∧
    (jgi 4 (HP C M K O) 2 3 = some (C 2 3)) ∧
    (jgr 4 (HP C M K O) 2 4 = some (K.2.1)) ∧
    (jgi 4 (HP C M K O) 2 5 = some (C 2 5)) ∧
    (jgi 4 (HP C M K O) 2 6 = some (C 2 6)) ∧
    (jgi 4 (HP C M K O) 2 7 = some (C 2 7)) ∧
    (jgi 4 (HP C M K O) 2 8 = some (C 2 8)) ∧
    (jgi 4 (HP C M K O) 2 9 = some (C 2 9)) ∧
    (jgi 4 (HP C M K O) 2 10 = some (C 2 10)) ∧
    (jgi 4 (HP C M K O) 2 11 = some (C 2 11)) ∧
    (jgi 4 (HP C M K O) 2 12 = some (C 2 12)) ∧
    (jck 4 (HP C M K O) 2 = some ()) ∧
    (jgi 1 (HP C M K O) 4 0 = some (C 4 0)) ∧
    (jgi 1 (HP C M K O) 4 1 = some (C 4 1)) ∧
    (jgi 1 (HP C M K O) 4 2 = some (C 4 2)) ∧
    (jgr 1 (HP C M K O) 4 3 = some 5) ∧
    (jgr 1 (HP C M K O) 4 4 = some 6) ∧
    (jgr 1 (HP C M K O) 4 5 = some 7) ∧
    (jgr 1 (HP C M K O) 4 6 = some 8) ∧
    (jgr 1 (HP C M K O) 4 7 = some 9) ∧
    (jgr 1 (HP C M K O) 4 8 = some 10) ∧
    (jgr 1 (HP C M K O) 4 9 = some 11) ∧
    (jgi 1 (HP C M K O) 4 10 = some (C 4 10)) ∧
    (jgi 1 (HP C M K O) 4 11 = some (C 4 11)) ∧
    (jgi 1 (HP C M K O) 4 12 = some (C 4 12)) ∧
    (jgi 1 (HP C M K O) 4 13 = some (C 4 13)) ∧
    (jgi 1 (HP C M K O) 4 14 = some (C 4 14)) ∧
    (jck 1 (HP C M K O) 4 = some ()) ∧
    (jgi 1 (HP C M K O) 12 0 = some (C 12 0)) ∧
    (jgi 1 (HP C M K O) 12 1 = some (C 12 1)) ∧
    (jgi 1 (HP C M K O) 12 2 = some (C 12 2)) ∧
    (jgr 1 (HP C M K O) 12 3 = some 13) ∧
    (jgr 1 (HP C M K O) 12 4 = some 14) ∧
    (jgr 1 (HP C M K O) 12 5 = some 15) ∧
    (jgr 1 (HP C M K O) 12 6 = some 16) ∧
    (jgr 1 (HP C M K O) 12 7 = some 17) ∧
    (jgr 1 (HP C M K O) 12 8 = some 18) ∧
    (jgr 1 (HP C M K O) 12 9 = some 19) ∧
    (jgi 1 (HP C M K O) 12 10 = some (C 12 10)) ∧
    (jgi 1 (HP C M K O) 12 11 = some (C 12 11)) ∧
    (jgi 1 (HP C M K O) 12 12 = some (C 12 12)) ∧
    (jgi 1 (HP C M K O) 12 13 = some (C 12 13)) ∧
    (jgi 1 (HP C M K O) 12 14 = some (C 12 14)) ∧
    (jck 1 (HP C M K O) 12 = some ()) ∧
    (jgr 0 (HP C M K O) 20 0 = some 21) ∧
    (jgr 0 (HP C M K O) 20 1 = some 32) ∧
    (jgi 0 (HP C M K O) 20 2 = some (C 20 2)) ∧
    (jgi 0 (HP C M K O) 20 3 = some (C 20 3)) ∧
    (jgr 0 (HP C M K O) 20 4 = some 33) ∧
    (jgr 0 (HP C M K O) 20 5 = some 34) ∧
    (jgr 0 (HP C M K O) 20 6 = some 35) ∧
    (jgr 0 (HP C M K O) 20 7 = some 36) ∧
    (jgi 0 (HP C M K O) 20 8 = some (C 20 8)) ∧
    (jck 0 (HP C M K O) 20 = some ()) ∧
    (jgi 5 (HP C M K O) 21 0 = some (C 21 0)) ∧
    (jgr 5 (HP C M K O) 21 1 = some 22) ∧
    (jgr 5 (HP C M K O) 21 2 = some 23) ∧
    (jgr 5 (HP C M K O) 21 3 = some 24) ∧
    (jgr 5 (HP C M K O) 21 4 = some 25) ∧
    (jgr 5 (HP C M K O) 21 5 = some 26) ∧
    (jgr 5 (HP C M K O) 21 6 = some 27) ∧
    (jgr 5 (HP C M K O) 21 7 = some 28) ∧
    (jgr 5 (HP C M K O) 21 8 = some 29) ∧
    (jck 5 (HP C M K O) 21 = some ()) ∧
    (jgr 2 (HP C M K O) 29 0 = some 30) ∧
    (jgr 2 (HP C M K O) 29 1 = some 31) ∧
    (jck 2 (HP C M K O) 29 = some ()) ∧
    (jgr 0 (HP C M K O) 37 0 = some 38) ∧
    (jgr 0 (HP C M K O) 37 1 = some 49) ∧
    (jgi 0 (HP C M K O) 37 2 = some (C 37 2)) ∧
    (jgi 0 (HP C M K O) 37 3 = some (C 37 3)) ∧
    (jgr 0 (HP C M K O) 37 4 = some 50) ∧
    (jgr 0 (HP C M K O) 37 5 = some 51) ∧
    (jgr 0 (HP C M K O) 37 6 = some 52) ∧
    (jgr 0 (HP C M K O) 37 7 = some 53) ∧
    (jgi 0 (HP C M K O) 37 8 = some (C 37 8)) ∧
    (jck 0 (HP C M K O) 37 = some ()) ∧
    (jgi 5 (HP C M K O) 38 0 = some (C 38 0)) ∧
    (jgr 5 (HP C M K O) 38 1 = some 39) ∧
    (jgr 5 (HP C M K O) 38 2 = some 40) ∧
    (jgr 5 (HP C M K O) 38 3 = some 41) ∧
    (jgr 5 (HP C M K O) 38 4 = some 42) ∧
    (jgr 5 (HP C M K O) 38 5 = some 43) ∧
    (jgr 5 (HP C M K O) 38 6 = some 44) ∧
    (jgr 5 (HP C M K O) 38 7 = some 45) ∧
    (jgr 5 (HP C M K O) 38 8 = some 46) ∧
    (jck 5 (HP C M K O) 38 = some ()) ∧
    (jgr 2 (HP C M K O) 46 0 = some 47) ∧
    (jgr 2 (HP C M K O) 46 1 = some 48) ∧
    (jck 2 (HP C M K O) 46 = some ()) ∧
    (jgi 5 (HP C M K O) 54 0 = some (C 54 0)) ∧
    (jgr 5 (HP C M K O) 54 1 = some 55) ∧
    (jgr 5 (HP C M K O) 54 2 = some 56) ∧
    (jgr 5 (HP C M K O) 54 3 = some 57) ∧
    (jgr 5 (HP C M K O) 54 4 = some 58) ∧
    (jgr 5 (HP C M K O) 54 5 = some 59) ∧
    (jgr 5 (HP C M K O) 54 6 = some 60) ∧
    (jgr 5 (HP C M K O) 54 7 = some 61) ∧
    (jgr 5 (HP C M K O) 54 8 = some 62) ∧
    (jck 5 (HP C M K O) 54 = some ()) ∧
    (jgr 2 (HP C M K O) 62 0 = some 63) ∧
    (jgr 2 (HP C M K O) 62 1 = some 64) ∧
    (jck 2 (HP C M K O) 62 = some ()) ∧
    (jgi 3 (HP C M K O) 65 0 = some (C 65 0)) ∧
    (jgi 3 (HP C M K O) 65 1 = some (C 65 1)) ∧
    (jgr 3 (HP C M K O) 65 2 = some 66) ∧
    (jgr 3 (HP C M K O) 65 3 = some 67) ∧
    (jck 3 (HP C M K O) 65 = some ()) := ⟨hRf (c := 2) rfl,
    hI (a := 0) rfl,
    hI (a := 0) rfl,
    hRf (c := 3) rfl,
    hRf (c := 2000001) rfl,
    hRf (c := 21) rfl,
    hRf (c := 38) rfl,
    hI (a := 0) rfl,
    hRf (c := 55) rfl,
    hRf (c := 66) rfl,
    hRf (c := 69) rfl,
    hRf (c := 70) rfl,
    hRf (c := 71) rfl,
    hCk rfl,
    hI (a := 2) rfl,
    hI (a := 2) rfl,
    hRf (c := 2000003) rfl,
    hI (a := 2) rfl,
    hRf (c := 2000002) rfl,
    hI (a := 2) rfl,
    hI (a := 2) rfl,
    hI (a := 2) rfl,
    hI (a := 2) rfl,
    hI (a := 2) rfl,
    hI (a := 2) rfl,
    hI (a := 2) rfl,
    hI (a := 2) rfl,
    hCk rfl,
    hI (a := 4) rfl,
    hI (a := 4) rfl,
    hI (a := 4) rfl,
    hRf (c := 6) rfl,
    hRf (c := 7) rfl,
    hRf (c := 8) rfl,
    hRf (c := 9) rfl,
    hRf (c := 10) rfl,
    hRf (c := 11) rfl,
    hRf (c := 12) rfl,
    hI (a := 4) rfl,
    hI (a := 4) rfl,
    hI (a := 4) rfl,
    hI (a := 4) rfl,
    hI (a := 4) rfl,
    hCk rfl,
    hI (a := 12) rfl,
    hI (a := 12) rfl,
    hI (a := 12) rfl,
    hRf (c := 14) rfl,
    hRf (c := 15) rfl,
    hRf (c := 16) rfl,
    hRf (c := 17) rfl,
    hRf (c := 18) rfl,
    hRf (c := 19) rfl,
    hRf (c := 20) rfl,
    hI (a := 12) rfl,
    hI (a := 12) rfl,
    hI (a := 12) rfl,
    hI (a := 12) rfl,
    hI (a := 12) rfl,
    hCk rfl,
    hRf (c := 22) rfl,
    hRf (c := 33) rfl,
    hI (a := 20) rfl,
    hI (a := 20) rfl,
    hRf (c := 34) rfl,
    hRf (c := 35) rfl,
    hRf (c := 36) rfl,
    hRf (c := 37) rfl,
    hI (a := 20) rfl,
    hCk rfl,
    hI (a := 21) rfl,
    hRf (c := 23) rfl,
    hRf (c := 24) rfl,
    hRf (c := 25) rfl,
    hRf (c := 26) rfl,
    hRf (c := 27) rfl,
    hRf (c := 28) rfl,
    hRf (c := 29) rfl,
    hRf (c := 30) rfl,
    hCk rfl,
    hRf (c := 31) rfl,
    hRf (c := 32) rfl,
    hCk rfl,
    hRf (c := 39) rfl,
    hRf (c := 50) rfl,
    hI (a := 37) rfl,
    hI (a := 37) rfl,
    hRf (c := 51) rfl,
    hRf (c := 52) rfl,
    hRf (c := 53) rfl,
    hRf (c := 54) rfl,
    hI (a := 37) rfl,
    hCk rfl,
    hI (a := 38) rfl,
    hRf (c := 40) rfl,
    hRf (c := 41) rfl,
    hRf (c := 42) rfl,
    hRf (c := 43) rfl,
    hRf (c := 44) rfl,
    hRf (c := 45) rfl,
    hRf (c := 46) rfl,
    hRf (c := 47) rfl,
    hCk rfl,
    hRf (c := 48) rfl,
    hRf (c := 49) rfl,
    hCk rfl,
    hI (a := 54) rfl,
    hRf (c := 56) rfl,
    hRf (c := 57) rfl,
    hRf (c := 58) rfl,
    hRf (c := 59) rfl,
    hRf (c := 60) rfl,
    hRf (c := 61) rfl,
    hRf (c := 62) rfl,
    hRf (c := 63) rfl,
    hCk rfl,
    hRf (c := 64) rfl,
    hRf (c := 65) rfl,
    hCk rfl,
    hI (a := 65) rfl,
    hI (a := 65) rfl,
    hRf (c := 67) rfl,
    hRf (c := 68) rfl,
    hCk rfl⟩
theorem rdM (C M : ST) (K : KT) (O : Nat → Int64) : (jgr 7 (HP C M K O) 71 0 = some 72) ∧
    (jgr 7 (HP C M K O) 71 1 = some 73) ∧
    (jgr 7 (HP C M K O) 71 2 = some 74) ∧
    (jgr 7 (HP C M K O) 71 3 = some (K.2.2.2)) ∧
    (jgi 7 (HP C M K O) 71 4 = some (M 71 4)) ∧
    (jgr 7 (HP C M K O) 71 5 = some 75) ∧
    (jgr 7 (HP C M K O) 71 6 = some 76) ∧
    (jgr 7 (HP C M K O) 71 7 = some 77) ∧
    (jgr 7 (HP C M K O) 71 8 = some 78) ∧
    (jgr 7 (HP C M K O) 71 9 = some 79) ∧
    (jgr 7 (HP C M K O) 71 10 = some 80) ∧
    (jgr 7 (HP C M K O) 71 11 = some 81) ∧
    (jgr 7 (HP C M K O) 71 12 = some 82) ∧
    (jgr 7 (HP C M K O) 71 13 = some 83) ∧
    (jgr 7 (HP C M K O) 71 14 = some 84) ∧
    (jgr 7 (HP C M K O) 71 15 = some 85) ∧
    (jgr 7 (HP C M K O) 71 16 = some 86) ∧
    (jgi 7 (HP C M K O) 71 17 = some (M 71 17)) ∧
    (jgi 7 (HP C M K O) 71 18 = some (M 71 18)) ∧
    (jgi 7 (HP C M K O) 71 19 = some (M 71 19)) ∧
    (jgi 7 (HP C M K O) 71 20 = some (M 71 20)) ∧
    (jgi 7 (HP C M K O) 71 21 = some (M 71 21)) ∧
    (jgi 7 (HP C M K O) 71 22 = some (M 71 22)) ∧
    (jgi 7 (HP C M K O) 71 23 = some (M 71 23)) ∧
    (jgi 7 (HP C M K O) 71 24 = some (M 71 24)) ∧
    (jgi 7 (HP C M K O) 71 25 = some (M 71 25)) ∧
    (jgi 7 (HP C M K O) 71 26 = some (M 71 26)) ∧
    (jgi 7 (HP C M K O) 71 27 = some (M 71 27)) ∧
    (jgr 7 (HP C M K O) 71 28 = some 87) ∧
    (jgr 7 (HP C M K O) 71 29 = some 88) ∧
    (jgr 7 (HP C M K O) 71 30 = some 89) ∧
    (jgr 7 (HP C M K O) 71 31 = some 90) ∧
    (jgr 7 (HP C M K O) 71 32 = some 91) ∧
    (jgr 7 (HP C M K O) 71 33 = some 92) ∧
    (jgi 7 (HP C M K O) 71 34 = some (M 71 34)) ∧
    (jgi 7 (HP C M K O) 71 35 = some (M 71 35)) ∧
    (jgi 7 (HP C M K O) 71 36 = some (M 71 36)) ∧
    (jgr 7 (HP C M K O) 71 37 = some 93) ∧
    (jgr 7 (HP C M K O) 71 38 = some 94) ∧
    (jgr 7 (HP C M K O) 71 39 = some 95) ∧
    (jgi 7 (HP C M K O) 71 40 = some (M 71 40)) ∧
    (jgr 7 (HP C M K O) 71 41 = some 96) ∧
    (jgr 7 (HP C M K O) 71 42 = some 97) ∧
    (jgr 7 (HP C M K O) 71 43 = some 98) ∧
    (jgr 7 (HP C M K O) 71 44 = some 99) ∧
    (jgr 7 (HP C M K O) 71 45 = some 100) ∧
    (jgr 7 (HP C M K O) 71 46 = some 101) ∧
    (jgr 7 (HP C M K O) 71 47 = some 102) ∧
    (jgr 7 (HP C M K O) 71 48 = some 103) ∧
    (jgi 7 (HP C M K O) 71 49 = some (M 71 49)) ∧
    (jgr 7 (HP C M K O) 71 50 = some 104) ∧
    (jgi 7 (HP C M K O) 71 51 = some (M 71 51)) ∧
    (jgi 7 (HP C M K O) 71 52 = some (M 71 52)) ∧
    (jgi 7 (HP C M K O) 71 53 = some (M 71 53)) ∧
    (jgi 7 (HP C M K O) 71 54 = some (M 71 54)) ∧
    (jgr 7 (HP C M K O) 71 55 = some 105) ∧
    (jgr 7 (HP C M K O) 71 56 = some 106) ∧
    (jgr 7 (HP C M K O) 71 57 = some 107) ∧
    (jgr 7 (HP C M K O) 71 58 = some 108) ∧
    (jgr 7 (HP C M K O) 71 59 = some 109) ∧
    (jgr 7 (HP C M K O) 71 60 = some 110) ∧
    (jck 7 (HP C M K O) 71 = some ()) := ⟨hRf (c := 73) rfl,
    hRf (c := 74) rfl,
    hRf (c := 75) rfl,
    hRf (c := 2000004) rfl,
    hI (a := 71) rfl,
    hRf (c := 76) rfl,
    hRf (c := 77) rfl,
    hRf (c := 78) rfl,
    hRf (c := 79) rfl,
    hRf (c := 80) rfl,
    hRf (c := 81) rfl,
    hRf (c := 82) rfl,
    hRf (c := 83) rfl,
    hRf (c := 84) rfl,
    hRf (c := 85) rfl,
    hRf (c := 86) rfl,
    hRf (c := 87) rfl,
    hI (a := 71) rfl,
    hI (a := 71) rfl,
    hI (a := 71) rfl,
    hI (a := 71) rfl,
    hI (a := 71) rfl,
    hI (a := 71) rfl,
    hI (a := 71) rfl,
    hI (a := 71) rfl,
    hI (a := 71) rfl,
    hI (a := 71) rfl,
    hI (a := 71) rfl,
    hRf (c := 88) rfl,
    hRf (c := 89) rfl,
    hRf (c := 90) rfl,
    hRf (c := 91) rfl,
    hRf (c := 92) rfl,
    hRf (c := 93) rfl,
    hI (a := 71) rfl,
    hI (a := 71) rfl,
    hI (a := 71) rfl,
    hRf (c := 94) rfl,
    hRf (c := 95) rfl,
    hRf (c := 96) rfl,
    hI (a := 71) rfl,
    hRf (c := 97) rfl,
    hRf (c := 98) rfl,
    hRf (c := 99) rfl,
    hRf (c := 100) rfl,
    hRf (c := 101) rfl,
    hRf (c := 102) rfl,
    hRf (c := 103) rfl,
    hRf (c := 104) rfl,
    hI (a := 71) rfl,
    hRf (c := 105) rfl,
    hI (a := 71) rfl,
    hI (a := 71) rfl,
    hI (a := 71) rfl,
    hI (a := 71) rfl,
    hRf (c := 106) rfl,
    hRf (c := 107) rfl,
    hRf (c := 108) rfl,
    hRf (c := 109) rfl,
    hRf (c := 110) rfl,
    hRf (c := 111) rfl,
    hCk rfl⟩
theorem wrC (C M : ST) (K : KT) (O : Nat → Int64) : (∀ v, jpf 6 (HP C M K O) 0 1 (.int v) = some (HP (up C 0 1 v) M K O)) ∧
    (∀ v, jpf 6 (HP C M K O) 0 2 (.int v) = some (HP (up C 0 2 v) M K O)) ∧
    (∀ v, jpf 6 (HP C M K O) 0 7 (.int v) = some (HP (up C 0 7 v) M K O)) ∧
    (∀ v, jpf 4 (HP C M K O) 2 0 (.int v) = some (HP (up C 2 0 v) M K O)) ∧
    (∀ v, jpf 4 (HP C M K O) 2 1 (.int v) = some (HP (up C 2 1 v) M K O)) ∧
    (∀ v, jpf 4 (HP C M K O) 2 3 (.int v) = some (HP (up C 2 3 v) M K O)) ∧
    (∀ v, jpf 4 (HP C M K O) 2 5 (.int v) = some (HP (up C 2 5 v) M K O)) ∧
    (∀ v, jpf 4 (HP C M K O) 2 6 (.int v) = some (HP (up C 2 6 v) M K O)) ∧
    (∀ v, jpf 4 (HP C M K O) 2 7 (.int v) = some (HP (up C 2 7 v) M K O)) ∧
    (∀ v, jpf 4 (HP C M K O) 2 8 (.int v) = some (HP (up C 2 8 v) M K O)) ∧
    (∀ v, jpf 4 (HP C M K O) 2 9 (.int v) = some (HP (up C 2 9 v) M K O)) ∧
    (∀ v, jpf 4 (HP C M K O) 2 10 (.int v) = some (HP (up C 2 10 v) M K O)) ∧
    (∀ v, jpf 4 (HP C M K O) 2 11 (.int v) = some (HP (up C 2 11 v) M K O)) ∧
    (∀ v, jpf 4 (HP C M K O) 2 12 (.int v) = some (HP (up C 2 12 v) M K O)) ∧
    (∀ v, jpf 1 (HP C M K O) 4 0 (.int v) = some (HP (up C 4 0 v) M K O)) ∧
    (∀ v, jpf 1 (HP C M K O) 4 1 (.int v) = some (HP (up C 4 1 v) M K O)) ∧
    (∀ v, jpf 1 (HP C M K O) 4 2 (.int v) = some (HP (up C 4 2 v) M K O)) ∧
    (∀ v, jpf 1 (HP C M K O) 4 10 (.int v) = some (HP (up C 4 10 v) M K O)) ∧
    (∀ v, jpf 1 (HP C M K O) 4 11 (.int v) = some (HP (up C 4 11 v) M K O)) ∧
    (∀ v, jpf 1 (HP C M K O) 4 12 (.int v) = some (HP (up C 4 12 v) M K O)) ∧
    (∀ v, jpf 1 (HP C M K O) 4 13 (.int v) = some (HP (up C 4 13 v) M K O)) ∧
    (∀ v, jpf 1 (HP C M K O) 4 14 (.int v) = some (HP (up C 4 14 v) M K O)) ∧
    (∀ v, jpf 1 (HP C M K O) 12 0 (.int v) = some (HP (up C 12 0 v) M K O)) ∧
    (∀ v, jpf 1 (HP C M K O) 12 1 (.int v) = some (HP (up C 12 1 v) M K O)) ∧
    (∀ v, jpf 1 (HP C M K O) 12 2 (.int v) = some (HP (up C 12 2 v) M K O)) ∧
    (∀ v, jpf 1 (HP C M K O) 12 10 (.int v) = some (HP (up C 12 10 v) M K O)) ∧
    (∀ v, jpf 1 (HP C M K O) 12 11 (.int v) = some (HP (up C 12 11 v) M K O)) ∧
    (∀ v, jpf 1 (HP C M K O) 12 12 (.int v) = some (HP (up C 12 12 v) M K O)) ∧
    (∀ v, jpf 1 (HP C M K O) 12 13 (.int v) = some (HP (up C 12 13 v) M K O)) ∧
    (∀ v, jpf 1 (HP C M K O) 12 14 (.int v) = some (HP (up C 12 14 v) M K O)) ∧
    (∀ v, jpf 0 (HP C M K O) 20 2 (.int v) = some (HP (up C 20 2 v) M K O)) ∧
    (∀ v, jpf 0 (HP C M K O) 20 3 (.int v) = some (HP (up C 20 3 v) M K O)) ∧
    (∀ v, jpf 0 (HP C M K O) 20 8 (.int v) = some (HP (up C 20 8 v) M K O)) ∧
    (∀ v, jpf 5 (HP C M K O) 21 0 (.int v) = some (HP (up C 21 0 v) M K O)) ∧
    (∀ v, jpf 0 (HP C M K O) 37 2 (.int v) = some (HP (up C 37 2 v) M K O)) ∧
    (∀ v, jpf 0 (HP C M K O) 37 3 (.int v) = some (HP (up C 37 3 v) M K O)) ∧
    (∀ v, jpf 0 (HP C M K O) 37 8 (.int v) = some (HP (up C 37 8 v) M K O)) ∧
    (∀ v, jpf 5 (HP C M K O) 38 0 (.int v) = some (HP (up C 38 0 v) M K O)) ∧
    (∀ v, jpf 5 (HP C M K O) 54 0 (.int v) = some (HP (up C 54 0 v) M K O)) ∧
    (∀ v, jpf 3 (HP C M K O) 65 0 (.int v) = some (HP (up C 65 0 v) M K O)) ∧
    (∀ v, jpf 3 (HP C M K O) 65 1 (.int v) = some (HP (up C 65 1 v) M K O)) := ⟨fun _ => hIwC rfl,
    fun _ => hIwC rfl,
    fun _ => hIwC rfl,
    fun _ => hIwC rfl,
    fun _ => hIwC rfl,
    fun _ => hIwC rfl,
    fun _ => hIwC rfl,
    fun _ => hIwC rfl,
    fun _ => hIwC rfl,
    fun _ => hIwC rfl,
    fun _ => hIwC rfl,
    fun _ => hIwC rfl,
    fun _ => hIwC rfl,
    fun _ => hIwC rfl,
    fun _ => hIwC rfl,
    fun _ => hIwC rfl,
    fun _ => hIwC rfl,
    fun _ => hIwC rfl,
    fun _ => hIwC rfl,
    fun _ => hIwC rfl,
    fun _ => hIwC rfl,
    fun _ => hIwC rfl,
    fun _ => hIwC rfl,
    fun _ => hIwC rfl,
    fun _ => hIwC rfl,
    fun _ => hIwC rfl,
    fun _ => hIwC rfl,
    fun _ => hIwC rfl,
    fun _ => hIwC rfl,
    fun _ => hIwC rfl,
    fun _ => hIwC rfl,
    fun _ => hIwC rfl,
    fun _ => hIwC rfl,
    fun _ => hIwC rfl,
    fun _ => hIwC rfl,
    fun _ => hIwC rfl,
    fun _ => hIwC rfl,
    fun _ => hIwC rfl,
    fun _ => hIwC rfl,
    fun _ => hIwC rfl,
    fun _ => hIwC rfl⟩
theorem wrM (C M : ST) (K : KT) (O : Nat → Int64) : (∀ v, jpf 7 (HP C M K O) 71 4 (.int v) = some (HP C (up M 71 4 v) K O)) ∧
    (∀ v, jpf 7 (HP C M K O) 71 17 (.int v) = some (HP C (up M 71 17 v) K O)) ∧
    (∀ v, jpf 7 (HP C M K O) 71 18 (.int v) = some (HP C (up M 71 18 v) K O)) ∧
    (∀ v, jpf 7 (HP C M K O) 71 19 (.int v) = some (HP C (up M 71 19 v) K O)) ∧
    (∀ v, jpf 7 (HP C M K O) 71 20 (.int v) = some (HP C (up M 71 20 v) K O)) ∧
    (∀ v, jpf 7 (HP C M K O) 71 21 (.int v) = some (HP C (up M 71 21 v) K O)) ∧
    (∀ v, jpf 7 (HP C M K O) 71 22 (.int v) = some (HP C (up M 71 22 v) K O)) ∧
    (∀ v, jpf 7 (HP C M K O) 71 23 (.int v) = some (HP C (up M 71 23 v) K O)) ∧
    (∀ v, jpf 7 (HP C M K O) 71 24 (.int v) = some (HP C (up M 71 24 v) K O)) ∧
    (∀ v, jpf 7 (HP C M K O) 71 25 (.int v) = some (HP C (up M 71 25 v) K O)) ∧
    (∀ v, jpf 7 (HP C M K O) 71 26 (.int v) = some (HP C (up M 71 26 v) K O)) ∧
    (∀ v, jpf 7 (HP C M K O) 71 27 (.int v) = some (HP C (up M 71 27 v) K O)) ∧
    (∀ v, jpf 7 (HP C M K O) 71 34 (.int v) = some (HP C (up M 71 34 v) K O)) ∧
    (∀ v, jpf 7 (HP C M K O) 71 35 (.int v) = some (HP C (up M 71 35 v) K O)) ∧
    (∀ v, jpf 7 (HP C M K O) 71 36 (.int v) = some (HP C (up M 71 36 v) K O)) ∧
    (∀ v, jpf 7 (HP C M K O) 71 40 (.int v) = some (HP C (up M 71 40 v) K O)) ∧
    (∀ v, jpf 7 (HP C M K O) 71 49 (.int v) = some (HP C (up M 71 49 v) K O)) ∧
    (∀ v, jpf 7 (HP C M K O) 71 51 (.int v) = some (HP C (up M 71 51 v) K O)) ∧
    (∀ v, jpf 7 (HP C M K O) 71 52 (.int v) = some (HP C (up M 71 52 v) K O)) ∧
    (∀ v, jpf 7 (HP C M K O) 71 53 (.int v) = some (HP C (up M 71 53 v) K O)) ∧
    (∀ v, jpf 7 (HP C M K O) 71 54 (.int v) = some (HP C (up M 71 54 v) K O)) := ⟨fun _ => hIwM rfl,
    fun _ => hIwM rfl,
    fun _ => hIwM rfl,
    fun _ => hIwM rfl,
    fun _ => hIwM rfl,
    fun _ => hIwM rfl,
    fun _ => hIwM rfl,
    fun _ => hIwM rfl,
    fun _ => hIwM rfl,
    fun _ => hIwM rfl,
    fun _ => hIwM rfl,
    fun _ => hIwM rfl,
    fun _ => hIwM rfl,
    fun _ => hIwM rfl,
    fun _ => hIwM rfl,
    fun _ => hIwM rfl,
    fun _ => hIwM rfl,
    fun _ => hIwM rfl,
    fun _ => hIwM rfl,
    fun _ => hIwM rfl,
    fun _ => hIwM rfl⟩
theorem raC (C M : ST) (K : KT) (O : Nat → Int64) : (∀ j, j < 700 → jal 1 (HP C M K O) 1 (nI j) = some (C 1 j)) ∧
    (∀ j, j < 0 → jal 1 (HP C M K O) 3 (nI j) = some (C 3 j)) ∧
    (∀ j, j < 9 → jal 0 (HP C M K O) 5 (nI j) = some (C 5 j)) ∧
    (∀ j, j < 9 → jal 0 (HP C M K O) 6 (nI j) = some (C 6 j)) ∧
    (∀ j, j < 8 → jal 0 (HP C M K O) 7 (nI j) = some (C 7 j)) ∧
    (∀ j, j < 8 → jal 0 (HP C M K O) 8 (nI j) = some (C 8 j)) ∧
    (∀ j, j < 8 → jal 0 (HP C M K O) 9 (nI j) = some (C 9 j)) ∧
    (∀ j, j < 8 → jal 2 (HP C M K O) 10 (nI j) = some (C 10 j)) ∧
    (∀ j, j < 700 → jal 0 (HP C M K O) 11 (nI j) = some (C 11 j)) ∧
    (∀ j, j < 9 → jal 0 (HP C M K O) 13 (nI j) = some (C 13 j)) ∧
    (∀ j, j < 9 → jal 0 (HP C M K O) 14 (nI j) = some (C 14 j)) ∧
    (∀ j, j < 8 → jal 0 (HP C M K O) 15 (nI j) = some (C 15 j)) ∧
    (∀ j, j < 8 → jal 0 (HP C M K O) 16 (nI j) = some (C 16 j)) ∧
    (∀ j, j < 8 → jal 0 (HP C M K O) 17 (nI j) = some (C 17 j)) ∧
    (∀ j, j < 8 → jal 2 (HP C M K O) 18 (nI j) = some (C 18 j)) ∧
    (∀ j, j < 700 → jal 0 (HP C M K O) 19 (nI j) = some (C 19 j)) ∧
    (∀ j, j < 8 → jal 0 (HP C M K O) 22 (nI j) = some (C 22 j)) ∧
    (∀ j, j < 8 → jal 0 (HP C M K O) 23 (nI j) = some (C 23 j)) ∧
    (∀ j, j < 8 → jal 0 (HP C M K O) 24 (nI j) = some (C 24 j)) ∧
    (∀ j, j < 8 → jal 0 (HP C M K O) 25 (nI j) = some (C 25 j)) ∧
    (∀ j, j < 8 → jal 0 (HP C M K O) 26 (nI j) = some (C 26 j)) ∧
    (∀ j, j < 9 → jal 0 (HP C M K O) 27 (nI j) = some (C 27 j)) ∧
    (∀ j, j < 9 → jal 0 (HP C M K O) 28 (nI j) = some (C 28 j)) ∧
    (∀ j, j < 6 → jal 0 (HP C M K O) 30 (nI j) = some (C 30 j)) ∧
    (∀ j, j < 48 → jal 0 (HP C M K O) 31 (nI j) = some (C 31 j)) ∧
    (∀ j, j < 3 → jal 0 (HP C M K O) 32 (nI j) = some (C 32 j)) ∧
    (∀ j, j < 8 → jal 0 (HP C M K O) 33 (nI j) = some (C 33 j)) ∧
    (∀ j, j < 8 → jal 0 (HP C M K O) 34 (nI j) = some (C 34 j)) ∧
    (∀ j, j < 8 → jal 0 (HP C M K O) 35 (nI j) = some (C 35 j)) ∧
    (∀ j, j < 1720 → jal 0 (HP C M K O) 36 (nI j) = some (C 36 j)) ∧
    (∀ j, j < 8 → jal 0 (HP C M K O) 39 (nI j) = some (C 39 j)) ∧
    (∀ j, j < 8 → jal 0 (HP C M K O) 40 (nI j) = some (C 40 j)) ∧
    (∀ j, j < 8 → jal 0 (HP C M K O) 41 (nI j) = some (C 41 j)) ∧
    (∀ j, j < 8 → jal 0 (HP C M K O) 42 (nI j) = some (C 42 j)) ∧
    (∀ j, j < 8 → jal 0 (HP C M K O) 43 (nI j) = some (C 43 j)) ∧
    (∀ j, j < 9 → jal 0 (HP C M K O) 44 (nI j) = some (C 44 j)) ∧
    (∀ j, j < 9 → jal 0 (HP C M K O) 45 (nI j) = some (C 45 j)) ∧
    (∀ j, j < 6 → jal 0 (HP C M K O) 47 (nI j) = some (C 47 j)) ∧
    (∀ j, j < 48 → jal 0 (HP C M K O) 48 (nI j) = some (C 48 j)) ∧
    (∀ j, j < 3 → jal 0 (HP C M K O) 49 (nI j) = some (C 49 j)) ∧
    (∀ j, j < 8 → jal 0 (HP C M K O) 50 (nI j) = some (C 50 j)) ∧
    (∀ j, j < 8 → jal 0 (HP C M K O) 51 (nI j) = some (C 51 j)) ∧
    (∀ j, j < 8 → jal 0 (HP C M K O) 52 (nI j) = some (C 52 j)) ∧
    (∀ j, j < 1720 → jal 0 (HP C M K O) 53 (nI j) = some (C 53 j)) ∧
    (∀ j, j < 8 → jal 0 (HP C M K O) 55 (nI j) = some (C 55 j)) ∧
    (∀ j, j < 8 → jal 0 (HP C M K O) 56 (nI j) = some (C 56 j)) ∧
    (∀ j, j < 8 → jal 0 (HP C M K O) 57 (nI j) = some (C 57 j)) ∧
    (∀ j, j < 8 → jal 0 (HP C M K O) 58 (nI j) = some (C 58 j)) ∧
    (∀ j, j < 8 → jal 0 (HP C M K O) 59 (nI j) = some (C 59 j)) ∧
    (∀ j, j < 9 → jal 0 (HP C M K O) 60 (nI j) = some (C 60 j)) ∧
    (∀ j, j < 9 → jal 0 (HP C M K O) 61 (nI j) = some (C 61 j)) ∧
    (∀ j, j < 6 → jal 0 (HP C M K O) 63 (nI j) = some (C 63 j)) ∧
    (∀ j, j < 48 → jal 0 (HP C M K O) 64 (nI j) = some (C 64 j)) ∧
    (∀ j, j < 8 → jal 0 (HP C M K O) 66 (nI j) = some (C 66 j)) ∧
    (∀ j, j < 2304 → jal 0 (HP C M K O) 67 (nI j) = some (C 67 j)) ∧
    (∀ j, j < 8 → jal 0 (HP C M K O) 68 (nI j) = some (C 68 j)) ∧
    (∀ j, j < 4 → jal 0 (HP C M K O) 69 (nI j) = some (C 69 j)) ∧
    (∀ j, j < 4 → jal 0 (HP C M K O) 70 (nI j) = some (C 70 j)) := ⟨fun _ h => hAC rfl h,
    fun _ h => hAC rfl h,
    fun _ h => hAC rfl h,
    fun _ h => hAC rfl h,
    fun _ h => hAC rfl h,
    fun _ h => hAC rfl h,
    fun _ h => hAC rfl h,
    fun _ h => hAC rfl h,
    fun _ h => hAC rfl h,
    fun _ h => hAC rfl h,
    fun _ h => hAC rfl h,
    fun _ h => hAC rfl h,
    fun _ h => hAC rfl h,
    fun _ h => hAC rfl h,
    fun _ h => hAC rfl h,
    fun _ h => hAC rfl h,
    fun _ h => hAC rfl h,
    fun _ h => hAC rfl h,
    fun _ h => hAC rfl h,
    fun _ h => hAC rfl h,
    fun _ h => hAC rfl h,
    fun _ h => hAC rfl h,
    fun _ h => hAC rfl h,
    fun _ h => hAC rfl h,
    fun _ h => hAC rfl h,
    fun _ h => hAC rfl h,
    fun _ h => hAC rfl h,
    fun _ h => hAC rfl h,
    fun _ h => hAC rfl h,
    fun _ h => hAC rfl h,
    fun _ h => hAC rfl h,
    fun _ h => hAC rfl h,
    fun _ h => hAC rfl h,
    fun _ h => hAC rfl h,
    fun _ h => hAC rfl h,
    fun _ h => hAC rfl h,
    fun _ h => hAC rfl h,
    fun _ h => hAC rfl h,
    fun _ h => hAC rfl h,
    fun _ h => hAC rfl h,
    fun _ h => hAC rfl h,
    fun _ h => hAC rfl h,
    fun _ h => hAC rfl h,
    fun _ h => hAC rfl h,
    fun _ h => hAC rfl h,
    fun _ h => hAC rfl h,
    fun _ h => hAC rfl h,
    fun _ h => hAC rfl h,
    fun _ h => hAC rfl h,
    fun _ h => hAC rfl h,
    fun _ h => hAC rfl h,
    fun _ h => hAC rfl h,
    fun _ h => hAC rfl h,
    fun _ h => hAC rfl h,
    fun _ h => hAC rfl h,
    fun _ h => hAC rfl h,
    fun _ h => hAC rfl h,
    fun _ h => hAC rfl h⟩
theorem raM (C M : ST) (K : KT) (O : Nat → Int64) : (∀ j, j < 10 → jal 0 (HP C M K O) 75 (nI j) = some (M 75 j)) ∧
    (∀ j, j < 18 → jal 0 (HP C M K O) 76 (nI j) = some (M 76 j)) ∧
    (∀ j, j < 18 → jal 0 (HP C M K O) 77 (nI j) = some (M 77 j)) ∧
    (∀ j, j < 16 → jal 0 (HP C M K O) 78 (nI j) = some (M 78 j)) ∧
    (∀ j, j < 16 → jal 0 (HP C M K O) 79 (nI j) = some (M 79 j)) ∧
    (∀ j, j < 16 → jal 0 (HP C M K O) 80 (nI j) = some (M 80 j)) ∧
    (∀ j, j < 16 → jal 0 (HP C M K O) 81 (nI j) = some (M 81 j)) ∧
    (∀ j, j < 1400 → jal 0 (HP C M K O) 82 (nI j) = some (M 82 j)) ∧
    (∀ j, j < 1400 → jal 0 (HP C M K O) 83 (nI j) = some (M 83 j)) ∧
    (∀ j, j < 3 → jal 0 (HP C M K O) 84 (nI j) = some (M 84 j)) ∧
    (∀ j, j < 8 → jal 0 (HP C M K O) 85 (nI j) = some (M 85 j)) ∧
    (∀ j, j < 700 → jal 0 (HP C M K O) 86 (nI j) = some (M 86 j)) ∧
    (∀ j, j < 8 → jal 0 (HP C M K O) 87 (nI j) = some (M 87 j)) ∧
    (∀ j, j < 8 → jal 0 (HP C M K O) 88 (nI j) = some (M 88 j)) ∧
    (∀ j, j < 8 → jal 0 (HP C M K O) 89 (nI j) = some (M 89 j)) ∧
    (∀ j, j < 9 → jal 0 (HP C M K O) 90 (nI j) = some (M 90 j)) ∧
    (∀ j, j < 9 → jal 0 (HP C M K O) 91 (nI j) = some (M 91 j)) ∧
    (∀ j, j < 1720 → jal 0 (HP C M K O) 92 (nI j) = some (M 92 j)) ∧
    (∀ j, j < 6 → jal 0 (HP C M K O) 93 (nI j) = some (M 93 j)) ∧
    (∀ j, j < 64 → jal 0 (HP C M K O) 94 (nI j) = some (M 94 j)) ∧
    (∀ j, j < 8 → jal 0 (HP C M K O) 95 (nI j) = some (M 95 j)) ∧
    (∀ j, j < 43 → jal 0 (HP C M K O) 96 (nI j) = some (M 96 j)) ∧
    (∀ j, j < 2304 → jal 0 (HP C M K O) 97 (nI j) = some (M 97 j)) ∧
    (∀ j, j < 8 → jal 0 (HP C M K O) 98 (nI j) = some (M 98 j)) ∧
    (∀ j, j < 8 → jal 0 (HP C M K O) 99 (nI j) = some (M 99 j)) ∧
    (∀ j, j < 8 → jal 0 (HP C M K O) 100 (nI j) = some (M 100 j)) ∧
    (∀ j, j < 43 → jal 0 (HP C M K O) 101 (nI j) = some (M 101 j)) ∧
    (∀ j, j < 80 → jal 0 (HP C M K O) 102 (nI j) = some (M 102 j)) ∧
    (∀ j, j < 8 → jal 0 (HP C M K O) 103 (nI j) = some (M 103 j)) ∧
    (∀ j, j < 8 → jal 0 (HP C M K O) 104 (nI j) = some (M 104 j)) ∧
    (∀ j, j < 43 → jal 0 (HP C M K O) 105 (nI j) = some (M 105 j)) ∧
    (∀ j, j < 1720 → jal 0 (HP C M K O) 106 (nI j) = some (M 106 j)) ∧
    (∀ j, j < 8 → jal 0 (HP C M K O) 107 (nI j) = some (M 107 j)) ∧
    (∀ j, j < 8 → jal 0 (HP C M K O) 108 (nI j) = some (M 108 j)) ∧
    (∀ j, j < 8 → jal 0 (HP C M K O) 109 (nI j) = some (M 109 j)) ∧
    (∀ j, j < 3 → jal 0 (HP C M K O) 110 (nI j) = some (M 110 j)) := ⟨fun _ h => hAM rfl h,
    fun _ h => hAM rfl h,
    fun _ h => hAM rfl h,
    fun _ h => hAM rfl h,
    fun _ h => hAM rfl h,
    fun _ h => hAM rfl h,
    fun _ h => hAM rfl h,
    fun _ h => hAM rfl h,
    fun _ h => hAM rfl h,
    fun _ h => hAM rfl h,
    fun _ h => hAM rfl h,
    fun _ h => hAM rfl h,
    fun _ h => hAM rfl h,
    fun _ h => hAM rfl h,
    fun _ h => hAM rfl h,
    fun _ h => hAM rfl h,
    fun _ h => hAM rfl h,
    fun _ h => hAM rfl h,
    fun _ h => hAM rfl h,
    fun _ h => hAM rfl h,
    fun _ h => hAM rfl h,
    fun _ h => hAM rfl h,
    fun _ h => hAM rfl h,
    fun _ h => hAM rfl h,
    fun _ h => hAM rfl h,
    fun _ h => hAM rfl h,
    fun _ h => hAM rfl h,
    fun _ h => hAM rfl h,
    fun _ h => hAM rfl h,
    fun _ h => hAM rfl h,
    fun _ h => hAM rfl h,
    fun _ h => hAM rfl h,
    fun _ h => hAM rfl h,
    fun _ h => hAM rfl h,
    fun _ h => hAM rfl h,
    fun _ h => hAM rfl h⟩
theorem waC (C M : ST) (K : KT) (O : Nat → Int64) : (∀ j v, j < 700 → jas 1 (HP C M K O) 1 (nI j) v = some (HP (up C 1 j v) M K O)) ∧
    (∀ j v, j < 0 → jas 1 (HP C M K O) 3 (nI j) v = some (HP (up C 3 j v) M K O)) ∧
    (∀ j v, j < 9 → jas 0 (HP C M K O) 5 (nI j) v = some (HP (up C 5 j v) M K O)) ∧
    (∀ j v, j < 9 → jas 0 (HP C M K O) 6 (nI j) v = some (HP (up C 6 j v) M K O)) ∧
    (∀ j v, j < 8 → jas 0 (HP C M K O) 7 (nI j) v = some (HP (up C 7 j v) M K O)) ∧
    (∀ j v, j < 8 → jas 0 (HP C M K O) 8 (nI j) v = some (HP (up C 8 j v) M K O)) ∧
    (∀ j v, j < 8 → jas 0 (HP C M K O) 9 (nI j) v = some (HP (up C 9 j v) M K O)) ∧
    (∀ j v, j < 8 → jas 2 (HP C M K O) 10 (nI j) v = some (HP (up C 10 j v) M K O)) ∧
    (∀ j v, j < 700 → jas 0 (HP C M K O) 11 (nI j) v = some (HP (up C 11 j v) M K O)) ∧
    (∀ j v, j < 9 → jas 0 (HP C M K O) 13 (nI j) v = some (HP (up C 13 j v) M K O)) ∧
    (∀ j v, j < 9 → jas 0 (HP C M K O) 14 (nI j) v = some (HP (up C 14 j v) M K O)) ∧
    (∀ j v, j < 8 → jas 0 (HP C M K O) 15 (nI j) v = some (HP (up C 15 j v) M K O)) ∧
    (∀ j v, j < 8 → jas 0 (HP C M K O) 16 (nI j) v = some (HP (up C 16 j v) M K O)) ∧
    (∀ j v, j < 8 → jas 0 (HP C M K O) 17 (nI j) v = some (HP (up C 17 j v) M K O)) ∧
    (∀ j v, j < 8 → jas 2 (HP C M K O) 18 (nI j) v = some (HP (up C 18 j v) M K O)) ∧
    (∀ j v, j < 700 → jas 0 (HP C M K O) 19 (nI j) v = some (HP (up C 19 j v) M K O)) ∧
    (∀ j v, j < 8 → jas 0 (HP C M K O) 22 (nI j) v = some (HP (up C 22 j v) M K O)) ∧
    (∀ j v, j < 8 → jas 0 (HP C M K O) 23 (nI j) v = some (HP (up C 23 j v) M K O)) ∧
    (∀ j v, j < 8 → jas 0 (HP C M K O) 24 (nI j) v = some (HP (up C 24 j v) M K O)) ∧
    (∀ j v, j < 8 → jas 0 (HP C M K O) 25 (nI j) v = some (HP (up C 25 j v) M K O)) ∧
    (∀ j v, j < 8 → jas 0 (HP C M K O) 26 (nI j) v = some (HP (up C 26 j v) M K O)) ∧
    (∀ j v, j < 9 → jas 0 (HP C M K O) 27 (nI j) v = some (HP (up C 27 j v) M K O)) ∧
    (∀ j v, j < 9 → jas 0 (HP C M K O) 28 (nI j) v = some (HP (up C 28 j v) M K O)) ∧
    (∀ j v, j < 6 → jas 0 (HP C M K O) 30 (nI j) v = some (HP (up C 30 j v) M K O)) ∧
    (∀ j v, j < 48 → jas 0 (HP C M K O) 31 (nI j) v = some (HP (up C 31 j v) M K O)) ∧
    (∀ j v, j < 3 → jas 0 (HP C M K O) 32 (nI j) v = some (HP (up C 32 j v) M K O)) ∧
    (∀ j v, j < 8 → jas 0 (HP C M K O) 33 (nI j) v = some (HP (up C 33 j v) M K O)) ∧
    (∀ j v, j < 8 → jas 0 (HP C M K O) 34 (nI j) v = some (HP (up C 34 j v) M K O)) ∧
    (∀ j v, j < 8 → jas 0 (HP C M K O) 35 (nI j) v = some (HP (up C 35 j v) M K O)) ∧
    (∀ j v, j < 1720 → jas 0 (HP C M K O) 36 (nI j) v = some (HP (up C 36 j v) M K O)) ∧
    (∀ j v, j < 8 → jas 0 (HP C M K O) 39 (nI j) v = some (HP (up C 39 j v) M K O)) ∧
    (∀ j v, j < 8 → jas 0 (HP C M K O) 40 (nI j) v = some (HP (up C 40 j v) M K O)) ∧
    (∀ j v, j < 8 → jas 0 (HP C M K O) 41 (nI j) v = some (HP (up C 41 j v) M K O)) ∧
    (∀ j v, j < 8 → jas 0 (HP C M K O) 42 (nI j) v = some (HP (up C 42 j v) M K O)) ∧
    (∀ j v, j < 8 → jas 0 (HP C M K O) 43 (nI j) v = some (HP (up C 43 j v) M K O)) ∧
    (∀ j v, j < 9 → jas 0 (HP C M K O) 44 (nI j) v = some (HP (up C 44 j v) M K O)) ∧
    (∀ j v, j < 9 → jas 0 (HP C M K O) 45 (nI j) v = some (HP (up C 45 j v) M K O)) ∧
    (∀ j v, j < 6 → jas 0 (HP C M K O) 47 (nI j) v = some (HP (up C 47 j v) M K O)) ∧
    (∀ j v, j < 48 → jas 0 (HP C M K O) 48 (nI j) v = some (HP (up C 48 j v) M K O)) ∧
    (∀ j v, j < 3 → jas 0 (HP C M K O) 49 (nI j) v = some (HP (up C 49 j v) M K O)) ∧
    (∀ j v, j < 8 → jas 0 (HP C M K O) 50 (nI j) v = some (HP (up C 50 j v) M K O)) ∧
    (∀ j v, j < 8 → jas 0 (HP C M K O) 51 (nI j) v = some (HP (up C 51 j v) M K O)) ∧
    (∀ j v, j < 8 → jas 0 (HP C M K O) 52 (nI j) v = some (HP (up C 52 j v) M K O)) ∧
    (∀ j v, j < 1720 → jas 0 (HP C M K O) 53 (nI j) v = some (HP (up C 53 j v) M K O)) ∧
    (∀ j v, j < 8 → jas 0 (HP C M K O) 55 (nI j) v = some (HP (up C 55 j v) M K O)) ∧
    (∀ j v, j < 8 → jas 0 (HP C M K O) 56 (nI j) v = some (HP (up C 56 j v) M K O)) ∧
    (∀ j v, j < 8 → jas 0 (HP C M K O) 57 (nI j) v = some (HP (up C 57 j v) M K O)) ∧
    (∀ j v, j < 8 → jas 0 (HP C M K O) 58 (nI j) v = some (HP (up C 58 j v) M K O)) ∧
    (∀ j v, j < 8 → jas 0 (HP C M K O) 59 (nI j) v = some (HP (up C 59 j v) M K O)) ∧
    (∀ j v, j < 9 → jas 0 (HP C M K O) 60 (nI j) v = some (HP (up C 60 j v) M K O)) ∧
    (∀ j v, j < 9 → jas 0 (HP C M K O) 61 (nI j) v = some (HP (up C 61 j v) M K O)) ∧
    (∀ j v, j < 6 → jas 0 (HP C M K O) 63 (nI j) v = some (HP (up C 63 j v) M K O)) ∧
    (∀ j v, j < 48 → jas 0 (HP C M K O) 64 (nI j) v = some (HP (up C 64 j v) M K O)) ∧
    (∀ j v, j < 8 → jas 0 (HP C M K O) 66 (nI j) v = some (HP (up C 66 j v) M K O)) ∧
    (∀ j v, j < 2304 → jas 0 (HP C M K O) 67 (nI j) v = some (HP (up C 67 j v) M K O)) ∧
    (∀ j v, j < 8 → jas 0 (HP C M K O) 68 (nI j) v = some (HP (up C 68 j v) M K O)) ∧
    (∀ j v, j < 4 → jas 0 (HP C M K O) 69 (nI j) v = some (HP (up C 69 j v) M K O)) ∧
    (∀ j v, j < 4 → jas 0 (HP C M K O) 70 (nI j) v = some (HP (up C 70 j v) M K O)) := ⟨fun _ _ h => hAwC rfl h,
    fun _ _ h => hAwC rfl h,
    fun _ _ h => hAwC rfl h,
    fun _ _ h => hAwC rfl h,
    fun _ _ h => hAwC rfl h,
    fun _ _ h => hAwC rfl h,
    fun _ _ h => hAwC rfl h,
    fun _ _ h => hAwC rfl h,
    fun _ _ h => hAwC rfl h,
    fun _ _ h => hAwC rfl h,
    fun _ _ h => hAwC rfl h,
    fun _ _ h => hAwC rfl h,
    fun _ _ h => hAwC rfl h,
    fun _ _ h => hAwC rfl h,
    fun _ _ h => hAwC rfl h,
    fun _ _ h => hAwC rfl h,
    fun _ _ h => hAwC rfl h,
    fun _ _ h => hAwC rfl h,
    fun _ _ h => hAwC rfl h,
    fun _ _ h => hAwC rfl h,
    fun _ _ h => hAwC rfl h,
    fun _ _ h => hAwC rfl h,
    fun _ _ h => hAwC rfl h,
    fun _ _ h => hAwC rfl h,
    fun _ _ h => hAwC rfl h,
    fun _ _ h => hAwC rfl h,
    fun _ _ h => hAwC rfl h,
    fun _ _ h => hAwC rfl h,
    fun _ _ h => hAwC rfl h,
    fun _ _ h => hAwC rfl h,
    fun _ _ h => hAwC rfl h,
    fun _ _ h => hAwC rfl h,
    fun _ _ h => hAwC rfl h,
    fun _ _ h => hAwC rfl h,
    fun _ _ h => hAwC rfl h,
    fun _ _ h => hAwC rfl h,
    fun _ _ h => hAwC rfl h,
    fun _ _ h => hAwC rfl h,
    fun _ _ h => hAwC rfl h,
    fun _ _ h => hAwC rfl h,
    fun _ _ h => hAwC rfl h,
    fun _ _ h => hAwC rfl h,
    fun _ _ h => hAwC rfl h,
    fun _ _ h => hAwC rfl h,
    fun _ _ h => hAwC rfl h,
    fun _ _ h => hAwC rfl h,
    fun _ _ h => hAwC rfl h,
    fun _ _ h => hAwC rfl h,
    fun _ _ h => hAwC rfl h,
    fun _ _ h => hAwC rfl h,
    fun _ _ h => hAwC rfl h,
    fun _ _ h => hAwC rfl h,
    fun _ _ h => hAwC rfl h,
    fun _ _ h => hAwC rfl h,
    fun _ _ h => hAwC rfl h,
    fun _ _ h => hAwC rfl h,
    fun _ _ h => hAwC rfl h,
    fun _ _ h => hAwC rfl h⟩
theorem waM (C M : ST) (K : KT) (O : Nat → Int64) : (∀ j v, j < 10 → jas 0 (HP C M K O) 75 (nI j) v = some (HP C (up M 75 j v) K O)) ∧
    (∀ j v, j < 18 → jas 0 (HP C M K O) 76 (nI j) v = some (HP C (up M 76 j v) K O)) ∧
    (∀ j v, j < 18 → jas 0 (HP C M K O) 77 (nI j) v = some (HP C (up M 77 j v) K O)) ∧
    (∀ j v, j < 16 → jas 0 (HP C M K O) 78 (nI j) v = some (HP C (up M 78 j v) K O)) ∧
    (∀ j v, j < 16 → jas 0 (HP C M K O) 79 (nI j) v = some (HP C (up M 79 j v) K O)) ∧
    (∀ j v, j < 16 → jas 0 (HP C M K O) 80 (nI j) v = some (HP C (up M 80 j v) K O)) ∧
    (∀ j v, j < 16 → jas 0 (HP C M K O) 81 (nI j) v = some (HP C (up M 81 j v) K O)) ∧
    (∀ j v, j < 1400 → jas 0 (HP C M K O) 82 (nI j) v = some (HP C (up M 82 j v) K O)) ∧
    (∀ j v, j < 1400 → jas 0 (HP C M K O) 83 (nI j) v = some (HP C (up M 83 j v) K O)) ∧
    (∀ j v, j < 3 → jas 0 (HP C M K O) 84 (nI j) v = some (HP C (up M 84 j v) K O)) ∧
    (∀ j v, j < 8 → jas 0 (HP C M K O) 85 (nI j) v = some (HP C (up M 85 j v) K O)) ∧
    (∀ j v, j < 700 → jas 0 (HP C M K O) 86 (nI j) v = some (HP C (up M 86 j v) K O)) ∧
    (∀ j v, j < 8 → jas 0 (HP C M K O) 87 (nI j) v = some (HP C (up M 87 j v) K O)) ∧
    (∀ j v, j < 8 → jas 0 (HP C M K O) 88 (nI j) v = some (HP C (up M 88 j v) K O)) ∧
    (∀ j v, j < 8 → jas 0 (HP C M K O) 89 (nI j) v = some (HP C (up M 89 j v) K O)) ∧
    (∀ j v, j < 9 → jas 0 (HP C M K O) 90 (nI j) v = some (HP C (up M 90 j v) K O)) ∧
    (∀ j v, j < 9 → jas 0 (HP C M K O) 91 (nI j) v = some (HP C (up M 91 j v) K O)) ∧
    (∀ j v, j < 1720 → jas 0 (HP C M K O) 92 (nI j) v = some (HP C (up M 92 j v) K O)) ∧
    (∀ j v, j < 6 → jas 0 (HP C M K O) 93 (nI j) v = some (HP C (up M 93 j v) K O)) ∧
    (∀ j v, j < 64 → jas 0 (HP C M K O) 94 (nI j) v = some (HP C (up M 94 j v) K O)) ∧
    (∀ j v, j < 8 → jas 0 (HP C M K O) 95 (nI j) v = some (HP C (up M 95 j v) K O)) ∧
    (∀ j v, j < 43 → jas 0 (HP C M K O) 96 (nI j) v = some (HP C (up M 96 j v) K O)) ∧
    (∀ j v, j < 2304 → jas 0 (HP C M K O) 97 (nI j) v = some (HP C (up M 97 j v) K O)) ∧
    (∀ j v, j < 8 → jas 0 (HP C M K O) 98 (nI j) v = some (HP C (up M 98 j v) K O)) ∧
    (∀ j v, j < 8 → jas 0 (HP C M K O) 99 (nI j) v = some (HP C (up M 99 j v) K O)) ∧
    (∀ j v, j < 8 → jas 0 (HP C M K O) 100 (nI j) v = some (HP C (up M 100 j v) K O)) ∧
    (∀ j v, j < 43 → jas 0 (HP C M K O) 101 (nI j) v = some (HP C (up M 101 j v) K O)) ∧
    (∀ j v, j < 80 → jas 0 (HP C M K O) 102 (nI j) v = some (HP C (up M 102 j v) K O)) ∧
    (∀ j v, j < 8 → jas 0 (HP C M K O) 103 (nI j) v = some (HP C (up M 103 j v) K O)) ∧
    (∀ j v, j < 8 → jas 0 (HP C M K O) 104 (nI j) v = some (HP C (up M 104 j v) K O)) ∧
    (∀ j v, j < 43 → jas 0 (HP C M K O) 105 (nI j) v = some (HP C (up M 105 j v) K O)) ∧
    (∀ j v, j < 1720 → jas 0 (HP C M K O) 106 (nI j) v = some (HP C (up M 106 j v) K O)) ∧
    (∀ j v, j < 8 → jas 0 (HP C M K O) 107 (nI j) v = some (HP C (up M 107 j v) K O)) ∧
    (∀ j v, j < 8 → jas 0 (HP C M K O) 108 (nI j) v = some (HP C (up M 108 j v) K O)) ∧
    (∀ j v, j < 8 → jas 0 (HP C M K O) 109 (nI j) v = some (HP C (up M 109 j v) K O)) ∧
    (∀ j v, j < 3 → jas 0 (HP C M K O) 110 (nI j) v = some (HP C (up M 110 j v) K O)) := ⟨fun _ _ h => hAwM rfl h,
    fun _ _ h => hAwM rfl h,
    fun _ _ h => hAwM rfl h,
    fun _ _ h => hAwM rfl h,
    fun _ _ h => hAwM rfl h,
    fun _ _ h => hAwM rfl h,
    fun _ _ h => hAwM rfl h,
    fun _ _ h => hAwM rfl h,
    fun _ _ h => hAwM rfl h,
    fun _ _ h => hAwM rfl h,
    fun _ _ h => hAwM rfl h,
    fun _ _ h => hAwM rfl h,
    fun _ _ h => hAwM rfl h,
    fun _ _ h => hAwM rfl h,
    fun _ _ h => hAwM rfl h,
    fun _ _ h => hAwM rfl h,
    fun _ _ h => hAwM rfl h,
    fun _ _ h => hAwM rfl h,
    fun _ _ h => hAwM rfl h,
    fun _ _ h => hAwM rfl h,
    fun _ _ h => hAwM rfl h,
    fun _ _ h => hAwM rfl h,
    fun _ _ h => hAwM rfl h,
    fun _ _ h => hAwM rfl h,
    fun _ _ h => hAwM rfl h,
    fun _ _ h => hAwM rfl h,
    fun _ _ h => hAwM rfl h,
    fun _ _ h => hAwM rfl h,
    fun _ _ h => hAwM rfl h,
    fun _ _ h => hAwM rfl h,
    fun _ _ h => hAwM rfl h,
    fun _ _ h => hAwM rfl h,
    fun _ _ h => hAwM rfl h,
    fun _ _ h => hAwM rfl h,
    fun _ _ h => hAwM rfl h,
    fun _ _ h => hAwM rfl h⟩
theorem lnH (C M : ST) (K : KT) (O : Nat → Int64) : (jln 1 (HP C M K O) 1 = some (nI 700)) ∧
    (jln 1 (HP C M K O) 3 = some (nI 0)) ∧
    (jln 0 (HP C M K O) 5 = some (nI 9)) ∧
    (jln 0 (HP C M K O) 6 = some (nI 9)) ∧
    (jln 0 (HP C M K O) 7 = some (nI 8)) ∧
    (jln 0 (HP C M K O) 8 = some (nI 8)) ∧
    (jln 0 (HP C M K O) 9 = some (nI 8)) ∧
    (jln 2 (HP C M K O) 10 = some (nI 8)) ∧
    (jln 0 (HP C M K O) 11 = some (nI 700)) ∧
    (jln 0 (HP C M K O) 13 = some (nI 9)) ∧
    (jln 0 (HP C M K O) 14 = some (nI 9)) ∧
    (jln 0 (HP C M K O) 15 = some (nI 8)) ∧
    (jln 0 (HP C M K O) 16 = some (nI 8)) ∧
    (jln 0 (HP C M K O) 17 = some (nI 8)) ∧
    (jln 2 (HP C M K O) 18 = some (nI 8)) ∧
    (jln 0 (HP C M K O) 19 = some (nI 700)) ∧
    (jln 0 (HP C M K O) 22 = some (nI 8)) ∧
    (jln 0 (HP C M K O) 23 = some (nI 8)) ∧
    (jln 0 (HP C M K O) 24 = some (nI 8)) ∧
    (jln 0 (HP C M K O) 25 = some (nI 8)) ∧
    (jln 0 (HP C M K O) 26 = some (nI 8)) ∧
    (jln 0 (HP C M K O) 27 = some (nI 9)) ∧
    (jln 0 (HP C M K O) 28 = some (nI 9)) ∧
    (jln 0 (HP C M K O) 30 = some (nI 6)) ∧
    (jln 0 (HP C M K O) 31 = some (nI 48)) ∧
    (jln 0 (HP C M K O) 32 = some (nI 3)) ∧
    (jln 0 (HP C M K O) 33 = some (nI 8)) ∧
    (jln 0 (HP C M K O) 34 = some (nI 8)) ∧
    (jln 0 (HP C M K O) 35 = some (nI 8)) ∧
    (jln 0 (HP C M K O) 36 = some (nI 1720)) ∧
    (jln 0 (HP C M K O) 39 = some (nI 8)) ∧
    (jln 0 (HP C M K O) 40 = some (nI 8)) ∧
    (jln 0 (HP C M K O) 41 = some (nI 8)) ∧
    (jln 0 (HP C M K O) 42 = some (nI 8)) ∧
    (jln 0 (HP C M K O) 43 = some (nI 8)) ∧
    (jln 0 (HP C M K O) 44 = some (nI 9)) ∧
    (jln 0 (HP C M K O) 45 = some (nI 9)) ∧
    (jln 0 (HP C M K O) 47 = some (nI 6)) ∧
    (jln 0 (HP C M K O) 48 = some (nI 48)) ∧
    (jln 0 (HP C M K O) 49 = some (nI 3)) ∧
    (jln 0 (HP C M K O) 50 = some (nI 8)) ∧
    (jln 0 (HP C M K O) 51 = some (nI 8)) ∧
    (jln 0 (HP C M K O) 52 = some (nI 8)) ∧
    (jln 0 (HP C M K O) 53 = some (nI 1720)) ∧
    (jln 0 (HP C M K O) 55 = some (nI 8)) ∧
    (jln 0 (HP C M K O) 56 = some (nI 8)) ∧
    (jln 0 (HP C M K O) 57 = some (nI 8)) ∧
    (jln 0 (HP C M K O) 58 = some (nI 8)) ∧
    (jln 0 (HP C M K O) 59 = some (nI 8)) ∧
    (jln 0 (HP C M K O) 60 = some (nI 9)) ∧
    (jln 0 (HP C M K O) 61 = some (nI 9)) ∧
    (jln 0 (HP C M K O) 63 = some (nI 6)) ∧
    (jln 0 (HP C M K O) 64 = some (nI 48)) ∧
    (jln 0 (HP C M K O) 66 = some (nI 8)) ∧
    (jln 0 (HP C M K O) 67 = some (nI 2304)) ∧
    (jln 0 (HP C M K O) 68 = some (nI 8)) ∧
    (jln 0 (HP C M K O) 69 = some (nI 4)) ∧
    (jln 0 (HP C M K O) 70 = some (nI 4)) ∧
    (jln 4 (HP C M K O) 72 = some (nI 2)) ∧
    (jln 4 (HP C M K O) 73 = some (nI 6)) ∧
    (jln 4 (HP C M K O) 74 = some (nI 6)) ∧
    (jln 0 (HP C M K O) 75 = some (nI 10)) ∧
    (jln 0 (HP C M K O) 76 = some (nI 18)) ∧
    (jln 0 (HP C M K O) 77 = some (nI 18)) ∧
    (jln 0 (HP C M K O) 78 = some (nI 16)) ∧
    (jln 0 (HP C M K O) 79 = some (nI 16)) ∧
    (jln 0 (HP C M K O) 80 = some (nI 16)) ∧
    (jln 0 (HP C M K O) 81 = some (nI 16)) ∧
    (jln 0 (HP C M K O) 82 = some (nI 1400)) ∧
    (jln 0 (HP C M K O) 83 = some (nI 1400)) ∧
    (jln 0 (HP C M K O) 84 = some (nI 3)) ∧
    (jln 0 (HP C M K O) 85 = some (nI 8)) ∧
    (jln 0 (HP C M K O) 86 = some (nI 700)) ∧
    (jln 0 (HP C M K O) 87 = some (nI 8)) ∧
    (jln 0 (HP C M K O) 88 = some (nI 8)) ∧
    (jln 0 (HP C M K O) 89 = some (nI 8)) ∧
    (jln 0 (HP C M K O) 90 = some (nI 9)) ∧
    (jln 0 (HP C M K O) 91 = some (nI 9)) ∧
    (jln 0 (HP C M K O) 92 = some (nI 1720)) ∧
    (jln 0 (HP C M K O) 93 = some (nI 6)) ∧
    (jln 0 (HP C M K O) 94 = some (nI 64)) ∧
    (jln 0 (HP C M K O) 95 = some (nI 8)) ∧
    (jln 0 (HP C M K O) 96 = some (nI 43)) ∧
    (jln 0 (HP C M K O) 97 = some (nI 2304)) ∧
    (jln 0 (HP C M K O) 98 = some (nI 8)) ∧
    (jln 0 (HP C M K O) 99 = some (nI 8)) ∧
    (jln 0 (HP C M K O) 100 = some (nI 8)) ∧
    (jln 0 (HP C M K O) 101 = some (nI 43)) ∧
    (jln 0 (HP C M K O) 102 = some (nI 80)) ∧
    (jln 0 (HP C M K O) 103 = some (nI 8)) ∧
    (jln 0 (HP C M K O) 104 = some (nI 8)) ∧
    (jln 0 (HP C M K O) 105 = some (nI 43)) ∧
    (jln 0 (HP C M K O) 106 = some (nI 1720)) ∧
    (jln 0 (HP C M K O) 107 = some (nI 8)) ∧
    (jln 0 (HP C M K O) 108 = some (nI 8)) ∧
    (jln 0 (HP C M K O) 109 = some (nI 8)) ∧
    (jln 0 (HP C M K O) 110 = some (nI 3)) ∧
    (jln 3 (HP C M K O) 111 = some (nI 1)) := ⟨hLn rfl,
    hLn rfl,
    hLn rfl,
    hLn rfl,
    hLn rfl,
    hLn rfl,
    hLn rfl,
    hLn rfl,
    hLn rfl,
    hLn rfl,
    hLn rfl,
    hLn rfl,
    hLn rfl,
    hLn rfl,
    hLn rfl,
    hLn rfl,
    hLn rfl,
    hLn rfl,
    hLn rfl,
    hLn rfl,
    hLn rfl,
    hLn rfl,
    hLn rfl,
    hLn rfl,
    hLn rfl,
    hLn rfl,
    hLn rfl,
    hLn rfl,
    hLn rfl,
    hLn rfl,
    hLn rfl,
    hLn rfl,
    hLn rfl,
    hLn rfl,
    hLn rfl,
    hLn rfl,
    hLn rfl,
    hLn rfl,
    hLn rfl,
    hLn rfl,
    hLn rfl,
    hLn rfl,
    hLn rfl,
    hLn rfl,
    hLn rfl,
    hLn rfl,
    hLn rfl,
    hLn rfl,
    hLn rfl,
    hLn rfl,
    hLn rfl,
    hLn rfl,
    hLn rfl,
    hLn rfl,
    hLn rfl,
    hLn rfl,
    hLn rfl,
    hLn rfl,
    hLn rfl,
    hLn rfl,
    hLn rfl,
    hLn rfl,
    hLn rfl,
    hLn rfl,
    hLn rfl,
    hLn rfl,
    hLn rfl,
    hLn rfl,
    hLn rfl,
    hLn rfl,
    hLn rfl,
    hLn rfl,
    hLn rfl,
    hLn rfl,
    hLn rfl,
    hLn rfl,
    hLn rfl,
    hLn rfl,
    hLn rfl,
    hLn rfl,
    hLn rfl,
    hLn rfl,
    hLn rfl,
    hLn rfl,
    hLn rfl,
    hLn rfl,
    hLn rfl,
    hLn rfl,
    hLn rfl,
    hLn rfl,
    hLn rfl,
    hLn rfl,
    hLn rfl,
    hLn rfl,
    hLn rfl,
    hLn rfl,
    hLn rfl,
    hLn rfl⟩
theorem rlC (C M : ST) (K : KT) (O : Nat → Int64) : (jal 0 (HP C M K O) 30 0 = some (C 30 0)) ∧
    (jal 0 (HP C M K O) 30 1 = some (C 30 1)) ∧
    (jal 0 (HP C M K O) 30 2 = some (C 30 2)) ∧
    (jal 0 (HP C M K O) 30 3 = some (C 30 3)) ∧
    (jal 0 (HP C M K O) 30 4 = some (C 30 4)) ∧
    (jal 0 (HP C M K O) 30 5 = some (C 30 5)) ∧
    (jal 0 (HP C M K O) 63 0 = some (C 63 0)) ∧
    (jal 0 (HP C M K O) 63 1 = some (C 63 1)) ∧
    (jal 0 (HP C M K O) 63 2 = some (C 63 2)) ∧
    (jal 0 (HP C M K O) 63 3 = some (C 63 3)) ∧
    (jal 0 (HP C M K O) 63 4 = some (C 63 4)) ∧
    (jal 0 (HP C M K O) 63 5 = some (C 63 5)) ∧
    (jal 0 (HP C M K O) 31 0 = some (C 31 0)) ∧
    (jal 0 (HP C M K O) 64 0 = some (C 64 0)) ∧
    (jal 0 (HP C M K O) 32 0 = some (C 32 0)) ∧
    (jal 0 (HP C M K O) 32 1 = some (C 32 1)) ∧
    (jal 0 (HP C M K O) 32 2 = some (C 32 2)) ∧
    (jal 0 (HP C M K O) 69 0 = some (C 69 0)) ∧
    (jal 0 (HP C M K O) 69 1 = some (C 69 1)) ∧
    (jal 0 (HP C M K O) 69 2 = some (C 69 2)) ∧
    (jal 0 (HP C M K O) 69 3 = some (C 69 3)) ∧
    (jal 0 (HP C M K O) 70 0 = some (C 70 0)) ∧
    (jal 0 (HP C M K O) 70 1 = some (C 70 1)) ∧
    (jal 0 (HP C M K O) 70 2 = some (C 70 2)) ∧
    (jal 0 (HP C M K O) 70 3 = some (C 70 3)) ∧
    (jal 0 (HP C M K O) 49 0 = some (C 49 0)) ∧
    (jal 0 (HP C M K O) 49 1 = some (C 49 1)) ∧
    (jal 0 (HP C M K O) 49 2 = some (C 49 2)) := ⟨hAC (n := 6) (j := 0) rfl (by decide),
    hAC (n := 6) (j := 1) rfl (by decide),
    hAC (n := 6) (j := 2) rfl (by decide),
    hAC (n := 6) (j := 3) rfl (by decide),
    hAC (n := 6) (j := 4) rfl (by decide),
    hAC (n := 6) (j := 5) rfl (by decide),
    hAC (n := 6) (j := 0) rfl (by decide),
    hAC (n := 6) (j := 1) rfl (by decide),
    hAC (n := 6) (j := 2) rfl (by decide),
    hAC (n := 6) (j := 3) rfl (by decide),
    hAC (n := 6) (j := 4) rfl (by decide),
    hAC (n := 6) (j := 5) rfl (by decide),
    hAC (n := 48) (j := 0) rfl (by decide),
    hAC (n := 48) (j := 0) rfl (by decide),
    hAC (n := 3) (j := 0) rfl (by decide),
    hAC (n := 3) (j := 1) rfl (by decide),
    hAC (n := 3) (j := 2) rfl (by decide),
    hAC (n := 4) (j := 0) rfl (by decide),
    hAC (n := 4) (j := 1) rfl (by decide),
    hAC (n := 4) (j := 2) rfl (by decide),
    hAC (n := 4) (j := 3) rfl (by decide),
    hAC (n := 4) (j := 0) rfl (by decide),
    hAC (n := 4) (j := 1) rfl (by decide),
    hAC (n := 4) (j := 2) rfl (by decide),
    hAC (n := 4) (j := 3) rfl (by decide),
    hAC (n := 3) (j := 0) rfl (by decide),
    hAC (n := 3) (j := 1) rfl (by decide),
    hAC (n := 3) (j := 2) rfl (by decide)⟩
theorem rlM (C M : ST) (K : KT) (O : Nat → Int64) : (jal 0 (HP C M K O) 75 0 = some (M 75 0)) ∧
    (jal 0 (HP C M K O) 75 1 = some (M 75 1)) ∧
    (jal 0 (HP C M K O) 75 2 = some (M 75 2)) ∧
    (jal 0 (HP C M K O) 75 3 = some (M 75 3)) ∧
    (jal 0 (HP C M K O) 75 4 = some (M 75 4)) ∧
    (jal 0 (HP C M K O) 75 5 = some (M 75 5)) ∧
    (jal 0 (HP C M K O) 75 6 = some (M 75 6)) ∧
    (jal 0 (HP C M K O) 75 7 = some (M 75 7)) ∧
    (jal 0 (HP C M K O) 75 8 = some (M 75 8)) ∧
    (jal 0 (HP C M K O) 75 9 = some (M 75 9)) ∧
    (jal 0 (HP C M K O) 93 0 = some (M 93 0)) ∧
    (jal 0 (HP C M K O) 93 1 = some (M 93 1)) ∧
    (jal 0 (HP C M K O) 93 2 = some (M 93 2)) ∧
    (jal 0 (HP C M K O) 93 3 = some (M 93 3)) ∧
    (jal 0 (HP C M K O) 93 4 = some (M 93 4)) ∧
    (jal 0 (HP C M K O) 93 5 = some (M 93 5)) ∧
    (jal 0 (HP C M K O) 94 0 = some (M 94 0)) ∧
    (jal 0 (HP C M K O) 84 0 = some (M 84 0)) ∧
    (jal 0 (HP C M K O) 84 1 = some (M 84 1)) ∧
    (jal 0 (HP C M K O) 84 2 = some (M 84 2)) ∧
    (jal 0 (HP C M K O) 104 0 = some (M 104 0)) ∧
    (jal 0 (HP C M K O) 104 1 = some (M 104 1)) ∧
    (jal 0 (HP C M K O) 104 2 = some (M 104 2)) ∧
    (jal 0 (HP C M K O) 104 3 = some (M 104 3)) ∧
    (jal 0 (HP C M K O) 104 4 = some (M 104 4)) ∧
    (jal 0 (HP C M K O) 104 5 = some (M 104 5)) ∧
    (jal 0 (HP C M K O) 104 6 = some (M 104 6)) ∧
    (jal 0 (HP C M K O) 104 7 = some (M 104 7)) ∧
    (jal 0 (HP C M K O) 97 0 = some (M 97 0)) ∧
    (jal 0 (HP C M K O) 102 0 = some (M 102 0)) ∧
    (jal 0 (HP C M K O) 110 0 = some (M 110 0)) ∧
    (jal 0 (HP C M K O) 110 1 = some (M 110 1)) ∧
    (jal 0 (HP C M K O) 110 2 = some (M 110 2)) := ⟨hAM (n := 10) (j := 0) rfl (by decide),
    hAM (n := 10) (j := 1) rfl (by decide),
    hAM (n := 10) (j := 2) rfl (by decide),
    hAM (n := 10) (j := 3) rfl (by decide),
    hAM (n := 10) (j := 4) rfl (by decide),
    hAM (n := 10) (j := 5) rfl (by decide),
    hAM (n := 10) (j := 6) rfl (by decide),
    hAM (n := 10) (j := 7) rfl (by decide),
    hAM (n := 10) (j := 8) rfl (by decide),
    hAM (n := 10) (j := 9) rfl (by decide),
    hAM (n := 6) (j := 0) rfl (by decide),
    hAM (n := 6) (j := 1) rfl (by decide),
    hAM (n := 6) (j := 2) rfl (by decide),
    hAM (n := 6) (j := 3) rfl (by decide),
    hAM (n := 6) (j := 4) rfl (by decide),
    hAM (n := 6) (j := 5) rfl (by decide),
    hAM (n := 64) (j := 0) rfl (by decide),
    hAM (n := 3) (j := 0) rfl (by decide),
    hAM (n := 3) (j := 1) rfl (by decide),
    hAM (n := 3) (j := 2) rfl (by decide),
    hAM (n := 8) (j := 0) rfl (by decide),
    hAM (n := 8) (j := 1) rfl (by decide),
    hAM (n := 8) (j := 2) rfl (by decide),
    hAM (n := 8) (j := 3) rfl (by decide),
    hAM (n := 8) (j := 4) rfl (by decide),
    hAM (n := 8) (j := 5) rfl (by decide),
    hAM (n := 8) (j := 6) rfl (by decide),
    hAM (n := 8) (j := 7) rfl (by decide),
    hAM (n := 2304) (j := 0) rfl (by decide),
    hAM (n := 80) (j := 0) rfl (by decide),
    hAM (n := 3) (j := 0) rfl (by decide),
    hAM (n := 3) (j := 1) rfl (by decide),
    hAM (n := 3) (j := 2) rfl (by decide)⟩
theorem wlC (C M : ST) (K : KT) (O : Nat → Int64) : (∀ v, jas 0 (HP C M K O) 30 0 v = some (HP (up C 30 0 v) M K O)) ∧
    (∀ v, jas 0 (HP C M K O) 30 1 v = some (HP (up C 30 1 v) M K O)) ∧
    (∀ v, jas 0 (HP C M K O) 30 2 v = some (HP (up C 30 2 v) M K O)) ∧
    (∀ v, jas 0 (HP C M K O) 30 3 v = some (HP (up C 30 3 v) M K O)) ∧
    (∀ v, jas 0 (HP C M K O) 30 4 v = some (HP (up C 30 4 v) M K O)) ∧
    (∀ v, jas 0 (HP C M K O) 30 5 v = some (HP (up C 30 5 v) M K O)) ∧
    (∀ v, jas 0 (HP C M K O) 63 0 v = some (HP (up C 63 0 v) M K O)) ∧
    (∀ v, jas 0 (HP C M K O) 63 1 v = some (HP (up C 63 1 v) M K O)) ∧
    (∀ v, jas 0 (HP C M K O) 63 2 v = some (HP (up C 63 2 v) M K O)) ∧
    (∀ v, jas 0 (HP C M K O) 63 3 v = some (HP (up C 63 3 v) M K O)) ∧
    (∀ v, jas 0 (HP C M K O) 63 4 v = some (HP (up C 63 4 v) M K O)) ∧
    (∀ v, jas 0 (HP C M K O) 63 5 v = some (HP (up C 63 5 v) M K O)) ∧
    (∀ v, jas 0 (HP C M K O) 31 0 v = some (HP (up C 31 0 v) M K O)) ∧
    (∀ v, jas 0 (HP C M K O) 64 0 v = some (HP (up C 64 0 v) M K O)) ∧
    (∀ v, jas 0 (HP C M K O) 32 0 v = some (HP (up C 32 0 v) M K O)) ∧
    (∀ v, jas 0 (HP C M K O) 32 1 v = some (HP (up C 32 1 v) M K O)) ∧
    (∀ v, jas 0 (HP C M K O) 32 2 v = some (HP (up C 32 2 v) M K O)) ∧
    (∀ v, jas 0 (HP C M K O) 69 0 v = some (HP (up C 69 0 v) M K O)) ∧
    (∀ v, jas 0 (HP C M K O) 69 1 v = some (HP (up C 69 1 v) M K O)) ∧
    (∀ v, jas 0 (HP C M K O) 69 2 v = some (HP (up C 69 2 v) M K O)) ∧
    (∀ v, jas 0 (HP C M K O) 69 3 v = some (HP (up C 69 3 v) M K O)) ∧
    (∀ v, jas 0 (HP C M K O) 70 0 v = some (HP (up C 70 0 v) M K O)) ∧
    (∀ v, jas 0 (HP C M K O) 70 1 v = some (HP (up C 70 1 v) M K O)) ∧
    (∀ v, jas 0 (HP C M K O) 70 2 v = some (HP (up C 70 2 v) M K O)) ∧
    (∀ v, jas 0 (HP C M K O) 70 3 v = some (HP (up C 70 3 v) M K O)) ∧
    (∀ v, jas 0 (HP C M K O) 49 0 v = some (HP (up C 49 0 v) M K O)) ∧
    (∀ v, jas 0 (HP C M K O) 49 1 v = some (HP (up C 49 1 v) M K O)) ∧
    (∀ v, jas 0 (HP C M K O) 49 2 v = some (HP (up C 49 2 v) M K O)) := ⟨fun _ => hAwC (n := 6) (j := 0) rfl (by decide),
    fun _ => hAwC (n := 6) (j := 1) rfl (by decide),
    fun _ => hAwC (n := 6) (j := 2) rfl (by decide),
    fun _ => hAwC (n := 6) (j := 3) rfl (by decide),
    fun _ => hAwC (n := 6) (j := 4) rfl (by decide),
    fun _ => hAwC (n := 6) (j := 5) rfl (by decide),
    fun _ => hAwC (n := 6) (j := 0) rfl (by decide),
    fun _ => hAwC (n := 6) (j := 1) rfl (by decide),
    fun _ => hAwC (n := 6) (j := 2) rfl (by decide),
    fun _ => hAwC (n := 6) (j := 3) rfl (by decide),
    fun _ => hAwC (n := 6) (j := 4) rfl (by decide),
    fun _ => hAwC (n := 6) (j := 5) rfl (by decide),
    fun _ => hAwC (n := 48) (j := 0) rfl (by decide),
    fun _ => hAwC (n := 48) (j := 0) rfl (by decide),
    fun _ => hAwC (n := 3) (j := 0) rfl (by decide),
    fun _ => hAwC (n := 3) (j := 1) rfl (by decide),
    fun _ => hAwC (n := 3) (j := 2) rfl (by decide),
    fun _ => hAwC (n := 4) (j := 0) rfl (by decide),
    fun _ => hAwC (n := 4) (j := 1) rfl (by decide),
    fun _ => hAwC (n := 4) (j := 2) rfl (by decide),
    fun _ => hAwC (n := 4) (j := 3) rfl (by decide),
    fun _ => hAwC (n := 4) (j := 0) rfl (by decide),
    fun _ => hAwC (n := 4) (j := 1) rfl (by decide),
    fun _ => hAwC (n := 4) (j := 2) rfl (by decide),
    fun _ => hAwC (n := 4) (j := 3) rfl (by decide),
    fun _ => hAwC (n := 3) (j := 0) rfl (by decide),
    fun _ => hAwC (n := 3) (j := 1) rfl (by decide),
    fun _ => hAwC (n := 3) (j := 2) rfl (by decide)⟩
theorem wlM (C M : ST) (K : KT) (O : Nat → Int64) : (∀ v, jas 0 (HP C M K O) 75 0 v = some (HP C (up M 75 0 v) K O)) ∧
    (∀ v, jas 0 (HP C M K O) 75 1 v = some (HP C (up M 75 1 v) K O)) ∧
    (∀ v, jas 0 (HP C M K O) 75 2 v = some (HP C (up M 75 2 v) K O)) ∧
    (∀ v, jas 0 (HP C M K O) 75 3 v = some (HP C (up M 75 3 v) K O)) ∧
    (∀ v, jas 0 (HP C M K O) 75 4 v = some (HP C (up M 75 4 v) K O)) ∧
    (∀ v, jas 0 (HP C M K O) 75 5 v = some (HP C (up M 75 5 v) K O)) ∧
    (∀ v, jas 0 (HP C M K O) 75 6 v = some (HP C (up M 75 6 v) K O)) ∧
    (∀ v, jas 0 (HP C M K O) 75 7 v = some (HP C (up M 75 7 v) K O)) ∧
    (∀ v, jas 0 (HP C M K O) 75 8 v = some (HP C (up M 75 8 v) K O)) ∧
    (∀ v, jas 0 (HP C M K O) 75 9 v = some (HP C (up M 75 9 v) K O)) ∧
    (∀ v, jas 0 (HP C M K O) 93 0 v = some (HP C (up M 93 0 v) K O)) ∧
    (∀ v, jas 0 (HP C M K O) 93 1 v = some (HP C (up M 93 1 v) K O)) ∧
    (∀ v, jas 0 (HP C M K O) 93 2 v = some (HP C (up M 93 2 v) K O)) ∧
    (∀ v, jas 0 (HP C M K O) 93 3 v = some (HP C (up M 93 3 v) K O)) ∧
    (∀ v, jas 0 (HP C M K O) 93 4 v = some (HP C (up M 93 4 v) K O)) ∧
    (∀ v, jas 0 (HP C M K O) 93 5 v = some (HP C (up M 93 5 v) K O)) ∧
    (∀ v, jas 0 (HP C M K O) 94 0 v = some (HP C (up M 94 0 v) K O)) ∧
    (∀ v, jas 0 (HP C M K O) 84 0 v = some (HP C (up M 84 0 v) K O)) ∧
    (∀ v, jas 0 (HP C M K O) 84 1 v = some (HP C (up M 84 1 v) K O)) ∧
    (∀ v, jas 0 (HP C M K O) 84 2 v = some (HP C (up M 84 2 v) K O)) ∧
    (∀ v, jas 0 (HP C M K O) 104 0 v = some (HP C (up M 104 0 v) K O)) ∧
    (∀ v, jas 0 (HP C M K O) 104 1 v = some (HP C (up M 104 1 v) K O)) ∧
    (∀ v, jas 0 (HP C M K O) 104 2 v = some (HP C (up M 104 2 v) K O)) ∧
    (∀ v, jas 0 (HP C M K O) 104 3 v = some (HP C (up M 104 3 v) K O)) ∧
    (∀ v, jas 0 (HP C M K O) 104 4 v = some (HP C (up M 104 4 v) K O)) ∧
    (∀ v, jas 0 (HP C M K O) 104 5 v = some (HP C (up M 104 5 v) K O)) ∧
    (∀ v, jas 0 (HP C M K O) 104 6 v = some (HP C (up M 104 6 v) K O)) ∧
    (∀ v, jas 0 (HP C M K O) 104 7 v = some (HP C (up M 104 7 v) K O)) ∧
    (∀ v, jas 0 (HP C M K O) 97 0 v = some (HP C (up M 97 0 v) K O)) ∧
    (∀ v, jas 0 (HP C M K O) 102 0 v = some (HP C (up M 102 0 v) K O)) ∧
    (∀ v, jas 0 (HP C M K O) 110 0 v = some (HP C (up M 110 0 v) K O)) ∧
    (∀ v, jas 0 (HP C M K O) 110 1 v = some (HP C (up M 110 1 v) K O)) ∧
    (∀ v, jas 0 (HP C M K O) 110 2 v = some (HP C (up M 110 2 v) K O)) := ⟨fun _ => hAwM (n := 10) (j := 0) rfl (by decide),
    fun _ => hAwM (n := 10) (j := 1) rfl (by decide),
    fun _ => hAwM (n := 10) (j := 2) rfl (by decide),
    fun _ => hAwM (n := 10) (j := 3) rfl (by decide),
    fun _ => hAwM (n := 10) (j := 4) rfl (by decide),
    fun _ => hAwM (n := 10) (j := 5) rfl (by decide),
    fun _ => hAwM (n := 10) (j := 6) rfl (by decide),
    fun _ => hAwM (n := 10) (j := 7) rfl (by decide),
    fun _ => hAwM (n := 10) (j := 8) rfl (by decide),
    fun _ => hAwM (n := 10) (j := 9) rfl (by decide),
    fun _ => hAwM (n := 6) (j := 0) rfl (by decide),
    fun _ => hAwM (n := 6) (j := 1) rfl (by decide),
    fun _ => hAwM (n := 6) (j := 2) rfl (by decide),
    fun _ => hAwM (n := 6) (j := 3) rfl (by decide),
    fun _ => hAwM (n := 6) (j := 4) rfl (by decide),
    fun _ => hAwM (n := 6) (j := 5) rfl (by decide),
    fun _ => hAwM (n := 64) (j := 0) rfl (by decide),
    fun _ => hAwM (n := 3) (j := 0) rfl (by decide),
    fun _ => hAwM (n := 3) (j := 1) rfl (by decide),
    fun _ => hAwM (n := 3) (j := 2) rfl (by decide),
    fun _ => hAwM (n := 8) (j := 0) rfl (by decide),
    fun _ => hAwM (n := 8) (j := 1) rfl (by decide),
    fun _ => hAwM (n := 8) (j := 2) rfl (by decide),
    fun _ => hAwM (n := 8) (j := 3) rfl (by decide),
    fun _ => hAwM (n := 8) (j := 4) rfl (by decide),
    fun _ => hAwM (n := 8) (j := 5) rfl (by decide),
    fun _ => hAwM (n := 8) (j := 6) rfl (by decide),
    fun _ => hAwM (n := 8) (j := 7) rfl (by decide),
    fun _ => hAwM (n := 2304) (j := 0) rfl (by decide),
    fun _ => hAwM (n := 80) (j := 0) rfl (by decide),
    fun _ => hAwM (n := 3) (j := 0) rfl (by decide),
    fun _ => hAwM (n := 3) (j := 1) rfl (by decide),
    fun _ => hAwM (n := 3) (j := 2) rfl (by decide)⟩
