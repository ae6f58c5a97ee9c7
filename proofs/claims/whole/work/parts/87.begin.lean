/-! a text that is taken: the class begins, the reference takes over -/
section S87
variable {C C' M M' : ST} {K : KT} {O : Nat → Int64} {N g : Nat}
theorem nIs (k : Nat) : nI k + 1 = nI (k + 1) := nI_add k 1
theorem takeHalf_m {a h L : Nat} (hl : ∀ M, jln 0 (HP C M K O) a = some (nI L)) (hr : ∀ M j, j < L → jal 0 (HP C M K O) a (nI j) = some (M a j)) (hs : ∀ M j v, j < L → jas 0 (HP C M K O) a (nI j) v = some (HP C (up M a j v) K O)) (hL : L = h + h) (hd : nI L / 2 = nI h) (hh : h ≤ 900) (hN : 1000 ≤ N) : ∃ M', f_X7_takeHalf N (HP C M K O) a = some (HP C M' K O) ∧ (∀ x, x ≠ a → M' x = M x) ∧ (∀ j, j < h → M' a j = M a (h + j)) := by
  have q := itr_inv (body := fun s : Int32 × AH => f_X7_takeHalf_l2 N a s.1 s.2)
    (fun k s => ∃ M', s = (nI k, HP C M' K O) ∧ (∀ x, x ≠ a → M' x = M x) ∧ (∀ j, j < k → M' a j = M a (h + j)) ∧ ∀ j, k ≤ j → M' a j = M a j)
    (P := fun r => ∃ M', r = HP C M' K O ∧ (∀ x, x ≠ a → M' x = M x) ∧ (∀ j, j < h → M' a j = M a (h + j))) (n := h) ?_ ?_ (s := (0, HP C M K O)) ⟨M, rfl, fun _ _ => rfl, fun j hj => absurd hj (Nat.not_lt_zero j), fun _ _ => rfl⟩ (N := N) (by omega)
  · obtain ⟨r, q1, M', e, q2⟩ := q
    rw [e] at q1
    refine ⟨M', ?_, q2⟩
    simp only [f_X7_takeHalf, f_X7_takeHalf_b2, ↓bnd q1]
  · rintro k s hk ⟨M1, rfl, h1, h2, h3⟩
    left
    refine ⟨(nI (k + 1), HP C (up M1 a k (M1 a (h + k))) K O), ?_, _, rfl, fun x hx => (up_o hx).trans (h1 x hx), fun j hj => ?_, fun j hj => ?_⟩
    · have e : nI h + nI k = nI (h + k) := nI_add h k
      simp only [f_X7_takeHalf_l2, ↓bnd (hl M1), hd, nle hk (by omega), ↓reduceIte, e, ↓bnd (hr M1 (h + k) (by omega)), ↓bnd (hs M1 k _ (by omega)), nIs]
    · rw [up_s]; unfold upd; split
      · rename_i z; rw [z, h3 _ (by omega)]
      · exact h2 j (by omega)
    · rw [up_s, upd_o (by omega)]; exact h3 j (by omega)
  · rintro s ⟨M1, rfl, h1, h2, h3⟩
    refine ⟨_, ?_, M1, rfl, h1, h2⟩
    simp only [f_X7_takeHalf_l2, ↓bnd (hl M1), hd, yle (Nat.le_refl h) (by omega), ↓reduceIte]
theorem th_75 (hN : 1000 ≤ N) : ∃ M', f_X7_takeHalf N (HP C M K O) 75 = some (HP C M' K O) ∧ (∀ x, x ≠ 75 → M' x = M x) ∧ (∀ j, j < 5 → M' 75 j = M 75 (5 + j)) := takeHalf_m (L := 10) (fun M => by simp only [lnH]) (fun M j hj => by simp only [raM, hj]) (fun M j v hj => by simp only [waM, hj]) rfl (by decide +kernel) (by decide) hN
theorem th_76 (hN : 1000 ≤ N) : ∃ M', f_X7_takeHalf N (HP C M K O) 76 = some (HP C M' K O) ∧ (∀ x, x ≠ 76 → M' x = M x) ∧ (∀ j, j < 9 → M' 76 j = M 76 (9 + j)) := takeHalf_m (L := 18) (fun M => by simp only [lnH]) (fun M j hj => by simp only [raM, hj]) (fun M j v hj => by simp only [waM, hj]) rfl (by decide +kernel) (by decide) hN
theorem th_77 (hN : 1000 ≤ N) : ∃ M', f_X7_takeHalf N (HP C M K O) 77 = some (HP C M' K O) ∧ (∀ x, x ≠ 77 → M' x = M x) ∧ (∀ j, j < 9 → M' 77 j = M 77 (9 + j)) := takeHalf_m (L := 18) (fun M => by simp only [lnH]) (fun M j hj => by simp only [raM, hj]) (fun M j v hj => by simp only [waM, hj]) rfl (by decide +kernel) (by decide) hN
theorem th_78 (hN : 1000 ≤ N) : ∃ M', f_X7_takeHalf N (HP C M K O) 78 = some (HP C M' K O) ∧ (∀ x, x ≠ 78 → M' x = M x) ∧ (∀ j, j < 8 → M' 78 j = M 78 (8 + j)) := takeHalf_m (L := 16) (fun M => by simp only [lnH]) (fun M j hj => by simp only [raM, hj]) (fun M j v hj => by simp only [waM, hj]) rfl (by decide +kernel) (by decide) hN
theorem th_79 (hN : 1000 ≤ N) : ∃ M', f_X7_takeHalf N (HP C M K O) 79 = some (HP C M' K O) ∧ (∀ x, x ≠ 79 → M' x = M x) ∧ (∀ j, j < 8 → M' 79 j = M 79 (8 + j)) := takeHalf_m (L := 16) (fun M => by simp only [lnH]) (fun M j hj => by simp only [raM, hj]) (fun M j v hj => by simp only [waM, hj]) rfl (by decide +kernel) (by decide) hN
theorem th_80 (hN : 1000 ≤ N) : ∃ M', f_X7_takeHalf N (HP C M K O) 80 = some (HP C M' K O) ∧ (∀ x, x ≠ 80 → M' x = M x) ∧ (∀ j, j < 8 → M' 80 j = M 80 (8 + j)) := takeHalf_m (L := 16) (fun M => by simp only [lnH]) (fun M j hj => by simp only [raM, hj]) (fun M j v hj => by simp only [waM, hj]) rfl (by decide +kernel) (by decide) hN
theorem th_81 (hN : 1000 ≤ N) : ∃ M', f_X7_takeHalf N (HP C M K O) 81 = some (HP C M' K O) ∧ (∀ x, x ≠ 81 → M' x = M x) ∧ (∀ j, j < 8 → M' 81 j = M 81 (8 + j)) := takeHalf_m (L := 16) (fun M => by simp only [lnH]) (fun M j hj => by simp only [raM, hj]) (fun M j v hj => by simp only [waM, hj]) rfl (by decide +kernel) (by decide) hN
theorem th_82 (hN : 1000 ≤ N) : ∃ M', f_X7_takeHalf N (HP C M K O) 82 = some (HP C M' K O) ∧ (∀ x, x ≠ 82 → M' x = M x) ∧ (∀ j, j < 700 → M' 82 j = M 82 (700 + j)) := takeHalf_m (L := 1400) (fun M => by simp only [lnH]) (fun M j hj => by simp only [raM, hj]) (fun M j v hj => by simp only [waM, hj]) rfl (by decide +kernel) (by decide) hN
theorem th_83 (hN : 1000 ≤ N) : ∃ M', f_X7_takeHalf N (HP C M K O) 83 = some (HP C M' K O) ∧ (∀ x, x ≠ 83 → M' x = M x) ∧ (∀ j, j < 700 → M' 83 j = M 83 (700 + j)) := takeHalf_m (L := 1400) (fun M => by simp only [lnH]) (fun M j hj => by simp only [raM, hj]) (fun M j v hj => by simp only [waM, hj]) rfl (by decide +kernel) (by decide) hN
set_option maxHeartbeats 4000000 in
theorem l70_m {q : Nat} (hq : q ≤ 8) (h2 : M 75 2 = nI q) (hN : 1000 ≤ N) : ∃ M', itr (fun s : Int32 × AH => f_X7_takeOver_l70 N 71 s.1 s.2) N (0, HP C M K O) = some (HP C M' K O) ∧ (∀ x, x ≠ 85 → x ≠ 87 → x ≠ 88 → x ≠ 89 → M' x = M x) ∧ (∀ j, j < q → M' 85 j = M 80 j ∧ M' 87 j = -1 ∧ M' 88 j = M 79 j ∧ M' 89 j = 0) := by
  have q' := itr_inv (body := fun s : Int32 × AH => f_X7_takeOver_l70 N 71 s.1 s.2)
    (fun k s => ∃ M', s = (nI k, HP C M' K O) ∧ (∀ x, x ≠ 85 → x ≠ 87 → x ≠ 88 → x ≠ 89 → M' x = M x) ∧ (∀ j, j < k → j < q → M' 85 j = M 80 j ∧ M' 87 j = -1 ∧ M' 88 j = M 79 j ∧ M' 89 j = 0))
    (P := fun r => ∃ M', r = HP C M' K O ∧ (∀ x, x ≠ 85 → x ≠ 87 → x ≠ 88 → x ≠ 89 → M' x = M x) ∧ (∀ j, j < q → M' 85 j = M 80 j ∧ M' 87 j = -1 ∧ M' 88 j = M 79 j ∧ M' 89 j = 0)) (n := 8) ?_ ?_ (s := (0, HP C M K O)) ⟨M, rfl, fun _ _ _ _ _ => rfl, fun j hj => absurd hj (Nat.not_lt_zero j)⟩ (N := N) (by omega)
  · obtain ⟨r, q1, M', e, q2⟩ := q'
    rw [e] at q1
    exact ⟨M', q1, q2⟩
  · rintro k s hk ⟨M1, rfl, h1, h3⟩
    left
    have e75 : M1 75 2 = nI q := by rw [h1 75 (by decide) (by decide) (by decide) (by decide)]; exact h2
    have k8 : ¬ (8 : Int32) ≤ nI k := nI_ge (b := 8) hk (by decide)
    have k16 : k < 16 := by omega
    by_cases hj : k < q
    · have nj : ¬ nI q ≤ nI k := nI_ge hj (by omega)
      refine ⟨(nI (k + 1), HP C (up (up (up (up M1 85 k (M 80 k)) 87 k (-1)) 88 k (M 79 k)) 89 k 0) K O), ?_, _, rfl, fun x a b c d => by rw [up_o d, up_o c, up_o b, up_o a]; exact h1 x a b c d, fun j hj1 hj2 => ?_⟩
      · have e80 : M1 80 k = M 80 k := by rw [h1 80 (by decide) (by decide) (by decide) (by decide)]
        have e79 : up (up M1 85 k (M 80 k)) 87 k (-1) 79 k = M 79 k := by rw [up_o (by decide), up_o (by decide), h1 79 (by decide) (by decide) (by decide) (by decide)]
        simp only [f_X7_takeOver_l70, f_X7_takeOver_b91, f_X7_takeOver_b111, f_X7_takeOver_b138, k8, ↓reduceIte, ↓b_rdM, ↓b_rlM, e75, nj, show ¬ (1 : Int32) = 0 by decide, ↓b_raM, hk, k16, e80, ↓b_waM, e79, nIs]
      · by_cases z : j = k
        · subst z
          refine ⟨?_, ?_, ?_, ?_⟩
          · rw [up_o (by decide), up_o (by decide), up_o (by decide), up_s, upd_s]
          · rw [up_o (by decide), up_o (by decide), up_s, upd_s]
          · rw [up_o (by decide), up_s, upd_s]
          · rw [up_s, upd_s]
        · obtain ⟨a1, a2, a3, a4⟩ := h3 j (by omega) hj2
          refine ⟨?_, ?_, ?_, ?_⟩
          · rw [up_o (by decide), up_o (by decide), up_o (by decide), up_s, upd_o z]; exact a1
          · rw [up_o (by decide), up_o (by decide), up_s, upd_o z, up_o (by decide)]; exact a2
          · rw [up_o (by decide), up_s, upd_o z, up_o (by decide), up_o (by decide)]; exact a3
          · rw [up_s, upd_o z, up_o (by decide), up_o (by decide), up_o (by decide)]; exact a4
    · have nj : nI q ≤ nI k := nI_le (by omega) (by omega)
      refine ⟨(nI (k + 1), HP C (up (up (up (up M1 85 k 0) 87 k (-1)) 88 k 0) 89 k 0) K O), ?_, _, rfl, fun x a b c d => by rw [up_o d, up_o c, up_o b, up_o a]; exact h1 x a b c d, fun j hj1 hj2 => ?_⟩
      · simp only [f_X7_takeOver_l70, f_X7_takeOver_b91, f_X7_takeOver_b111, f_X7_takeOver_b138, k8, ↓reduceIte, ↓b_rdM, ↓b_rlM, e75, nj, hk, ↓b_waM, nIs]
      · have z : j ≠ k := by omega
        obtain ⟨a1, a2, a3, a4⟩ := h3 j (by omega) hj2
        refine ⟨?_, ?_, ?_, ?_⟩
        · rw [up_o (by decide), up_o (by decide), up_o (by decide), up_s, upd_o z]; exact a1
        · rw [up_o (by decide), up_o (by decide), up_s, upd_o z, up_o (by decide)]; exact a2
        · rw [up_o (by decide), up_s, upd_o z, up_o (by decide), up_o (by decide)]; exact a3
        · rw [up_s, upd_o z, up_o (by decide), up_o (by decide), up_o (by decide)]; exact a4
  · rintro s ⟨M1, rfl, h1, h3⟩
    refine ⟨_, ?_, M1, rfl, h1, fun j hj => h3 j (by omega) hj⟩
    have k8 : (8 : Int32) ≤ nI 8 := by decide
    simp only [f_X7_takeOver_l70, k8, ↓reduceIte]
set_option maxHeartbeats 4000000 in
theorem l154_m {q : Nat} (hq : q ≤ 9) (h2 : M 75 1 = nI q) (hN : 1000 ≤ N) : ∃ M', itr (fun s : Int32 × AH => f_X7_takeOver_l154 N 71 s.1 s.2) N (0, HP C M K O) = some (HP C M' K O) ∧ (∀ x, x ≠ 90 → x ≠ 91 → M' x = M x) ∧ (∀ j, j < q → M' 90 j = M 76 j ∧ M' 91 j = M 77 j) := by
  have q' := itr_inv (body := fun s : Int32 × AH => f_X7_takeOver_l154 N 71 s.1 s.2)
    (fun k s => ∃ M', s = (nI k, HP C M' K O) ∧ (∀ x, x ≠ 90 → x ≠ 91 → M' x = M x) ∧ (∀ j, j < k → j < q → M' 90 j = M 76 j ∧ M' 91 j = M 77 j))
    (P := fun r => ∃ M', r = HP C M' K O ∧ (∀ x, x ≠ 90 → x ≠ 91 → M' x = M x) ∧ (∀ j, j < q → M' 90 j = M 76 j ∧ M' 91 j = M 77 j)) (n := 9) ?_ ?_ (s := (0, HP C M K O)) ⟨M, rfl, fun _ _ _ => rfl, fun j hj => absurd hj (Nat.not_lt_zero j)⟩ (N := N) (by omega)
  · obtain ⟨r, q1, M', e, q2⟩ := q'
    rw [e] at q1
    exact ⟨M', q1, q2⟩
  · rintro k s hk ⟨M1, rfl, h1, h3⟩
    left
    have e75 : M1 75 1 = nI q := by rw [h1 75 (by decide) (by decide)]; exact h2
    have k8 : ¬ (9 : Int32) ≤ nI k := nI_ge (b := 9) hk (by decide)
    have k16 : k < 18 := by omega
    by_cases hj : k < q
    · have nj : ¬ nI q ≤ nI k := nI_ge hj (by omega)
      refine ⟨(nI (k + 1), HP C (up (up M1 90 k (M 76 k)) 91 k (M 77 k)) K O), ?_, _, rfl, fun x a b => by rw [up_o b, up_o a]; exact h1 x a b, fun j hj1 hj2 => ?_⟩
      · have e80 : M1 76 k = M 76 k := by rw [h1 76 (by decide) (by decide)]
        have e79 : up M1 90 k (M 76 k) 77 k = M 77 k := by rw [up_o (by decide), h1 77 (by decide) (by decide)]
        have e75' : up M1 90 k (M 76 k) 75 1 = nI q := by rw [up_o (by decide)]; exact e75
        simp only [f_X7_takeOver_l154, f_X7_takeOver_b185, f_X7_takeOver_b211, k8, ↓reduceIte, ↓b_rdM, ↓b_rlM, e75, nj, ↓b_raM, hk, k16, e80, ↓b_waM, e79, e75', nIs]
      · by_cases z : j = k
        · subst z
          refine ⟨?_, ?_⟩
          · rw [up_o (by decide), up_s, upd_s]
          · rw [up_s, upd_s]
        · obtain ⟨a1, a2⟩ := h3 j (by omega) hj2
          refine ⟨?_, ?_⟩
          · rw [up_o (by decide), up_s, upd_o z]; exact a1
          · rw [up_s, upd_o z, up_o (by decide)]; exact a2
    · have nj : nI q ≤ nI k := nI_le (by omega) (by omega)
      refine ⟨(nI (k + 1), HP C (up (up M1 90 k 0) 91 k 0) K O), ?_, _, rfl, fun x a b => by rw [up_o b, up_o a]; exact h1 x a b, fun j hj1 hj2 => ?_⟩
      · have e75' : up M1 90 k 0 75 1 = nI q := by rw [up_o (by decide)]; exact e75
        simp only [f_X7_takeOver_l154, f_X7_takeOver_b185, f_X7_takeOver_b211, k8, ↓reduceIte, ↓b_rdM, ↓b_rlM, e75, nj, hk, ↓b_waM, e75', nIs]
      · have z : j ≠ k := by omega
        obtain ⟨a1, a2⟩ := h3 j (by omega) hj2
        refine ⟨?_, ?_⟩
        · rw [up_o (by decide), up_s, upd_o z]; exact a1
        · rw [up_s, upd_o z, up_o (by decide)]; exact a2
  · rintro s ⟨M1, rfl, h1, h3⟩
    refine ⟨_, ?_, M1, rfl, h1, fun j hj => h3 j (by omega) hj⟩
    have k8 : (9 : Int32) ≤ nI 9 := by decide
    simp only [f_X7_takeOver_l154, k8, ↓reduceIte]
set_option maxHeartbeats 4000000 in
theorem takeOver_m {q r : Nat} (hq : q ≤ 8) (hr : r ≤ 9) (h7 : M 75 7 = nI q) (h6 : M 75 6 = nI r) (hN : 1000 ≤ N) : ∃ M', f_X7_takeOver N (HP C M K O) 71 = some (HP C M' K O) ∧ (∀ x, x ≠ 71 → x < 75 ∨ x = 84 ∨ x = 86 ∨ 91 < x → M' x = M x) ∧ (∀ k, k ≠ 34 → k ≠ 35 → k ≠ 36 → k ≠ 52 → M' 71 k = M 71 k) ∧ (M' 71 34 = 0 ∧ M' 71 35 = 0 ∧ M' 71 36 = 0 ∧ M' 71 52 = 0) ∧ (∀ k, k < 5 → M' 75 k = M 75 (5 + k)) ∧ (∀ k, k < 8 → M' 78 k = M 78 (8 + k) ∧ M' 81 k = M 81 (8 + k)) ∧ (∀ k, k < 700 → M' 82 k = M 82 (700 + k) ∧ M' 83 k = M 83 (700 + k)) ∧ (∀ j, j < q → M' 85 j = M 80 (8 + j) ∧ M' 87 j = -1 ∧ M' 88 j = M 79 (8 + j) ∧ M' 89 j = 0) ∧ ∀ j, j < r → M' 90 j = M 76 (9 + j) ∧ M' 91 j = M 77 (9 + j) := by
  obtain ⟨M1, a1, b1, c1⟩ := th_75 (C := C) (M := M) (K := K) (O := O) hN
  obtain ⟨M2, a2, b2, c2⟩ := th_76 (C := C) (M := M1) (K := K) (O := O) hN
  obtain ⟨M3, a3, b3, c3⟩ := th_77 (C := C) (M := M2) (K := K) (O := O) hN
  obtain ⟨M4, a4, b4, c4⟩ := th_78 (C := C) (M := M3) (K := K) (O := O) hN
  obtain ⟨M5, a5, b5, c5⟩ := th_79 (C := C) (M := M4) (K := K) (O := O) hN
  obtain ⟨M6, a6, b6, c6⟩ := th_80 (C := C) (M := M5) (K := K) (O := O) hN
  obtain ⟨M7, a7, b7, c7⟩ := th_81 (C := C) (M := M6) (K := K) (O := O) hN
  obtain ⟨M8, a8, b8, c8⟩ := th_82 (C := C) (M := M7) (K := K) (O := O) hN
  obtain ⟨M9, a9, b9, c9⟩ := th_83 (C := C) (M := M8) (K := K) (O := O) hN
  have e75 : M9 75 = M1 75 := by rw [b9 75 (by decide), b8 75 (by decide), b7 75 (by decide), b6 75 (by decide), b5 75 (by decide), b4 75 (by decide), b3 75 (by decide), b2 75 (by decide)]
  have e76 : M9 76 = M2 76 := by rw [b9 76 (by decide), b8 76 (by decide), b7 76 (by decide), b6 76 (by decide), b5 76 (by decide), b4 76 (by decide), b3 76 (by decide)]
  have e77 : M9 77 = M3 77 := by rw [b9 77 (by decide), b8 77 (by decide), b7 77 (by decide), b6 77 (by decide), b5 77 (by decide), b4 77 (by decide)]
  have e78 : M9 78 = M4 78 := by rw [b9 78 (by decide), b8 78 (by decide), b7 78 (by decide), b6 78 (by decide), b5 78 (by decide)]
  have e79 : M9 79 = M5 79 := by rw [b9 79 (by decide), b8 79 (by decide), b7 79 (by decide), b6 79 (by decide)]
  have e80 : M9 80 = M6 80 := by rw [b9 80 (by decide), b8 80 (by decide), b7 80 (by decide)]
  have e81 : M9 81 = M7 81 := by rw [b9 81 (by decide), b8 81 (by decide)]
  have e82 : M9 82 = M8 82 := by rw [b9 82 (by decide)]
  have f76 : M1 76 = M 76 := b1 76 (by decide)
  have f77 : M2 77 = M 77 := by rw [b2 77 (by decide), b1 77 (by decide)]
  have f78 : M3 78 = M 78 := by rw [b3 78 (by decide), b2 78 (by decide), b1 78 (by decide)]
  have f79 : M4 79 = M 79 := by rw [b4 79 (by decide), b3 79 (by decide), b2 79 (by decide), b1 79 (by decide)]
  have f80 : M5 80 = M 80 := by rw [b5 80 (by decide), b4 80 (by decide), b3 80 (by decide), b2 80 (by decide), b1 80 (by decide)]
  have f81 : M6 81 = M 81 := by rw [b6 81 (by decide), b5 81 (by decide), b4 81 (by decide), b3 81 (by decide), b2 81 (by decide), b1 81 (by decide)]
  have f82 : M7 82 = M 82 := by rw [b7 82 (by decide), b6 82 (by decide), b5 82 (by decide), b4 82 (by decide), b3 82 (by decide), b2 82 (by decide), b1 82 (by decide)]
  have f83 : M8 83 = M 83 := by rw [b8 83 (by decide), b7 83 (by decide), b6 83 (by decide), b5 83 (by decide), b4 83 (by decide), b3 83 (by decide), b2 83 (by decide), b1 83 (by decide)]
  have f9 : ∀ x, x < 75 ∨ 83 < x → M9 x = M x := fun x hx => by rw [b9 x (by omega), b8 x (by omega), b7 x (by omega), b6 x (by omega), b5 x (by omega), b4 x (by omega), b3 x (by omega), b2 x (by omega), b1 x (by omega)]
  obtain ⟨MA, eA⟩ : ∃ MA, MA = up M9 71 34 0 := ⟨_, rfl⟩
  have mAo : ∀ x, x ≠ 71 → MA x = M9 x := fun x hx => by rw [eA, up_o hx]
  obtain ⟨MB, x1, x2, x3⟩ := l70_m (C := C) (M := MA) (K := K) (O := O) (N := N) hq (by rw [mAo 75 (by decide), e75, c1 2 (by decide)]; exact h7) hN
  obtain ⟨MC, y1, y2, y3⟩ := l154_m (C := C) (M := MB) (K := K) (O := O) (N := N) hr (by rw [x2 75 (by decide) (by decide) (by decide) (by decide), mAo 75 (by decide), e75, c1 1 (by decide)]; exact h6) hN
  have z71 : MC 71 = MA 71 := by rw [y2 71 (by decide) (by decide), x2 71 (by decide) (by decide) (by decide) (by decide)]
  have zc : ∀ x, x ≠ 71 → x < 85 → MC x = M9 x := fun x h1 h2 => by rw [y2 x (by omega) (by omega), x2 x (by omega) (by omega) (by omega) (by omega), mAo x h1]
  refine ⟨up (up (up MC 71 35 0) 71 36 0) 71 52 0, ?_, fun x h1 h2 => ?_, fun k h1 h2 h3 h4 => ?_, ⟨?_, ?_, ?_, ?_⟩, fun k hk => ?_, fun k hk => ⟨?_, ?_⟩, fun k hk => ⟨?_, ?_⟩, fun j hj => ⟨?_, ?_, ?_, ?_⟩, fun j hj => ⟨?_, ?_⟩⟩
  · have B : f_X7_takeOver_b70 N 71 0 (HP C MA K O) = some (HP C (up (up (up MC 71 35 0) 71 36 0) 71 52 0) K O) := by
      unfold f_X7_takeOver_b70
      rw [bnd x1]
      unfold f_X7_takeOver_b154
      rw [bnd y1]
      simp only [↓b_wrM, jwz_eq (v := 0) (.inl rfl)]
    simp only [f_X7_takeOver, ↓b_rdM, ↓bnd a1, ↓bnd a2, ↓bnd a3, ↓bnd a4, ↓bnd a5, ↓bnd a6, ↓bnd a7, ↓bnd a8, ↓bnd a9, ↓b_wrM]
    rw [← eA]
    exact B
  · rw [up_o h1, up_o h1, up_o h1, y2 x (by omega) (by omega), x2 x (by omega) (by omega) (by omega) (by omega), mAo x h1, f9 x (by omega)]
  · rw [up_s, upd_o h4, up_s, upd_o h3, up_s, upd_o h2, z71, eA, up_s, upd_o h1, f9 71 (by decide)]
  · rw [up_s, upd_o (by decide), up_s, upd_o (by decide), up_s, upd_o (by decide), z71, eA, up_s, upd_s]
  · rw [up_s, upd_o (by decide), up_s, upd_o (by decide), up_s, upd_s]
  · rw [up_s, upd_o (by decide), up_s, upd_s]
  · rw [up_s, upd_s]
  · rw [up_o (by decide), up_o (by decide), up_o (by decide), zc 75 (by decide) (by decide), e75, c1 k hk]
  · rw [up_o (by decide), up_o (by decide), up_o (by decide), zc 78 (by decide) (by decide), e78, c4 k hk, f78]
  · rw [up_o (by decide), up_o (by decide), up_o (by decide), zc 81 (by decide) (by decide), e81, c7 k hk, f81]
  · rw [up_o (by decide), up_o (by decide), up_o (by decide), zc 82 (by decide) (by decide), e82, c8 k hk, f82]
  · rw [up_o (by decide), up_o (by decide), up_o (by decide), zc 83 (by decide) (by decide), c9 k hk, f83]
  · rw [up_o (by decide), up_o (by decide), up_o (by decide), y2 85 (by decide) (by decide), (x3 j hj).1, mAo 80 (by decide), e80, c6 j (by omega), f80]
  · rw [up_o (by decide), up_o (by decide), up_o (by decide), y2 87 (by decide) (by decide), (x3 j hj).2.1]
  · rw [up_o (by decide), up_o (by decide), up_o (by decide), y2 88 (by decide) (by decide), (x3 j hj).2.2.1, mAo 79 (by decide), e79, c5 j (by omega), f79]
  · rw [up_o (by decide), up_o (by decide), up_o (by decide), y2 89 (by decide) (by decide), (x3 j hj).2.2.2]
  · rw [up_o (by decide), up_o (by decide), up_o (by decide), (y3 j hj).1, x2 76 (by decide) (by decide) (by decide) (by decide), mAo 76 (by decide), e76, c2 j (by omega), f76]
  · rw [up_o (by decide), up_o (by decide), up_o (by decide), (y3 j hj).2, x2 77 (by decide) (by decide) (by decide) (by decide), mAo 77 (by decide), e77, c3 j (by omega), f77]
set_option maxHeartbeats 4000000 in
theorem begin_c (hg : gok g) (hN : 1000 ≤ N) : ∃ C', f_X0_begin N (HP C M K O) 20 g = some (HP C' M K O) ∧ (∀ x, x < 20 ∨ 28 < x → C' x = C x) ∧ (∀ k, k ≠ 2 → k ≠ 3 → k ≠ 8 → C' 20 k = C 20 k) ∧ (C' 20 2 = 0 ∧ C' 20 3 = 0 ∧ C' 20 8 = 0) ∧ C' 21 0 = 0 ∧ (∀ j, j < 8 → C' 22 j = -1 ∧ C' 23 j = C (g + 3) j ∧ C' 24 j = 0 ∧ C' 25 j = C (g + 4) j ∧ C' 26 j = 0) ∧ ∀ r, r < 9 → C' 27 r = C (g + 1) r ∧ C' 28 r = C (g + 2) r := by
  have gl : g < 20 ∧ ∀ i, i ≤ 7 → g + i < 20 := by rcases hg with rfl | rfl <;> exact ⟨by decide, fun i hi => by omega⟩
  obtain ⟨C1, e1⟩ : ∃ C1, C1 = up C 21 0 0 := ⟨_, rfl⟩
  obtain ⟨C2, a2, b2, c2⟩ := fill_c (K := K) (O := O) (M := M) (N := N) (C := C1) (a := 22) (n := 8) (v := -1) (fun C => by simp only [lnH]) (fun C j v hj => by simp only [waC, hj]) (by omega) hN
  obtain ⟨C3, a3, b3, c3⟩ := fill_c (K := K) (O := O) (M := M) (N := N) (C := C2) (a := 24) (n := 8) (v := 0) (fun C => by simp only [lnH]) (fun C j v hj => by simp only [waC, hj]) (by omega) hN
  obtain ⟨C4, a4, b4, c4⟩ := fill_c (K := K) (O := O) (M := M) (N := N) (C := C3) (a := 26) (n := 8) (v := 0) (fun C => by simp only [lnH]) (fun C j v hj => by simp only [waC, hj]) (by omega) hN
  have k3 : (ckA 0 (g + 3) 8 && decide (g + 3 < 71)) = true := by rcases hg with rfl | rfl <;> decide
  have k4 : (ckA 0 (g + 4) 8 && decide (g + 4 < 71)) = true ∨ True := .inr trivial
  have kk : ∀ C, jcp (HP C M K O) (g + 3) 0 23 0 8 = some (HP (cps C (g + 3) 0 23 0 8) M K O) := fun C => cp8 k3 (by decide) (by have := gl.2 3 (by decide); omega)
  have kk4 : ∀ C, jcp (HP C M K O) (g + 4) 0 25 0 8 = some (HP (cps C (g + 4) 0 25 0 8) M K O) := fun C => cp8 (by rcases hg with rfl | rfl <;> decide) (by decide) (by have := gl.2 4 (by decide); omega)
  have kk1 : ∀ C, jcp (HP C M K O) (g + 1) 0 27 0 9 = some (HP (cps C (g + 1) 0 27 0 9) M K O) := fun C => cp9 (by rcases hg with rfl | rfl <;> decide) (by decide) (by have := gl.2 1 (by decide); omega)
  have kk2 : ∀ C, jcp (HP C M K O) (g + 2) 0 28 0 9 = some (HP (cps C (g + 2) 0 28 0 9) M K O) := fun C => cp9 (by rcases hg with rfl | rfl <;> decide) (by decide) (by have := gl.2 2 (by decide); omega)
  obtain ⟨C5, e5⟩ : ∃ C5, C5 = cps (cps (cps (cps C4 (g + 3) 0 23 0 8) (g + 4) 0 25 0 8) (g + 1) 0 27 0 9) (g + 2) 0 28 0 9 := ⟨_, rfl⟩
  have o4 : ∀ x, x ≠ 21 → x ≠ 22 → x ≠ 24 → x ≠ 26 → C4 x = C x := fun x h1 h2 h3 h4 => by rw [b4 x h4, b3 x h3, b2 x h2, e1, up_o h1]
  have o5 : ∀ x, x ≠ 23 → x ≠ 25 → x ≠ 27 → x ≠ 28 → C5 x = C4 x := fun x h1 h2 h3 h4 => by rw [e5, cpO h4, cpO h3, cpO h2, cpO h1]
  have lg : ∀ i, i ≤ 7 → C4 (g + i) = C (g + i) := fun i hi => by have := gl.2 i hi; exact o4 _ (by omega) (by omega) (by omega) (by omega)
  refine ⟨up (up (up C5 20 2 0) 20 8 0) 20 3 0, ?_, fun x hx => ?_, fun k h1 h2 h3 => ?_, ⟨?_, ?_, ?_⟩, ?_, fun j hj => ⟨?_, ?_, ?_, ?_, ?_⟩, fun r hr => ⟨?_, ?_⟩⟩
  · have B : f_X5_begin N (HP C M K O) 21 g = some (HP C5 M K O) := by
      simp only [f_X5_begin, ↓b_rdC, ↓b_wrC]
      rw [← e1]
      simp only [↓b_rdC, ↓bnd a2, ↓bnd a3, ↓bnd a4, ↓b_rG hg, ↓bnd (kk _), ↓bnd (kk4 _), ↓bnd (kk1 _), ↓bnd (kk2 _)]
      rw [← e5]
    simp only [f_X0_begin, ↓b_rdC, ↓bnd B, ↓b_wrC]
  · rw [up_o (by omega), up_o (by omega), up_o (by omega), o5 x (by omega) (by omega) (by omega) (by omega), o4 x (by omega) (by omega) (by omega) (by omega)]
  · rw [up_s, upd_o h2, up_s, upd_o h3, up_s, upd_o h1, o5 20 (by decide) (by decide) (by decide) (by decide), o4 20 (by decide) (by decide) (by decide) (by decide)]
  · rw [up_s, upd_o (by decide), up_s, upd_o (by decide), up_s, upd_s]
  · rw [up_s, upd_s]
  · rw [up_s, upd_o (by decide), up_s, upd_s]
  · rw [up_o (by decide), up_o (by decide), up_o (by decide), o5 21 (by decide) (by decide) (by decide) (by decide), b4 21 (by decide), b3 21 (by decide), b2 21 (by decide), e1, up_s, upd_s]
  · rw [up_o (by decide), up_o (by decide), up_o (by decide), o5 22 (by decide) (by decide) (by decide) (by decide), b4 22 (by decide), b3 22 (by decide), c2 j hj]
  · rw [up_o (by decide), up_o (by decide), up_o (by decide), e5, cpO (by decide), cpO (by decide), cpO (by decide), cpS, if_pos (by omega), lg 3 (by decide), Nat.zero_add, Nat.sub_zero]
  · rw [up_o (by decide), up_o (by decide), up_o (by decide), o5 24 (by decide) (by decide) (by decide) (by decide), b4 24 (by decide), c3 j hj]
  · rw [up_o (by decide), up_o (by decide), up_o (by decide), e5, cpO (by decide), cpO (by decide), cpS, if_pos (by omega), cpO (by have := gl.2 4 (by decide); omega), lg 4 (by decide), Nat.zero_add, Nat.sub_zero]
  · rw [up_o (by decide), up_o (by decide), up_o (by decide), o5 26 (by decide) (by decide) (by decide) (by decide), c4 j hj]
  · rw [up_o (by decide), up_o (by decide), up_o (by decide), e5, cpO (by decide), cpS, if_pos (by omega), cpO (by have := gl.2 1 (by decide); omega), cpO (by have := gl.2 1 (by decide); omega), lg 1 (by decide), Nat.zero_add, Nat.sub_zero]
  · rw [up_o (by decide), up_o (by decide), up_o (by decide), e5, cpS, if_pos (by omega), cpO (by have := gl.2 2 (by decide); omega), cpO (by have := gl.2 2 (by decide); omega), cpO (by have := gl.2 2 (by decide); omega), lg 2 (by decide), Nat.zero_add, Nat.sub_zero]
end S87
