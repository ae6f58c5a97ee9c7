/-! the fewest judges who have seen all sides -/
def orU (W : ST) (u : Int32) : Nat → Int32
  | 0 => 0
  | j + 1 => if ((u >>> (nI j &&& 31)) &&& 1) = 1 then orU W u j ||| W 3 j else orU W u j
def bn (G : GT) (W : ST) : Nat → Int32
  | 0 => -1
  | k + 1 => if orU W (nI k) (gJ G) = allS G ∧ (bn G W k = -1 ∨ ¬ bc (bn G W k) ≤ bc (nI k)) then nI k else bn G W k
section S65
variable {C M W : ST} {K : KT} {O : Nat → Int64} {N : Nat} {G : GT} {u v1 : Int32}
theorem orU_0 (W : ST) : ∀ n, n ≤ 8 → orU W (nI 0) n = 0
  | 0 => fun _ => rfl
  | j + 1 => fun h => by
    rw [orU, if_neg (show ¬ ((nI 0 >>> (nI j &&& 31)) &&& 1) = 1 from bit_0 j (by omega)), orU_0 W j (by omega)]
theorem bn_r (G : GT) (W : ST) : ∀ k, bn G W k = -1 ∨ ∃ s, s < k ∧ bn G W k = nI s
  | 0 => .inl rfl
  | k + 1 => by
    unfold bn
    split
    · exact .inr ⟨k, by omega, rfl⟩
    · rcases bn_r G W k with h | ⟨s, h1, h2⟩
      · exact .inl h
      · exact .inr ⟨s, by omega, h2⟩
theorem allS_n : ∀ n, n < 9 → 2 ≤ n → ¬ (0 : Int32) = ((1 : Int32) <<< (nI n &&& 31)) - 1 := by decide +kernel
theorem bn_1 (hG : okG G) : bn G W 1 = -1 := by
  unfold bn
  rw [if_neg]
  · rfl
  · rintro ⟨h, _⟩
    rw [orU_0 W _ hG.2.2.1] at h
    exact allS_n (gsd G) (by have := hG.1.2; omega) hG.1.1 h
set_option maxHeartbeats 4000000 in
theorem orU_c (hc : CI K C G W) (hN : 1000 ≤ N) : itr (fun s : Int32 × Int32 × AH => f_X6_fewestWithAll_l22 N 0 v1 u s.1 s.2.1 s.2.2) N (0, 0, HP C M K O) = some (orU W u (gJ G), HP C M K O) := by
  have hJ := hc.2.1.2.2.1
  have eJ := hc.2.2.1.2.2.1
  refine itr_seq (body := fun s : Int32 × Int32 × AH => f_X6_fewestWithAll_l22 N 0 v1 u s.1 s.2.1 s.2.2) (fun k => (orU W u k, nI k, HP C M K O)) (n := gJ G) ?_ ?_ (N := N) (by omega)
  · intro k hk
    have k8 : k < 8 := by omega
    have e3 := hc.2.2.2.1.2.1 3 k (by omega) (by omega) hk
    by_cases z : ((u >>> (nI k &&& 31)) &&& 1) = 1
    · simp only [f_X6_fewestWithAll_l22, f_X6_fewestWithAll_b60, ↓b_rdC, ↓b_rG hc.1, eJ, nle hk (by omega), ↓reduceIte, z, ↓b_rW w21, ↓b_rWa w21, k8, e3, nI_1, orU]
    · simp only [f_X6_fewestWithAll_l22, f_X6_fewestWithAll_b60, ↓b_rdC, ↓b_rG hc.1, eJ, nle hk (by omega), ↓reduceIte, z, nI_1, orU]
  · simp only [f_X6_fewestWithAll_l22, ↓b_rdC, ↓b_rG hc.1, eJ, yle (Nat.le_refl (gJ G)) (by omega), ↓reduceIte]
theorem allSides_c (hc : CI K C G W) : f_X1_allSides N (HP C M K O) K.1 = some (allS G, HP C M K O) := by
  simp only [f_X1_allSides, ↓b_rG hc.1, hc.2.2.1.1]
  rfl
theorem allSides_m (h : RGm M G) : f_X7_allSides N (HP C M K O) 71 = some (allS G, HP C M K O) := by
  simp only [f_X7_allSides, ↓b_rdM, ↓b_rlM, h.1]
  rfl
set_option maxHeartbeats 4000000 in
theorem fewest_c (hc : CI K C G W) (hN : 1000 ≤ N) : f_X6_fewestWithAll N (HP C M K O) 0 = some (bn G W (2 ^ gJ G), HP C M K O) := by
  have hJ := hc.2.1.2.2.1
  have eJ := hc.2.2.1.2.2.1
  have p8 := p2_8 hJ
  have p0 := Nat.two_pow_pos (gJ G)
  have A := itr_seq (body := fun s : Int32 × Int32 × AH => f_X6_fewestWithAll_l4 N 0 s.1 s.2.1 s.2.2) (fun k => (bn G W (k + 1), nI (k + 1), HP C M K O)) (n := 2 ^ gJ G - 1) (r := (bn G W (2 ^ gJ G), HP C M K O)) ?_ ?_ (N := N) (by omega)
  · have A' : itr (fun s : Int32 × Int32 × AH => f_X6_fewestWithAll_l4 N 0 s.1 s.2.1 s.2.2) N (-1, 1, HP C M K O) = some (bn G W (2 ^ gJ G), HP C M K O) := by
      have := A
      rw [bn_1 hc.2.1] at this
      exact this
    simp only [f_X6_fewestWithAll, f_X6_fewestWithAll_b4, A', Option.bind_some]
  · intro k hk
    have hi := orU_c (N := N) (M := M) (O := O) (v1 := bn G W (k + 1)) (u := nI (k + 1)) hc hN
    have nl := nle (show k + 1 < 2 ^ gJ G by omega) (by omega)
    by_cases y : orU W (nI (k + 1)) (gJ G) = allS G
    · by_cases z : bn G W (k + 1) = -1
      · have e : bn G W (k + 1 + 1) = nI (k + 1) := by rw [bn, if_pos ⟨y, .inl z⟩]
        rw [e]
        rw [z] at hi ⊢
        simp only [f_X6_fewestWithAll_l4, f_X6_fewestWithAll_b22, f_X6_fewestWithAll_b93, f_X6_fewestWithAll_b95, ↓b_rdC, ↓b_rG hc.1, eJ, sh_11 _ (show gJ G < 11 by omega), nl, ↓reduceIte, hi, Option.bind_some, ↓bnd (allSides_c hc), y, nI_1]
      · by_cases x : bc (bn G W (k + 1)) ≤ bc (nI (k + 1))
        · have e : bn G W (k + 1 + 1) = bn G W (k + 1) := by rw [bn, if_neg (by rintro ⟨_, q | q⟩; exact z q; exact q x)]
          rw [e]
          simp only [f_X6_fewestWithAll_l4, f_X6_fewestWithAll_b22, f_X6_fewestWithAll_b93, f_X6_fewestWithAll_b95, ↓b_rdC, ↓b_rG hc.1, eJ, sh_11 _ (show gJ G < 11 by omega), nl, ↓reduceIte, hi, Option.bind_some, ↓bnd (allSides_c hc), y, z, ↓bnd (bitCount_c _ _ _), x, nI_1]
        · have e : bn G W (k + 1 + 1) = nI (k + 1) := by rw [bn, if_pos ⟨y, .inr x⟩]
          rw [e]
          simp only [f_X6_fewestWithAll_l4, f_X6_fewestWithAll_b22, f_X6_fewestWithAll_b93, f_X6_fewestWithAll_b95, ↓b_rdC, ↓b_rG hc.1, eJ, sh_11 _ (show gJ G < 11 by omega), nl, ↓reduceIte, hi, Option.bind_some, ↓bnd (allSides_c hc), y, z, ↓bnd (bitCount_c _ _ _), x, nI_1]
    · have e : bn G W (k + 1 + 1) = bn G W (k + 1) := by rw [bn, if_neg (fun q => y q.1)]
      rw [e]
      simp only [f_X6_fewestWithAll_l4, f_X6_fewestWithAll_b22, f_X6_fewestWithAll_b93, f_X6_fewestWithAll_b95, ↓b_rdC, ↓b_rG hc.1, eJ, sh_11 _ (show gJ G < 11 by omega), nl, ↓reduceIte, hi, Option.bind_some, ↓bnd (allSides_c hc), y, nI_1]
  · have e : 2 ^ gJ G - 1 + 1 = 2 ^ gJ G := by omega
    rw [e]
    simp only [f_X6_fewestWithAll_l4, ↓b_rdC, ↓b_rG hc.1, eJ, sh_11 _ (show gJ G < 11 by omega), yle (Nat.le_refl (2 ^ gJ G)) (by omega), ↓reduceIte]
set_option maxHeartbeats 4000000 in
theorem orU_m (hm : MI M G W) (hN : 1000 ≤ N) : itr (fun s : Int32 × Int32 × AH => f_X7_bench_l21 N 71 v1 u s.1 s.2.1 s.2.2) N (0, 0, HP C M K O) = some (orU W u (gJ G), HP C M K O) := by
  have hJ := hm.1.2.2.1
  have eJ := hm.2.1.2.2.1
  refine itr_seq (body := fun s : Int32 × Int32 × AH => f_X7_bench_l21 N 71 v1 u s.1 s.2.1 s.2.2) (fun k => (orU W u k, nI k, HP C M K O)) (n := gJ G) ?_ ?_ (N := N) (by omega)
  · intro k hk
    have k8 : k < 8 := by omega
    have e3 := (hm.2.2.1.2.2.1 k hk).2.2.1
    by_cases z : ((u >>> (nI k &&& 31)) &&& 1) = 1
    · have z' : ¬ fdk u k = 0 := fun q => fdk_1.mp q z
      simp only [f_X7_bench_l21, f_X7_bench_b53, ↓b_rdM, ↓b_rlM, eJ, nle hk (by omega), ↓reduceIte, ↓bnd isOf_m, z', ↓b_raM, k8, e3, nI_1, orU, z]
    · have z' : fdk u k = 0 := fdk_1.mpr z
      simp only [f_X7_bench_l21, f_X7_bench_b53, ↓b_rdM, ↓b_rlM, eJ, nle hk (by omega), ↓reduceIte, ↓bnd isOf_m, z', nI_1, orU, z, Int32.or_zero]
  · simp only [f_X7_bench_l21, ↓b_rdM, ↓b_rlM, eJ, yle (Nat.le_refl (gJ G)) (by omega), ↓reduceIte]
set_option maxHeartbeats 4000000 in
theorem bench_m (hm : MI M G W) (hN : 1000 ≤ N) : f_X7_bench N (HP C M K O) 71 = some (bn G W (2 ^ gJ G), HP C M K O) := by
  have hJ := hm.1.2.2.1
  have eJ := hm.2.1.2.2.1
  have p8 := p2_8 hJ
  have A := itr_seq (body := fun s : Int32 × Int32 × AH => f_X7_bench_l4 N 71 s.1 s.2.1 s.2.2) (fun k => (bn G W k, nI k, HP C M K O)) (n := 2 ^ gJ G) (r := (bn G W (2 ^ gJ G), HP C M K O)) ?_ ?_ (N := N) (by omega)
  · have A' : itr (fun s : Int32 × Int32 × AH => f_X7_bench_l4 N 71 s.1 s.2.1 s.2.2) N (-1, 0, HP C M K O) = some (bn G W (2 ^ gJ G), HP C M K O) := A
    simp only [f_X7_bench, f_X7_bench_b4, A', Option.bind_some]
  · intro k hk
    have hi := orU_m (N := N) (C := C) (K := K) (O := O) (v1 := bn G W k) (u := nI k) hm hN
    have nl := nle hk (by omega)
    have b1 : ∀ h : AH, f_X7_bitsOf N h (nI k) = some (bc (nI k), h) := fun h => bitsOf_m (by omega) hN
    by_cases y : orU W (nI k) (gJ G) = allS G
    · by_cases z : bn G W k = -1
      · have e : bn G W (k + 1) = nI k := by rw [bn, if_pos ⟨y, .inl z⟩]
        rw [e]
        rw [z] at hi ⊢
        simp only [f_X7_bench_l4, f_X7_bench_b21, f_X7_bench_b85, f_X7_bench_b87, ↓b_rdM, ↓b_rlM, eJ, sh_11 _ (show gJ G < 11 by omega), nl, ↓reduceIte, hi, Option.bind_some, ↓bnd (allSides_m hm.2.1), y, nI_1]
      · have b2 : ∀ h : AH, f_X7_bitsOf N h (bn G W k) = some (bc (bn G W k), h) := fun h => by
          rcases bn_r G W k with q | ⟨s, q1, q2⟩
          · exact absurd q z
          · rw [q2]; exact bitsOf_m (by omega) hN
        by_cases x : bc (bn G W k) ≤ bc (nI k)
        · have e : bn G W (k + 1) = bn G W k := by rw [bn, if_neg (by rintro ⟨_, q | q⟩; exact z q; exact q x)]
          rw [e]
          simp only [f_X7_bench_l4, f_X7_bench_b21, f_X7_bench_b85, f_X7_bench_b87, ↓b_rdM, ↓b_rlM, eJ, sh_11 _ (show gJ G < 11 by omega), nl, ↓reduceIte, hi, Option.bind_some, ↓bnd (allSides_m hm.2.1), y, z, ↓bnd (b1 _), ↓bnd (b2 _), x, nI_1]
        · have e : bn G W (k + 1) = nI k := by rw [bn, if_pos ⟨y, .inr x⟩]
          rw [e]
          simp only [f_X7_bench_l4, f_X7_bench_b21, f_X7_bench_b85, f_X7_bench_b87, ↓b_rdM, ↓b_rlM, eJ, sh_11 _ (show gJ G < 11 by omega), nl, ↓reduceIte, hi, Option.bind_some, ↓bnd (allSides_m hm.2.1), y, z, ↓bnd (b1 _), ↓bnd (b2 _), x, nI_1]
    · have e : bn G W (k + 1) = bn G W k := by rw [bn, if_neg (fun q => y q.1)]
      rw [e]
      simp only [f_X7_bench_l4, f_X7_bench_b21, f_X7_bench_b85, f_X7_bench_b87, ↓b_rdM, ↓b_rlM, eJ, sh_11 _ (show gJ G < 11 by omega), nl, ↓reduceIte, hi, Option.bind_some, ↓bnd (allSides_m hm.2.1), y, nI_1]
  · simp only [f_X7_bench_l4, ↓b_rdM, ↓b_rlM, eJ, sh_11 _ (show gJ G < 11 by omega), yle (Nat.le_refl (2 ^ gJ G)) (by omega), ↓reduceIte]
end S65
