/-! what is asked for: a judge, a reach, a side, a number of steps -/
def btw (a : Int32) (lo hi : Nat) : Prop := ∃ j, lo ≤ j ∧ j ≤ hi ∧ a = nI j
def inR (a : Int32) (n : Nat) : Prop := ∃ j, j < n ∧ a = nI j
theorem btw_i {a : Int32} {lo hi : Nat} (hh : hi < 2 ^ 31) : btw a lo hi ↔ ((lo : Int) ≤ a.toInt ∧ a.toInt ≤ (hi : Int)) := by
  constructor
  · rintro ⟨j, h1, h2, rfl⟩
    rw [nI_toInt (by omega)]
    omega
  · rintro ⟨h1, h2⟩
    refine ⟨a.toInt.toNat, by omega, by omega, ?_⟩
    apply Int32.toInt_inj.mp
    rw [nI_toInt (by omega)]
    omega
theorem inR_i {a : Int32} {n : Nat} (hh : n < 2 ^ 31) : inR a n ↔ ((0 : Int) ≤ a.toInt ∧ a.toInt < (n : Int)) := by
  constructor
  · rintro ⟨j, h1, rfl⟩
    rw [nI_toInt (by omega)]
    omega
  · rintro ⟨h1, h2⟩
    refine ⟨a.toInt.toNat, by omega, ?_⟩
    apply Int32.toInt_inj.mp
    rw [nI_toInt (by omega)]
    omega
theorem cmp_lt (x y : Int64) : (lg_cmp x y < 0) ↔ x.toInt < y.toInt := by
  unfold lg_cmp
  by_cases h1 : x > y
  · rw [if_pos h1]
    have : y.toInt < x.toInt := Int64.lt_iff_toInt_lt.mp h1
    constructor
    · intro h; exact absurd h (by decide)
    · intro h; omega
  · rw [if_neg h1]
    have h2 : ¬ y.toInt < x.toInt := fun h => h1 (Int64.lt_iff_toInt_lt.mpr h)
    by_cases h3 : x = y
    · rw [if_pos h3, h3]
      constructor
      · intro h; exact absurd h (by decide)
      · intro h; omega
    · rw [if_neg h3]
      have h4 : ¬ x.toInt = y.toInt := fun h => h3 (Int64.toInt_inj.mp h)
      constructor
      · intro _; omega
      · intro _; decide
theorem cmp_gt (x y : Int64) : (0 < lg_cmp x y) ↔ y.toInt < x.toInt := by
  unfold lg_cmp
  by_cases h1 : x > y
  · rw [if_pos h1]
    have : y.toInt < x.toInt := Int64.lt_iff_toInt_lt.mp h1
    exact ⟨fun _ => this, fun _ => by decide⟩
  · rw [if_neg h1]
    have h2 : ¬ y.toInt < x.toInt := fun h => h1 (Int64.lt_iff_toInt_lt.mpr h)
    by_cases h3 : x = y
    · rw [if_pos h3]
      exact ⟨fun h => absurd h (by decide), fun h => absurd h h2⟩
    · rw [if_neg h3]
      exact ⟨fun h => absurd h (by decide), fun h => absurd h h2⟩
theorem isIn_y {N : Nat} {h : AH} {a : Int32} {x y : Int64} (h1 : x.toInt ≤ a.toInt) (h2 : a.toInt ≤ y.toInt) : f_X7_isIn N h (Int32.toInt64 a) x y = some (1, h) := by
  unfold f_X7_isIn
  rw [if_neg (by rw [cmp_lt, Int32.toInt_toInt64]; omega), if_neg (by rw [cmp_gt, Int32.toInt_toInt64]; omega)]
theorem isIn_n {N : Nat} {h : AH} {a : Int32} {x y : Int64} (h1 : ¬ (x.toInt ≤ a.toInt ∧ a.toInt ≤ y.toInt)) : f_X7_isIn N h (Int32.toInt64 a) x y = some (0, h) := by
  unfold f_X7_isIn f_X7_isIn_b17
  by_cases h2 : x.toInt ≤ a.toInt
  · rw [if_neg (by rw [cmp_lt, Int32.toInt_toInt64]; omega), if_pos (by rw [cmp_gt, Int32.toInt_toInt64]; omega)]
  · rw [if_pos (by rw [cmp_lt, Int32.toInt_toInt64]; omega)]
theorem isBt {N : Nat} {h : AH} {a : Int32} {x y : Int64} {lo hi : Nat} (hx : x.toInt = lo) (hy : y.toInt = hi) (hh : hi < 2 ^ 31) : (btw a lo hi → f_X7_isIn N h (Int32.toInt64 a) x y = some (1, h)) ∧ (¬ btw a lo hi → f_X7_isIn N h (Int32.toInt64 a) x y = some (0, h)) := by
  refine ⟨fun q => ?_, fun q => ?_⟩
  · rw [btw_i hh] at q
    exact isIn_y (by omega) (by omega)
  · rw [btw_i hh] at q
    exact isIn_n (by rw [hx, hy]; exact q)
theorem isRn {N : Nat} {h : AH} {a : Int32} {n : Nat} (hn : n ≤ 100) : (inR a n → f_X7_isIn N h (Int32.toInt64 a) 0 (Int32.toInt64 (nI n - 1)) = some (1, h)) ∧ (¬ inR a n → f_X7_isIn N h (Int32.toInt64 a) 0 (Int32.toInt64 (nI n - 1)) = some (0, h)) := by
  have e : (Int32.toInt64 (nI n - 1)).toInt = (n : Int) - 1 := by
    rw [Int32.toInt_toInt64]
    rcases n with _ | n
    · decide
    · rw [nI_pred, nI_toInt (by omega)]; omega
  have z : (0 : Int64).toInt = 0 := by decide
  refine ⟨fun q => ?_, fun q => ?_⟩
  · rw [inR_i (by omega)] at q
    exact isIn_y (by omega) (by omega)
  · rw [inR_i (by omega)] at q
    exact isIn_n (by omega)
theorem nb1 : narrow .boolean (.int 1) = .int 1 := by decide
theorem nb0 : narrow .boolean (.int 0) = .int 0 := by decide
section S41
variable {C M W : ST} {K : KT} {O : Nat → Int64} {N : Nat} {G : GT} {a : Int32}
theorem lt0_i {a : Int32} : a < 0 ↔ a.toInt < 0 := by rw [Int32.lt_iff_toInt_lt, Int32.toInt_zero]
theorem needJ_y (h : CI K C G W) (q : inR a (gJ G)) : f_X6_needJudge N (HP C M K O) 0 a = some (.inr (), HP C M K O) := by
  obtain ⟨j, hj, rfl⟩ := q
  have := h.2.1.2.2.1
  simp only [f_X6_needJudge, nI_pos (n := j) (by omega), ↓reduceIte, ↓b_rdC, ↓b_rG h.1, h.2.2.1.2.2.1, lt_nI (a := j) (b := gJ G) (by omega) (by omega), hj]
theorem needJ_n (h : CI K C G W) (q : ¬ inR a (gJ G)) : f_X6_needJudge N (HP C M K O) 0 a = some (.inl 1, HP C M K O) := by
  have h8 := h.2.1.2.2.1
  rw [inR_i (by omega)] at q
  by_cases h0 : a < 0
  · simp only [f_X6_needJudge, f_X6_needJudge_b15, h0, ↓reduceIte]
  · have h1 : ¬ a < nI (gJ G) := by rw [Int32.lt_iff_toInt_lt, nI_toInt (by omega)]; rw [lt0_i] at h0; omega
    simp only [f_X6_needJudge, f_X6_needJudge_b15, h0, ↓reduceIte, ↓b_rdC, ↓b_rG h.1, h.2.2.1.2.2.1, h1]
theorem needR_y (h : CI K C G W) (q : inR a (gRn G)) : f_X6_needReach N (HP C M K O) 0 a = some (.inr (), HP C M K O) := by
  obtain ⟨j, hj, rfl⟩ := q
  have := h.2.1.2.1
  simp only [f_X6_needReach, nI_pos (n := j) (by omega), ↓reduceIte, ↓b_rdC, ↓b_rG h.1, h.2.2.1.2.1, lt_nI (a := j) (b := gRn G) (by omega) (by omega), hj]
theorem needR_n (h : CI K C G W) (q : ¬ inR a (gRn G)) : f_X6_needReach N (HP C M K O) 0 a = some (.inl 1, HP C M K O) := by
  have h8 := h.2.1.2.1
  rw [inR_i (by omega)] at q
  by_cases h0 : a < 0
  · simp only [f_X6_needReach, f_X6_needReach_b15, h0, ↓reduceIte]
  · have h1 : ¬ a < nI (gRn G) := by rw [Int32.lt_iff_toInt_lt, nI_toInt (by omega)]; rw [lt0_i] at h0; omega
    simp only [f_X6_needReach, f_X6_needReach_b15, h0, ↓reduceIte, ↓b_rdC, ↓b_rG h.1, h.2.2.1.2.1, h1]
theorem needS_y (h : CI K C G W) (q : inR a (gsd G)) : f_X6_needSide N (HP C M K O) 0 a = some (.inr (), HP C M K O) := by
  obtain ⟨j, hj, rfl⟩ := q
  have := h.2.1.1
  simp only [f_X6_needSide, nI_pos (n := j) (by omega), ↓reduceIte, ↓b_rdC, ↓b_rG h.1, h.2.2.1.1, lt_nI (a := j) (b := gsd G) (by omega) (by omega), hj]
theorem needS_n (h : CI K C G W) (q : ¬ inR a (gsd G)) : f_X6_needSide N (HP C M K O) 0 a = some (.inl 1, HP C M K O) := by
  have h8 := h.2.1.1
  rw [inR_i (by omega)] at q
  by_cases h0 : a < 0
  · simp only [f_X6_needSide, f_X6_needSide_b15, h0, ↓reduceIte]
  · have h1 : ¬ a < nI (gsd G) := by rw [Int32.lt_iff_toInt_lt, nI_toInt (by omega)]; rw [lt0_i] at h0; omega
    simp only [f_X6_needSide, f_X6_needSide_b15, h0, ↓reduceIte, ↓b_rdC, ↓b_rG h.1, h.2.2.1.1, h1]
theorem needW {h : AH} {m : Nat} {x : Int32} (e : x = nI m) (hm : m < 100) : (btw a 0 m → f_X6_needWhat N h a x = some (.inr (), h)) ∧ (¬ btw a 0 m → f_X6_needWhat N h a x = some (.inl 1, h)) := by
  subst e
  refine ⟨fun q => ?_, fun q => ?_⟩
  · obtain ⟨j, _, hj, rfl⟩ := q
    simp only [f_X6_needWhat, nI_pos (n := j) (by omega), ↓reduceIte, le_nI (a := j) (b := m) (by omega) (by omega), hj]
  · rw [btw_i (by omega)] at q
    by_cases h0 : a < 0
    · simp only [f_X6_needWhat, f_X6_needWhat_b9, h0, ↓reduceIte]
    · have h1 : ¬ a ≤ nI m := by rw [Int32.le_iff_toInt_le, nI_toInt (by omega)]; rw [lt0_i] at h0; omega
      simp only [f_X6_needWhat, f_X6_needWhat_b9, h0, ↓reduceIte, h1]
theorem needT {h : AH} {lo hi : Nat} {x y : Int32} (e : x = nI lo) (e' : y = nI hi) (hm : hi < 100) (hlo : lo < 100) : (btw a lo hi → f_X6_needSteps N h a x y = some (.inr (), h)) ∧ (¬ btw a lo hi → f_X6_needSteps N h a x y = some (.inl 2, h)) := by
  subst e e'
  refine ⟨fun q => ?_, fun q => ?_⟩
  · obtain ⟨j, hl, hj, rfl⟩ := q
    simp only [f_X6_needSteps, nI_nlt (a := j) (b := lo) hl (by omega), ↓reduceIte, le_nI (a := j) (b := hi) (by omega) (by omega), hj]
  · rw [btw_i (by omega)] at q
    by_cases h0 : a < nI lo
    · simp only [f_X6_needSteps, f_X6_needSteps_b10, h0, ↓reduceIte]
    · have h1 : ¬ a ≤ nI hi := by rw [Int32.le_iff_toInt_le, nI_toInt (by omega)]; rw [Int32.lt_iff_toInt_lt, nI_toInt (by omega)] at h0; omega
      simp only [f_X6_needSteps, f_X6_needSteps_b10, h0, ↓reduceIte, h1]
theorem isJ_y (h : RGm M G) (hG : okG G) (q : inR a (gJ G)) : f_X7_isJudge N (HP C M K O) 71 a = some (1, HP C M K O) := by
  simp only [f_X7_isJudge, ↓b_rdM, ↓b_rlM, h.2.2.1, ↓bnd ((isRn (by have := hG.2.2.1; omega)).1 q), nb1, ↓reduceIte]
theorem isJ_n (h : RGm M G) (hG : okG G) (q : ¬ inR a (gJ G)) : f_X7_isJudge N (HP C M K O) 71 a = some (0, HP C M K O) := by
  simp only [f_X7_isJudge, ↓b_rdM, ↓b_rlM, h.2.2.1, ↓bnd ((isRn (by have := hG.2.2.1; omega)).2 q), nb0, ↓reduceIte]
theorem isR_y (h : RGm M G) (hG : okG G) (q : inR a (gRn G)) : f_X7_isReach N (HP C M K O) 71 a = some (1, HP C M K O) := by
  simp only [f_X7_isReach, ↓b_rdM, ↓b_rlM, h.2.1, ↓bnd ((isRn (by have := hG.2.1; omega)).1 q), nb1, ↓reduceIte]
theorem isR_n (h : RGm M G) (hG : okG G) (q : ¬ inR a (gRn G)) : f_X7_isReach N (HP C M K O) 71 a = some (0, HP C M K O) := by
  simp only [f_X7_isReach, ↓b_rdM, ↓b_rlM, h.2.1, ↓bnd ((isRn (by have := hG.2.1; omega)).2 q), nb0, ↓reduceIte]
theorem isS_y (h : RGm M G) (hG : okG G) (q : inR a (gsd G)) : f_X7_isSide N (HP C M K O) 71 a = some (1, HP C M K O) := by
  simp only [f_X7_isSide, ↓b_rdM, ↓b_rlM, h.1, ↓bnd ((isRn (by have := hG.1; omega)).1 q), nb1, ↓reduceIte]
theorem isS_n (h : RGm M G) (hG : okG G) (q : ¬ inR a (gsd G)) : f_X7_isSide N (HP C M K O) 71 a = some (0, HP C M K O) := by
  simp only [f_X7_isSide, ↓b_rdM, ↓b_rlM, h.1, ↓bnd ((isRn (by have := hG.1; omega)).2 q), nb0, ↓reduceIte]
theorem nW1_y {h : AH} (q : btw a 0 1) : f_X6_needWhat N h a 1 = some (.inr (), h) := (needW (x := 1) (m := 1) rfl (by decide)).1 q
theorem nW1_n {h : AH} (q : ¬ btw a 0 1) : f_X6_needWhat N h a 1 = some (.inl 1, h) := (needW (x := 1) (m := 1) rfl (by decide)).2 q
theorem bW1_y {h : AH} (q : btw a 0 1) : f_X7_isIn N h (Int32.toInt64 a) 0 1 = some (1, h) := (isBt (x := 0) (y := 1) (lo := 0) (hi := 1) (by decide) (by decide) (by decide)).1 q
theorem bW1_n {h : AH} (q : ¬ btw a 0 1) : f_X7_isIn N h (Int32.toInt64 a) 0 1 = some (0, h) := (isBt (x := 0) (y := 1) (lo := 0) (hi := 1) (by decide) (by decide) (by decide)).2 q
theorem nW2_y {h : AH} (q : btw a 0 2) : f_X6_needWhat N h a 2 = some (.inr (), h) := (needW (x := 2) (m := 2) rfl (by decide)).1 q
theorem nW2_n {h : AH} (q : ¬ btw a 0 2) : f_X6_needWhat N h a 2 = some (.inl 1, h) := (needW (x := 2) (m := 2) rfl (by decide)).2 q
theorem bW2_y {h : AH} (q : btw a 0 2) : f_X7_isIn N h (Int32.toInt64 a) 0 2 = some (1, h) := (isBt (x := 0) (y := 2) (lo := 0) (hi := 2) (by decide) (by decide) (by decide)).1 q
theorem bW2_n {h : AH} (q : ¬ btw a 0 2) : f_X7_isIn N h (Int32.toInt64 a) 0 2 = some (0, h) := (isBt (x := 0) (y := 2) (lo := 0) (hi := 2) (by decide) (by decide) (by decide)).2 q
theorem nW3_y {h : AH} (q : btw a 0 3) : f_X6_needWhat N h a 3 = some (.inr (), h) := (needW (x := 3) (m := 3) rfl (by decide)).1 q
theorem nW3_n {h : AH} (q : ¬ btw a 0 3) : f_X6_needWhat N h a 3 = some (.inl 1, h) := (needW (x := 3) (m := 3) rfl (by decide)).2 q
theorem bW3_y {h : AH} (q : btw a 0 3) : f_X7_isIn N h (Int32.toInt64 a) 0 3 = some (1, h) := (isBt (x := 0) (y := 3) (lo := 0) (hi := 3) (by decide) (by decide) (by decide)).1 q
theorem bW3_n {h : AH} (q : ¬ btw a 0 3) : f_X7_isIn N h (Int32.toInt64 a) 0 3 = some (0, h) := (isBt (x := 0) (y := 3) (lo := 0) (hi := 3) (by decide) (by decide) (by decide)).2 q
theorem nT060_y {h : AH} (q : btw a 0 60) : f_X6_needSteps N h a 0 60 = some (.inr (), h) := (needT (x := 0) (y := 60) (lo := 0) (hi := 60) rfl rfl (by decide) (by decide)).1 q
theorem nT060_n {h : AH} (q : ¬ btw a 0 60) : f_X6_needSteps N h a 0 60 = some (.inl 2, h) := (needT (x := 0) (y := 60) (lo := 0) (hi := 60) rfl rfl (by decide) (by decide)).2 q
theorem nT160_y {h : AH} (q : btw a 1 60) : f_X6_needSteps N h a 1 60 = some (.inr (), h) := (needT (x := 1) (y := 60) (lo := 1) (hi := 60) rfl rfl (by decide) (by decide)).1 q
theorem nT160_n {h : AH} (q : ¬ btw a 1 60) : f_X6_needSteps N h a 1 60 = some (.inl 2, h) := (needT (x := 1) (y := 60) (lo := 1) (hi := 60) rfl rfl (by decide) (by decide)).2 q
theorem nT15_y {h : AH} (q : btw a 1 5) : f_X6_needSteps N h a 1 5 = some (.inr (), h) := (needT (x := 1) (y := 5) (lo := 1) (hi := 5) rfl rfl (by decide) (by decide)).1 q
theorem nT15_n {h : AH} (q : ¬ btw a 1 5) : f_X6_needSteps N h a 1 5 = some (.inl 2, h) := (needT (x := 1) (y := 5) (lo := 1) (hi := 5) rfl rfl (by decide) (by decide)).2 q
theorem bT060_y {h : AH} (q : btw a 0 60) : f_X7_isIn N h (Int32.toInt64 a) 0 60 = some (1, h) := (isBt (x := 0) (y := 60) (lo := 0) (hi := 60) (by decide) (by decide) (by decide)).1 q
theorem bT060_n {h : AH} (q : ¬ btw a 0 60) : f_X7_isIn N h (Int32.toInt64 a) 0 60 = some (0, h) := (isBt (x := 0) (y := 60) (lo := 0) (hi := 60) (by decide) (by decide) (by decide)).2 q
theorem bT160_y {h : AH} (q : btw a 1 60) : f_X7_isIn N h (Int32.toInt64 a) 1 60 = some (1, h) := (isBt (x := 1) (y := 60) (lo := 1) (hi := 60) (by decide) (by decide) (by decide)).1 q
theorem bT160_n {h : AH} (q : ¬ btw a 1 60) : f_X7_isIn N h (Int32.toInt64 a) 1 60 = some (0, h) := (isBt (x := 1) (y := 60) (lo := 1) (hi := 60) (by decide) (by decide) (by decide)).2 q
theorem bT15_y {h : AH} (q : btw a 1 5) : f_X7_isIn N h (Int32.toInt64 a) 1 5 = some (1, h) := (isBt (x := 1) (y := 5) (lo := 1) (hi := 5) (by decide) (by decide) (by decide)).1 q
theorem bT15_n {h : AH} (q : ¬ btw a 1 5) : f_X7_isIn N h (Int32.toInt64 a) 1 5 = some (0, h) := (isBt (x := 1) (y := 5) (lo := 1) (hi := 5) (by decide) (by decide) (by decide)).2 q
theorem bT010_y {h : AH} (q : btw a 0 10) : f_X7_isIn N h (Int32.toInt64 a) 0 10 = some (1, h) := (isBt (x := 0) (y := 10) (lo := 0) (hi := 10) (by decide) (by decide) (by decide)).1 q
theorem bT010_n {h : AH} (q : ¬ btw a 0 10) : f_X7_isIn N h (Int32.toInt64 a) 0 10 = some (0, h) := (isBt (x := 0) (y := 10) (lo := 0) (hi := 10) (by decide) (by decide) (by decide)).2 q
theorem bT120_y {h : AH} (q : btw a 1 20) : f_X7_isIn N h (Int32.toInt64 a) 1 20 = some (1, h) := (isBt (x := 1) (y := 20) (lo := 1) (hi := 20) (by decide) (by decide) (by decide)).1 q
theorem bT120_n {h : AH} (q : ¬ btw a 1 20) : f_X7_isIn N h (Int32.toInt64 a) 1 20 = some (0, h) := (isBt (x := 1) (y := 20) (lo := 1) (hi := 20) (by decide) (by decide) (by decide)).2 q
theorem bT020_y {h : AH} (q : btw a 0 20) : f_X7_isIn N h (Int32.toInt64 a) 0 20 = some (1, h) := (isBt (x := 0) (y := 20) (lo := 0) (hi := 20) (by decide) (by decide) (by decide)).1 q
theorem bT020_n {h : AH} (q : ¬ btw a 0 20) : f_X7_isIn N h (Int32.toInt64 a) 0 20 = some (0, h) := (isBt (x := 0) (y := 20) (lo := 0) (hi := 20) (by decide) (by decide) (by decide)).2 q
theorem bT07_y {h : AH} (q : btw a 0 7) : f_X7_isIn N h (Int32.toInt64 a) 0 7 = some (1, h) := (isBt (x := 0) (y := 7) (lo := 0) (hi := 7) (by decide) (by decide) (by decide)).1 q
theorem bT07_n {h : AH} (q : ¬ btw a 0 7) : f_X7_isIn N h (Int32.toInt64 a) 0 7 = some (0, h) := (isBt (x := 0) (y := 7) (lo := 0) (hi := 7) (by decide) (by decide) (by decide)).2 q
end S41
