/-! the next token -/
def dv (tx : Nat → Nat) (R : Nat) : Nat → Nat
  | 0 => 0
  | k + 1 => 10 * dv tx R k + (tx (R + k) - 48)
def cw (tx : Nat → Nat) (R k : Nat) : Int32 := nI (dv tx R (if k < 4 then k else 4))
def mw (tx : Nat → Nat) (R : Nat) : Nat → Int32
  | 0 => 0
  | k + 1 => jmn 100000 (((10 : Int32) * mw tx R k + nI (tx (R + k))) - 48)
def TK (n : Nat) (tx : Nat → Nat) (C M : ST) (p e k : Nat) : Prop := TXT n tx C M ∧ M 71 24 = 0 ∧ (C 2 5 = nI p ∧ C 2 6 = nI e ∧ C 2 7 = nI k) ∧ (M 71 22 = nI p ∧ M 71 18 = nI e ∧ M 71 23 = nI e ∧ M 71 20 = nI k) ∧ p ≤ e ∧ e ≤ n ∧ (k ≠ 0 → p < e) ∧ k ≤ 4 ∧ (k = 2 → C 2 8 = nI (e - p) ∧ (e - p ≤ 4 → ∃ v, v ≤ 9999 ∧ C 2 9 = nI v ∧ M 71 21 = nI v))
section S74
variable {C C' M M' : ST} {N n g vl : Nat} {tx : Nat → Nat} {h : AH} {b : Nat}
theorem b_s2 {p e k d v : Int32} {C M0 : ST} {K : KT} {O : Nat → Int64} : (∀ y : Int32, ∀ (β : Type) (q : AH → Option β), Option.bind (jpf 4 (HP (s2 C p e k d v) M0 K O) 2 5 (.int y)) q = q (HP (s2 C y e k d v) M0 K O)) ∧ (∀ y : Int32, ∀ (β : Type) (q : AH → Option β), Option.bind (jpf 4 (HP (s2 C p e k d v) M0 K O) 2 6 (.int y)) q = q (HP (s2 C p y k d v) M0 K O)) ∧ (∀ y : Int32, ∀ (β : Type) (q : AH → Option β), Option.bind (jpf 4 (HP (s2 C p e k d v) M0 K O) 2 7 (.int y)) q = q (HP (s2 C p e y d v) M0 K O)) ∧ (∀ y : Int32, ∀ (β : Type) (q : AH → Option β), Option.bind (jpf 4 (HP (s2 C p e k d v) M0 K O) 2 8 (.int y)) q = q (HP (s2 C p e k y v) M0 K O)) ∧ (∀ y : Int32, ∀ (β : Type) (q : AH → Option β), Option.bind (jpf 4 (HP (s2 C p e k d v) M0 K O) 2 9 (.int y)) q = q (HP (s2 C p e k d y) M0 K O)) := ⟨fun y => by intro β q; simp only [↓b_wrC, s2_w5], fun y => by intro β q; simp only [↓b_wrC, s2_w6], fun y => by intro β q; simp only [↓b_wrC, s2_w7], fun y => by intro β q; simp only [↓b_wrC, s2_w8], fun y => by intro β q; simp only [↓b_wrC, s2_w9]⟩
theorem b_m7 {a t x b s : Int32} {M C0 : ST} {K : KT} {O : Nat → Int64} : (∀ y : Int32, ∀ (β : Type) (q : AH → Option β), Option.bind (jpf 7 (HP C0 (m7 M a t x b s) K O) 71 18 (.int y)) q = q (HP C0 (m7 M y t x b s) K O)) ∧ (∀ y : Int32, ∀ (β : Type) (q : AH → Option β), Option.bind (jpf 7 (HP C0 (m7 M a t x b s) K O) 71 20 (.int y)) q = q (HP C0 (m7 M a y x b s) K O)) ∧ (∀ y : Int32, ∀ (β : Type) (q : AH → Option β), Option.bind (jpf 7 (HP C0 (m7 M a t x b s) K O) 71 21 (.int y)) q = q (HP C0 (m7 M a t y b s) K O)) ∧ (∀ y : Int32, ∀ (β : Type) (q : AH → Option β), Option.bind (jpf 7 (HP C0 (m7 M a t x b s) K O) 71 22 (.int y)) q = q (HP C0 (m7 M a t x y s) K O)) ∧ (∀ y : Int32, ∀ (β : Type) (q : AH → Option β), Option.bind (jpf 7 (HP C0 (m7 M a t x b s) K O) 71 23 (.int y)) q = q (HP C0 (m7 M a t x b y) K O)) := ⟨fun y => by intro β q; simp only [↓b_wrM, m7_w18], fun y => by intro β q; simp only [↓b_wrM, m7_w20], fun y => by intro β q; simp only [↓b_wrM, m7_w21], fun y => by intro β q; simp only [↓b_wrM, m7_w22], fun y => by intro β q; simp only [↓b_wrM, m7_w23]⟩
theorem TXT_s2 (hT : TXT n tx C M) {p e k d v a t x b s : Int32} : TXT n tx (s2 C p e k d v) (m7 M a t x b s) := by
  obtain ⟨h1, h2, h3, h4⟩ := hT
  refine ⟨h1, h2, h3, fun i hi => ?_⟩
  rw [s2_o (show (1 : Nat) ≠ 2 by decide), m7_o (show (86 : Nat) ≠ 71 by decide)]
  exact h4 i hi
theorem dv_lt {R : Nat} : ∀ k, (∀ i, i < k → 48 ≤ tx (R + i) ∧ tx (R + i) ≤ 57) → dv tx R k < 10 ^ k
  | 0 => fun _ => Nat.zero_lt_one
  | k + 1 => fun h => by
    have h1 := dv_lt k (fun i hi => h i (by omega))
    have h2 := h k (by omega)
    unfold dv
    rw [Nat.pow_succ]
    omega
theorem dv4 {R k : Nat} (hk : k ≤ 4) (h : ∀ i, i < k → 48 ≤ tx (R + i) ∧ tx (R + i) ≤ 57) : dv tx R k ≤ 9999 := by
  have h1 := dv_lt k h
  have h2 : 10 ^ k ≤ 10 ^ 4 := Nat.pow_le_pow_right (by decide) hk
  have h3 : (10 : Nat) ^ 4 = 10000 := by decide
  omega
theorem dig_s {a t : Nat} (h1 : 48 ≤ t) : ((10 : Int32) * nI a + nI t) - 48 = nI (10 * a + (t - 48)) := by
  rw [m10, nI_add]
  have := subI (a := 48) (b := 10 * a + t) (by omega)
  rw [show nI 48 = 48 from rfl] at this
  rw [this]
  exact congrArg nI (by omega)
theorem mw4 {R : Nat} : ∀ k, k ≤ 4 → (∀ i, i < k → 48 ≤ tx (R + i) ∧ tx (R + i) ≤ 57) → mw tx R k = nI (dv tx R k)
  | 0 => fun _ _ => rfl
  | k + 1 => fun hk h => by
    have h0 := mw4 k (by omega) (fun i hi => h i (by omega))
    have h1 := dv4 (k := k + 1) hk h
    unfold mw
    rw [h0, dig_s (h k (by omega)).1]
    have e : 10 * dv tx R k + (tx (R + k) - 48) = dv tx R (k + 1) := rfl
    rw [e]
    unfold jmn
    rw [if_pos (show nI (dv tx R (k + 1)) < 100000 from nI_lt (b := 100000) (by omega) (by decide))]
set_option maxHeartbeats 4000000 in
theorem blank_c (hT : TXT n tx C M) {e : Nat} (he : e ≤ n) {E k d v : Int32} (hN : 1000 ≤ N) : ∀ (Mz : ST) (k1 vz : Nat) (O : Nat → Int64), itr (fun s : AH => f_X4_next_l8 N 2 s) N (HP (s2 C (nI e) E k d v) Mz (k1, g, 1, vz) O) = some (HP (s2 C (nI (rTo (fun i => isB (tx i)) (n - e) e)) E k d v) Mz (k1, g, 1, vz) O) := by
  intro Mz k1 vz O
  obtain ⟨h7, e3, _, ht⟩ := hT
  obtain ⟨r1, r2⟩ := rTo_le (fun i => isB (tx i)) (n - e) e
  have r3 := rTo_in (fun i => isB (tx i)) (n - e) e
  have r4 := rTo_end (fun i => isB (tx i)) (n - e) e
  obtain ⟨R, eR⟩ : ∃ R, R = rTo (fun i => isB (tx i)) (n - e) e := ⟨_, rfl⟩
  rw [← eR] at r1 r2 r3 r4 ⊢
  have A := itr_seq (body := fun s : AH => f_X4_next_l8 N 2 s) (fun i => (HP (s2 C (nI (e + i)) E k d v) Mz (k1, g, 1, vz) O)) (n := R - e) (r := (HP (s2 C (nI R) E k d v) Mz (k1, g, 1, vz) O)) ?_ ?_ (N := N) (by omega)
  · exact A
  · intro i hi
    have hb := r3 (e + i) (by omega) (by omega)
    have i7 : e + i < 700 := by omega
    obtain ⟨t1, t2, _⟩ := ht (e + i) (by omega)
    have t3 : s2 C (nI (e + i)) E k d v 1 (e + i) = sb (tx (e + i)) := by rw [s2_o (by decide)]; exact t2
    have q := isB_c (N := N) (h := (HP (s2 C (nI (e + i)) E k d v) Mz (k1, g, 1, vz) O)) t1
    rw [show isB (tx (e + i)) = true from hb] at q
    simp only [f_X4_next_l8, ↓b_rdC, s2_r, e3, nle (show e + i < n by omega) (by omega), ↓reduceIte, ↓b_raC, i7, t3, ↓bnd q, show b2i true = 1 from rfl, show ¬ (1 : Int32) = 0 by decide, nI_1, ↓b_s2]
    rfl
  · rw [show e + (R - e) = R by omega]
    by_cases z : R = n
    · simp only [f_X4_next_l8, ↓b_rdC, s2_r, e3, yle (show n ≤ R by omega) (by omega), ↓reduceIte]
    · have i7 : R < 700 := by omega
      obtain ⟨t1, t2, _⟩ := ht R (by omega)
      have t3 : s2 C (nI R) E k d v 1 R = sb (tx R) := by rw [s2_o (by decide)]; exact t2
      have q := isB_c (N := N) (h := (HP (s2 C (nI R) E k d v) Mz (k1, g, 1, vz) O)) t1
      rw [show isB (tx R) = false from r4 (by omega)] at q
      simp only [f_X4_next_l8, ↓b_rdC, s2_r, e3, nle (show R < n by omega) (by omega), ↓reduceIte, ↓b_raC, i7, t3, ↓bnd q, show b2i false = 0 from rfl]
set_option maxHeartbeats 4000000 in
theorem lett_c (hT : TXT n tx C M) {e : Nat} (he : e ≤ n) {P k d v : Int32} (hN : 1000 ≤ N) : ∀ (Mz : ST) (k1 vz : Nat) (O : Nat → Int64), itr (fun s : AH => f_X4_next_l94 N 2 s) N (HP (s2 C P (nI e) k d v) Mz (k1, g, 1, vz) O) = some (HP (s2 C P (nI (rTo (fun i => isL (tx i)) (n - e) e)) k d v) Mz (k1, g, 1, vz) O) := by
  intro Mz k1 vz O
  obtain ⟨h7, e3, _, ht⟩ := hT
  obtain ⟨r1, r2⟩ := rTo_le (fun i => isL (tx i)) (n - e) e
  have r3 := rTo_in (fun i => isL (tx i)) (n - e) e
  have r4 := rTo_end (fun i => isL (tx i)) (n - e) e
  obtain ⟨R, eR⟩ : ∃ R, R = rTo (fun i => isL (tx i)) (n - e) e := ⟨_, rfl⟩
  rw [← eR] at r1 r2 r3 r4 ⊢
  have A := itr_seq (body := fun s : AH => f_X4_next_l94 N 2 s) (fun i => (HP (s2 C P (nI (e + i)) k d v) Mz (k1, g, 1, vz) O)) (n := R - e) (r := (HP (s2 C P (nI R) k d v) Mz (k1, g, 1, vz) O)) ?_ ?_ (N := N) (by omega)
  · exact A
  · intro i hi
    have hb := r3 (e + i) (by omega) (by omega)
    have i7 : e + i < 700 := by omega
    obtain ⟨t1, t2, _⟩ := ht (e + i) (by omega)
    have t3 : s2 C P (nI (e + i)) k d v 1 (e + i) = sb (tx (e + i)) := by rw [s2_o (by decide)]; exact t2
    have q := isL_c (N := N) (h := (HP (s2 C P (nI (e + i)) k d v) Mz (k1, g, 1, vz) O)) t1
    rw [show isL (tx (e + i)) = true from hb] at q
    simp only [f_X4_next_l94, ↓b_rdC, s2_r, e3, nle (show e + i < n by omega) (by omega), ↓reduceIte, ↓b_raC, i7, t3, ↓bnd q, show b2i true = 1 from rfl, show ¬ (1 : Int32) = 0 by decide, nI_1, ↓b_s2]
    rfl
  · rw [show e + (R - e) = R by omega]
    by_cases z : R = n
    · simp only [f_X4_next_l94, ↓b_rdC, s2_r, e3, yle (show n ≤ R by omega) (by omega), ↓reduceIte]
    · have i7 : R < 700 := by omega
      obtain ⟨t1, t2, _⟩ := ht R (by omega)
      have t3 : s2 C P (nI R) k d v 1 R = sb (tx R) := by rw [s2_o (by decide)]; exact t2
      have q := isL_c (N := N) (h := (HP (s2 C P (nI R) k d v) Mz (k1, g, 1, vz) O)) t1
      rw [show isL (tx R) = false from r4 (by omega)] at q
      simp only [f_X4_next_l94, ↓b_rdC, s2_r, e3, nle (show R < n by omega) (by omega), ↓reduceIte, ↓b_raC, i7, t3, ↓bnd q, show b2i false = 0 from rfl]
theorem isD_r {b : Nat} (h : isD b = true) : 48 ≤ b ∧ b ≤ 57 := by
  unfold isD at h
  exact decide_eq_true_eq.mp h
set_option maxHeartbeats 4000000 in
theorem digs_c (hT : TXT n tx C M) {e : Nat} (he : e ≤ n) {P k : Int32} (hN : 1000 ≤ N) : ∀ (Mz : ST) (k1 vz : Nat) (O : Nat → Int64), itr (fun s : AH => f_X4_takeDigits_l10 N 2 s) N (HP (s2 C P (nI e) k 0 0) Mz (k1, g, 1, vz) O) = some (HP (s2 C P (nI (rTo (fun i => isD (tx i)) (n - e) e)) k (nI (rTo (fun i => isD (tx i)) (n - e) e - e)) (cw tx e (rTo (fun i => isD (tx i)) (n - e) e - e))) Mz (k1, g, 1, vz) O) := by
  intro Mz k1 vz O
  obtain ⟨h7, e3, _, ht⟩ := hT
  obtain ⟨r1, r2⟩ := rTo_le (fun i => isD (tx i)) (n - e) e
  have r3 := rTo_in (fun i => isD (tx i)) (n - e) e
  have r4 := rTo_end (fun i => isD (tx i)) (n - e) e
  obtain ⟨R, eR⟩ : ∃ R, R = rTo (fun i => isD (tx i)) (n - e) e := ⟨_, rfl⟩
  rw [← eR] at r1 r2 r3 r4 ⊢
  have A := itr_seq (body := fun s : AH => f_X4_takeDigits_l10 N 2 s) (fun i => (HP (s2 C P (nI (e + i)) k (nI i) (cw tx e i)) Mz (k1, g, 1, vz) O)) (n := R - e) (r := (HP (s2 C P (nI R) k (nI (R - e)) (cw tx e (R - e))) Mz (k1, g, 1, vz) O)) ?_ ?_ (N := N) (by omega)
  · exact A
  · intro i hi
    have hb := r3 (e + i) (by omega) (by omega)
    obtain ⟨d1, d2⟩ := isD_r hb
    have i7 : e + i < 700 := by omega
    obtain ⟨t1, t2, _⟩ := ht (e + i) (by omega)
    have t3 : ∀ x y, s2 C P (nI (e + i)) k x y 1 (e + i) = sb (tx (e + i)) := fun x y => by rw [s2_o (by decide)]; exact t2
    obtain ⟨g1, g2⟩ : ¬ sb (tx (e + i)) < 48 ∧ ¬ 57 < sb (tx (e + i)) := by
      rcases cD (tx (e + i)) t1 with ⟨_, a, b⟩ | ⟨a, _⟩ | ⟨a, _⟩
      · exact ⟨a, b⟩
      · rw [show isD (tx (e + i)) = true from hb] at a; cases a
      · rw [show isD (tx (e + i)) = true from hb] at a; cases a
    by_cases z : i < 4
    · have l4 : ¬ (4 : Int32) < nI (i + 1) := nI_nlt (a := 4) (by omega) (by decide)
      have ev : cw tx e i * 10 + sb (tx (e + i)) - 48 = cw tx e (i + 1) := by
        unfold cw
        rw [if_pos z, show (if i + 1 < 4 then i + 1 else 4) = i + 1 by split <;> omega]
        have es : sb (tx (e + i)) = nI (tx (e + i)) := by unfold sb; rw [if_pos (by omega)]
        rw [es, Int32.mul_comm, dig_s d1]
        rfl
      simp only [f_X4_takeDigits_l10, f_X4_takeDigits_b91, ↓b_rdC, s2_r, e3, nle (show e + i < n by omega) (by omega), ↓reduceIte, ↓b_raC, i7, t3, g1, g2, nI_1, ↓b_s2, l4, ev]
      rfl
    · have l4 : (4 : Int32) < nI (i + 1) := nI_lt (a := 4) (by omega) (by omega)
      have ev : cw tx e (i + 1) = cw tx e i := by
        unfold cw
        rw [if_neg z, if_neg (by omega)]
      simp only [f_X4_takeDigits_l10, f_X4_takeDigits_b91, ↓b_rdC, s2_r, e3, nle (show e + i < n by omega) (by omega), ↓reduceIte, ↓b_raC, i7, t3, g1, g2, nI_1, ↓b_s2, l4, ev]
      rfl
  · rw [show e + (R - e) = R by omega]
    by_cases z : R = n
    · simp only [f_X4_takeDigits_l10, ↓b_rdC, s2_r, e3, yle (show n ≤ R by omega) (by omega), ↓reduceIte]
    · have i7 : R < 700 := by omega
      obtain ⟨t1, t2, _⟩ := ht R (by omega)
      have t3 : s2 C P (nI R) k (nI (R - e)) (cw tx e (R - e)) 1 R = sb (tx R) := by rw [s2_o (by decide)]; exact t2
      have hb : isD (tx R) = false := r4 (by omega)
      rcases cD (tx R) t1 with ⟨a, _⟩ | ⟨_, g1⟩ | ⟨_, g1, g2⟩
      · rw [hb] at a; cases a
      · simp only [f_X4_takeDigits_l10, ↓b_rdC, s2_r, e3, nle (show R < n by omega) (by omega), ↓reduceIte, ↓b_raC, i7, t3, g1]
      · simp only [f_X4_takeDigits_l10, ↓b_rdC, s2_r, e3, nle (show R < n by omega) (by omega), ↓reduceIte, ↓b_raC, i7, t3, g1, g2]
/-! the reference -/
theorem n1_L {h : AH} : f_X7_isLetter N h (-1) = some (0, h) := by
  simp only [f_X7_isLetter, f_X7_isLetter_b16, show (-1 : Int32) < 97 by decide, ↓reduceIte]
theorem n1_D {h : AH} : f_X7_isDigit N h (-1) = some (0, h) := by
  simp only [f_X7_isDigit, f_X7_isDigit_b16, show (-1 : Int32) < 48 by decide, ↓reduceIte]
set_option maxHeartbeats 4000000 in
theorem blank_m (hT : TXT n tx C M) {e : Nat} (he : e ≤ n) {t x b s : Int32} (hN : 1000 ≤ N) : ∀ (Cz : ST) (k1 k2 k3 : Nat) (O : Nat → Int64), itr (fun s : AH => f_X7_stepOn_l0 N 71 s) N (HP Cz (m7 M (nI e) t x b s) (k1, k2, k3, vl) O) = some (HP Cz (m7 M (nI (rTo (fun i => isB (tx i)) (n - e) e)) t x b s) (k1, k2, k3, vl) O) := by
  intro Cz k1 k2 k3 O
  have hT0 := hT
  obtain ⟨h7, _, e3, ht⟩ := hT
  obtain ⟨r1, r2⟩ := rTo_le (fun i => isB (tx i)) (n - e) e
  have r3 := rTo_in (fun i => isB (tx i)) (n - e) e
  have r4 := rTo_end (fun i => isB (tx i)) (n - e) e
  obtain ⟨R, eR⟩ : ∃ R, R = rTo (fun i => isB (tx i)) (n - e) e := ⟨_, rfl⟩
  rw [← eR] at r1 r2 r3 r4 ⊢
  have A := itr_seq (body := fun s : AH => f_X7_stepOn_l0 N 71 s) (fun i => (HP Cz (m7 M (nI (e + i)) t x b s) (k1, k2, k3, vl) O)) (n := R - e) (r := (HP Cz (m7 M (nI R) t x b s) (k1, k2, k3, vl) O)) ?_ ?_ (N := N) (by omega)
  · exact A
  · intro i hi
    have hb := r3 (e + i) (by omega) (by omega)
    obtain ⟨t1, _, t2⟩ := ht (e + i) (by omega)
    have q := byteAt_m (N := N) (vl := vl) (a := nI (e + i)) (t := t) (x := x) (b := b) (s := s) hT0 (show e + i ≤ n by omega) Cz k1 k2 k3 O
    rw [if_pos (show e + i < n by omega)] at q
    have hb' : tx (e + i) = 32 ∨ tx (e + i) = 10 := decide_eq_true_eq.mp hb
    by_cases z : tx (e + i) = 32
    · rw [z] at q
      simp only [f_X7_stepOn_l0, f_X7_stepOn_b26, ↓b_rdM, m7_r, ↓bnd q, show nI 32 = 32 from rfl, ↓reduceIte, nI_1, ↓b_m7]
      rfl
    · rw [hb'.resolve_left z] at q
      simp only [f_X7_stepOn_l0, f_X7_stepOn_b26, ↓b_rdM, m7_r, ↓bnd q, show nI 10 = 10 from rfl, show ¬ (10 : Int32) = 32 by decide, ↓reduceIte, nI_1, ↓b_m7]
      rfl
  · rw [show e + (R - e) = R by omega]
    have q := byteAt_m (N := N) (vl := vl) (a := nI R) (t := t) (x := x) (b := b) (s := s) hT0 (show R ≤ n by omega) Cz k1 k2 k3 O
    by_cases z : R = n
    · rw [if_neg (by omega)] at q
      simp only [f_X7_stepOn_l0, ↓b_rdM, m7_r, ↓bnd q, show ¬ (-1 : Int32) = 32 by decide, show ¬ (-1 : Int32) = 10 by decide, ↓reduceIte]
    · obtain ⟨t1, _, t2⟩ := ht R (by omega)
      rw [if_pos (by omega)] at q
      have hb : ¬ (tx R = 32 ∨ tx R = 10) := of_decide_eq_false (r4 (by omega))
      have z1 : ¬ tx R = 32 := fun w => hb (.inl w)
      have z2 : ¬ tx R = 10 := fun w => hb (.inr w)
      simp only [f_X7_stepOn_l0, ↓b_rdM, m7_r, ↓bnd q, nI32 t1, nI10 t1, z1, z2, ↓reduceIte]
set_option maxHeartbeats 4000000 in
theorem lett_m (hT : TXT n tx C M) {e : Nat} (he : e ≤ n) {t x b s : Int32} (hN : 1000 ≤ N) : ∀ (Cz : ST) (k1 k2 k3 : Nat) (O : Nat → Int64), itr (fun s : AH => f_X7_stepOn_l76 N 71 s) N (HP Cz (m7 M (nI e) t x b s) (k1, k2, k3, vl) O) = some (HP Cz (m7 M (nI (rTo (fun i => isL (tx i)) (n - e) e)) t x b s) (k1, k2, k3, vl) O) := by
  intro Cz k1 k2 k3 O
  have hT0 := hT
  obtain ⟨h7, _, e3, ht⟩ := hT
  obtain ⟨r1, r2⟩ := rTo_le (fun i => isL (tx i)) (n - e) e
  have r3 := rTo_in (fun i => isL (tx i)) (n - e) e
  have r4 := rTo_end (fun i => isL (tx i)) (n - e) e
  obtain ⟨R, eR⟩ : ∃ R, R = rTo (fun i => isL (tx i)) (n - e) e := ⟨_, rfl⟩
  rw [← eR] at r1 r2 r3 r4 ⊢
  have A := itr_seq (body := fun s : AH => f_X7_stepOn_l76 N 71 s) (fun i => (HP Cz (m7 M (nI (e + i)) t x b s) (k1, k2, k3, vl) O)) (n := R - e) (r := (HP Cz (m7 M (nI R) t x b s) (k1, k2, k3, vl) O)) ?_ ?_ (N := N) (by omega)
  · exact A
  · intro i hi
    have hb := r3 (e + i) (by omega) (by omega)
    obtain ⟨t1, _, t2⟩ := ht (e + i) (by omega)
    have q := byteAt_m (N := N) (vl := vl) (a := nI (e + i)) (t := t) (x := x) (b := b) (s := s) hT0 (show e + i ≤ n by omega) Cz k1 k2 k3 O
    rw [if_pos (show e + i < n by omega)] at q
    have q2 := isL_m (N := N) (h := (HP Cz (m7 M (nI (e + i)) t x b s) (k1, k2, k3, vl) O)) t1
    rw [show isL (tx (e + i)) = true from hb] at q2
    simp only [f_X7_stepOn_l76, ↓b_rdM, m7_r, ↓bnd q, ↓bnd q2, show b2i true = 1 from rfl, show ¬ (1 : Int32) = 0 by decide, ↓reduceIte, nI_1, ↓b_m7]
    rfl
  · rw [show e + (R - e) = R by omega]
    have q := byteAt_m (N := N) (vl := vl) (a := nI R) (t := t) (x := x) (b := b) (s := s) hT0 (show R ≤ n by omega) Cz k1 k2 k3 O
    by_cases z : R = n
    · rw [if_neg (by omega)] at q
      simp only [f_X7_stepOn_l76, ↓b_rdM, m7_r, ↓bnd q, ↓bnd n1_L, ↓reduceIte]
    · obtain ⟨t1, _, t2⟩ := ht R (by omega)
      rw [if_pos (by omega)] at q
      have q2 := isL_m (N := N) (h := (HP Cz (m7 M (nI R) t x b s) (k1, k2, k3, vl) O)) t1
      rw [show isL (tx R) = false from r4 (by omega)] at q2
      simp only [f_X7_stepOn_l76, ↓b_rdM, m7_r, ↓bnd q, ↓bnd q2, show b2i false = 0 from rfl, ↓reduceIte]
set_option maxHeartbeats 4000000 in
theorem digs_m (hT : TXT n tx C M) {e : Nat} (he : e ≤ n) {t b s : Int32} (hN : 1000 ≤ N) : ∀ (Cz : ST) (k1 k2 k3 : Nat) (O : Nat → Int64), itr (fun s : AH => f_X7_stepOn_l123 N 71 s) N (HP Cz (m7 M (nI e) t 0 b s) (k1, k2, k3, vl) O) = some (HP Cz (m7 M (nI (rTo (fun i => isD (tx i)) (n - e) e)) t (mw tx e (rTo (fun i => isD (tx i)) (n - e) e - e)) b s) (k1, k2, k3, vl) O) := by
  intro Cz k1 k2 k3 O
  have hT0 := hT
  obtain ⟨h7, _, e3, ht⟩ := hT
  obtain ⟨r1, r2⟩ := rTo_le (fun i => isD (tx i)) (n - e) e
  have r3 := rTo_in (fun i => isD (tx i)) (n - e) e
  have r4 := rTo_end (fun i => isD (tx i)) (n - e) e
  obtain ⟨R, eR⟩ : ∃ R, R = rTo (fun i => isD (tx i)) (n - e) e := ⟨_, rfl⟩
  rw [← eR] at r1 r2 r3 r4 ⊢
  have A := itr_seq (body := fun s : AH => f_X7_stepOn_l123 N 71 s) (fun i => (HP Cz (m7 M (nI (e + i)) t (mw tx e i) b s) (k1, k2, k3, vl) O)) (n := R - e) (r := (HP Cz (m7 M (nI R) t (mw tx e (R - e)) b s) (k1, k2, k3, vl) O)) ?_ ?_ (N := N) (by omega)
  · exact A
  · intro i hi
    have hb := r3 (e + i) (by omega) (by omega)
    obtain ⟨t1, _, t2⟩ := ht (e + i) (by omega)
    have q := byteAt_m (N := N) (vl := vl) (a := nI (e + i)) (t := t) (x := mw tx e i) (b := b) (s := s) hT0 (show e + i ≤ n by omega) Cz k1 k2 k3 O
    rw [if_pos (show e + i < n by omega)] at q
    have q2 := isD_m (N := N) (h := (HP Cz (m7 M (nI (e + i)) t (mw tx e i) b s) (k1, k2, k3, vl) O)) t1
    rw [show isD (tx (e + i)) = true from hb] at q2
    simp only [f_X7_stepOn_l123, ↓b_rdM, m7_r, ↓bnd q, ↓bnd q2, show b2i true = 1 from rfl, show ¬ (1 : Int32) = 0 by decide, ↓reduceIte, nI_1, ↓b_m7, mw]
    rfl
  · rw [show e + (R - e) = R by omega]
    have q := byteAt_m (N := N) (vl := vl) (a := nI R) (t := t) (x := mw tx e (R - e)) (b := b) (s := s) hT0 (show R ≤ n by omega) Cz k1 k2 k3 O
    by_cases z : R = n
    · rw [if_neg (by omega)] at q
      simp only [f_X7_stepOn_l123, ↓b_rdM, m7_r, ↓bnd q, ↓bnd n1_D, ↓reduceIte]
    · obtain ⟨t1, _, t2⟩ := ht R (by omega)
      rw [if_pos (by omega)] at q
      have q2 := isD_m (N := N) (h := (HP Cz (m7 M (nI R) t (mw tx e (R - e)) b s) (k1, k2, k3, vl) O)) t1
      rw [show isD (tx R) = false from r4 (by omega)] at q2
      simp only [f_X7_stepOn_l123, ↓b_rdM, m7_r, ↓bnd q, ↓bnd q2, show b2i false = 0 from rfl, ↓reduceIte]
theorem nx_1 {p e k d v : Int32} : ∀ (Mz : ST) (k1 vz : Nat) (O : Nat → Int64), f_X4_next N (HP (s2 C p e k d v) Mz (k1, g, 1, vz) O) 2 = f_X4_next_b8 N 2 (HP (s2 C e e k d v) Mz (k1, g, 1, vz) O) := by
  intro Mz k1 vz O
  simp only [f_X4_next, ↓b_rdC, s2_r, ↓b_s2]
theorem nx_2 (hT : TXT n tx C M) {e : Nat} (he : e ≤ n) {E k d v : Int32} (hN : 1000 ≤ N) : ∀ (Mz : ST) (k1 vz : Nat) (O : Nat → Int64), f_X4_next_b8 N 2 (HP (s2 C (nI e) E k d v) Mz (k1, g, 1, vz) O) = f_X4_next_b47 N 2 (HP (s2 C (nI (rTo (fun i => isB (tx i)) (n - e) e)) E k d v) Mz (k1, g, 1, vz) O) := by
  intro Mz k1 vz O
  unfold f_X4_next_b8
  rw [bnd (blank_c (g := g) hT he hN Mz k1 vz O)]
theorem nx_c (hT : TXT n tx C M) {e : Nat} (e1 : C 2 6 = nI e) (he : e ≤ n) (hN : 1000 ≤ N) : ∀ (Mz : ST) (k1 vz : Nat) (O : Nat → Int64), f_X4_next N (HP C Mz (k1, g, 1, vz) O) 2 = f_X4_next_b47 N 2 (HP (s2 C (nI (rTo (fun i => isB (tx i)) (n - e) e)) (nI e) (C 2 7) (C 2 8) (C 2 9)) Mz (k1, g, 1, vz) O) := by
  intro Mz k1 vz O
  have h1 := nx_1 (N := N) (g := g) (C := C) (p := C 2 5) (e := C 2 6) (k := C 2 7) (d := C 2 8) (v := C 2 9) Mz k1 vz O
  rw [s2_self, e1] at h1
  rw [h1]
  exact nx_2 (g := g) hT he hN Mz k1 vz O
theorem nx_m (hT : TXT n tx C M) {e : Nat} (e2 : M 71 18 = nI e) (he : e ≤ n) (hN : 1000 ≤ N) : ∀ (Cz : ST) (k1 k2 k3 : Nat) (O : Nat → Int64), f_X7_stepOn N (HP Cz M (k1, k2, k3, vl) O) 71 = f_X7_stepOn_b0 N 71 (HP Cz (m7 M (nI e) (M 71 20) (M 71 21) (M 71 22) (M 71 23)) (k1, k2, k3, vl) O) := by
  intro Cz k1 k2 k3 O
  have ms : (HP Cz M (k1, k2, k3, vl) O) = (HP Cz (m7 M (M 71 18) (M 71 20) (M 71 21) (M 71 22) (M 71 23)) (k1, k2, k3, vl) O) := by rw [m7_self]
  rw [ms, e2]
  rfl
set_option maxHeartbeats 4000000 in
theorem next_e (hT : TXT n tx C M) {e R : Nat} (e1 : C 2 6 = nI e) (e2 : M 71 18 = nI e) (he : e ≤ n) (hz : M 71 24 = 0) (eR : R = rTo (fun i => isB (tx i)) (n - e) e) (r1 : e ≤ R) (z : R = n) (hN : 1000 ≤ N) : ∃ (p e' k : Nat) (d v x : Int32), e ≤ p ∧ (∀ (Mz : ST) (k1 vz : Nat) (O : Nat → Int64), f_X4_next N (HP C Mz (k1, g, 1, vz) O) 2 = some (HP (s2 C (nI p) (nI e') (nI k) d v) Mz (k1, g, 1, vz) O)) ∧ (∀ (Cz : ST) (k1 k2 k3 : Nat) (O : Nat → Int64), f_X7_stepOn N (HP Cz M (k1, k2, k3, vl) O) 71 = some (HP Cz (m7 M (nI e') (nI k) x (nI p) (nI e')) (k1, k2, k3, vl) O)) ∧ TK n tx (s2 C (nI p) (nI e') (nI k) d v) (m7 M (nI e') (nI k) x (nI p) (nI e')) p e' k := by
  have bm := blank_m (vl := vl) hT he (N := N) (t := M 71 20) (x := M 71 21) (b := M 71 22) (s := M 71 23) hN
  have cn := nx_c (g := g) hT e1 he hN
  have mn := nx_m (vl := vl) hT e2 he hN
  rw [← eR] at bm cn
  have h7 := hT.1
  have e3 := hT.2.1
  have t0 : ¬ (1 : Int32) = 0 := by decide
  have kn : nI 0 = 0 ∧ nI 1 = 1 ∧ nI 2 = 2 ∧ nI 3 = 3 ∧ nI 4 = 4 := ⟨rfl, rfl, rfl, rfl, rfl⟩
  refine ⟨R, R, 0, C 2 8, C 2 9, M 71 21, r1, fun Mz k1 vz O => ?_, fun Cz k1 k2 k3 O => ?_, TXT_s2 hT, hz, ⟨rfl, rfl, rfl⟩, ⟨rfl, rfl, rfl, rfl⟩, Nat.le_refl _, by omega, fun w => absurd rfl w, by decide, fun w => absurd w (by decide)⟩
  · rw [cn Mz k1 vz O]
    have l : ¬ nI R < nI n := nI_nlt (by omega) (by omega)
    simp only [f_X4_next_b47, ↓b_rdC, s2_r, ↓b_s2, e3, l, ↓reduceIte, kn.1, kn.2.1, kn.2.2.1, kn.2.2.2.1, kn.2.2.2.2]
  · rw [mn Cz k1 k2 k3 O]
    have q := byteAt_m (N := N) (vl := vl) (a := nI R) (t := M 71 20) (x := M 71 21) (b := nI R) (s := M 71 23) hT (show R ≤ n by omega) Cz k1 k2 k3 O
    rw [if_neg (by omega)] at q
    simp only [f_X7_stepOn_b0, bm Cz k1 k2 k3 O, Option.bind_some, f_X7_stepOn_b212, ↓b_rdM, m7_r, ↓b_m7, ↓bnd q, ↓reduceIte, kn.1, kn.2.1, kn.2.2.1, kn.2.2.2.1, kn.2.2.2.2]
set_option maxHeartbeats 4000000 in
theorem next_l (hT : TXT n tx C M) {e R : Nat} (e1 : C 2 6 = nI e) (e2 : M 71 18 = nI e) (he : e ≤ n) (hz : M 71 24 = 0) (eR : R = rTo (fun i => isB (tx i)) (n - e) e) (r1 : e ≤ R) (hR : R < n) (yL : isL (tx R) = true) (hN : 1000 ≤ N) : ∃ (p e' k : Nat) (d v x : Int32), e ≤ p ∧ (∀ (Mz : ST) (k1 vz : Nat) (O : Nat → Int64), f_X4_next N (HP C Mz (k1, g, 1, vz) O) 2 = some (HP (s2 C (nI p) (nI e') (nI k) d v) Mz (k1, g, 1, vz) O)) ∧ (∀ (Cz : ST) (k1 k2 k3 : Nat) (O : Nat → Int64), f_X7_stepOn N (HP Cz M (k1, k2, k3, vl) O) 71 = some (HP Cz (m7 M (nI e') (nI k) x (nI p) (nI e')) (k1, k2, k3, vl) O)) ∧ TK n tx (s2 C (nI p) (nI e') (nI k) d v) (m7 M (nI e') (nI k) x (nI p) (nI e')) p e' k := by
  have bm := blank_m (vl := vl) hT he (N := N) (t := M 71 20) (x := M 71 21) (b := M 71 22) (s := M 71 23) hN
  have cn := nx_c (g := g) hT e1 he hN
  have mn := nx_m (vl := vl) hT e2 he hN
  rw [← eR] at bm cn
  have h7 := hT.1
  have e3 := hT.2.1
  have t0 : ¬ (1 : Int32) = 0 := by decide
  have kn : nI 0 = 0 ∧ nI 1 = 1 ∧ nI 2 = 2 ∧ nI 3 = 3 ∧ nI 4 = 4 := ⟨rfl, rfl, rfl, rfl, rfl⟩
  have i7 : R < 700 := by omega
  obtain ⟨t1, t2, t3⟩ := hT.2.2.2 R hR
  have l : nI R < nI n := nI_lt hR (by omega)
  have tc : ∀ E k d v, s2 C (nI R) E k d v 1 R = sb (tx R) := fun E k d v => by rw [s2_o (by decide)]; exact t2
  have n1 : ¬ nI (tx R) = -1 := (neg_cases (by omega)).1
  have qL := fun (h : AH) => isL_c (N := N) (h := h) t1
  have qD := fun (h : AH) => isD_c (N := N) (h := h) t1
  have qM := fun (h : AH) => isM_c (N := N) (h := h) t1
  have rL := fun (h : AH) => isL_m (N := N) (h := h) t1
  have rD := fun (h : AH) => isD_m (N := N) (h := h) t1
  have rM := fun (h : AH) => isM_m (N := N) (h := h) t1
  have q := byteAt_m (N := N) (vl := vl) (a := nI R) (t := M 71 20) (x := M 71 21) (b := nI R) (s := M 71 23) hT (show R ≤ n by omega)
  simp only [if_pos hR] at q
  obtain ⟨u1, u2⟩ := rTo_le (fun i => isL (tx i)) (n - R) R
  have u3 : R < rTo (fun i => isL (tx i)) (n - R) R := by
    rcases Nat.lt_or_ge R (rTo (fun i => isL (tx i)) (n - R) R) with w | w
    · exact w
    · exfalso
      have e0 : rTo (fun i => isL (tx i)) (n - R) R = R := by omega
      have := rTo_end (fun i => isL (tx i)) (n - R) R (by omega)
      rw [e0] at this
      simp only [yL] at this
      cases this
  have lc := lett_c (g := g) hT (N := N) (show R ≤ n by omega) (P := nI R) (k := 1) (d := C 2 8) (v := C 2 9) hN
  have lm := lett_m (vl := vl) hT (N := N) (show R ≤ n by omega) (t := M 71 20) (x := M 71 21) (b := nI R) (s := M 71 23) hN
  obtain ⟨R2, eR2⟩ : ∃ R2, R2 = rTo (fun i => isL (tx i)) (n - R) R := ⟨_, rfl⟩
  rw [← eR2] at u1 u2 u3 lc lm
  simp only [yL] at qL rL
  refine ⟨R, R2, 1, C 2 8, C 2 9, M 71 21, r1, fun Mz k1 vz O => ?_, fun Cz k1 k2 k3 O => ?_, TXT_s2 hT, hz, ⟨rfl, rfl, rfl⟩, ⟨rfl, rfl, rfl, rfl⟩, by omega, by omega, fun _ => u3, by decide, fun w => absurd w (by decide)⟩
  · rw [cn Mz k1 vz O]
    simp only [f_X4_next_b47, f_X4_next_b94, ↓b_rdC, s2_r, ↓b_s2, e3, l, ↓reduceIte, ↓b_raC, i7, tc, ↓bnd (qL _), show b2i true = 1 from rfl, t0, lc Mz k1 vz O, Option.bind_some, kn.1, kn.2.1, kn.2.2.1, kn.2.2.2.1, kn.2.2.2.2]
  · rw [mn Cz k1 k2 k3 O]
    simp only [f_X7_stepOn_b0, bm Cz k1 k2 k3 O, Option.bind_some, f_X7_stepOn_b76, f_X7_stepOn_b212, ↓b_rdM, m7_r, ↓b_m7, ↓bnd (q Cz k1 k2 k3 O), n1, ↓reduceIte, ↓bnd (rL _), show b2i true = 1 from rfl, t0, lm Cz k1 k2 k3 O, kn.1, kn.2.1, kn.2.2.1, kn.2.2.2.1, kn.2.2.2.2]
set_option maxHeartbeats 4000000 in
theorem next_d (hT : TXT n tx C M) {e R : Nat} (e1 : C 2 6 = nI e) (e2 : M 71 18 = nI e) (he : e ≤ n) (hz : M 71 24 = 0) (eR : R = rTo (fun i => isB (tx i)) (n - e) e) (r1 : e ≤ R) (hR : R < n) (yL : ¬ isL (tx R) = true) (yD : isD (tx R) = true) (hN : 1000 ≤ N) : ∃ (p e' k : Nat) (d v x : Int32), e ≤ p ∧ (∀ (Mz : ST) (k1 vz : Nat) (O : Nat → Int64), f_X4_next N (HP C Mz (k1, g, 1, vz) O) 2 = some (HP (s2 C (nI p) (nI e') (nI k) d v) Mz (k1, g, 1, vz) O)) ∧ (∀ (Cz : ST) (k1 k2 k3 : Nat) (O : Nat → Int64), f_X7_stepOn N (HP Cz M (k1, k2, k3, vl) O) 71 = some (HP Cz (m7 M (nI e') (nI k) x (nI p) (nI e')) (k1, k2, k3, vl) O)) ∧ TK n tx (s2 C (nI p) (nI e') (nI k) d v) (m7 M (nI e') (nI k) x (nI p) (nI e')) p e' k := by
  have bm := blank_m (vl := vl) hT he (N := N) (t := M 71 20) (x := M 71 21) (b := M 71 22) (s := M 71 23) hN
  have cn := nx_c (g := g) hT e1 he hN
  have mn := nx_m (vl := vl) hT e2 he hN
  rw [← eR] at bm cn
  have h7 := hT.1
  have e3 := hT.2.1
  have t0 : ¬ (1 : Int32) = 0 := by decide
  have kn : nI 0 = 0 ∧ nI 1 = 1 ∧ nI 2 = 2 ∧ nI 3 = 3 ∧ nI 4 = 4 := ⟨rfl, rfl, rfl, rfl, rfl⟩
  have i7 : R < 700 := by omega
  obtain ⟨t1, t2, t3⟩ := hT.2.2.2 R hR
  have l : nI R < nI n := nI_lt hR (by omega)
  have tc : ∀ E k d v, s2 C (nI R) E k d v 1 R = sb (tx R) := fun E k d v => by rw [s2_o (by decide)]; exact t2
  have n1 : ¬ nI (tx R) = -1 := (neg_cases (by omega)).1
  have qL := fun (h : AH) => isL_c (N := N) (h := h) t1
  have qD := fun (h : AH) => isD_c (N := N) (h := h) t1
  have qM := fun (h : AH) => isM_c (N := N) (h := h) t1
  have rL := fun (h : AH) => isL_m (N := N) (h := h) t1
  have rD := fun (h : AH) => isD_m (N := N) (h := h) t1
  have rM := fun (h : AH) => isM_m (N := N) (h := h) t1
  have q := byteAt_m (N := N) (vl := vl) (a := nI R) (t := M 71 20) (x := M 71 21) (b := nI R) (s := M 71 23) hT (show R ≤ n by omega)
  simp only [if_pos hR] at q
  have yL' : isL (tx R) = false := by simpa using yL
  simp only [yL'] at qL rL
  obtain ⟨u1, u2⟩ := rTo_le (fun i => isD (tx i)) (n - R) R
  have u4 := rTo_in (fun i => isD (tx i)) (n - R) R
  have u3 : R < rTo (fun i => isD (tx i)) (n - R) R := by
    rcases Nat.lt_or_ge R (rTo (fun i => isD (tx i)) (n - R) R) with w | w
    · exact w
    · exfalso
      have e0 : rTo (fun i => isD (tx i)) (n - R) R = R := by omega
      have := rTo_end (fun i => isD (tx i)) (n - R) R (by omega)
      rw [e0] at this
      simp only [yD] at this
      cases this
  have lc := digs_c (g := g) hT (N := N) (show R ≤ n by omega) (P := nI R) (k := 2) hN
  have lm := digs_m (vl := vl) hT (N := N) (show R ≤ n by omega) (t := M 71 20) (b := nI R) (s := M 71 23) hN
  obtain ⟨R2, eR2⟩ : ∃ R2, R2 = rTo (fun i => isD (tx i)) (n - R) R := ⟨_, rfl⟩
  rw [← eR2] at u1 u2 u3 u4 lc lm
  simp only [yD] at qD rD
  have dg : ∀ i, i < R2 - R → 48 ≤ tx (R + i) ∧ tx (R + i) ≤ 57 := fun i hi => isD_r (u4 (R + i) (by omega) (by omega))
  refine ⟨R, R2, 2, nI (R2 - R), cw tx R (R2 - R), mw tx R (R2 - R), r1, fun Mz k1 vz O => ?_, fun Cz k1 k2 k3 O => ?_, TXT_s2 hT, hz, ⟨rfl, rfl, rfl⟩, ⟨rfl, rfl, rfl, rfl⟩, by omega, by omega, fun _ => u3, by decide, fun _ => ⟨rfl, fun w => ⟨dv tx R (R2 - R), dv4 w dg, ?_, mw4 _ w dg⟩⟩⟩
  · rw [cn Mz k1 vz O]
    simp only [f_X4_next_b47, f_X4_takeDigits, f_X4_takeDigits_b10, ↓b_rdC, s2_r, ↓b_s2, e3, l, ↓reduceIte, ↓b_raC, i7, tc, ↓bnd (qL _), ↓bnd (qD _), show b2i true = 1 from rfl, show b2i false = 0 from rfl, t0, lc Mz k1 vz O, Option.bind_some, kn.1, kn.2.1, kn.2.2.1, kn.2.2.2.1, kn.2.2.2.2]
  · rw [mn Cz k1 k2 k3 O]
    simp only [f_X7_stepOn_b0, bm Cz k1 k2 k3 O, Option.bind_some, f_X7_stepOn_b123, f_X7_stepOn_b212, ↓b_rdM, m7_r, ↓b_m7, ↓bnd (q Cz k1 k2 k3 O), n1, ↓reduceIte, ↓bnd (rL _), ↓bnd (rD _), show b2i true = 1 from rfl, show b2i false = 0 from rfl, t0, lm Cz k1 k2 k3 O, kn.1, kn.2.1, kn.2.2.1, kn.2.2.2.1, kn.2.2.2.2]
  · show cw tx R (R2 - R) = _
    unfold cw
    rw [show (if R2 - R < 4 then R2 - R else 4) = R2 - R by split <;> omega]
set_option maxHeartbeats 4000000 in
theorem next_s (hT : TXT n tx C M) {e R : Nat} (e1 : C 2 6 = nI e) (e2 : M 71 18 = nI e) (he : e ≤ n) (hz : M 71 24 = 0) (eR : R = rTo (fun i => isB (tx i)) (n - e) e) (r1 : e ≤ R) (hR : R < n) (yL : ¬ isL (tx R) = true) (yD : ¬ isD (tx R) = true) (yM : isM (tx R) = true) (hN : 1000 ≤ N) : ∃ (p e' k : Nat) (d v x : Int32), e ≤ p ∧ (∀ (Mz : ST) (k1 vz : Nat) (O : Nat → Int64), f_X4_next N (HP C Mz (k1, g, 1, vz) O) 2 = some (HP (s2 C (nI p) (nI e') (nI k) d v) Mz (k1, g, 1, vz) O)) ∧ (∀ (Cz : ST) (k1 k2 k3 : Nat) (O : Nat → Int64), f_X7_stepOn N (HP Cz M (k1, k2, k3, vl) O) 71 = some (HP Cz (m7 M (nI e') (nI k) x (nI p) (nI e')) (k1, k2, k3, vl) O)) ∧ TK n tx (s2 C (nI p) (nI e') (nI k) d v) (m7 M (nI e') (nI k) x (nI p) (nI e')) p e' k := by
  have bm := blank_m (vl := vl) hT he (N := N) (t := M 71 20) (x := M 71 21) (b := M 71 22) (s := M 71 23) hN
  have cn := nx_c (g := g) hT e1 he hN
  have mn := nx_m (vl := vl) hT e2 he hN
  rw [← eR] at bm cn
  have h7 := hT.1
  have e3 := hT.2.1
  have t0 : ¬ (1 : Int32) = 0 := by decide
  have kn : nI 0 = 0 ∧ nI 1 = 1 ∧ nI 2 = 2 ∧ nI 3 = 3 ∧ nI 4 = 4 := ⟨rfl, rfl, rfl, rfl, rfl⟩
  have i7 : R < 700 := by omega
  obtain ⟨t1, t2, t3⟩ := hT.2.2.2 R hR
  have l : nI R < nI n := nI_lt hR (by omega)
  have tc : ∀ E k d v, s2 C (nI R) E k d v 1 R = sb (tx R) := fun E k d v => by rw [s2_o (by decide)]; exact t2
  have n1 : ¬ nI (tx R) = -1 := (neg_cases (by omega)).1
  have qL := fun (h : AH) => isL_c (N := N) (h := h) t1
  have qD := fun (h : AH) => isD_c (N := N) (h := h) t1
  have qM := fun (h : AH) => isM_c (N := N) (h := h) t1
  have rL := fun (h : AH) => isL_m (N := N) (h := h) t1
  have rD := fun (h : AH) => isD_m (N := N) (h := h) t1
  have rM := fun (h : AH) => isM_m (N := N) (h := h) t1
  have q := byteAt_m (N := N) (vl := vl) (a := nI R) (t := M 71 20) (x := M 71 21) (b := nI R) (s := M 71 23) hT (show R ≤ n by omega)
  simp only [if_pos hR] at q
  have yL' : isL (tx R) = false := by simpa using yL
  simp only [yL'] at qL rL
  have yD' : isD (tx R) = false := by simpa using yD
  simp only [yD'] at qD rD
  simp only [yM] at qM rM
  refine ⟨R, R + 1, 3, C 2 8, C 2 9, M 71 21, r1, fun Mz k1 vz O => ?_, fun Cz k1 k2 k3 O => ?_, TXT_s2 hT, hz, ⟨rfl, rfl, rfl⟩, ⟨rfl, rfl, rfl, rfl⟩, by omega, by omega, fun _ => by omega, by decide, fun w => absurd w (by decide)⟩
  · rw [cn Mz k1 vz O]
    simp only [f_X4_next_b47, f_X4_next_b181, ↓b_rdC, s2_r, ↓b_s2, e3, l, ↓reduceIte, ↓b_raC, i7, tc, ↓bnd (qL _), ↓bnd (qD _), ↓bnd (qM _), show b2i true = 1 from rfl, show b2i false = 0 from rfl, t0, nI_1, kn.1, kn.2.1, kn.2.2.1, kn.2.2.2.1, kn.2.2.2.2]
  · rw [mn Cz k1 k2 k3 O]
    simp only [f_X7_stepOn_b0, bm Cz k1 k2 k3 O, Option.bind_some, f_X7_stepOn_b209, f_X7_stepOn_b212, ↓b_rdM, m7_r, ↓b_m7, ↓bnd (q Cz k1 k2 k3 O), n1, ↓reduceIte, ↓bnd (rL _), ↓bnd (rD _), ↓bnd (rM _), show b2i true = 1 from rfl, show b2i false = 0 from rfl, t0, nI_1, kn.1, kn.2.1, kn.2.2.1, kn.2.2.2.1, kn.2.2.2.2]
set_option maxHeartbeats 4000000 in
theorem next_x (hT : TXT n tx C M) {e R : Nat} (e1 : C 2 6 = nI e) (e2 : M 71 18 = nI e) (he : e ≤ n) (hz : M 71 24 = 0) (eR : R = rTo (fun i => isB (tx i)) (n - e) e) (r1 : e ≤ R) (hR : R < n) (yL : ¬ isL (tx R) = true) (yD : ¬ isD (tx R) = true) (yM : isM (tx R) = false) (hN : 1000 ≤ N) : ∃ (p e' k : Nat) (d v x : Int32), e ≤ p ∧ (∀ (Mz : ST) (k1 vz : Nat) (O : Nat → Int64), f_X4_next N (HP C Mz (k1, g, 1, vz) O) 2 = some (HP (s2 C (nI p) (nI e') (nI k) d v) Mz (k1, g, 1, vz) O)) ∧ (∀ (Cz : ST) (k1 k2 k3 : Nat) (O : Nat → Int64), f_X7_stepOn N (HP Cz M (k1, k2, k3, vl) O) 71 = some (HP Cz (m7 M (nI e') (nI k) x (nI p) (nI e')) (k1, k2, k3, vl) O)) ∧ TK n tx (s2 C (nI p) (nI e') (nI k) d v) (m7 M (nI e') (nI k) x (nI p) (nI e')) p e' k := by
  have bm := blank_m (vl := vl) hT he (N := N) (t := M 71 20) (x := M 71 21) (b := M 71 22) (s := M 71 23) hN
  have cn := nx_c (g := g) hT e1 he hN
  have mn := nx_m (vl := vl) hT e2 he hN
  rw [← eR] at bm cn
  have h7 := hT.1
  have e3 := hT.2.1
  have t0 : ¬ (1 : Int32) = 0 := by decide
  have kn : nI 0 = 0 ∧ nI 1 = 1 ∧ nI 2 = 2 ∧ nI 3 = 3 ∧ nI 4 = 4 := ⟨rfl, rfl, rfl, rfl, rfl⟩
  have i7 : R < 700 := by omega
  obtain ⟨t1, t2, t3⟩ := hT.2.2.2 R hR
  have l : nI R < nI n := nI_lt hR (by omega)
  have tc : ∀ E k d v, s2 C (nI R) E k d v 1 R = sb (tx R) := fun E k d v => by rw [s2_o (by decide)]; exact t2
  have n1 : ¬ nI (tx R) = -1 := (neg_cases (by omega)).1
  have qL := fun (h : AH) => isL_c (N := N) (h := h) t1
  have qD := fun (h : AH) => isD_c (N := N) (h := h) t1
  have qM := fun (h : AH) => isM_c (N := N) (h := h) t1
  have rL := fun (h : AH) => isL_m (N := N) (h := h) t1
  have rD := fun (h : AH) => isD_m (N := N) (h := h) t1
  have rM := fun (h : AH) => isM_m (N := N) (h := h) t1
  have q := byteAt_m (N := N) (vl := vl) (a := nI R) (t := M 71 20) (x := M 71 21) (b := nI R) (s := M 71 23) hT (show R ≤ n by omega)
  simp only [if_pos hR] at q
  have yL' : isL (tx R) = false := by simpa using yL
  simp only [yL'] at qL rL
  have yD' : isD (tx R) = false := by simpa using yD
  simp only [yD'] at qD rD
  simp only [yM] at qM rM
  refine ⟨R, R + 1, 4, C 2 8, C 2 9, M 71 21, r1, fun Mz k1 vz O => ?_, fun Cz k1 k2 k3 O => ?_, TXT_s2 hT, hz, ⟨rfl, rfl, rfl⟩, ⟨rfl, rfl, rfl, rfl⟩, by omega, by omega, fun _ => by omega, by decide, fun w => absurd w (by decide)⟩
  · rw [cn Mz k1 vz O]
    simp only [f_X4_next_b47, f_X4_next_b181, ↓b_rdC, s2_r, ↓b_s2, e3, l, ↓reduceIte, ↓b_raC, i7, tc, ↓bnd (qL _), ↓bnd (qD _), ↓bnd (qM _), show b2i false = 0 from rfl, t0, nI_1, kn.1, kn.2.1, kn.2.2.1, kn.2.2.2.1, kn.2.2.2.2]
  · rw [mn Cz k1 k2 k3 O]
    simp only [f_X7_stepOn_b0, bm Cz k1 k2 k3 O, Option.bind_some, f_X7_stepOn_b209, f_X7_stepOn_b212, ↓b_rdM, m7_r, ↓b_m7, ↓bnd (q Cz k1 k2 k3 O), n1, ↓reduceIte, ↓bnd (rL _), ↓bnd (rD _), ↓bnd (rM _), show b2i false = 0 from rfl, t0, nI_1, kn.1, kn.2.1, kn.2.2.1, kn.2.2.2.1, kn.2.2.2.2]
/-- both go on to the next token -/
theorem next_b (hT : TXT n tx C M) {e : Nat} (e1 : C 2 6 = nI e) (e2 : M 71 18 = nI e) (he : e ≤ n) (hz : M 71 24 = 0) (hN : 1000 ≤ N) : ∃ (p e' k : Nat) (d v x : Int32), e ≤ p ∧ (∀ (Mz : ST) (k1 vz : Nat) (O : Nat → Int64), f_X4_next N (HP C Mz (k1, g, 1, vz) O) 2 = some (HP (s2 C (nI p) (nI e') (nI k) d v) Mz (k1, g, 1, vz) O)) ∧ (∀ (Cz : ST) (k1 k2 k3 : Nat) (O : Nat → Int64), f_X7_stepOn N (HP Cz M (k1, k2, k3, vl) O) 71 = some (HP Cz (m7 M (nI e') (nI k) x (nI p) (nI e')) (k1, k2, k3, vl) O)) ∧ TK n tx (s2 C (nI p) (nI e') (nI k) d v) (m7 M (nI e') (nI k) x (nI p) (nI e')) p e' k := by
  obtain ⟨r1, r2⟩ := rTo_le (fun i => isB (tx i)) (n - e) e
  by_cases z : rTo (fun i => isB (tx i)) (n - e) e = n
  · exact next_e hT e1 e2 he hz rfl r1 z hN
  · have hR : rTo (fun i => isB (tx i)) (n - e) e < n := by omega
    by_cases yL : isL (tx (rTo (fun i => isB (tx i)) (n - e) e)) = true
    · exact next_l hT e1 e2 he hz rfl r1 hR yL hN
    · by_cases yD : isD (tx (rTo (fun i => isB (tx i)) (n - e) e)) = true
      · exact next_d hT e1 e2 he hz rfl r1 hR yL yD hN
      · by_cases yM : isM (tx (rTo (fun i => isB (tx i)) (n - e) e)) = true
        · exact next_s hT e1 e2 he hz rfl r1 hR yL yD yM hN
        · exact next_x hT e1 e2 he hz rfl r1 hR yL yD (by simpa using yM) hN
end S74
