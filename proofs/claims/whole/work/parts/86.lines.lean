/-! lines, and a whole text -/
def LGm (M M' : ST) : Prop := (∀ x, x ≠ 71 → x < 75 ∨ 83 < x → M' x = M x) ∧ (∀ k, k < 5 → M' 75 k = M 75 k) ∧ (∀ k, k < 9 → M' 76 k = M 76 k ∧ M' 77 k = M 77 k) ∧ (∀ k, k < 8 → M' 78 k = M 78 k ∧ M' 79 k = M 79 k ∧ M' 80 k = M 80 k ∧ M' 81 k = M 81 k) ∧ (∀ k, k < 700 → M' 82 k = M 82 k ∧ M' 83 k = M 83 k) ∧ (∀ k, 27 < k → M' 71 k = M 71 k) ∧ M' 71 4 = 0 ∧ M' 71 17 = 0
section S86
variable {C C' C'' M M' M'' : ST} {N n g p e k s r j : Nat} {tx : Nat → Nat}
theorem pj {α β γ : Type} (f : α → β → γ) (a : α) (b : β) {r : γ} (h : f a b = r) : (fun s : α × β => f s.1 s.2) (a, b) = r := h
theorem it6 {σ ρ : Type} {body : σ → Option (σ ⊕ ρ)} {s0 s1 s2 s3 s4 s5 : σ} {r : ρ} (h0 : body s0 = some (.inl s1)) (h1 : body s1 = some (.inl s2)) (h2 : body s2 = some (.inl s3)) (h3 : body s3 = some (.inl s4)) (h4 : body s4 = some (.inl s5)) (h5 : body s5 = some (.inr r)) (hN : 1000 ≤ N) : itr body N s0 = some r := by
  obtain ⟨x, rfl⟩ : ∃ x, N = x + 6 := ⟨N - 6, by omega⟩
  rw [itr_l h0, itr_l h1, itr_l h2, itr_l h3, itr_l h4]
  exact itr_r h5 x
theorem l48_0 (hK : TK n tx C M p e 0) {i : Nat} (hi : i ≤ p) : ∀ (Mz : ST) (k1 vz : Nat) (O : Nat → Int64), f_X4_read_l48 N 2 (nI i) (HP C Mz (k1, g, 1, vz) O) = some (.inr (.inr (HP C Mz (k1, g, 1, vz) O))) := fun Mz k1 vz O => by
  have a1 := hK.1.2.1
  have a2 := hK.2.2.1.2.2
  have a3 := TK_p hK
  have a4 : ¬ nI n < nI i := nI_nlt (by have := hK.2.2.2.2.1; have := hK.2.2.2.2.2.1; omega) (by have := hK.1.1; omega)
  rw [show nI 0 = 0 from rfl] at a2
  simp only [f_X4_read_l48, ↓b_rdC, a1, a2, a4, ↓reduceIte]
theorem l84_0 {vl : Nat} {v : Int32} (hK : TK n tx C M p e 0) : ∀ (Cz : ST) (k1 k2 k3 : Nat) (O : Nat → Int64), f_X7_gorge_l84 N 71 v (HP Cz M (k1, k2, k3, vl) O) = some (.inr (HP Cz M (k1, k2, k3, vl) O)) := fun Cz k1 k2 k3 O => by
  have a1 := hK.2.1
  have a2 := hK.2.2.2.1.2.2.2
  rw [show nI 0 = 0 from rfl] at a2
  simp only [f_X7_gorge_l84, ↓b_rdM, a1, a2, ↓reduceIte]
theorem l84_d {vl : Nat} {v : Int32} (hz : ¬ M 71 24 = 0) : ∀ (Cz : ST) (k1 k2 k3 : Nat) (O : Nat → Int64), f_X7_gorge_l84 N 71 v (HP Cz M (k1, k2, k3, vl) O) = some (.inr (HP Cz M (k1, k2, k3, vl) O)) := fun Cz k1 k2 k3 O => by
  simp only [f_X7_gorge_l84, ↓b_rdM, hz, ↓reduceIte]
theorem l48_k (hK : TK n tx C M p e k) (hk : k ≠ 0) {i : Nat} (hi : i ≤ p) : ∀ (Mz : ST) (k1 vz : Nat) (O : Nat → Int64), f_X4_read_l48 N 2 (nI i) (HP C Mz (k1, g, 1, vz) O) = (f_X4_readLine N (HP C Mz (k1, g, 1, vz) O) 2).bind fun r7 => if r7.1 = 0 then some (.inr (.inl r7.2)) else some (.inl (nI i + 1, r7.2)) := fun Mz k1 vz O => by
  have a1 := hK.1.2.1
  have a2 := hK.2.2.1.2.2
  have a3 := TK_p hK
  have a4 : ¬ nI n < nI i := nI_nlt (by have := hK.2.2.2.2.1; have := hK.2.2.2.2.2.1; omega) (by have := hK.1.1; omega)
  have a5 : ¬ nI k = 0 := fun z => hk ((eq_nI (a := k) (b := 0) (by have := hK.2.2.2.2.2.2.2.1; omega) (by omega)).mp z)
  simp only [f_X4_read_l48, ↓b_rdC, a1, a2, a4, a5, ↓reduceIte]
theorem l84_k {vl : Nat} {v : Int32} (hK : TK n tx C M p e k) (hk : k ≠ 0) : ∀ (Cz : ST) (k1 k2 k3 : Nat) (O : Nat → Int64), f_X7_gorge_l84 N 71 v (HP Cz M (k1, k2, k3, vl) O) = (f_X7_readLine N (HP Cz M (k1, k2, k3, vl) O) 71 v).bind fun r30 => some (.inl (r30.1, r30.2)) := fun Cz k1 k2 k3 O => by
  have a1 := hK.2.1
  have a2 := hK.2.2.2.1.2.2.2
  have a5 : ¬ nI k = 0 := fun z => hk ((eq_nI (a := k) (b := 0) (by have := hK.2.2.2.2.2.2.2.1; omega) (by omega)).mp z)
  simp only [f_X7_gorge_l84, ↓b_rdM, a1, a2, a5, ↓reduceIte]
theorem lines_b (hg : gok g) (hN : 1000 ≤ N) : ∀ d C M p e k vl bS bT bG i, n - p ≤ d → i ≤ p → TK n tx C M p e k → GS g C M p bS bT bG → ∀ Nc Nm, d + 2 ≤ Nc → d + 3 ≤ Nm →
    (∃ C' M' vl' p' bS' bT' bG', (∀ (Mz : ST) (k1 vz : Nat) (O : Nat → Int64), itr (fun s : Int32 × AH => f_X4_read_l48 N 2 s.1 s.2) Nc (nI i, (HP C Mz (k1, g, 1, vz) O)) = some (.inr (HP C' Mz (k1, g, 1, vz) O))) ∧ (∀ (Cz : ST) (k1 k2 k3 : Nat) (O : Nat → Int64), itr (fun s : Int32 × AH => f_X7_gorge_l84 N 71 s.1 s.2) Nm (dn bS bT bG, (HP Cz M (k1, k2, k3, vl) O)) = some (HP Cz M' (k1, k2, k3, vl') O)) ∧ M' 71 24 = 0 ∧ p' ≤ 700 ∧ GS g C' M' p' bS' bT' bG' ∧ LFc g C C' ∧ LFm M M') ∨
    (∃ C' M' vl' fl pl, (∀ (Mz : ST) (k1 vz : Nat) (O : Nat → Int64), itr (fun s : Int32 × AH => f_X4_read_l48 N 2 s.1 s.2) Nc (nI i, (HP C Mz (k1, g, 1, vz) O)) = some (.inl (HP C' Mz (k1, g, 1, vz) O))) ∧ (∀ (Cz : ST) (k1 k2 k3 : Nat) (O : Nat → Int64), itr (fun s : Int32 × AH => f_X7_gorge_l84 N 71 s.1 s.2) Nm (dn bS bT bG, (HP Cz M (k1, k2, k3, vl) O)) = some (HP Cz M' (k1, k2, k3, vl') O)) ∧ FLT C' M' fl pl ∧ LFc g C C' ∧ LFm M M') := by
  intro d
  induction d with
  | zero =>
    intro C M p e k vl bS bT bG i hd hi hK hS Nc Nm hc hm
    obtain ⟨Nc, rfl⟩ : ∃ x, Nc = x + 1 := ⟨Nc - 1, by omega⟩
    obtain ⟨Nm, rfl⟩ : ∃ x, Nm = x + 2 := ⟨Nm - 2, by omega⟩
    obtain rfl : k = 0 := by
      rcases Nat.eq_zero_or_pos k with z | z
      · exact z
      · have := hK.2.2.2.2.2.2.1 (by omega)
        have := hK.2.2.2.2.2.1
        omega
    exact .inl ⟨C, M, vl, p, bS, bT, bG, fun Mz k1 vz O => itr_r (body := fun s : Int32 × AH => f_X4_read_l48 N 2 s.1 s.2) (s := (nI i, (HP C Mz (k1, g, 1, vz) O))) (pj (f_X4_read_l48 N 2) (nI i) (HP C Mz (k1, g, 1, vz) O) (l48_0 (N := N) (g := g) hK hi Mz k1 vz O)) Nc, fun Cz k1 k2 k3 O => itr_r (body := fun s : Int32 × AH => f_X7_gorge_l84 N 71 s.1 s.2) (s := (dn bS bT bG, (HP Cz M (k1, k2, k3, vl) O))) (pj (f_X7_gorge_l84 N 71) (dn bS bT bG) (HP Cz M (k1, k2, k3, vl) O) (l84_0 (N := N) (vl := vl) hK Cz k1 k2 k3 O)) (Nm + 1), hK.2.1, (TK_p hK).1, hS, LFc_refl, LFm_refl⟩
  | succ d ih =>
    intro C M p e k vl bS bT bG i hd hi hK hS Nc Nm hc hm
    obtain ⟨Nc, rfl⟩ : ∃ x, Nc = x + 1 := ⟨Nc - 1, by omega⟩
    obtain ⟨Nm, rfl⟩ : ∃ x, Nm = x + 2 := ⟨Nm - 2, by omega⟩
    by_cases hk : k = 0
    · subst hk
      exact .inl ⟨C, M, vl, p, bS, bT, bG, fun Mz k1 vz O => itr_r (body := fun s : Int32 × AH => f_X4_read_l48 N 2 s.1 s.2) (s := (nI i, (HP C Mz (k1, g, 1, vz) O))) (pj (f_X4_read_l48 N 2) (nI i) (HP C Mz (k1, g, 1, vz) O) (l48_0 (N := N) (g := g) hK hi Mz k1 vz O)) Nc, fun Cz k1 k2 k3 O => itr_r (body := fun s : Int32 × AH => f_X7_gorge_l84 N 71 s.1 s.2) (s := (dn bS bT bG, (HP Cz M (k1, k2, k3, vl) O))) (pj (f_X7_gorge_l84 N 71) (dn bS bT bG) (HP Cz M (k1, k2, k3, vl) O) (l84_0 (N := N) (vl := vl) hK Cz k1 k2 k3 O)) (Nm + 1), hK.2.1, (TK_p hK).1, hS, LFc_refl, LFm_refl⟩
    · have t1 : ¬ (1 : Int32) = 0 := by decide
      obtain ⟨bS1, bT1, bG1, vl1, L⟩ := line_b (N := N) (vl := vl) hg hK hS hN
      rcases L with ⟨C1, M1, p1, e1, k1', a1, a2, a3, a4, a5, a6, a7⟩ | ⟨C1, M1, fl, pl, a1, a2, a3, a4, a5⟩
      · have c1 : ∀ (Mz : ST) (k1 vz : Nat) (O : Nat → Int64), f_X4_read_l48 N 2 (nI i) (HP C Mz (k1, g, 1, vz) O) = some (.inl (nI (i + 1), (HP C1 Mz (k1, g, 1, vz) O))) := fun Mz k1 vz O => by
          rw [l48_k (N := N) (g := g) hK hk hi, bnd (a1 Mz k1 vz O), if_neg t1, show nI i + 1 = nI (i + 1) from nI_add i 1]
        have m1 : ∀ (Cz : ST) (k1 k2 k3 : Nat) (O : Nat → Int64), f_X7_gorge_l84 N 71 (dn bS bT bG) (HP Cz M (k1, k2, k3, vl) O) = some (.inl (dn bS1 bT1 bG1, HP Cz M1 (k1, k2, k3, vl1) O)) := fun Cz k1 k2 k3 O => by
          rw [l84_k (N := N) (vl := vl) hK hk, bnd (a2 Cz k1 k2 k3 O)]
        rcases ih C1 M1 p1 e1 k1' vl1 bS1 bT1 bG1 (i + 1) (by omega) (by omega) a3 a4 Nc (Nm + 1) (by omega) (by omega) with ⟨C2, M2, vl2, p2, bS2, bT2, bG2, b1, b2, b3, b4, b5, b6, b7⟩ | ⟨C2, M2, vl2, fl, pl, b1, b2, b3, b4, b5⟩
        · refine .inl ⟨C2, M2, vl2, p2, bS2, bT2, bG2, fun Mz k1 vz O => ?_, fun Cz k1 k2 k3 O => ?_, b3, b4, b5, LFc_trans a6 b6, LFm_trans a7 b7⟩
          · exact (itr_l (body := fun s : Int32 × AH => f_X4_read_l48 N 2 s.1 s.2) (s := (nI i, (HP C Mz (k1, g, 1, vz) O))) (pj (f_X4_read_l48 N 2) (nI i) (HP C Mz (k1, g, 1, vz) O) (c1 Mz k1 vz O)) Nc).trans (b1 Mz k1 vz O)
          · exact (itr_l (body := fun s : Int32 × AH => f_X7_gorge_l84 N 71 s.1 s.2) (s := (dn bS bT bG, (HP Cz M (k1, k2, k3, vl) O))) (pj (f_X7_gorge_l84 N 71) (dn bS bT bG) (HP Cz M (k1, k2, k3, vl) O) (m1 Cz k1 k2 k3 O)) (Nm + 1)).trans (b2 Cz k1 k2 k3 O)
        · refine .inr ⟨C2, M2, vl2, fl, pl, fun Mz k1 vz O => ?_, fun Cz k1 k2 k3 O => ?_, b3, LFc_trans a6 b4, LFm_trans a7 b5⟩
          · exact (itr_l (body := fun s : Int32 × AH => f_X4_read_l48 N 2 s.1 s.2) (s := (nI i, (HP C Mz (k1, g, 1, vz) O))) (pj (f_X4_read_l48 N 2) (nI i) (HP C Mz (k1, g, 1, vz) O) (c1 Mz k1 vz O)) Nc).trans (b1 Mz k1 vz O)
          · exact (itr_l (body := fun s : Int32 × AH => f_X7_gorge_l84 N 71 s.1 s.2) (s := (dn bS bT bG, (HP Cz M (k1, k2, k3, vl) O))) (pj (f_X7_gorge_l84 N 71) (dn bS bT bG) (HP Cz M (k1, k2, k3, vl) O) (m1 Cz k1 k2 k3 O)) (Nm + 1)).trans (b2 Cz k1 k2 k3 O)
      · have c1 : ∀ (Mz : ST) (k1 vz : Nat) (O : Nat → Int64), f_X4_read_l48 N 2 (nI i) (HP C Mz (k1, g, 1, vz) O) = some (.inr (.inl (HP C1 Mz (k1, g, 1, vz) O))) := fun Mz k1 vz O => by
          rw [l48_k (N := N) (g := g) hK hk hi, bnd (a1 Mz k1 vz O), if_pos rfl]
        have m1 : ∀ (Cz : ST) (k1 k2 k3 : Nat) (O : Nat → Int64), f_X7_gorge_l84 N 71 (dn bS bT bG) (HP Cz M (k1, k2, k3, vl) O) = some (.inl (dn bS1 bT1 bG1, HP Cz M1 (k1, k2, k3, vl1) O)) := fun Cz k1 k2 k3 O => by
          rw [l84_k (N := N) (vl := vl) hK hk, bnd (a2 Cz k1 k2 k3 O)]
        refine .inr ⟨C1, M1, vl1, fl, pl, fun Mz k1 vz O => ?_, fun Cz k1 k2 k3 O => ?_, a3, a4, a5⟩
        · exact itr_r (body := fun s : Int32 × AH => f_X4_read_l48 N 2 s.1 s.2) (s := (nI i, (HP C Mz (k1, g, 1, vz) O))) (pj (f_X4_read_l48 N 2) (nI i) (HP C Mz (k1, g, 1, vz) O) (c1 Mz k1 vz O)) Nc
        · exact (itr_l (body := fun s : Int32 × AH => f_X7_gorge_l84 N 71 s.1 s.2) (s := (dn bS bT bG, (HP Cz M (k1, k2, k3, vl) O))) (pj (f_X7_gorge_l84 N 71) (dn bS bT bG) (HP Cz M (k1, k2, k3, vl) O) (m1 Cz k1 k2 k3 O)) (Nm + 1)).trans (itr_r (body := fun s : Int32 × AH => f_X7_gorge_l84 N 71 s.1 s.2) (s := (dn bS1 bT1 bG1, HP Cz M1 (k1, k2, k3, vl1) O)) (pj (f_X7_gorge_l84 N 71) (dn bS1 bT1 bG1) (HP Cz M1 (k1, k2, k3, vl1) O) (l84_d (N := N) (vl := vl1) (FLT_ne a3) Cz k1 k2 k3 O)) Nm)
/-- the second halves, made empty -/
theorem l50_b {vl : Nat} (hN : 1000 ≤ N) : ∀ (Cz : ST) (k1 k2 k3 : Nat) (O : Nat → Int64), itr (fun s : Int32 × AH => f_X7_gorge_l50 N 71 s.1 s.2) N (0, (HP Cz M (k1, k2, k3, vl) O)) = some (HP Cz (up (up (up (up (up M 75 5 4) 75 6 0) 75 7 0) 75 8 0) 75 9 0) (k1, k2, k3, vl) O) := fun Cz k1 k2 k3 O => by
  have h0 : ∀ M, f_X7_gorge_l50 N 71 0 (HP Cz M (k1, k2, k3, vl) O) = some (.inl (1, (HP Cz (up M 75 5 4) (k1, k2, k3, vl) O))) := fun M => by
    simp only [f_X7_gorge_l50, f_X7_gorge_b71, show ¬ (5 : Int32) ≤ 0 by decide, ↓b_rdM, show (5 : Int32) + 0 = 5 by decide, ↓b_wlM, ↓reduceIte, show (0 : Int32) + 1 = 1 by decide]
  have h1 : ∀ M, f_X7_gorge_l50 N 71 1 (HP Cz M (k1, k2, k3, vl) O) = some (.inl (2, (HP Cz (up M 75 6 0) (k1, k2, k3, vl) O))) := fun M => by
    simp only [f_X7_gorge_l50, f_X7_gorge_b71, show ¬ (5 : Int32) ≤ 1 by decide, show ¬ (1 : Int32) = 0 by decide, ↓b_rdM, show (5 : Int32) + 1 = 6 by decide, ↓b_wlM, ↓reduceIte, show (1 : Int32) + 1 = 2 by decide]
  have h2 : ∀ M, f_X7_gorge_l50 N 71 2 (HP Cz M (k1, k2, k3, vl) O) = some (.inl (3, (HP Cz (up M 75 7 0) (k1, k2, k3, vl) O))) := fun M => by
    simp only [f_X7_gorge_l50, f_X7_gorge_b71, show ¬ (5 : Int32) ≤ 2 by decide, show ¬ (2 : Int32) = 0 by decide, ↓b_rdM, show (5 : Int32) + 2 = 7 by decide, ↓b_wlM, ↓reduceIte, show (2 : Int32) + 1 = 3 by decide]
  have h3 : ∀ M, f_X7_gorge_l50 N 71 3 (HP Cz M (k1, k2, k3, vl) O) = some (.inl (4, (HP Cz (up M 75 8 0) (k1, k2, k3, vl) O))) := fun M => by
    simp only [f_X7_gorge_l50, f_X7_gorge_b71, show ¬ (5 : Int32) ≤ 3 by decide, show ¬ (3 : Int32) = 0 by decide, ↓b_rdM, show (5 : Int32) + 3 = 8 by decide, ↓b_wlM, ↓reduceIte, show (3 : Int32) + 1 = 4 by decide]
  have h4 : ∀ M, f_X7_gorge_l50 N 71 4 (HP Cz M (k1, k2, k3, vl) O) = some (.inl (5, (HP Cz (up M 75 9 0) (k1, k2, k3, vl) O))) := fun M => by
    simp only [f_X7_gorge_l50, f_X7_gorge_b71, show ¬ (5 : Int32) ≤ 4 by decide, show ¬ (4 : Int32) = 0 by decide, ↓b_rdM, show (5 : Int32) + 4 = 9 by decide, ↓b_wlM, ↓reduceIte, show (4 : Int32) + 1 = 5 by decide]
  have h5 : ∀ M, f_X7_gorge_l50 N 71 5 (HP Cz M (k1, k2, k3, vl) O) = some (.inr (HP Cz M (k1, k2, k3, vl) O)) := fun M => by
    simp only [f_X7_gorge_l50, show (5 : Int32) ≤ 5 by decide, ↓reduceIte]
  exact it6 (body := fun s : Int32 × AH => f_X7_gorge_l50 N 71 s.1 s.2) (s0 := (0, (HP Cz M (k1, k2, k3, vl) O))) (s1 := (1, (HP Cz (up M 75 5 4) (k1, k2, k3, vl) O))) (s2 := (2, (HP Cz (up (up M 75 5 4) 75 6 0) (k1, k2, k3, vl) O))) (s3 := (3, (HP Cz (up (up (up M 75 5 4) 75 6 0) 75 7 0) (k1, k2, k3, vl) O))) (s4 := (4, (HP Cz (up (up (up (up M 75 5 4) 75 6 0) 75 7 0) 75 8 0) (k1, k2, k3, vl) O))) (s5 := (5, (HP Cz (up (up (up (up (up M 75 5 4) 75 6 0) 75 7 0) 75 8 0) 75 9 0) (k1, k2, k3, vl) O))) (pj (f_X7_gorge_l50 N 71) 0 _ (h0 _)) (pj (f_X7_gorge_l50 N 71) 1 _ (h1 _)) (pj (f_X7_gorge_l50 N 71) 2 _ (h2 _)) (pj (f_X7_gorge_l50 N 71) 3 _ (h3 _)) (pj (f_X7_gorge_l50 N 71) 4 _ (h4 _)) (pj (f_X7_gorge_l50 N 71) 5 _ (h5 _)) hN
set_option maxHeartbeats 4000000 in
theorem read_b {vl t : Nat} (hg : gok g) (hn : n ≤ 700) (ht : ∀ i, i < n → tx i < 256 ∧ C 1 i = sb (tx i) ∧ M 86 i = nI (tx i)) (h17 : M 71 17 = nI t) (hnt : n ≤ t) (ht7 : t ≤ 700) (hN : 1000 ≤ N) :
    (∃ C' M' vl' p' bS bT bG, (∀ (Mz : ST) (k1 k3 vz : Nat) (O : Nat → Int64), f_X4_read N (HP C Mz (k1, g, k3, vz) O) 2 1 (nI n) = some (1, (HP C' Mz (k1, g, 1, vz) O))) ∧ (∀ (Cz : ST) (k1 k2 k3 : Nat) (O : Nat → Int64), f_X7_gorge N (HP Cz M (k1, k2, k3, vl) O) 71 (nI n) = (f_X7_takeOver N (HP Cz M' (k1, k2, k3, vl') O) 71).bind fun r8 => some (0, r8)) ∧ p' ≤ 700 ∧ GS g C' M' p' bS bT bG ∧ LFc g C C' ∧ LGm M M' ∧ M' 71 26 = -1) ∨
    (∃ C' M' vl' fl pl, (∀ (Mz : ST) (k1 k3 vz : Nat) (O : Nat → Int64), f_X4_read N (HP C Mz (k1, g, k3, vz) O) 2 1 (nI n) = some (0, (HP C' Mz (k1, g, 1, vz) O))) ∧ (∀ (Cz : ST) (k1 k2 k3 : Nat) (O : Nat → Int64), f_X7_gorge N (HP Cz M (k1, k2, k3, vl) O) 71 (nI n) = some (nI fl, HP Cz (up (up M' 71 26 (nI pl)) 84 0 (M' 84 0 + 1)) (k1, k2, k3, vl') O)) ∧ FLT C' M' fl pl ∧ LFc g C C' ∧ LGm M M') := by
  have gn : g ≠ 2 ∧ g ≠ 1 := by rcases hg with rfl | rfl <;> exact ⟨by decide, by decide⟩
  have t1 : ¬ (1 : Int32) = 0 := by decide
  have ej : jmn (nI n) (nI 700) = nI n := by
    unfold jmn
    rw [if_neg (nI_nlt (by omega) (by omega))]
  obtain ⟨C0, eC0⟩ : ∃ C0, C0 = up C 2 3 (nI n) := ⟨_, rfl⟩
  obtain ⟨C1, eC1⟩ : ∃ C1, C1 = up (up (up (up (up (up (up (up C0 g 0 4) g 1 0) g 2 0) g 10 0) g 11 0) g 12 0) g 13 0) g 14 0 := ⟨_, rfl⟩
  obtain ⟨C2, eC2⟩ : ∃ C2, C2 = up (up (up (up C1 2 0 0) 2 1 (-1)) 2 11 0) 2 6 0 := ⟨_, rfl⟩
  obtain ⟨M1, eM1⟩ : ∃ M1, M1 = up (up (up (up (up (up M 71 4 0) 71 17 0) 71 19 (nI n)) 71 18 0) 71 24 0) 71 26 (-1) := ⟨_, rfl⟩
  obtain ⟨M2, eM2⟩ : ∃ M2, M2 = up (up (up (up (up M1 75 5 4) 75 6 0) 75 7 0) 75 8 0) 75 9 0 := ⟨_, rfl⟩
  have c2o : ∀ x, x ≠ 2 → x ≠ g → C2 x = C x := fun x h1 h2 => by rw [eC2, up_o h1, up_o h1, up_o h1, up_o h1, eC1, up_o h2, up_o h2, up_o h2, up_o h2, up_o h2, up_o h2, up_o h2, up_o h2, eC0, up_o h1]
  have c2g : C2 g = C1 g := by rw [eC2, up_o gn.1, up_o gn.1, up_o gn.1, up_o gn.1]
  have c3 : C2 2 3 = nI n := by
    rw [eC2, up_s, upd_o (by decide), up_s, upd_o (by decide), up_s, upd_o (by decide), up_s, upd_o (by decide), eC1]
    rw [up_o (Ne.symm gn.1), up_o (Ne.symm gn.1), up_o (Ne.symm gn.1), up_o (Ne.symm gn.1), up_o (Ne.symm gn.1), up_o (Ne.symm gn.1), up_o (Ne.symm gn.1), up_o (Ne.symm gn.1), eC0, up_s, upd_s]
  have c6 : C2 2 6 = nI 0 := by rw [eC2, up_s, upd_s]; rfl
  have c11 : C2 2 11 = 0 := by rw [eC2, up_s, upd_o (by decide), up_s, upd_s]
  have m1o : ∀ x, x ≠ 71 → M1 x = M x := fun x hx => by rw [eM1, up_o hx, up_o hx, up_o hx, up_o hx, up_o hx, up_o hx]
  have m2o : ∀ x, x ≠ 71 → x ≠ 75 → M2 x = M x := fun x h1 h2 => by rw [eM2, up_o h2, up_o h2, up_o h2, up_o h2, up_o h2, m1o x h1]
  have m271 : M2 71 = M1 71 := by rw [eM2, up_o (by decide), up_o (by decide), up_o (by decide), up_o (by decide), up_o (by decide)]
  have m26 : M1 71 26 = -1 := by rw [eM1, up_s, upd_s]
  have m24 : M1 71 24 = 0 := by rw [eM1, up_s, upd_o (by decide), up_s, upd_s]
  have m18 : M1 71 18 = 0 := by rw [eM1, up_s, upd_o (by decide), up_s, upd_o (by decide), up_s, upd_s]
  have m19 : M1 71 19 = nI n := by rw [eM1, up_s, upd_o (by decide), up_s, upd_o (by decide), up_s, upd_o (by decide), up_s, upd_s]
  have m17 : M1 71 17 = 0 := by rw [eM1, up_s, upd_o (by decide), up_s, upd_o (by decide), up_s, upd_o (by decide), up_s, upd_o (by decide), up_s, upd_s]
  have m4 : M1 71 4 = 0 := by rw [eM1, up_s, upd_o (by decide), up_s, upd_o (by decide), up_s, upd_o (by decide), up_s, upd_o (by decide), up_s, upd_o (by decide), up_s, upd_s]
  have mk : ∀ k, 27 < k → M1 71 k = M 71 k := fun k hk => by rw [eM1, up_s, upd_o (by omega), up_s, upd_o (by omega), up_s, upd_o (by omega), up_s, upd_o (by omega), up_s, upd_o (by omega), up_s, upd_o (by omega)]
  have m75 : ∀ k, k < 5 → M2 75 k = M 75 k := fun k hk => by rw [eM2, up_s, upd_o (by omega), up_s, upd_o (by omega), up_s, upd_o (by omega), up_s, upd_o (by omega), up_s, upd_o (by omega), m1o 75 (by decide)]
  have lg : ∀ M', LFm M2 M' → LGm M M' := fun M' h => by
    obtain ⟨h1, h2, h3, h4, h5, h6⟩ := h
    refine ⟨fun x a b => (h1 x a b).trans (m2o x a (by omega)), fun k hk => (h2 k hk).trans (m75 k hk), fun k hk => ?_, fun k hk => ?_, fun k hk => ?_, fun k hk => ?_, ?_, ?_⟩
    · rw [(h3 k hk).1, (h3 k hk).2, m2o 76 (by decide) (by decide), m2o 77 (by decide) (by decide)]; exact ⟨rfl, rfl⟩
    · rw [(h4 k hk).1, (h4 k hk).2.1, (h4 k hk).2.2.1, (h4 k hk).2.2.2, m2o 78 (by decide) (by decide), m2o 79 (by decide) (by decide), m2o 80 (by decide) (by decide), m2o 81 (by decide) (by decide)]; exact ⟨rfl, rfl, rfl, rfl⟩
    · rw [(h5 k hk).1, (h5 k hk).2, m2o 82 (by decide) (by decide), m2o 83 (by decide) (by decide)]; exact ⟨rfl, rfl⟩
    · rw [h6 k (by omega), m271]; exact mk k hk
    · rw [h6 4 (by omega), m271]; exact m4
    · rw [h6 17 (by omega), m271]; exact m17
  have hT : TXT n tx C2 M2 := by
    refine ⟨hn, c3, by rw [m271]; exact m19, fun i hi => ?_⟩
    rw [c2o 1 (by decide) (Ne.symm gn.2), m2o 86 (by decide) (by decide)]
    exact ht i hi
  obtain ⟨p1, e1, k1', d, v, x, q1, q2, q3, q4⟩ := next_b (g := g) (vl := vl) hT (e := 0) c6 (by rw [m271]; exact m18) (by omega) (by rw [m271]; exact m24) hN
  have F10 : WFr (fun _ => .inl 0) 0 := ⟨by omega, fun z => absurd z (by omega), fun k hk => absurd hk (by omega)⟩
  have S2 : GS g C2 M2 p1 false false false := by
    have x0 : C2 g 0 = nI 4 := by
      rw [c2g, eC1, up_s, upd_o (by decide), up_s, upd_o (by decide), up_s, upd_o (by decide), up_s, upd_o (by decide), up_s, upd_o (by decide), up_s, upd_o (by decide), up_s, upd_o (by decide), up_s, upd_s]; rfl
    have x1 : C2 g 1 = nI 0 := by
      rw [c2g, eC1, up_s, upd_o (by decide), up_s, upd_o (by decide), up_s, upd_o (by decide), up_s, upd_o (by decide), up_s, upd_o (by decide), up_s, upd_o (by decide), up_s, upd_s]; rfl
    have x2 : C2 g 2 = nI 0 := by
      rw [c2g, eC1, up_s, upd_o (by decide), up_s, upd_o (by decide), up_s, upd_o (by decide), up_s, upd_o (by decide), up_s, upd_o (by decide), up_s, upd_s]; rfl
    have x10 : C2 g 10 = nI 0 := by
      rw [c2g, eC1, up_s, upd_o (by decide), up_s, upd_o (by decide), up_s, upd_o (by decide), up_s, upd_o (by decide), up_s, upd_s]; rfl
    have x11 : C2 g 11 = nI 0 := by
      rw [c2g, eC1, up_s, upd_o (by decide), up_s, upd_o (by decide), up_s, upd_o (by decide), up_s, upd_s]; rfl
    have x12 : C2 g 12 = nI 0 := by
      rw [c2g, eC1, up_s, upd_o (by decide), up_s, upd_o (by decide), up_s, upd_s]; rfl
    have x13 : C2 g 13 = nI 0 := by
      rw [c2g, eC1, up_s, upd_o (by decide), up_s, upd_s]; rfl
    have x14 : C2 g 14 = nI 0 := by
      rw [c2g, eC1, up_s, upd_s]; rfl
    have y5 : M2 75 5 = nI 4 := by rw [eM2, up_s, upd_o (by decide), up_s, upd_o (by decide), up_s, upd_o (by decide), up_s, upd_o (by decide), up_s, upd_s]; rfl
    have y6 : M2 75 6 = nI 0 := by rw [eM2, up_s, upd_o (by decide), up_s, upd_o (by decide), up_s, upd_o (by decide), up_s, upd_s]; rfl
    have y7 : M2 75 7 = nI 0 := by rw [eM2, up_s, upd_o (by decide), up_s, upd_o (by decide), up_s, upd_s]; rfl
    have y8 : M2 75 8 = nI 0 := by rw [eM2, up_s, upd_o (by decide), up_s, upd_s]; rfl
    have y9 : M2 75 9 = nI 0 := by rw [eM2, up_s, upd_s]; rfl
    have ng : ∀ (i : Nat) (Q : Prop), i < 0 → Q := fun i Q hi => absurd hi (Nat.not_lt_zero i)
    exact ⟨4, 0, 0, ⟨x0, y5, by decide, by decide, c11⟩, ⟨x1, y6, by decide, fun i hi => ng i _ hi⟩, ⟨x2, y7, by decide, fun i hi => ng i _ hi⟩, ⟨0, 0, 0, fun _ => .inl 0, fun _ => .inl 0, x10, by omega, ⟨⟨0, x11, x12, by omega, fun i hi => ng i _ hi⟩, ⟨y8, fun i hi => ng i _ hi⟩, F10, rfl⟩, ⟨⟨0, x13, x14, by omega, fun i hi => ng i _ hi⟩, ⟨y9, fun i hi => ng i _ hi⟩, F10, rfl⟩⟩⟩
  obtain ⟨C3, eC3⟩ : ∃ C3, C3 = s2 C2 (nI p1) (nI e1) (nI k1') d v := ⟨_, rfl⟩
  obtain ⟨M3, eM3⟩ : ∃ M3, M3 = m7 M2 (nI e1) (nI k1') x (nI p1) (nI e1) := ⟨_, rfl⟩
  rw [← eC3, ← eM3] at q4
  have f3c : TFc C2 C3 := ⟨fun x hx => by rw [eC3, s2_o hx], fun k hk => by rw [eC3, s2_k (by omega)]⟩
  have f3m : TFm M2 M3 := by rw [eM3]; exact TFm_m7
  have S3 : GS g C3 M3 p1 false false false := GS_tf hg S2 (Nat.le_refl _) f3c f3m
  have lc3 : LFc g C C3 := LFc_trans (fun x h1 h2 => c2o x h1 (by omega)) (LFc_tf f3c)
  have hcA : ∀ (Mz : ST) (k1 k3 vz : Nat) (O : Nat → Int64), f_X4_read N (HP C Mz (k1, g, k3, vz) O) 2 1 (nI n) = f_X4_read_b48 N 2 0 (HP C3 Mz (k1, g, 1, vz) O) := fun Mz k1 k3 vz O => by
    simp only [f_X4_read, ↓bnd kw_text, ↓b_lnH, ej, ↓b_wrC]
    rw [← eC0]
    simp only [f_X1_clear, ↓b_rdC, ↓b_rG hg, ↓b_wG hg, Option.bind_some]
    rw [← eC1]
    simp only [jwz_eq (v := 0) (.inl rfl), ↓b_wrC]
    rw [← eC2]
    have B := q2 Mz k1 vz O
    rw [← eC3] at B
    simp only [↓b_rdC, ↓bnd B]
  have hmA : ∀ (Cz : ST) (k1 k2 k3 : Nat) (O : Nat → Int64), f_X7_gorge N (HP Cz M (k1, k2, k3, vl) O) 71 (nI n) = f_X7_gorge_b84 N 71 0 (HP Cz M3 (k1, k2, k3, vl) O) := fun Cz k1 k2 k3 O => by
    have e17 : up M 71 4 0 71 17 = nI t := by rw [up_s, upd_o (by decide)]; exact h17
    have l1 : ¬ nI n < 0 := nI_pos (by omega)
    have l2 : nI n ≤ nI t := nI_le hnt (by omega)
    simp only [f_X7_gorge, ↓b_wrM, ↓b_rdM, e17, l1, l2, ↓reduceIte]
    rw [← eM1]
    have B := q3 Cz k1 k2 k3 O
    rw [← eM3] at B
    have L := l50_b (vl := vl) (M := M1) hN Cz k1 k2 k3 O
    rw [← eM2] at L
    simp only [f_X7_gorge_b50, ↓bnd L, ↓b_rdM, ↓bnd B]
  rcases lines_b (n := n) (tx := tx) hg hN 700 C3 M3 p1 e1 k1' vl false false false 0 (by omega) (by omega) q4 S3 N N (by omega) (by omega) with ⟨C4, M4, vl4, p4, bS, bT, bG, a1, a2, a3, a4, a5, a6, a7⟩ | ⟨C4, M4, vl4, fl, pl, a1, a2, a3, a4, a5⟩
  · have l4 := lg M4 (LFm_trans (LFm_tf f3m) a7)
    refine .inl ⟨C4, M4, vl4, p4, bS, bT, bG, fun Mz k1 k3 vz O => ?_, fun Cz k1 k2 k3 O => ?_, a4, a5, LFc_trans lc3 a6, l4, ?_⟩
    · refine Eq.trans (hcA Mz k1 k3 vz O) ?_
      have B := a1 Mz k1 vz O
      rw [show nI 0 = 0 from rfl] at B
      unfold f_X4_read_b48
      rw [bnd B]
      simp only [Sum.elim_inr]
    · refine Eq.trans (hmA Cz k1 k2 k3 O) ?_
      have B := a2 Cz k1 k2 k3 O
      rw [show dn false false false = 0 by decide] at B
      unfold f_X7_gorge_b84
      rw [bnd B]
      simp only [f_X7_gorge_b107, ↓b_rdM, a3, ↓reduceIte]
    · rw [a7.2.2.2.2.2 26 (by omega), f3m.2 26 (by omega), m271]; exact m26
  · have l4 := lg M4 (LFm_trans (LFm_tf f3m) a5)
    refine .inr ⟨C4, M4, vl4, fl, pl, fun Mz k1 k3 vz O => ?_, fun Cz k1 k2 k3 O => ?_, a3, LFc_trans lc3 a4, l4⟩
    · refine Eq.trans (hcA Mz k1 k3 vz O) ?_
      have B := a1 Mz k1 vz O
      rw [show nI 0 = 0 from rfl] at B
      unfold f_X4_read_b48
      rw [bnd B]
      simp only [Sum.elim_inl]
    · refine Eq.trans (hmA Cz k1 k2 k3 O) ?_
      have B := a2 Cz k1 k2 k3 O
      rw [show dn false false false = 0 by decide] at B
      have z25 : M4 71 25 = nI pl := a3.2.2.2.2.2.2
      have z24 : M4 71 24 = nI fl := a3.2.2.2.2.2.1
      have e84 : up M4 71 26 (nI pl) 84 0 = M4 84 0 := by rw [up_o (by decide)]
      have e24 : up (up M4 71 26 (nI pl)) 84 0 (M4 84 0 + 1) 71 24 = nI fl := by rw [up_o (by decide), up_s, upd_o (by decide)]; exact z24
      unfold f_X7_gorge_b84
      rw [bnd B]
      simp only [f_X7_gorge_b107, ↓b_rdM, FLT_ne a3, ↓reduceIte, z25, ↓b_wrM, ↓b_rlM, e84, ↓b_wlM, e24]
end S86
