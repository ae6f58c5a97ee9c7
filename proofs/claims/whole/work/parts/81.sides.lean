/-! LINES: what a text tells, told so far -/
def RUx (C : ST) (g fr to : Nat) (F : Nat → RI) (n cl : Nat) : Prop := ∃ f, C g fr = nI f ∧ C g to = nI (f + n) ∧ f + n ≤ cl ∧ ∀ i, i < n → C (g + 7) (f + i) = ccode (F i)
def RUy (M : ST) (w wi : Nat) (F : Nat → RI) (n : Nat) : Prop := M 75 wi = nI n ∧ ∀ i, i < n → M w (700 + i) = mcode (F i)
def gSi (g : Nat) (C M : ST) (s : Nat) (b : Bool) : Prop := C g 0 = nI s ∧ M 75 5 = nI s ∧ 2 ≤ s ∧ s ≤ 8 ∧ C 2 11 = b2i b
def gRe (g : Nat) (C M : ST) (r : Nat) : Prop := C g 1 = nI r ∧ M 75 6 = nI r ∧ r ≤ 9 ∧ ∀ i, i < r → ∃ a b, a < 4 ∧ b < 8 ∧ C (g + 1) i = nI a ∧ M 76 (9 + i) = nI a ∧ C (g + 2) i = nI b ∧ M 77 (9 + i) = nI b
def gJd (g : Nat) (C M : ST) (s j : Nat) : Prop := C g 2 = nI j ∧ M 75 7 = nI j ∧ j ≤ 8 ∧ ∀ i, i < j → ∃ a b c t, a < s ∧ b < 10 ∧ t < 2 ∧ C (g + 3) i = nI a ∧ M 79 (8 + i) = nI a ∧ C (g + 4) i = nI b ∧ M 80 (8 + i) = nI b ∧ C (g + 5) i = nI c ∧ M 81 (8 + i) = nI c ∧ C (g + 6) i = nI t ∧ M 78 (8 + i) = nI t
def gRu (g : Nat) (C M : ST) (p : Nat) (bT bG : Bool) : Prop := ∃ (cl n1 n2 : Nat) (F1 F2 : Nat → RI), C g 10 = nI cl ∧ cl ≤ p ∧ (RUx C g 11 12 F1 n1 cl ∧ RUy M 82 8 F1 n1 ∧ WFr F1 n1 ∧ bT = decide (0 < n1)) ∧ (RUx C g 13 14 F2 n2 cl ∧ RUy M 83 9 F2 n2 ∧ WFr F2 n2 ∧ bG = decide (0 < n2))
def GS (g : Nat) (C M : ST) (p : Nat) (bS bT bG : Bool) : Prop := ∃ s r j, gSi g C M s bS ∧ gRe g C M r ∧ gJd g C M s j ∧ gRu g C M p bT bG
def LFc (g : Nat) (C C' : ST) : Prop := ∀ x, x ≠ 2 → x < g ∨ g + 7 < x → C' x = C x
def LFm (M M' : ST) : Prop := (∀ x, x ≠ 71 → x < 75 ∨ 83 < x → M' x = M x) ∧ (∀ k, k < 5 → M' 75 k = M 75 k) ∧ (∀ k, k < 9 → M' 76 k = M 76 k ∧ M' 77 k = M 77 k) ∧ (∀ k, k < 8 → M' 78 k = M 78 k ∧ M' 79 k = M 79 k ∧ M' 80 k = M 80 k ∧ M' 81 k = M 81 k) ∧ (∀ k, k < 700 → M' 82 k = M 82 k ∧ M' 83 k = M 83 k) ∧ ∀ k, k < 18 ∨ k = 19 ∨ k = 26 ∨ 27 < k → M' 71 k = M 71 k
section S81
variable {C C' C'' M M' M'' : ST} {N n g vl p e k s r j : Nat} {tx : Nat → Nat} {b bS bT bG : Bool}
theorem LFc_refl : LFc g C C := fun _ _ _ => rfl
theorem LFc_trans (h : LFc g C C') (h' : LFc g C' C'') : LFc g C C'' := fun x a b => (h' x a b).trans (h x a b)
theorem LFm_refl : LFm M M := ⟨fun _ _ _ => rfl, fun _ _ => rfl, fun _ _ => ⟨rfl, rfl⟩, fun _ _ => ⟨rfl, rfl, rfl, rfl⟩, fun _ _ => ⟨rfl, rfl⟩, fun _ _ => rfl⟩
theorem LFm_trans (h : LFm M M') (h' : LFm M' M'') : LFm M M'' := ⟨fun x a b => (h'.1 x a b).trans (h.1 x a b), fun k a => (h'.2.1 k a).trans (h.2.1 k a), fun k a => ⟨((h'.2.2.1 k a).1).trans (h.2.2.1 k a).1, ((h'.2.2.1 k a).2).trans (h.2.2.1 k a).2⟩, fun k a => ⟨((h'.2.2.2.1 k a).1).trans (h.2.2.2.1 k a).1, ((h'.2.2.2.1 k a).2.1).trans (h.2.2.2.1 k a).2.1, ((h'.2.2.2.1 k a).2.2.1).trans (h.2.2.2.1 k a).2.2.1, ((h'.2.2.2.1 k a).2.2.2).trans (h.2.2.2.1 k a).2.2.2⟩, fun k a => ⟨((h'.2.2.2.2.1 k a).1).trans (h.2.2.2.2.1 k a).1, ((h'.2.2.2.2.1 k a).2).trans (h.2.2.2.2.1 k a).2⟩, fun k a => (h'.2.2.2.2.2 k a).trans (h.2.2.2.2.2 k a)⟩
theorem LFc_tf (h : TFc C C') : LFc g C C' := fun x a _ => h.1 x a
theorem LFm_tf (h : TFm M M') : LFm M M' := ⟨fun x a _ => h.1 x a, fun k _ => by rw [h.1 75 (by decide)], fun k _ => by rw [h.1 76 (by decide), h.1 77 (by decide)]; exact ⟨rfl, rfl⟩, fun k _ => by rw [h.1 78 (by decide), h.1 79 (by decide), h.1 80 (by decide), h.1 81 (by decide)]; exact ⟨rfl, rfl, rfl, rfl⟩, fun k _ => by rw [h.1 82 (by decide), h.1 83 (by decide)]; exact ⟨rfl, rfl⟩, fun k hk => h.2 k (by omega)⟩
theorem LFc_up {a i : Nat} {v : Int32} (ha : a = 2 ∨ (g ≤ a ∧ a ≤ g + 7)) : LFc g C (up C a i v) := fun x h1 h2 => up_o (by omega)
theorem LFm_up {a i : Nat} {v : Int32} (ha : (a = 75 ∧ 5 ≤ i) ∨ ((a = 76 ∨ a = 77) ∧ 9 ≤ i) ∨ ((a = 78 ∨ a = 79 ∨ a = 80 ∨ a = 81) ∧ 8 ≤ i) ∨ (a = 71 ∧ (i = 18 ∨ (20 ≤ i ∧ i ≤ 25) ∨ i = 27))) : LFm M (up M a i v) := by
  refine ⟨fun x h1 h2 => up_o (by omega), fun k hk => ?_, fun k hk => ⟨?_, ?_⟩, fun k hk => ⟨?_, ?_, ?_, ?_⟩, fun k hk => ⟨?_, ?_⟩, fun k hk => ?_⟩
  all_goals
    unfold up
    split
    · rename_i z
      subst z
      exact upd_o (by omega)
    · rfl
theorem LFc_t {x y : Int32} : LFc g C (up (up C 2 0 x) 2 1 y) := LFc_trans (LFc_up (.inl rfl)) (LFc_up (.inl rfl))
theorem LFm_t {x y : Int32} : LFm M (up (up M 71 24 x) 71 25 y) := LFm_trans (LFm_up (by omega)) (LFm_up (by omega))
theorem FLT_fr {fl pl : Nat} (h : FLT C M fl pl) (hc : C' 2 = C 2) (hm : M' 71 = M 71) : FLT C' M' fl pl := by
  unfold FLT
  rw [hc, hm]
  exact h
theorem gSi_fr (h : gSi g C M s b) (h1 : C' g 0 = C g 0) (h2 : M' 75 5 = M 75 5) (h3 : C' 2 11 = C 2 11) : gSi g C' M' s b := by
  unfold gSi
  rw [h1, h2, h3]
  exact h
theorem gRe_fr (h : gRe g C M r) (h1 : C' g 1 = C g 1) (h2 : M' 75 6 = M 75 6) (h3 : C' (g + 1) = C (g + 1)) (h4 : C' (g + 2) = C (g + 2)) (h5 : M' 76 = M 76) (h6 : M' 77 = M 77) : gRe g C' M' r := by
  unfold gRe
  rw [h1, h2, h3, h4, h5, h6]
  exact h
theorem gJd_fr (h : gJd g C M s j) (h1 : C' g 2 = C g 2) (h2 : M' 75 7 = M 75 7) (h3 : C' (g + 3) = C (g + 3)) (h4 : C' (g + 4) = C (g + 4)) (h5 : C' (g + 5) = C (g + 5)) (h6 : C' (g + 6) = C (g + 6)) (h7 : M' 78 = M 78) (h8 : M' 79 = M 79) (h9 : M' 80 = M 80) (h10 : M' 81 = M 81) : gJd g C' M' s j := by
  unfold gJd
  rw [h1, h2, h3, h4, h5, h6, h7, h8, h9, h10]
  exact h
theorem gRu_fr {p' : Nat} (h : gRu g C M p bT bG) (hp : p ≤ p') (h1 : ∀ k, 10 ≤ k → C' g k = C g k) (h2 : C' (g + 7) = C (g + 7)) (h3 : M' 75 8 = M 75 8) (h4 : M' 75 9 = M 75 9) (h5 : M' 82 = M 82) (h6 : M' 83 = M 83) : gRu g C' M' p' bT bG := by
  obtain ⟨cl, n1, n2, F1, F2, a1, a2, a3, a4⟩ := h
  refine ⟨cl, n1, n2, F1, F2, by rw [h1 10 (by decide)]; exact a1, by omega, ?_, ?_⟩
  · unfold RUx RUy
    rw [h1 11 (by decide), h1 12 (by decide), h2, h3, h5]
    exact a3
  · unfold RUx RUy
    rw [h1 13 (by decide), h1 14 (by decide), h2, h4, h6]
    exact a4
theorem GS_tf {p' : Nat} (hg : gok g) (h : GS g C M p bS bT bG) (hp : p ≤ p') (hc : TFc C C') (hm : TFm M M') : GS g C' M' p' bS bT bG := by
  obtain ⟨s, r, j, h1, h2, h3, h4⟩ := h
  have c0 : ∀ i, i ≤ 7 → C' (g + i) = C (g + i) := fun i hi => hc.1 _ (by rcases hg with rfl | rfl <;> omega)
  have cg : C' g = C g := c0 0 (by decide)
  have m_ : ∀ x, x ≠ 71 → M' x = M x := hm.1
  exact ⟨s, r, j, gSi_fr h1 (by rw [cg]) (by rw [m_ 75 (by decide)]) (hc.2 11 (by decide)), gRe_fr h2 (by rw [cg]) (by rw [m_ 75 (by decide)]) (c0 1 (by decide)) (c0 2 (by decide)) (m_ 76 (by decide)) (m_ 77 (by decide)), gJd_fr h3 (by rw [cg]) (by rw [m_ 75 (by decide)]) (c0 3 (by decide)) (c0 4 (by decide)) (c0 5 (by decide)) (c0 6 (by decide)) (m_ 78 (by decide)) (m_ 79 (by decide)) (m_ 80 (by decide)) (m_ 81 (by decide)), gRu_fr h4 hp (fun k _ => by rw [cg]) (c0 7 (by decide)) (by rw [m_ 75 (by decide)]) (by rw [m_ 75 (by decide)]) (m_ 82 (by decide)) (m_ 83 (by decide))⟩
/-- what a line comes to -/
def LO (n : Nat) (tx : Nat → Nat) (g vl vl' : Nat) (C M : ST) (p : Nat) (bS bT bG : Bool) (x4 : X4T) (x7 : ST → Nat → Nat → Nat → (Nat → Int64) → Option (Int32 × AH)) (v : Int32) : Prop := (∃ C' M' p' e' k', (∀ (Mz : ST) (k1 vz : Nat) (O : Nat → Int64), x4 Mz k1 vz O = some (1, (HP C' Mz (k1, g, 1, vz) O))) ∧ (∀ (Cz : ST) (k1 k2 k3 : Nat) (O : Nat → Int64), x7 Cz k1 k2 k3 O = some (v, HP Cz M' (k1, k2, k3, vl') O)) ∧ TK n tx C' M' p' e' k' ∧ GS g C' M' p' bS bT bG ∧ p < p' ∧ LFc g C C' ∧ LFm M M') ∨ (∃ C' M' fl pl, (∀ (Mz : ST) (k1 vz : Nat) (O : Nat → Int64), x4 Mz k1 vz O = some (0, (HP C' Mz (k1, g, 1, vz) O))) ∧ (∀ (Cz : ST) (k1 k2 k3 : Nat) (O : Nat → Int64), x7 Cz k1 k2 k3 O = some (v, HP Cz M' (k1, k2, k3, vl') O)) ∧ FLT C' M' fl pl ∧ LFc g C C' ∧ LFm M M')
theorem b138_d {v1 v3 : Int32} (hz : ¬ M 71 24 = 0) : ∀ (Cz : ST) (k1 k2 k3 : Nat) (O : Nat → Int64), f_X7_readLine_b138 N 71 v1 v3 (HP Cz M (k1, k2, k3, vl) O) = some (v1 ||| v3, (HP Cz M (k1, k2, k3, vl) O)) := by
  intro Cz k1 k2 k3 O
  simp only [f_X7_readLine_b138, ↓b_rdM, ↓bnd (mark_d (N := N) (vl := vl) hz Cz k1 k2 k3 O)]
/-- the sign at a line's end -/
theorem end_b (hg : gok g) (hK : TK n tx C M p e k) (hS : GS g C M p bS bT bG) {v1 v3 : Int32} (hN : 1000 ≤ N) : (∃ C' M' p' e' k', (∀ (Mz : ST) (k1 vz : Nat) (O : Nat → Int64), f_X4_readSign N (HP C Mz (k1, g, 1, vz) O) 2 59 = some (1, (HP C' Mz (k1, g, 1, vz) O))) ∧ (∀ (Cz : ST) (k1 k2 k3 : Nat) (O : Nat → Int64), f_X7_readLine_b138 N 71 v1 v3 (HP Cz M (k1, k2, k3, vl) O) = some (v1 ||| v3, (HP Cz M' (k1, k2, k3, vl) O))) ∧ TK n tx C' M' p' e' k' ∧ GS g C' M' p' bS bT bG ∧ p < p' ∧ LFc g C C' ∧ LFm M M') ∨ (∃ C' M', (∀ (Mz : ST) (k1 vz : Nat) (O : Nat → Int64), f_X4_readSign N (HP C Mz (k1, g, 1, vz) O) 2 59 = some (0, (HP C' Mz (k1, g, 1, vz) O))) ∧ (∀ (Cz : ST) (k1 k2 k3 : Nat) (O : Nat → Int64), f_X7_readLine_b138 N 71 v1 v3 (HP Cz M (k1, k2, k3, vl) O) = some (v1 ||| v3, (HP Cz M' (k1, k2, k3, vl) O))) ∧ FLT C' M' 1 p ∧ LFc g C C' ∧ LFm M M') := by
  by_cases y : sgm tx p k 59 = true
  · left
    obtain ⟨p', e', k', d, yy, z, h1, h2, h3, h4⟩ := sign_y (N := N) (g := g) (vl := vl) (c := 59) (x := 59) hK (by decide) rfl y hN
    refine ⟨_, _, p', e', k', h2, fun Cz k1 k2 k3 O => ?_, h4, GS_tf hg hS (by omega) TFc_s2 TFm_m7, h1, LFc_tf TFc_s2, LFm_tf TFm_m7⟩
    simp only [f_X7_readLine_b138, ↓b_rdM, ↓bnd (h3 Cz k1 k2 k3 O)]
  · right
    have y' : sgm tx p k 59 = false := by simpa using y
    obtain ⟨h1, h2⟩ := sign_n (N := N) (g := g) (vl := vl) (c := 59) (x := 59) hK (by decide) rfl y'
    refine ⟨_, _, h1, fun Cz k1 k2 k3 O => ?_, FLT_t (fl := 1) (x := 1) hK (by decide) (by decide) rfl, LFc_t, LFm_t⟩
    simp only [f_X7_readLine_b138, ↓b_rdM, ↓bnd (h2 Cz k1 k2 k3 O)]
theorem TK_1 (hK : TK n tx C M p e 1) : p < e := hK.2.2.2.2.2.2.1 (by decide)
/-- a number, with frames -/
theorem num_f (hK : TK n tx C M p e k) {lo hi : Nat} (hh : hi ≤ 9999) {xl xh : Int32} (hl : xl = nI lo) (hx : xh = nI hi) (hlo : lo ≤ 9999) (hN : 1000 ≤ N) : (∃ (v p' e' k' : Nat) (C' M' : ST), lo ≤ v ∧ v ≤ hi ∧ p < p' ∧ (∀ (Mz : ST) (k1 vz : Nat) (O : Nat → Int64), f_X4_readNumber N (HP C Mz (k1, g, 1, vz) O) 2 xl xh 2 = some (1, (HP C' Mz (k1, g, 1, vz) O))) ∧ (∀ (Cz : ST) (k1 k2 k3 : Nat) (O : Nat → Int64), f_X7_readNumber N (HP Cz M (k1, k2, k3, vl) O) 71 xl xh = some (nI v, (HP Cz M' (k1, k2, k3, vl) O))) ∧ TK n tx C' M' p' e' k' ∧ C' 2 10 = nI v ∧ TFc C C' ∧ TFm M M') ∨ (∃ C' M' fl, (∀ (Mz : ST) (k1 vz : Nat) (O : Nat → Int64), f_X4_readNumber N (HP C Mz (k1, g, 1, vz) O) 2 xl xh 2 = some (0, (HP C' Mz (k1, g, 1, vz) O))) ∧ (∀ (Cz : ST) (k1 k2 k3 : Nat) (O : Nat → Int64), f_X7_readNumber N (HP Cz M (k1, k2, k3, vl) O) 71 xl xh = some (0, (HP Cz M' (k1, k2, k3, vl) O))) ∧ FLT C' M' fl p ∧ LFc g C C' ∧ LFm M M') := by
  rcases num_b (N := N) (g := g) (vl := vl) hK hh hl hx hlo hN with ⟨v, p', e', k', d, y, x, v1, v2, v3, q1, q2, q3⟩ | ⟨fl, f1, f5, q1, q2⟩
  · exact .inl ⟨v, p', e', k', _, _, v1, v2, v3, q1, q2, q3, by rw [s2_k (by decide), up_s, upd_s], TFc_s2', TFm_m7⟩
  · exact .inr ⟨_, _, fl, q1, q2, FLT_t hK f1 f5 rfl, LFc_t, LFm_t⟩
/-! sides -/
set_option maxHeartbeats 4000000 in
theorem sides_b (hg : gok g) (hK : TK n tx C M p e 1) (hS : GS g C M p false bT bG) (h0 : C g 2 = 0) {v1 v3 : Int32} (hN : 1000 ≤ N) : LO n tx g vl vl C M p true bT bG (fun Mz k1 vz O => f_X4_readSides N (HP C Mz (k1, g, 1, vz) O) 2) (fun Cz k1 k2 k3 O => (f_X7_sayOnce N (HP Cz M (k1, k2, k3, vl) O) 71 1).bind fun r27 => f_X7_readLine_b138 N 71 v1 v3 r27) (v1 ||| v3) := by
  have t1 : ¬ (1 : Int32) = 0 := by decide
  have pe := TK_1 hK
  have gn : g ≠ 2 ∧ g ≠ 1 ∧ ∀ i, i ≤ 7 → g + i ≠ 2 := by rcases hg with rfl | rfl <;> exact ⟨by decide, by decide, fun i hi => by omega⟩
  obtain ⟨s, r, j, s1, s2', s3, s4⟩ := hS
  obtain rfl : j = 0 := by
    have a := s3.1
    rw [h0] at a
    have := (eq_nI (a := 0) (b := j) (by decide) (by have := s3.2.2.1; omega)).mp a
    omega
  have e11 : C 2 11 = 0 := s1.2.2.2.2
  obtain ⟨p1, e1, k1', C1, M1, n1, n2, n3, n4, n5, n6⟩ := TK_next (g := g) (vl := vl) hK hN
  rcases num_f (N := N) (g := g) (vl := vl) (lo := 2) (hi := 8) (xl := 2) (xh := 8) n4 (by decide) rfl rfl (by decide) hN with ⟨v, p2, e2, k2', C2, M2, a1, a2, a3, a4, a5, a6, a7, a8, a9⟩ | ⟨C2, M2, fl, a4, a5, a6, a7, a8⟩
  · obtain ⟨C3, eC⟩ : ∃ C3, C3 = up (up C2 2 11 1) g 0 (nI v) := ⟨_, rfl⟩
    obtain ⟨M3, eM⟩ : ∃ M3, M3 = up M2 75 5 (nI v) := ⟨_, rfl⟩
    have cg : ∀ x, x ≠ 2 → C2 x = C x := fun x hx => (a8.1 x hx).trans (n5.1 x hx)
    have mg : ∀ x, x ≠ 71 → M2 x = M x := fun x hx => (a9.1 x hx).trans (n6.1 x hx)
    have c3 : ∀ x, x ≠ 2 → x ≠ g → C3 x = C x := fun x h1 h2 => by rw [eC, up_o h2, up_o h1]; exact cg x h1
    have c3g : ∀ k, k ≠ 0 → C3 g k = C g k := fun k hk => by rw [eC, up_s, upd_o hk, up_o gn.1]; exact congrFun (cg g gn.1) k
    have m3 : ∀ x, x ≠ 71 → x ≠ 75 → M3 x = M x := fun x h1 h2 => by rw [eM, up_o h2]; exact mg x h1
    have m3k : ∀ k, k ≠ 5 → M3 75 k = M 75 k := fun k hk => by rw [eM, up_s, upd_o hk]; exact congrFun (mg 75 (by decide)) k
    have c2 : ∀ k, k ≠ 11 → C3 2 k = C2 2 k := fun k hk => by rw [eC, up_o (Ne.symm gn.1), up_s, upd_o hk]
    have K3 : TK n tx C3 M3 p2 e2 k2' := by
      have u := a6
      unfold TK TXT at u ⊢
      rw [c2 3 (by decide), c2 5 (by decide), c2 6 (by decide), c2 7 (by decide), c2 8 (by decide), c2 9 (by decide), show M3 71 = M2 71 by rw [eM, up_o (by decide)], show M3 86 = M2 86 by rw [eM, up_o (by decide)], show C3 1 = C2 1 by rw [eC, up_o (Ne.symm gn.2.1), up_o (by decide)]]
      exact u
    have S3 : GS g C3 M3 p2 true bT bG := by
      refine ⟨v, r, 0, ⟨by rw [eC, up_s, upd_s], by rw [eM, up_s, upd_s], a1, a2, by rw [eC, up_o (Ne.symm gn.1), up_s, upd_s]; rfl⟩, gRe_fr s2' (c3g 1 (by decide)) (m3k 6 (by decide)) (c3 _ (gn.2.2 1 (by decide)) (by omega)) (c3 _ (gn.2.2 2 (by decide)) (by omega)) (m3 76 (by decide) (by decide)) (m3 77 (by decide) (by decide)), ⟨(c3g 2 (by decide)).trans s3.1, (m3k 7 (by decide)).trans s3.2.1, by decide, fun i hi => absurd hi (Nat.not_lt_zero i)⟩, gRu_fr s4 (by omega) (fun k hk => c3g k (by omega)) (c3 _ (gn.2.2 7 (by decide)) (by omega)) (m3k 8 (by decide)) (m3k 9 (by decide)) (m3 82 (by decide) (by decide)) (m3 83 (by decide) (by decide))⟩
    have lc : LFc g C C3 := fun x h1 h2 => c3 x h1 (by omega)
    have lm : LFm M M3 := LFm_trans (LFm_tf n6) (LFm_trans (LFm_tf a9) (by rw [eM]; exact LFm_up (by omega)))
    have hc3 : ∀ (Mz : ST) (k1 vz : Nat) (O : Nat → Int64), f_X4_readSides N (HP C Mz (k1, g, 1, vz) O) 2 = (f_X4_readSign N (HP C3 Mz (k1, g, 1, vz) O) 2 59).bind fun r26 => if narrow .boolean (.int r26.1) = .int r26.1 then some (r26.1, r26.2) else none := fun Mz k1 vz O => by
      have x10 : up C2 2 11 1 2 10 = nI v := by rw [up_s, upd_o (by decide)]; exact a7
      simp only [f_X4_readSides, ↓b_rdC, ↓b_rG hg, h0, show (0 : Int32) ≤ 0 by decide, e11, ↓reduceIte, ↓bnd (n2 Mz k1 vz O), ↓bnd (a4 Mz k1 vz O), t1, jwz_eq (v := 1) (.inr rfl), ↓b_wrC, x10, ↓b_wG hg]
      rw [← eC]
    have hm3 : ∀ (Cz : ST) (k1 k2 k3 : Nat) (O : Nat → Int64), f_X7_sayOnce N (HP Cz M (k1, k2, k3, vl) O) 71 1 = some (HP Cz M3 (k1, k2, k3, vl) O) := fun Cz k1 k2 k3 O => by
      simp only [f_X7_sayOnce, ↓b_rdM, ↓bnd (n3 Cz k1 k2 k3 O), ↓reduceIte, ↓bnd (a5 Cz k1 k2 k3 O), ↓b_wlM, eM]
    rcases end_b (N := N) (vl := vl) hg K3 S3 (v1 := v1) (v3 := v3) hN with ⟨C4, M4, p4, e4, k4', b1, b2, b3, b4, b5, b6, b7⟩ | ⟨C4, M4, b1, b2, b3, b4, b5⟩
    · refine .inl ⟨C4, M4, p4, e4, k4', fun Mz k1 vz O => ?_, fun Cz k1 k2 k3 O => ?_, b3, b4, by omega, LFc_trans lc b6, LFm_trans lm b7⟩
      · refine Eq.trans (hc3 Mz k1 vz O) ?_
        simp only [↓bnd (b1 Mz k1 vz O), nb1, ↓reduceIte]
      · refine Eq.trans (bnd (hm3 Cz k1 k2 k3 O) _ _) ?_
        exact b2 Cz k1 k2 k3 O
    · refine .inr ⟨C4, M4, 1, p2, fun Mz k1 vz O => ?_, fun Cz k1 k2 k3 O => ?_, b3, LFc_trans lc b4, LFm_trans lm b5⟩
      · refine Eq.trans (hc3 Mz k1 vz O) ?_
        simp only [↓bnd (b1 Mz k1 vz O), nb0, ↓reduceIte]
      · refine Eq.trans (bnd (hm3 Cz k1 k2 k3 O) _ _) ?_
        exact b2 Cz k1 k2 k3 O
  · have hf : FLT C2 (up M2 75 5 0) fl p1 := FLT_fr a6 rfl (up_o (by decide))
    refine .inr ⟨C2, up M2 75 5 0, fl, p1, fun Mz k1 vz O => ?_, fun Cz k1 k2 k3 O => ?_, hf, LFc_trans (LFc_tf n5) a7, LFm_trans (LFm_tf n6) (LFm_trans a8 (LFm_up (by omega)))⟩
    · simp only [f_X4_readSides, ↓b_rdC, ↓b_rG hg, h0, show (0 : Int32) ≤ 0 by decide, e11, ↓reduceIte, ↓bnd (n2 Mz k1 vz O), ↓bnd (a4 Mz k1 vz O)]
    · have hm3 : f_X7_sayOnce N (HP Cz M (k1, k2, k3, vl) O) 71 1 = some (HP Cz (up M2 75 5 0) (k1, k2, k3, vl) O) := by
        simp only [f_X7_sayOnce, ↓b_rdM, ↓bnd (n3 Cz k1 k2 k3 O), ↓reduceIte, ↓bnd (a5 Cz k1 k2 k3 O), ↓b_wlM]
      refine Eq.trans (bnd hm3 _ _) ?_
      exact b138_d (FLT_ne hf) Cz k1 k2 k3 O
end S81
