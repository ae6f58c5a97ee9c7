/-! words, signs; a fault; what is laid down -/
def WS (a : Nat) (w : List Nat) : Prop := jsl a = some (nI w.length) ∧ ∀ i, i < w.length → jsc a (nI i) = some (nI (w.getD i 0))
def wm (tx : Nat → Nat) (p e k : Nat) (w : List Nat) : Bool := decide (k = 1 ∧ e - p = w.length ∧ ∀ i, i < w.length → tx (p + i) = w.getD i 0)
def sgm (tx : Nat → Nat) (p k c : Nat) : Bool := decide (k = 3 ∧ tx p = c)
abbrev w_sides : List Nat := [115, 105, 100, 101, 115]
theorem ws_1000001 : WS 1000001 w_sides := by
  unfold WS
  decide +kernel
theorem ws_1000033 : WS 1000033 w_sides := by
  unfold WS
  decide +kernel
abbrev w_reach : List Nat := [114, 101, 97, 99, 104]
theorem ws_1000002 : WS 1000002 w_reach := by
  unfold WS
  decide +kernel
theorem ws_1000039 : WS 1000039 w_reach := by
  unfold WS
  decide +kernel
abbrev w_judge : List Nat := [106, 117, 100, 103, 101]
theorem ws_1000003 : WS 1000003 w_judge := by
  unfold WS
  decide +kernel
theorem ws_1000024 : WS 1000024 w_judge := by
  unfold WS
  decide +kernel
abbrev w_bigot : List Nat := [98, 105, 103, 111, 116]
theorem ws_1000004 : WS 1000004 w_bigot := by
  unfold WS
  decide +kernel
theorem ws_1000025 : WS 1000025 w_bigot := by
  unfold WS
  decide +kernel
abbrev w_turns : List Nat := [116, 117, 114, 110, 115]
theorem ws_1000005 : WS 1000005 w_turns := by
  unfold WS
  decide +kernel
theorem ws_1000034 : WS 1000034 w_turns := by
  unfold WS
  decide +kernel
abbrev w_not : List Nat := [110, 111, 116]
theorem ws_1000006 : WS 1000006 w_not := by
  unfold WS
  decide +kernel
theorem ws_1000036 : WS 1000036 w_not := by
  unfold WS
  decide +kernel
abbrev w_lean : List Nat := [108, 101, 97, 110]
theorem ws_1000007 : WS 1000007 w_lean := by
  unfold WS
  decide +kernel
theorem ws_1000026 : WS 1000026 w_lean := by
  unfold WS
  decide +kernel
abbrev w_seen : List Nat := [115, 101, 101, 110]
theorem ws_1000008 : WS 1000008 w_seen := by
  unfold WS
  decide +kernel
theorem ws_1000027 : WS 1000027 w_seen := by
  unfold WS
  decide +kernel
abbrev w_faces : List Nat := [102, 97, 99, 101, 115]
theorem ws_1000009 : WS 1000009 w_faces := by
  unfold WS
  decide +kernel
theorem ws_1000028 : WS 1000028 w_faces := by
  unfold WS
  decide +kernel
abbrev w_here : List Nat := [104, 101, 114, 101]
theorem ws_1000010 : WS 1000010 w_here := by
  unfold WS
  decide +kernel
theorem ws_1000029 : WS 1000029 w_here := by
  unfold WS
  decide +kernel
abbrev w_step : List Nat := [115, 116, 101, 112]
theorem ws_1000011 : WS 1000011 w_step := by
  unfold WS
  decide +kernel
theorem ws_1000030 : WS 1000030 w_step := by
  unfold WS
  decide +kernel
abbrev w_spin : List Nat := [115, 112, 105, 110]
theorem ws_1000012 : WS 1000012 w_spin := by
  unfold WS
  decide +kernel
theorem ws_1000031 : WS 1000031 w_spin := by
  unfold WS
  decide +kernel
abbrev w_flow : List Nat := [102, 108, 111, 119]
theorem ws_1000013 : WS 1000013 w_flow := by
  unfold WS
  decide +kernel
theorem ws_1000032 : WS 1000032 w_flow := by
  unfold WS
  decide +kernel
abbrev w_and : List Nat := [97, 110, 100]
theorem ws_1000014 : WS 1000014 w_and := by
  unfold WS
  decide +kernel
theorem ws_1000037 : WS 1000037 w_and := by
  unfold WS
  decide +kernel
abbrev w_or : List Nat := [111, 114]
theorem ws_1000015 : WS 1000015 w_or := by
  unfold WS
  decide +kernel
theorem ws_1000038 : WS 1000038 w_or := by
  unfold WS
  decide +kernel
abbrev w_goes : List Nat := [103, 111, 101, 115]
theorem ws_1000016 : WS 1000016 w_goes := by
  unfold WS
  decide +kernel
theorem ws_1000035 : WS 1000035 w_goes := by
  unfold WS
  decide +kernel
def RSr (g w wi f : Nat) (C M : ST) (m : Nat) (F : Nat → RI) : Prop := f + m ≤ 700 ∧ C g 10 = nI (f + m) ∧ M 75 wi = nI m ∧ ∀ i, i < m → C (g + 7) (f + i) = ccode (F i) ∧ M w (700 + i) = mcode (F i)
def wfF (F : Nat → RI) (m : Nat) : Prop := ∀ i, i < m → wfi (F i) (dep F i)
def MD (w wi vl : Nat) (C M : ST) : Prop := (w = 82 ∧ wi = 8 ∧ vl = 73 ∧ M 71 27 = 0 ∧ C 2 12 = 1) ∨ (w = 83 ∧ wi = 9 ∧ vl = 74 ∧ M 71 27 = 1 ∧ C 2 12 = 0)
def FRc (g f : Nat) (C C' : ST) : Prop := (∀ x, x ≠ 2 → x ≠ g → x ≠ g + 7 → C' x = C x) ∧ (∀ k, k ≠ 10 → C' g k = C g k) ∧ (∀ k, k = 3 ∨ 10 < k → C' 2 k = C 2 k) ∧ ∀ i, i < f → C' (g + 7) i = C (g + 7) i
def FRm (w wi : Nat) (M M' : ST) : Prop := (∀ x, x ≠ 71 → x ≠ 75 → x ≠ w → M' x = M x) ∧ (∀ k, k ≠ wi → M' 75 k = M 75 k) ∧ (∀ k, k < 18 ∨ k = 19 ∨ 25 < k → M' 71 k = M 71 k) ∧ ∀ i, i < 700 → M' w i = M w i
def PS (n : Nat) (tx : Nat → Nat) (g w wi vl f : Nat) (C M : ST) (p e k m : Nat) (F : Nat → RI) (d : Nat) : Prop := TK n tx C M p e k ∧ RSr g w wi f C M m F ∧ wfF F m ∧ dep F m = d ∧ f + m ≤ p ∧ MD w wi vl C M
def FLT (C M : ST) (fl pl : Nat) : Prop := 1 ≤ fl ∧ fl ≤ 5 ∧ pl ≤ 700 ∧ C 2 0 = nI fl ∧ C 2 1 = nI pl ∧ M 71 24 = nI fl ∧ M 71 25 = nI pl
section S75
variable {C C' C'' M M' M'' : ST} {N n g vl p e k m f w wi d : Nat} {tx : Nat → Nat} {F : Nat → RI}
theorem FRc_refl : FRc g f C C := ⟨fun _ _ _ _ => rfl, fun _ _ => rfl, fun _ _ => rfl, fun _ _ => rfl⟩
theorem FRm_refl : FRm w wi M M := ⟨fun _ _ _ _ => rfl, fun _ _ => rfl, fun _ _ => rfl, fun _ _ => rfl⟩
theorem FRc_trans (h : FRc g f C C') (h' : FRc g f C' C'') : FRc g f C C'' := ⟨fun x a b c => (h'.1 x a b c).trans (h.1 x a b c), fun k a => (h'.2.1 k a).trans (h.2.1 k a), fun k a => (h'.2.2.1 k a).trans (h.2.2.1 k a), fun i a => (h'.2.2.2 i a).trans (h.2.2.2 i a)⟩
theorem FRm_trans (h : FRm w wi M M') (h' : FRm w wi M' M'') : FRm w wi M M'' := ⟨fun x a b c => (h'.1 x a b c).trans (h.1 x a b c), fun k a => (h'.2.1 k a).trans (h.2.1 k a), fun k a => (h'.2.2.1 k a).trans (h.2.2.1 k a), fun i a => (h'.2.2.2 i a).trans (h.2.2.2 i a)⟩
theorem FRc_s2 (hg : gok g) {p e k d v : Int32} : FRc g f C (s2 C p e k d v) := ⟨fun x a _ _ => s2_o a, fun k _ => by rw [s2_o (by rcases hg with rfl | rfl <;> decide)], fun k hk => s2_k (by omega), fun i _ => by rw [s2_o (by rcases hg with rfl | rfl <;> decide)]⟩
theorem FRm_m7 (hw : w = 82 ∨ w = 83) {a t x b s : Int32} : FRm w wi M (m7 M a t x b s) := ⟨fun x a _ _ => m7_o a, fun k _ => by rw [m7_o (by decide)], fun k hk => m7_k (by omega), fun i _ => by rw [m7_o (by rcases hw with rfl | rfl <;> decide)]⟩
theorem MD_w (h : MD w wi vl C M) : w = 82 ∨ w = 83 := by rcases h with h | h <;> simp [h.1]
theorem MD_fr (h : MD w wi vl C M) (hc : FRc g f C C') (hm : FRm w wi M M') : MD w wi vl C' M' := by
  unfold MD
  rw [hm.2.2.1 27 (by omega), hc.2.2.1 12 (by omega)]
  exact h
/-! words -/
set_option maxHeartbeats 4000000 in
theorem isWord_c (hK : TK n tx C M p e k) {a : Nat} {w : List Nat} (hw : WS a w) (hl : w.length ≤ 10) (hc : ∀ i, i < w.length → w.getD i 0 < 128) (hN : 1000 ≤ N) : ∀ (Mz : ST) (k1 vz : Nat) (O : Nat → Int64), f_X4_isWord N (HP C Mz (k1, g, 1, vz) O) 2 a = some (b2i (wm tx p e k w), (HP C Mz (k1, g, 1, vz) O)) := by
  intro Mz k1 vz O
  obtain ⟨⟨h7, e3, _, ht⟩, _, ⟨c5, c6, c7⟩, _, pe, en, _, k4, _⟩ := hK
  obtain ⟨w1, w2⟩ := hw
  by_cases z1 : k = 1
  · have es : nI e - nI p = nI (e - p) := subI pe
    by_cases z2 : e - p = w.length
    · have A := itr_inv (body := fun s : Int32 × AH => f_X4_isWord_l28 N 2 a s.1 s.2)
        (fun i s => s = (nI i, (HP C Mz (k1, g, 1, vz) O)) ∧ ∀ j, j < i → tx (p + j) = w.getD j 0)
        (P := fun r => r = if wm tx p e k w = true then Sum.inr (HP C Mz (k1, g, 1, vz) O) else Sum.inl (HP C Mz (k1, g, 1, vz) O)) (n := w.length) ?_ ?_ (s := (0, (HP C Mz (k1, g, 1, vz) O))) ⟨rfl, fun j hj => absurd hj (Nat.not_lt_zero j)⟩ (N := N) (by omega)
      · obtain ⟨r, a1, a2⟩ := A
        rw [a2] at a1
        obtain ⟨B, eB⟩ : ∃ B, B = wm tx p e k w := ⟨_, rfl⟩
        rw [← eB] at a1 ⊢
        simp only [f_X4_isWord, f_X4_isWord_b28, ↓b_rdC, c7, z1, show nI 1 = 1 from rfl, ↓reduceIte, c6, c5, es, ↓bnd w1, z2, a1, Option.bind_some]
        cases B
        · simp only [Bool.false_eq_true, ↓reduceIte, Sum.elim_inl]; rfl
        · simp only [↓reduceIte, Sum.elim_inr]; rfl
      · rintro i s hi ⟨rfl, h1⟩
        have l1 : ¬ nI w.length ≤ nI i := nI_ge hi (by omega)
        have l2 : ¬ nI n ≤ nI (p + i) := nI_ge (by omega) (by omega)
        have i7 : p + i < 700 := by omega
        obtain ⟨t1, t2, _⟩ := ht (p + i) (by omega)
        by_cases y : tx (p + i) = w.getD i 0
        · left
          refine ⟨(nI (i + 1), (HP C Mz (k1, g, 1, vz) O)), ?_, rfl, fun j hj => ?_⟩
          · have y' : sb (tx (p + i)) = nI (w.getD i 0) := (sb_eq t1 (hc i hi)).mpr y
            simp only [f_X4_isWord_l28, ↓bnd w1, l1, ↓reduceIte, ↓b_rdC, c5, e3, nI_add, l2, ↓b_raC, i7, t2, ↓bnd (w2 i hi), y', nI_1]
          · by_cases q : j = i
            · rw [q]; exact y
            · exact h1 j (by omega)
        · right
          have ew : wm tx p e k w = false := by
            unfold wm
            rw [decide_eq_false_iff_not]
            exact fun q => y (q.2.2 i hi)
          refine ⟨Sum.inl (HP C Mz (k1, g, 1, vz) O), ?_, by rw [ew]; rfl⟩
          have y' : ¬ sb (tx (p + i)) = nI (w.getD i 0) := fun q => y ((sb_eq t1 (hc i hi)).mp q)
          simp only [f_X4_isWord_l28, ↓bnd w1, l1, ↓reduceIte, ↓b_rdC, c5, e3, nI_add, l2, ↓b_raC, i7, t2, ↓bnd (w2 i hi), y']
      · rintro s ⟨rfl, h1⟩
        have ew : wm tx p e k w = true := decide_eq_true ⟨z1, z2, h1⟩
        refine ⟨Sum.inr (HP C Mz (k1, g, 1, vz) O), ?_, by rw [ew]; rfl⟩
        simp only [f_X4_isWord_l28, ↓bnd w1, show nI w.length ≤ nI w.length from nI_le (Nat.le_refl _) (by omega), ↓reduceIte]
    · have ew : wm tx p e k w = false := by
        unfold wm
        rw [decide_eq_false_iff_not]
        exact fun q => z2 q.2.1
      have z2' : ¬ nI (e - p) = nI w.length := fun q => z2 ((eq_nI (by omega) (by omega)).mp q)
      rw [ew]
      simp only [f_X4_isWord, ↓b_rdC, c7, z1, show nI 1 = 1 from rfl, ↓reduceIte, c6, c5, es, ↓bnd w1, z2']
      rfl
  · have ew : wm tx p e k w = false := by
      unfold wm
      rw [decide_eq_false_iff_not]
      exact fun q => z1 q.1
    have z1' : ¬ nI k = 1 := fun q => z1 ((eq_nI (a := k) (b := 1) (by omega) (by omega)).mp q)
    rw [ew]
    simp only [f_X4_isWord, ↓b_rdC, c7, z1', ↓reduceIte]
    rfl
theorem is_0 {a : Nat} {h : AH} (hN : 1000 ≤ N) : f_X7_is_b35 N 71 a h = some (0, h) := by
  have A : itr (fun s : Int32 × Int32 × AH => f_X7_is_l39 N 71 a s.1 s.2.1 s.2.2) N (0, 0, h) = some (0, h) := by
    obtain ⟨N', rfl⟩ : ∃ q, N = q + 1 := ⟨N - 1, by omega⟩
    refine itr_r ?_ N'
    simp only [f_X7_is_l39, ↓reduceIte]
  simp only [f_X7_is_b35, f_X7_is_b36, f_X7_is_b39, A, Option.bind_some, nb0, ↓reduceIte]
set_option maxHeartbeats 4000000 in
theorem is_m (hK : TK n tx C M p e k) {a : Nat} {w : List Nat} (hw : WS a w) (hl : w.length ≤ 10) (hc : ∀ i, i < w.length → w.getD i 0 < 128) (hN : 1000 ≤ N) : ∀ (Cz : ST) (k1 k2 k3 : Nat) (O : Nat → Int64), f_X7_is N (HP Cz M (k1, k2, k3, vl) O) 71 a = some (b2i (wm tx p e k w), (HP Cz M (k1, k2, k3, vl) O)) := by
  intro Cz k1 k2 k3 O
  obtain ⟨⟨h7, _, e3, ht⟩, hz, _, ⟨c5, c6, c6', c7⟩, pe, en, _, k4, _⟩ := hK
  obtain ⟨w1, w2⟩ := hw
  by_cases z1 : k = 1
  · have es : nI e - nI p = nI (e - p) := subI pe
    by_cases z2 : e - p = w.length
    · have A := itr_inv (body := fun s : Int32 × Int32 × AH => f_X7_is_l39 N 71 a s.1 s.2.1 s.2.2)
        (fun i s => (s = (1, nI i, (HP Cz M (k1, k2, k3, vl) O)) ∧ ∀ j, j < i → tx (p + j) = w.getD j 0) ∨ (∃ x, s = (0, x, (HP Cz M (k1, k2, k3, vl) O))) ∧ wm tx p e k w = false)
        (P := fun r => r = (b2i (wm tx p e k w), (HP Cz M (k1, k2, k3, vl) O))) (n := w.length) ?_ ?_ (s := (1, 0, (HP Cz M (k1, k2, k3, vl) O))) (.inl ⟨rfl, fun j hj => absurd hj (Nat.not_lt_zero j)⟩) (N := N) (by omega)
      · obtain ⟨r, a1, a2⟩ := A
        rw [a2] at a1
        have z2' : nI w.length = nI e - nI p := by rw [es, z2]
        simp only [f_X7_is, f_X7_is_b36, f_X7_is_b39, ↓b_rdM, hz, ↓reduceIte, c7, z1, show nI 1 = 1 from rfl, ↓bnd w1, c6', c5, es, z2, a1, Option.bind_some, nb_b2i]
      · rintro i s hi (⟨rfl, h1⟩ | ⟨⟨x, rfl⟩, h1⟩)
        · have l1 : ¬ nI w.length ≤ nI i := nI_ge hi (by omega)
          have i7 : p + i < 700 := by omega
          obtain ⟨t1, _, t2⟩ := ht (p + i) (by omega)
          left
          by_cases y : tx (p + i) = w.getD i 0
          · refine ⟨(1, nI (i + 1), (HP Cz M (k1, k2, k3, vl) O)), ?_, .inl ⟨rfl, fun j hj => ?_⟩⟩
            · simp only [f_X7_is_l39, f_X7_is_b75, show ¬ (1 : Int32) = 0 by decide, ↓bnd w1, l1, ↓reduceIte, ↓bnd (w2 i hi), ↓b_rdM, c5, nI_add, ↓b_raM, i7, t2, y, nI_1]
            · by_cases q : j = i
              · rw [q]; exact y
              · exact h1 j (by omega)
          · have ew : wm tx p e k w = false := by
              unfold wm
              rw [decide_eq_false_iff_not]
              exact fun q => y (q.2.2 i hi)
            have y' : ¬ nI (w.getD i 0) = nI (tx (p + i)) := fun q => y ((eq_nI (by have := hc i hi; omega) (by omega)).mp q).symm
            refine ⟨(0, nI (i + 1), (HP Cz M (k1, k2, k3, vl) O)), ?_, .inr ⟨⟨_, rfl⟩, ew⟩⟩
            simp only [f_X7_is_l39, f_X7_is_b75, show ¬ (1 : Int32) = 0 by decide, ↓bnd w1, l1, ↓reduceIte, ↓bnd (w2 i hi), ↓b_rdM, c5, nI_add, ↓b_raM, i7, t2, y', nI_1]
        · right
          refine ⟨(0, (HP Cz M (k1, k2, k3, vl) O)), ?_, by rw [h1]; rfl⟩
          simp only [f_X7_is_l39, ↓reduceIte]
      · rintro s (⟨rfl, h1⟩ | ⟨⟨x, rfl⟩, h1⟩)
        · have ew : wm tx p e k w = true := decide_eq_true ⟨z1, z2, h1⟩
          refine ⟨(1, (HP Cz M (k1, k2, k3, vl) O)), ?_, by rw [ew]; rfl⟩
          simp only [f_X7_is_l39, show ¬ (1 : Int32) = 0 by decide, ↓bnd w1, show nI w.length ≤ nI w.length from nI_le (Nat.le_refl _) (by omega), ↓reduceIte]
        · refine ⟨(0, (HP Cz M (k1, k2, k3, vl) O)), ?_, by rw [h1]; rfl⟩
          simp only [f_X7_is_l39, ↓reduceIte]
    · have ew : wm tx p e k w = false := by
        unfold wm
        rw [decide_eq_false_iff_not]
        exact fun q => z2 q.2.1
      have z2' : ¬ nI w.length = nI (e - p) := fun q => z2 ((eq_nI (by omega) (by omega)).mp q).symm
      rw [ew]
      simp only [f_X7_is, ↓b_rdM, hz, ↓reduceIte, c7, z1, show nI 1 = 1 from rfl, ↓bnd w1, c6', c5, es, z2', is_0 hN]
      rfl
  · have ew : wm tx p e k w = false := by
      unfold wm
      rw [decide_eq_false_iff_not]
      exact fun q => z1 q.1
    have z1' : ¬ nI k = 1 := fun q => z1 ((eq_nI (a := k) (b := 1) (by omega) (by omega)).mp q)
    rw [ew]
    simp only [f_X7_is, ↓b_rdM, hz, ↓reduceIte, c7, z1', is_0 hN]
    rfl
theorem is_d {a : Nat} (hz : ¬ M 71 24 = 0) (hN : 1000 ≤ N) : ∀ (Cz : ST) (k1 k2 k3 : Nat) (O : Nat → Int64), f_X7_is N (HP Cz M (k1, k2, k3, vl) O) 71 a = some (0, (HP Cz M (k1, k2, k3, vl) O)) := by
  intro Cz k1 k2 k3 O
  simp only [f_X7_is, ↓b_rdM, hz, ↓reduceIte, is_0 hN]
/-! signs -/
theorem isSign_c (hK : TK n tx C M p e k) {c : Nat} (hc : c < 128) {x : Int32} (hx : x = nI c) : ∀ (Mz : ST) (k1 vz : Nat) (O : Nat → Int64), f_X4_isSign N (HP C Mz (k1, g, 1, vz) O) 2 x = some (b2i (sgm tx p k c), (HP C Mz (k1, g, 1, vz) O)) := by
  intro Mz k1 vz O
  subst hx
  obtain ⟨⟨h7, e3, _, ht⟩, _, ⟨c5, c6, c7⟩, _, pe, en, hk, k4, _⟩ := hK
  unfold sgm
  by_cases z1 : k = 3
  · have pe' := hk (by omega)
    have l2 : ¬ nI n ≤ nI p := nI_ge (by omega) (by omega)
    have i7 : p < 700 := by omega
    obtain ⟨t1, t2, _⟩ := ht p (by omega)
    have hx' : (sb (tx p) = nI c) = (tx p = c) := propext (sb_eq t1 hc)
    by_cases y : tx p = c
    · have y2 : sb (tx p) = nI c := (sb_eq t1 hc).mpr y
      rw [show decide (k = 3 ∧ tx p = c) = true from decide_eq_true ⟨z1, y⟩]
      simp only [f_X4_isSign, ↓b_rdC, c7, z1, show nI 3 = 3 from rfl, ↓reduceIte, c5, e3, l2, ↓b_raC, i7, t2, y2]
      rfl
    · simp only [f_X4_isSign, f_X4_isSign_b36, ↓b_rdC, c7, z1, show nI 3 = 3 from rfl, ↓reduceIte, c5, e3, l2, ↓b_raC, i7, t2, hx', y, and_false, decide_false]
      rfl
  · have z1' : ¬ nI k = 3 := fun q => z1 ((eq_nI (a := k) (b := 3) (by omega) (by omega)).mp q)
    simp only [f_X4_isSign, f_X4_isSign_b36, ↓b_rdC, c7, z1', ↓reduceIte, z1, false_and, decide_false]
    rfl
theorem isMarked_m (hK : TK n tx C M p e k) {c : Nat} (hc : c < 128) {x : Int32} (hx : x = nI c) : ∀ (Cz : ST) (k1 k2 k3 : Nat) (O : Nat → Int64), f_X7_isMarked N (HP Cz M (k1, k2, k3, vl) O) 71 x = some (b2i (sgm tx p k c), (HP Cz M (k1, k2, k3, vl) O)) := by
  intro Cz k1 k2 k3 O
  subst hx
  obtain ⟨⟨h7, _, e3, ht⟩, hz, _, ⟨c5, c6, c6', c7⟩, pe, en, hk, k4, _⟩ := hK
  unfold sgm
  by_cases z1 : k = 3
  · have pe' := hk (by omega)
    have i7 : p < 700 := by omega
    obtain ⟨t1, _, t2⟩ := ht p (by omega)
    have hx' : (nI (tx p) = nI c) = (tx p = c) := propext (eq_nI (by omega) (by omega))
    by_cases y : tx p = c
    · simp only [f_X7_isMarked, ↓b_rdM, hz, c7, z1, show nI 3 = 3 from rfl, ↓reduceIte, c5, ↓b_raM, i7, t2, hx', y, decide_true, and_self]
      rfl
    · simp only [f_X7_isMarked, f_X7_isMarked_b32, ↓b_rdM, hz, c7, z1, show nI 3 = 3 from rfl, ↓reduceIte, c5, ↓b_raM, i7, t2, hx', y, and_false, decide_false]
      rfl
  · have z1' : ¬ nI k = 3 := fun q => z1 ((eq_nI (a := k) (b := 3) (by omega) (by omega)).mp q)
    simp only [f_X7_isMarked, f_X7_isMarked_b32, ↓b_rdM, hz, c7, z1', ↓reduceIte, z1, false_and, decide_false]
    rfl
theorem isMarked_d {x : Int32} (hz : ¬ M 71 24 = 0) : ∀ (Cz : ST) (k1 k2 k3 : Nat) (O : Nat → Int64), f_X7_isMarked N (HP Cz M (k1, k2, k3, vl) O) 71 x = some (0, (HP Cz M (k1, k2, k3, vl) O)) := by
  intro Cz k1 k2 k3 O
  simp only [f_X7_isMarked, f_X7_isMarked_b32, ↓b_rdM, hz, ↓reduceIte]
/-! a fault -/
theorem refuse_t (hK : TK n tx C M p e k) {x : Int32} : ∀ (Mz : ST) (k1 vz : Nat) (O : Nat → Int64), f_X4_refuseToken N (HP C Mz (k1, g, 1, vz) O) 2 x = some (0, (HP (up (up C 2 0 x) 2 1 (nI p)) Mz (k1, g, 1, vz) O)) := by
  intro Mz k1 vz O
  have e5 : up C 2 0 x 2 5 = nI p := by rw [up_s, upd_o (by decide)]; exact hK.2.2.1.1
  simp only [f_X4_refuseToken, ↓b_wrC, ↓b_rdC, e5]
theorem wrong_t (hK : TK n tx C M p e k) {x : Int32} : ∀ (Cz : ST) (k1 k2 k3 : Nat) (O : Nat → Int64), f_X7_wrong N (HP Cz M (k1, k2, k3, vl) O) 71 x = some (HP Cz (up (up M 71 24 x) 71 25 (nI p)) (k1, k2, k3, vl) O) := by
  intro Cz k1 k2 k3 O
  have e5 : up M 71 24 x 71 22 = nI p := by rw [up_s, upd_o (by decide)]; exact hK.2.2.2.1.1
  simp only [f_X7_wrong, ↓b_rdM, hK.2.1, ↓reduceIte, ↓b_wrM, e5]
theorem wrong_d {x : Int32} (hz : ¬ M 71 24 = 0) : ∀ (Cz : ST) (k1 k2 k3 : Nat) (O : Nat → Int64), f_X7_wrong N (HP Cz M (k1, k2, k3, vl) O) 71 x = some (HP Cz M (k1, k2, k3, vl) O) := by
  intro Cz k1 k2 k3 O
  simp only [f_X7_wrong, ↓b_rdM, hz, ↓reduceIte]
theorem FLT_t (hK : TK n tx C M p e k) {fl : Nat} {x : Int32} (h1 : 1 ≤ fl) (h5 : fl ≤ 5) (hx : x = nI fl) : FLT (up (up C 2 0 x) 2 1 (nI p)) (up (up M 71 24 x) 71 25 (nI p)) fl p := by
  have hp : p ≤ 700 := by have := hK.1.1; have := hK.2.2.2.2.1; have := hK.2.2.2.2.2.1; omega
  refine ⟨h1, h5, hp, ?_, ?_, ?_, ?_⟩
  · rw [up_s, upd_o (by decide), up_s, upd_s, hx]
  · rw [up_s, upd_s]
  · rw [up_s, upd_o (by decide), up_s, upd_s, hx]
  · rw [up_s, upd_s]
theorem FRc_t (hg : gok g) {x y : Int32} : FRc g f C (up (up C 2 0 x) 2 1 y) := ⟨fun x a _ _ => by rw [up_o a, up_o a], fun k _ => by rw [up_o (by rcases hg with rfl | rfl <;> decide), up_o (by rcases hg with rfl | rfl <;> decide)], fun k hk => by rw [up_s, upd_o (by omega), up_s, upd_o (by omega)], fun i _ => by rw [up_o (by rcases hg with rfl | rfl <;> decide), up_o (by rcases hg with rfl | rfl <;> decide)]⟩
theorem FRm_t (hw : w = 82 ∨ w = 83) {x y : Int32} : FRm w wi M (up (up M 71 24 x) 71 25 y) := ⟨fun x a _ _ => by rw [up_o a, up_o a], fun k _ => by rw [up_o (by decide), up_o (by decide)], fun k hk => by rw [up_s, upd_o (by omega), up_s, upd_o (by omega)], fun i _ => by rw [up_o (by rcases hw with rfl | rfl <;> decide), up_o (by rcases hw with rfl | rfl <;> decide)]⟩
theorem FLT_ne {fl pl : Nat} (h : FLT C M fl pl) : ¬ M 71 24 = 0 := by
  rw [h.2.2.2.2.2.1]
  exact nI_ne0 (by have := h.1; omega) (by have := h.2.1; omega)
end S75
