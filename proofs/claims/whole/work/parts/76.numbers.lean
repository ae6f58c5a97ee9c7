/-! numbers, single signs, value words; emit and lay -/
theorem b_wG {g : Nat} (hg : gok g) (C M : ST) (K : KT) (O : Nat → Int64) : (∀ v, ∀ (β : Type) (q : AH → Option β), Option.bind (jpf 1 (HP C M K O) g 0 (.int v)) q = q (HP (up C g 0 v) M K O)) ∧ (∀ v, ∀ (β : Type) (q : AH → Option β), Option.bind (jpf 1 (HP C M K O) g 1 (.int v)) q = q (HP (up C g 1 v) M K O)) ∧ (∀ v, ∀ (β : Type) (q : AH → Option β), Option.bind (jpf 1 (HP C M K O) g 2 (.int v)) q = q (HP (up C g 2 v) M K O)) ∧ (∀ v, ∀ (β : Type) (q : AH → Option β), Option.bind (jpf 1 (HP C M K O) g 10 (.int v)) q = q (HP (up C g 10 v) M K O)) ∧ (∀ v, ∀ (β : Type) (q : AH → Option β), Option.bind (jpf 1 (HP C M K O) g 11 (.int v)) q = q (HP (up C g 11 v) M K O)) ∧ (∀ v, ∀ (β : Type) (q : AH → Option β), Option.bind (jpf 1 (HP C M K O) g 12 (.int v)) q = q (HP (up C g 12 v) M K O)) ∧ (∀ v, ∀ (β : Type) (q : AH → Option β), Option.bind (jpf 1 (HP C M K O) g 13 (.int v)) q = q (HP (up C g 13 v) M K O)) ∧ (∀ v, ∀ (β : Type) (q : AH → Option β), Option.bind (jpf 1 (HP C M K O) g 14 (.int v)) q = q (HP (up C g 14 v) M K O)) := by
  rcases hg with rfl | rfl <;> refine ⟨?_, ?_, ?_, ?_, ?_, ?_, ?_, ?_⟩ <;> intro v β q <;> simp only [↓b_wrC]
theorem b_wGa {g : Nat} (hg : gok g) (C M : ST) (K : KT) (O : Nat → Int64) : (∀ j v, j < 9 → ∀ (β : Type) (q : AH → Option β), Option.bind (jas 0 (HP C M K O) (g + 1) (nI j) v) q = q (HP (up C (g + 1) j v) M K O)) ∧ (∀ j v, j < 9 → ∀ (β : Type) (q : AH → Option β), Option.bind (jas 0 (HP C M K O) (g + 2) (nI j) v) q = q (HP (up C (g + 2) j v) M K O)) ∧ (∀ j v, j < 8 → ∀ (β : Type) (q : AH → Option β), Option.bind (jas 0 (HP C M K O) (g + 3) (nI j) v) q = q (HP (up C (g + 3) j v) M K O)) ∧ (∀ j v, j < 8 → ∀ (β : Type) (q : AH → Option β), Option.bind (jas 0 (HP C M K O) (g + 4) (nI j) v) q = q (HP (up C (g + 4) j v) M K O)) ∧ (∀ j v, j < 8 → ∀ (β : Type) (q : AH → Option β), Option.bind (jas 0 (HP C M K O) (g + 5) (nI j) v) q = q (HP (up C (g + 5) j v) M K O)) ∧ (∀ j v, j < 8 → ∀ (β : Type) (q : AH → Option β), Option.bind (jas 2 (HP C M K O) (g + 6) (nI j) v) q = q (HP (up C (g + 6) j v) M K O)) ∧ (∀ j v, j < 700 → ∀ (β : Type) (q : AH → Option β), Option.bind (jas 0 (HP C M K O) (g + 7) (nI j) v) q = q (HP (up C (g + 7) j v) M K O)) := by
  rcases hg with rfl | rfl <;> refine ⟨?_, ?_, ?_, ?_, ?_, ?_, ?_⟩ <;> intro j v hj β q <;> simp only [Nat.reduceAdd, ↓b_waC, hj]
def dpn (r : RI) (d : Nat) : Nat := match r with
  | .inl _ => d + 1
  | .inr (.inl _) => d + 1
  | .inr (.inr (.inl _)) => d
  | .inr (.inr (.inr _)) => d - 1
def vixf (q : Nat → Bool) : Int32 := if q 0 = true then 0 else if q 1 = true then 1 else if q 2 = true then 2 else if q 3 = true then 3 else if q 4 = true then 4 else if q 5 = true then 5 else -1
def W_t (i : Nat) : List Nat := if i = 0 then w_lean else if i = 1 then w_seen else if i = 2 then w_faces else if i = 3 then w_here else if i = 4 then w_step else w_spin
def W_g (i : Nat) : List Nat := if i = 0 then w_lean else if i = 1 then w_seen else if i = 2 then w_faces else if i = 3 then w_here else if i = 4 then w_step else w_flow
def W_s (i : Nat) : List Nat := if i = 0 then w_judge else w_bigot
section S76
variable {C C' C'' M M' M'' : ST} {N n g vl p e k m f w wi d : Nat} {tx : Nat → Nat} {F : Nat → RI}
theorem TK_fr (h : TK n tx C M p e k) (h1 : C' 2 = C 2) (h2 : C' 1 = C 1) (h3 : M' 71 = M 71) (h4 : M' 86 = M 86) : TK n tx C' M' p e k := by
  unfold TK TXT at h ⊢
  rw [h1, h2, h3, h4]
  exact h
theorem emit_c (hg : gok g) {q : Nat} (e10 : C g 10 = nI q) (hq : q < 700) {op ar : Int32} : ∀ (Mz : ST) (k1 vz : Nat) (O : Nat → Int64), f_X1_emit N (HP C Mz (k1, g, 1, vz) O) g op ar = some (HP (up (up C (g + 7) q (ar * 16 + op)) g 10 (nI (q + 1))) Mz (k1, g, 1, vz) O) := by
  intro Mz k1 vz O
  have l : ¬ nI 700 ≤ nI q := nI_ge hq (by omega)
  have e' : up C (g + 7) q (ar * 16 + op) g 10 = nI q := by rw [up_o (by omega)]; exact e10
  simp only [f_X1_emit, ↓b_rG hg, ↓b_rGa hg, e10, l, ↓reduceIte, ↓b_wGa hg, hq, e', nI_1, ↓b_wG hg]
theorem lay_m (hz : M 71 24 = 0) (hd : MD w wi vl C M) (e : M 75 wi = nI m) (hm : m < 700) {s : Int32} : ∀ (Cz : ST) (k1 k2 k3 : Nat) (O : Nat → Int64), f_X7_lay N (HP Cz M (k1, k2, k3, vl) O) 71 s = some (HP Cz (up (up M w (700 + m) s) 75 wi (nI (m + 1))) (k1, k2, k3, vl) O) := by
  intro Cz k1 k2 k3 O
  have s7 : (700 : Int32) + nI m = nI (700 + m) := nI_add 700 m
  have l : 700 + m < 1400 := by omega
  rcases hd with ⟨rfl, rfl, rfl, h27, _⟩ | ⟨rfl, rfl, rfl, h27, _⟩
  · have e' : up M 82 (700 + m) s 75 8 = nI m := by rw [up_o (by decide)]; exact e
    simp only [f_X7_lay, f_X7_lay_b21, f_X7_lay_b41, ↓b_rdM, hz, h27, ↓reduceIte, show (5 : Int32) + 3 = 8 by decide, ↓b_rlM, e, s7, ↓b_waM, l, e', nI_1, ↓b_wlM]
  · have e' : up M 83 (700 + m) s 75 9 = nI m := by rw [up_o (by decide)]; exact e
    simp only [f_X7_lay, f_X7_lay_b21, f_X7_lay_b41, ↓b_rdM, hz, h27, ↓reduceIte, show ¬ (1 : Int32) = 0 by decide, show (5 : Int32) + 4 = 9 by decide, ↓b_rlM, e, s7, ↓b_waM, l, e', nI_1, ↓b_wlM]
theorem lay_d (hz : ¬ M 71 24 = 0) {s : Int32} : ∀ (Cz : ST) (k1 k2 k3 : Nat) (O : Nat → Int64), f_X7_lay N (HP Cz M (k1, k2, k3, vl) O) 71 s = some (HP Cz M (k1, k2, k3, vl) O) := by
  intro Cz k1 k2 k3 O
  simp only [f_X7_lay, ↓b_rdM, hz, ↓reduceIte]
theorem dep_congr {F G : Nat → RI} : ∀ m, (∀ i, i < m → F i = G i) → dep F m = dep G m
  | 0 => fun _ => rfl
  | m + 1 => fun h => by
    unfold dep
    rw [h m (by omega), dep_congr m (fun i hi => h i (by omega))]
/-- both lay one instruction down -/
theorem em_b (hg : gok g) (hP : PS n tx g w wi vl f C M p e k m F d) (hf : f + m < 700) (r : RI) (hr : wfi r d) {op ar s : Int32} (hc : ar * 16 + op = ccode r) (hs : s = mcode r) : ∃ C' M' F', (∀ (Mz : ST) (k1 vz : Nat) (O : Nat → Int64), f_X1_emit N (HP C Mz (k1, g, 1, vz) O) g op ar = some (HP C' Mz (k1, g, 1, vz) O)) ∧ (∀ (Cz : ST) (k1 k2 k3 : Nat) (O : Nat → Int64), f_X7_lay N (HP Cz M (k1, k2, k3, vl) O) 71 s = some (HP Cz M' (k1, k2, k3, vl) O)) ∧ TK n tx C' M' p e k ∧ RSr g w wi f C' M' (m + 1) F' ∧ wfF F' (m + 1) ∧ dep F' (m + 1) = dpn r d ∧ MD w wi vl C' M' ∧ FRc g f C C' ∧ FRm w wi M M' := by
  obtain ⟨hK, ⟨s1, s2, s3, s4⟩, hwf, hdp, hfp, hmd⟩ := hP
  have hw := MD_w hmd
  have hwn : w ≠ 75 ∧ w ≠ 71 ∧ w ≠ 86 := by rcases hw with rfl | rfl <;> decide
  have hgn : g ≠ 1 ∧ g ≠ 2 ∧ g + 7 ≠ 1 ∧ g + 7 ≠ 2 := by rcases hg with rfl | rfl <;> decide
  have fc : FRc g f C (up (up C (g + 7) (f + m) (ar * 16 + op)) g 10 (nI (f + m + 1))) := ⟨fun x a b c => by rw [up_o b, up_o c], fun k hk => by rw [up_s, upd_o hk, up_o (by omega)], fun k hk => by rw [up_o (by omega), up_o (by omega)], fun i hi => by rw [up_o (by omega), up_s, upd_o (by omega)]⟩
  have fm : FRm w wi M (up (up M w (700 + m) s) 75 wi (nI (m + 1))) := ⟨fun x a b c => by rw [up_o b, up_o c], fun k hk => by rw [up_s, upd_o hk, up_o (by omega)], fun k hk => by rw [up_o (by omega), up_o (by omega)], fun i hi => by rw [up_o (by omega), up_s, upd_o (by omega)]⟩
  obtain ⟨F', eF⟩ : ∃ F' : Nat → RI, F' = fun i => if i = m then r else F i := ⟨_, rfl⟩
  have hF : ∀ i, i < m → F' i = F i := fun i hi => by rw [eF]; exact if_neg (by omega)
  have hFm : F' m = r := by rw [eF]; exact if_pos rfl
  refine ⟨_, _, F', emit_c hg s2 hf, lay_m hK.2.1 hmd s3 (by omega), TK_fr hK (by rw [up_o (by omega), up_o (by omega)]) (by rw [up_o (by omega), up_o (by omega)]) (by rw [up_o (by decide), up_o (by omega)]) (by rw [up_o (by decide), up_o (by omega)]), ⟨by omega, by rw [up_s, upd_s]; rfl, by rw [up_s, upd_s], fun i hi => ?_⟩, fun i hi => ?_, ?_, MD_fr hmd fc fm, fc, fm⟩
  · rw [up_o (by omega), up_s, up_o (by omega), up_s]
    by_cases z : i = m
    · rw [z, upd_s, upd_s, hFm]
      exact ⟨hc, hs⟩
    · rw [upd_o (by omega), upd_o (by omega), hF i (by omega)]
      exact s4 i (by omega)
  · by_cases z : i = m
    · rw [z, hFm, dep_congr m hF, hdp]
      exact hr
    · rw [hF i (by omega), dep_congr i (fun j hj => hF j (by omega))]
      exact hwf i (by omega)
  · have e := dep_congr m hF
    rw [hdp] at e
    unfold dep
    rw [hFm, e]
    unfold dpn
    rfl
theorem TXT_10 (hT : TXT n tx C M) {v : Int32} : TXT n tx (up C 2 10 v) M := by
  obtain ⟨h1, h2, h3, h4⟩ := hT
  refine ⟨h1, by rw [up_s, upd_o (by decide)]; exact h2, h3, fun i hi => ?_⟩
  rw [up_o (by decide)]
  exact h4 i hi
theorem TK_p (hK : TK n tx C M p e k) : p ≤ 700 ∧ e ≤ 700 := by
  have := hK.1.1; have := hK.2.2.2.2.1; have := hK.2.2.2.2.2.1; omega
set_option maxHeartbeats 4000000 in
theorem num_b (hK : TK n tx C M p e k) {lo hi : Nat} (hh : hi ≤ 9999) {xl xh : Int32} (hl : xl = nI lo) (hx : xh = nI hi) (hlo : lo ≤ 9999) (hN : 1000 ≤ N) : (∃ (v p' e' k' : Nat) (d y x : Int32), lo ≤ v ∧ v ≤ hi ∧ p < p' ∧ (∀ (Mz : ST) (k1 vz : Nat) (O : Nat → Int64), f_X4_readNumber N (HP C Mz (k1, g, 1, vz) O) 2 xl xh 2 = some (1, (HP (s2 (up C 2 10 (nI v)) (nI p') (nI e') (nI k') d y) Mz (k1, g, 1, vz) O))) ∧ (∀ (Cz : ST) (k1 k2 k3 : Nat) (O : Nat → Int64), f_X7_readNumber N (HP Cz M (k1, k2, k3, vl) O) 71 xl xh = some (nI v, (HP Cz (m7 M (nI e') (nI k') x (nI p') (nI e')) (k1, k2, k3, vl) O))) ∧ TK n tx (s2 (up C 2 10 (nI v)) (nI p') (nI e') (nI k') d y) (m7 M (nI e') (nI k') x (nI p') (nI e')) p' e' k') ∨ (∃ fl, 1 ≤ fl ∧ fl ≤ 5 ∧ (∀ (Mz : ST) (k1 vz : Nat) (O : Nat → Int64), f_X4_readNumber N (HP C Mz (k1, g, 1, vz) O) 2 xl xh 2 = some (0, (HP (up (up C 2 0 (nI fl)) 2 1 (nI p)) Mz (k1, g, 1, vz) O))) ∧ (∀ (Cz : ST) (k1 k2 k3 : Nat) (O : Nat → Int64), f_X7_readNumber N (HP Cz M (k1, k2, k3, vl) O) 71 xl xh = some (0, (HP Cz (up (up M 71 24 (nI fl)) 71 25 (nI p)) (k1, k2, k3, vl) O)))) := by
  subst hl hx
  have hK0 := hK
  obtain ⟨hT, hz, ⟨c5, c6, c7⟩, ⟨d5, d6, d6', d7⟩, pe, en, hk, k4, h2⟩ := hK
  have h700 := TK_p hK0
  have bz : ∀ fl : Nat, 1 ≤ fl → fl ≤ 5 → ¬ up (up M 71 24 (nI fl)) 71 25 (nI p) 71 24 = 0 := fun fl a b => FLT_ne (FLT_t hK0 a b rfl)
  have kk1 : nI 1 = 1 := rfl
  have kk2 : nI 2 = 2 := rfl
  by_cases z : k = 2
  · obtain ⟨h8, h9⟩ := h2 z
    have pe' := hk (by omega)
    have es : nI e - nI p = nI (e - p) := subI pe
    by_cases z4 : e - p ≤ 4
    · obtain ⟨v, v1, v2, v3⟩ := h9 z4
      have l4 : nI (e - p) ≤ 4 := nI_le (b := 4) z4 (by decide)
      have l4' : ¬ (4 : Int32) < nI (e - p) := nI_nlt (a := 4) z4 (by decide)
      by_cases y : lo ≤ v ∧ v ≤ hi
      · left
        have y1 : ¬ nI v < nI lo := nI_nlt y.1 (by omega)
        have y2 : nI v ≤ nI hi := nI_le y.2 (by omega)
        obtain ⟨p', e', k', d, yy, x, q1, q2, q3, q4⟩ := next_b (g := g) (vl := vl) (C := up C 2 10 (nI v)) (TXT_10 hT) (by rw [up_s, upd_o (by decide)]; exact c6) d6 en hz hN
        refine ⟨v, p', e', k', d, yy, x, y.1, y.2, by omega, fun Mz k1 vz O => ?_, fun Cz k1 k2 k3 O => ?_, q4⟩
        · simp only [f_X4_readNumber, ↓b_rdC, c7, z, kk2, ↓reduceIte, h8, l4, v2, y1, y2, ↓b_wrC, ↓bnd (q2 Mz k1 vz O)]
        · simp only [f_X7_readNumber, f_X7_numberNow, f_X7_numberNow_b59, ↓b_rdM, hz, ↓reduceIte, d7, z, kk2, d6', d5, es, l4', v3, y1, y2, Option.bind_some, ↓bnd (q3 Cz k1 k2 k3 O)]
      · right
        refine ⟨2, by decide, by decide, fun Mz k1 vz O => ?_, fun Cz k1 k2 k3 O => ?_⟩
        · have rt := refuse_t (N := N) (g := g) (x := 2) hK0 Mz k1 vz O
          by_cases y1 : lo ≤ v
          · have y1' : ¬ nI v < nI lo := nI_nlt y1 (by omega)
            have y2' : ¬ nI v ≤ nI hi := nI_ge (by omega) (by omega)
            simp only [f_X4_readNumber, f_X4_readNumber_b44, ↓b_rdC, c7, z, kk2, ↓reduceIte, h8, l4, v2, y1', y2', ↓bnd rt, nb0]
          · have y1' : nI v < nI lo := nI_lt (by omega) (by omega)
            simp only [f_X4_readNumber, f_X4_readNumber_b44, ↓b_rdC, c7, z, kk2, ↓reduceIte, h8, l4, v2, y1', ↓bnd rt, nb0]
        · have wt := wrong_t (N := N) (vl := vl) (x := 2) hK0 Cz k1 k2 k3 O
          have b2 := bz 2 (by decide) (by decide)
          rw [kk2] at b2
          by_cases y1 : lo ≤ v
          · have y1' : ¬ nI v < nI lo := nI_nlt y1 (by omega)
            have y2' : ¬ nI v ≤ nI hi := nI_ge (by omega) (by omega)
            simp only [f_X7_readNumber, f_X7_numberNow, f_X7_numberNow_b54, f_X7_numberNow_b59, ↓b_rdM, hz, ↓reduceIte, d7, z, kk2, d6', d5, es, l4', v3, y1', y2', ↓bnd wt, b2, Option.bind_some]
          · have y1' : nI v < nI lo := nI_lt (by omega) (by omega)
            simp only [f_X7_readNumber, f_X7_numberNow, f_X7_numberNow_b54, f_X7_numberNow_b59, ↓b_rdM, hz, ↓reduceIte, d7, z, kk2, d6', d5, es, l4', v3, y1', ↓bnd wt, b2, Option.bind_some]
    · right
      have l4 : ¬ nI (e - p) ≤ 4 := nI_ge (a := 4) (by omega) (by omega)
      have l4' : (4 : Int32) < nI (e - p) := nI_lt (a := 4) (by omega) (by omega)
      refine ⟨2, by decide, by decide, fun Mz k1 vz O => ?_, fun Cz k1 k2 k3 O => ?_⟩
      · have rt := refuse_t (N := N) (g := g) (x := 2) hK0 Mz k1 vz O
        simp only [f_X4_readNumber, ↓b_rdC, c7, z, kk2, ↓reduceIte, h8, l4, ↓bnd rt, nb0]
      · have wt := wrong_t (N := N) (vl := vl) (x := 2) hK0 Cz k1 k2 k3 O
        have b2 := bz 2 (by decide) (by decide)
        rw [kk2] at b2
        simp only [f_X7_readNumber, f_X7_numberNow, f_X7_numberNow_b54, f_X7_numberNow_b59, ↓b_rdM, hz, ↓reduceIte, d7, z, kk2, d6', d5, es, l4', ↓bnd wt, b2, Option.bind_some]
  · right
    have z' : ¬ nI k = 2 := fun q => z ((eq_nI (a := k) (b := 2) (by omega) (by omega)).mp q)
    refine ⟨1, by decide, by decide, fun Mz k1 vz O => ?_, fun Cz k1 k2 k3 O => ?_⟩
    · have rt := refuse_t (N := N) (g := g) (x := 1) hK0 Mz k1 vz O
      simp only [f_X4_readNumber, ↓b_rdC, c7, z', ↓reduceIte, ↓bnd rt, nb0, kk1]
    · have wt := wrong_t (N := N) (vl := vl) (x := 1) hK0 Cz k1 k2 k3 O
      have b1 := bz 1 (by decide) (by decide)
      rw [kk1] at b1
      simp only [f_X7_readNumber, f_X7_numberNow, f_X7_numberNow_b59, ↓b_rdM, hz, ↓reduceIte, d7, z', ↓bnd wt, b1, Option.bind_some, kk1]
theorem num_d {xl xh : Int32} (hz : ¬ M 71 24 = 0) : ∀ (Cz : ST) (k1 k2 k3 : Nat) (O : Nat → Int64), f_X7_readNumber N (HP Cz M (k1, k2, k3, vl) O) 71 xl xh = some (0, (HP Cz M (k1, k2, k3, vl) O)) := by
  intro Cz k1 k2 k3 O
  simp only [f_X7_readNumber, f_X7_numberNow, ↓b_rdM, hz, ↓reduceIte, Option.bind_some]
theorem sign_y (hK : TK n tx C M p e k) {c : Nat} (hc : c < 128) {x : Int32} (hx : x = nI c) (hs : sgm tx p k c = true) (hN : 1000 ≤ N) : ∃ (p' e' k' : Nat) (d y z : Int32), p < p' ∧ (∀ (Mz : ST) (k1 vz : Nat) (O : Nat → Int64), f_X4_readSign N (HP C Mz (k1, g, 1, vz) O) 2 x = some (1, (HP (s2 C (nI p') (nI e') (nI k') d y) Mz (k1, g, 1, vz) O))) ∧ (∀ (Cz : ST) (k1 k2 k3 : Nat) (O : Nat → Int64), f_X7_mark N (HP Cz M (k1, k2, k3, vl) O) 71 x = some (HP Cz (m7 M (nI e') (nI k') z (nI p') (nI e')) (k1, k2, k3, vl) O)) ∧ TK n tx (s2 C (nI p') (nI e') (nI k') d y) (m7 M (nI e') (nI k') z (nI p') (nI e')) p' e' k' := by
  have k3 : k = 3 := (decide_eq_true_eq.mp hs).1
  have pe := hK.2.2.2.2.2.2.1 (by omega)
  obtain ⟨p', e', k', d, y, z, q1, q2, q3, q4⟩ := next_b (g := g) (vl := vl) hK.1 hK.2.2.1.2.1 hK.2.2.2.1.2.1 hK.2.2.2.2.2.1 hK.2.1 hN
  refine ⟨p', e', k', d, y, z, by omega, fun Mz k1 vz O => ?_, fun Cz k1 k2 k3 O => ?_, q4⟩
  · have s := isSign_c (N := N) (g := g) hK hc hx Mz k1 vz O
    rw [hs] at s
    simp only [f_X4_readSign, ↓b_rdC, ↓bnd s, show b2i true = 1 from rfl, show ¬ (1 : Int32) = 0 by decide, ↓reduceIte, ↓bnd (q2 Mz k1 vz O)]
  · have s := isMarked_m (N := N) (vl := vl) hK hc hx Cz k1 k2 k3 O
    rw [hs] at s
    simp only [f_X7_mark, f_X7_mark_b20, ↓b_rdM, hK.2.1, ↓reduceIte, ↓bnd s, show b2i true = 1 from rfl, show ¬ (1 : Int32) = 0 by decide, ↓bnd (q3 Cz k1 k2 k3 O)]
theorem sign_n (hK : TK n tx C M p e k) {c : Nat} (hc : c < 128) {x : Int32} (hx : x = nI c) (hs : sgm tx p k c = false) : (∀ (Mz : ST) (k1 vz : Nat) (O : Nat → Int64), f_X4_readSign N (HP C Mz (k1, g, 1, vz) O) 2 x = some (0, (HP (up (up C 2 0 1) 2 1 (nI p)) Mz (k1, g, 1, vz) O))) ∧ (∀ (Cz : ST) (k1 k2 k3 : Nat) (O : Nat → Int64), f_X7_mark N (HP Cz M (k1, k2, k3, vl) O) 71 x = some (HP Cz (up (up M 71 24 1) 71 25 (nI p)) (k1, k2, k3, vl) O)) := by
  refine ⟨fun Mz k1 vz O => ?_, fun Cz k1 k2 k3 O => ?_⟩
  · have s := isSign_c (N := N) (g := g) hK hc hx Mz k1 vz O
    rw [hs] at s
    simp only [f_X4_readSign, ↓b_rdC, ↓bnd s, show b2i false = 0 from rfl, ↓reduceIte, ↓bnd (refuse_t (N := N) (g := g) (x := 1) hK Mz k1 vz O), nb0]
  · have s := isMarked_m (N := N) (vl := vl) hK hc hx Cz k1 k2 k3 O
    rw [hs] at s
    have b1 : ¬ up (up M 71 24 1) 71 25 (nI p) 71 24 = 0 := FLT_ne (FLT_t (fl := 1) (x := 1) hK (by decide) (by decide) rfl)
    simp only [f_X7_mark, f_X7_mark_b20, ↓b_rdM, hK.2.1, ↓reduceIte, ↓bnd s, show b2i false = 0 from rfl, ↓bnd (wrong_t (N := N) (vl := vl) (x := 1) hK Cz k1 k2 k3 O), b1]
theorem mark_d {x : Int32} (hz : ¬ M 71 24 = 0) : ∀ (Cz : ST) (k1 k2 k3 : Nat) (O : Nat → Int64), f_X7_mark N (HP Cz M (k1, k2, k3, vl) O) 71 x = some (HP Cz M (k1, k2, k3, vl) O) := by
  intro Cz k1 k2 k3 O
  simp only [f_X7_mark, f_X7_mark_b20, ↓b_rdM, hz, ↓reduceIte]
/-! value words -/
theorem ar_H {C M : ST} {K : KT} {O : Nat → Int64} {a L i x : Nat} {l : List Nat} (h1 : shp[a]? = some (4, L, l)) (hi : i < L) (hL : L < 100) (h2 : strA l i = some x) : jar 4 (HP C M K O) a (nI i) = some x := by
  unfold jar
  rw [hp_get h1]
  have : cel (stx C M a) K O (4, L, l) = .inl (4, L, .inr (.inr (.inr (.inr (strA l))))) := rfl
  rw [this]
  simp only []
  rw [if_pos ⟨trivial, nI_in hi (by omega)⟩, nI_clamp (by omega), h2]
set_option maxHeartbeats 4000000 in
theorem which_m (hK : TK n tx C M p e k) {va L : Nat} {sa : Nat → Nat} {W : Nat → List Nat} (hl : ∀ (Cz : ST) (k1 k2 k3 : Nat) (O : Nat → Int64), jln 4 (HP Cz M (k1, k2, k3, vl) O) va = some (nI L)) (ha : ∀ (Cz : ST) (k1 k2 k3 : Nat) (O : Nat → Int64), ∀ i, i < L → jar 4 (HP Cz M (k1, k2, k3, vl) O) va (nI i) = some (sa i)) (hw : ∀ i, i < L → WS (sa i) (W i) ∧ (W i).length ≤ 10 ∧ ∀ j, j < (W i).length → (W i).getD j 0 < 128) (hL : L ≤ 10) (hN : 1000 ≤ N) : ∀ (Cz : ST) (k1 k2 k3 : Nat) (O : Nat → Int64), (∃ i, i < L ∧ (∀ j, j < i → wm tx p e k (W j) = false) ∧ wm tx p e k (W i) = true ∧ f_X7_which N (HP Cz M (k1, k2, k3, vl) O) 71 va = some (nI i, (HP Cz M (k1, k2, k3, vl) O))) ∨ ((∀ j, j < L → wm tx p e k (W j) = false) ∧ f_X7_which N (HP Cz M (k1, k2, k3, vl) O) 71 va = some (-1, (HP Cz M (k1, k2, k3, vl) O))) := by
  intro Cz k1 k2 k3 O
  have A := itr_inv (body := fun s : Int32 × AH => f_X7_which_l2 N 71 va s.1 s.2)
    (fun i s => s = (nI i, (HP Cz M (k1, k2, k3, vl) O)) ∧ ∀ j, j < i → wm tx p e k (W j) = false)
    (P := fun r => (∃ i, i < L ∧ (∀ j, j < i → wm tx p e k (W j) = false) ∧ wm tx p e k (W i) = true ∧ r = .inl (nI i, (HP Cz M (k1, k2, k3, vl) O))) ∨ ((∀ j, j < L → wm tx p e k (W j) = false) ∧ r = .inr (HP Cz M (k1, k2, k3, vl) O))) (n := L) ?_ ?_ (s := (0, (HP Cz M (k1, k2, k3, vl) O))) ⟨rfl, fun j hj => absurd hj (Nat.not_lt_zero j)⟩ (N := N) (by omega)
  · obtain ⟨r, a1, a2⟩ := A
    rcases a2 with ⟨i, b1, b2, b3, b4⟩ | ⟨b1, b2⟩
    · rw [b4] at a1
      refine .inl ⟨i, b1, b2, b3, ?_⟩
      simp only [f_X7_which, f_X7_which_b2, a1, Option.bind_some, Sum.elim_inl]
    · rw [b2] at a1
      refine .inr ⟨b1, ?_⟩
      simp only [f_X7_which, f_X7_which_b2, a1, Option.bind_some, Sum.elim_inr]
  · rintro i s hi ⟨rfl, h1⟩
    have l1 : ¬ nI L ≤ nI i := nI_ge hi (by omega)
    obtain ⟨w1, w2, w3⟩ := hw i hi
    have q := is_m (N := N) (vl := vl) hK w1 w2 w3 hN Cz k1 k2 k3 O
    by_cases y : wm tx p e k (W i) = true
    · right
      rw [y] at q
      refine ⟨.inl (nI i, (HP Cz M (k1, k2, k3, vl) O)), ?_, .inl ⟨i, hi, h1, y, rfl⟩⟩
      simp only [f_X7_which_l2, ↓bnd (hl Cz k1 k2 k3 O), l1, ↓reduceIte, ↓bnd (ha Cz k1 k2 k3 O i hi), ↓b_rdM, ↓bnd q, show b2i true = 1 from rfl, show ¬ (1 : Int32) = 0 by decide]
    · left
      have y' : wm tx p e k (W i) = false := by simpa using y
      rw [y'] at q
      refine ⟨(nI (i + 1), (HP Cz M (k1, k2, k3, vl) O)), ?_, rfl, fun j hj => ?_⟩
      · simp only [f_X7_which_l2, ↓bnd (hl Cz k1 k2 k3 O), l1, ↓reduceIte, ↓bnd (ha Cz k1 k2 k3 O i hi), ↓b_rdM, ↓bnd q, show b2i false = 0 from rfl, nI_1]
      · by_cases z : j = i
        · rw [z]; exact y'
        · exact h1 j (by omega)
  · rintro s ⟨rfl, h1⟩
    refine ⟨.inr (HP Cz M (k1, k2, k3, vl) O), ?_, .inr ⟨h1, rfl⟩⟩
    simp only [f_X7_which_l2, ↓bnd (hl Cz k1 k2 k3 O), show nI L ≤ nI L from nI_le (Nat.le_refl _) (by omega), ↓reduceIte]
end S76
