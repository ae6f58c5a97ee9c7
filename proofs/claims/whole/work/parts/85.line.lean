/-! a line -/
def dn (a b c : Bool) : Int32 := (if a = true then 1 else 0) + (if b = true then 2 else 0) + (if c = true then 4 else 0)
theorem dn1 : ∀ a b c : Bool, dn a b c ||| 1 = dn true b c := by decide +kernel
theorem dn2 : ∀ a b c : Bool, dn a b c ||| 2 = dn a true c := by decide +kernel
theorem dn4 : ∀ a b c : Bool, dn a b c ||| 4 = dn a b true := by decide +kernel
theorem dn0 : ∀ a b c : Bool, dn a b c ||| 0 = dn a b c := by decide +kernel
theorem da0 : ∀ a b c : Bool, (0 : Int32) &&& dn a b c = 0 := by decide +kernel
theorem da1 : ∀ b c : Bool, (1 : Int32) &&& dn false b c = 0 := by decide +kernel
theorem da1' : ∀ b c : Bool, ¬ (1 : Int32) &&& dn true b c = 0 := by decide +kernel
theorem da2 : ∀ a c : Bool, (2 : Int32) &&& dn a false c = 0 := by decide +kernel
theorem da2' : ∀ a c : Bool, ¬ (2 : Int32) &&& dn a true c = 0 := by decide +kernel
theorem da4 : ∀ a b : Bool, (4 : Int32) &&& dn a b false = 0 := by decide +kernel
theorem da4' : ∀ a b : Bool, ¬ (4 : Int32) &&& dn a b true = 0 := by decide +kernel
def W_z (i : Nat) : List Nat := if i = 0 then w_judge else w_bigot
theorem ws_s : ∀ i, i < 2 → WS (1000024 + i) (W_z i) ∧ (W_z i).length ≤ 10 ∧ ∀ j, j < (W_z i).length → (W_z i).getD j 0 < 128 := by unfold WS; decide +kernel
theorem ar_s : ∀ i, i < 2 → strA [1000024, 1000025] i = some (1000024 + i) := by decide +kernel
section S85
variable {C C' C'' M M' M'' : ST} {N n g vl vl' p e k s r j : Nat} {tx : Nat → Nat} {b bS bT bG : Bool}
theorem wm_1 {w : List Nat} (h : wm tx p e k w = true) : k = 1 := (of_decide_eq_true h).1
theorem wm_eq {w w' : List Nat} (h : wm tx p e k w = true) (h' : wm tx p e k w' = true) : w = w' := by
  have a := of_decide_eq_true h
  have b := of_decide_eq_true h'
  refine List.ext_getElem (a.2.1.symm.trans b.2.1) (fun i h1 h2 => ?_)
  have x := (a.2.2 i h1).symm.trans (b.2.2 i h2)
  rw [List.getD_eq_getElem?_getD, List.getD_eq_getElem?_getD, List.getElem?_eq_getElem h1, List.getElem?_eq_getElem h2] at x
  exact x
theorem wm_ne {w w' : List Nat} (h : wm tx p e k w = true) (hn : w ≠ w') : wm tx p e k w' = false := by
  cases hx : wm tx p e k w'
  · rfl
  · exact absurd (wm_eq h hx) hn
theorem LO_of {x4 y4 : X4T} {x7 y7 : ST → Nat → Nat → Nat → (Nat → Int64) → Option (Int32 × AH)} {v : Int32} (h : LO n tx g vl vl' C M p bS bT bG x4 x7 v) (hc : ∀ (Mz : ST) (k1 vz : Nat) (O : Nat → Int64), y4 Mz k1 vz O = (x4 Mz k1 vz O).bind fun r => if narrow .boolean (.int r.1) = .int r.1 then some (r.1, r.2) else none) (hm : ∀ (Cz : ST) (k1 k2 k3 : Nat) (O : Nat → Int64), y7 Cz k1 k2 k3 O = x7 Cz k1 k2 k3 O) : LO n tx g vl vl' C M p bS bT bG y4 y7 v := by
  rcases h with ⟨C1, M1, p1, e1, k1', a1, a2, a3⟩ | ⟨C1, M1, fl, pl, a1, a2, a3⟩
  · refine .inl ⟨C1, M1, p1, e1, k1', fun Mz k1 vz O => ?_, fun Cz k1 k2 k3 O => (hm Cz k1 k2 k3 O).trans (a2 Cz k1 k2 k3 O), a3⟩
    rw [hc, bnd (a1 Mz k1 vz O)]
    simp only [nb1, ↓reduceIte]
  · refine .inr ⟨C1, M1, fl, pl, fun Mz k1 vz O => ?_, fun Cz k1 k2 k3 O => (hm Cz k1 k2 k3 O).trans (a2 Cz k1 k2 k3 O), a3⟩
    rw [hc, bnd (a1 Mz k1 vz O)]
    simp only [nb0, ↓reduceIte]
theorem LO_fl (hK : TK n tx C M p e k) {fl : Nat} {x v : Int32} (h1 : 1 ≤ fl) (h5 : fl ≤ 5) (hx : x = nI fl) {y4 : X4T} {y7 : ST → Nat → Nat → Nat → (Nat → Int64) → Option (Int32 × AH)} (hc : ∀ (Mz : ST) (k1 vz : Nat) (O : Nat → Int64), y4 Mz k1 vz O = some (0, (HP (up (up C 2 0 x) 2 1 (nI p)) Mz (k1, g, 1, vz) O))) (hm : ∀ (Cz : ST) (k1 k2 k3 : Nat) (O : Nat → Int64), y7 Cz k1 k2 k3 O = some (v, (HP Cz (up (up M 71 24 x) 71 25 (nI p)) (k1, k2, k3, vl) O))) : LO n tx g vl vl C M p bS bT bG y4 y7 v := .inr ⟨_, _, fl, p, hc, hm, FLT_t hK h1 h5 hx, LFc_t, LFm_t⟩
theorem b84_d (hz : ¬ M 71 24 = 0) {v1 v3 : Int32} (hN : 1000 ≤ N) : ∀ (Cz : ST) (k1 k2 k3 : Nat) (O : Nat → Int64), f_X7_readLine_b84 N 71 v1 (-1) v3 (HP Cz M (k1, k2, k3, vl) O) = some (v1 ||| v3, (HP Cz M (k1, k2, k3, vl) O)) := fun Cz k1 k2 k3 O => by
  have B : f_X7_readLine_b103 N 71 v1 (-1) v3 (HP Cz M (k1, k2, k3, vl) O) = some (v1 ||| v3, (HP Cz M (k1, k2, k3, vl) O)) := by
    simp only [f_X7_readLine_b103, ↓b_rdM, ↓reduceIte, ↓bnd (is_d (N := N) (vl := vl) hz hN Cz k1 k2 k3 O), ↓bnd (wrong_d (N := N) (vl := vl) hz Cz k1 k2 k3 O)]
    exact b138_d hz Cz k1 k2 k3 O
  simp only [f_X7_readLine_b84, ↓b_rdM, hz, ↓reduceIte, B, ite_self]
theorem b73_d (hz : ¬ M 71 24 = 0) {v1 v3 : Int32} (hN : 1000 ≤ N) : ∀ (Cz : ST) (k1 k2 k3 : Nat) (O : Nat → Int64), f_X7_readLine_b73 N 71 v1 (-1) v3 (HP Cz M (k1, k2, k3, vl) O) = some (v1 ||| v3, (HP Cz M (k1, k2, k3, vl) O)) := fun Cz k1 k2 k3 O => by
  simp only [f_X7_readLine_b73, ↓b_rdM, ↓bnd (wrong_d (N := N) (vl := vl) hz Cz k1 k2 k3 O), b84_d (N := N) (vl := vl) hz hN Cz k1 k2 k3 O, ite_self]
theorem which_s (hK : TK n tx C M p e k) (hN : 1000 ≤ N) : ∀ (Cz : ST) (k1 k2 k3 : Nat) (O : Nat → Int64), f_X7_which N (HP Cz M (k1, k2, k3, vl) O) 71 72 = some (if wm tx p e k w_judge = true then 0 else if wm tx p e k w_bigot = true then 1 else -1, (HP Cz M (k1, k2, k3, vl) O)) := fun Cz k1 k2 k3 O => by
  rcases which_m (N := N) (vl := vl) (va := 72) (L := 2) (sa := fun i => 1000024 + i) (W := W_z) hK (fun Cz k1 k2 k3 O => by simp only [lnH]) (fun Cz k1 k2 k3 O i hi => ar_H (l := [1000024, 1000025]) rfl hi (by decide) (ar_s i hi)) ws_s (by decide) hN Cz k1 k2 k3 O with ⟨i, h1, h2, h3, h4⟩ | ⟨h1, h2⟩
  · rcases (show i = 0 ∨ i = 1 by omega) with rfl | rfl
    · rw [h4, if_pos (show wm tx p e k w_judge = true from h3)]; rfl
    · have h0 : wm tx p e k w_judge = false := h2 0 (by decide)
      have h3' : wm tx p e k w_bigot = true := h3
      rw [h4, h0, h3']; rfl
  · have h0 : wm tx p e k w_judge = false := h1 0 (by decide)
    have h3' : wm tx p e k w_bigot = false := h1 1 (by decide)
    rw [h2, h0, h3']; rfl
theorem line_m (hK : TK n tx C M p e k) {v1 : Int32} (hN : 1000 ≤ N) : ∀ (Cz : ST) (k1 k2 k3 : Nat) (O : Nat → Int64), f_X7_readLine N (HP Cz M (k1, k2, k3, vl) O) 71 v1 = f_X7_readLine_b52 N 71 v1 (if wm tx p e k w_judge = true then 0 else if wm tx p e k w_bigot = true then 1 else -1) (if wm tx p e k w_sides = true then 1 else if wm tx p e k w_turns = true then 2 else if wm tx p e k w_goes = true then 4 else 0) (HP Cz M (k1, k2, k3, vl) O) := fun Cz k1 k2 k3 O => by
  have r0 := is_m (N := N) (vl := vl) hK ws_1000033 (by decide) (by decide) hN
  have r1 := is_m (N := N) (vl := vl) hK ws_1000034 (by decide) (by decide) hN
  have r2 := is_m (N := N) (vl := vl) hK ws_1000035 (by decide) (by decide) hN
  have t1 : ¬ (1 : Int32) = 0 := by decide
  have R : ∀ b, (b2i b = 0) = (b = false) := by decide
  simp only [f_X7_readLine, ↓b_rdM, ↓bnd (which_s (N := N) (vl := vl) hK hN Cz k1 k2 k3 O), ↓bnd (r0 Cz k1 k2 k3 O), ↓bnd (r1 Cz k1 k2 k3 O), ↓bnd (r2 Cz k1 k2 k3 O), R]
  cases wm tx p e k w_sides <;> cases wm tx p e k w_turns <;> cases wm tx p e k w_goes <;> simp only [Bool.true_eq_false, Bool.false_eq_true, ↓reduceIte]
theorem mpos (hS : GS g C M p bS bT bG) : ∃ j, j ≤ 8 ∧ C g 2 = nI j ∧ M 75 7 = nI j := by
  obtain ⟨s, r, j, _, _, s3, _⟩ := hS
  exact ⟨j, s3.2.2.1, s3.1, s3.2.1⟩
set_option maxHeartbeats 4000000 in
theorem line_reach (hg : gok g) (hK : TK n tx C M p e k) (hS : GS g C M p bS bT bG) (hw : wm tx p e k w_reach = true) (hN : 1000 ≤ N) : LO n tx g vl vl C M p bS bT bG (fun Mz k1 vz O => f_X4_readLine N (HP C Mz (k1, g, 1, vz) O) 2) (fun Cz k1 k2 k3 O => f_X7_readLine N (HP Cz M (k1, k2, k3, vl) O) 71 (dn bS bT bG)) (dn bS bT bG) := by
  have t1 : ¬ (1 : Int32) = 0 := by decide
  obtain rfl := wm_1 hw
  have q0 := isWord_c (N := N) (g := g) hK ws_1000001 (by decide) (by decide) hN
  have q1 := isWord_c (N := N) (g := g) hK ws_1000002 (by decide) (by decide) hN
  have q2 := isWord_c (N := N) (g := g) hK ws_1000003 (by decide) (by decide) hN
  have q3 := isWord_c (N := N) (g := g) hK ws_1000004 (by decide) (by decide) hN
  have q4 := isWord_c (N := N) (g := g) hK ws_1000005 (by decide) (by decide) hN
  have q5 := isWord_c (N := N) (g := g) hK ws_1000016 (by decide) (by decide) hN
  have f_sides : wm tx p e 1 w_sides = false := wm_ne hw (by decide)
  have f_judge : wm tx p e 1 w_judge = false := wm_ne hw (by decide)
  have f_bigot : wm tx p e 1 w_bigot = false := wm_ne hw (by decide)
  have f_turns : wm tx p e 1 w_turns = false := wm_ne hw (by decide)
  have f_goes : wm tx p e 1 w_goes = false := wm_ne hw (by decide)
  have hc : ∀ (Mz : ST) (k1 vz : Nat) (O : Nat → Int64), f_X4_readLine N (HP C Mz (k1, g, 1, vz) O) 2 = (f_X4_readReach N (HP C Mz (k1, g, 1, vz) O) 2).bind fun r => if narrow .boolean (.int r.1) = .int r.1 then some (r.1, r.2) else none := fun Mz k1 vz O => by
    simp only [f_X4_readLine, ↓b_rdC, ↓bnd (q0 Mz k1 vz O), ↓bnd (q1 Mz k1 vz O), f_sides, f_judge, f_bigot, f_turns, f_goes, hw, show b2i false = 0 from rfl, show b2i true = 1 from rfl, t1, ↓reduceIte]
  have hm : ∀ (Cz : ST) (k1 k2 k3 : Nat) (O : Nat → Int64), f_X7_readLine N (HP Cz M (k1, k2, k3, vl) O) 71 (dn bS bT bG) = f_X7_readLine_b52 N 71 (dn bS bT bG) (-1) 0 (HP Cz M (k1, k2, k3, vl) O) := fun Cz k1 k2 k3 O => by
    rw [line_m hK hN, f_judge, f_bigot, f_sides, f_turns, f_goes]
    rfl
  have r3 := is_m (N := N) (vl := vl) hK ws_1000039 (by decide) (by decide) hN
  have L := reach_b (N := N) (vl := vl) hg hK hS (v1 := dn bS bT bG) (v3 := 0) hN
  rw [dn0] at L
  refine LO_of L hc (fun Cz k1 k2 k3 O => (hm Cz k1 k2 k3 O).trans ?_)
  simp only [f_X7_readLine_b52, f_X7_readLine_b73, f_X7_readLine_b84, f_X7_readLine_b103, show ¬ (0 : Int32) = 1 by decide, da0, show (0 : Int32) ≤ 0 by decide, ↓reduceIte, ↓b_rdM, ↓bnd (r3 Cz k1 k2 k3 O), hw, show b2i true = 1 from rfl, t1]
set_option maxHeartbeats 4000000 in
theorem line_judge (hg : gok g) (hK : TK n tx C M p e k) (hS : GS g C M p bS bT bG) (hw : wm tx p e k w_judge = true) (hN : 1000 ≤ N) : LO n tx g vl vl C M p bS bT bG (fun Mz k1 vz O => f_X4_readLine N (HP C Mz (k1, g, 1, vz) O) 2) (fun Cz k1 k2 k3 O => f_X7_readLine N (HP Cz M (k1, k2, k3, vl) O) 71 (dn bS bT bG)) (dn bS bT bG) := by
  have t1 : ¬ (1 : Int32) = 0 := by decide
  obtain rfl := wm_1 hw
  have q0 := isWord_c (N := N) (g := g) hK ws_1000001 (by decide) (by decide) hN
  have q1 := isWord_c (N := N) (g := g) hK ws_1000002 (by decide) (by decide) hN
  have q2 := isWord_c (N := N) (g := g) hK ws_1000003 (by decide) (by decide) hN
  have q3 := isWord_c (N := N) (g := g) hK ws_1000004 (by decide) (by decide) hN
  have q4 := isWord_c (N := N) (g := g) hK ws_1000005 (by decide) (by decide) hN
  have q5 := isWord_c (N := N) (g := g) hK ws_1000016 (by decide) (by decide) hN
  have f_sides : wm tx p e 1 w_sides = false := wm_ne hw (by decide)
  have f_reach : wm tx p e 1 w_reach = false := wm_ne hw (by decide)
  have f_bigot : wm tx p e 1 w_bigot = false := wm_ne hw (by decide)
  have f_turns : wm tx p e 1 w_turns = false := wm_ne hw (by decide)
  have f_goes : wm tx p e 1 w_goes = false := wm_ne hw (by decide)
  have hc : ∀ (Mz : ST) (k1 vz : Nat) (O : Nat → Int64), f_X4_readLine N (HP C Mz (k1, g, 1, vz) O) 2 = (f_X4_readJudge N (HP C Mz (k1, g, 1, vz) O) 2 0).bind fun r => if narrow .boolean (.int r.1) = .int r.1 then some (r.1, r.2) else none := fun Mz k1 vz O => by
    simp only [f_X4_readLine, ↓b_rdC, ↓bnd (q0 Mz k1 vz O), ↓bnd (q1 Mz k1 vz O), ↓bnd (q2 Mz k1 vz O), f_sides, f_reach, f_bigot, f_turns, f_goes, hw, show b2i false = 0 from rfl, show b2i true = 1 from rfl, t1, ↓reduceIte]
  have hm : ∀ (Cz : ST) (k1 k2 k3 : Nat) (O : Nat → Int64), f_X7_readLine N (HP Cz M (k1, k2, k3, vl) O) 71 (dn bS bT bG) = f_X7_readLine_b52 N 71 (dn bS bT bG) 0 0 (HP Cz M (k1, k2, k3, vl) O) := fun Cz k1 k2 k3 O => by
    rw [line_m hK hN, hw, f_bigot, f_sides, f_turns, f_goes]
    rfl
  have L := judge_b (N := N) (vl := vl) hg hK hS (v1 := dn bS bT bG) (v3 := 0) (t := 0) (by decide) hN
  rw [dn0] at L
  refine LO_of L hc (fun Cz k1 k2 k3 O => (hm Cz k1 k2 k3 O).trans ?_)
  simp only [f_X7_readLine_b52, f_X7_readLine_b73, f_X7_readLine_b84, f_X7_readLine_b103, show ¬ (0 : Int32) = 1 by decide, da0, show (0 : Int32) ≤ 0 by decide, show ¬ (0 : Int32) = -1 by decide, ↓reduceIte, ↓b_rdM]
  rfl
set_option maxHeartbeats 4000000 in
theorem line_bigot (hg : gok g) (hK : TK n tx C M p e k) (hS : GS g C M p bS bT bG) (hw : wm tx p e k w_bigot = true) (hN : 1000 ≤ N) : LO n tx g vl vl C M p bS bT bG (fun Mz k1 vz O => f_X4_readLine N (HP C Mz (k1, g, 1, vz) O) 2) (fun Cz k1 k2 k3 O => f_X7_readLine N (HP Cz M (k1, k2, k3, vl) O) 71 (dn bS bT bG)) (dn bS bT bG) := by
  have t1 : ¬ (1 : Int32) = 0 := by decide
  obtain rfl := wm_1 hw
  have q0 := isWord_c (N := N) (g := g) hK ws_1000001 (by decide) (by decide) hN
  have q1 := isWord_c (N := N) (g := g) hK ws_1000002 (by decide) (by decide) hN
  have q2 := isWord_c (N := N) (g := g) hK ws_1000003 (by decide) (by decide) hN
  have q3 := isWord_c (N := N) (g := g) hK ws_1000004 (by decide) (by decide) hN
  have q4 := isWord_c (N := N) (g := g) hK ws_1000005 (by decide) (by decide) hN
  have q5 := isWord_c (N := N) (g := g) hK ws_1000016 (by decide) (by decide) hN
  have f_sides : wm tx p e 1 w_sides = false := wm_ne hw (by decide)
  have f_reach : wm tx p e 1 w_reach = false := wm_ne hw (by decide)
  have f_judge : wm tx p e 1 w_judge = false := wm_ne hw (by decide)
  have f_turns : wm tx p e 1 w_turns = false := wm_ne hw (by decide)
  have f_goes : wm tx p e 1 w_goes = false := wm_ne hw (by decide)
  have hc : ∀ (Mz : ST) (k1 vz : Nat) (O : Nat → Int64), f_X4_readLine N (HP C Mz (k1, g, 1, vz) O) 2 = (f_X4_readJudge N (HP C Mz (k1, g, 1, vz) O) 2 1).bind fun r => if narrow .boolean (.int r.1) = .int r.1 then some (r.1, r.2) else none := fun Mz k1 vz O => by
    simp only [f_X4_readLine, ↓b_rdC, ↓bnd (q0 Mz k1 vz O), ↓bnd (q1 Mz k1 vz O), ↓bnd (q2 Mz k1 vz O), ↓bnd (q3 Mz k1 vz O), f_sides, f_reach, f_judge, f_turns, f_goes, hw, show b2i false = 0 from rfl, show b2i true = 1 from rfl, t1, ↓reduceIte]
  have hm : ∀ (Cz : ST) (k1 k2 k3 : Nat) (O : Nat → Int64), f_X7_readLine N (HP Cz M (k1, k2, k3, vl) O) 71 (dn bS bT bG) = f_X7_readLine_b52 N 71 (dn bS bT bG) 1 0 (HP Cz M (k1, k2, k3, vl) O) := fun Cz k1 k2 k3 O => by
    rw [line_m hK hN, f_judge, hw, f_sides, f_turns, f_goes]
    rfl
  have L := judge_b (N := N) (vl := vl) hg hK hS (v1 := dn bS bT bG) (v3 := 0) (t := 1) (by decide) hN
  rw [dn0] at L
  refine LO_of L hc (fun Cz k1 k2 k3 O => (hm Cz k1 k2 k3 O).trans ?_)
  simp only [f_X7_readLine_b52, f_X7_readLine_b73, f_X7_readLine_b84, f_X7_readLine_b103, show ¬ (0 : Int32) = 1 by decide, da0, show (0 : Int32) ≤ 0 by decide, show ¬ (1 : Int32) = -1 by decide, ↓reduceIte, ↓b_rdM]
  rfl
set_option maxHeartbeats 4000000 in
theorem line_sides (hg : gok g) (hK : TK n tx C M p e k) (hS : GS g C M p bS bT bG) (hw : wm tx p e k w_sides = true) (hN : 1000 ≤ N) : LO n tx g vl vl C M p true bT bG (fun Mz k1 vz O => f_X4_readLine N (HP C Mz (k1, g, 1, vz) O) 2) (fun Cz k1 k2 k3 O => f_X7_readLine N (HP Cz M (k1, k2, k3, vl) O) 71 (dn bS bT bG)) (dn true bT bG) := by
  have t1 : ¬ (1 : Int32) = 0 := by decide
  obtain rfl := wm_1 hw
  have q0 := isWord_c (N := N) (g := g) hK ws_1000001 (by decide) (by decide) hN
  have q1 := isWord_c (N := N) (g := g) hK ws_1000002 (by decide) (by decide) hN
  have q2 := isWord_c (N := N) (g := g) hK ws_1000003 (by decide) (by decide) hN
  have q3 := isWord_c (N := N) (g := g) hK ws_1000004 (by decide) (by decide) hN
  have q4 := isWord_c (N := N) (g := g) hK ws_1000005 (by decide) (by decide) hN
  have q5 := isWord_c (N := N) (g := g) hK ws_1000016 (by decide) (by decide) hN
  have f_reach : wm tx p e 1 w_reach = false := wm_ne hw (by decide)
  have f_judge : wm tx p e 1 w_judge = false := wm_ne hw (by decide)
  have f_bigot : wm tx p e 1 w_bigot = false := wm_ne hw (by decide)
  have f_turns : wm tx p e 1 w_turns = false := wm_ne hw (by decide)
  have f_goes : wm tx p e 1 w_goes = false := wm_ne hw (by decide)
  have hc : ∀ (Mz : ST) (k1 vz : Nat) (O : Nat → Int64), f_X4_readLine N (HP C Mz (k1, g, 1, vz) O) 2 = (f_X4_readSides N (HP C Mz (k1, g, 1, vz) O) 2).bind fun r => if narrow .boolean (.int r.1) = .int r.1 then some (r.1, r.2) else none := fun Mz k1 vz O => by
    simp only [f_X4_readLine, ↓b_rdC, ↓bnd (q0 Mz k1 vz O), f_reach, f_judge, f_bigot, f_turns, f_goes, hw, show b2i false = 0 from rfl, show b2i true = 1 from rfl, t1, ↓reduceIte]
  have hm : ∀ (Cz : ST) (k1 k2 k3 : Nat) (O : Nat → Int64), f_X7_readLine N (HP Cz M (k1, k2, k3, vl) O) 71 (dn bS bT bG) = f_X7_readLine_b52 N 71 (dn bS bT bG) (-1) 1 (HP Cz M (k1, k2, k3, vl) O) := fun Cz k1 k2 k3 O => by
    rw [line_m hK hN, f_judge, f_bigot, hw, f_turns, f_goes]
    rfl
  obtain ⟨j, j8, g2, m7'⟩ := mpos hS
  by_cases hj : j = 0
  · subst hj
    have g2' : C g 2 = 0 := g2
    have m7z : M 75 7 = 0 := m7'
    cases hb : bS with
    | false =>
      rw [hb] at hS hm
      have L := sides_b (N := N) (vl := vl) hg hK hS g2' (v1 := dn false bT bG) (v3 := 1) hN
      rw [dn1] at L
      refine LO_of L hc (fun Cz k1 k2 k3 O => (hm Cz k1 k2 k3 O).trans ?_)
      simp only [f_X7_readLine_b52, f_X7_readLine_b73, f_X7_readLine_b84, da1, show ¬ (1 : Int32) ≤ 0 by decide, ↓reduceIte, ↓b_rdM, ↓b_rlM, m7z, show (0 : Int32) ≤ 0 by decide, hK.2.1]
    | true =>
      rw [hb] at hS hm
      have e11 : C 2 11 = 1 := by
        obtain ⟨s, r, j, s1, _⟩ := hS
        exact s1.2.2.2.2
      have hf := FLT_t (fl := 5) (x := 5) hK (by decide) (by decide) rfl
      refine LO_fl (fl := 5) (x := 5) hK (by decide) (by decide) rfl (fun Mz k1 vz O => (hc Mz k1 vz O).trans ?_) (fun Cz k1 k2 k3 O => (hm Cz k1 k2 k3 O).trans ?_)
      · simp only [f_X4_readSides, ↓b_rdC, ↓b_rG hg, g2', show (0 : Int32) ≤ 0 by decide, e11, t1, ↓reduceIte, ↓bnd (refuse_t (N := N) (g := g) (x := 5) hK Mz k1 vz O), nb0, Option.bind_some]
      · simp only [f_X7_readLine_b52, f_X7_readLine_b73, da1', ↓reduceIte, ↓b_rdM, ↓b_rlM, m7z, show (0 : Int32) ≤ 0 by decide, ↓bnd (wrong_t (N := N) (vl := vl) (x := 5) hK Cz k1 k2 k3 O)]
        rw [b84_d (FLT_ne hf) hN, dn1]
  · have g2' : ¬ C g 2 ≤ 0 := by rw [g2]; exact nI_ge (a := 0) (by omega) (by omega)
    have m7z : ¬ M 75 7 ≤ 0 := by rw [m7']; exact nI_ge (a := 0) (by omega) (by omega)
    have hf := FLT_t (fl := 4) (x := 4) hK (by decide) (by decide) rfl
    refine LO_fl (fl := 4) (x := 4) hK (by decide) (by decide) rfl (fun Mz k1 vz O => (hc Mz k1 vz O).trans ?_) (fun Cz k1 k2 k3 O => (hm Cz k1 k2 k3 O).trans ?_)
    · simp only [f_X4_readSides, ↓b_rdC, ↓b_rG hg, g2', ↓reduceIte, ↓bnd (refuse_t (N := N) (g := g) (x := 4) hK Mz k1 vz O), nb0, Option.bind_some]
    · simp only [f_X7_readLine_b52, ↓reduceIte, ↓b_rdM, ↓b_rlM, m7z, ↓bnd (wrong_t (N := N) (vl := vl) (x := 4) hK Cz k1 k2 k3 O)]
      rw [b73_d (FLT_ne hf) hN, dn1]
theorem has_turns (hK : TK n tx C M p e k) (hS : GS g C M p bS true bG) : ¬ C g 12 ≤ C g 11 := by
  obtain ⟨s, r, j, _, _, _, s4⟩ := hS
  obtain ⟨cl, n1, n2, F1, F2, h10, hcl, ⟨ux, uy, uw, ub⟩, _⟩ := s4
  obtain ⟨f0, u1, u2, u3, _⟩ := ux
  have n1p : 0 < n1 := of_decide_eq_true ub.symm
  rw [u1, u2]
  have := uw.1
  have := TK_p hK
  exact nI_ge (by omega) (by omega)
set_option maxHeartbeats 4000000 in
theorem line_turns (hg : gok g) (hK : TK n tx C M p e k) (hS : GS g C M p bS bT bG) (hw : wm tx p e k w_turns = true) (hN : 1000 ≤ N) : LO n tx g vl (if bT = true then vl else 73) C M p bS true bG (fun Mz k1 vz O => f_X4_readLine N (HP C Mz (k1, g, 1, vz) O) 2) (fun Cz k1 k2 k3 O => f_X7_readLine N (HP Cz M (k1, k2, k3, vl) O) 71 (dn bS bT bG)) (dn bS true bG) := by
  have t1 : ¬ (1 : Int32) = 0 := by decide
  obtain rfl := wm_1 hw
  have q0 := isWord_c (N := N) (g := g) hK ws_1000001 (by decide) (by decide) hN
  have q1 := isWord_c (N := N) (g := g) hK ws_1000002 (by decide) (by decide) hN
  have q2 := isWord_c (N := N) (g := g) hK ws_1000003 (by decide) (by decide) hN
  have q3 := isWord_c (N := N) (g := g) hK ws_1000004 (by decide) (by decide) hN
  have q4 := isWord_c (N := N) (g := g) hK ws_1000005 (by decide) (by decide) hN
  have q5 := isWord_c (N := N) (g := g) hK ws_1000016 (by decide) (by decide) hN
  have f_sides : wm tx p e 1 w_sides = false := wm_ne hw (by decide)
  have f_reach : wm tx p e 1 w_reach = false := wm_ne hw (by decide)
  have f_judge : wm tx p e 1 w_judge = false := wm_ne hw (by decide)
  have f_bigot : wm tx p e 1 w_bigot = false := wm_ne hw (by decide)
  have f_goes : wm tx p e 1 w_goes = false := wm_ne hw (by decide)
  have hc : ∀ (Mz : ST) (k1 vz : Nat) (O : Nat → Int64), f_X4_readLine N (HP C Mz (k1, g, 1, vz) O) 2 = (f_X4_readTurns N (HP C Mz (k1, g, 1, vz) O) 2).bind fun r => if narrow .boolean (.int r.1) = .int r.1 then some (r.1, r.2) else none := fun Mz k1 vz O => by
    simp only [f_X4_readLine, ↓b_rdC, ↓bnd (q0 Mz k1 vz O), ↓bnd (q1 Mz k1 vz O), ↓bnd (q2 Mz k1 vz O), ↓bnd (q3 Mz k1 vz O), ↓bnd (q4 Mz k1 vz O), f_sides, f_reach, f_judge, f_bigot, f_goes, hw, show b2i false = 0 from rfl, show b2i true = 1 from rfl, t1, ↓reduceIte]
  have hm : ∀ (Cz : ST) (k1 k2 k3 : Nat) (O : Nat → Int64), f_X7_readLine N (HP Cz M (k1, k2, k3, vl) O) 71 (dn bS bT bG) = f_X7_readLine_b52 N 71 (dn bS bT bG) (-1) 2 (HP Cz M (k1, k2, k3, vl) O) := fun Cz k1 k2 k3 O => by
    rw [line_m hK hN, f_judge, f_bigot, f_sides, hw, f_goes]
    rfl
  cases hb : bT with
  | false =>
    rw [hb] at hS hm
    have L := turns_b (N := N) (vl := vl) hg hK hS (v1 := dn bS false bG) (v3 := 2) hN
    rw [dn2] at L
    refine LO_of L hc (fun Cz k1 k2 k3 O => (hm Cz k1 k2 k3 O).trans ?_)
    simp only [f_X7_readLine_b52, f_X7_readLine_b73, f_X7_readLine_b84, da2, show ¬ (2 : Int32) ≤ 0 by decide, show ¬ (2 : Int32) = 1 by decide, ↓reduceIte, ↓b_rdM, hK.2.1]
  | true =>
    rw [hb] at hS hm
    have hh := has_turns hK hS
    have hf := FLT_t (fl := 5) (x := 5) hK (by decide) (by decide) rfl
    refine LO_fl (fl := 5) (x := 5) hK (by decide) (by decide) rfl (fun Mz k1 vz O => (hc Mz k1 vz O).trans ?_) (fun Cz k1 k2 k3 O => (hm Cz k1 k2 k3 O).trans ?_)
    · simp only [f_X4_readTurns, f_X1_hasTurns, ↓b_rdC, ↓b_rG hg, hh, t1, ↓reduceIte, ↓bnd (refuse_t (N := N) (g := g) (x := 5) hK Mz k1 vz O), nb0, Option.bind_some]
    · simp only [f_X7_readLine_b52, f_X7_readLine_b73, da2', show ¬ (2 : Int32) = 1 by decide, ↓reduceIte, ↓b_rdM, ↓bnd (wrong_t (N := N) (vl := vl) (x := 5) hK Cz k1 k2 k3 O)]
      rw [b84_d (FLT_ne hf) hN, dn2]
theorem has_goes (hK : TK n tx C M p e k) (hS : GS g C M p bS bT true) : ¬ C g 14 ≤ C g 13 := by
  obtain ⟨s, r, j, _, _, _, s4⟩ := hS
  obtain ⟨cl, n2, n1, F2, F1, h10, hcl, _, ⟨ux, uy, uw, ub⟩⟩ := s4
  obtain ⟨f0, u1, u2, u3, _⟩ := ux
  have n1p : 0 < n1 := of_decide_eq_true ub.symm
  rw [u1, u2]
  have := uw.1
  have := TK_p hK
  exact nI_ge (by omega) (by omega)
set_option maxHeartbeats 4000000 in
theorem line_goes (hg : gok g) (hK : TK n tx C M p e k) (hS : GS g C M p bS bT bG) (hw : wm tx p e k w_goes = true) (hN : 1000 ≤ N) : LO n tx g vl (if bG = true then vl else 74) C M p bS bT true (fun Mz k1 vz O => f_X4_readLine N (HP C Mz (k1, g, 1, vz) O) 2) (fun Cz k1 k2 k3 O => f_X7_readLine N (HP Cz M (k1, k2, k3, vl) O) 71 (dn bS bT bG)) (dn bS bT true) := by
  have t1 : ¬ (1 : Int32) = 0 := by decide
  obtain rfl := wm_1 hw
  have q0 := isWord_c (N := N) (g := g) hK ws_1000001 (by decide) (by decide) hN
  have q1 := isWord_c (N := N) (g := g) hK ws_1000002 (by decide) (by decide) hN
  have q2 := isWord_c (N := N) (g := g) hK ws_1000003 (by decide) (by decide) hN
  have q3 := isWord_c (N := N) (g := g) hK ws_1000004 (by decide) (by decide) hN
  have q4 := isWord_c (N := N) (g := g) hK ws_1000005 (by decide) (by decide) hN
  have q5 := isWord_c (N := N) (g := g) hK ws_1000016 (by decide) (by decide) hN
  have f_sides : wm tx p e 1 w_sides = false := wm_ne hw (by decide)
  have f_reach : wm tx p e 1 w_reach = false := wm_ne hw (by decide)
  have f_judge : wm tx p e 1 w_judge = false := wm_ne hw (by decide)
  have f_bigot : wm tx p e 1 w_bigot = false := wm_ne hw (by decide)
  have f_turns : wm tx p e 1 w_turns = false := wm_ne hw (by decide)
  have hc : ∀ (Mz : ST) (k1 vz : Nat) (O : Nat → Int64), f_X4_readLine N (HP C Mz (k1, g, 1, vz) O) 2 = (f_X4_readGoes N (HP C Mz (k1, g, 1, vz) O) 2).bind fun r => if narrow .boolean (.int r.1) = .int r.1 then some (r.1, r.2) else none := fun Mz k1 vz O => by
    simp only [f_X4_readLine, ↓b_rdC, ↓bnd (q0 Mz k1 vz O), ↓bnd (q1 Mz k1 vz O), ↓bnd (q2 Mz k1 vz O), ↓bnd (q3 Mz k1 vz O), ↓bnd (q4 Mz k1 vz O), ↓bnd (q5 Mz k1 vz O), f_sides, f_reach, f_judge, f_bigot, f_turns, hw, show b2i false = 0 from rfl, show b2i true = 1 from rfl, t1, ↓reduceIte]
  have hm : ∀ (Cz : ST) (k1 k2 k3 : Nat) (O : Nat → Int64), f_X7_readLine N (HP Cz M (k1, k2, k3, vl) O) 71 (dn bS bT bG) = f_X7_readLine_b52 N 71 (dn bS bT bG) (-1) 4 (HP Cz M (k1, k2, k3, vl) O) := fun Cz k1 k2 k3 O => by
    rw [line_m hK hN, f_judge, f_bigot, f_sides, f_turns, hw]
    rfl
  cases hb : bG with
  | false =>
    rw [hb] at hS hm
    have L := goes_b (N := N) (vl := vl) hg hK hS (v1 := dn bS bT false) (v3 := 4) hN
    rw [dn4] at L
    refine LO_of L hc (fun Cz k1 k2 k3 O => (hm Cz k1 k2 k3 O).trans ?_)
    simp only [f_X7_readLine_b52, f_X7_readLine_b73, f_X7_readLine_b84, da4, show ¬ (4 : Int32) ≤ 0 by decide, show ¬ (4 : Int32) = 1 by decide, ↓reduceIte, ↓b_rdM, hK.2.1]
  | true =>
    rw [hb] at hS hm
    have hh := has_goes hK hS
    have hf := FLT_t (fl := 5) (x := 5) hK (by decide) (by decide) rfl
    refine LO_fl (fl := 5) (x := 5) hK (by decide) (by decide) rfl (fun Mz k1 vz O => (hc Mz k1 vz O).trans ?_) (fun Cz k1 k2 k3 O => (hm Cz k1 k2 k3 O).trans ?_)
    · simp only [f_X4_readGoes, f_X1_hasGoes, ↓b_rdC, ↓b_rG hg, hh, t1, ↓reduceIte, ↓bnd (refuse_t (N := N) (g := g) (x := 5) hK Mz k1 vz O), nb0, Option.bind_some]
    · simp only [f_X7_readLine_b52, f_X7_readLine_b73, da4', show ¬ (4 : Int32) = 1 by decide, ↓reduceIte, ↓b_rdM, ↓bnd (wrong_t (N := N) (vl := vl) (x := 5) hK Cz k1 k2 k3 O)]
      rw [b84_d (FLT_ne hf) hN, dn4]
set_option maxHeartbeats 4000000 in
theorem line_none (hK : TK n tx C M p e k) (hw : wm tx p e k w_sides = false ∧ wm tx p e k w_reach = false ∧ wm tx p e k w_judge = false ∧ wm tx p e k w_bigot = false ∧ wm tx p e k w_turns = false ∧ wm tx p e k w_goes = false) (hN : 1000 ≤ N) : LO n tx g vl vl C M p bS bT bG (fun Mz k1 vz O => f_X4_readLine N (HP C Mz (k1, g, 1, vz) O) 2) (fun Cz k1 k2 k3 O => f_X7_readLine N (HP Cz M (k1, k2, k3, vl) O) 71 (dn bS bT bG)) (dn bS bT bG) := by
  obtain ⟨h0, h1, h2, h3, h4, h5⟩ := hw
  have q0 := isWord_c (N := N) (g := g) hK ws_1000001 (by decide) (by decide) hN
  have q1 := isWord_c (N := N) (g := g) hK ws_1000002 (by decide) (by decide) hN
  have q2 := isWord_c (N := N) (g := g) hK ws_1000003 (by decide) (by decide) hN
  have q3 := isWord_c (N := N) (g := g) hK ws_1000004 (by decide) (by decide) hN
  have q4 := isWord_c (N := N) (g := g) hK ws_1000005 (by decide) (by decide) hN
  have q5 := isWord_c (N := N) (g := g) hK ws_1000016 (by decide) (by decide) hN
  have r3 := is_m (N := N) (vl := vl) hK ws_1000039 (by decide) (by decide) hN
  have hf := FLT_t (fl := 1) (x := 1) hK (by decide) (by decide) rfl
  refine LO_fl (fl := 1) (x := 1) hK (by decide) (by decide) rfl (fun Mz k1 vz O => ?_) (fun Cz k1 k2 k3 O => ?_)
  · simp only [f_X4_readLine, ↓b_rdC, ↓bnd (q0 Mz k1 vz O), ↓bnd (q1 Mz k1 vz O), ↓bnd (q2 Mz k1 vz O), ↓bnd (q3 Mz k1 vz O), ↓bnd (q4 Mz k1 vz O), ↓bnd (q5 Mz k1 vz O), h0, h1, h2, h3, h4, h5, show b2i false = 0 from rfl, ↓reduceIte, ↓bnd (refuse_t (N := N) (g := g) (x := 1) hK Mz k1 vz O), nb0]
  · rw [line_m hK hN, h0, h2, h3, h4, h5]
    have Z : f_X7_readLine_b52 N 71 (dn bS bT bG) (-1) 0 (HP Cz M (k1, k2, k3, vl) O) = some (dn bS bT bG, (HP Cz (up (up M 71 24 1) 71 25 (nI p)) (k1, k2, k3, vl) O)) := by
      simp only [f_X7_readLine_b52, f_X7_readLine_b73, f_X7_readLine_b84, f_X7_readLine_b103, show ¬ (0 : Int32) = 1 by decide, da0, show (0 : Int32) ≤ 0 by decide, ↓reduceIte, ↓b_rdM, ↓bnd (r3 Cz k1 k2 k3 O), h1, show b2i false = 0 from rfl, ↓bnd (wrong_t (N := N) (vl := vl) (x := 1) hK Cz k1 k2 k3 O)]
      rw [b138_d (FLT_ne hf), dn0]
    exact Z
theorem line_b (hg : gok g) (hK : TK n tx C M p e k) (hS : GS g C M p bS bT bG) (hN : 1000 ≤ N) : ∃ bS' bT' bG' vl', LO n tx g vl vl' C M p bS' bT' bG' (fun Mz k1 vz O => f_X4_readLine N (HP C Mz (k1, g, 1, vz) O) 2) (fun Cz k1 k2 k3 O => f_X7_readLine N (HP Cz M (k1, k2, k3, vl) O) 71 (dn bS bT bG)) (dn bS' bT' bG') := by
  cases h0 : wm tx p e k w_sides
  · cases h1 : wm tx p e k w_reach
    · cases h2 : wm tx p e k w_judge
      · cases h3 : wm tx p e k w_bigot
        · cases h4 : wm tx p e k w_turns
          · cases h5 : wm tx p e k w_goes
            · exact ⟨_, _, _, _, line_none hK ⟨h0, h1, h2, h3, h4, h5⟩ hN⟩
            · exact ⟨_, _, _, _, line_goes hg hK hS h5 hN⟩
          · exact ⟨_, _, _, _, line_turns hg hK hS h4 hN⟩
        · exact ⟨_, _, _, _, line_bigot hg hK hS h3 hN⟩
      · exact ⟨_, _, _, _, line_judge hg hK hS h2 hN⟩
    · exact ⟨_, _, _, _, line_reach hg hK hS h1 hN⟩
  · exact ⟨_, _, _, _, line_sides hg hK hS h0 hN⟩
end S85
