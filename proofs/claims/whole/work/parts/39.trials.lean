/-! trying: the class's trial waters; the reference's row -/
def clr (W : ST) : ST := fun a => if a = 5 then (fun _ => 0) else if a = 0 then (fun k => if k = 0 then W 0 0 else 0) else W a
def passN (G : GT) : Nat → ST → ST
  | 0, W => W
  | k + 1, W => passV G 0 (passN G k W)
section S39
variable {C C0 C' M M' M'' W T : ST} {K : KT} {O : Nat → Int64} {N wa wb g : Nat} {G : GT} {b : Bool}
theorem okW_clr (h : okW G W) : okW G (clr W) := by
  unfold okW at h ⊢
  simpa only [clr, show ¬ 1 = 5 by decide, show ¬ 1 = 0 by decide, show ¬ 2 = 5 by decide, show ¬ 2 = 0 by decide, show ¬ 3 = 5 by decide, show ¬ 3 = 0 by decide, show ¬ 4 = 5 by decide, show ¬ 4 = 0 by decide, show ¬ 6 = 5 by decide, show ¬ 6 = 0 by decide, show ¬ 7 = 5 by decide, show ¬ 7 = 0 by decide, if_false] using h
theorem okW_passN (hG : okG G) (h : okW G W) : ∀ n, okW G (passN G n W)
  | 0 => h
  | n + 1 => okW_pass hG (okW_passN hG h n)
theorem cpS {a d sp dp n j : Nat} : cps C a sp d dp n d j = if dp ≤ j ∧ j < dp + n then C a (sp + (j - dp)) else C d j := by
  simp only [cps, if_true, va_cpy]
theorem cpO {a d sp dp n x : Nat} (h : x ≠ d) : cps C a sp d dp n x = C x := by
  simp only [cps, h, if_false]
theorem cp8 {a d : Nat} (h1 : (ckA 0 a 8 && decide (a < 71)) = true) (h2 : (ckA 0 d 8 && decide (d < 71)) = true) (h5 : a ≠ d) : jcp (HP C M K O) a 0 d 0 8 = some (HP (cps C a 0 d 0 8) M K O) := by
  have q := hCp (C := C) (M := M) (K := K) (O := O) (sp := 0) (dp := 0) (n := 8) h1 h2 (by decide) (by decide) h5
  rw [show nI 0 = 0 from rfl, show nI 8 = 8 from rfl] at q
  exact q
theorem cp9 {a d : Nat} (h1 : (ckA 0 a 9 && decide (a < 71)) = true) (h2 : (ckA 0 d 9 && decide (d < 71)) = true) (h5 : a ≠ d) : jcp (HP C M K O) a 0 d 0 9 = some (HP (cps C a 0 d 0 9) M K O) := by
  have q := hCp (C := C) (M := M) (K := K) (O := O) (sp := 0) (dp := 0) (n := 9) h1 h2 (by decide) (by decide) h5
  rw [show nI 0 = 0 from rfl, show nI 9 = 9 from rfl] at q
  exact q
theorem ck8 (hw : wok wa) {i : Nat} (h1 : 1 ≤ i) (h5 : i ≤ 5) : (ckA 0 (wa + i) 8 && decide (wa + i < 71)) = true := by
  rcases hw with rfl | rfl | rfl <;> rcases (show i = 1 ∨ i = 2 ∨ i = 3 ∨ i = 4 ∨ i = 5 by omega) with rfl | rfl | rfl | rfl | rfl <;> decide
theorem ck9 (hw : wok wa) {i : Nat} (h1 : 6 ≤ i) (h5 : i ≤ 7) : (ckA 0 (wa + i) 9 && decide (wa + i < 71)) = true := by
  rcases hw with rfl | rfl | rfl <;> rcases (show i = 6 ∨ i = 7 by omega) with rfl | rfl <;> decide
theorem cpW (hw : wok wa) (hb : wok wb) (hn : wa ≠ wb) (C M : ST) (K : KT) (O : Nat → Int64) : (∀ (β : Type) (k : AH → Option β), Option.bind (jcp (HP C M K O) (wb + 1) 0 (wa + 1) 0 8) k = k (HP (cps C (wb + 1) 0 (wa + 1) 0 8) M K O)) ∧ (∀ (β : Type) (k : AH → Option β), Option.bind (jcp (HP C M K O) (wb + 2) 0 (wa + 2) 0 8) k = k (HP (cps C (wb + 2) 0 (wa + 2) 0 8) M K O)) ∧ (∀ (β : Type) (k : AH → Option β), Option.bind (jcp (HP C M K O) (wb + 3) 0 (wa + 3) 0 8) k = k (HP (cps C (wb + 3) 0 (wa + 3) 0 8) M K O)) ∧ (∀ (β : Type) (k : AH → Option β), Option.bind (jcp (HP C M K O) (wb + 4) 0 (wa + 4) 0 8) k = k (HP (cps C (wb + 4) 0 (wa + 4) 0 8) M K O)) ∧ (∀ (β : Type) (k : AH → Option β), Option.bind (jcp (HP C M K O) (wb + 6) 0 (wa + 6) 0 9) k = k (HP (cps C (wb + 6) 0 (wa + 6) 0 9) M K O)) ∧ ∀ (β : Type) (k : AH → Option β), Option.bind (jcp (HP C M K O) (wb + 7) 0 (wa + 7) 0 9) k = k (HP (cps C (wb + 7) 0 (wa + 7) 0 9) M K O) := by
  have h8 : ∀ i, 1 ≤ i → i ≤ 5 → ∀ (β : Type) (k : AH → Option β), Option.bind (jcp (HP C M K O) (wb + i) 0 (wa + i) 0 8) k = k (HP (cps C (wb + i) 0 (wa + i) 0 8) M K O) := fun i x y => bnd (cp8 (ck8 hb x y) (ck8 hw x y) (by omega))
  have h9 : ∀ i, 6 ≤ i → i ≤ 7 → ∀ (β : Type) (k : AH → Option β), Option.bind (jcp (HP C M K O) (wb + i) 0 (wa + i) 0 9) k = k (HP (cps C (wb + i) 0 (wa + i) 0 9) M K O) := fun i x y => bnd (cp9 (ck9 hb x y) (ck9 hw x y) (by omega))
  exact ⟨h8 1 (by omega) (by omega), h8 2 (by omega) (by omega), h8 3 (by omega) (by omega), h8 4 (by omega) (by omega), h9 6 (by omega) (by omega), h9 7 (by omega) (by omega)⟩
theorem fill_c {a n : Nat} {v : Int32} (hl : ∀ C, jln 0 (HP C M K O) a = some (nI n)) (hs : ∀ C j v, j < n → jas 0 (HP C M K O) a (nI j) v = some (HP (up C a j v) M K O)) (hn : n ≤ 900) (hN : 1000 ≤ N) : ∃ C', f_J7_fill_53178 N (HP C M K O) a v = some (HP C' M K O) ∧ (∀ x, x ≠ a → C' x = C x) ∧ ∀ j, j < n → C' a j = v := by
  have q := itr_inv (body := fun s : Int32 × AH => f_J7_fill_53178_l5 N a v (nI n) s.1 s.2)
    (fun k s => ∃ C', s = (nI k, HP C' M K O) ∧ (∀ x, x ≠ a → C' x = C x) ∧ ∀ j, j < k → C' a j = v)
    (P := fun r => ∃ C', r = HP C' M K O ∧ (∀ x, x ≠ a → C' x = C x) ∧ ∀ j, j < n → C' a j = v) (n := n) ?_ ?_ (s := (0, HP C M K O)) ⟨C, rfl, fun _ _ => rfl, fun j hj => absurd hj (Nat.not_lt_zero j)⟩ (N := N) (by omega)
  · obtain ⟨r, q1, C', e, q2⟩ := q
    rw [e] at q1
    refine ⟨C', ?_, q2⟩
    simp only [f_J7_fill_53178, f_J7_fill_53178_b5, ↓bnd (hl C), q1, Option.bind_some]
  · rintro k s hk ⟨C1, rfl, h1, h2⟩
    left
    refine ⟨(nI (k + 1), HP (up C1 a k v) M K O), ?_, _, rfl, fun x hx => (up_o hx).trans (h1 x hx), fun j hj => ?_⟩
    · simp only [f_J7_fill_53178_l5, nle hk (by omega), ↓reduceIte, ↓bnd (hs C1 k v hk), nI_1]
    · rw [up_s]; unfold upd; split
      · rfl
      · exact h2 j (by omega)
  · rintro s ⟨C1, rfl, h1, h2⟩
    refine ⟨_, ?_, C1, rfl, h1, h2⟩
    simp only [f_J7_fill_53178_l5, yle (Nat.le_refl n) (by omega), ↓reduceIte]
set_option maxHeartbeats 4000000 in
theorem copyFrom_c (hw : wok wa) (hb : wok wb) (hn : wa ≠ wb) (hG : okG G) (hW : RW G wb C W) (hN : 1000 ≤ N) : ∃ C', f_X5_copyFrom N (HP C M K O) wa wb = some (HP C' M K O) ∧ FR wa C C' ∧ RW G wa C' (clr W) := by
  have hsep : ∀ i i', i ≤ 10 → i' ≤ 10 → wb + i ≠ wa + i' := by
    rcases hw with rfl | rfl | rfl <;> rcases hb with rfl | rfl | rfl <;> intro i i' h1 h2 <;> omega
  have hJ := hG.2.2.1
  have hR := hG.2.1
  obtain ⟨C', f1, f2, f3⟩ := fill_c (K := K) (O := O) (M := M) (N := N) (C := cps (cps (cps (cps (cps (cps (up C wa 0 (C wb 0)) (wb + 1) 0 (wa + 1) 0 8) (wb + 2) 0 (wa + 2) 0 8) (wb + 3) 0 (wa + 3) 0 8) (wb + 4) 0 (wa + 4) 0 8) (wb + 6) 0 (wa + 6) 0 9) (wb + 7) 0 (wa + 7) 0 9) (a := wa + 5) (n := 8) (v := 0) (fun C => by rcases hw with rfl | rfl | rfl <;> simp only [lnH, Nat.reduceAdd]) (fun C j v hj => (wWa hw C M K O).2.2.2.2.1 j v hj) (by omega) hN
  have ev : ∀ x, x ≠ wa + 5 → C' x = cps (cps (cps (cps (cps (cps (up C wa 0 (C wb 0)) (wb + 1) 0 (wa + 1) 0 8) (wb + 2) 0 (wa + 2) 0 8) (wb + 3) 0 (wa + 3) 0 8) (wb + 4) 0 (wa + 4) 0 8) (wb + 6) 0 (wa + 6) 0 9) (wb + 7) 0 (wa + 7) 0 9 x := f2
  refine ⟨C', ?_, ?_, ?_⟩
  · simp only [f_X5_copyFrom, ↓b_rW hw, ↓b_rW hb, ↓cpW hw hb hn, ↓bnd f1]
  · intro a ha
    rw [ev a (by omega), cpO (by omega), cpO (by omega), cpO (by omega), cpO (by omega), cpO (by omega), cpO (by omega), up_o (by omega)]
  · have s0 : ∀ i, i ≤ 10 → (i = 0 ∨ 1 ≤ i) → up C wa 0 (C wb 0) (wb + i) = C (wb + i) := fun i hi _ => up_o (hsep i 0 hi (by omega))
    refine ⟨?_, fun i j h1 h5 hj => ?_, fun r hr => ⟨?_, ?_⟩⟩
    · rw [ev wa (by omega), cpO (by omega), cpO (by omega), cpO (by omega), cpO (by omega), cpO (by omega), cpO (by omega), up_s, upd_s, hW.1]
      rfl
    · have hj8 : 0 ≤ j ∧ j < 0 + 8 := by omega
      have e := hW.2.1 i j h1 h5 hj
      rcases (show i = 1 ∨ i = 2 ∨ i = 3 ∨ i = 4 ∨ i = 5 by omega) with rfl | rfl | rfl | rfl | rfl
      · rw [ev _ (by omega), cpO (by omega), cpO (by omega), cpO (by omega), cpO (by omega), cpO (by omega), cpS, if_pos hj8, s0 _ (by omega) (by omega)]
        rw [Nat.zero_add, Nat.sub_zero]
        exact e
      · rw [ev _ (by omega), cpO (by omega), cpO (by omega), cpO (by omega), cpO (by omega), cpS, if_pos hj8, cpO (hsep 2 1 (by omega) (by omega)), s0 _ (by omega) (by omega)]
        rw [Nat.zero_add, Nat.sub_zero]
        exact e
      · rw [ev _ (by omega), cpO (by omega), cpO (by omega), cpO (by omega), cpS, if_pos hj8, cpO (hsep 3 2 (by omega) (by omega)), cpO (hsep 3 1 (by omega) (by omega)), s0 _ (by omega) (by omega)]
        rw [Nat.zero_add, Nat.sub_zero]
        exact e
      · rw [ev _ (by omega), cpO (by omega), cpO (by omega), cpS, if_pos hj8, cpO (hsep 4 3 (by omega) (by omega)), cpO (hsep 4 2 (by omega) (by omega)), cpO (hsep 4 1 (by omega) (by omega)), s0 _ (by omega) (by omega)]
        rw [Nat.zero_add, Nat.sub_zero]
        exact e
      · rw [f3 j (by omega)]; rfl
    · have hr9 : 0 ≤ r ∧ r < 0 + 9 := by omega
      rw [ev _ (by omega), cpO (by omega), cpS, if_pos hr9, cpO (hsep 6 4 (by omega) (by omega)), cpO (hsep 6 3 (by omega) (by omega)), cpO (hsep 6 2 (by omega) (by omega)), cpO (hsep 6 1 (by omega) (by omega)), s0 _ (by omega) (by omega)]
      rw [Nat.zero_add, Nat.sub_zero]
      exact (hW.2.2 r hr).1
    · have hr9 : 0 ≤ r ∧ r < 0 + 9 := by omega
      rw [ev _ (by omega), cpS, if_pos hr9, cpO (hsep 7 6 (by omega) (by omega)), cpO (hsep 7 4 (by omega) (by omega)), cpO (hsep 7 3 (by omega) (by omega)), cpO (hsep 7 2 (by omega) (by omega)), cpO (hsep 7 1 (by omega) (by omega)), s0 _ (by omega) (by omega)]
      rw [Nat.zero_add, Nat.sub_zero]
      exact (hW.2.2 r hr).2
/-- what the class's queries lean on -/
def CI (K : KT) (C : ST) (G : GT) (W : ST) : Prop := gok K.1 ∧ okG G ∧ RG K.1 C G ∧ RW G 21 C W ∧ okW G W
/-- the trial waters hold T, all below is as it was -/
def TC (G : GT) (C0 C T : ST) : Prop := (∀ a, a < 54 → C a = C0 a) ∧ RW G 54 C T ∧ okW G T
theorem CI_of (h : CI K C0 G W) (hf : ∀ a, a < 54 → C a = C0 a) : CI K C G W := by
  obtain ⟨h1, h2, h3, h4, h5⟩ := h
  refine ⟨h1, h2, ?_, ?_, h5⟩
  · have e : ∀ i, i ≤ 7 → C (K.1 + i) = C0 (K.1 + i) := fun i hi => hf _ (by rcases h1 with e | e <;> rw [e] <;> omega)
    have e0 : C K.1 = C0 K.1 := e 0 (by omega)
    unfold RG
    rw [e0, e 4 (by omega), e 5 (by omega), e 6 (by omega), e 7 (by omega)]
    exact h3
  · unfold RW
    rw [hf 21 (by omega), hf (21 + 6) (by omega), hf (21 + 7) (by omega)]
    refine ⟨h4.1, fun i j x y z => ?_, h4.2.2⟩
    rw [hf _ (by omega)]
    exact h4.2.1 i j x y z
theorem w54 : wok 54 := .inr (.inr rfl)
theorem w21 : wok 21 := .inl rfl
theorem TC_pass (h : CI K C0 G W) (hT : TC G C0 C T) (fd : Int32) (hN : 1000 ≤ N) : ∃ C', f_X5_pass N (HP C M K O) 54 K.1 fd = some (HP C' M K O) ∧ TC G C0 C' (passV G fd T) := by
  have hc := CI_of h hT.1
  obtain ⟨C', q1, q2, q3⟩ := pass_c (M := M) (K := K) (O := O) hc.1 w54 hc.2.1 hc.2.2.1 hT.2.1 hT.2.2 fd hN
  exact ⟨C', q1, fun a ha => (q3 a (by omega)).trans (hT.1 a ha), q2, okW_pass hc.2.1 hT.2.2⟩
set_option maxHeartbeats 4000000 in
theorem TC_goOn (h : CI K C0 G W) (hT : TC G C0 C T) {n : Nat} (hn : n ≤ 60) (hN : 1000 ≤ N) : ∃ C', f_X6_goOnTrying N (HP C M K O) 0 (nI n) = some (HP C' M K O) ∧ TC G C0 C' (passN G n T) := by
  have q := itr_inv (body := fun s : Int32 × AH => f_X6_goOnTrying_l2 N 0 (nI n) s.1 s.2)
    (fun k s => ∃ C', s = (nI k, HP C' M K O) ∧ TC G C0 C' (passN G k T))
    (P := fun r => ∃ C', r = HP C' M K O ∧ TC G C0 C' (passN G n T)) (n := n) ?_ ?_ (s := (0, HP C M K O)) ⟨C, rfl, hT⟩ (N := N) (by omega)
  · obtain ⟨r, q1, C', e, q2⟩ := q
    rw [e] at q1
    refine ⟨C', ?_, q2⟩
    simp only [f_X6_goOnTrying, f_X6_goOnTrying_b2, q1, Option.bind_some]
  · rintro k s hk ⟨C1, rfl, h1⟩
    left
    obtain ⟨C2, q1, q2⟩ := TC_pass (M := M) (O := O) h h1 0 hN
    refine ⟨(nI (k + 1), HP C2 M K O), ?_, C2, rfl, q2⟩
    simp only [f_X6_goOnTrying_l2, nle hk (by omega), ↓reduceIte, ↓b_rdC, ↓bnd q1, nI_1]
  · rintro s ⟨C1, rfl, h1⟩
    refine ⟨_, ?_, C1, rfl, h1⟩
    simp only [f_X6_goOnTrying_l2, yle (Nat.le_refl n) (by omega), ↓reduceIte]
set_option maxHeartbeats 4000000 in
theorem now_c (h : CI K C0 G W) (hf : ∀ a, a < 54 → C a = C0 a) (hN : 1000 ≤ N) : ∃ C', f_X6_tryFromNow N (HP C M K O) 0 = some (HP C' M K O) ∧ TC G C0 C' (clr W) := by
  have hc := CI_of h hf
  obtain ⟨C1, q1, q2, q3⟩ := copyFrom_c (M := M) (K := K) (O := O) w54 w21 (by decide) hc.2.1 hc.2.2.2.1 hN
  refine ⟨C1, ?_, fun a ha => (q2 a (by omega)).trans (hf a ha), q3, okW_clr hc.2.2.2.2⟩
  simp only [f_X6_tryFromNow, ↓b_rdC, ↓bnd q1]
set_option maxHeartbeats 4000000 in
theorem tryFor_c (h : CI K C0 G W) (hf : ∀ a, a < 54 → C a = C0 a) {n : Nat} (hn : n ≤ 60) (hN : 1000 ≤ N) : ∃ C', f_X6_tryFor N (HP C M K O) 0 (nI n) = some (HP C' M K O) ∧ TC G C0 C' (passN G n (clr W)) := by
  obtain ⟨C1, q1, t1⟩ := now_c (M := M) (O := O) h hf hN
  obtain ⟨C2, q4, q5⟩ := TC_goOn (M := M) (O := O) h t1 hn hN
  refine ⟨C2, ?_, q5⟩
  simp only [f_X6_tryFor, ↓b_rdC, ↓bnd q1, ↓bnd q4]
end S39
