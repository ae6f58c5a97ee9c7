/-! the reference's rows: pack, unpack; its trials -/
def rowM (M : ST) : Nat → Int32 := fun i => if i = 0 then M 71 34 else if i < 9 then M 87 (i - 1) else if i < 17 then M 88 (i - 9) else if i < 25 then M 89 (i - 17) else if i < 34 then M 90 (i - 25) else M 91 (i - 34)
theorem nI_p8 (n : Nat) : nI n + 8 = nI (n + 8) := nI_add n 8
theorem nI_p9 (n : Nat) : nI n + 9 = nI (n + 9) := nI_add n 9
theorem nI_p16 (n : Nat) : nI n + 16 = nI (n + 16) := nI_add n 16
theorem nI_p24 (n : Nat) : nI n + 24 = nI (n + 24) := nI_add n 24
def pok (pa ln : Nat) : Prop := (pa = 96 ∧ ln = 43) ∨ (pa = 101 ∧ ln = 43) ∨ (pa = 105 ∧ ln = 43) ∨ (pa = 92 ∧ ln = 1720)
section S40
variable {C M M0 M' M'' W T : ST} {K : KT} {O : Nat → Int64} {N : Nat} {G : GT} {b : Bool}
theorem rowM_1 {j : Nat} (h : j < 8) : rowM M (1 + j) = M 87 j := by
  unfold rowM
  rw [if_neg (by omega), if_pos (by omega)]
  exact congrArg _ (by omega)
theorem rowM_9 {j : Nat} (h : j < 8) : rowM M (9 + j) = M 88 j := by
  unfold rowM
  rw [if_neg (by omega), if_neg (by omega), if_pos (by omega)]
  exact congrArg _ (by omega)
theorem rowM_17 {j : Nat} (h : j < 8) : rowM M (17 + j) = M 89 j := by
  unfold rowM
  rw [if_neg (by omega), if_neg (by omega), if_neg (by omega), if_pos (by omega)]
  exact congrArg _ (by omega)
theorem rowM_25 {j : Nat} (h : j < 9) : rowM M (25 + j) = M 90 j := by
  unfold rowM
  rw [if_neg (by omega), if_neg (by omega), if_neg (by omega), if_neg (by omega), if_pos (by omega)]
  exact congrArg _ (by omega)
theorem rowM_34 {j : Nat} (h : j < 9) : rowM M (34 + j) = M 91 j := by
  unfold rowM
  rw [if_neg (by omega), if_neg (by omega), if_neg (by omega), if_neg (by omega), if_neg (by omega)]
  exact congrArg _ (by omega)
theorem pok_r {pa ln : Nat} (hp : pok pa ln) (C M : ST) (K : KT) (O : Nat → Int64) : ∀ j, j < ln → ∀ (β : Type) (k : Int32 → Option β), Option.bind (jal 0 (HP C M K O) pa (nI j)) k = k (M pa j) := by
  intro j hj
  refine bnd ?_
  rcases hp with ⟨rfl, rfl⟩ | ⟨rfl, rfl⟩ | ⟨rfl, rfl⟩ | ⟨rfl, rfl⟩ <;> simp only [raM, hj]
theorem pok_w {pa ln : Nat} (hp : pok pa ln) (C M : ST) (K : KT) (O : Nat → Int64) : ∀ j v, j < ln → ∀ (β : Type) (k : AH → Option β), Option.bind (jas 0 (HP C M K O) pa (nI j) v) k = k (HP C (up M pa j v) K O) := by
  intro j v hj
  refine bnd ?_
  rcases hp with ⟨rfl, rfl⟩ | ⟨rfl, rfl⟩ | ⟨rfl, rfl⟩ | ⟨rfl, rfl⟩ <;> simp only [waM, hj]
theorem pok_l {pa ln : Nat} (hp : pok pa ln) : ln ≤ 1720 := by rcases hp with ⟨rfl, rfl⟩ | ⟨rfl, rfl⟩ | ⟨rfl, rfl⟩ | ⟨rfl, rfl⟩ <;> omega
theorem pok_n {pa ln : Nat} (hp : pok pa ln) : 71 ≠ pa ∧ 87 ≠ pa ∧ 88 ≠ pa ∧ 89 ≠ pa ∧ 90 ≠ pa ∧ 91 ≠ pa := by rcases hp with ⟨rfl, rfl⟩ | ⟨rfl, rfl⟩ | ⟨rfl, rfl⟩ | ⟨rfl, rfl⟩ <;> decide
set_option maxHeartbeats 4000000 in
theorem pack_m {pa ln f : Nat} (hp : pok pa ln) (hf : f + 43 ≤ ln) (hN : 1000 ≤ N) : ∃ M', f_X7_pack N (HP C M K O) 71 pa (nI f) = some (HP C M' K O) ∧ (∀ a, a ≠ pa → M' a = M a) ∧ ∀ i, M' pa i = if f ≤ i ∧ i < f + 43 then rowM M (i - f) else M pa i := by
  obtain ⟨n1, n2, n3, n4, n5, n6⟩ := pok_n hp
  have hl := pok_l hp
  have A := itr_inv (body := fun s : Int32 × AH => f_X7_pack_l9 N 71 pa (nI f) s.1 s.2)
    (fun k s => ∃ M', s = (nI k, HP C M' K O) ∧ (∀ a, a ≠ pa → M' a = M a) ∧ ∀ i, M' pa i = if i = f ∨ (f + 1 ≤ i ∧ i < f + 1 + k) ∨ (f + 9 ≤ i ∧ i < f + 9 + k) ∨ (f + 17 ≤ i ∧ i < f + 17 + k) then rowM M (i - f) else M pa i)
    (P := fun r => ∃ M', r = HP C M' K O ∧ (∀ a, a ≠ pa → M' a = M a) ∧ ∀ i, M' pa i = if f ≤ i ∧ i < f + 25 then rowM M (i - f) else M pa i) (n := 8) ?_ ?_ (s := (0, HP C (up M pa f (M 71 34)) K O)) ⟨_, rfl, fun a ha => up_o ha, fun i => ?_⟩ (N := N) (by omega)
  · obtain ⟨r, A1, M1, e, A2, A3⟩ := A
    rw [e] at A1
    have B := itr_inv (body := fun s : Int32 × AH => f_X7_pack_l68 N 71 pa (nI f) s.1 s.2)
      (fun k s => ∃ M', s = (nI k, HP C M' K O) ∧ (∀ a, a ≠ pa → M' a = M a) ∧ ∀ i, M' pa i = if (f ≤ i ∧ i < f + 25 + k) ∨ (f + 34 ≤ i ∧ i < f + 34 + k) then rowM M (i - f) else M pa i)
      (P := fun r => ∃ M', r = HP C M' K O ∧ (∀ a, a ≠ pa → M' a = M a) ∧ ∀ i, M' pa i = if f ≤ i ∧ i < f + 43 then rowM M (i - f) else M pa i) (n := 9) ?_ ?_ (s := (0, HP C M1 K O)) ⟨M1, rfl, A2, fun i => ?_⟩ (N := N) (by omega)
    · obtain ⟨r2, B1, M2, e2, B2, B3⟩ := B
      rw [e2] at B1
      refine ⟨M2, ?_, B2, B3⟩
      have hfl : f < ln := by omega
      simp only [f_X7_pack, f_X7_pack_b9, f_X7_pack_b68, ↓b_rdM, ↓pok_w hp, hfl, A1, B1, Option.bind_some]
    · rintro k s hk ⟨M3, rfl, h1, h2⟩
      left
      have k1 : f + 1 + 24 + k < ln := by omega
      have k2 : f + 1 + 24 + 9 + k < ln := by omega
      refine ⟨(nI (k + 1), HP C (up (up M3 pa (f + 1 + 24 + k) (M 90 k)) pa (f + 1 + 24 + 9 + k) (M 91 k)) K O), ?_, _, rfl, fun a ha => by rw [up_o ha, up_o ha]; exact h1 a ha, fun i => ?_⟩
      · simp only [f_X7_pack_l68, show ¬ (9 : Int32) ≤ nI k from nI_ge (b := 9) hk (by omega), ↓reduceIte, ↓b_rdM, ↓b_raM, hk, ↓pok_w hp, nI_1, nI_p24, nI_p9, nI_add, k1, k2, h1 90 n5, h1 91 n6, up_o n6]
      · simp only [up_s, upd]
        by_cases q1 : i = f + 1 + 24 + 9 + k
        · subst q1
          rw [if_pos rfl, if_pos (by omega)]
          simp only [rowM]
          rw [if_neg (by omega), if_neg (by omega), if_neg (by omega), if_neg (by omega), if_neg (by omega)]
          congr 1; omega
        · rw [if_neg q1]
          by_cases q2 : i = f + 1 + 24 + k
          · subst q2
            rw [if_pos rfl, if_pos (by omega)]
            simp only [rowM]
            rw [if_neg (by omega), if_neg (by omega), if_neg (by omega), if_neg (by omega), if_pos (by omega)]
            congr 1; omega
          · rw [if_neg q2, h2 i]
            by_cases q3 : (f ≤ i ∧ i < f + 25 + k) ∨ (f + 34 ≤ i ∧ i < f + 34 + k)
            · rw [if_pos q3, if_pos (by omega)]
            · rw [if_neg q3, if_neg (by omega)]
    · rintro s ⟨M3, rfl, h1, h2⟩
      refine ⟨_, ?_, M3, rfl, h1, fun i => ?_⟩
      · simp only [f_X7_pack_l68, show (9 : Int32) ≤ nI 9 by decide, ↓reduceIte]
      · rw [h2 i]
        by_cases q3 : f ≤ i ∧ i < f + 43
        · rw [if_pos q3, if_pos (by omega)]
        · rw [if_neg q3, if_neg (by omega)]
    · rw [A3 i]
      by_cases q3 : f ≤ i ∧ i < f + 25
      · rw [if_pos q3, if_pos (by omega)]
      · rw [if_neg q3, if_neg (by omega)]
  · rintro k s hk ⟨M3, rfl, h1, h2⟩
    left
    have k1 : f + 1 + k < ln := by omega
    have k2 : f + 1 + 8 + k < ln := by omega
    have k3 : f + 1 + 16 + k < ln := by omega
    refine ⟨(nI (k + 1), HP C (up (up (up M3 pa (f + 1 + k) (M 87 k)) pa (f + 1 + 8 + k) (M 88 k)) pa (f + 1 + 16 + k) (M 89 k)) K O), ?_, _, rfl, fun a ha => by rw [up_o ha, up_o ha, up_o ha]; exact h1 a ha, fun i => ?_⟩
    · simp only [f_X7_pack_l9, show ¬ (8 : Int32) ≤ nI k from nI_ge (b := 8) hk (by omega), ↓reduceIte, ↓b_rdM, ↓b_raM, hk, ↓pok_w hp, nI_1, nI_p8, nI_p16, nI_add, k1, k2, k3, h1 87 n2, h1 88 n3, h1 89 n4, up_o n3, up_o n4]
    · simp only [up_s, upd]
      by_cases q1 : i = f + 1 + 16 + k
      · subst q1
        rw [if_pos rfl, if_pos (by omega)]
        simp only [rowM]
        rw [if_neg (by omega), if_neg (by omega), if_neg (by omega), if_pos (by omega)]
        congr 1; omega
      · rw [if_neg q1]
        by_cases q2 : i = f + 1 + 8 + k
        · subst q2
          rw [if_pos rfl, if_pos (by omega)]
          simp only [rowM]
          rw [if_neg (by omega), if_neg (by omega), if_pos (by omega)]
          congr 1; omega
        · rw [if_neg q2]
          by_cases q4 : i = f + 1 + k
          · subst q4
            rw [if_pos rfl, if_pos (by omega)]
            simp only [rowM]
            rw [if_neg (by omega), if_pos (by omega)]
            congr 1; omega
          · rw [if_neg q4, h2 i]
            by_cases q3 : i = f ∨ (f + 1 ≤ i ∧ i < f + 1 + k) ∨ (f + 9 ≤ i ∧ i < f + 9 + k) ∨ (f + 17 ≤ i ∧ i < f + 17 + k)
            · rw [if_pos q3, if_pos (by omega)]
            · rw [if_neg q3, if_neg (by omega)]
  · rintro s ⟨M3, rfl, h1, h2⟩
    refine ⟨_, ?_, M3, rfl, h1, fun i => ?_⟩
    · simp only [f_X7_pack_l9, show (8 : Int32) ≤ nI 8 by decide, ↓reduceIte]
    · rw [h2 i]
      by_cases q3 : f ≤ i ∧ i < f + 25
      · rw [if_pos q3, if_pos (by omega)]
      · rw [if_neg q3, if_neg (by omega)]
  · rw [up_s]
    unfold upd
    by_cases q : i = f
    · subst q
      rw [if_pos rfl, if_pos (by omega), Nat.sub_self]
      rfl
    · rw [if_neg q, if_neg (by omega)]
set_option maxHeartbeats 4000000 in
theorem unpack_m {pa ln f : Nat} (hp : pok pa ln) (hf : f + 43 ≤ ln) (hN : 1000 ≤ N) : ∃ M', f_X7_unpack N (HP C M K O) 71 pa (nI f) = some (HP C M' K O) ∧ (∀ a, a ≠ 71 → a ≠ 87 → a ≠ 88 → a ≠ 89 → a ≠ 90 → a ≠ 91 → M' a = M a) ∧ (∀ k, M' 71 k = if k = 34 then M pa f else M 71 k) ∧ (∀ j, j < 8 → M' 87 j = M pa (f + 1 + j) ∧ M' 88 j = M pa (f + 9 + j) ∧ M' 89 j = M pa (f + 17 + j)) ∧ ∀ r, r < 9 → M' 90 r = M pa (f + 25 + r) ∧ M' 91 r = M pa (f + 34 + r) := by
  obtain ⟨n1, n2, n3, n4, n5, n6⟩ := pok_n hp
  have hl := pok_l hp
  have A := itr_inv (body := fun s : Int32 × AH => f_X7_unpack_l9 N 71 pa (nI f) s.1 s.2)
    (fun k s => ∃ M', s = (nI k, HP C M' K O) ∧ (∀ a, a ≠ 71 → a ≠ 87 → a ≠ 88 → a ≠ 89 → M' a = M a) ∧ (∀ k, M' 71 k = if k = 34 then M pa f else M 71 k) ∧ ∀ j, j < k → M' 87 j = M pa (f + 1 + j) ∧ M' 88 j = M pa (f + 9 + j) ∧ M' 89 j = M pa (f + 17 + j))
    (P := fun r => ∃ M', r = HP C M' K O ∧ (∀ a, a ≠ 71 → a ≠ 87 → a ≠ 88 → a ≠ 89 → M' a = M a) ∧ (∀ k, M' 71 k = if k = 34 then M pa f else M 71 k) ∧ ∀ j, j < 8 → M' 87 j = M pa (f + 1 + j) ∧ M' 88 j = M pa (f + 9 + j) ∧ M' 89 j = M pa (f + 17 + j)) (n := 8) ?_ ?_ (s := (0, HP C (up M 71 34 (M pa f)) K O)) ⟨_, rfl, fun a ha _ _ _ => up_o ha, fun k => by rw [up_s]; rfl, fun j hj => absurd hj (Nat.not_lt_zero j)⟩ (N := N) (by omega)
  · obtain ⟨r, A1, M1, e, A2, A3, A4⟩ := A
    rw [e] at A1
    have B := itr_inv (body := fun s : Int32 × AH => f_X7_unpack_l68 N 71 pa (nI f) s.1 s.2)
      (fun k s => ∃ M', s = (nI k, HP C M' K O) ∧ (∀ a, a ≠ 90 → a ≠ 91 → M' a = M1 a) ∧ ∀ j, j < k → M' 90 j = M pa (f + 25 + j) ∧ M' 91 j = M pa (f + 34 + j))
      (P := fun r => ∃ M', r = HP C M' K O ∧ (∀ a, a ≠ 90 → a ≠ 91 → M' a = M1 a) ∧ ∀ j, j < 9 → M' 90 j = M pa (f + 25 + j) ∧ M' 91 j = M pa (f + 34 + j)) (n := 9) ?_ ?_ (s := (0, HP C M1 K O)) ⟨M1, rfl, fun _ _ _ => rfl, fun j hj => absurd hj (Nat.not_lt_zero j)⟩ (N := N) (by omega)
    · obtain ⟨r2, B1, M2, e2, B2, B3⟩ := B
      rw [e2] at B1
      refine ⟨M2, ?_, fun a x y z w p q => (B2 a p q).trans (A2 a x y z w), fun k => by rw [B2 71 (by decide) (by decide)]; exact A3 k, fun j hj => by rw [B2 87 (by decide) (by decide), B2 88 (by decide) (by decide), B2 89 (by decide) (by decide)]; exact A4 j hj, B3⟩
      have hfl : f < ln := by omega
      simp only [f_X7_unpack, f_X7_unpack_b9, f_X7_unpack_b68, ↓b_wrM, ↓pok_r hp, hfl, A1, B1, Option.bind_some]
    · rintro k s hk ⟨M3, rfl, h1, h2⟩
      left
      have k1 : f + 1 + 24 + k < ln := by omega
      have k2 : f + 1 + 24 + 9 + k < ln := by omega
      have er : ∀ i, M3 pa i = M pa i := fun i => by rw [h1 pa (Ne.symm n5) (Ne.symm n6), A2 pa (Ne.symm n1) (Ne.symm n2) (Ne.symm n3) (Ne.symm n4)]
      refine ⟨(nI (k + 1), HP C (up (up M3 90 k (M pa (f + 1 + 24 + k))) 91 k (M pa (f + 1 + 24 + 9 + k))) K O), ?_, _, rfl, fun a ha hb => by rw [up_o hb, up_o ha]; exact h1 a ha hb, fun j hj => ?_⟩
      · simp only [f_X7_unpack_l68, show ¬ (9 : Int32) ≤ nI k from nI_ge (b := 9) hk (by omega), ↓reduceIte, ↓b_rdM, ↓b_waM, hk, ↓pok_r hp, nI_1, nI_p24, nI_p9, nI_add, k1, k2, er, up_o (Ne.symm n5)]
      · rw [up_o (show (90 : Nat) ≠ 91 by decide), up_s, up_s]
        unfold upd
        by_cases q : j = k
        · subst q
          rw [if_pos rfl, if_pos rfl]
          exact ⟨congrArg _ (by omega), congrArg _ (by omega)⟩
        · rw [if_neg q, if_neg q]
          exact h2 j (by omega)
    · rintro s ⟨M3, rfl, h1, h2⟩
      refine ⟨_, ?_, M3, rfl, h1, h2⟩
      simp only [f_X7_unpack_l68, show (9 : Int32) ≤ nI 9 by decide, ↓reduceIte]
  · rintro k s hk ⟨M3, rfl, h1, h0, h2⟩
    left
    have k1 : f + 1 + k < ln := by omega
    have k2 : f + 1 + 8 + k < ln := by omega
    have k3 : f + 1 + 16 + k < ln := by omega
    have er : ∀ i, M3 pa i = M pa i := fun i => by rw [h1 pa (Ne.symm n1) (Ne.symm n2) (Ne.symm n3) (Ne.symm n4)]
    refine ⟨(nI (k + 1), HP C (up (up (up M3 87 k (M pa (f + 1 + k))) 88 k (M pa (f + 1 + 8 + k))) 89 k (M pa (f + 1 + 16 + k))) K O), ?_, _, rfl, fun a x y z w => by rw [up_o w, up_o z, up_o y]; exact h1 a x y z w, fun i => by rw [up_o (by decide), up_o (by decide), up_o (by decide)]; exact h0 i, fun j hj => ?_⟩
    · simp only [f_X7_unpack_l9, show ¬ (8 : Int32) ≤ nI k from nI_ge (b := 8) hk (by omega), ↓reduceIte, ↓b_rdM, ↓b_waM, hk, ↓pok_r hp, nI_1, nI_p8, nI_p16, nI_add, k1, k2, k3, er, up_o (Ne.symm n2), up_o (Ne.symm n3)]
    · rw [up_o (show (87 : Nat) ≠ 89 by decide), up_o (show (87 : Nat) ≠ 88 by decide), up_o (show (88 : Nat) ≠ 89 by decide), up_s, up_s, up_s]
      unfold upd
      by_cases q : j = k
      · subst q
        rw [if_pos rfl, if_pos rfl, if_pos rfl]
        exact ⟨rfl, congrArg _ (by omega), congrArg _ (by omega)⟩
      · rw [if_neg q, if_neg q, if_neg q]
        exact h2 j (by omega)
  · rintro s ⟨M3, rfl, h1, h2⟩
    refine ⟨_, ?_, M3, rfl, h1, h2⟩
    simp only [f_X7_unpack_l9, show (8 : Int32) ≤ nI 8 by decide, ↓reduceIte]
/-- cells that a query of the reference may leave changed -/
def scr (a : Nat) : Prop := a = 71 ∨ a = 87 ∨ a = 88 ∨ a = 89 ∨ a = 90 ∨ a = 91 ∨ a = 93 ∨ a = 94 ∨ a = 95 ∨ a = 96 ∨ a = 97 ∨ a = 101 ∨ a = 102 ∨ a = 103 ∨ a = 104
def Fz (M M' : ST) : Prop := (∀ a, ¬ scr a → M' a = M a) ∧ ∀ k, k ≠ 4 → k ≠ 34 → k ≠ 40 → k ≠ 49 → k ≠ 51 → M' 71 k = M 71 k
def EQm (M M' : ST) : Prop := Fz M M' ∧ M' 71 34 = M 71 34 ∧ (∀ j, j < 8 → M' 87 j = M 87 j ∧ M' 88 j = M 88 j ∧ M' 89 j = M 89 j) ∧ ∀ r, r < 9 → M' 90 r = M 90 r ∧ M' 91 r = M 91 r
theorem Fz_refl : Fz M M := ⟨fun _ _ => rfl, fun _ _ _ _ _ _ => rfl⟩
theorem Fz_trans (h : Fz M M') (h' : Fz M' M'') : Fz M M'' := ⟨fun a ha => (h'.1 a ha).trans (h.1 a ha), fun k x y z w v => (h'.2 k x y z w v).trans (h.2 k x y z w v)⟩
theorem EQm_refl : EQm M M := ⟨Fz_refl, rfl, fun _ _ => ⟨rfl, rfl, rfl⟩, fun _ _ => ⟨rfl, rfl⟩⟩
theorem EQm_trans (h : EQm M M') (h' : EQm M' M'') : EQm M M'' := ⟨Fz_trans h.1 h'.1, h'.2.1.trans h.2.1, fun j hj => ⟨(h'.2.2.1 j hj).1.trans (h.2.2.1 j hj).1, (h'.2.2.1 j hj).2.1.trans (h.2.2.1 j hj).2.1, (h'.2.2.1 j hj).2.2.trans (h.2.2.1 j hj).2.2⟩, fun r hr => ⟨(h'.2.2.2 r hr).1.trans (h.2.2.2 r hr).1, (h'.2.2.2 r hr).2.trans (h.2.2.2 r hr).2⟩⟩
theorem Fz_FM (h : FM M M') : Fz M M' := ⟨fun a ha => h.1 a (fun q => ha (by unfold stC at q; unfold scr; omega)), fun k _ x y _ _ => h.2 k x y⟩
theorem RGm_Fz (h : RGm M G) (hf : Fz M M') : RGm M' G := by
  unfold RGm
  rw [hf.1 75 (by simp [scr]), hf.1 81 (by simp [scr]), hf.1 78 (by simp [scr]), hf.1 82 (by simp [scr]), hf.1 83 (by simp [scr])]
  exact h
theorem RWm_EQ (hG : okG G) (h : RWm G false M W) (hf : EQm M M') : RWm G false M' W := by
  obtain ⟨h1, h2, h3, h4⟩ := h
  have hJ := hG.2.2.1
  have hR := hG.2.1
  refine ⟨by rw [hf.2.1]; exact h1, fun q => (Bool.noConfusion q), fun j hj => ?_, fun r hr => ?_⟩
  · have q := hf.2.2.1 j (by omega)
    rw [q.1, q.2.1, q.2.2, hf.1.1 85 (by simp [scr])]
    have q2 := h3 j hj
    exact ⟨q2.1, q2.2.1, q2.2.2.1, q2.2.2.2.1, fun q => (Bool.noConfusion q)⟩
  · have q := hf.2.2.2 r (by omega)
    rw [q.1, q.2]
    exact h4 r hr
/-- what the reference's queries lean on -/
def MI (M : ST) (G : GT) (W : ST) : Prop := okG G ∧ RGm M G ∧ RWm G false M W ∧ okW G W
theorem MI_EQ (h : MI M G W) (hf : EQm M M') : MI M' G W := ⟨h.1, RGm_Fz h.2.1 hf.1, RWm_EQ h.1 h.2.2.1 hf, h.2.2.2⟩
/-- a trial of the reference: its waters are T, the row in pa still has those of M -/
def TM (G : GT) (b : Bool) (pa : Nat) (M M' T : ST) : Prop := Fz M M' ∧ (∀ i, i < 43 → M' pa i = rowM M i) ∧ RWm G b M' T ∧ okW G T
theorem TM_step {pa : Nat} (hpa : pa = 96 ∨ pa = 101) (h : MI M0 G W) (hT : TM G b pa M0 M T) (fd : Int32) (hN : 1000 ≤ N) : ∃ M', f_X7_aStepIn N (HP C M K O) 71 fd = some (HP C M' K O) ∧ TM G b pa M0 M' (passV G fd T) ∧ M' 71 4 = M 71 4 ∧ FM M M' := by
  obtain ⟨M', q1, q2, q3⟩ := aStepIn_m (C := C) (K := K) (O := O) h.1 (RGm_Fz h.2.1 hT.1) hT.2.2.1 hT.2.2.2 fd hN
  refine ⟨M', q1, ⟨Fz_trans hT.1 (Fz_FM q3), fun i hi => ?_, q2, okW_pass h.1 hT.2.2.2⟩, q3.2 4 (by decide) (by decide), q3⟩
  rw [q3.1 pa (by rcases hpa with rfl | rfl <;> simp [stC])]
  exact hT.2.1 i hi
set_option maxHeartbeats 4000000 in
theorem TM_goOn {pa : Nat} (hpa : pa = 96 ∨ pa = 101) (h : MI M0 G W) (hT : TM G b pa M0 M T) {n : Nat} (hn : n ≤ 60) (hN : 1000 ≤ N) : ∃ M', f_X7_goOn N (HP C M K O) 71 (nI n) = some (HP C M' K O) ∧ TM G b pa M0 M' (passN G n T) ∧ M' 71 4 = M 71 4 ∧ FM M M' := by
  have q := itr_inv (body := fun s : Int32 × AH => f_X7_goOn_l2 N 71 (nI n) s.1 s.2)
    (fun k s => ∃ M', s = (nI k, HP C M' K O) ∧ TM G b pa M0 M' (passN G k T) ∧ M' 71 4 = M 71 4 ∧ FM M M')
    (P := fun r => ∃ M', r = HP C M' K O ∧ TM G b pa M0 M' (passN G n T) ∧ M' 71 4 = M 71 4 ∧ FM M M') (n := n) ?_ ?_ (s := (0, HP C M K O)) ⟨M, rfl, hT, rfl, FM_refl⟩ (N := N) (by omega)
  · obtain ⟨r, q1, M', e, q2⟩ := q
    rw [e] at q1
    refine ⟨M', ?_, q2⟩
    simp only [f_X7_goOn, f_X7_goOn_b2, q1, Option.bind_some]
  · rintro k s hk ⟨M1, rfl, h1, h2, h3⟩
    left
    obtain ⟨M2, q1, q2, q3, q4⟩ := TM_step (C := C) (K := K) (O := O) hpa h h1 0 hN
    refine ⟨(nI (k + 1), HP C M2 K O), ?_, M2, rfl, q2, q3.trans h2, FM_trans h3 q4⟩
    simp only [f_X7_goOn_l2, nle hk (by omega), ↓reduceIte, ↓b_rdM, ↓bnd q1, nI_1]
  · rintro s ⟨M1, rfl, h1⟩
    refine ⟨_, ?_, M1, rfl, h1⟩
    simp only [f_X7_goOn_l2, yle (Nat.le_refl n) (by omega), ↓reduceIte]
theorem RWm_clr (h : RWm G false M W) : RWm G false M (clr W) := by
  obtain ⟨h1, h2, h3, h4⟩ := h
  exact ⟨h1, fun q => (Bool.noConfusion q), fun j hj => ⟨(h3 j hj).1, (h3 j hj).2.1, (h3 j hj).2.2.1, (h3 j hj).2.2.2.1, fun q => (Bool.noConfusion q)⟩, h4⟩
theorem TM_pack {pa : Nat} (hpa : pa = 96 ∨ pa = 101) (h : MI M G W) (hN : 1000 ≤ N) : ∃ M', f_X7_pack N (HP C M K O) 71 pa 0 = some (HP C M' K O) ∧ TM G false pa M M' (clr W) ∧ (∀ a, a ≠ pa → M' a = M a) := by
  obtain ⟨M', q1, q2, q3⟩ := pack_m (C := C) (M := M) (K := K) (O := O) (N := N) (pa := pa) (ln := 43) (f := 0) (by rcases hpa with rfl | rfl <;> simp [pok]) (by omega) hN
  refine ⟨M', q1, ⟨⟨fun a ha => q2 a (by rintro rfl; exact ha (by rcases hpa with rfl | rfl <;> simp [scr])), fun k _ _ _ _ _ => by rw [q2 71 (by omega)]⟩, fun i hi => ?_, ?_, okW_clr h.2.2.2⟩, q2⟩
  · rw [q3 i, if_pos (by omega), Nat.sub_zero]
  · have hw := RWm_clr h.2.2.1
    unfold RWm at hw ⊢
    rw [q2 71 (by omega), q2 87 (by omega), q2 88 (by omega), q2 89 (by omega), q2 85 (by omega), q2 95 (by omega), q2 90 (by omega), q2 91 (by omega)]
    exact hw
theorem TM_back {pa : Nat} (hpa : pa = 96 ∨ pa = 101) (hT : Fz M0 M ∧ ∀ i, i < 43 → M pa i = rowM M0 i) (hN : 1000 ≤ N) : ∃ M', f_X7_unpack N (HP C M K O) 71 pa 0 = some (HP C M' K O) ∧ EQm M0 M' ∧ (∀ i, i < 43 → M' pa i = rowM M0 i) ∧ (∀ k, k ≠ 34 → M' 71 k = M 71 k) ∧ ∀ a, a ≠ 71 → a ≠ 87 → a ≠ 88 → a ≠ 89 → a ≠ 90 → a ≠ 91 → M' a = M a := by
  obtain ⟨M', q1, q2, q3, q4, q5⟩ := unpack_m (C := C) (M := M) (K := K) (O := O) (N := N) (pa := pa) (ln := 43) (f := 0) (by rcases hpa with rfl | rfl <;> simp [pok]) (by omega) hN
  refine ⟨M', q1, ⟨⟨fun a ha => ?_, fun k a1 a2 a3 a4 a5 => ?_⟩, ?_, fun j hj => ?_, fun r hr => ?_⟩, fun i hi => ?_, fun k hk => ?_, q2⟩
  · rw [q2 a (by rintro rfl; exact ha (by simp [scr])) (by rintro rfl; exact ha (by simp [scr])) (by rintro rfl; exact ha (by simp [scr])) (by rintro rfl; exact ha (by simp [scr])) (by rintro rfl; exact ha (by simp [scr])) (by rintro rfl; exact ha (by simp [scr]))]
    exact hT.1.1 a ha
  · rw [q3 k, if_neg a2]
    exact hT.1.2 k a1 a2 a3 a4 a5
  · rw [q3 34, if_pos rfl, hT.2 0 (by omega)]
    rfl
  · obtain ⟨p1, p2, p3⟩ := q4 j hj
    rw [p1, p2, p3, hT.2 _ (by omega), hT.2 _ (by omega), hT.2 _ (by omega)]
    rw [Nat.zero_add, Nat.zero_add, Nat.zero_add]
    exact ⟨rowM_1 hj, rowM_9 hj, rowM_17 hj⟩
  · obtain ⟨p1, p2⟩ := q5 r hr
    rw [p1, p2, hT.2 _ (by omega), hT.2 _ (by omega), Nat.zero_add, Nat.zero_add]
    exact ⟨rowM_25 hr, rowM_34 hr⟩
  · rw [q2 pa (by omega) (by omega) (by omega) (by omega) (by omega) (by omega)]
    exact hT.2 i hi
  · rw [q3 k, if_neg hk]
end S40
