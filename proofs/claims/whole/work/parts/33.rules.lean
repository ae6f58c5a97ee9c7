/-! rules: the class's code and the reference's signs; both are worked out alike -/
def bin2 (s c : Int32) : Prop := (s = -20 ∧ c = 2) ∨ (s = -21 ∧ c = 3) ∨ (s = -22 ∧ c = 4) ∨ (s = -23 ∧ c = 5) ∨ (s = -24 ∧ c = 6) ∨ (s = -25 ∧ c = 7) ∨ (s = -26 ∧ c = 8) ∨ (s = -27 ∧ c = 9)
def Ins (c s : Int32) (d d' : Nat) : Prop :=
  (∃ v, v ≤ 9999 ∧ s = nI v ∧ c = nI (16 * v) ∧ d' = d + 1 ∧ d < 48) ∨ (∃ v, v < 6 ∧ s = -1 - nI v ∧ c = nI (16 * v + 1) ∧ d' = d + 1 ∧ d < 48) ∨
  (s = -28 ∧ c = 10 ∧ 1 ≤ d ∧ d ≤ 48 ∧ d' = d) ∨ (bin2 s c ∧ 2 ≤ d ∧ d ≤ 48 ∧ d' = d - 1)
def RU (c : Nat → Int32) (fr to : Int32) (sg : Nat → Int32) (sz : Int32) : Prop :=
  ∃ (F n : Nat) (d : Nat → Nat), fr = nI F ∧ to = nI (F + n) ∧ sz = nI n ∧ F + n ≤ 700 ∧ d 0 = 0 ∧ (0 < n → d n = 1) ∧ ∀ k, k < n → Ins (c (F + k)) (sg k) (d k) (d (k + 1))
/-- what an operator makes of two numbers, by the class's sign -/
def cmb (o a b : Int32) : Int32 :=
  if o = 2 then a + b else if o = 3 then a - b else if o = 4 then a * b else if o = 5 then (if b = 0 then 0 else a / b) else if o = 6 then (if b ≤ a then 0 else 1) else if o = 7 then (if a = b then 1 else 0) else if o = 8 then (if a = 0 then 0 else if b = 0 then 0 else 1) else (if a = 0 then (if b = 0 then 0 else 1) else 1)
theorem combine_c {N : Nat} {h : AH} {s o : Int32} (hb : bin2 s o) (a b : Int32) : f_X2_combine N h o a b = some (cmb o a b, h) := by
  rcases hb with ⟨rfl, rfl⟩ | ⟨rfl, rfl⟩ | ⟨rfl, rfl⟩ | ⟨rfl, rfl⟩ | ⟨rfl, rfl⟩ | ⟨rfl, rfl⟩ | ⟨rfl, rfl⟩ | ⟨rfl, rfl⟩ <;>
    simp (decide := true) only [f_X2_combine, f_X2_combine_b102, f_X2_combine_b112, cmb, if_true, if_false] <;>
    (repeat' split) <;> first | rfl | contradiction
theorem reckon_m {N : Nat} {h : AH} {s o : Int32} (hb : bin2 s o) (a b : Int32) : f_X7_reckon N h s a b = some (cmb o a b, h) := by
  rcases hb with ⟨rfl, rfl⟩ | ⟨rfl, rfl⟩ | ⟨rfl, rfl⟩ | ⟨rfl, rfl⟩ | ⟨rfl, rfl⟩ | ⟨rfl, rfl⟩ | ⟨rfl, rfl⟩ | ⟨rfl, rfl⟩ <;>
    simp (decide := true) only [f_X7_reckon, f_X7_reckon_b102, f_X7_reckon_b112, cmb, if_true, if_false] <;>
    (repeat' split) <;> first | rfl | contradiction
theorem div16 {v r : Nat} (hv : v ≤ 20000) (hr : r < 16) : nI (16 * v + r) / 16 = nI v := by
  apply Int32.toInt_inj.mp
  rw [Int32.toInt_div_of_ne_right _ _ (by decide), nI_toInt (by omega), nI_toInt (by omega), show (16 : Int32).toInt = 16 by decide]
  rw [Int.tdiv_eq_ediv_of_nonneg (by omega)]
  omega
theorem rem16 {v r : Nat} (hv : v ≤ 20000) (hr : r < 16) : nI (16 * v + r) - nI (16 * v + r) / 16 * 16 = nI r := by
  rw [div16 hv hr, show nI v * 16 = nI (16 * v) by rw [show (16 : Int32) = nI 16 from rfl]; unfold nI; rw [← Int32.ofNat_mul, Nat.mul_comm], ← nI_add]
  rw [Int32.add_comm, Int32.add_sub_cancel]
section S33
variable {K : KT} {O : Nat → Int64} {N wa g : Nat}
theorem upd_s {f : Nat → Int32} {k : Nat} {v : Int32} : upd f k v k = v := by simp [upd]
theorem upd_o {f : Nat → Int32} {k j : Nat} {v : Int32} (h : j ≠ k) : upd f k v j = f j := by simp [upd, h]
theorem up_s {C : ST} {a j : Nat} {v : Int32} : up C a j v a = upd (C a) j v := by simp [up]
theorem up_o {C : ST} {a b j : Nat} {v : Int32} (h : b ≠ a) : up C a j v b = C b := by simp [up, h]
theorem nI_m1 (n : Nat) : nI (n + 1) + -1 = nI n := by
  rw [← nI_pred n, Int32.sub_eq_add_neg]
  rfl
set_option maxHeartbeats 8000000 in
/-- a rule is worked out alike -/
theorem rule_two {C M : ST} (hg : g = 4 ∨ g = 12) (hw : wa = 21 ∨ wa = 54) {sa : Nat} (hsa : sa = 82 ∨ sa = 83) {fr to sz : Int32} (hR : RU (C (g + 7)) fr to (M sa) sz) (hn : ¬ sz ≤ 0) (hv : ∀ k, k < 6 → C (wa + 9) k = M 93 k) (hN : 1000 ≤ N) :
    ∃ (v : Int32) (C' M' : ST), (∀ M, f_X2_result N (HP C M K O) (wa + 8) (g + 7) fr to = some (v, HP C' M K O)) ∧ (∀ C, f_X7_valueNow N (HP C M K O) 71 sa sz = some (v, HP C M' K O)) ∧ (∀ a, a ≠ wa + 10 → C' a = C a) ∧ (∀ a, a ≠ 94 → M' a = M a) := by
  obtain ⟨F, n, d, rfl, rfl, rfl, hF, d0, dn, hI⟩ := hR
  have hn0 : 0 < n := by
    rcases Nat.eq_zero_or_pos n with h | h
    · subst h; exact absurd (by decide) hn
    · exact h
  have h2 := itr_two (b1 := fun s : Int32 × Int32 × AH => f_X2_result_l10 N (wa + 8) (g + 7) (nI (F + n)) s.1 s.2.1 s.2.2) (b2 := fun s : Int32 × Int32 × AH => f_X7_valueNow_l5 N 71 sa (nI n) s.1 s.2.1 s.2.2)
    (fun (t : Nat × ST) (a : ST) => (nI (d t.1), nI (F + t.1), HP t.2 a K O)) (fun (t : Nat × ST) (a : ST) => (nI (d t.1), nI t.1, HP a t.2 K O))
    (fun (r : ST) (a : ST) => Sum.inr (Sum.inr (Sum.inr (nI 1, HP r a K O)))) (fun (r : ST) (a : ST) => HP a r K O)
    (fun k t t' => k = t.1 ∧ k = t'.1 ∧ (∀ i, i < d k → t.2 (wa + 10) i = t'.2 94 i) ∧ (∀ a, a ≠ wa + 10 → t.2 a = C a) ∧ (∀ a, a ≠ 94 → t'.2 a = M a))
    (P := fun r r' => r (wa + 10) 0 = r' 94 0 ∧ (∀ a, a ≠ wa + 10 → r a = C a) ∧ (∀ a, a ≠ 94 → r' a = M a)) (n := n) ?_ ?_ (t := (0, C)) (t' := (0, M)) ⟨rfl, rfl, fun i hi => by rw [d0] at hi; omega, fun _ _ => rfl, fun _ _ => rfl⟩ (N := N) (by omega)
  · obtain ⟨C', M', h3, h4, h5, h6, h7⟩ := h2
    refine ⟨C' (wa + 10) 0, C', M', fun M1 => ?_, fun C1 => ?_, h6, h7⟩
    · have h3 := h3 M1
      simp only [Nat.add_zero, d0] at h3
      unfold f_X2_result f_X2_result_b10
      rw [show jmx (nI F) 0 = nI F by unfold jmx; rw [if_neg (nI_pos (by omega))]]
      rw [show (0 : Int32) = nI 0 from rfl, h3]
      rcases hw with rfl | rfl <;> simp only [Option.bind_some, Sum.elim_inr, f_X2_result_b184, Nat.reduceAdd, rdC, rlC, show ¬ nI 1 ≤ 0 by decide, if_false]
    · have h4 := h4 C1
      simp only [d0] at h4
      unfold f_X7_valueNow f_X7_valueNow_b5
      rw [show (0 : Int32) = nI 0 from rfl, h4]
      simp only [Option.bind_some, rdM, show nI 0 = 0 from rfl, rlM, h5]
  · rintro k ⟨k1, C1⟩ ⟨k2, M1⟩ hk ⟨e1, e2, hst, hC, hM⟩
    simp only at e1 e2 hst hC hM ⊢
    subst e1
    subst e2
    left
    have hcode : C1 (g + 7) (F + k) = C (g + 7) (F + k) := congrFun (hC _ (by rcases hg with rfl | rfl <;> rcases hw with rfl | rfl <;> decide)) _
    have hval : C1 (wa + 9) = C (wa + 9) := hC _ (by omega)
    have hsg : M1 sa k = M sa k := congrFun (hM _ (by rcases hsa with rfl | rfl <;> decide)) _
    have hask : M1 93 = M 93 := hM _ (by decide)
    have hF7 : F + k < 700 := by omega
    have hk14 : k < 1400 := by omega
    have g1 := nle (show F + k < F + n by omega) (by omega)
    have g2 := nle (show F + k < 700 by omega) (by omega)
    have g3 := nle hk (by omega)
    rcases hI k hk with ⟨v, hv9, es, ec, ed, hd⟩ | ⟨v, hv6, es, ec, ed, hd⟩ | ⟨es, ec, hd, hd2, ed⟩ | ⟨hb, hd, hd2, ed⟩
    · refine ⟨(k + 1, up C1 (wa + 10) (d k) (nI v)), (k + 1, up M1 94 (d k) (nI v)), fun a => ?_, fun a => ?_, rfl, rfl, ?_, ?_, ?_⟩
      · have q1 := rem16 (v := v) (r := 0) (by omega) (by omega)
        have q2 := div16 (v := v) (r := 0) (by omega) (by omega)
        simp only [Nat.add_zero] at q1 q2
        have q3 : nI (d k) < nI 48 := nI_lt hd (by omega)
        have q4 : d k < 48 := hd
        rw [ed]
        rcases hg with rfl | rfl <;> rcases hw with rfl | rfl <;> rcases hsa with rfl | rfl <;>
          simp only [f_X2_result_l10, f_X2_result_b52, f_X2_result_b86, f_X2_result_b178, Nat.reduceAdd, Nat.add_assoc, lnH, rdC, raC, waC, Option.bind_some, g1, g2, hF7, if_false, if_true, hcode, ec, q1, q2, q3, q4, show nI 0 = 0 from rfl, nI_1] at hcode ⊢ <;> simp only [hcode, ec, q1, q2, if_true, Option.bind_some, f_X2_result_b52, f_X2_result_b86, f_X2_result_b178, Nat.reduceAdd, lnH, rdC, raC, waC, q3, q4, show nI 0 = 0 from rfl, nI_1, Nat.add_assoc]
      · sorry
      · sorry
      · sorry
      · sorry
    · sorry
    · sorry
    · sorry
  · rintro ⟨k1, C1⟩ ⟨k2, M1⟩ ⟨e1, e2, hst, hC, hM⟩
    simp only at e1 e2 hst hC hM ⊢
    subst e1
    subst e2
    refine ⟨C1, M1, fun N a h3 => ?_, fun N a h3 => ?_, hst 0 (by rw [dn hn0]; decide), hC, hM⟩
    · obtain ⟨N, rfl⟩ : ∃ q, N = q + 1 := ⟨N - 1, by omega⟩
      refine itr_r ?_ N
      simp only [f_X2_result_l10, yle (Nat.le_refl (F + n)) (by omega), if_true, dn hn0]
    · obtain ⟨N, rfl⟩ : ∃ q, N = q + 1 := ⟨N - 1, by omega⟩
      refine itr_r ?_ N
      simp only [f_X7_valueNow_l5, yle (Nat.le_refl n) (by omega), if_true]
end S33
