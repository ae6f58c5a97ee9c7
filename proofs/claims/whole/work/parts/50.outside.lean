/-! trials once more, with what lies outside the waters -/
def TX (G : GT) (C0 B C T : ST) : Prop := TC G C0 C T ∧ ∀ a, 64 < a → C a = B a
def TY (G : GT) (b : Bool) (M B M' T : ST) : Prop := TQ G b M M' T ∧ ∀ a, ¬ stC a → a ≠ 90 → M' a = B a
section S50
variable {C C0 B M M1 W T : ST} {K : KT} {O : Nat → Int64} {N : Nat} {G : GT} {b : Bool}
theorem TX_pass (h : CI K C0 G W) (hT : TX G C0 B C T) (fd : Int32) (hN : 1000 ≤ N) : ∃ C', f_X5_pass N (HP C M K O) 54 K.1 fd = some (HP C' M K O) ∧ TX G C0 B C' (passV G fd T) := by
  have hc := CI_of h hT.1.1
  obtain ⟨C', q1, q2, q3⟩ := pass_c (M := M) (K := K) (O := O) hc.1 w54 hc.2.1 hc.2.2.1 hT.1.2.1 hT.1.2.2 fd hN
  exact ⟨C', q1, ⟨fun a ha => (q3 a (by omega)).trans (hT.1.1 a ha), q2, okW_pass hc.2.1 hT.1.2.2⟩, fun a ha => (q3 a (by omega)).trans (hT.2 a ha)⟩
set_option maxHeartbeats 4000000 in
theorem TX_goOn (h : CI K C0 G W) (hT : TX G C0 B C T) {n : Nat} (hn : n ≤ 60) (hN : 1000 ≤ N) : ∃ C', f_X6_goOnTrying N (HP C M K O) 0 (nI n) = some (HP C' M K O) ∧ TX G C0 B C' (passN G n T) := by
  have q := itr_inv (body := fun s : Int32 × AH => f_X6_goOnTrying_l2 N 0 (nI n) s.1 s.2)
    (fun k s => ∃ C', s = (nI k, HP C' M K O) ∧ TX G C0 B C' (passN G k T))
    (P := fun r => ∃ C', r = HP C' M K O ∧ TX G C0 B C' (passN G n T)) (n := n) ?_ ?_ (s := (0, HP C M K O)) ⟨C, rfl, hT⟩ (N := N) (by omega)
  · obtain ⟨r, q1, C', e, q2⟩ := q
    rw [e] at q1
    refine ⟨C', ?_, q2⟩
    simp only [f_X6_goOnTrying, f_X6_goOnTrying_b2, q1, Option.bind_some]
  · rintro k s hk ⟨C1, rfl, h1⟩
    left
    obtain ⟨C2, q1, q2⟩ := TX_pass (M := M) (O := O) h h1 0 hN
    refine ⟨(nI (k + 1), HP C2 M K O), ?_, C2, rfl, q2⟩
    simp only [f_X6_goOnTrying_l2, nle hk (by omega), ↓reduceIte, ↓b_rdC, ↓bnd q1, nI_1]
  · rintro s ⟨C1, rfl, h1⟩
    refine ⟨_, ?_, C1, rfl, h1⟩
    simp only [f_X6_goOnTrying_l2, yle (Nat.le_refl n) (by omega), ↓reduceIte]
set_option maxHeartbeats 4000000 in
theorem TX_try (h : CI K C0 G W) (hf : ∀ a, a < 54 → C a = C0 a) (hN : 1000 ≤ N) : ∃ C', f_X6_tryFromNow N (HP C M K O) 0 = some (HP C' M K O) ∧ TX G C0 C C' (clr W) := by
  have hc := CI_of h hf
  obtain ⟨C1, q1, q2, q3⟩ := copyFrom_c (M := M) (K := K) (O := O) w54 w21 (by decide) hc.2.1 hc.2.2.2.1 hN
  refine ⟨C1, ?_, ⟨fun a ha => (q2 a (by omega)).trans (hf a ha), q3, okW_clr hc.2.2.2.2⟩, fun a ha => q2 a (by omega)⟩
  simp only [f_X6_tryFromNow, ↓b_rdC, ↓bnd q1]
theorem TX_up {i j : Nat} {v : Int32} (hT : TX G C0 B C T) (h1 : 1 ≤ i) (h7 : i ≤ 7) (ok : okW G (up T i j v)) : TX G C0 B (up C (54 + i) j v) (up T i j v) := ⟨TC_up hT.1 h1 h7 ok, fun a ha => by rw [up_o (by omega)]; exact hT.2 a ha⟩
theorem TY_pack (hm : MI M G W) (hN : 1000 ≤ N) : ∃ M', f_X7_pack N (HP C (up M 71 4 0) K O) 71 96 0 = some (HP C M' K O) ∧ TQ G false M M' (clr W) ∧ ∀ a, a ≠ 96 → M' a = up M 71 4 0 a := by
  obtain ⟨M', p1, p2, p3⟩ := TM_pack (C := C) (K := K) (O := O) (.inl rfl) (m0_of hm) hN
  exact ⟨M', p1, ⟨p2, by rw [p3 71 (by decide)]; exact code_s M 0⟩, p3⟩
theorem TY_goOn (hm : MI M G W) (h : TY G b M B M1 T) {n : Nat} (hn : n ≤ 60) (hN : 1000 ≤ N) : ∃ M', f_X7_goOn N (HP C M1 K O) 71 (nI n) = some (HP C M' K O) ∧ TY G b M B M' (passN G n T) := by
  obtain ⟨M', p1, p2, p3, p4⟩ := TM_goOn (C := C) (K := K) (O := O) (.inl rfl) (m0_of hm) h.1.1 hn hN
  exact ⟨M', p1, ⟨p2, p3.trans h.1.2⟩, fun a x y => (p4.1 a x).trans (h.2 a x y)⟩
theorem TY_back (h : TY G b M B M1 T) (hN : 1000 ≤ N) : ∃ M', f_X7_unpack N (HP C M1 K O) 71 96 0 = some (HP C M' K O) ∧ RQ M M' ∧ ∀ a, ¬ stC a → a ≠ 90 → M' a = B a := by
  obtain ⟨M', u1, u2, u3, u4, u5⟩ := TM_back (C := C) (K := K) (O := O) (.inl rfl) ⟨h.1.1.1, h.1.1.2.1⟩ hN
  refine ⟨M', u1, ⟨EQm_trans (EQ_code M 0) u2, u3, (u4 4 (by decide)).trans h.1.2⟩, fun a x y => ?_⟩
  rw [u5 a (by rintro rfl; exact x (by simp [stC])) (by rintro rfl; exact x (by simp [stC])) (by rintro rfl; exact x (by simp [stC])) (by rintro rfl; exact x (by simp [stC])) y (by rintro rfl; exact x (by simp [stC]))]
  exact h.2 a x y
theorem TY_up {c i j : Nat} {v : Int32} (h : TY G b M B M1 T) (hc : c = 88 ∨ c = 91) (hw : RWm G b (up M1 c j v) (up T i j v)) (ok : okW G (up T i j v)) : TY G b M B (up M1 c j v) (up T i j v) := by
  refine ⟨TQ_up h.1 hc hw ok, fun a x y => ?_⟩
  rw [up_o (by rintro rfl; exact x (by rcases hc with rfl | rfl <;> simp [stC]))]
  exact h.2 a x y
theorem TQ_scr {c j : Nat} {v : Int32} (h : TQ G b M M1 T) (hc : c = 102 ∨ c = 103 ∨ c = 104) : TQ G b M (up M1 c j v) T := by
  refine ⟨⟨⟨fun a ha => ?_, fun k a1 a2 a3 a4 a5 => ?_⟩, fun q hq => ?_, ?_, h.1.2.2.2⟩, ?_⟩
  · rw [up_o (by rintro rfl; exact ha (by rcases hc with rfl | rfl | rfl <;> simp [scr]))]; exact h.1.1.1 a ha
  · rw [up_o (by omega)]; exact h.1.1.2 k a1 a2 a3 a4 a5
  · rw [up_o (by omega)]; exact h.1.2.1 q hq
  · have hw := h.1.2.2.1
    unfold RWm at hw ⊢
    rw [up_o (by omega), up_o (by omega), up_o (by omega), up_o (by omega), up_o (by omega), up_o (by omega), up_o (by omega), up_o (by omega)]
    exact hw
  · rw [up_o (by omega)]; exact h.2
end S50
