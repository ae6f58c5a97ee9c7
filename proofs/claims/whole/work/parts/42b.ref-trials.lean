/-! the reference's trials once more, with its code -/
def TQ (G : GT) (b : Bool) (M M' T : ST) : Prop := TM G b 96 (up M 71 4 0) M' T ∧ M' 71 4 = 0
def RQ (M M' : ST) : Prop := EQm M M' ∧ (∀ i, i < 43 → M' 96 i = rowM (up M 71 4 0) i) ∧ M' 71 4 = 0
section S42b
variable {C M M1 W T : ST} {K : KT} {O : Nat → Int64} {N : Nat} {G : GT} {b : Bool}
theorem m0_of (hm : MI M G W) : MI (up M 71 4 0) G W := MI_EQ hm (EQ_code M 0)
theorem TQ_g (hm : MI M G W) (h : TQ G b M M1 T) : RGm M1 G := RGm_Fz (m0_of hm).2.1 h.1.1
theorem TQ_w (h : TQ G b M M1 T) : RWm G b M1 T := h.1.2.2.1
theorem TQ_o (h : TQ G b M M1 T) : okW G T := h.1.2.2.2
theorem TQ_pack (hm : MI M G W) (hN : 1000 ≤ N) : ∃ M', f_X7_pack N (HP C (up M 71 4 0) K O) 71 96 0 = some (HP C M' K O) ∧ TQ G false M M' (clr W) := by
  obtain ⟨M', p1, p2, p3⟩ := TM_pack (C := C) (K := K) (O := O) (.inl rfl) (m0_of hm) hN
  exact ⟨M', p1, p2, by rw [p3 71 (by decide)]; exact code_s M 0⟩
theorem TQ_goOn (hm : MI M G W) (h : TQ G b M M1 T) {n : Nat} (hn : n ≤ 60) (hN : 1000 ≤ N) : ∃ M', f_X7_goOn N (HP C M1 K O) 71 (nI n) = some (HP C M' K O) ∧ TQ G b M M' (passN G n T) := by
  obtain ⟨M', p1, p2, p3, _⟩ := TM_goOn (C := C) (K := K) (O := O) (.inl rfl) (m0_of hm) h.1 hn hN
  exact ⟨M', p1, p2, p3.trans h.2⟩
theorem TQ_one (hm : MI M G W) (h : TQ G b M M1 T) (hN : 1000 ≤ N) : ∃ M', f_X7_goOn N (HP C M1 K O) 71 1 = some (HP C M' K O) ∧ TQ G b M M' (passV G 0 T) := TQ_goOn hm h (n := 1) (by decide) hN
theorem TQ_step (hm : MI M G W) (h : TQ G b M M1 T) (fd : Int32) (hN : 1000 ≤ N) : ∃ M', f_X7_aStepIn N (HP C M1 K O) 71 fd = some (HP C M' K O) ∧ TQ G b M M' (passV G fd T) := by
  obtain ⟨M', p1, p2, p3, _⟩ := TM_step (C := C) (K := K) (O := O) (.inl rfl) (m0_of hm) h.1 fd hN
  exact ⟨M', p1, p2, p3.trans h.2⟩
theorem TQ_back (h : TQ G b M M1 T) (hN : 1000 ≤ N) : ∃ M', f_X7_unpack N (HP C M1 K O) 71 96 0 = some (HP C M' K O) ∧ RQ M M' ∧ M' 95 = M1 95 ∧ M' 71 40 = M1 71 40 := by
  obtain ⟨M', u1, u2, u3, u4, u5⟩ := TM_back (C := C) (K := K) (O := O) (.inl rfl) ⟨h.1.1, h.1.2.1⟩ hN
  exact ⟨M', u1, ⟨EQm_trans (EQ_code M 0) u2, u3, (u4 4 (by decide)).trans h.2⟩, u5 95 (by decide) (by decide) (by decide) (by decide) (by decide) (by decide), u4 40 (by decide)⟩
theorem TQ_again (hm : MI M G W) (h : RQ M M1) : TQ G false M M1 (clr W) := by
  obtain ⟨h1, h2, h3⟩ := h
  have hf := h1.1
  refine ⟨⟨⟨fun a ha => ?_, fun k a1 a2 a3 a4 a5 => ?_⟩, h2, RWm_clr (RWm_EQ hm.1 hm.2.2.1 h1), okW_clr hm.2.2.2⟩, h3⟩
  · rw [hf.1 a ha, up_o (by rintro rfl; exact ha (by simp [scr]))]
  · rw [hf.2 k a1 a2 a3 a4 a5, up_s, upd_o a1]
set_option maxHeartbeats 4000000 in
theorem TQ_new (hm : MI M G W) (h : TQ G false M M1 T) (hN : 1000 ≤ N) : ∃ M', f_X7_beginAnew N (HP C M1 K O) 71 = some (HP C M' K O) ∧ TQ G true M M' (clr T) := by
  have q := itr_inv (body := fun s : Int32 × AH => f_X7_beginAnew_l2 N 71 s.1 s.2)
    (fun k s => ∃ M', s = (nI k, HP C M' K O) ∧ (∀ x, x ≠ 95 → M' x = M1 x) ∧ ∀ j, j < k → M' 95 j = 0)
    (P := fun r => ∃ M', r = HP C M' K O ∧ (∀ x, x ≠ 95 → M' x = M1 x) ∧ ∀ j, j < 8 → M' 95 j = 0) (n := 8) ?_ ?_ (s := (0, HP C M1 K O)) ⟨M1, rfl, fun _ _ => rfl, fun j hj => absurd hj (Nat.not_lt_zero j)⟩ (N := N) (by omega)
  · obtain ⟨r, q1, M2, e, q2, q3⟩ := q
    rw [e] at q1
    refine ⟨up M2 71 40 0, ?_, ⟨⟨fun a ha => ?_, fun k a1 a2 a3 a4 a5 => ?_⟩, fun i hi => ?_, ?_, okW_clr h.1.2.2.2⟩, ?_⟩
    · simp only [f_X7_beginAnew, f_X7_beginAnew_b2, q1, Option.bind_some, ↓b_wrM]
    · rw [up_o (by rintro rfl; exact ha (by simp [scr])), q2 a (by rintro rfl; exact ha (by simp [scr]))]
      exact h.1.1.1 a ha
    · rw [up_s, upd_o a3, q2 71 (by decide)]
      exact h.1.1.2 k a1 a2 a3 a4 a5
    · rw [up_o (by decide), q2 96 (by decide)]
      exact h.1.2.1 i hi
    · obtain ⟨w1, w2, w3, w4⟩ := h.1.2.2.1
      have hJ := hm.1.2.2.1
      refine ⟨?_, fun _ => ?_, fun j hj => ?_, fun r hr => ?_⟩
      · rw [up_s, upd_o (by decide), q2 71 (by decide)]; exact w1
      · exact ⟨by rw [up_s, upd_s]; rfl, fun j hj => by rw [up_o (by decide)]; exact q3 j hj⟩
      · rw [up_o (by decide), up_o (by decide), up_o (by decide), up_o (by decide), up_o (by decide), q2 87 (by decide), q2 88 (by decide), q2 89 (by decide), q2 85 (by decide)]
        have := w3 j hj
        exact ⟨this.1, this.2.1, this.2.2.1, this.2.2.2.1, fun _ => q3 j (by omega)⟩
      · rw [up_o (by decide), up_o (by decide), q2 90 (by decide), q2 91 (by decide)]
        exact w4 r hr
    · rw [up_s, upd_o (by decide), q2 71 (by decide)]
      exact h.2
  · rintro k s hk ⟨M2, rfl, h1, h2⟩
    left
    refine ⟨(nI (k + 1), HP C (up M2 95 k 0) K O), ?_, _, rfl, fun x hx => (up_o hx).trans (h1 x hx), fun j hj => ?_⟩
    · simp only [f_X7_beginAnew_l2, show ¬ (8 : Int32) ≤ nI k from nI_ge (b := 8) hk (by omega), ↓reduceIte, ↓b_rdM, ↓b_waM, hk, nI_1]
    · rw [up_s]; unfold upd; split
      · rfl
      · exact h2 j (by omega)
  · rintro s ⟨M2, rfl, h1, h2⟩
    refine ⟨_, ?_, M2, rfl, h1, h2⟩
    simp only [f_X7_beginAnew_l2, show (8 : Int32) ≤ nI 8 by decide, ↓reduceIte]
end S42b
