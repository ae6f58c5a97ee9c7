/-! years -/
def bfA (G : GT) (s : Int32) (T : ST) : Int32 × ST := if drn (stir s) % 6 = 2 ∧ 0 < gRn G then (stir (stir (stir s)), up T 7 (drn (stir (stir s)) % gRn G) (nI (drn (stir (stir (stir s))) % 8))) else (stir s, T)
def bfB (G : GT) (kd : Nat) (c : Int32) (X : ST) : Int32 × ST := if 1 < kd ∨ gJ G = 0 then (c, X) else if kd = 0 then (stir c, if X 1 (drn (stir c) % gJ G) < 0 then X else goV G X (drn (stir c) % gJ G) (nI 1)) else (stir (stir c), if X 1 (drn (stir c) % gJ G) = -2 then X else up X 2 (drn (stir c) % gJ G) (nI (drn (stir (stir c)) % gsd G)))
def bf (G : GT) (s : Int32) (T : ST) : Int32 × ST := bfB G (drn (stir s) % 6) (bfA G s T).1 (bfA G s T).2
section S55
variable {C C0 B M M1 W W0 T X : ST} {K : KT} {O : Nat → Int64} {N : Nat} {G : GT} {b : Bool} {s c : Int32}
theorem pos_of (ok : okW G X) {j : Nat} (hj : j < gJ G) (h : ¬ X 1 j < 0) : ∃ r, r < gRn G ∧ X 1 j = nI r := by
  rcases (ok.1 j hj).1 with q | q | q
  · rw [q] at h; exact absurd (by decide) h
  · rw [q] at h; exact absurd (by decide) h
  · exact q
theorem bfA_ok (ok : okW G T) : okW G (bfA G s T).2 := by
  unfold bfA
  split
  · exact okW_sp ok (Nat.mod_lt _ (by decide))
  · exact ok
theorem bfA_LD (h : LD G W0 T) : LD G W0 (bfA G s T).2 := by
  unfold bfA
  split
  · simp only
    exact LD_congr h (by rw [up_o (by decide)]) (by rw [up_o (by decide)]) fun _ _ => by rw [up_o (by decide)]
  · exact h
theorem bfB_ok {kd : Nat} (hG : okG G) (ok : okW G X) : okW G (bfB G kd c X).2 := by
  unfold bfB
  split
  · exact ok
  · rename_i z
    have hJ : 0 < gJ G := by omega
    have hj := Nat.mod_lt (drn (stir c)) hJ
    split
    · simp only
      split
      · exact ok
      · rename_i y
        exact okW_go hG ok hj (by decide) (.inr (pos_of ok hj y))
    · simp only
      split
      · exact ok
      · exact okW_fc ok (Nat.mod_lt _ (by have := hG.1; omega))
theorem bfB_LD {kd : Nat} (hG : okG G) (ok : okW G X) (h : LD G W0 X) : LD G W0 (bfB G kd c X).2 := by
  unfold bfB
  split
  · exact h
  · rename_i z
    have hJ : 0 < gJ G := by omega
    have hj := Nat.mod_lt (drn (stir c)) hJ
    split
    · simp only
      split
      · exact h
      · rename_i y
        exact LD_go hG h hj (by decide) (.inr (pos_of ok hj y))
    · simp only
      split
      · exact h
      · exact LD_congr h (by rw [up_o (by decide)]) (by rw [up_o (by decide)]) fun _ _ => by rw [up_o (by decide)]
theorem stir_c {h : AH} {s : Int32} : f_X6_stir N h s = some (stir s, h) := rfl
set_option maxHeartbeats 4000000 in
theorem bfB_c (hc : CI K C0 G W) (hT : TC G C0 C X) {kd : Nat} (hk : kd < 6) : ∃ C', f_X6_befall_b66 N 0 c (nI kd) (HP C M K O) = some ((bfB G kd c X).1, HP C' M K O) ∧ TC G C0 C' (bfB G kd c X).2 := by
  have hc1 := CI_of hc hT.1
  have hJ8 := hc.2.1.2.2.1
  have hs8 := hc.2.1.1
  have okB := bfB_ok (c := c) (kd := kd) hc.2.1 hT.2.2
  by_cases z1 : 1 < kd
  · have e : bfB G kd c X = (c, X) := by unfold bfB; rw [if_pos (.inl z1)]
    rw [e]
    refine ⟨C, ?_, hT⟩
    simp only [f_X6_befall_b66, show (1 : Int32) < nI kd from nI_lt (a := 1) z1 (by omega), ↓reduceIte]
  · have n1 : ¬ (1 : Int32) < nI kd := nI_nlt (b := kd) (a := 1) (by omega) (by decide)
    by_cases z2 : gJ G = 0
    · have e : bfB G kd c X = (c, X) := by unfold bfB; rw [if_pos (.inr z2)]
      rw [e]
      refine ⟨C, ?_, hT⟩
      have e2 := hc1.2.2.1.2.2.1
      rw [z2] at e2
      simp only [f_X6_befall_b66, n1, ↓reduceIte, ↓b_rdC, ↓b_rG hc.1, e2, show nI 0 = 0 from rfl]
    · have hJ : 0 < gJ G := by omega
      have hj := Nat.mod_lt (drn (stir c)) hJ
      have hj8 : drn (stir c) % gJ G < 8 := by omega
      have n2 : ¬ nI (gJ G) = 0 := nI_ne0 hJ (by omega)
      have e1 := hT.2.1.2.1 1 _ (by omega) (by omega) hj
      by_cases z3 : kd = 0
      · subst z3
        have e : bfB G 0 c X = (stir c, if X 1 (drn (stir c) % gJ G) < 0 then X else goV G X (drn (stir c) % gJ G) (nI 1)) := by
          unfold bfB; rw [if_neg (by omega), if_pos rfl]
        rw [e] at okB ⊢
        by_cases z4 : X 1 (drn (stir c) % gJ G) < 0
        · rw [if_pos z4]
          refine ⟨C, ?_, hT⟩
          simp only [f_X6_befall_b66, n1, ↓reduceIte, ↓b_rdC, ↓b_rG hc.1, hc1.2.2.1.2.2.1, n2, ↓bnd stir_c, ↓bnd (draw_c rfl hJ (by omega)), show nI 0 = 0 from rfl, show ¬ (1 : Int32) < 0 by decide, ↓b_rW w54, f_X5_goOn, ↓b_rWa w54, hj8, e1, z4, Option.bind_some]
        · rw [if_neg z4]
          obtain ⟨C1, g1, T1⟩ := TC_go (N := N) (M := M) (O := O) (y := 1) hc hT hj (by decide) (pos_of hT.2.2 hj z4)
          rw [show nI 1 = 1 from rfl] at g1
          refine ⟨C1, ?_, T1⟩
          simp only [f_X6_befall_b66, n1, ↓reduceIte, ↓b_rdC, ↓b_rG hc.1, hc1.2.2.1.2.2.1, n2, ↓bnd stir_c, ↓bnd (draw_c rfl hJ (by omega)), show nI 0 = 0 from rfl, show ¬ (1 : Int32) < 0 by decide, ↓b_rW w54, ↓bnd g1]
      · have e : bfB G kd c X = (stir (stir c), if X 1 (drn (stir c) % gJ G) = -2 then X else up X 2 (drn (stir c) % gJ G) (nI (drn (stir (stir c)) % gsd G))) := by
          unfold bfB; rw [if_neg (by omega), if_neg z3]
        rw [e] at okB ⊢
        have n3 : ¬ nI kd = 0 := nI_ne0 (by omega) (by omega)
        by_cases z4 : X 1 (drn (stir c) % gJ G) = -2
        · rw [if_pos z4]
          refine ⟨C, ?_, hT⟩
          simp only [f_X6_befall_b66, n1, ↓reduceIte, ↓b_rdC, ↓b_rG hc.1, hc1.2.2.1.2.2.1, n2, ↓bnd stir_c, ↓bnd (draw_c rfl hJ (by omega)), n3, ↓b_rW w54, ↓b_rWa w54, hj8, e1, z4]
        · simp only [z4, ↓reduceIte] at okB ⊢
          refine ⟨_, ?_, TC_up (i := 2) hT (by omega) (by omega) okB⟩
          simp only [f_X6_befall_b66, n1, ↓reduceIte, ↓b_rdC, ↓b_rG hc.1, hc1.2.2.1.2.2.1, hc1.2.2.1.1, n2, ↓bnd stir_c, ↓bnd (draw_c rfl hJ (by omega)), ↓bnd (draw_c rfl (show 0 < gsd G by omega) (by omega)), n3, ↓b_rW w54, ↓b_rWa w54, ↓b_wWa w54, hj8, e1, z4]
set_option maxHeartbeats 4000000 in
theorem befall_c (hc : CI K C0 G W) (hT : TC G C0 C T) : ∃ C', f_X6_befall N (HP C M K O) 0 s = some ((bf G s T).1, HP C' M K O) ∧ TC G C0 C' (bf G s T).2 := by
  have hc1 := CI_of hc hT.1
  have hR9 := hc.2.1.2.1
  have hk : drn (stir s) % 6 < 6 := Nat.mod_lt _ (by decide)
  have d6 := fun h : AH => draw_c (N := N) (h := h) (s := stir s) (n := 6) (x := 6) rfl (by decide) (by decide)
  have okA := bfA_ok (s := s) hT.2.2
  unfold bf
  by_cases z1 : drn (stir s) % 6 = 2
  · by_cases z2 : 0 < gRn G
    · have e : bfA G s T = (stir (stir (stir s)), up T 7 (drn (stir (stir s)) % gRn G) (nI (drn (stir (stir (stir s))) % 8))) := by unfold bfA; rw [if_pos ⟨z1, z2⟩]
      rw [e] at okA ⊢
      have hr := Nat.mod_lt (drn (stir (stir s))) z2
      have r9 : drn (stir (stir s)) % gRn G < 9 := by omega
      obtain ⟨C1, q1, q2⟩ := bfB_c (N := N) (M := M) (O := O) (c := stir (stir (stir s))) hc (TC_up (i := 7) hT (by omega) (by omega) okA) hk
      refine ⟨C1, ?_, q2⟩
      have n1 : ¬ nI (gRn G) ≤ 0 := nI_ge (a := 0) z2 (by omega)
      have d8 := fun h : AH => draw_c (N := N) (h := h) (s := stir (stir (stir s))) (n := 8) (x := 8) rfl (by decide) (by decide)
      simp only [f_X6_befall, ↓bnd stir_c, ↓bnd (d6 _), z1, show nI 2 = 2 from rfl, ↓reduceIte, ↓b_rdC, ↓b_rG hc.1, hc1.2.2.1.2.1, n1, ↓bnd (draw_c rfl z2 hR9), ↓b_rW w54, ↓bnd (d8 _), ↓b_wWa w54, r9] at q1 ⊢
      exact q1
    · have e : bfA G s T = (stir s, T) := by unfold bfA; rw [if_neg (fun q => z2 q.2)]
      rw [e]
      obtain ⟨C1, q1, q2⟩ := bfB_c (N := N) (M := M) (O := O) (c := stir s) hc hT hk
      refine ⟨C1, ?_, q2⟩
      have e2 := hc1.2.2.1.2.1
      rw [show gRn G = 0 by omega] at e2
      simp only [f_X6_befall, ↓bnd stir_c, ↓bnd (d6 _), z1, show nI 2 = 2 from rfl, ↓reduceIte, ↓b_rdC, ↓b_rG hc.1, e2, show nI 0 ≤ 0 by decide] at q1 ⊢
      exact q1
  · have e : bfA G s T = (stir s, T) := by unfold bfA; rw [if_neg (fun q => z1 q.1)]
    rw [e]
    obtain ⟨C1, q1, q2⟩ := bfB_c (N := N) (M := M) (O := O) (c := stir s) hc hT hk
    refine ⟨C1, ?_, q2⟩
    have n1 : ¬ nI (drn (stir s) % 6) = 2 := by
      rw [show (2 : Int32) = nI 2 from rfl, eq_nI (by omega) (by decide)]
      exact z1
    simp only [f_X6_befall, ↓bnd stir_c, ↓bnd (d6 _), n1, ↓reduceIte]
    exact q1
/-! the reference -/
theorem TQ_51 (h : TQ G b M M1 T) (v : Int32) : TQ G b M (up M1 71 51 v) T := by
  refine ⟨⟨⟨fun a ha => ?_, fun k a1 a2 a3 a4 a5 => ?_⟩, fun q hq => ?_, ?_, h.1.2.2.2⟩, ?_⟩
  · rw [up_o (by rintro rfl; exact ha (by simp [scr]))]; exact h.1.1.1 a ha
  · rw [up_s, upd_o a5]; exact h.1.1.2 k a1 a2 a3 a4 a5
  · rw [up_o (by decide)]; exact h.1.2.1 q hq
  · have hw := h.1.2.2.1
    unfold RWm at hw ⊢
    rw [up_s, upd_o (by decide), upd_o (by decide), up_o (by decide), up_o (by decide), up_o (by decide), up_o (by decide), up_o (by decide), up_o (by decide), up_o (by decide)]
    exact hw
  · rw [up_s, upd_o (by decide)]; exact h.2
theorem drawOf_m {n : Nat} {x : Int32} (ex : x = nI n) (h0 : 0 < n) (h9 : n ≤ 9) (e : M1 71 51 = s) : f_X7_drawOf N (HP C M1 K O) 71 x = some (nI (drn (stir s) % n), HP C (up M1 71 51 (stir s)) K O) := by
  subst ex
  have e2 : s * 1103515245 + 12345 = stir s := rfl
  simp only [f_X7_drawOf, ↓b_rdM, ↓b_wrM, e, e2, up_s, upd_s, nI_ne0 h0 (show n < 2 ^ 31 by omega), ↓reduceIte, drw_e h0 h9]
set_option maxHeartbeats 4000000 in
theorem bfB_m (hm : MI M G W) (hT : TQ G b M M1 X) (e51 : M1 71 51 = c) {kd : Nat} (hk : kd < 6) : ∃ M', f_X7_something_b44 N 71 (nI kd) (HP C M1 K O) = some (HP C M' K O) ∧ TQ G b M M' (bfB G kd c X).2 ∧ M' 71 51 = (bfB G kd c X).1 := by
  have hg := TQ_g hm hT
  have hJ8 := hm.1.2.2.1
  have hs8 := hm.1.1
  have okB := bfB_ok (c := c) (kd := kd) hm.1 (TQ_o hT)
  by_cases z1 : 1 < kd
  · have e : bfB G kd c X = (c, X) := by unfold bfB; rw [if_pos (.inl z1)]
    rw [e]
    refine ⟨M1, ?_, hT, e51⟩
    simp only [f_X7_something_b44, show (1 : Int32) < nI kd from nI_lt (a := 1) z1 (by omega), ↓reduceIte]
  · have n1 : ¬ (1 : Int32) < nI kd := nI_nlt (b := kd) (a := 1) (by omega) (by decide)
    by_cases z2 : gJ G = 0
    · have e : bfB G kd c X = (c, X) := by unfold bfB; rw [if_pos (.inr z2)]
      rw [e]
      refine ⟨M1, ?_, hT, e51⟩
      have e2 := hg.2.2.1
      rw [z2] at e2
      simp only [f_X7_something_b44, n1, ↓reduceIte, ↓b_rdM, ↓b_rlM, e2, show nI 0 = 0 from rfl]
    · have hJ : 0 < gJ G := by omega
      have hj := Nat.mod_lt (drn (stir c)) hJ
      have hj8 : drn (stir c) % gJ G < 8 := by omega
      have n2 : ¬ nI (gJ G) = 0 := nI_ne0 hJ (by omega)
      have d1 := drawOf_m (N := N) (C := C) (K := K) (O := O) (n := gJ G) rfl hJ (by omega) e51
      have T2 := TQ_51 hT (stir c)
      have e1 := ((TQ_w T2).2.2.1 _ hj).1
      by_cases z3 : kd = 0
      · subst z3
        have e : bfB G 0 c X = (stir c, if X 1 (drn (stir c) % gJ G) < 0 then X else goV G X (drn (stir c) % gJ G) (nI 1)) := by
          unfold bfB; rw [if_neg (by omega), if_pos rfl]
        rw [e]
        by_cases z4 : X 1 (drn (stir c) % gJ G) < 0
        · rw [if_pos z4]
          refine ⟨_, ?_, T2, by rw [up_s, upd_s]⟩
          simp only [f_X7_something_b44, f_X7_something_b89, f_X7_something_b108, n1, ↓reduceIte, ↓b_rdM, ↓b_rlM, ↓b_raM, hg.2.2.1, n2, ↓bnd d1, show nI 0 = 0 from rfl, show ¬ (1 : Int32) < 0 by decide, show ¬ (0 : Int32) = 1 by decide, hj8, e1, z4]
        · rw [if_neg z4]
          obtain ⟨M3, q1, q2, q3⟩ := goBy_m (N := N) (C := C) (K := K) (O := O) hm.1 (TQ_g hm T2) (TQ_w T2) hj (nI 1)
          rw [show nI 1 = 1 from rfl] at q1
          refine ⟨M3, ?_, ⟨⟨Fz_trans T2.1.1 (Fz_FM q3), fun i hi => by rw [q3.1 96 (by simp [stC])]; exact T2.1.2.1 i hi, q2, okW_go hm.1 (TQ_o hT) hj (by decide) (.inr (pos_of (TQ_o hT) hj z4))⟩, (q3.2 4 (by decide) (by decide)).trans T2.2⟩, ?_⟩
          · simp only [f_X7_something_b44, f_X7_something_b89, f_X7_something_b108, n1, ↓reduceIte, ↓b_rdM, ↓b_rlM, ↓b_raM, hg.2.2.1, n2, ↓bnd d1, show nI 0 = 0 from rfl, show ¬ (1 : Int32) < 0 by decide, show ¬ (0 : Int32) = 1 by decide, hj8, e1, z4, ↓bnd q1]
          · rw [q3.2 51 (by decide) (by decide), up_s, upd_s]
      · have k1 : kd = 1 := by omega
        subst k1
        have e : bfB G 1 c X = (stir (stir c), if X 1 (drn (stir c) % gJ G) = -2 then X else up X 2 (drn (stir c) % gJ G) (nI (drn (stir (stir c)) % gsd G))) := by
          unfold bfB; rw [if_neg (by omega), if_neg (by decide)]
        rw [e] at okB ⊢
        have hg2 := TQ_g hm T2
        have d2 := drawOf_m (N := N) (C := C) (K := K) (O := O) (M1 := up M1 71 51 (stir c)) (s := stir c) (n := gsd G) rfl (by omega) (by omega) (by rw [up_s, upd_s])
        have T3 := TQ_51 T2 (stir (stir c))
        have e3 := ((TQ_w T3).2.2.1 _ hj).1
        by_cases z4 : X 1 (drn (stir c) % gJ G) = -2
        · rw [if_pos z4]
          refine ⟨_, ?_, T3, by rw [up_s, upd_s]⟩
          simp only [f_X7_something_b44, f_X7_something_b89, f_X7_something_b108, n1, ↓reduceIte, ↓b_rdM, ↓b_rlM, ↓b_raM, hg.2.2.1, hg2.1, n2, ↓bnd d1, ↓bnd d2, show ¬ nI 1 = 0 by decide, show nI 1 = 1 from rfl, show ¬ (1 : Int32) < 1 by decide, show ¬ (1 : Int32) = 0 by decide, hj8, e3, z4]
        · simp only [z4, ↓reduceIte] at okB ⊢
          refine ⟨_, ?_, TQ_up (c := 88) (i := 2) T3 (.inl rfl) (RWm_fc (TQ_w T3)) okB, by rw [up_o (by decide), up_s, upd_s]⟩
          simp only [f_X7_something_b44, f_X7_something_b89, f_X7_something_b108, n1, ↓reduceIte, ↓b_rdM, ↓b_rlM, ↓b_raM, ↓b_waM, hg.2.2.1, hg2.1, n2, ↓bnd d1, ↓bnd d2, show ¬ nI 1 = 0 by decide, show nI 1 = 1 from rfl, show ¬ (1 : Int32) < 1 by decide, show ¬ (1 : Int32) = 0 by decide, hj8, e3, z4]
set_option maxHeartbeats 4000000 in
theorem some_m (hm : MI M G W) (hT : TQ G b M M1 T) (e51 : M1 71 51 = s) : ∃ M', f_X7_something N (HP C M1 K O) 71 = some (HP C M' K O) ∧ TQ G b M M' (bf G s T).2 ∧ M' 71 51 = (bf G s T).1 := by
  have hg := TQ_g hm hT
  have hR9 := hm.1.2.1
  have hk : drn (stir s) % 6 < 6 := Nat.mod_lt _ (by decide)
  have d6 := drawOf_m (N := N) (C := C) (K := K) (O := O) (n := 6) (x := 6) rfl (by decide) (by decide) e51
  have T2 := TQ_51 hT (stir s)
  have hg2 := TQ_g hm T2
  have okA := bfA_ok (s := s) (TQ_o hT)
  unfold bf
  by_cases z1 : drn (stir s) % 6 = 2
  · by_cases z2 : 0 < gRn G
    · have e : bfA G s T = (stir (stir (stir s)), up T 7 (drn (stir (stir s)) % gRn G) (nI (drn (stir (stir (stir s))) % 8))) := by unfold bfA; rw [if_pos ⟨z1, z2⟩]
      rw [e] at okA ⊢
      have hr := Nat.mod_lt (drn (stir (stir s))) z2
      have r9 : drn (stir (stir s)) % gRn G < 9 := by omega
      have d1 := drawOf_m (N := N) (C := C) (K := K) (O := O) (M1 := up M1 71 51 (stir s)) (s := stir s) (n := gRn G) rfl z2 hR9 (by rw [up_s, upd_s])
      have d8 := drawOf_m (N := N) (C := C) (K := K) (O := O) (M1 := up (up M1 71 51 (stir s)) 71 51 (stir (stir s))) (s := stir (stir s)) (n := 8) (x := 8) rfl (by decide) (by decide) (by rw [up_s, upd_s])
      have T4 := TQ_51 (TQ_51 T2 (stir (stir s))) (stir (stir (stir s)))
      obtain ⟨M5, q1, q2, q3⟩ := bfB_m (N := N) (C := C) (K := K) (O := O) (c := stir (stir (stir s))) hm (TQ_up (c := 91) (i := 7) T4 (.inr rfl) (RWm_sp (TQ_w T4)) okA) (by rw [up_o (by decide), up_s, upd_s]) hk
      refine ⟨M5, ?_, q2, q3⟩
      have n1 : ¬ nI (gRn G) ≤ 0 := nI_ge (a := 0) z2 (by omega)
      simp only [f_X7_something, ↓b_rdM, ↓bnd d6, z1, show nI 2 = 2 from rfl, ↓reduceIte, ↓b_rlM, hg2.2.1, n1, ↓bnd d1, ↓bnd d8, ↓b_waM, r9] at q1 ⊢
      exact q1
    · have e : bfA G s T = (stir s, T) := by unfold bfA; rw [if_neg (fun q => z2 q.2)]
      rw [e]
      obtain ⟨M5, q1, q2, q3⟩ := bfB_m (N := N) (C := C) (K := K) (O := O) (c := stir s) hm T2 (by rw [up_s, upd_s]) hk
      refine ⟨M5, ?_, q2, q3⟩
      have e2 := hg2.2.1
      rw [show gRn G = 0 by omega] at e2
      simp only [f_X7_something, ↓b_rdM, ↓bnd d6, z1, show nI 2 = 2 from rfl, ↓reduceIte, ↓b_rlM, e2, show nI 0 ≤ 0 by decide] at q1 ⊢
      exact q1
  · have e : bfA G s T = (stir s, T) := by unfold bfA; rw [if_neg (fun q => z1 q.1)]
    rw [e]
    obtain ⟨M5, q1, q2, q3⟩ := bfB_m (N := N) (C := C) (K := K) (O := O) (c := stir s) hm T2 (by rw [up_s, upd_s]) hk
    refine ⟨M5, ?_, q2, q3⟩
    have n1 : ¬ nI (drn (stir s) % 6) = 2 := by
      rw [show (2 : Int32) = nI 2 from rfl, eq_nI (by omega) (by decide)]
      exact z1
    simp only [f_X7_something, ↓b_rdM, ↓bnd d6, n1, ↓reduceIte]
    exact q1
def yr (B : Int32 → ST → Int32 × ST) (G : GT) (s : Int32) (T : ST) : Nat → Int32 × ST
  | 0 => (s, T)
  | k + 1 => ((B (yr B G s T k).1 (yr B G s T k).2).1, passV G 0 (B (yr B G s T k).1 (yr B G s T k).2).2)
theorem yr_ex (B : Int32 → ST → Int32 × ST) (G : GT) (s : Int32) (T : ST) : ∃ (S : Nat → Int32) (X : Nat → ST), S 0 = s ∧ X 0 = T ∧ ∀ k, S (k + 1) = (B (S k) (X k)).1 ∧ X (k + 1) = passV G 0 (B (S k) (X k)).2 :=
  ⟨fun k => (yr B G s T k).1, fun k => (yr B G s T k).2, rfl, rfl, fun k => ⟨rfl, rfl⟩⟩
theorem bf_LD (hG : okG G) (ok : okW G T) (h : LD G W0 T) : okW G (passV G 0 (bf G s T).2) ∧ LD G W0 (passV G 0 (bf G s T).2) := by
  have o1 : okW G (bf G s T).2 := bfB_ok hG (bfA_ok ok)
  have o2 : LD G W0 (bf G s T).2 := bfB_LD hG (bfA_ok ok) (bfA_LD h)
  exact ⟨okW_pass hG o1, LD_pass hG o1 o2⟩
set_option maxHeartbeats 4000000 in
theorem turnedAll_c (hg : gok K.1) (hG : okG G) (h : RG K.1 C G) (hW : RW G 54 C T) (hN : 1000 ≤ N) : f_X5_turnedByAll N (HP C M K O) 54 K.1 = some (sumT T (gJ G), HP C M K O) := by
  have hJ := hG.2.2.1
  have q := itr_seq (body := fun s : Int32 × Int32 × AH => f_X5_turnedByAll_l4 N 54 K.1 s.1 s.2.1 s.2.2) (fun k => (sumT T k, nI k, HP C M K O)) (n := gJ G) (r := (sumT T (gJ G), HP C M K O)) ?_ ?_ (N := N) (by omega)
  · simp only [sumT, show nI 0 = 0 from rfl] at q
    simp only [f_X5_turnedByAll, f_X5_turnedByAll_b4, q, Option.bind_some]
  · intro k hk
    have k8 : k < 8 := by omega
    have e5 := hW.2.1 5 k (by omega) (by omega) hk
    simp only [f_X5_turnedByAll_l4, ↓b_rG hg, ↓b_rW w54, ↓b_rWa w54, h.2.2.1, nle hk (by omega), ↓reduceIte, k8, e5, nI_1, sumT]
  · simp only [f_X5_turnedByAll_l4, ↓b_rG hg, h.2.2.1, yle (Nat.le_refl (gJ G)) (by omega), ↓reduceIte]
set_option maxHeartbeats 4000000 in
theorem g_years {a d c : Int32} (hc : CI K C G W) (hm : MI M G W) (hN : 1000 ≤ N) (hw : btw c 0 2) (hs : btw d 0 60) : ∃ r, QC K C M O (f_X6_years N (HP C M K O) 0 a d c) r ∧ ∀ C' O', QM C' M K O' (f_X7_years N (HP C' M K O') 71 a d c) r := by
  have m0 := m0_of hm
  have hs' := hs
  obtain ⟨n, _, hn, rfl⟩ := hs'
  obtain ⟨S, X, hS0, hX0, hSX⟩ := yr_ex (bf G) G a (clr W)
  have hL : ∀ k, okW G (X k) ∧ LD G W (X k) := by
    intro k
    induction k with
    | zero => rw [hX0]; exact ⟨okW_clr hm.2.2.2, LD_clr⟩
    | succ k ih => rw [(hSX k).2]; exact bf_LD hm.1 ih.1 ih.2
  obtain ⟨C1, t1, T1⟩ := tryFor0 (M := M) (O := O) hc (fun _ _ => rfl) hN
  refine ⟨.inr (if c = 0 then X n 0 1 else if c = 1 then bc (setFa G (X n)) else sumT (X n) (gJ G)), ?_, fun C' O' => ?_⟩
  · have q := itr_inv (body := fun s : Int32 × Int32 × AH => f_X6_years_l22 N 0 (nI n) c s.1 s.2.1 s.2.2)
      (fun k s => ∃ C', s = (S k, nI k, HP C' M K O) ∧ TC G C C' (X k))
      (P := fun r => ∃ C', r = HP C' M K O ∧ TC G C C' (X n)) (n := n) ?_ ?_ (s := (a, 0, HP C1 M K O)) ⟨C1, by rw [hS0]; rfl, by rw [hX0]; exact T1⟩ (N := N) (by omega)
    · obtain ⟨r, q1, C2, e, T2⟩ := q
      rw [e] at q1
      have hc2 := CI_of hc T2.1
      refine ⟨C2, ?_, T2.1⟩
      simp only [f_X6_years, f_X6_years_b22, ↓b_rdC, ↓Sum.elim_inr, ↓bnd (nW2_y hw), ↓bnd (nT060_y hs), ↓bnd t1, q1, Option.bind_some, ↓b_rW w54, ↓b_rW w21, ↓bnd (landed_w hc2.1 w54 hc2.2.1 hc2.2.2.1 T2.2.1 hN), ↓bnd (landed_w hc2.1 w21 hc2.2.1 hc2.2.2.1 hc2.2.2.2.1 hN), ↓bnd (fairOnes_w hc2.1 w54 hc2.2.1 hc2.2.2.1 T2.2.1 hN), ↓bnd (turnedAll_c hc2.1 hc2.2.1 hc2.2.2.1 T2.2.1 hN), ↓bnd (bitCount_c _ _ _), LD_bits hm.1 (hL n).2]
      split
      · rfl
      · split <;> rfl
    · rintro k s hk ⟨C2, rfl, h1⟩
      left
      obtain ⟨C3, b1, T3⟩ := befall_c (N := N) (M := M) (O := O) (s := S k) hc h1
      obtain ⟨eS, eX⟩ := hSX k
      generalize bf G (S k) (X k) = z at b1 T3 eS eX
      obtain ⟨z1, z2⟩ := z
      simp only at b1 T3 eS eX
      obtain ⟨C4, p1, T4⟩ := TC_pass (M := M) (O := O) hc T3 0 hN
      refine ⟨(z1, nI (k + 1), HP C4 M K O), ?_, C4, by rw [eS], by rw [eX]; exact T4⟩
      simp only [f_X6_years_l22, nle hk (by omega), ↓reduceIte, ↓b_rdC, ↓bnd b1, ↓b_rW w54, ↓bnd p1, nI_1]
    · rintro s ⟨C2, rfl, h1⟩
      refine ⟨_, ?_, C2, rfl, h1⟩
      simp only [f_X6_years_l22, yle (Nat.le_refl n) (by omega), ↓reduceIte]
  · obtain ⟨M1, p1, p2⟩ := TQ_pack (C := C') (K := K) (O := O') hm hN
    obtain ⟨M2, n1, n2⟩ := TQ_new (C := C') (K := K) (O := O') hm p2 hN
    have ecl : clr (clr W) = clr W := by
      funext x
      unfold clr
      by_cases x5 : x = 5
      · simp only [x5, if_true]
      · by_cases x0 : x = 0
        · simp only [x0, if_true, show ¬ 0 = 5 by decide, if_false]
        · simp only [x5, x0, if_false]
    rw [ecl] at n2
    have q := itr_inv (body := fun s : Int32 × AH => f_X7_years_l62 N 71 (nI n) c s.1 s.2)
      (fun k s => ∃ M', s = (nI k, HP C' M' K O') ∧ TQ G true M M' (X k) ∧ M' 71 51 = S k)
      (P := fun r => ∃ M', r = HP C' M' K O' ∧ TQ G true M M' (X n)) (n := n) ?_ ?_ (s := (0, HP C' (up M2 71 51 a) K O')) ⟨_, rfl, by rw [hX0]; exact TQ_51 n2 a, by rw [hS0, up_s, upd_s]⟩ (N := N) (by omega)
    · obtain ⟨r, q1, M3, e, T3⟩ := q
      rw [e] at q1
      obtain ⟨M4, u1, u2, _, _⟩ := TQ_back (C := C') (K := K) (O := O') T3 hN
      have hld := (TQ_w T3).2.1 rfl
      have q2 := itr_seq (body := fun s : Int32 × Int32 × AH => f_X7_years_l89 N 71 c s.1 s.2.1 s.2.2) (fun k => (sumT (X n) k, nI k, HP C' M3 K O')) (n := 8) (r := (sumT (X n) 8, HP C' M3 K O')) ?_ ?_ (N := N) (by omega)
      · simp only [show nI 0 = 0 from rfl] at q2
        rw [show sumT (X n) 0 = 0 from rfl, sumT_8 hm.1 (hL n).2] at q2
        refine ⟨_, M4, ?_, u2.1, u2.2.2, rfl⟩
        simp only [f_X7_years, f_X7_years_b62, f_X7_years_b89, f_X7_years_b142, ↓b_wrM, ↓b_rdM, ↓reduceIte, show ¬ (1 : Int32) = 0 by decide, ↓bnd (bW2_y hw), ↓bnd (bT060_y hs), ↓bnd p1, ↓bnd n1, q1, q2, Option.bind_some, hld.1, ↓bnd (fairOnes_v hm.1 (TQ_g hm T3) (TQ_w T3) hN), ↓bnd (bits2 (setFa_lt hm.1) hN), ↓bnd u1]
        split
        · rfl
        · split <;> rfl
      · intro k hk
        have e5 := hld.2 k hk
        simp only [f_X7_years_l89, show ¬ (8 : Int32) ≤ nI k from nI_ge (b := 8) hk (by omega), ↓reduceIte, ↓b_rdM, ↓b_raM, hk, e5, nI_1, sumT]
      · simp only [f_X7_years_l89, show (8 : Int32) ≤ nI 8 by decide, ↓reduceIte]
    · rintro k s hk ⟨M3, rfl, h1, h2⟩
      left
      obtain ⟨M4, s1, T4, s2⟩ := some_m (N := N) (C := C') (K := K) (O := O') hm h1 h2
      obtain ⟨eS, eX⟩ := hSX k
      generalize bf G (S k) (X k) = z at T4 s2 eS eX
      obtain ⟨M5, a1, a2, a3, a4⟩ := TM_step (C := C') (K := K) (O := O') (.inl rfl) (m0_of hm) T4.1 0 hN
      refine ⟨(nI (k + 1), HP C' M5 K O'), ?_, M5, rfl, by rw [eX]; exact ⟨a2, a3.trans T4.2⟩, ?_⟩
      · simp only [f_X7_years_l62, nle hk (by omega), ↓reduceIte, ↓b_rdM, ↓bnd s1, ↓bnd a1, nI_1]
      · rw [a4.2 51 (by decide) (by decide), s2, eS]
    · rintro s ⟨M3, rfl, h1, _⟩
      refine ⟨_, ?_, M3, rfl, h1⟩
      simp only [f_X7_years_l62, yle (Nat.le_refl n) (by omega), ↓reduceIte]
set_option maxHeartbeats 4000000 in
theorem q_years {a d c : Int32} (hc : CI K C G W) (hm : MI M G W) (hN : 1000 ≤ N) : ∃ r, QC K C M O (f_X6_years N (HP C M K O) 0 a d c) r ∧ ∀ C' O', QM C' M K O' (f_X7_years N (HP C' M K O') 71 a d c) r := by
  have m0 := MI_EQ hm (EQ_code M 0)
  by_cases h0 : btw c 0 2
  ·
    by_cases h1 : btw d 0 60
    · exact g_years hc hm hN h0 h1
    · refine ⟨.inl 2, ⟨C, ?_, fun _ _ => rfl⟩, fun C' O' => ?_⟩
      · simp only [f_X6_years_b22, f_X6_years, ↓b_rdC, ↓Sum.elim_inr, ↓Sum.elim_inl, ↓bnd (nW2_y h0), ↓bnd (nT060_n h1)]
      · obtain ⟨M', f1, f2, f3⟩ := QM_fail (N := N) (C := C') (M := M) (K := K) (O := O') (k := 2) (kv := 2) rfl
        refine ⟨0, M', ?_, f2, f3⟩
        simp only [f_X7_years_b142, f_X7_years_b89, f_X7_years_b62, f_X7_years, ↓b_wrM, ↓b_rdM, ↓reduceIte, show ¬ (1 : Int32) = 0 by decide, ↓bnd (bW2_y h0), ↓bnd (bT060_n h1), ↓bnd f1]
  · refine ⟨.inl 1, ⟨C, ?_, fun _ _ => rfl⟩, fun C' O' => ?_⟩
    · simp only [f_X6_years_b22, f_X6_years, ↓b_rdC, ↓Sum.elim_inr, ↓Sum.elim_inl, ↓bnd (nW2_n h0)]
    · obtain ⟨M', f1, f2, f3⟩ := QM_fail (N := N) (C := C') (M := M) (K := K) (O := O') (k := 1) (kv := 1) rfl
      refine ⟨0, M', ?_, f2, f3⟩
      simp only [f_X7_years_b142, f_X7_years_b89, f_X7_years_b62, f_X7_years, ↓b_wrM, ↓b_rdM, ↓reduceIte, show ¬ (1 : Int32) = 0 by decide, ↓bnd (bW2_n h0), ↓bnd f1]
end S55
