/-! the reference's waters do it -/
/-- the reference's cells that a step may write -/
def stC (a : Nat) : Prop := a = 71 ∨ a = 87 ∨ a = 88 ∨ a = 89 ∨ a = 91 ∨ a = 93 ∨ a = 94 ∨ a = 95
def FM (M M' : ST) : Prop := (∀ a, ¬ stC a → M' a = M a) ∧ ∀ k, k ≠ 34 → k ≠ 40 → M' 71 k = M 71 k
def RWm (G : GT) (b : Bool) (M W : ST) : Prop := M 71 34 = W 0 0 ∧ (b = true → M 71 40 = W 0 1 ∧ ∀ j, j < 8 → M 95 j = W 5 j) ∧ (∀ j, j < gJ G → M 87 j = W 1 j ∧ M 88 j = W 2 j ∧ M 89 j = W 3 j ∧ M 85 j = W 4 j ∧ (b = true → M 95 j = W 5 j)) ∧ ∀ r, r < gRn G → M 90 r = W 6 r ∧ M 91 r = W 7 r
section S36
variable {C M M' M'' W : ST} {K : KT} {O : Nat → Int64} {N : Nat} {G : GT} {b : Bool}
theorem FM_refl : FM M M := ⟨fun _ _ => rfl, fun _ _ _ => rfl⟩
theorem FM_trans (h : FM M M') (h' : FM M' M'') : FM M M'' := ⟨fun a ha => (h'.1 a ha).trans (h.1 a ha), fun k x y => (h'.2 k x y).trans (h.2 k x y)⟩
theorem FM_up {i j : Nat} {v : Int32} (hi : stC i) (h7 : i ≠ 71) : FM M (up M i j v) := ⟨fun a ha => up_o (by rintro rfl; exact ha hi), fun k _ _ => by rw [up_o (Ne.symm h7)]⟩
theorem FM_up0 {k : Nat} {v : Int32} (hk : k = 34 ∨ k = 40) : FM M (up M 71 k v) := ⟨fun a ha => up_o (by rintro rfl; exact ha (.inl rfl)), fun i x y => by rw [up_s, upd_o (by omega)]⟩
theorem FM_m (h : ∀ a, a ≠ 93 → a ≠ 94 → M' a = M a) : FM M M' := ⟨fun a ha => h a (by rintro rfl; exact ha (by simp [stC])) (by rintro rfl; exact ha (by simp [stC])), fun k _ _ => by rw [h 71 (by decide) (by decide)]⟩
theorem RGm_fr (h : RGm M G) (hf : FM M M') : RGm M' G := by
  have e : ∀ a, ¬ stC a → M' a = M a := hf.1
  unfold RGm
  rw [e 75 (by simp [stC]), e 81 (by simp [stC]), e 78 (by simp [stC]), e 82 (by simp [stC]), e 83 (by simp [stC])]
  exact h
theorem RWm_fr (h : RWm G b M W) (hf : ∀ a, a ≠ 93 → a ≠ 94 → M' a = M a) : RWm G b M' W := by
  unfold RWm
  rw [hf 71 (by decide) (by decide), hf 87 (by decide) (by decide), hf 88 (by decide) (by decide), hf 89 (by decide) (by decide), hf 85 (by decide) (by decide), hf 95 (by decide) (by decide), hf 90 (by decide) (by decide), hf 91 (by decide) (by decide)]
  exact h
theorem RWm_wh {j : Nat} {v : Int32} (h : RWm G b M W) : RWm G b (up M 87 j v) (up W 1 j v) := by
  unfold RWm at h ⊢
  simp only [up, upd, show ¬ 71 = 87 by decide, show ¬ 88 = 87 by decide, show ¬ 89 = 87 by decide, show ¬ 85 = 87 by decide, show ¬ 95 = 87 by decide, show ¬ 90 = 87 by decide, show ¬ 91 = 87 by decide, show ¬ 0 = 1 by decide, show ¬ 2 = 1 by decide, show ¬ 3 = 1 by decide, show ¬ 4 = 1 by decide, show ¬ 5 = 1 by decide, show ¬ 6 = 1 by decide, show ¬ 7 = 1 by decide, if_false, if_true]
  refine ⟨h.1, h.2.1, fun i hi => ⟨?_, (h.2.2.1 i hi).2⟩, h.2.2.2⟩
  split
  · rfl
  · exact (h.2.2.1 i hi).1
theorem RWm_fc {j : Nat} {v : Int32} (h : RWm G b M W) : RWm G b (up M 88 j v) (up W 2 j v) := by
  unfold RWm at h ⊢
  simp only [up, upd, show ¬ 71 = 88 by decide, show ¬ 87 = 88 by decide, show ¬ 89 = 88 by decide, show ¬ 85 = 88 by decide, show ¬ 95 = 88 by decide, show ¬ 90 = 88 by decide, show ¬ 91 = 88 by decide, show ¬ 0 = 2 by decide, show ¬ 1 = 2 by decide, show ¬ 3 = 2 by decide, show ¬ 4 = 2 by decide, show ¬ 5 = 2 by decide, show ¬ 6 = 2 by decide, show ¬ 7 = 2 by decide, if_false, if_true]
  refine ⟨h.1, h.2.1, fun i hi => ⟨(h.2.2.1 i hi).1, ?_, (h.2.2.1 i hi).2.2⟩, h.2.2.2⟩
  split
  · rfl
  · exact (h.2.2.1 i hi).2.1
theorem RWm_sn {j : Nat} {v : Int32} (h : RWm G b M W) : RWm G b (up M 89 j v) (up W 3 j v) := by
  unfold RWm at h ⊢
  simp only [up, upd, show ¬ 71 = 89 by decide, show ¬ 87 = 89 by decide, show ¬ 88 = 89 by decide, show ¬ 85 = 89 by decide, show ¬ 95 = 89 by decide, show ¬ 90 = 89 by decide, show ¬ 91 = 89 by decide, show ¬ 0 = 3 by decide, show ¬ 1 = 3 by decide, show ¬ 2 = 3 by decide, show ¬ 4 = 3 by decide, show ¬ 5 = 3 by decide, show ¬ 6 = 3 by decide, show ¬ 7 = 3 by decide, if_false, if_true]
  refine ⟨h.1, h.2.1, fun i hi => ⟨(h.2.2.1 i hi).1, (h.2.2.1 i hi).2.1, ?_, (h.2.2.1 i hi).2.2.2⟩, h.2.2.2⟩
  split
  · rfl
  · exact (h.2.2.1 i hi).2.2.1
theorem RWm_tu {j : Nat} {v v' : Int32} (h : RWm G b M W) (hv : b = true → v = v') : RWm G b (up M 95 j v) (up W 5 j v') := by
  unfold RWm at h ⊢
  simp only [up, upd, show ¬ 71 = 95 by decide, show ¬ 87 = 95 by decide, show ¬ 88 = 95 by decide, show ¬ 85 = 95 by decide, show ¬ 89 = 95 by decide, show ¬ 90 = 95 by decide, show ¬ 91 = 95 by decide, show ¬ 0 = 5 by decide, show ¬ 1 = 5 by decide, show ¬ 2 = 5 by decide, show ¬ 4 = 5 by decide, show ¬ 3 = 5 by decide, show ¬ 6 = 5 by decide, show ¬ 7 = 5 by decide, if_false, if_true]
  refine ⟨h.1, fun hb => ⟨(h.2.1 hb).1, fun i hi => ?_⟩, fun i hi => ⟨(h.2.2.1 i hi).1, (h.2.2.1 i hi).2.1, (h.2.2.1 i hi).2.2.1, (h.2.2.1 i hi).2.2.2.1, fun hb => ?_⟩, h.2.2.2⟩
  · split
    · exact hv hb
    · exact (h.2.1 hb).2 i hi
  · split
    · exact hv hb
    · exact (h.2.2.1 i hi).2.2.2.2 hb
theorem RWm_ld (h : RWm G b M W) : RWm G b (up M 71 40 (M 71 40 + 1)) (up W 0 1 (W 0 1 + 1)) := by
  unfold RWm at h ⊢
  simp only [up, upd, show ¬ 87 = 71 by decide, show ¬ 88 = 71 by decide, show ¬ 85 = 71 by decide, show ¬ 89 = 71 by decide, show ¬ 90 = 71 by decide, show ¬ 91 = 71 by decide, show ¬ 95 = 71 by decide, show ¬ 34 = 40 by decide, show ¬ 0 = 1 by decide, show ¬ 1 = 0 by decide, show ¬ 2 = 0 by decide, show ¬ 4 = 0 by decide, show ¬ 3 = 0 by decide, show ¬ 5 = 0 by decide, show ¬ 6 = 0 by decide, show ¬ 7 = 0 by decide, if_false, if_true]
  exact ⟨h.1, fun hb => ⟨by rw [(h.2.1 hb).1], (h.2.1 hb).2⟩, h.2.2⟩
theorem RWm_tick (h : RWm G b M W) : RWm G b (up M 71 34 (M 71 34 + 1)) (tickV W) := by
  unfold RWm tickV at *
  simp only [up, upd, show ¬ 87 = 71 by decide, show ¬ 88 = 71 by decide, show ¬ 85 = 71 by decide, show ¬ 89 = 71 by decide, show ¬ 90 = 71 by decide, show ¬ 91 = 71 by decide, show ¬ 95 = 71 by decide, show ¬ 40 = 34 by decide, show ¬ 1 = 0 by decide, show ¬ 2 = 0 by decide, show ¬ 4 = 0 by decide, show ¬ 3 = 0 by decide, show ¬ 5 = 0 by decide, show ¬ 6 = 0 by decide, show ¬ 7 = 0 by decide, if_false, if_true]
  exact ⟨by rw [h.1], h.2.1, h.2.2⟩
/-! bits -/
def bo : Nat → Int32 → Int32 → Option Int32
  | 0, _, _ => none
  | k + 1, n, v => if v = 0 then some n else bo k (n + 1) (v &&& (v - 1))
theorem bo_ok : ∀ s, s < 2048 → bo 13 0 (nI s) = some (bc (nI s)) := by decide +kernel
theorem bo_itr {h : AH} {r : Int32} : ∀ k n v, bo k n v = some r → ∀ N, k ≤ N → itr (fun s : Int32 × Int32 × AH => f_X7_bitsOf_l4 N s.1 s.2.1 s.2.2) N (n, v, h) = some (r, h) := by
  have go : ∀ N', ∀ k n v, bo k n v = some r → ∀ N, k ≤ N → itr (fun s : Int32 × Int32 × AH => f_X7_bitsOf_l4 N' s.1 s.2.1 s.2.2) N (n, v, h) = some (r, h) := by
    intro N' k
    induction k with
    | zero => intro n v e; cases e
    | succ k ih =>
      intro n v e N hN
      obtain ⟨N, rfl⟩ : ∃ q, N = q + 1 := ⟨N - 1, by omega⟩
      unfold bo at e
      by_cases hv : v = 0
      · rw [if_pos hv] at e
        cases e
        refine itr_r ?_ N
        simp only [f_X7_bitsOf_l4, hv, ↓reduceIte]
      · rw [if_neg hv] at e
        rw [itr_l (s' := (n + 1, v &&& (v - 1), h)) (by simp only [f_X7_bitsOf_l4, hv, ↓reduceIte])]
        exact ih _ _ e N (by omega)
  intro k n v e N hN
  exact go N k n v e N hN
theorem bitsOf_m {h : AH} {s : Nat} (hs : s < 2048) (hN : 1000 ≤ N) : f_X7_bitsOf N h (nI s) = some (bc (nI s), h) := by
  unfold f_X7_bitsOf f_X7_bitsOf_b4
  have q := bo_itr (h := h) 13 0 (nI s) (bo_ok s hs) N (by omega)
  simp only [q, Option.bind_some]
theorem ones_lt {p : Nat → Bool} : ∀ n, n ≤ 8 → ∃ s, s < 256 ∧ ones p n = nI s := by
  intro n
  induction n with
  | zero => intro _; exact ⟨0, by omega, rfl⟩
  | succ k ih =>
    intro hk
    obtain ⟨s, hs, e⟩ := ih (by omega)
    unfold ones
    split
    · have := orbit k (by omega) s hs
      rw [e, this.1]
      exact ⟨_, this.2, rfl⟩
    · exact ⟨s, hs, e⟩
set_option maxHeartbeats 4000000 in
theorem whoIs_m (hJ : M 75 2 = nI (gJ G)) (h8 : gJ G ≤ 8) (hN : 1000 ≤ N) (p : Int32) : f_X7_whoIs N (HP C M K O) 71 p = some (ones (fun j => M 87 j = p) (gJ G), HP C M K O) := by
  unfold f_X7_whoIs f_X7_whoIs_b4
  have h := itr_seq (body := fun s : Int32 × Int32 × AH => f_X7_whoIs_l4 N 71 p s.1 s.2.1 s.2.2) (fun k => (ones (fun j => M 87 j = p) k, nI k, HP C M K O)) (n := gJ G) (r := (ones (fun j => M 87 j = p) (gJ G), HP C M K O)) ?_ ?_ (N := N) (by omega)
  · simp only [ones, show nI 0 = 0 from rfl] at h
    simp only [h, Option.bind_some]
  · intro k hk
    have k8 : k < 8 := by omega
    simp only [f_X7_whoIs_l4, f_X7_whoIs_b32, ↓b_rdM, ↓b_raM, ↓b_rlM, hJ, nle hk (by omega), k8, ones, nI_1, decide_eq_true_eq, ↓reduceIte]
    split <;> simp
  · simp only [f_X7_whoIs_l4, ↓b_rdM, ↓b_rlM, hJ, yle (Nat.le_refl (gJ G)) (by omega), ↓reduceIte]
set_option maxHeartbeats 4000000 in
theorem ruleOf_m (hG : okG G) (h : RGm M G) (hW : RWm G b M W) (ok : okW G W) {j sa n : Nat} {sz : Int32} {F : Nat → RI} (hj : j < gJ G) (l : Int32) (hsa : sa = 82 ∨ sa = 83) (hR : RUm (M sa) sz F n) (hF : WFr F n) (hn : 0 < n) (hN : 1000 ≤ N) : ∃ M', f_X7_ruleOf N (HP C M K O) 71 sa sz (nI j) l = some (evs F (env G W j l) n 0, HP C M' K O) ∧ ∀ a, a ≠ 93 → a ≠ 94 → M' a = M a := by
  have h8 : j < 8 := by have := hG.2.2.1; omega
  obtain ⟨h0, hb, h1, h2⟩ := hW
  obtain ⟨e1, e2, e3, e4, _⟩ := h1 j hj
  obtain ⟨s3, hs3, es3⟩ := (ok.1 j hj).2.2.1
  have hb1 : ∀ h : AH, f_X7_bitsOf N h (W 3 j) = some (bc (W 3 j), h) := by
    intro h; rw [es3]; exact bitsOf_m (by omega) hN
  have ho : ∃ s, s < 256 ∧ ones (fun q => W 1 q = W 1 j) (gJ G) = nI s := ones_lt _ hG.2.2.1
  have hb2 : ∀ h : AH, f_X7_bitsOf N h (ones (fun q => W 1 q = W 1 j) (gJ G)) = some (bc (ones (fun q => W 1 q = W 1 j) (gJ G)), h) := by
    obtain ⟨s, hs, e⟩ := ho
    intro h; rw [e]; exact bitsOf_m (by omega) hN
  have hone : ∀ M1 : ST, M1 75 = M 75 → M1 87 = M 87 → f_X7_whoIs N (HP C M1 K O) 71 (W 1 j) = some (ones (fun q => W 1 q = W 1 j) (gJ G), HP C M1 K O) := by
    intro M1 q1 q2
    rw [whoIs_m (G := G) (by rw [q1]; exact h.2.2.1) hG.2.2.1 hN, q2]
    congr 2
    exact ones_congr fun i hi => by rw [(h1 i hi).1]
  have hon := hone (up (up (up M 93 0 (W 4 j)) 93 1 (bc (W 3 j))) 93 2 (W 2 j)) (by rw [up_o (by decide), up_o (by decide), up_o (by decide)]) (by rw [up_o (by decide), up_o (by decide), up_o (by decide)])
  have hv : ∀ i, i < 6 → up (up (up (up (up (up M 93 0 (W 4 j)) 93 1 (bc (W 3 j))) 93 2 (W 2 j)) 93 3 (bc (ones (fun q => W 1 q = W 1 j) (gJ G)) - 1)) 93 4 (W 0 0)) 93 5 l 93 i = env G W j l i := by
    intro i hi
    simp only [up_s, upd, env]
    rcases i with _ | _ | _ | _ | _ | _ | i
    · rfl
    · rfl
    · rfl
    · rfl
    · rfl
    · rfl
    · omega
  have hfr : ∀ a, a ≠ 93 → up (up (up (up (up (up M 93 0 (W 4 j)) 93 1 (bc (W 3 j))) 93 2 (W 2 j)) 93 3 (bc (ones (fun q => W 1 q = W 1 j) (gJ G)) - 1)) 93 4 (W 0 0)) 93 5 l a = M a := by
    intro a ha
    rw [up_o ha, up_o ha, up_o ha, up_o ha, up_o ha, up_o ha]
  obtain ⟨M2, t1, t2⟩ := valueNow_m (C := C) (K := K) (O := O) hsa (M := up (up (up (up (up (up M 93 0 (W 4 j)) 93 1 (bc (W 3 j))) 93 2 (W 2 j)) 93 3 (bc (ones (fun q => W 1 q = W 1 j) (gJ G)) - 1)) 93 4 (W 0 0)) 93 5 l) (by rw [hfr sa (by omega)]; exact hR) hF hn hv hN
  refine ⟨M2, ?_, fun a x y => (t2 a y).trans (hfr a x)⟩
  have n1 : (89 : Nat) ≠ 93 := by decide
  have n2 : (88 : Nat) ≠ 93 := by decide
  have n3 : (87 : Nat) ≠ 93 := by decide
  have n4 : (71 : Nat) ≠ 93 := by decide
  unfold f_X7_ruleOf
  simp only [↓b_rdM, ↓b_raM, ↓b_wlM, h8, e1, e2, e3, e4, ↓bnd (hb1 _), ↓bnd (hb2 _), ↓bnd hon, up_o n1, up_o n2, up_o n3, up_o n4, h0, ↓bnd t1]
end S36
