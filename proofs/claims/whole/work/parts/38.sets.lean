/-! sets, on both sides -/
def setAt (G : GT) (W : ST) (p : Int32) : Int32 := ones (fun j => W 1 j = p) (gJ G)
def setAf (G : GT) (W : ST) : Int32 := ones (fun j => ¬ W 1 j < 0) (gJ G)
def setFa (G : GT) (W : ST) : Int32 := ones (fun j => W 3 j = allS G) (gJ G)
def setPo (G : GT) (W : ST) : Int32 := ones (fun r => W 6 r = 0) (gRn G)
def crV (G : GT) (W : ST) : Nat → Int32 × Int32
  | 0 => (-1, 0)
  | k + 1 => if bc (setAt G W (nI k)) ≤ (crV G W k).2 then crV G W k else (nI k, bc (setAt G W (nI k)))
section S38
variable {C M W : ST} {K : KT} {O : Nat → Int64} {N wa g : Nat} {G : GT} {b : Bool}
theorem onesOn_w (hg : gok g) (hw : wok wa) (hG : okG G) (h : RG g C G) (hW : RW G wa C W) (hN : 1000 ≤ N) (p : Int32) : f_X5_onesOn N (HP C M K O) wa g p = some (setAt G W p, HP C M K O) := by
  rw [onesOn_c hg hw h.2.2.1 hG.2.2.1 hN]
  unfold setAt
  rw [ones_congr fun i hi => by rw [hW.2.1 1 i (by omega) (by omega) hi]]
theorem landed_w (hg : gok g) (hw : wok wa) (hG : okG G) (h : RG g C G) (hW : RW G wa C W) (hN : 1000 ≤ N) : f_X5_landedOnes N (HP C M K O) wa g = some (setAt G W (-2), HP C M K O) := by
  simp only [f_X5_landedOnes, ↓b_rW hw, ↓bnd (onesOn_w hg hw hG h hW hN _)]
theorem whoIs_w (hG : okG G) (h : RGm M G) (hW : RWm G b M W) (hN : 1000 ≤ N) (p : Int32) : f_X7_whoIs N (HP C M K O) 71 p = some (setAt G W p, HP C M K O) := by
  rw [whoIs_m h.2.2.1 hG.2.2.1 hN]
  unfold setAt
  rw [ones_congr fun i hi => by rw [(hW.2.2.1 i hi).1]]
set_option maxHeartbeats 4000000 in
theorem afloatOnes_w (hg : gok g) (hw : wok wa) (hG : okG G) (h : RG g C G) (hW : RW G wa C W) (hN : 1000 ≤ N) : f_X5_afloatOnes N (HP C M K O) wa g = some (setAf G W, HP C M K O) := by
  unfold f_X5_afloatOnes f_X5_afloatOnes_b4 setAf
  have hJ := hG.2.2.1
  have hR := hG.2.1
  have q := itr_seq (body := fun s : Int32 × Int32 × AH => f_X5_afloatOnes_l4 N wa g s.1 s.2.1 s.2.2) (fun k => (ones (fun j => ¬ W 1 j < 0) k, nI k, HP C M K O)) (n := gJ G) (r := (ones (fun j => ¬ W 1 j < 0) (gJ G), HP C M K O)) ?_ ?_ (N := N) (by omega)
  · simp only [ones, show nI 0 = 0 from rfl] at q
    simp only [q, Option.bind_some]
  · intro k hk
    have k8 : k < 9 := by omega
    have k7 : k < 8 := by omega
    have e1 := hW.2.1 1 k (by omega) (by omega) hk
    simp only [f_X5_afloatOnes_l4, f_X5_afloatOnes_b27, ↓b_rG hg, ↓b_rW hw, ↓b_rWa hw, h.2.2.1, h.2.1, nle hk (by omega), k8, ones, nI_1, decide_eq_true_eq, ↓reduceIte, k7, e1]
    by_cases z : W 1 k < 0
    · simp only [z, not_true_eq_false, ↓reduceIte]
    · simp only [z, not_false_eq_true, ↓reduceIte]
  · simp only [f_X5_afloatOnes_l4, ↓b_rG hg, h.2.2.1, h.2.1, yle (Nat.le_refl (gJ G)) (by omega), ↓reduceIte]
set_option maxHeartbeats 4000000 in
theorem fairOnes_w (hg : gok g) (hw : wok wa) (hG : okG G) (h : RG g C G) (hW : RW G wa C W) (hN : 1000 ≤ N) : f_X5_fairOnes N (HP C M K O) wa g = some (setFa G W, HP C M K O) := by
  unfold f_X5_fairOnes f_X5_fairOnes_b4 setFa
  have hJ := hG.2.2.1
  have hR := hG.2.1
  have q := itr_seq (body := fun s : Int32 × Int32 × AH => f_X5_fairOnes_l4 N wa g s.1 s.2.1 s.2.2) (fun k => (ones (fun j => W 3 j = allS G) k, nI k, HP C M K O)) (n := gJ G) (r := (ones (fun j => W 3 j = allS G) (gJ G), HP C M K O)) ?_ ?_ (N := N) (by omega)
  · simp only [ones, show nI 0 = 0 from rfl] at q
    simp only [q, Option.bind_some]
  · intro k hk
    have k8 : k < 9 := by omega
    skip
    simp only [f_X5_fairOnes_l4, f_X5_fairOnes_b27, ↓b_rG hg, ↓b_rW hw, ↓b_rWa hw, h.2.2.1, h.2.1, nle hk (by omega), k8, ones, nI_1, decide_eq_true_eq, ↓reduceIte, ↓bnd (isFair_c (N := N) (M := M) (K := K) (O := O) hg hw hG h hW hk)]
    by_cases z : W 3 k = allS G
    · simp only [z, ↓reduceIte, show ¬ (1 : Int32) = 0 by decide]
    · simp only [z, ↓reduceIte]
  · simp only [f_X5_fairOnes_l4, ↓b_rG hg, h.2.2.1, h.2.1, yle (Nat.le_refl (gJ G)) (by omega), ↓reduceIte]
set_option maxHeartbeats 4000000 in
theorem pools_w (hg : gok g) (hw : wok wa) (hG : okG G) (h : RG g C G) (hW : RW G wa C W) (hN : 1000 ≤ N) : f_X5_pools N (HP C M K O) wa g = some (setPo G W, HP C M K O) := by
  unfold f_X5_pools f_X5_pools_b4 setPo
  have hJ := hG.2.2.1
  have hR := hG.2.1
  have q := itr_seq (body := fun s : Int32 × Int32 × AH => f_X5_pools_l4 N wa g s.1 s.2.1 s.2.2) (fun k => (ones (fun r => W 6 r = 0) k, nI k, HP C M K O)) (n := gRn G) (r := (ones (fun r => W 6 r = 0) (gRn G), HP C M K O)) ?_ ?_ (N := N) (by omega)
  · simp only [ones, show nI 0 = 0 from rfl] at q
    simp only [q, Option.bind_some]
  · intro k hk
    have k8 : k < 9 := by omega
    have e6 := (hW.2.2 k hk).1
    simp only [f_X5_pools_l4, f_X5_pools_b27, ↓b_rG hg, ↓b_rW hw, ↓b_rWa hw, h.2.2.1, h.2.1, nle hk (by omega), k8, ones, nI_1, decide_eq_true_eq, ↓reduceIte, e6]
    split <;> rfl
  · simp only [f_X5_pools_l4, ↓b_rG hg, h.2.2.1, h.2.1, yle (Nat.le_refl (gRn G)) (by omega), ↓reduceIte]
set_option maxHeartbeats 4000000 in
theorem onReaches_v (hG : okG G) (h : RGm M G) (hW : RWm G b M W) (hN : 1000 ≤ N) : f_X7_onReaches N (HP C M K O) 71 = some (setAf G W, HP C M K O) := by
  unfold f_X7_onReaches f_X7_onReaches_b4 setAf
  have hJ := hG.2.2.1
  have hR := hG.2.1
  have q := itr_seq (body := fun s : Int32 × Int32 × AH => f_X7_onReaches_l4 N 71 s.1 s.2.1 s.2.2) (fun k => (ones (fun j => ¬ W 1 j < 0) k, nI k, HP C M K O)) (n := gJ G) (r := (ones (fun j => ¬ W 1 j < 0) (gJ G), HP C M K O)) ?_ ?_ (N := N) (by omega)
  · simp only [ones, show nI 0 = 0 from rfl] at q
    simp only [q, Option.bind_some]
  · intro k hk
    have k8 : k < 9 := by omega
    have k7 : k < 8 := by omega
    have e1 := (hW.2.2.1 k hk).1
    simp only [f_X7_onReaches_l4, f_X7_onReaches_b31, ↓b_rdM, ↓b_raM, ↓b_rlM, h.2.2.1, h.2.1, nle hk (by omega), k8, ones, nI_1, decide_eq_true_eq, ↓reduceIte, k7, e1]
    by_cases z : W 1 k < 0
    · simp only [z, not_true_eq_false, ↓reduceIte, Int32.or_zero]
    · simp only [z, not_false_eq_true, ↓reduceIte]
  · simp only [f_X7_onReaches_l4, ↓b_rdM, ↓b_rlM, h.2.2.1, h.2.1, yle (Nat.le_refl (gJ G)) (by omega), ↓reduceIte]
set_option maxHeartbeats 4000000 in
theorem fairOnes_v (hG : okG G) (h : RGm M G) (hW : RWm G b M W) (hN : 1000 ≤ N) : f_X7_fairOnes N (HP C M K O) 71 = some (setFa G W, HP C M K O) := by
  unfold f_X7_fairOnes f_X7_fairOnes_b4 setFa
  have hJ := hG.2.2.1
  have hR := hG.2.1
  have q := itr_seq (body := fun s : Int32 × Int32 × AH => f_X7_fairOnes_l4 N 71 s.1 s.2.1 s.2.2) (fun k => (ones (fun j => W 3 j = allS G) k, nI k, HP C M K O)) (n := gJ G) (r := (ones (fun j => W 3 j = allS G) (gJ G), HP C M K O)) ?_ ?_ (N := N) (by omega)
  · simp only [ones, show nI 0 = 0 from rfl] at q
    simp only [q, Option.bind_some]
  · intro k hk
    have k8 : k < 9 := by omega
    skip
    simp only [f_X7_fairOnes_l4, f_X7_fairOnes_b30, ↓b_rdM, ↓b_raM, ↓b_rlM, h.2.2.1, h.2.1, nle hk (by omega), k8, ones, nI_1, decide_eq_true_eq, ↓reduceIte, ↓bnd (isFair_m (N := N) (C := C) (K := K) (O := O) hG h hW hk)]
    by_cases z : W 3 k = allS G
    · simp only [z, ↓reduceIte, show ¬ (1 : Int32) = 0 by decide]
    · simp only [z, ↓reduceIte, Int32.or_zero]
  · simp only [f_X7_fairOnes_l4, ↓b_rdM, ↓b_rlM, h.2.2.1, h.2.1, yle (Nat.le_refl (gJ G)) (by omega), ↓reduceIte]
set_option maxHeartbeats 4000000 in
theorem pools_v (hG : okG G) (h : RGm M G) (hW : RWm G b M W) (hN : 1000 ≤ N) : f_X7_pools N (HP C M K O) 71 = some (setPo G W, HP C M K O) := by
  unfold f_X7_pools f_X7_pools_b4 setPo
  have hJ := hG.2.2.1
  have hR := hG.2.1
  have q := itr_seq (body := fun s : Int32 × Int32 × AH => f_X7_pools_l4 N 71 s.1 s.2.1 s.2.2) (fun k => (ones (fun r => W 6 r = 0) k, nI k, HP C M K O)) (n := gRn G) (r := (ones (fun r => W 6 r = 0) (gRn G), HP C M K O)) ?_ ?_ (N := N) (by omega)
  · simp only [ones, show nI 0 = 0 from rfl] at q
    simp only [q, Option.bind_some]
  · intro k hk
    have k8 : k < 9 := by omega
    have e6 := (hW.2.2.2 k hk).1
    simp only [f_X7_pools_l4, f_X7_pools_b31, ↓b_rdM, ↓b_raM, ↓b_rlM, h.2.2.1, h.2.1, nle hk (by omega), k8, ones, nI_1, decide_eq_true_eq, ↓reduceIte, e6]
    split <;> simp
  · simp only [f_X7_pools_l4, ↓b_rdM, ↓b_rlM, h.2.2.1, h.2.1, yle (Nat.le_refl (gRn G)) (by omega), ↓reduceIte]
theorem setAt_lt (hG : okG G) (p : Int32) : ∃ s, s < 256 ∧ setAt G W p = nI s := ones_lt _ hG.2.2.1
theorem bitsAt {h : AH} (hG : okG G) (p : Int32) (hN : 1000 ≤ N) : f_X7_bitsOf N h (setAt G W p) = some (bc (setAt G W p), h) := by
  obtain ⟨s, hs, e⟩ := setAt_lt (W := W) hG p
  rw [e]
  exact bitsOf_m (by omega) hN
set_option maxHeartbeats 4000000 in
theorem crowd_w (hg : gok g) (hw : wok wa) (hG : okG G) (h : RG g C G) (hW : RW G wa C W) (hN : 1000 ≤ N) : f_X5_crowd N (HP C M K O) wa g = some ((crV G W (gRn G)).1, HP C M K O) := by
  unfold f_X5_crowd f_X5_crowd_b7
  have hR := hG.2.1
  have q := itr_seq (body := fun s : Int32 × Int32 × Int32 × AH => f_X5_crowd_l7 N wa g s.1 s.2.1 s.2.2.1 s.2.2.2) (fun k => ((crV G W k).1, (crV G W k).2, nI k, HP C M K O)) (n := gRn G) (r := ((crV G W (gRn G)).1, HP C M K O)) ?_ ?_ (N := N) (by omega)
  · simp only [crV, show nI 0 = 0 from rfl] at q
    simp only [q, Option.bind_some]
  · intro k hk
    simp only [f_X5_crowd_l7, f_X5_crowd_b40, ↓b_rG hg, ↓b_rW hw, h.2.1, nle hk (by omega), ↓reduceIte, ↓bnd (onesOn_w hg hw hG h hW hN _), ↓bnd (bitCount_c _ _ _), nI_1, crV]
    split <;> rfl
  · simp only [f_X5_crowd_l7, ↓b_rG hg, h.2.1, yle (Nat.le_refl (gRn G)) (by omega), ↓reduceIte]
theorem crV_i (G : GT) (W : ST) : ∀ k, k ≤ 9 → ((crV G W k).1 = -1 ∧ (crV G W k).2 = 0) ∨ (¬ (crV G W k).1 = -1 ∧ (crV G W k).2 = bc (setAt G W (crV G W k).1)) := by
  intro k
  induction k with
  | zero => intro _; left; exact ⟨rfl, rfl⟩
  | succ k ih =>
    intro hk
    unfold crV
    split
    · exact ih (by omega)
    · right; exact ⟨(neg_cases (by omega)).1, rfl⟩
set_option maxHeartbeats 4000000 in
theorem crowdNow_v (hG : okG G) (h : RGm M G) (hW : RWm G b M W) (hN : 1000 ≤ N) : f_X7_crowdNow N (HP C M K O) 71 = some ((crV G W (gRn G)).1, HP C M K O) := by
  unfold f_X7_crowdNow f_X7_crowdNow_b4
  have hR := hG.2.1
  have q := itr_seq (body := fun s : Int32 × Int32 × AH => f_X7_crowdNow_l4 N 71 s.1 s.2.1 s.2.2) (fun k => ((crV G W k).1, nI k, HP C M K O)) (n := gRn G) (r := ((crV G W (gRn G)).1, HP C M K O)) ?_ ?_ (N := N) (by omega)
  · simp only [crV, show nI 0 = 0 from rfl] at q
    simp only [q, Option.bind_some]
  · intro k hk
    rcases crV_i G W k (by omega) with ⟨q1, q2⟩ | ⟨q1, q2⟩
    · simp only [f_X7_crowdNow_l4, f_X7_crowdNow_b39, f_X7_crowdNow_b44, ↓b_rdM, ↓b_rlM, h.2.1, nle hk (by omega), ↓reduceIte, ↓bnd (whoIs_w hG h hW hN _), ↓bnd (bitsAt hG _ hN), nI_1, crV, q1, q2]
      split
      · simp only [q1]
      · rfl
    · simp only [f_X7_crowdNow_l4, f_X7_crowdNow_b39, f_X7_crowdNow_b44, ↓b_rdM, ↓b_rlM, h.2.1, nle hk (by omega), ↓reduceIte, ↓bnd (whoIs_w hG h hW hN _), ↓bnd (bitsAt hG _ hN), nI_1, crV, q1, ← q2]
      split <;> rfl
  · simp only [f_X7_crowdNow_l4, ↓b_rdM, ↓b_rlM, h.2.1, yle (Nat.le_refl (gRn G)) (by omega), ↓reduceIte]
end S38
