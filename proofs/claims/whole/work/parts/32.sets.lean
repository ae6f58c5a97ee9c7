/-! sets of judges as bits -/
def ones (p : Nat → Bool) : Nat → Int32
  | 0 => 0
  | k + 1 => if p k then ones p k ||| ((1 : Int32) <<< (nI k &&& 31)) else ones p k
theorem ones_congr {p q : Nat → Bool} : ∀ {n : Nat}, (∀ j, j < n → p j = q j) → ones p n = ones q n := by
  intro n
  induction n with
  | zero => intro _; rfl
  | succ k ih =>
    intro h
    rw [ones, ones, ih (fun j hj => h j (by omega)), h k (by omega)]
theorem nle {k n : Nat} (h : k < n) (hn : n ≤ 10000) : (nI n ≤ nI k) = False := eq_false (nI_ge h (by omega))
theorem yle {k n : Nat} (h : n ≤ k) (hn : k ≤ 10000) : (nI n ≤ nI k) = True := eq_true (nI_le h (by omega))
section S32
variable {C M : ST} {K : KT} {O : Nat → Int64} {N J Rn wa g : Nat}
set_option maxHeartbeats 4000000 in
theorem onesOn_c (hg : g = 4 ∨ g = 12) (hw : wa = 21 ∨ wa = 54) (hJ : C g 2 = nI J) (h8 : J ≤ 8) (hN : 100 ≤ N) (p : Int32) (M : ST) : f_X5_onesOn N (HP C M K O) wa g p = some (ones (fun j => C (wa + 1) j = p) J, HP C M K O) := by
  unfold f_X5_onesOn f_X5_onesOn_b5
  rw [show ((0 : Int32), (0 : Int32), HP C M K O) = (fun k => (ones (fun j => C (wa + 1) j = p) k, nI k, HP C M K O)) 0 from rfl, itr_seq (fun k => (ones (fun j => C (wa + 1) j = p) k, nI k, HP C M K O)) (n := J) (r := (ones (fun j => C (wa + 1) j = p) J, HP C M K O)) ?_ ?_ (by omega)]
  · simp only [Option.bind_some]
  · intro k hk
    have k8 : k < 8 := by omega
    rcases hg with rfl | rfl <;> rcases hw with rfl | rfl <;>
    · simp only [f_X5_onesOn_l5, f_X5_onesOn_b32, rdC, raC, Option.bind_some, hJ, nle hk (by omega), k8, ones, nI_1, decide_eq_true_eq, if_false]
      split <;> rfl
  · rcases hg with rfl | rfl <;> rcases hw with rfl | rfl <;> simp only [f_X5_onesOn_l5, rdC, Option.bind_some, hJ, yle (Nat.le_refl J) (by omega), if_true]
set_option maxHeartbeats 4000000 in
theorem whoIs_m (hJ : M 75 2 = nI J) (h8 : J ≤ 8) (hN : 100 ≤ N) (p : Int32) (C : ST) : f_X7_whoIs N (HP C M K O) 71 p = some (ones (fun j => M 87 j = p) J, HP C M K O) := by
  unfold f_X7_whoIs f_X7_whoIs_b4
  rw [show ((0 : Int32), (0 : Int32), HP C M K O) = (fun k => (ones (fun j => M 87 j = p) k, nI k, HP C M K O)) 0 from rfl, itr_seq (fun k => (ones (fun j => M 87 j = p) k, nI k, HP C M K O)) (n := J) (r := (ones (fun j => M 87 j = p) J, HP C M K O)) ?_ ?_ (by omega)]
  · simp only [Option.bind_some]
  · intro k hk
    have k8 : k < 8 := by omega
    simp only [f_X7_whoIs_l4, f_X7_whoIs_b32, rdM, raM, rlM, Option.bind_some, hJ, nle hk (by omega), k8, ones, nI_1, decide_eq_true_eq, if_false]
    split <;> simp
  · simp only [f_X7_whoIs_l4, rdM, rlM, Option.bind_some, hJ, yle (Nat.le_refl J) (by omega), if_true]
end S32
