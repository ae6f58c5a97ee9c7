/-! first, last -/
def ntzv (x : Int32) : Int32 := ((f_J6_numberOfTrailingZeros_0f7a4 0 [] x).getD (0, [])).1
theorem ntz_c (N : Nat) (h : AH) (x : Int32) : f_J6_numberOfTrailingZeros_0f7a4 N h x = some (ntzv x, h) := by
  unfold ntzv
  simp only [f_J6_numberOfTrailingZeros_0f7a4, f_J6_numberOfTrailingZeros_0f7a4_b34, f_J6_numberOfTrailingZeros_0f7a4_b49, f_J6_numberOfTrailingZeros_0f7a4_b62, f_J6_numberOfTrailingZeros_0f7a4_b74]
  repeat' split
  all_goals rfl
theorem ntz_k : ∀ m, m < 8 → ntzv (nI (2 ^ m)) = nI m := by decide +kernel
theorem fresh_k : ∀ m, m < 8 → ∀ s, s < 256 → (nI s ||| ((1 : Int32) <<< (nI m &&& 31))) &&& (nI s ^^^ (-1)) = 0 ∨ (nI s ||| ((1 : Int32) <<< (nI m &&& 31))) &&& (nI s ^^^ (-1)) = nI (2 ^ m) := by decide +kernel
theorem same_k (x : Int32) : x &&& (x ^^^ (-1)) = 0 := by
  rw [andnot, Int32.and_self, Int32.xor_self]
theorem bit_k : ∀ m, m < 8 → ∀ k, k < 8 → (((nI (2 ^ m) >>> (nI k &&& 31)) &&& 1) = 1 ↔ k = m) := by decide +kernel
theorem bit_0 : ∀ k, k < 8 → ¬ (((0 : Int32) >>> (nI k &&& 31)) &&& 1) = 1 := by decide +kernel
theorem goV_3 {G : GT} {W : ST} {j : Nat} {y : Int32} : goV G W j y 3 = W 3 := by
  unfold goV
  split
  · rw [up_o (by decide), up_o (by decide)]
  · rw [up_o (by decide)]
theorem letA_3 {G : GT} {W : ST} : ∀ k, letA G W k 3 = W 3
  | 0 => rfl
  | k + 1 => by
    unfold letA
    split
    · rw [goV_3]; exact letA_3 k
    · exact letA_3 k
theorem driftV_3 {G : GT} {W : ST} {fd : Int32} {k i : Nat} : driftV G fd W k 3 i = if i = k then W 3 k ||| ((1 : Int32) <<< (W 2 k &&& 31)) else W 3 i := by
  unfold driftV
  rw [goV_3]
  unfold turnA faceV seeV
  rw [up_o (by decide), up_o (by decide), up_s]
  rfl
theorem drfA_3 {G : GT} {W : ST} {fd : Int32} (hG : okG G) (ok : okW G W) {j : Nat} (hj : j < gJ G) : ∀ k, k ≤ gJ G → (k ≤ j → drfA G fd W k 3 j = W 3 j) ∧ (drfA G fd W k 3 j = W 3 j ∨ ∃ m, m < gsd G ∧ drfA G fd W k 3 j = W 3 j ||| ((1 : Int32) <<< (nI m &&& 31)))
  | 0 => fun _ => ⟨fun _ => rfl, .inl rfl⟩
  | k + 1 => fun hk => by
    obtain ⟨h1, h2⟩ := drfA_3 (fd := fd) hG ok hj k (by omega)
    have ok' := okW_drfA (fd := fd) hG ok k (by omega)
    unfold drfA
    split
    · rw [driftV_3]
      by_cases e : j = k
      · subst e
        rw [if_pos rfl, h1 (Nat.le_refl j)]
        obtain ⟨m, hm, em⟩ := (ok'.1 j hj).2.1
        refine ⟨fun q => by omega, .inr ⟨m, hm, by rw [em]⟩⟩
      · rw [if_neg e]
        exact ⟨fun q => h1 (by omega), h2⟩
    · exact ⟨fun q => h1 (by omega), h2⟩
theorem passV_3 {G : GT} {W : ST} {fd : Int32} (hG : okG G) (ok : okW G W) {j : Nat} (hj : j < gJ G) : passV G fd W 3 j &&& (W 3 j ^^^ (-1)) = 0 ∨ ∃ m, m < gsd G ∧ passV G fd W 3 j &&& (W 3 j ^^^ (-1)) = nI (2 ^ m) := by
  have q := (drfA_3 (fd := fd) hG (okW_letA hG ok _ (Nat.le_refl _)) hj _ (Nat.le_refl _)).2
  have e : passV G fd W 3 = drfA G fd (letA G W (gJ G)) (gJ G) 3 := by unfold passV tickV; rw [up_o (by decide)]
  rw [e]
  rw [letA_3] at q
  rcases q with q | ⟨m, hm, q⟩
  · left; rw [q]; exact same_k _
  · obtain ⟨s, hs, es⟩ := (ok.1 j hj).2.2.1
    have := hG.1
    rw [q, es]
    rcases fresh_k m (by omega) s hs with z | z
    · left; exact z
    · right; exact ⟨m, hm, z⟩
def la (G : GT) (j : Nat) (T : ST) : Nat → Int32
  | 0 => -1
  | k + 1 => if passN G (k + 1) T 3 j &&& (passN G k T 3 j ^^^ (-1)) = 0 then la G j T k else ntzv (passN G (k + 1) T 3 j &&& (passN G k T 3 j ^^^ (-1)))
def fs (G : GT) (had : Int32) (T : ST) : Nat → Int32
  | 0 => 0
  | k + 1 => if fs G had T k = 0 then setAt G (passN G (k + 1) T) (-2) &&& (had ^^^ (-1)) else fs G had T k
theorem fs_end {G : GT} {had : Int32} {T : ST} {k : Nat} (h : ¬ fs G had T k = 0) : ∀ m, fs G had T (k + m) = fs G had T k
  | 0 => rfl
  | m + 1 => by
    have := fs_end h m
    rw [← Nat.add_assoc, fs, this, if_neg h]
def lw (J : Nat) (x : Int32) : Nat → Int32
  | 0 => -1
  | k + 1 => if ((x >>> (nI (J - (k + 1)) &&& 31)) &&& 1) = 1 then nI (J - (k + 1)) else lw J x k
theorem lw_k : ∀ J, J < 9 → ∀ t, t < 2 ^ J → lw J (nI t) J = if nI t = 0 then -1 else ntzv (nI t) := by decide +kernel
section S47
variable {C C0 M M1 W T : ST} {K : KT} {O : Nat → Int64} {N : Nat} {G : GT} {b : Bool}
theorem low_m {h : AH} {J : Nat} {x : Int32} (hJ : J ≤ 8) (hN : 1000 ≤ N) : itr (fun s : Int32 × Int32 × AH => f_X7_first_l78 N x s.1 s.2.1 s.2.2) N (-1, nI J - 1, h) = some (lw J x J, h) := by
  refine itr_seq (body := fun s : Int32 × Int32 × AH => f_X7_first_l78 N x s.1 s.2.1 s.2.2) (fun k => (lw J x k, nI (J - k) - 1, h)) (n := J) (r := (lw J x J, h)) ?_ ?_ (N := N) (by omega)
  · intro k hk
    obtain ⟨m, hm⟩ : ∃ m, J - k = m + 1 := ⟨J - k - 1, by omega⟩
    have e : J - (k + 1) = m := by omega
    have n0 : ¬ nI m < 0 := nI_pos (by omega)
    simp only [hm, nI_pred, f_X7_first_l78, f_X7_first_b95, n0, ↓reduceIte, lw, e, f_X7_isOf]
    have e2 : nI m + -1 = nI m - 1 := by rw [Int32.sub_eq_add_neg]
    by_cases z : ((x >>> (nI m &&& 31)) &&& 1) = 1
    · simp only [z, ↓reduceIte, Option.bind_some, show ¬ (1 : Int32) = 0 by decide, e2]
    · simp only [z, ↓reduceIte, Option.bind_some, e2]
  · simp only [Nat.sub_self, f_X7_first_l78, show nI 0 - 1 < 0 by decide, ↓reduceIte]
set_option maxHeartbeats 4000000 in
theorem q_first (hc : CI K C G W) (hm : MI M G W) (hN : 1000 ≤ N) : ∃ v, QD K C M O (f_X6_first N (HP C M K O) 0) v ∧ ∀ C' O', QM C' M K O' (f_X7_first N (HP C' M K O') 71) (.inr v) := by
  have m0 := m0_of hm
  have hJ := hm.1.2.2.1
  refine ⟨if fs G (setAt G W (-2)) (clr W) 60 = 0 then -1 else ntzv (fs G (setAt G W (-2)) (clr W) 60), ?_, fun C' O' => ?_⟩
  · obtain ⟨C1, t1, T1⟩ := tryFor0 (M := M) (O := O) hc (fun _ _ => rfl) hN
    have q := itr_inv (body := fun s : Int32 × AH => f_X6_first_l21 N 0 (setAt G W (-2)) s.1 s.2)
      (fun k s => ∃ C', s = (nI (k + 1), HP C' M K O) ∧ TC G C C' (passN G k (clr W)) ∧ fs G (setAt G W (-2)) (clr W) k = 0)
      (P := fun r => ∃ C', r = (if fs G (setAt G W (-2)) (clr W) 60 = 0 then Sum.inr (HP C' M K O) else Sum.inl (fs G (setAt G W (-2)) (clr W) 60, HP C' M K O)) ∧ ∀ a, a < 54 → C' a = C a) (n := 60) ?_ ?_ (s := (1, HP C1 M K O)) ⟨C1, rfl, T1, rfl⟩ (N := N) (by omega)
    · obtain ⟨r, q1, C2, e, q2⟩ := q
      rw [e] at q1
      refine ⟨C2, ?_, q2⟩
      simp only [f_X6_first, f_X6_first_b21, ↓b_rdC, ↓bnd (landed_w hc.1 w21 hc.2.1 hc.2.2.1 hc.2.2.2.1 hN), ↓bnd t1, q1, Option.bind_some]
      by_cases z : fs G (setAt G W (-2)) (clr W) 60 = 0
      · rw [if_pos z, if_pos z, Sum.elim_inr]
      · rw [if_neg z, if_neg z, Sum.elim_inl]
        simp only [↓bnd (ntz_c _ _ _)]
    · rintro k s hk ⟨C2, rfl, h1, h2⟩
      obtain ⟨C3, t1, t2⟩ := TC_pass (M := M) (O := O) hc h1 0 hN
      have hc3 := CI_of hc t2.1
      have n60 : ¬ (60 : Int32) < nI (k + 1) := gt60 (by omega)
      have ef : fs G (setAt G W (-2)) (clr W) (k + 1) = setAt G (passV G 0 (passN G k (clr W))) (-2) &&& (setAt G W (-2) ^^^ (-1)) := by rw [fs, if_pos h2]; rfl
      by_cases z : fs G (setAt G W (-2)) (clr W) (k + 1) = 0
      · left
        refine ⟨(nI (k + 1 + 1), HP C3 M K O), ?_, C3, rfl, t2, z⟩
        rw [ef] at z
        simp only [f_X6_first_l21, n60, ↓reduceIte, ↓b_rdC, ↓bnd t1, ↓bnd (landed_w hc3.1 w54 hc3.2.1 hc3.2.2.1 t2.2.1 hN), z, nI_1]
      · right
        refine ⟨_, ?_, C3, rfl, t2.1⟩
        have e60 := fs_end z (59 - k)
        rw [show k + 1 + (59 - k) = 60 by omega] at e60
        rw [e60, if_neg z, ef]
        rw [ef] at z
        simp only [f_X6_first_l21, n60, ↓reduceIte, ↓b_rdC, ↓bnd t1, ↓bnd (landed_w hc3.1 w54 hc3.2.1 hc3.2.2.1 t2.2.1 hN), z]
    · rintro s ⟨C2, rfl, h1, h2⟩
      refine ⟨_, ?_, C2, rfl, h1.1⟩
      simp only [f_X6_first_l21, show (60 : Int32) < nI (60 + 1) by decide, ↓reduceIte, h2]
  · obtain ⟨M1, p1, p2⟩ := TQ_pack (C := C') (K := K) (O := O') hm hN
    have q := itr_inv (body := fun s : Int32 × Int32 × AH => f_X7_first_l25 N 71 (setAt G W (-2)) s.1 s.2.1 s.2.2)
      (fun k s => ∃ M', s = (fs G (setAt G W (-2)) (clr W) k, nI k, HP C' M' K O') ∧ TQ G false M M' (passN G k (clr W)))
      (P := fun r => ∃ M' X, r = (fs G (setAt G W (-2)) (clr W) 60, HP C' M' K O') ∧ TQ G false M M' X) (n := 60) ?_ ?_ (s := (0, 0, HP C' M1 K O')) ⟨M1, rfl, p2⟩ (N := N) (by omega)
    · obtain ⟨r, q1, M2, X, e, q2⟩ := q
      rw [e] at q1
      obtain ⟨M3, u1, u2, _, _⟩ := TQ_back (C := C') (K := K) (O := O') q2 hN
      refine ⟨_, M3, ?_, u2.1, u2.2.2, rfl⟩
      have h3 := (RGm_Fz hm.2.1 u2.1.1).2.2.1
      have hlow : lw (gJ G) (fs G (setAt G W (-2)) (clr W) 60) (gJ G) = if fs G (setAt G W (-2)) (clr W) 60 = 0 then -1 else ntzv (fs G (setAt G W (-2)) (clr W) 60) := by
        have hb : ∀ k, ∃ t, t < 2 ^ gJ G ∧ fs G (setAt G W (-2)) (clr W) k = nI t := by
          intro k
          induction k with
          | zero => exact ⟨0, Nat.two_pow_pos _, rfl⟩
          | succ k ih =>
            unfold fs
            split
            · unfold setAt
              rw [ones_N _ hJ, ones_N _ hJ, andnot, nI_and, nI_xor]
              have l1 := onesN_lt (p := fun j => decide (passN G (k + 1) (clr W) 1 j = -2)) (gJ G)
              exact ⟨_, Nat.xor_lt_two_pow l1 (Nat.lt_of_le_of_lt Nat.and_le_left l1), rfl⟩
            · exact ih
        obtain ⟨t, ht, et⟩ := hb 60
        rw [et]
        exact lw_k (gJ G) (by omega) t ht
      simp only [f_X7_first, f_X7_first_b25, f_X7_first_b57, f_X7_first_b78, ↓b_wrM, ↓b_rdM, ↓b_rlM, ↓bnd (whoIs_w hm.1 m0.2.1 m0.2.2.1 hN _), ↓bnd p1, q1, Option.bind_some, ↓bnd u1, h3, low_m hJ hN, hlow]
    · rintro k s hk ⟨M2, rfl, h1⟩
      by_cases z : fs G (setAt G W (-2)) (clr W) k = 0
      · left
        obtain ⟨M3, t1, t2⟩ := TQ_one (C := C') (K := K) (O := O') hm h1 hN
        refine ⟨(fs G (setAt G W (-2)) (clr W) (k + 1), nI (k + 1), HP C' M3 K O'), ?_, M3, rfl, t2⟩
        simp only [f_X7_first_l25, ge60 hk, ↓reduceIte, z, ↓b_rdM, ↓bnd t1, ↓bnd (whoIs_w hm.1 (TQ_g hm t2) (TQ_w t2) hN _), nI_1, fs, passN]
      · right
        refine ⟨_, ?_, M2, _, rfl, h1⟩
        have e60 := fs_end z (60 - k)
        rw [show k + (60 - k) = 60 by omega] at e60
        simp only [f_X7_first_l25, ge60 hk, ↓reduceIte, z, e60]
    · rintro s ⟨M2, rfl, h1⟩
      refine ⟨_, ?_, M2, _, rfl, h1⟩
      simp only [f_X7_first_l25, show (60 : Int32) ≤ nI 60 by decide, ↓reduceIte]
/-- the inner loop of the reference's last: at most one bit is fresh -/
theorem inner_m {C' : ST} {j : Nat} {x w v best : Int32} (hG : okG G) (hg : RGm M1 G) (hj : j < gJ G) (e3 : M1 89 j = x) (hf : x &&& (w ^^^ (-1)) = 0 ∨ ∃ m, m < gsd G ∧ x &&& (w ^^^ (-1)) = nI (2 ^ m)) (hN : 1000 ≤ N) : itr (fun s : Int32 × Int32 × AH => f_X7_last_l54 N 71 (nI j) v w s.1 s.2.1 s.2.2) N (best, 0, HP C' M1 K O) = some (if x &&& (w ^^^ (-1)) = 0 then best else ntzv (x &&& (w ^^^ (-1))), HP C' M1 K O) := by
  have hs := hG.1
  have j8 : j < 8 := by have := hG.2.2.1; omega
  rcases hf with z | ⟨m, hm, z⟩
  · rw [if_pos z]
    refine itr_seq (body := fun s : Int32 × Int32 × AH => f_X7_last_l54 N 71 (nI j) v w s.1 s.2.1 s.2.2) (fun k => (best, nI k, HP C' M1 K O)) (n := gsd G) (r := (best, HP C' M1 K O)) ?_ ?_ (N := N) (by omega)
    · intro k hk
      simp only [f_X7_last_l54, f_X7_last_b87, ↓b_rdM, ↓b_rlM, ↓b_raM, hg.1, nle hk (by omega), ↓reduceIte, j8, e3, z, f_X7_isOf, bit_0 k (by omega), Option.bind_some, nI_1]
    · simp only [f_X7_last_l54, ↓b_rdM, ↓b_rlM, hg.1, yle (Nat.le_refl (gsd G)) (by omega), ↓reduceIte]
  · have hne : ¬ nI (2 ^ m) = 0 := by
      have : ∀ m, m < 8 → ¬ nI (2 ^ m) = 0 := by decide
      exact this m (by omega)
    rw [if_neg (by rw [z]; exact hne), z, ntz_k m (by omega)]
    have q := itr_seq (body := fun s : Int32 × Int32 × AH => f_X7_last_l54 N 71 (nI j) v w s.1 s.2.1 s.2.2) (fun k => (if m < k then nI m else best, nI k, HP C' M1 K O)) (n := gsd G) (r := (nI m, HP C' M1 K O)) ?_ ?_ (N := N) (by omega)
    · exact q
    · intro k hk
      by_cases e : k = m
      · subst e
        simp only [f_X7_last_l54, f_X7_last_b87, ↓b_rdM, ↓b_rlM, ↓b_raM, hg.1, nle hk (by omega), ↓reduceIte, j8, e3, z, f_X7_isOf, bit_k k (by omega) k (by omega), Option.bind_some, nI_1, show ¬ (1 : Int32) = 0 by decide, show k < k + 1 by omega]
      · simp only [f_X7_last_l54, f_X7_last_b87, ↓b_rdM, ↓b_rlM, ↓b_raM, hg.1, nle hk (by omega), ↓reduceIte, j8, e3, z, f_X7_isOf, bit_k m (by omega) k (by omega), e, Option.bind_some, nI_1]
        have e2 : (m < k + 1) = (m < k) := by simp only [eq_iff_iff]; omega
        simp only [e2]
    · simp only [f_X7_last_l54, ↓b_rdM, ↓b_rlM, hg.1, yle (Nat.le_refl (gsd G)) (by omega), ↓reduceIte, hm]
set_option maxHeartbeats 4000000 in
theorem g_last {a : Int32} (hc : CI K C G W) (hm : MI M G W) (hN : 1000 ≤ N) (hj : inR a (gJ G)) : ∃ r, QC K C M O (f_X6_last N (HP C M K O) 0 a) r ∧ ∀ C' O', QM C' M K O' (f_X7_last N (HP C' M K O') 71 a) r := by
  have m0 := m0_of hm
  have hj' := hj
  obtain ⟨j, hj1, rfl⟩ := hj'
  have j8 : j < 8 := by have := hm.1.2.2.1; omega
  obtain ⟨C1, t1, T1⟩ := tryFor0 (M := M) (O := O) hc (fun _ _ => rfl) hN
  refine ⟨.inr (la G j (clr W) 60), ?_, fun C' O' => ?_⟩
  · have q := itr_inv (body := fun s : Int32 × Int32 × AH => f_X6_last_l13 N 0 (nI j) s.1 s.2.1 s.2.2)
      (fun k s => ∃ C', s = (la G j (clr W) k, nI (k + 1), HP C' M K O) ∧ TC G C C' (passN G k (clr W)))
      (P := fun r => ∃ C', r = (la G j (clr W) 60, HP C' M K O) ∧ ∀ a, a < 54 → C' a = C a) (n := 60) ?_ ?_ (s := (-1, 1, HP C1 M K O)) ⟨C1, rfl, T1⟩ (N := N) (by omega)
    · obtain ⟨r, q1, C2, e, q2⟩ := q
      rw [e] at q1
      refine ⟨C2, ?_, q2⟩
      simp only [f_X6_last, f_X6_last_b13, ↓b_rdC, ↓Sum.elim_inr, ↓bnd (needJ_y hc hj), ↓bnd t1, q1, Option.bind_some]
    · rintro k s hk ⟨C2, rfl, h1⟩
      left
      obtain ⟨C3, t1, t2⟩ := TC_pass (M := M) (O := O) hc h1 0 hN
      have e3 := h1.2.1.2.1 3 j (by omega) (by omega) hj1
      have e3' := t2.2.1.2.1 3 j (by omega) (by omega) hj1
      have n60 : ¬ (60 : Int32) < nI (k + 1) := gt60 (by omega)
      refine ⟨(la G j (clr W) (k + 1), nI (k + 1 + 1), HP C3 M K O), ?_, C3, rfl, t2⟩
      simp only [f_X6_last_l13, f_X6_last_b69, n60, ↓reduceIte, ↓b_rdC, ↓b_rW w54, ↓b_rWa w54, j8, e3, ↓bnd t1, e3', ↓bnd (ntz_c _ _ _), nI_1, la, passN]
      by_cases z : passV G 0 (passN G k (clr W)) 3 j &&& (passN G k (clr W) 3 j ^^^ -1) = 0
      · simp only [z, ↓reduceIte]
      · simp only [z, ↓reduceIte]
    · rintro s ⟨C2, rfl, h1⟩
      refine ⟨_, ?_, C2, rfl, h1.1⟩
      simp only [f_X6_last_l13, show (60 : Int32) < nI (60 + 1) by decide, ↓reduceIte]
  · obtain ⟨M1, p1, p2⟩ := TQ_pack (C := C') (K := K) (O := O') hm hN
    have q := itr_inv (body := fun s : Int32 × Int32 × AH => f_X7_last_l32 N 71 (nI j) s.1 s.2.1 s.2.2)
      (fun k s => ∃ M', s = (la G j (clr W) k, nI k, HP C' M' K O') ∧ TQ G false M M' (passN G k (clr W)))
      (P := fun r => ∃ M' X, r = (la G j (clr W) 60, HP C' M' K O') ∧ TQ G false M M' X) (n := 60) ?_ ?_ (s := (-1, 0, HP C' M1 K O')) ⟨M1, rfl, p2⟩ (N := N) (by omega)
    · obtain ⟨r, q1, M2, X, e, q2⟩ := q
      rw [e] at q1
      obtain ⟨M3, u1, u2, _, _⟩ := TQ_back (C := C') (K := K) (O := O') q2 hN
      refine ⟨_, M3, ?_, u2.1, u2.2.2, rfl⟩
      simp only [f_X7_last, f_X7_last_b32, ↓b_wrM, ↓b_rdM, ↓reduceIte, show ¬ (1 : Int32) = 0 by decide, ↓bnd (isJ_y m0.2.1 hm.1 hj), ↓bnd p1, q1, Option.bind_some, ↓bnd u1]
    · rintro k s hk ⟨M2, rfl, h1⟩
      left
      obtain ⟨M3, t1, t2⟩ := TQ_one (C := C') (K := K) (O := O') hm h1 hN
      have e3 := ((TQ_w h1).2.2.1 j hj1).2.2.1
      have e3' := ((TQ_w t2).2.2.1 j hj1).2.2.1
      have inn := inner_m (N := N) (K := K) (O := O') (C' := C') (v := nI k) (best := la G j (clr W) k) hm.1 (TQ_g hm t2) hj1 e3' (passV_3 (fd := 0) hm.1 (TQ_o h1) hj1) hN
      refine ⟨(la G j (clr W) (k + 1), nI (k + 1), HP C' M3 K O'), ?_, M3, rfl, t2⟩
      simp only [f_X7_last_l32, f_X7_last_b54, ge60 hk, ↓reduceIte, ↓b_rdM, ↓b_raM, j8, e3, ↓bnd t1, inn, Option.bind_some, nI_1, la, passN]
      by_cases z : passV G 0 (passN G k (clr W)) 3 j &&& (passN G k (clr W) 3 j ^^^ -1) = 0
      · simp only [z, ↓reduceIte]
      · simp only [z, ↓reduceIte]
    · rintro s ⟨M2, rfl, h1⟩
      refine ⟨_, ?_, M2, _, rfl, h1⟩
      simp only [f_X7_last_l32, show (60 : Int32) ≤ nI 60 by decide, ↓reduceIte]
set_option maxHeartbeats 4000000 in
theorem q_last {a : Int32} (hc : CI K C G W) (hm : MI M G W) (hN : 1000 ≤ N) : ∃ r, QC K C M O (f_X6_last N (HP C M K O) 0 a) r ∧ ∀ C' O', QM C' M K O' (f_X7_last N (HP C' M K O') 71 a) r := by
  have m0 := MI_EQ hm (EQ_code M 0)
  by_cases h0 : inR a (gJ G)
  · exact g_last hc hm hN h0
  · refine ⟨.inl 1, ⟨C, ?_, fun _ _ => rfl⟩, fun C' O' => ?_⟩
    · simp only [f_X6_last_b69, f_X6_last_b13, f_X6_last, ↓b_rdC, ↓Sum.elim_inr, ↓Sum.elim_inl, ↓bnd (needJ_n hc h0)]
    · obtain ⟨M', f1, f2, f3⟩ := QM_fail (N := N) (C := C') (M := M) (K := K) (O := O') (k := 1) (kv := 1) rfl
      refine ⟨0, M', ?_, f2, f3⟩
      simp only [f_X7_last_b87, f_X7_last_b54, f_X7_last_b32, f_X7_last, ↓b_wrM, ↓b_rdM, ↓reduceIte, show ¬ (1 : Int32) = 0 by decide, ↓bnd (isJ_n m0.2.1 hm.1 h0), ↓bnd f1]
end S47
