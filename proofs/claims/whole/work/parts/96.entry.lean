/-! the law from its entry -/
set_option maxRecDepth 100000 in
set_option maxHeartbeats 4000000 in
theorem law_entry {Gg : JG} {X : JX} (E : jE Gg X (RL, cL_law, 7)) (hX : X.2.2.2.1 = room_1) (hz : X.2.2.2.2.1.heap.size = gb Gg) {L : Nat} {xs : Nat → Int32} (hS9 : jScr Gg X L xs) (hL : L ≤ 3072) {Q : State → Prop} (hend : ∀ h lv cells slots, cells ≤ 601024 → slots ≤ 7293033 → JW Gg X (RL, cL_law, 7) h lv [] 2486 cells slots Q) : JW Gg X (RL, cL_law, 7) [] [(0, .ref 4000000)] [] 0 0 0 Q := by
  obtain ⟨h6', h7', C, M, G, W, e6, l6, e7, l7, e8, hR⟩ := start
  have rm : ∀ a b, a ≤ 601024 → b ≤ 7293033 → a ≤ X.2.2.2.1.cells ∧ b ≤ X.2.2.2.1.slots := fun a b h1 h2 => by rw [hX]; exact ⟨h1, h2⟩
  have rf9 : ∀ a b, a ≤ 2048 → b ≤ 84000 → a ≤ X.2.2.2.1.frames ∧ b ≤ X.2.2.2.1.locals := fun a b h1 h2 => by rw [hX]; exact ⟨h1, h2⟩
  refine J_newv (fs := [.null, .int 0, .int 0, .null, .null, .null, .null, .int 0, .null, .null, .null, .null, .null]) (a := 0) (h' := [b6]) E tyX6 (jd dk_L_law_0 0 rfl) (jl0_in _ (List.mem_of_getElem? (i := 22) rfl)) (jl0_in _ (List.mem_of_getElem? (i := 23) rfl)) (jl0_in _ (List.mem_of_getElem? (i := 1) rfl)) rfl inX6 tyX6_ok (by decide +kernel) (fun _ => rfl) (by rw [hz]; rfl) (by decide) (rm _ _ (by decide) (by decide)) rfl ?_
  refine J_dup E (jd dk_L_law_0 1 rfl) rfl ?_
  refine J_ctor (host := "RoundCoracles") E (jd dk_L_law_0 2 rfl) (Or.inr ml_RL_109) cal_X6_init (by rw [hz]; rfl) (lk_X6_init (jE_g E) (jE_tr E) 10000 (by decide) e6) rfl (Nat.le_of_ble_eq_true rfl) (rf9 _ _ (by decide) (by decide)) (rm _ _ (by decide) (by decide)) rfl ?_
  rintro _ h9 ⟨rfl, e9⟩
  rw [e9]
  refine J_astore_n (lv' := [(1, .ref 0), (0, .ref 4000000)]) E (jd dk_L_law_0 3 rfl) rfl (by decide) rfl ?_
  refine J_newv (fs := [.null, .null, .null, .null, .int 0, .null, .null, .null, .null, .null, .null, .null, .null, .null, .null, .null, .null, .int 0, .int 0, .int 0, .int 0, .int 0, .int 0, .int 0, .int 0, .int 0, .int 0, .int 0, .null, .null, .null, .null, .null, .null, .int 0, .int 0, .int 0, .null, .null, .null, .int 0, .null, .null, .null, .null, .null, .null, .null, .null, .int 0, .null, .int 0, .int 0, .int 0, .int 0, .null, .null, .null, .null, .null, .null]) (a := 71) (h' := h6' ++ [b7]) E tyX7 (jd dk_L_law_0 4 rfl) (jl23_in _ (List.mem_of_getElem? (i := 30) rfl)) (jl23_in _ (List.mem_of_getElem? (i := 31) rfl)) (jl0_in _ (List.mem_of_getElem? (i := 10) rfl)) rfl inX7 tyX7_ok (by decide +kernel) (fun _ => rfl) (by rw [hz, l6]) (by rw [l6]; decide) (rm _ _ (by decide) (by decide)) (by unfold jmk; rw [l6]; rfl) ?_
  refine J_dup E (jd dk_L_law_0 5 rfl) rfl ?_
  refine J_ctor (host := "RoundCoracles") E (jd dk_L_law_0 6 rfl) (Or.inr ml_RL_112) cal_X7_init (by rw [hz, List.length_append, l6]; rfl) (lk_X7_init (jE_g E) (jE_tr E) 10000 (by rw [List.length_append, l6]; decide) e7) rfl (Nat.le_of_ble_eq_true rfl) (rf9 _ _ (by decide) (by decide)) (rm _ _ (by decide) (by decide)) rfl ?_
  rintro _ h9 ⟨rfl, e9⟩
  rw [e9]
  refine J_astore_n (lv' := [(2, .ref 71), (1, .ref 0), (0, .ref 4000000)]) E (jd dk_L_law_0 7 rfl) rfl (by decide) rfl ?_
  refine J_iconst (v := 1) E (jd dk_L_law_0 8 rfl) rfl ?_
  refine J_newav (N' := 1) (ak := 3) (a0 := (1, .inr (.inl (fun _ => 0)))) (a := 111) (h' := HP C M K0 (fun _ => 0)) E (jd dk_L_law_0 9 rfl) rfl (jl36_in _ (List.mem_of_getElem? (i := 25) rfl)) rfl (fun _ _ z => z) (fun _ => rfl) (by decide) (by decide) (by decide) (by rw [hz, l7]) (by rw [l7]; decide) (rm _ _ (by decide) (by decide)) (by rw [← e8]; unfold jmk; rw [l7]; rfl) ?_
  refine J_astore_n (lv' := [(3, .ref 111), (2, .ref 71), (1, .ref 0), (0, .ref 4000000)]) E (jd dk_L_law_0 10 rfl) rfl (by decide) rfl ?_
  refine J_iconst (v := 0) E (jd dk_L_law_0 11 rfl) rfl ?_
  refine J_istore (lv' := [(4, .int 0), (3, .ref 111), (2, .ref 71), (1, .ref 0), (0, .ref 4000000)]) E (jd dk_L_law_0 12 rfl) (by decide) rfl ?_
  refine J_sub [4, 3, 2, 1, 0] rfl ?_
  exact law_loop E hX hS9 hL hend 512 0 C M K0 (fun _ => 0) G W _ _ (by omega) (by decide) (by decide) (by decide) hR
