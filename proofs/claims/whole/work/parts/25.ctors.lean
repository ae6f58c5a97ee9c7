theorem dk_X2_init_0 : jDec cX2_init [(0, .aload_n 0, 1), (1, .invokespecial 1, 3), (4, .aload_n 0, 1), (5, .bipush 6, 2), (7, .newarray .int, 2), (9, .putfield 7, 3), (12, .aload_n 0, 1), (13, .bipush 48, 2), (15, .newarray .int, 2), (17, .putfield 13, 3), (20, .return_, 1)] := by
  unfold jDec
  decide +kernel
def f_X2_init (N : Nat) (h : AH) (a0 : Nat) : Option AH :=
  (jmk (.inl (0, 6, .inl (fun _ => 0))) h).bind fun (x1, h2) =>
  (jwr 2 h2 a0 0 x1).bind fun h4 =>
  (jmk (.inl (0, 48, .inl (fun _ => 0))) h4).bind fun (x6, h7) =>
  (jwr 2 h7 a0 1 x6).bind fun h9 =>
  some h9
set_option maxRecDepth 100000 in
set_option maxHeartbeats 4000000 in
theorem len_X2_init (N : Nat) {h r : AH} {a0 : Nat} (hf : f_X2_init N h a0 = some r) : r.length = h.length + 2 := by
  unfold f_X2_init at hf
  obtain ⟨⟨x1, h2⟩, e3, hf⟩ := jbind hf
  have l_h2 := jmk_len e3
  obtain ⟨h4, e5, hf⟩ := jbind hf
  have l_h4 := jpf_len e5
  obtain ⟨⟨x6, h7⟩, e8, hf⟩ := jbind hf
  have l_h7 := jmk_len e8
  obtain ⟨h9, e10, hf⟩ := jbind hf
  have l_h9 := jpf_len e10
  cases hf
  omega
set_option maxRecDepth 100000 in
set_option maxHeartbeats 4000000 in
theorem lk_X2_init {G : JG} {l : Launch} (hG : jG G) (htr : l.stackTraces = false) (N : Nat) {h : AH} {a0 : Nat} {r : AH} (hb9 : h.length ≤ 5000) (hf : f_X2_init N h a0 = some r) : jMetN G l yX2_init cX2_init 1 0 2 54 [.ref a0] h (jpv r) := by
  unfold f_X2_init at hf
  refine jMetN_of hG htr (by decide) (Nat.le_of_ble_eq_true rfl) ?_
  intro X E hl9 hr hX hnm hz0
  show JW G X (RX2, cX2_init, 1) h [(0, .ref a0)] [] 0 0 0 (jEnd G X (jpv r) 2 54)
  refine J_aload_n E (jd dk_X2_init_0 0 rfl) rfl 0 rfl ?_
  refine J_obj E (jd dk_X2_init_0 1 rfl) (jl3_in _ (List.mem_of_getElem? (i := 5) rfl)) (jl0_in _ (List.mem_of_getElem? (i := 28) rfl)) (jl0_in _ (List.mem_of_getElem? (i := 29) rfl)) (Nat.le_of_ble_eq_true rfl) ?_
  refine J_aload_n E (jd dk_X2_init_0 2 rfl) rfl 0 rfl ?_
  refine J_bipush (v := 6) E (jd dk_X2_init_0 3 rfl) (by decide) ?_
  obtain ⟨⟨x1, h2⟩, e3, hf⟩ := jbind hf
  have l_h2 := jmk_len e3
  refine J_newav (N' := 6) (ak := 0) (a0 := (6, .inl (fun _ => 0))) E (jd dk_X2_init_0 4 rfl) rfl (jl2_in _ (List.mem_of_getElem? (i := 13) rfl)) rfl (fun _ _ z => z) (fun _ => rfl) (by decide) (by decide) (by decide) (by omega) (by omega) (by rw [hX]; exact ⟨Nat.le_of_ble_eq_true rfl, Nat.le_of_ble_eq_true rfl⟩) e3 ?_
  obtain ⟨h4, e5, hf⟩ := jbind hf
  have l_h4 := jpf_len e5
  refine J_putF E hnm (jd dk_X2_init_0 5 rfl) fl_RX2_7 ⟨_, _, _, rfl, rfl⟩ e5 (fun _ => rfl) (fun _ => rfl) ?_
  refine J_aload_n E (jd dk_X2_init_0 6 rfl) rfl 0 rfl ?_
  refine J_bipush (v := 48) E (jd dk_X2_init_0 7 rfl) (by decide) ?_
  obtain ⟨⟨x6, h7⟩, e8, hf⟩ := jbind hf
  have l_h7 := jmk_len e8
  refine J_newav (N' := 48) (ak := 0) (a0 := (48, .inl (fun _ => 0))) E (jd dk_X2_init_0 8 rfl) rfl (jl2_in _ (List.mem_of_getElem? (i := 13) rfl)) rfl (fun _ _ z => z) (fun _ => rfl) (by decide) (by decide) (by decide) (by omega) (by omega) (by rw [hX]; exact ⟨Nat.le_of_ble_eq_true rfl, Nat.le_of_ble_eq_true rfl⟩) e8 ?_
  obtain ⟨h9, e10, hf⟩ := jbind hf
  have l_h9 := jpf_len e10
  refine J_putF E hnm (jd dk_X2_init_0 9 rfl) fl_RX2_13 ⟨_, _, _, rfl, rfl⟩ e10 (fun _ => rfl) (fun _ => rfl) ?_
  cases hf
  exact J_vret E hr (jd dk_X2_init_0 10 rfl) (Nat.le_of_ble_eq_true rfl) (Nat.le_of_ble_eq_true rfl) ⟨rfl, rfl⟩
theorem dk_X1_init_0 : jDec cX1_init [(0, .aload_n 0, 1), (1, .invokespecial 3, 3), (4, .aload_n 0, 1), (5, .iconst 4, 1), (6, .putfield 9, 3), (9, .aload_n 0, 1), (10, .iconst 0, 1), (11, .putfield 15, 3), (14, .aload_n 0, 1), (15, .iconst 0, 1), (16, .putfield 18, 3), (19, .aload_n 0, 1), (20, .bipush 9, 2), (22, .newarray .int, 2), (24, .putfield 21, 3), (27, .aload_n 0, 1), (28, .bipush 9, 2), (30, .newarray .int, 2), (32, .putfield 25, 3), (35, .aload_n 0, 1), (36, .bipush 8, 2), (38, .newarray .int, 2), (40, .putfield 28, 3), (43, .aload_n 0, 1), (44, .bipush 8, 2), (46, .newarray .int, 2), (48, .putfield 31, 3), (51, .aload_n 0, 1), (52, .bipush 8, 2), (54, .newarray .int, 2), (56, .putfield 34, 3), (59, .aload_n 0, 1), (60, .bipush 8, 2), (62, .newarray .boolean, 2), (64, .putfield 37, 3), (67, .aload_n 0, 1), (68, .sipush 700, 3), (71, .newarray .int, 2), (73, .putfield 41, 3), (76, .aload_n 0, 1), (77, .iconst 0, 1), (78, .putfield 44, 3), (81, .aload_n 0, 1), (82, .iconst 0, 1), (83, .putfield 47, 3), (86, .aload_n 0, 1), (87, .iconst 0, 1), (88, .putfield 50, 3), (91, .aload_n 0, 1), (92, .iconst 0, 1)] := by
  unfold jDec
  decide +kernel
theorem dk_X1_init_1 : jDec cX1_init [(93, .putfield 53, 3), (96, .aload_n 0, 1), (97, .iconst 0, 1), (98, .putfield 56, 3), (101, .return_, 1)] := by
  unfold jDec
  decide +kernel
def f_X1_init (N : Nat) (h : AH) (a0 : Nat) : Option AH :=
  (jwi 1 h a0 0 4).bind fun h1 =>
  (jwi 1 h1 a0 1 0).bind fun h3 =>
  (jwi 1 h3 a0 2 0).bind fun h5 =>
  (jmk (.inl (0, 9, .inl (fun _ => 0))) h5).bind fun (x7, h8) =>
  (jwr 1 h8 a0 3 x7).bind fun h10 =>
  (jmk (.inl (0, 9, .inl (fun _ => 0))) h10).bind fun (x12, h13) =>
  (jwr 1 h13 a0 4 x12).bind fun h15 =>
  (jmk (.inl (0, 8, .inl (fun _ => 0))) h15).bind fun (x17, h18) =>
  (jwr 1 h18 a0 5 x17).bind fun h20 =>
  (jmk (.inl (0, 8, .inl (fun _ => 0))) h20).bind fun (x22, h23) =>
  (jwr 1 h23 a0 6 x22).bind fun h25 =>
  (jmk (.inl (0, 8, .inl (fun _ => 0))) h25).bind fun (x27, h28) =>
  (jwr 1 h28 a0 7 x27).bind fun h30 =>
  (jmk (.inl (2, 8, .inl (fun _ => 0))) h30).bind fun (x32, h33) =>
  (jwr 1 h33 a0 8 x32).bind fun h35 =>
  (jmk (.inl (0, 700, .inl (fun _ => 0))) h35).bind fun (x37, h38) =>
  (jwr 1 h38 a0 9 x37).bind fun h40 =>
  (jwi 1 h40 a0 10 0).bind fun h42 =>
  (jwi 1 h42 a0 11 0).bind fun h44 =>
  (jwi 1 h44 a0 12 0).bind fun h46 =>
  (jwi 1 h46 a0 13 0).bind fun h48 =>
  (jwi 1 h48 a0 14 0).bind fun h50 =>
  some h50
set_option maxRecDepth 100000 in
set_option maxHeartbeats 4000000 in
theorem len_X1_init (N : Nat) {h r : AH} {a0 : Nat} (hf : f_X1_init N h a0 = some r) : r.length = h.length + 7 := by
  unfold f_X1_init at hf
  obtain ⟨h1, e2, hf⟩ := jbind hf
  have l_h1 := jpf_len e2
  obtain ⟨h3, e4, hf⟩ := jbind hf
  have l_h3 := jpf_len e4
  obtain ⟨h5, e6, hf⟩ := jbind hf
  have l_h5 := jpf_len e6
  obtain ⟨⟨x7, h8⟩, e9, hf⟩ := jbind hf
  have l_h8 := jmk_len e9
  obtain ⟨h10, e11, hf⟩ := jbind hf
  have l_h10 := jpf_len e11
  obtain ⟨⟨x12, h13⟩, e14, hf⟩ := jbind hf
  have l_h13 := jmk_len e14
  obtain ⟨h15, e16, hf⟩ := jbind hf
  have l_h15 := jpf_len e16
  obtain ⟨⟨x17, h18⟩, e19, hf⟩ := jbind hf
  have l_h18 := jmk_len e19
  obtain ⟨h20, e21, hf⟩ := jbind hf
  have l_h20 := jpf_len e21
  obtain ⟨⟨x22, h23⟩, e24, hf⟩ := jbind hf
  have l_h23 := jmk_len e24
  obtain ⟨h25, e26, hf⟩ := jbind hf
  have l_h25 := jpf_len e26
  obtain ⟨⟨x27, h28⟩, e29, hf⟩ := jbind hf
  have l_h28 := jmk_len e29
  obtain ⟨h30, e31, hf⟩ := jbind hf
  have l_h30 := jpf_len e31
  obtain ⟨⟨x32, h33⟩, e34, hf⟩ := jbind hf
  have l_h33 := jmk_len e34
  obtain ⟨h35, e36, hf⟩ := jbind hf
  have l_h35 := jpf_len e36
  obtain ⟨⟨x37, h38⟩, e39, hf⟩ := jbind hf
  have l_h38 := jmk_len e39
  obtain ⟨h40, e41, hf⟩ := jbind hf
  have l_h40 := jpf_len e41
  obtain ⟨h42, e43, hf⟩ := jbind hf
  have l_h42 := jpf_len e43
  obtain ⟨h44, e45, hf⟩ := jbind hf
  have l_h44 := jpf_len e45
  obtain ⟨h46, e47, hf⟩ := jbind hf
  have l_h46 := jpf_len e47
  obtain ⟨h48, e49, hf⟩ := jbind hf
  have l_h48 := jpf_len e49
  obtain ⟨h50, e51, hf⟩ := jbind hf
  have l_h50 := jpf_len e51
  cases hf
  omega
set_option maxRecDepth 100000 in
set_option maxHeartbeats 4000000 in
theorem lk_X1_init {G : JG} {l : Launch} (hG : jG G) (htr : l.stackTraces = false) (N : Nat) {h : AH} {a0 : Nat} {r : AH} (hb9 : h.length ≤ 5000) (hf : f_X1_init N h a0 = some r) : jMetN G l yX1_init cX1_init 1 0 7 750 [.ref a0] h (jpv r) := by
  unfold f_X1_init at hf
  refine jMetN_of hG htr (by decide) (Nat.le_of_ble_eq_true rfl) ?_
  intro X E hl9 hr hX hnm hz0
  show JW G X (RX1, cX1_init, 1) h [(0, .ref a0)] [] 0 0 0 (jEnd G X (jpv r) 7 750)
  refine J_aload_n E (jd dk_X1_init_0 0 rfl) rfl 0 rfl ?_
  refine J_obj E (jd dk_X1_init_0 1 rfl) (jl0_in _ (List.mem_of_getElem? (i := 39) rfl)) (jl0_in _ (List.mem_of_getElem? (i := 28) rfl)) (jl0_in _ (List.mem_of_getElem? (i := 29) rfl)) (Nat.le_of_ble_eq_true rfl) ?_
  refine J_aload_n E (jd dk_X1_init_0 2 rfl) rfl 0 rfl ?_
  refine J_iconst (v := 4) E (jd dk_X1_init_0 3 rfl) rfl ?_
  obtain ⟨h1, e2, hf⟩ := jbind hf
  have l_h1 := jpf_len e2
  refine J_put E (jd dk_X1_init_0 4 rfl) fl_RX1_9 e2 (fun _ => rfl) (fun _ => rfl) ?_
  refine J_aload_n E (jd dk_X1_init_0 5 rfl) rfl 0 rfl ?_
  refine J_iconst (v := 0) E (jd dk_X1_init_0 6 rfl) rfl ?_
  obtain ⟨h3, e4, hf⟩ := jbind hf
  have l_h3 := jpf_len e4
  refine J_put E (jd dk_X1_init_0 7 rfl) fl_RX1_15 e4 (fun _ => rfl) (fun _ => rfl) ?_
  refine J_aload_n E (jd dk_X1_init_0 8 rfl) rfl 0 rfl ?_
  refine J_iconst (v := 0) E (jd dk_X1_init_0 9 rfl) rfl ?_
  obtain ⟨h5, e6, hf⟩ := jbind hf
  have l_h5 := jpf_len e6
  refine J_put E (jd dk_X1_init_0 10 rfl) fl_RX1_18 e6 (fun _ => rfl) (fun _ => rfl) ?_
  refine J_aload_n E (jd dk_X1_init_0 11 rfl) rfl 0 rfl ?_
  refine J_bipush (v := 9) E (jd dk_X1_init_0 12 rfl) (by decide) ?_
  obtain ⟨⟨x7, h8⟩, e9, hf⟩ := jbind hf
  have l_h8 := jmk_len e9
  refine J_newav (N' := 9) (ak := 0) (a0 := (9, .inl (fun _ => 0))) E (jd dk_X1_init_0 13 rfl) rfl (jl2_in _ (List.mem_of_getElem? (i := 13) rfl)) rfl (fun _ _ z => z) (fun _ => rfl) (by decide) (by decide) (by decide) (by omega) (by omega) (by rw [hX]; exact ⟨Nat.le_of_ble_eq_true rfl, Nat.le_of_ble_eq_true rfl⟩) e9 ?_
  obtain ⟨h10, e11, hf⟩ := jbind hf
  have l_h10 := jpf_len e11
  refine J_putF E hnm (jd dk_X1_init_0 14 rfl) fl_RX1_21 ⟨_, _, _, rfl, rfl⟩ e11 (fun _ => rfl) (fun _ => rfl) ?_
  refine J_aload_n E (jd dk_X1_init_0 15 rfl) rfl 0 rfl ?_
  refine J_bipush (v := 9) E (jd dk_X1_init_0 16 rfl) (by decide) ?_
  obtain ⟨⟨x12, h13⟩, e14, hf⟩ := jbind hf
  have l_h13 := jmk_len e14
  refine J_newav (N' := 9) (ak := 0) (a0 := (9, .inl (fun _ => 0))) E (jd dk_X1_init_0 17 rfl) rfl (jl2_in _ (List.mem_of_getElem? (i := 13) rfl)) rfl (fun _ _ z => z) (fun _ => rfl) (by decide) (by decide) (by decide) (by omega) (by omega) (by rw [hX]; exact ⟨Nat.le_of_ble_eq_true rfl, Nat.le_of_ble_eq_true rfl⟩) e14 ?_
  obtain ⟨h15, e16, hf⟩ := jbind hf
  have l_h15 := jpf_len e16
  refine J_putF E hnm (jd dk_X1_init_0 18 rfl) fl_RX1_25 ⟨_, _, _, rfl, rfl⟩ e16 (fun _ => rfl) (fun _ => rfl) ?_
  refine J_aload_n E (jd dk_X1_init_0 19 rfl) rfl 0 rfl ?_
  refine J_bipush (v := 8) E (jd dk_X1_init_0 20 rfl) (by decide) ?_
  obtain ⟨⟨x17, h18⟩, e19, hf⟩ := jbind hf
  have l_h18 := jmk_len e19
  refine J_newav (N' := 8) (ak := 0) (a0 := (8, .inl (fun _ => 0))) E (jd dk_X1_init_0 21 rfl) rfl (jl2_in _ (List.mem_of_getElem? (i := 13) rfl)) rfl (fun _ _ z => z) (fun _ => rfl) (by decide) (by decide) (by decide) (by omega) (by omega) (by rw [hX]; exact ⟨Nat.le_of_ble_eq_true rfl, Nat.le_of_ble_eq_true rfl⟩) e19 ?_
  obtain ⟨h20, e21, hf⟩ := jbind hf
  have l_h20 := jpf_len e21
  refine J_putF E hnm (jd dk_X1_init_0 22 rfl) fl_RX1_28 ⟨_, _, _, rfl, rfl⟩ e21 (fun _ => rfl) (fun _ => rfl) ?_
  refine J_aload_n E (jd dk_X1_init_0 23 rfl) rfl 0 rfl ?_
  refine J_bipush (v := 8) E (jd dk_X1_init_0 24 rfl) (by decide) ?_
  obtain ⟨⟨x22, h23⟩, e24, hf⟩ := jbind hf
  have l_h23 := jmk_len e24
  refine J_newav (N' := 8) (ak := 0) (a0 := (8, .inl (fun _ => 0))) E (jd dk_X1_init_0 25 rfl) rfl (jl2_in _ (List.mem_of_getElem? (i := 13) rfl)) rfl (fun _ _ z => z) (fun _ => rfl) (by decide) (by decide) (by decide) (by omega) (by omega) (by rw [hX]; exact ⟨Nat.le_of_ble_eq_true rfl, Nat.le_of_ble_eq_true rfl⟩) e24 ?_
  obtain ⟨h25, e26, hf⟩ := jbind hf
  have l_h25 := jpf_len e26
  refine J_putF E hnm (jd dk_X1_init_0 26 rfl) fl_RX1_31 ⟨_, _, _, rfl, rfl⟩ e26 (fun _ => rfl) (fun _ => rfl) ?_
  refine J_aload_n E (jd dk_X1_init_0 27 rfl) rfl 0 rfl ?_
  refine J_bipush (v := 8) E (jd dk_X1_init_0 28 rfl) (by decide) ?_
  obtain ⟨⟨x27, h28⟩, e29, hf⟩ := jbind hf
  have l_h28 := jmk_len e29
  refine J_newav (N' := 8) (ak := 0) (a0 := (8, .inl (fun _ => 0))) E (jd dk_X1_init_0 29 rfl) rfl (jl2_in _ (List.mem_of_getElem? (i := 13) rfl)) rfl (fun _ _ z => z) (fun _ => rfl) (by decide) (by decide) (by decide) (by omega) (by omega) (by rw [hX]; exact ⟨Nat.le_of_ble_eq_true rfl, Nat.le_of_ble_eq_true rfl⟩) e29 ?_
  obtain ⟨h30, e31, hf⟩ := jbind hf
  have l_h30 := jpf_len e31
  refine J_putF E hnm (jd dk_X1_init_0 30 rfl) fl_RX1_34 ⟨_, _, _, rfl, rfl⟩ e31 (fun _ => rfl) (fun _ => rfl) ?_
  refine J_aload_n E (jd dk_X1_init_0 31 rfl) rfl 0 rfl ?_
  refine J_bipush (v := 8) E (jd dk_X1_init_0 32 rfl) (by decide) ?_
  obtain ⟨⟨x32, h33⟩, e34, hf⟩ := jbind hf
  have l_h33 := jmk_len e34
  refine J_newav (N' := 8) (ak := 2) (a0 := (8, .inl (fun _ => 0))) E (jd dk_X1_init_0 33 rfl) rfl (jl2_in _ (List.mem_of_getElem? (i := 14) rfl)) rfl (fun _ _ z => z) (fun _ => rfl) (by decide) (by decide) (by decide) (by omega) (by omega) (by rw [hX]; exact ⟨Nat.le_of_ble_eq_true rfl, Nat.le_of_ble_eq_true rfl⟩) e34 ?_
  obtain ⟨h35, e36, hf⟩ := jbind hf
  have l_h35 := jpf_len e36
  refine J_putF E hnm (jd dk_X1_init_0 34 rfl) fl_RX1_37 ⟨_, _, _, rfl, rfl⟩ e36 (fun _ => rfl) (fun _ => rfl) ?_
  refine J_aload_n E (jd dk_X1_init_0 35 rfl) rfl 0 rfl ?_
  refine J_sipush (v := 700) E (jd dk_X1_init_0 36 rfl) (by decide) ?_
  obtain ⟨⟨x37, h38⟩, e39, hf⟩ := jbind hf
  have l_h38 := jmk_len e39
  refine J_newav (N' := 700) (ak := 0) (a0 := (700, .inl (fun _ => 0))) E (jd dk_X1_init_0 37 rfl) rfl (jl2_in _ (List.mem_of_getElem? (i := 13) rfl)) rfl (fun _ _ z => z) (fun _ => rfl) (by decide) (by decide) (by decide) (by omega) (by omega) (by rw [hX]; exact ⟨Nat.le_of_ble_eq_true rfl, Nat.le_of_ble_eq_true rfl⟩) e39 ?_
  obtain ⟨h40, e41, hf⟩ := jbind hf
  have l_h40 := jpf_len e41
  refine J_putF E hnm (jd dk_X1_init_0 38 rfl) fl_RX1_41 ⟨_, _, _, rfl, rfl⟩ e41 (fun _ => rfl) (fun _ => rfl) ?_
  refine J_aload_n E (jd dk_X1_init_0 39 rfl) rfl 0 rfl ?_
  refine J_iconst (v := 0) E (jd dk_X1_init_0 40 rfl) rfl ?_
  obtain ⟨h42, e43, hf⟩ := jbind hf
  have l_h42 := jpf_len e43
  refine J_put E (jd dk_X1_init_0 41 rfl) fl_RX1_44 e43 (fun _ => rfl) (fun _ => rfl) ?_
  refine J_aload_n E (jd dk_X1_init_0 42 rfl) rfl 0 rfl ?_
  refine J_iconst (v := 0) E (jd dk_X1_init_0 43 rfl) rfl ?_
  obtain ⟨h44, e45, hf⟩ := jbind hf
  have l_h44 := jpf_len e45
  refine J_put E (jd dk_X1_init_0 44 rfl) fl_RX1_47 e45 (fun _ => rfl) (fun _ => rfl) ?_
  refine J_aload_n E (jd dk_X1_init_0 45 rfl) rfl 0 rfl ?_
  refine J_iconst (v := 0) E (jd dk_X1_init_0 46 rfl) rfl ?_
  obtain ⟨h46, e47, hf⟩ := jbind hf
  have l_h46 := jpf_len e47
  refine J_put E (jd dk_X1_init_0 47 rfl) fl_RX1_50 e47 (fun _ => rfl) (fun _ => rfl) ?_
  refine J_aload_n E (jd dk_X1_init_0 48 rfl) rfl 0 rfl ?_
  refine J_iconst (v := 0) E (jd dk_X1_init_0 49 rfl) rfl ?_
  obtain ⟨h48, e49, hf⟩ := jbind hf
  have l_h48 := jpf_len e49
  refine J_put E (jd dk_X1_init_1 0 rfl) fl_RX1_53 e49 (fun _ => rfl) (fun _ => rfl) ?_
  refine J_aload_n E (jd dk_X1_init_1 1 rfl) rfl 0 rfl ?_
  refine J_iconst (v := 0) E (jd dk_X1_init_1 2 rfl) rfl ?_
  obtain ⟨h50, e51, hf⟩ := jbind hf
  have l_h50 := jpf_len e51
  refine J_put E (jd dk_X1_init_1 3 rfl) fl_RX1_56 e51 (fun _ => rfl) (fun _ => rfl) ?_
  cases hf
  exact J_vret E hr (jd dk_X1_init_1 4 rfl) (Nat.le_of_ble_eq_true rfl) (Nat.le_of_ble_eq_true rfl) ⟨rfl, rfl⟩
theorem dk_X5_init_0 : jDec cX5_init [(0, .aload_n 0, 1), (1, .invokespecial 3, 3), (4, .aload_n 0, 1), (5, .iconst 0, 1), (6, .putfield 9, 3), (9, .aload_n 0, 1), (10, .bipush 8, 2), (12, .newarray .int, 2), (14, .putfield 15, 3), (17, .aload_n 0, 1), (18, .bipush 8, 2), (20, .newarray .int, 2), (22, .putfield 19, 3), (25, .aload_n 0, 1), (26, .bipush 8, 2), (28, .newarray .int, 2), (30, .putfield 22, 3), (33, .aload_n 0, 1), (34, .bipush 8, 2), (36, .newarray .int, 2), (38, .putfield 25, 3), (41, .aload_n 0, 1), (42, .bipush 8, 2), (44, .newarray .int, 2), (46, .putfield 28, 3), (49, .aload_n 0, 1), (50, .bipush 9, 2), (52, .newarray .int, 2), (54, .putfield 31, 3), (57, .aload_n 0, 1), (58, .bipush 9, 2), (60, .newarray .int, 2), (62, .putfield 34, 3), (65, .aload_n 0, 1), (66, .new 37, 3), (69, .dup, 1), (70, .invokespecial 39, 3), (73, .putfield 40, 3), (76, .return_, 1)] := by
  unfold jDec
  decide +kernel
def f_X5_init (N : Nat) (h : AH) (a0 : Nat) : Option AH :=
  (jwi 5 h a0 0 0).bind fun h1 =>
  (jmk (.inl (0, 8, .inl (fun _ => 0))) h1).bind fun (x3, h4) =>
  (jwr 5 h4 a0 1 x3).bind fun h6 =>
  (jmk (.inl (0, 8, .inl (fun _ => 0))) h6).bind fun (x8, h9) =>
  (jwr 5 h9 a0 2 x8).bind fun h11 =>
  (jmk (.inl (0, 8, .inl (fun _ => 0))) h11).bind fun (x13, h14) =>
  (jwr 5 h14 a0 3 x13).bind fun h16 =>
  (jmk (.inl (0, 8, .inl (fun _ => 0))) h16).bind fun (x18, h19) =>
  (jwr 5 h19 a0 4 x18).bind fun h21 =>
  (jmk (.inl (0, 8, .inl (fun _ => 0))) h21).bind fun (x23, h24) =>
  (jwr 5 h24 a0 5 x23).bind fun h26 =>
  (jmk (.inl (0, 9, .inl (fun _ => 0))) h26).bind fun (x28, h29) =>
  (jwr 5 h29 a0 6 x28).bind fun h31 =>
  (jmk (.inl (0, 9, .inl (fun _ => 0))) h31).bind fun (x33, h34) =>
  (jwr 5 h34 a0 7 x33).bind fun h36 =>
  (jmk (.inr (2, [.null, .null])) h36).bind fun (x38, h39) =>
  (f_X2_init N h39 x38).bind fun h41 =>
  (jwr 5 h41 a0 8 x38).bind fun h43 =>
  some h43
set_option maxRecDepth 100000 in
set_option maxHeartbeats 4000000 in
theorem len_X5_init (N : Nat) {h r : AH} {a0 : Nat} (hf : f_X5_init N h a0 = some r) : r.length = h.length + 10 := by
  unfold f_X5_init at hf
  obtain ⟨h1, e2, hf⟩ := jbind hf
  have l_h1 := jpf_len e2
  obtain ⟨⟨x3, h4⟩, e5, hf⟩ := jbind hf
  have l_h4 := jmk_len e5
  obtain ⟨h6, e7, hf⟩ := jbind hf
  have l_h6 := jpf_len e7
  obtain ⟨⟨x8, h9⟩, e10, hf⟩ := jbind hf
  have l_h9 := jmk_len e10
  obtain ⟨h11, e12, hf⟩ := jbind hf
  have l_h11 := jpf_len e12
  obtain ⟨⟨x13, h14⟩, e15, hf⟩ := jbind hf
  have l_h14 := jmk_len e15
  obtain ⟨h16, e17, hf⟩ := jbind hf
  have l_h16 := jpf_len e17
  obtain ⟨⟨x18, h19⟩, e20, hf⟩ := jbind hf
  have l_h19 := jmk_len e20
  obtain ⟨h21, e22, hf⟩ := jbind hf
  have l_h21 := jpf_len e22
  obtain ⟨⟨x23, h24⟩, e25, hf⟩ := jbind hf
  have l_h24 := jmk_len e25
  obtain ⟨h26, e27, hf⟩ := jbind hf
  have l_h26 := jpf_len e27
  obtain ⟨⟨x28, h29⟩, e30, hf⟩ := jbind hf
  have l_h29 := jmk_len e30
  obtain ⟨h31, e32, hf⟩ := jbind hf
  have l_h31 := jpf_len e32
  obtain ⟨⟨x33, h34⟩, e35, hf⟩ := jbind hf
  have l_h34 := jmk_len e35
  obtain ⟨h36, e37, hf⟩ := jbind hf
  have l_h36 := jpf_len e37
  obtain ⟨⟨x38, h39⟩, e40, hf⟩ := jbind hf
  have l_h39 := jmk_len e40
  obtain ⟨h41, e42, hf⟩ := jbind hf
  have l_h41 := len_X2_init N e42
  obtain ⟨h43, e44, hf⟩ := jbind hf
  have l_h43 := jpf_len e44
  cases hf
  omega
set_option maxRecDepth 100000 in
set_option maxHeartbeats 4000000 in
theorem lk_X5_init {G : JG} {l : Launch} (hG : jG G) (htr : l.stackTraces = false) (N : Nat) {h : AH} {a0 : Nat} {r : AH} (hb9 : h.length ≤ 4000) (hf : f_X5_init N h a0 = some r) : jMetN G l yX5_init cX5_init 1 1 10 114 [.ref a0] h (jpv r) := by
  unfold f_X5_init at hf
  refine jMetN_of hG htr (by decide) (Nat.le_of_ble_eq_true rfl) ?_
  intro X E hl9 hr hX hnm hz0
  show JW G X (RX5, cX5_init, 1) h [(0, .ref a0)] [] 0 0 0 (jEnd G X (jpv r) 10 114)
  refine J_aload_n E (jd dk_X5_init_0 0 rfl) rfl 0 rfl ?_
  refine J_obj E (jd dk_X5_init_0 1 rfl) (jl3_in _ (List.mem_of_getElem? (i := 0) rfl)) (jl0_in _ (List.mem_of_getElem? (i := 28) rfl)) (jl0_in _ (List.mem_of_getElem? (i := 29) rfl)) (Nat.le_of_ble_eq_true rfl) ?_
  refine J_aload_n E (jd dk_X5_init_0 2 rfl) rfl 0 rfl ?_
  refine J_iconst (v := 0) E (jd dk_X5_init_0 3 rfl) rfl ?_
  obtain ⟨h1, e2, hf⟩ := jbind hf
  have l_h1 := jpf_len e2
  refine J_put E (jd dk_X5_init_0 4 rfl) fl_RX5_9 e2 (fun _ => rfl) (fun _ => rfl) ?_
  refine J_aload_n E (jd dk_X5_init_0 5 rfl) rfl 0 rfl ?_
  refine J_bipush (v := 8) E (jd dk_X5_init_0 6 rfl) (by decide) ?_
  obtain ⟨⟨x3, h4⟩, e5, hf⟩ := jbind hf
  have l_h4 := jmk_len e5
  refine J_newav (N' := 8) (ak := 0) (a0 := (8, .inl (fun _ => 0))) E (jd dk_X5_init_0 7 rfl) rfl (jl2_in _ (List.mem_of_getElem? (i := 13) rfl)) rfl (fun _ _ z => z) (fun _ => rfl) (by decide) (by decide) (by decide) (by omega) (by omega) (by rw [hX]; exact ⟨Nat.le_of_ble_eq_true rfl, Nat.le_of_ble_eq_true rfl⟩) e5 ?_
  obtain ⟨h6, e7, hf⟩ := jbind hf
  have l_h6 := jpf_len e7
  refine J_putF E hnm (jd dk_X5_init_0 8 rfl) fl_RX5_15 ⟨_, _, _, rfl, rfl⟩ e7 (fun _ => rfl) (fun _ => rfl) ?_
  refine J_aload_n E (jd dk_X5_init_0 9 rfl) rfl 0 rfl ?_
  refine J_bipush (v := 8) E (jd dk_X5_init_0 10 rfl) (by decide) ?_
  obtain ⟨⟨x8, h9⟩, e10, hf⟩ := jbind hf
  have l_h9 := jmk_len e10
  refine J_newav (N' := 8) (ak := 0) (a0 := (8, .inl (fun _ => 0))) E (jd dk_X5_init_0 11 rfl) rfl (jl2_in _ (List.mem_of_getElem? (i := 13) rfl)) rfl (fun _ _ z => z) (fun _ => rfl) (by decide) (by decide) (by decide) (by omega) (by omega) (by rw [hX]; exact ⟨Nat.le_of_ble_eq_true rfl, Nat.le_of_ble_eq_true rfl⟩) e10 ?_
  obtain ⟨h11, e12, hf⟩ := jbind hf
  have l_h11 := jpf_len e12
  refine J_putF E hnm (jd dk_X5_init_0 12 rfl) fl_RX5_19 ⟨_, _, _, rfl, rfl⟩ e12 (fun _ => rfl) (fun _ => rfl) ?_
  refine J_aload_n E (jd dk_X5_init_0 13 rfl) rfl 0 rfl ?_
  refine J_bipush (v := 8) E (jd dk_X5_init_0 14 rfl) (by decide) ?_
  obtain ⟨⟨x13, h14⟩, e15, hf⟩ := jbind hf
  have l_h14 := jmk_len e15
  refine J_newav (N' := 8) (ak := 0) (a0 := (8, .inl (fun _ => 0))) E (jd dk_X5_init_0 15 rfl) rfl (jl2_in _ (List.mem_of_getElem? (i := 13) rfl)) rfl (fun _ _ z => z) (fun _ => rfl) (by decide) (by decide) (by decide) (by omega) (by omega) (by rw [hX]; exact ⟨Nat.le_of_ble_eq_true rfl, Nat.le_of_ble_eq_true rfl⟩) e15 ?_
  obtain ⟨h16, e17, hf⟩ := jbind hf
  have l_h16 := jpf_len e17
  refine J_putF E hnm (jd dk_X5_init_0 16 rfl) fl_RX5_22 ⟨_, _, _, rfl, rfl⟩ e17 (fun _ => rfl) (fun _ => rfl) ?_
  refine J_aload_n E (jd dk_X5_init_0 17 rfl) rfl 0 rfl ?_
  refine J_bipush (v := 8) E (jd dk_X5_init_0 18 rfl) (by decide) ?_
  obtain ⟨⟨x18, h19⟩, e20, hf⟩ := jbind hf
  have l_h19 := jmk_len e20
  refine J_newav (N' := 8) (ak := 0) (a0 := (8, .inl (fun _ => 0))) E (jd dk_X5_init_0 19 rfl) rfl (jl2_in _ (List.mem_of_getElem? (i := 13) rfl)) rfl (fun _ _ z => z) (fun _ => rfl) (by decide) (by decide) (by decide) (by omega) (by omega) (by rw [hX]; exact ⟨Nat.le_of_ble_eq_true rfl, Nat.le_of_ble_eq_true rfl⟩) e20 ?_
  obtain ⟨h21, e22, hf⟩ := jbind hf
  have l_h21 := jpf_len e22
  refine J_putF E hnm (jd dk_X5_init_0 20 rfl) fl_RX5_25 ⟨_, _, _, rfl, rfl⟩ e22 (fun _ => rfl) (fun _ => rfl) ?_
  refine J_aload_n E (jd dk_X5_init_0 21 rfl) rfl 0 rfl ?_
  refine J_bipush (v := 8) E (jd dk_X5_init_0 22 rfl) (by decide) ?_
  obtain ⟨⟨x23, h24⟩, e25, hf⟩ := jbind hf
  have l_h24 := jmk_len e25
  refine J_newav (N' := 8) (ak := 0) (a0 := (8, .inl (fun _ => 0))) E (jd dk_X5_init_0 23 rfl) rfl (jl2_in _ (List.mem_of_getElem? (i := 13) rfl)) rfl (fun _ _ z => z) (fun _ => rfl) (by decide) (by decide) (by decide) (by omega) (by omega) (by rw [hX]; exact ⟨Nat.le_of_ble_eq_true rfl, Nat.le_of_ble_eq_true rfl⟩) e25 ?_
  obtain ⟨h26, e27, hf⟩ := jbind hf
  have l_h26 := jpf_len e27
  refine J_putF E hnm (jd dk_X5_init_0 24 rfl) fl_RX5_28 ⟨_, _, _, rfl, rfl⟩ e27 (fun _ => rfl) (fun _ => rfl) ?_
  refine J_aload_n E (jd dk_X5_init_0 25 rfl) rfl 0 rfl ?_
  refine J_bipush (v := 9) E (jd dk_X5_init_0 26 rfl) (by decide) ?_
  obtain ⟨⟨x28, h29⟩, e30, hf⟩ := jbind hf
  have l_h29 := jmk_len e30
  refine J_newav (N' := 9) (ak := 0) (a0 := (9, .inl (fun _ => 0))) E (jd dk_X5_init_0 27 rfl) rfl (jl2_in _ (List.mem_of_getElem? (i := 13) rfl)) rfl (fun _ _ z => z) (fun _ => rfl) (by decide) (by decide) (by decide) (by omega) (by omega) (by rw [hX]; exact ⟨Nat.le_of_ble_eq_true rfl, Nat.le_of_ble_eq_true rfl⟩) e30 ?_
  obtain ⟨h31, e32, hf⟩ := jbind hf
  have l_h31 := jpf_len e32
  refine J_putF E hnm (jd dk_X5_init_0 28 rfl) fl_RX5_31 ⟨_, _, _, rfl, rfl⟩ e32 (fun _ => rfl) (fun _ => rfl) ?_
  refine J_aload_n E (jd dk_X5_init_0 29 rfl) rfl 0 rfl ?_
  refine J_bipush (v := 9) E (jd dk_X5_init_0 30 rfl) (by decide) ?_
  obtain ⟨⟨x33, h34⟩, e35, hf⟩ := jbind hf
  have l_h34 := jmk_len e35
  refine J_newav (N' := 9) (ak := 0) (a0 := (9, .inl (fun _ => 0))) E (jd dk_X5_init_0 31 rfl) rfl (jl2_in _ (List.mem_of_getElem? (i := 13) rfl)) rfl (fun _ _ z => z) (fun _ => rfl) (by decide) (by decide) (by decide) (by omega) (by omega) (by rw [hX]; exact ⟨Nat.le_of_ble_eq_true rfl, Nat.le_of_ble_eq_true rfl⟩) e35 ?_
  obtain ⟨h36, e37, hf⟩ := jbind hf
  have l_h36 := jpf_len e37
  refine J_putF E hnm (jd dk_X5_init_0 32 rfl) fl_RX5_34 ⟨_, _, _, rfl, rfl⟩ e37 (fun _ => rfl) (fun _ => rfl) ?_
  refine J_aload_n E (jd dk_X5_init_0 33 rfl) rfl 0 rfl ?_
  obtain ⟨⟨x38, h39⟩, e40, hf⟩ := jbind hf
  have l_h39 := jmk_len e40
  refine J_newv (fs := [.null, .null]) E tyX2 (jd dk_X5_init_0 34 rfl) (jl3_in _ (List.mem_of_getElem? (i := 1) rfl)) (jl3_in _ (List.mem_of_getElem? (i := 2) rfl)) (jl0_in _ (List.mem_of_getElem? (i := 6) rfl)) rfl inX2 tyX2_ok (by decide +kernel) (fun _ => rfl) (by omega) (by omega) (by rw [hX]; exact ⟨Nat.le_of_ble_eq_true rfl, Nat.le_of_ble_eq_true rfl⟩) e40 ?_
  refine J_dup E (jd dk_X5_init_0 35 rfl) rfl ?_
  obtain ⟨h41, e42, hf⟩ := jbind hf
  have l_h41 := len_X2_init N e42
  refine J_ctor (host := "RoundCoracles") E (jd dk_X5_init_0 36 rfl) (Or.inl mn_RX5_39) cal_X2_init (by omega) (lk_X2_init (jE_g E) (jE_tr E) N (by omega) e42) rfl (Nat.le_of_ble_eq_true rfl) (jR_le hX (by decide) (by decide)) (by rw [hX]; exact ⟨Nat.le_of_ble_eq_true rfl, Nat.le_of_ble_eq_true rfl⟩) rfl ?_
  rintro _ _ ⟨rfl, rfl⟩
  obtain ⟨h43, e44, hf⟩ := jbind hf
  have l_h43 := jpf_len e44
  refine J_putF E hnm (jd dk_X5_init_0 37 rfl) fl_RX5_40 ⟨_, _, _, rfl, rfl⟩ e44 (fun _ => rfl) (fun _ => rfl) ?_
  cases hf
  exact J_vret E hr (jd dk_X5_init_0 38 rfl) (Nat.le_of_ble_eq_true rfl) (Nat.le_of_ble_eq_true rfl) ⟨rfl, rfl⟩
theorem dk_X0_init_0 : jDec cX0_init [(0, .aload_n 0, 1), (1, .invokespecial 3, 3), (4, .aload_n 0, 1), (5, .new 9, 3), (8, .dup, 1), (9, .invokespecial 11, 3), (12, .putfield 12, 3), (15, .aload_n 0, 1), (16, .iconst 3, 1), (17, .newarray .int, 2), (19, .putfield 18, 3), (22, .aload_n 0, 1), (23, .iconst 0, 1), (24, .putfield 22, 3), (27, .aload_n 0, 1), (28, .iconst 0, 1), (29, .putfield 26, 3), (32, .aload_n 0, 1), (33, .bipush 8, 2), (35, .newarray .int, 2), (37, .putfield 29, 3), (40, .aload_n 0, 1), (41, .bipush 8, 2), (43, .newarray .int, 2), (45, .putfield 32, 3), (48, .aload_n 0, 1), (49, .bipush 8, 2), (51, .newarray .int, 2), (53, .putfield 35, 3), (56, .aload_n 0, 1), (57, .sipush 1720, 3), (60, .newarray .int, 2), (62, .putfield 38, 3), (65, .aload_n 0, 1), (66, .iconst 0, 1), (67, .putfield 41, 3), (70, .return_, 1)] := by
  unfold jDec
  decide +kernel
def f_X0_init (N : Nat) (h : AH) (a0 : Nat) : Option AH :=
  (jmk (.inr (5, [.int 0, .null, .null, .null, .null, .null, .null, .null, .null])) h).bind fun (x1, h2) =>
  (f_X5_init N h2 x1).bind fun h4 =>
  (jwr 0 h4 a0 0 x1).bind fun h6 =>
  (jmk (.inl (0, 3, .inl (fun _ => 0))) h6).bind fun (x8, h9) =>
  (jwr 0 h9 a0 1 x8).bind fun h11 =>
  (jwi 0 h11 a0 2 0).bind fun h13 =>
  (jwi 0 h13 a0 3 0).bind fun h15 =>
  (jmk (.inl (0, 8, .inl (fun _ => 0))) h15).bind fun (x17, h18) =>
  (jwr 0 h18 a0 4 x17).bind fun h20 =>
  (jmk (.inl (0, 8, .inl (fun _ => 0))) h20).bind fun (x22, h23) =>
  (jwr 0 h23 a0 5 x22).bind fun h25 =>
  (jmk (.inl (0, 8, .inl (fun _ => 0))) h25).bind fun (x27, h28) =>
  (jwr 0 h28 a0 6 x27).bind fun h30 =>
  (jmk (.inl (0, 1720, .inl (fun _ => 0))) h30).bind fun (x32, h33) =>
  (jwr 0 h33 a0 7 x32).bind fun h35 =>
  (jwi 0 h35 a0 8 0).bind fun h37 =>
  some h37
set_option maxRecDepth 100000 in
set_option maxHeartbeats 4000000 in
theorem len_X0_init (N : Nat) {h r : AH} {a0 : Nat} (hf : f_X0_init N h a0 = some r) : r.length = h.length + 16 := by
  unfold f_X0_init at hf
  obtain ⟨⟨x1, h2⟩, e3, hf⟩ := jbind hf
  have l_h2 := jmk_len e3
  obtain ⟨h4, e5, hf⟩ := jbind hf
  have l_h4 := len_X5_init N e5
  obtain ⟨h6, e7, hf⟩ := jbind hf
  have l_h6 := jpf_len e7
  obtain ⟨⟨x8, h9⟩, e10, hf⟩ := jbind hf
  have l_h9 := jmk_len e10
  obtain ⟨h11, e12, hf⟩ := jbind hf
  have l_h11 := jpf_len e12
  obtain ⟨h13, e14, hf⟩ := jbind hf
  have l_h13 := jpf_len e14
  obtain ⟨h15, e16, hf⟩ := jbind hf
  have l_h15 := jpf_len e16
  obtain ⟨⟨x17, h18⟩, e19, hf⟩ := jbind hf
  have l_h18 := jmk_len e19
  obtain ⟨h20, e21, hf⟩ := jbind hf
  have l_h20 := jpf_len e21
  obtain ⟨⟨x22, h23⟩, e24, hf⟩ := jbind hf
  have l_h23 := jmk_len e24
  obtain ⟨h25, e26, hf⟩ := jbind hf
  have l_h25 := jpf_len e26
  obtain ⟨⟨x27, h28⟩, e29, hf⟩ := jbind hf
  have l_h28 := jmk_len e29
  obtain ⟨h30, e31, hf⟩ := jbind hf
  have l_h30 := jpf_len e31
  obtain ⟨⟨x32, h33⟩, e34, hf⟩ := jbind hf
  have l_h33 := jmk_len e34
  obtain ⟨h35, e36, hf⟩ := jbind hf
  have l_h35 := jpf_len e36
  obtain ⟨h37, e38, hf⟩ := jbind hf
  have l_h37 := jpf_len e38
  cases hf
  omega
set_option maxRecDepth 100000 in
set_option maxHeartbeats 4000000 in
theorem lk_X0_init {G : JG} {l : Launch} (hG : jG G) (htr : l.stackTraces = false) (N : Nat) {h : AH} {a0 : Nat} {r : AH} (hb9 : h.length ≤ 3000) (hf : f_X0_init N h a0 = some r) : jMetN G l yX0_init cX0_init 1 2 16 1870 [.ref a0] h (jpv r) := by
  unfold f_X0_init at hf
  refine jMetN_of hG htr (by decide) (Nat.le_of_ble_eq_true rfl) ?_
  intro X E hl9 hr hX hnm hz0
  show JW G X (RX0, cX0_init, 1) h [(0, .ref a0)] [] 0 0 0 (jEnd G X (jpv r) 16 1870)
  refine J_aload_n E (jd dk_X0_init_0 0 rfl) rfl 0 rfl ?_
  refine J_obj E (jd dk_X0_init_0 1 rfl) (jl2_in _ (List.mem_of_getElem? (i := 35) rfl)) (jl0_in _ (List.mem_of_getElem? (i := 28) rfl)) (jl0_in _ (List.mem_of_getElem? (i := 29) rfl)) (Nat.le_of_ble_eq_true rfl) ?_
  refine J_aload_n E (jd dk_X0_init_0 2 rfl) rfl 0 rfl ?_
  obtain ⟨⟨x1, h2⟩, e3, hf⟩ := jbind hf
  have l_h2 := jmk_len e3
  refine J_newv (fs := [.int 0, .null, .null, .null, .null, .null, .null, .null, .null]) E tyX5 (jd dk_X0_init_0 3 rfl) (jl2_in _ (List.mem_of_getElem? (i := 36) rfl)) (jl2_in _ (List.mem_of_getElem? (i := 37) rfl)) (jl0_in _ (List.mem_of_getElem? (i := 5) rfl)) rfl inX5 tyX5_ok (by decide +kernel) (fun _ => rfl) (by omega) (by omega) (by rw [hX]; exact ⟨Nat.le_of_ble_eq_true rfl, Nat.le_of_ble_eq_true rfl⟩) e3 ?_
  refine J_dup E (jd dk_X0_init_0 4 rfl) rfl ?_
  obtain ⟨h4, e5, hf⟩ := jbind hf
  have l_h4 := len_X5_init N e5
  refine J_ctor (host := "RoundCoracles") E (jd dk_X0_init_0 5 rfl) (Or.inl mn_RX0_11) cal_X5_init (by omega) (lk_X5_init (jE_g E) (jE_tr E) N (by omega) e5) rfl (Nat.le_of_ble_eq_true rfl) (jR_le hX (by decide) (by decide)) (by rw [hX]; exact ⟨Nat.le_of_ble_eq_true rfl, Nat.le_of_ble_eq_true rfl⟩) rfl ?_
  rintro _ _ ⟨rfl, rfl⟩
  obtain ⟨h6, e7, hf⟩ := jbind hf
  have l_h6 := jpf_len e7
  refine J_putF E hnm (jd dk_X0_init_0 6 rfl) fl_RX0_12 ⟨_, _, _, rfl, rfl⟩ e7 (fun _ => rfl) (fun _ => rfl) ?_
  refine J_aload_n E (jd dk_X0_init_0 7 rfl) rfl 0 rfl ?_
  refine J_iconst (v := 3) E (jd dk_X0_init_0 8 rfl) rfl ?_
  obtain ⟨⟨x8, h9⟩, e10, hf⟩ := jbind hf
  have l_h9 := jmk_len e10
  refine J_newav (N' := 3) (ak := 0) (a0 := (3, .inl (fun _ => 0))) E (jd dk_X0_init_0 9 rfl) rfl (jl2_in _ (List.mem_of_getElem? (i := 13) rfl)) rfl (fun _ _ z => z) (fun _ => rfl) (by decide) (by decide) (by decide) (by omega) (by omega) (by rw [hX]; exact ⟨Nat.le_of_ble_eq_true rfl, Nat.le_of_ble_eq_true rfl⟩) e10 ?_
  obtain ⟨h11, e12, hf⟩ := jbind hf
  have l_h11 := jpf_len e12
  refine J_putF E hnm (jd dk_X0_init_0 10 rfl) fl_RX0_18 ⟨_, _, _, rfl, rfl⟩ e12 (fun _ => rfl) (fun _ => rfl) ?_
  refine J_aload_n E (jd dk_X0_init_0 11 rfl) rfl 0 rfl ?_
  refine J_iconst (v := 0) E (jd dk_X0_init_0 12 rfl) rfl ?_
  obtain ⟨h13, e14, hf⟩ := jbind hf
  have l_h13 := jpf_len e14
  refine J_put E (jd dk_X0_init_0 13 rfl) fl_RX0_22 e14 (fun _ => rfl) (fun _ => rfl) ?_
  refine J_aload_n E (jd dk_X0_init_0 14 rfl) rfl 0 rfl ?_
  refine J_iconst (v := 0) E (jd dk_X0_init_0 15 rfl) rfl ?_
  obtain ⟨h15, e16, hf⟩ := jbind hf
  have l_h15 := jpf_len e16
  refine J_put E (jd dk_X0_init_0 16 rfl) fl_RX0_26 e16 (fun _ => rfl) (fun _ => rfl) ?_
  refine J_aload_n E (jd dk_X0_init_0 17 rfl) rfl 0 rfl ?_
  refine J_bipush (v := 8) E (jd dk_X0_init_0 18 rfl) (by decide) ?_
  obtain ⟨⟨x17, h18⟩, e19, hf⟩ := jbind hf
  have l_h18 := jmk_len e19
  refine J_newav (N' := 8) (ak := 0) (a0 := (8, .inl (fun _ => 0))) E (jd dk_X0_init_0 19 rfl) rfl (jl2_in _ (List.mem_of_getElem? (i := 13) rfl)) rfl (fun _ _ z => z) (fun _ => rfl) (by decide) (by decide) (by decide) (by omega) (by omega) (by rw [hX]; exact ⟨Nat.le_of_ble_eq_true rfl, Nat.le_of_ble_eq_true rfl⟩) e19 ?_
  obtain ⟨h20, e21, hf⟩ := jbind hf
  have l_h20 := jpf_len e21
  refine J_putF E hnm (jd dk_X0_init_0 20 rfl) fl_RX0_29 ⟨_, _, _, rfl, rfl⟩ e21 (fun _ => rfl) (fun _ => rfl) ?_
  refine J_aload_n E (jd dk_X0_init_0 21 rfl) rfl 0 rfl ?_
  refine J_bipush (v := 8) E (jd dk_X0_init_0 22 rfl) (by decide) ?_
  obtain ⟨⟨x22, h23⟩, e24, hf⟩ := jbind hf
  have l_h23 := jmk_len e24
  refine J_newav (N' := 8) (ak := 0) (a0 := (8, .inl (fun _ => 0))) E (jd dk_X0_init_0 23 rfl) rfl (jl2_in _ (List.mem_of_getElem? (i := 13) rfl)) rfl (fun _ _ z => z) (fun _ => rfl) (by decide) (by decide) (by decide) (by omega) (by omega) (by rw [hX]; exact ⟨Nat.le_of_ble_eq_true rfl, Nat.le_of_ble_eq_true rfl⟩) e24 ?_
  obtain ⟨h25, e26, hf⟩ := jbind hf
  have l_h25 := jpf_len e26
  refine J_putF E hnm (jd dk_X0_init_0 24 rfl) fl_RX0_32 ⟨_, _, _, rfl, rfl⟩ e26 (fun _ => rfl) (fun _ => rfl) ?_
  refine J_aload_n E (jd dk_X0_init_0 25 rfl) rfl 0 rfl ?_
  refine J_bipush (v := 8) E (jd dk_X0_init_0 26 rfl) (by decide) ?_
  obtain ⟨⟨x27, h28⟩, e29, hf⟩ := jbind hf
  have l_h28 := jmk_len e29
  refine J_newav (N' := 8) (ak := 0) (a0 := (8, .inl (fun _ => 0))) E (jd dk_X0_init_0 27 rfl) rfl (jl2_in _ (List.mem_of_getElem? (i := 13) rfl)) rfl (fun _ _ z => z) (fun _ => rfl) (by decide) (by decide) (by decide) (by omega) (by omega) (by rw [hX]; exact ⟨Nat.le_of_ble_eq_true rfl, Nat.le_of_ble_eq_true rfl⟩) e29 ?_
  obtain ⟨h30, e31, hf⟩ := jbind hf
  have l_h30 := jpf_len e31
  refine J_putF E hnm (jd dk_X0_init_0 28 rfl) fl_RX0_35 ⟨_, _, _, rfl, rfl⟩ e31 (fun _ => rfl) (fun _ => rfl) ?_
  refine J_aload_n E (jd dk_X0_init_0 29 rfl) rfl 0 rfl ?_
  refine J_sipush (v := 1720) E (jd dk_X0_init_0 30 rfl) (by decide) ?_
  obtain ⟨⟨x32, h33⟩, e34, hf⟩ := jbind hf
  have l_h33 := jmk_len e34
  refine J_newav (N' := 1720) (ak := 0) (a0 := (1720, .inl (fun _ => 0))) E (jd dk_X0_init_0 31 rfl) rfl (jl2_in _ (List.mem_of_getElem? (i := 13) rfl)) rfl (fun _ _ z => z) (fun _ => rfl) (by decide) (by decide) (by decide) (by omega) (by omega) (by rw [hX]; exact ⟨Nat.le_of_ble_eq_true rfl, Nat.le_of_ble_eq_true rfl⟩) e34 ?_
  obtain ⟨h35, e36, hf⟩ := jbind hf
  have l_h35 := jpf_len e36
  refine J_putF E hnm (jd dk_X0_init_0 32 rfl) fl_RX0_38 ⟨_, _, _, rfl, rfl⟩ e36 (fun _ => rfl) (fun _ => rfl) ?_
  refine J_aload_n E (jd dk_X0_init_0 33 rfl) rfl 0 rfl ?_
  refine J_iconst (v := 0) E (jd dk_X0_init_0 34 rfl) rfl ?_
  obtain ⟨h37, e38, hf⟩ := jbind hf
  have l_h37 := jpf_len e38
  refine J_put E (jd dk_X0_init_0 35 rfl) fl_RX0_41 e38 (fun _ => rfl) (fun _ => rfl) ?_
  cases hf
  exact J_vret E hr (jd dk_X0_init_0 36 rfl) (Nat.le_of_ble_eq_true rfl) (Nat.le_of_ble_eq_true rfl) ⟨rfl, rfl⟩
theorem dk_X3_init_0 : jDec cX3_init [(0, .aload_n 0, 1), (1, .invokespecial 3, 3), (4, .aload_n 0, 1), (5, .iconst 0, 1), (6, .putfield 9, 3), (9, .aload_n 0, 1), (10, .iconst 0, 1), (11, .putfield 15, 3), (14, .aload_n 0, 1), (15, .bipush 8, 2), (17, .newarray .int, 2), (19, .putfield 18, 3), (22, .aload_n 0, 1), (23, .sipush 2304, 3), (26, .newarray .int, 2), (28, .putfield 22, 3), (31, .return_, 1)] := by
  unfold jDec
  decide +kernel
def f_X3_init (N : Nat) (h : AH) (a0 : Nat) : Option AH :=
  (jwi 3 h a0 0 0).bind fun h1 =>
  (jwi 3 h1 a0 1 0).bind fun h3 =>
  (jmk (.inl (0, 8, .inl (fun _ => 0))) h3).bind fun (x5, h6) =>
  (jwr 3 h6 a0 2 x5).bind fun h8 =>
  (jmk (.inl (0, 2304, .inl (fun _ => 0))) h8).bind fun (x10, h11) =>
  (jwr 3 h11 a0 3 x10).bind fun h13 =>
  some h13
set_option maxRecDepth 100000 in
set_option maxHeartbeats 4000000 in
theorem len_X3_init (N : Nat) {h r : AH} {a0 : Nat} (hf : f_X3_init N h a0 = some r) : r.length = h.length + 2 := by
  unfold f_X3_init at hf
  obtain ⟨h1, e2, hf⟩ := jbind hf
  have l_h1 := jpf_len e2
  obtain ⟨h3, e4, hf⟩ := jbind hf
  have l_h3 := jpf_len e4
  obtain ⟨⟨x5, h6⟩, e7, hf⟩ := jbind hf
  have l_h6 := jmk_len e7
  obtain ⟨h8, e9, hf⟩ := jbind hf
  have l_h8 := jpf_len e9
  obtain ⟨⟨x10, h11⟩, e12, hf⟩ := jbind hf
  have l_h11 := jmk_len e12
  obtain ⟨h13, e14, hf⟩ := jbind hf
  have l_h13 := jpf_len e14
  cases hf
  omega
set_option maxRecDepth 100000 in
set_option maxHeartbeats 4000000 in
theorem lk_X3_init {G : JG} {l : Launch} (hG : jG G) (htr : l.stackTraces = false) (N : Nat) {h : AH} {a0 : Nat} {r : AH} (hb9 : h.length ≤ 5000) (hf : f_X3_init N h a0 = some r) : jMetN G l yX3_init cX3_init 1 0 2 2312 [.ref a0] h (jpv r) := by
  unfold f_X3_init at hf
  refine jMetN_of hG htr (by decide) (Nat.le_of_ble_eq_true rfl) ?_
  intro X E hl9 hr hX hnm hz0
  show JW G X (RX3, cX3_init, 1) h [(0, .ref a0)] [] 0 0 0 (jEnd G X (jpv r) 2 2312)
  refine J_aload_n E (jd dk_X3_init_0 0 rfl) rfl 0 rfl ?_
  refine J_obj E (jd dk_X3_init_0 1 rfl) (jl4_in _ (List.mem_of_getElem? (i := 16) rfl)) (jl0_in _ (List.mem_of_getElem? (i := 28) rfl)) (jl0_in _ (List.mem_of_getElem? (i := 29) rfl)) (Nat.le_of_ble_eq_true rfl) ?_
  refine J_aload_n E (jd dk_X3_init_0 2 rfl) rfl 0 rfl ?_
  refine J_iconst (v := 0) E (jd dk_X3_init_0 3 rfl) rfl ?_
  obtain ⟨h1, e2, hf⟩ := jbind hf
  have l_h1 := jpf_len e2
  refine J_put E (jd dk_X3_init_0 4 rfl) fl_RX3_9 e2 (fun _ => rfl) (fun _ => rfl) ?_
  refine J_aload_n E (jd dk_X3_init_0 5 rfl) rfl 0 rfl ?_
  refine J_iconst (v := 0) E (jd dk_X3_init_0 6 rfl) rfl ?_
  obtain ⟨h3, e4, hf⟩ := jbind hf
  have l_h3 := jpf_len e4
  refine J_put E (jd dk_X3_init_0 7 rfl) fl_RX3_15 e4 (fun _ => rfl) (fun _ => rfl) ?_
  refine J_aload_n E (jd dk_X3_init_0 8 rfl) rfl 0 rfl ?_
  refine J_bipush (v := 8) E (jd dk_X3_init_0 9 rfl) (by decide) ?_
  obtain ⟨⟨x5, h6⟩, e7, hf⟩ := jbind hf
  have l_h6 := jmk_len e7
  refine J_newav (N' := 8) (ak := 0) (a0 := (8, .inl (fun _ => 0))) E (jd dk_X3_init_0 10 rfl) rfl (jl2_in _ (List.mem_of_getElem? (i := 13) rfl)) rfl (fun _ _ z => z) (fun _ => rfl) (by decide) (by decide) (by decide) (by omega) (by omega) (by rw [hX]; exact ⟨Nat.le_of_ble_eq_true rfl, Nat.le_of_ble_eq_true rfl⟩) e7 ?_
  obtain ⟨h8, e9, hf⟩ := jbind hf
  have l_h8 := jpf_len e9
  refine J_putF E hnm (jd dk_X3_init_0 11 rfl) fl_RX3_18 ⟨_, _, _, rfl, rfl⟩ e9 (fun _ => rfl) (fun _ => rfl) ?_
  refine J_aload_n E (jd dk_X3_init_0 12 rfl) rfl 0 rfl ?_
  refine J_sipush (v := 2304) E (jd dk_X3_init_0 13 rfl) (by decide) ?_
  obtain ⟨⟨x10, h11⟩, e12, hf⟩ := jbind hf
  have l_h11 := jmk_len e12
  refine J_newav (N' := 2304) (ak := 0) (a0 := (2304, .inl (fun _ => 0))) E (jd dk_X3_init_0 14 rfl) rfl (jl2_in _ (List.mem_of_getElem? (i := 13) rfl)) rfl (fun _ _ z => z) (fun _ => rfl) (by decide) (by decide) (by decide) (by omega) (by omega) (by rw [hX]; exact ⟨Nat.le_of_ble_eq_true rfl, Nat.le_of_ble_eq_true rfl⟩) e12 ?_
  obtain ⟨h13, e14, hf⟩ := jbind hf
  have l_h13 := jpf_len e14
  refine J_putF E hnm (jd dk_X3_init_0 15 rfl) fl_RX3_22 ⟨_, _, _, rfl, rfl⟩ e14 (fun _ => rfl) (fun _ => rfl) ?_
  cases hf
  exact J_vret E hr (jd dk_X3_init_0 16 rfl) (Nat.le_of_ble_eq_true rfl) (Nat.le_of_ble_eq_true rfl) ⟨rfl, rfl⟩
theorem dk_X4_init_0 : jDec cX4_init [(0, .aload_n 0, 1), (1, .invokespecial 3, 3), (4, .aload_n 0, 1), (5, .iconst 0, 1), (6, .putfield 9, 3), (9, .aload_n 0, 1), (10, .iconst (-1), 1), (11, .putfield 15, 3), (14, .aload_n 0, 1), (15, .iconst 0, 1), (16, .newarray .byte, 2), (18, .putfield 18, 3), (21, .aload_n 0, 1), (22, .iconst 0, 1), (23, .putfield 22, 3), (26, .aload_n 0, 1), (27, .new 25, 3), (30, .dup, 1), (31, .invokespecial 27, 3), (34, .putfield 28, 3), (37, .aload_n 0, 1), (38, .iconst 0, 1), (39, .putfield 32, 3), (42, .aload_n 0, 1), (43, .iconst 0, 1), (44, .putfield 35, 3), (47, .aload_n 0, 1), (48, .iconst 0, 1), (49, .putfield 38, 3), (52, .aload_n 0, 1), (53, .iconst 0, 1), (54, .putfield 41, 3), (57, .aload_n 0, 1), (58, .iconst 0, 1), (59, .putfield 44, 3), (62, .aload_n 0, 1), (63, .iconst 0, 1), (64, .putfield 47, 3), (67, .aload_n 0, 1), (68, .iconst 0, 1), (69, .putfield 50, 3), (72, .aload_n 0, 1), (73, .iconst 0, 1), (74, .putfield 54, 3), (77, .return_, 1)] := by
  unfold jDec
  decide +kernel
def f_X4_init (N : Nat) (h : AH) (a0 : Nat) : Option AH :=
  (jwi 4 h a0 0 0).bind fun h1 =>
  (jwi 4 h1 a0 1 ((-1))).bind fun h3 =>
  (jmk (.inl (1, 0, .inl (fun _ => 0))) h3).bind fun (x5, h6) =>
  (jwr 4 h6 a0 2 x5).bind fun h8 =>
  (jwi 4 h8 a0 3 0).bind fun h10 =>
  (jmk (.inr (1, [.int 0, .int 0, .int 0, .null, .null, .null, .null, .null, .null, .null, .int 0, .int 0, .int 0, .int 0, .int 0])) h10).bind fun (x12, h13) =>
  (f_X1_init N h13 x12).bind fun h15 =>
  (jwr 4 h15 a0 4 x12).bind fun h17 =>
  (jwi 4 h17 a0 5 0).bind fun h19 =>
  (jwi 4 h19 a0 6 0).bind fun h21 =>
  (jwi 4 h21 a0 7 0).bind fun h23 =>
  (jwi 4 h23 a0 8 0).bind fun h25 =>
  (jwi 4 h25 a0 9 0).bind fun h27 =>
  (jwi 4 h27 a0 10 0).bind fun h29 =>
  (jwz 4 h29 a0 11 0).bind fun h31 =>
  (jwz 4 h31 a0 12 0).bind fun h33 =>
  some h33
set_option maxRecDepth 100000 in
set_option maxHeartbeats 4000000 in
theorem len_X4_init (N : Nat) {h r : AH} {a0 : Nat} (hf : f_X4_init N h a0 = some r) : r.length = h.length + 9 := by
  unfold f_X4_init at hf
  obtain ⟨h1, e2, hf⟩ := jbind hf
  have l_h1 := jpf_len e2
  obtain ⟨h3, e4, hf⟩ := jbind hf
  have l_h3 := jpf_len e4
  obtain ⟨⟨x5, h6⟩, e7, hf⟩ := jbind hf
  have l_h6 := jmk_len e7
  obtain ⟨h8, e9, hf⟩ := jbind hf
  have l_h8 := jpf_len e9
  obtain ⟨h10, e11, hf⟩ := jbind hf
  have l_h10 := jpf_len e11
  obtain ⟨⟨x12, h13⟩, e14, hf⟩ := jbind hf
  have l_h13 := jmk_len e14
  obtain ⟨h15, e16, hf⟩ := jbind hf
  have l_h15 := len_X1_init N e16
  obtain ⟨h17, e18, hf⟩ := jbind hf
  have l_h17 := jpf_len e18
  obtain ⟨h19, e20, hf⟩ := jbind hf
  have l_h19 := jpf_len e20
  obtain ⟨h21, e22, hf⟩ := jbind hf
  have l_h21 := jpf_len e22
  obtain ⟨h23, e24, hf⟩ := jbind hf
  have l_h23 := jpf_len e24
  obtain ⟨h25, e26, hf⟩ := jbind hf
  have l_h25 := jpf_len e26
  obtain ⟨h27, e28, hf⟩ := jbind hf
  have l_h27 := jpf_len e28
  obtain ⟨h29, e30, hf⟩ := jbind hf
  have l_h29 := jpf_len e30
  obtain ⟨h31, e32, hf⟩ := jbind hf
  have l_h31 := jwz_len e32
  obtain ⟨h33, e34, hf⟩ := jbind hf
  have l_h33 := jwz_len e34
  cases hf
  omega
set_option maxRecDepth 100000 in
set_option maxHeartbeats 4000000 in
theorem lk_X4_init {G : JG} {l : Launch} (hG : jG G) (htr : l.stackTraces = false) (N : Nat) {h : AH} {a0 : Nat} {r : AH} (hb9 : h.length ≤ 4000) (hf : f_X4_init N h a0 = some r) : jMetN G l yX4_init cX4_init 1 1 9 765 [.ref a0] h (jpv r) := by
  unfold f_X4_init at hf
  refine jMetN_of hG htr (by decide) (Nat.le_of_ble_eq_true rfl) ?_
  intro X E hl9 hr hX hnm hz0
  show JW G X (RX4, cX4_init, 1) h [(0, .ref a0)] [] 0 0 0 (jEnd G X (jpv r) 9 765)
  refine J_aload_n E (jd dk_X4_init_0 0 rfl) rfl 0 rfl ?_
  refine J_obj E (jd dk_X4_init_0 1 rfl) (jl0_in _ (List.mem_of_getElem? (i := 34) rfl)) (jl0_in _ (List.mem_of_getElem? (i := 28) rfl)) (jl0_in _ (List.mem_of_getElem? (i := 29) rfl)) (Nat.le_of_ble_eq_true rfl) ?_
  refine J_aload_n E (jd dk_X4_init_0 2 rfl) rfl 0 rfl ?_
  refine J_iconst (v := 0) E (jd dk_X4_init_0 3 rfl) rfl ?_
  obtain ⟨h1, e2, hf⟩ := jbind hf
  have l_h1 := jpf_len e2
  refine J_put E (jd dk_X4_init_0 4 rfl) fl_RX4_9 e2 (fun _ => rfl) (fun _ => rfl) ?_
  refine J_aload_n E (jd dk_X4_init_0 5 rfl) rfl 0 rfl ?_
  refine J_iconst (v := (-1)) E (jd dk_X4_init_0 6 rfl) rfl ?_
  obtain ⟨h3, e4, hf⟩ := jbind hf
  have l_h3 := jpf_len e4
  refine J_put E (jd dk_X4_init_0 7 rfl) fl_RX4_15 e4 (fun _ => rfl) (fun _ => rfl) ?_
  refine J_aload_n E (jd dk_X4_init_0 8 rfl) rfl 0 rfl ?_
  refine J_iconst (v := 0) E (jd dk_X4_init_0 9 rfl) rfl ?_
  obtain ⟨⟨x5, h6⟩, e7, hf⟩ := jbind hf
  have l_h6 := jmk_len e7
  refine J_newav (N' := 0) (ak := 1) (a0 := (0, .inl (fun _ => 0))) E (jd dk_X4_init_0 10 rfl) rfl (jl2_in _ (List.mem_of_getElem? (i := 12) rfl)) rfl (fun _ _ z => z) (fun _ => rfl) (by decide) (by decide) (by decide) (by omega) (by omega) (by rw [hX]; exact ⟨Nat.le_of_ble_eq_true rfl, Nat.le_of_ble_eq_true rfl⟩) e7 ?_
  obtain ⟨h8, e9, hf⟩ := jbind hf
  have l_h8 := jpf_len e9
  refine J_put E (jd dk_X4_init_0 11 rfl) fl_RX4_18 e9 (fun _ => rfl) (fun _ => rfl) ?_
  refine J_aload_n E (jd dk_X4_init_0 12 rfl) rfl 0 rfl ?_
  refine J_iconst (v := 0) E (jd dk_X4_init_0 13 rfl) rfl ?_
  obtain ⟨h10, e11, hf⟩ := jbind hf
  have l_h10 := jpf_len e11
  refine J_put E (jd dk_X4_init_0 14 rfl) fl_RX4_22 e11 (fun _ => rfl) (fun _ => rfl) ?_
  refine J_aload_n E (jd dk_X4_init_0 15 rfl) rfl 0 rfl ?_
  obtain ⟨⟨x12, h13⟩, e14, hf⟩ := jbind hf
  have l_h13 := jmk_len e14
  refine J_newv (fs := [.int 0, .int 0, .int 0, .null, .null, .null, .null, .null, .null, .null, .int 0, .int 0, .int 0, .int 0, .int 0]) E tyX1 (jd dk_X4_init_0 16 rfl) (jl0_in _ (List.mem_of_getElem? (i := 35) rfl)) (jl0_in _ (List.mem_of_getElem? (i := 36) rfl)) (jl0_in _ (List.mem_of_getElem? (i := 3) rfl)) rfl inX1 tyX1_ok (by decide +kernel) (fun _ => rfl) (by omega) (by omega) (by rw [hX]; exact ⟨Nat.le_of_ble_eq_true rfl, Nat.le_of_ble_eq_true rfl⟩) e14 ?_
  refine J_dup E (jd dk_X4_init_0 17 rfl) rfl ?_
  obtain ⟨h15, e16, hf⟩ := jbind hf
  have l_h15 := len_X1_init N e16
  refine J_ctor (host := "RoundCoracles") E (jd dk_X4_init_0 18 rfl) (Or.inl mn_RX4_27) cal_X1_init (by omega) (lk_X1_init (jE_g E) (jE_tr E) N (by omega) e16) rfl (Nat.le_of_ble_eq_true rfl) (jR_le hX (by decide) (by decide)) (by rw [hX]; exact ⟨Nat.le_of_ble_eq_true rfl, Nat.le_of_ble_eq_true rfl⟩) rfl ?_
  rintro _ _ ⟨rfl, rfl⟩
  obtain ⟨h17, e18, hf⟩ := jbind hf
  have l_h17 := jpf_len e18
  refine J_put E (jd dk_X4_init_0 19 rfl) fl_RX4_28 e18 (fun _ => rfl) (fun _ => rfl) ?_
  refine J_aload_n E (jd dk_X4_init_0 20 rfl) rfl 0 rfl ?_
  refine J_iconst (v := 0) E (jd dk_X4_init_0 21 rfl) rfl ?_
  obtain ⟨h19, e20, hf⟩ := jbind hf
  have l_h19 := jpf_len e20
  refine J_put E (jd dk_X4_init_0 22 rfl) fl_RX4_32 e20 (fun _ => rfl) (fun _ => rfl) ?_
  refine J_aload_n E (jd dk_X4_init_0 23 rfl) rfl 0 rfl ?_
  refine J_iconst (v := 0) E (jd dk_X4_init_0 24 rfl) rfl ?_
  obtain ⟨h21, e22, hf⟩ := jbind hf
  have l_h21 := jpf_len e22
  refine J_put E (jd dk_X4_init_0 25 rfl) fl_RX4_35 e22 (fun _ => rfl) (fun _ => rfl) ?_
  refine J_aload_n E (jd dk_X4_init_0 26 rfl) rfl 0 rfl ?_
  refine J_iconst (v := 0) E (jd dk_X4_init_0 27 rfl) rfl ?_
  obtain ⟨h23, e24, hf⟩ := jbind hf
  have l_h23 := jpf_len e24
  refine J_put E (jd dk_X4_init_0 28 rfl) fl_RX4_38 e24 (fun _ => rfl) (fun _ => rfl) ?_
  refine J_aload_n E (jd dk_X4_init_0 29 rfl) rfl 0 rfl ?_
  refine J_iconst (v := 0) E (jd dk_X4_init_0 30 rfl) rfl ?_
  obtain ⟨h25, e26, hf⟩ := jbind hf
  have l_h25 := jpf_len e26
  refine J_put E (jd dk_X4_init_0 31 rfl) fl_RX4_41 e26 (fun _ => rfl) (fun _ => rfl) ?_
  refine J_aload_n E (jd dk_X4_init_0 32 rfl) rfl 0 rfl ?_
  refine J_iconst (v := 0) E (jd dk_X4_init_0 33 rfl) rfl ?_
  obtain ⟨h27, e28, hf⟩ := jbind hf
  have l_h27 := jpf_len e28
  refine J_put E (jd dk_X4_init_0 34 rfl) fl_RX4_44 e28 (fun _ => rfl) (fun _ => rfl) ?_
  refine J_aload_n E (jd dk_X4_init_0 35 rfl) rfl 0 rfl ?_
  refine J_iconst (v := 0) E (jd dk_X4_init_0 36 rfl) rfl ?_
  obtain ⟨h29, e30, hf⟩ := jbind hf
  have l_h29 := jpf_len e30
  refine J_put E (jd dk_X4_init_0 37 rfl) fl_RX4_47 e30 (fun _ => rfl) (fun _ => rfl) ?_
  refine J_aload_n E (jd dk_X4_init_0 38 rfl) rfl 0 rfl ?_
  refine J_iconst (v := 0) E (jd dk_X4_init_0 39 rfl) rfl ?_
  obtain ⟨h31, e32, hf⟩ := jbind hf
  have l_h31 := jwz_len e32
  refine J_putz E (jd dk_X4_init_0 40 rfl) fl_RX4_50 e32 ?_
  refine J_aload_n E (jd dk_X4_init_0 41 rfl) rfl 0 rfl ?_
  refine J_iconst (v := 0) E (jd dk_X4_init_0 42 rfl) rfl ?_
  obtain ⟨h33, e34, hf⟩ := jbind hf
  have l_h33 := jwz_len e34
  refine J_putz E (jd dk_X4_init_0 43 rfl) fl_RX4_54 e34 ?_
  cases hf
  exact J_vret E hr (jd dk_X4_init_0 44 rfl) (Nat.le_of_ble_eq_true rfl) (Nat.le_of_ble_eq_true rfl) ⟨rfl, rfl⟩
theorem dk_X6_init_0 : jDec cX6_init [(0, .aload_n 0, 1), (1, .invokespecial 1, 3), (4, .aload_n 0, 1), (5, .sipush 700, 3), (8, .newarray .byte, 2), (10, .putfield 9, 3), (13, .aload_n 0, 1), (14, .iconst 0, 1), (15, .putfield 13, 3), (18, .aload_n 0, 1), (19, .iconst (-1), 1), (20, .putfield 17, 3), (23, .aload_n 0, 1), (24, .new 20, 3), (27, .dup, 1), (28, .invokespecial 22, 3), (31, .putfield 23, 3), (34, .aload_n 0, 1), (35, .new 27, 3), (38, .dup, 1), (39, .invokespecial 29, 3), (42, .putfield 30, 3), (45, .aload_n 0, 1), (46, .new 34, 3), (49, .dup, 1), (50, .invokespecial 36, 3), (53, .putfield 37, 3), (56, .aload_n 0, 1), (57, .new 34, 3), (60, .dup, 1), (61, .invokespecial 36, 3), (64, .putfield 41, 3), (67, .aload_n 0, 1), (68, .iconst 0, 1), (69, .putfield 44, 3), (72, .aload_n 0, 1), (73, .new 48, 3), (76, .dup, 1), (77, .invokespecial 50, 3), (80, .putfield 51, 3), (83, .aload_n 0, 1), (84, .new 55, 3), (87, .dup, 1), (88, .invokespecial 57, 3), (91, .putfield 58, 3), (94, .aload_n 0, 1), (95, .bipush 8, 2), (97, .newarray .int, 2), (99, .putfield 62, 3), (102, .aload_n 0, 1)] := by
  unfold jDec
  decide +kernel
theorem dk_X6_init_1 : jDec cX6_init [(103, .iconst 4, 1), (104, .newarray .int, 2), (106, .putfield 66, 3), (109, .aload_n 0, 1), (110, .iconst 4, 1), (111, .newarray .int, 2), (113, .putfield 69, 3), (116, .aload_n 0, 1), (117, .getfield 37, 3), (120, .aload_n 0, 1), (121, .getfield 30, 3), (124, .invokevirtual 72, 3), (127, .return_, 1)] := by
  unfold jDec
  decide +kernel
def f_X6_init (N : Nat) (h : AH) (a0 : Nat) : Option AH :=
  (jmk (.inl (1, 700, .inl (fun _ => 0))) h).bind fun (x1, h2) =>
  (jwr 6 h2 a0 0 x1).bind fun h4 =>
  (jwi 6 h4 a0 1 0).bind fun h6 =>
  (jwi 6 h6 a0 2 ((-1))).bind fun h8 =>
  (jmk (.inr (4, [.int 0, .int 0, .null, .int 0, .null, .int 0, .int 0, .int 0, .int 0, .int 0, .int 0, .int 0, .int 0])) h8).bind fun (x10, h11) =>
  (f_X4_init N h11 x10).bind fun h13 =>
  (jwr 6 h13 a0 3 x10).bind fun h15 =>
  (jmk (.inr (1, [.int 0, .int 0, .int 0, .null, .null, .null, .null, .null, .null, .null, .int 0, .int 0, .int 0, .int 0, .int 0])) h15).bind fun (x17, h18) =>
  (f_X1_init N h18 x17).bind fun h20 =>
  (jwr 6 h20 a0 4 x17).bind fun h22 =>
  (jmk (.inr (0, [.null, .null, .int 0, .int 0, .null, .null, .null, .null, .int 0])) h22).bind fun (x24, h25) =>
  (f_X0_init N h25 x24).bind fun h27 =>
  (jwr 6 h27 a0 5 x24).bind fun h29 =>
  (jmk (.inr (0, [.null, .null, .int 0, .int 0, .null, .null, .null, .null, .int 0])) h29).bind fun (x31, h32) =>
  (f_X0_init N h32 x31).bind fun h34 =>
  (jwr 6 h34 a0 6 x31).bind fun h36 =>
  (jwz 6 h36 a0 7 0).bind fun h38 =>
  (jmk (.inr (5, [.int 0, .null, .null, .null, .null, .null, .null, .null, .null])) h38).bind fun (x40, h41) =>
  (f_X5_init N h41 x40).bind fun h43 =>
  (jwr 6 h43 a0 8 x40).bind fun h45 =>
  (jmk (.inr (3, [.int 0, .int 0, .null, .null])) h45).bind fun (x47, h48) =>
  (f_X3_init N h48 x47).bind fun h50 =>
  (jwr 6 h50 a0 9 x47).bind fun h52 =>
  (jmk (.inl (0, 8, .inl (fun _ => 0))) h52).bind fun (x54, h55) =>
  (jwr 6 h55 a0 10 x54).bind fun h57 =>
  (jmk (.inl (0, 4, .inl (fun _ => 0))) h57).bind fun (x59, h60) =>
  (jwr 6 h60 a0 11 x59).bind fun h62 =>
  (jmk (.inl (0, 4, .inl (fun _ => 0))) h62).bind fun (x64, h65) =>
  (jwr 6 h65 a0 12 x64).bind fun h67 =>
  (jgr 6 h67 a0 5).bind fun x69 =>
  (jgr 6 h67 a0 4).bind fun x71 =>
  (jck 0 h67 x69).bind fun _ =>
  (f_X0_begin N h67 x69 x71).bind fun h73 =>
  some h73
set_option maxRecDepth 100000 in
set_option maxHeartbeats 4000000 in
theorem lk_X6_init {G : JG} {l : Launch} (hG : jG G) (htr : l.stackTraces = false) (N : Nat) {h : AH} {a0 : Nat} {r : AH} (hb9 : h.length ≤ 1000) (hf : f_X6_init N h a0 = some r) : jMetN G l yX6_init cX6_init 1 3 70 8456 [.ref a0] h (jpv r) := by
  unfold f_X6_init at hf
  refine jMetN_of hG htr (by decide) (Nat.le_of_ble_eq_true rfl) ?_
  intro X E hl9 hr hX hnm hz0
  show JW G X (RX6, cX6_init, 1) h [(0, .ref a0)] [] 0 0 0 (jEnd G X (jpv r) 70 8456)
  refine J_aload_n E (jd dk_X6_init_0 0 rfl) rfl 0 rfl ?_
  refine J_obj E (jd dk_X6_init_0 1 rfl) (jl0_in _ (List.mem_of_getElem? (i := 27) rfl)) (jl0_in _ (List.mem_of_getElem? (i := 28) rfl)) (jl0_in _ (List.mem_of_getElem? (i := 29) rfl)) (Nat.le_of_ble_eq_true rfl) ?_
  refine J_aload_n E (jd dk_X6_init_0 2 rfl) rfl 0 rfl ?_
  refine J_sipush (v := 700) E (jd dk_X6_init_0 3 rfl) (by decide) ?_
  obtain ⟨⟨x1, h2⟩, e3, hf⟩ := jbind hf
  have l_h2 := jmk_len e3
  refine J_newav (N' := 700) (ak := 1) (a0 := (700, .inl (fun _ => 0))) E (jd dk_X6_init_0 4 rfl) rfl (jl2_in _ (List.mem_of_getElem? (i := 12) rfl)) rfl (fun _ _ z => z) (fun _ => rfl) (by decide) (by decide) (by decide) (by omega) (by omega) (by rw [hX]; exact ⟨Nat.le_of_ble_eq_true rfl, Nat.le_of_ble_eq_true rfl⟩) e3 ?_
  obtain ⟨h4, e5, hf⟩ := jbind hf
  have l_h4 := jpf_len e5
  refine J_putF E hnm (jd dk_X6_init_0 5 rfl) fl_RX6_9 ⟨_, _, _, rfl, rfl⟩ e5 (fun _ => rfl) (fun _ => rfl) ?_
  refine J_aload_n E (jd dk_X6_init_0 6 rfl) rfl 0 rfl ?_
  refine J_iconst (v := 0) E (jd dk_X6_init_0 7 rfl) rfl ?_
  obtain ⟨h6, e7, hf⟩ := jbind hf
  have l_h6 := jpf_len e7
  refine J_put E (jd dk_X6_init_0 8 rfl) fl_RX6_13 e7 (fun _ => rfl) (fun _ => rfl) ?_
  refine J_aload_n E (jd dk_X6_init_0 9 rfl) rfl 0 rfl ?_
  refine J_iconst (v := (-1)) E (jd dk_X6_init_0 10 rfl) rfl ?_
  obtain ⟨h8, e9, hf⟩ := jbind hf
  have l_h8 := jpf_len e9
  refine J_put E (jd dk_X6_init_0 11 rfl) fl_RX6_17 e9 (fun _ => rfl) (fun _ => rfl) ?_
  refine J_aload_n E (jd dk_X6_init_0 12 rfl) rfl 0 rfl ?_
  obtain ⟨⟨x10, h11⟩, e12, hf⟩ := jbind hf
  have l_h11 := jmk_len e12
  refine J_newv (fs := [.int 0, .int 0, .null, .int 0, .null, .int 0, .int 0, .int 0, .int 0, .int 0, .int 0, .int 0, .int 0]) E tyX4 (jd dk_X6_init_0 13 rfl) (jl0_in _ (List.mem_of_getElem? (i := 30) rfl)) (jl0_in _ (List.mem_of_getElem? (i := 31) rfl)) (jl0_in _ (List.mem_of_getElem? (i := 2) rfl)) rfl inX4 tyX4_ok (by decide +kernel) (fun _ => rfl) (by omega) (by omega) (by rw [hX]; exact ⟨Nat.le_of_ble_eq_true rfl, Nat.le_of_ble_eq_true rfl⟩) e12 ?_
  refine J_dup E (jd dk_X6_init_0 14 rfl) rfl ?_
  obtain ⟨h13, e14, hf⟩ := jbind hf
  have l_h13 := len_X4_init N e14
  refine J_ctor (host := "RoundCoracles") E (jd dk_X6_init_0 15 rfl) (Or.inl mn_RX6_22) cal_X4_init (by omega) (lk_X4_init (jE_g E) (jE_tr E) N (by omega) e14) rfl (Nat.le_of_ble_eq_true rfl) (jR_le hX (by decide) (by decide)) (by rw [hX]; exact ⟨Nat.le_of_ble_eq_true rfl, Nat.le_of_ble_eq_true rfl⟩) rfl ?_
  rintro _ _ ⟨rfl, rfl⟩
  obtain ⟨h15, e16, hf⟩ := jbind hf
  have l_h15 := jpf_len e16
  refine J_putF E hnm (jd dk_X6_init_0 16 rfl) fl_RX6_23 ⟨_, _, _, rfl, rfl⟩ e16 (fun _ => rfl) (fun _ => rfl) ?_
  refine J_aload_n E (jd dk_X6_init_0 17 rfl) rfl 0 rfl ?_
  obtain ⟨⟨x17, h18⟩, e19, hf⟩ := jbind hf
  have l_h18 := jmk_len e19
  refine J_newv (fs := [.int 0, .int 0, .int 0, .null, .null, .null, .null, .null, .null, .null, .int 0, .int 0, .int 0, .int 0, .int 0]) E tyX1 (jd dk_X6_init_0 18 rfl) (jl2_in _ (List.mem_of_getElem? (i := 30) rfl)) (jl0_in _ (List.mem_of_getElem? (i := 36) rfl)) (jl0_in _ (List.mem_of_getElem? (i := 3) rfl)) rfl inX1 tyX1_ok (by decide +kernel) (fun _ => rfl) (by omega) (by omega) (by rw [hX]; exact ⟨Nat.le_of_ble_eq_true rfl, Nat.le_of_ble_eq_true rfl⟩) e19 ?_
  refine J_dup E (jd dk_X6_init_0 19 rfl) rfl ?_
  obtain ⟨h20, e21, hf⟩ := jbind hf
  have l_h20 := len_X1_init N e21
  refine J_ctor (host := "RoundCoracles") E (jd dk_X6_init_0 20 rfl) (Or.inl mn_RX6_29) cal_X1_init (by omega) (lk_X1_init (jE_g E) (jE_tr E) N (by omega) e21) rfl (Nat.le_of_ble_eq_true rfl) (jR_le hX (by decide) (by decide)) (by rw [hX]; exact ⟨Nat.le_of_ble_eq_true rfl, Nat.le_of_ble_eq_true rfl⟩) rfl ?_
  rintro _ _ ⟨rfl, rfl⟩
  obtain ⟨h22, e23, hf⟩ := jbind hf
  have l_h22 := jpf_len e23
  refine J_put E (jd dk_X6_init_0 21 rfl) fl_RX6_30 e23 (fun _ => rfl) (fun _ => rfl) ?_
  refine J_aload_n E (jd dk_X6_init_0 22 rfl) rfl 0 rfl ?_
  obtain ⟨⟨x24, h25⟩, e26, hf⟩ := jbind hf
  have l_h25 := jmk_len e26
  refine J_newv (fs := [.null, .null, .int 0, .int 0, .null, .null, .null, .null, .int 0]) E tyX0 (jd dk_X6_init_0 23 rfl) (jl2_in _ (List.mem_of_getElem? (i := 31) rfl)) (jl2_in _ (List.mem_of_getElem? (i := 32) rfl)) (jl0_in _ (List.mem_of_getElem? (i := 4) rfl)) rfl inX0 tyX0_ok (by decide +kernel) (fun _ => rfl) (by omega) (by omega) (by rw [hX]; exact ⟨Nat.le_of_ble_eq_true rfl, Nat.le_of_ble_eq_true rfl⟩) e26 ?_
  refine J_dup E (jd dk_X6_init_0 24 rfl) rfl ?_
  obtain ⟨h27, e28, hf⟩ := jbind hf
  have l_h27 := len_X0_init N e28
  refine J_ctor (host := "RoundCoracles") E (jd dk_X6_init_0 25 rfl) (Or.inl mn_RX6_36) cal_X0_init (by omega) (lk_X0_init (jE_g E) (jE_tr E) N (by omega) e28) rfl (Nat.le_of_ble_eq_true rfl) (jR_le hX (by decide) (by decide)) (by rw [hX]; exact ⟨Nat.le_of_ble_eq_true rfl, Nat.le_of_ble_eq_true rfl⟩) rfl ?_
  rintro _ _ ⟨rfl, rfl⟩
  obtain ⟨h29, e30, hf⟩ := jbind hf
  have l_h29 := jpf_len e30
  refine J_putF E hnm (jd dk_X6_init_0 26 rfl) fl_RX6_37 ⟨_, _, _, rfl, rfl⟩ e30 (fun _ => rfl) (fun _ => rfl) ?_
  refine J_aload_n E (jd dk_X6_init_0 27 rfl) rfl 0 rfl ?_
  obtain ⟨⟨x31, h32⟩, e33, hf⟩ := jbind hf
  have l_h32 := jmk_len e33
  refine J_newv (fs := [.null, .null, .int 0, .int 0, .null, .null, .null, .null, .int 0]) E tyX0 (jd dk_X6_init_0 28 rfl) (jl2_in _ (List.mem_of_getElem? (i := 31) rfl)) (jl2_in _ (List.mem_of_getElem? (i := 32) rfl)) (jl0_in _ (List.mem_of_getElem? (i := 4) rfl)) rfl inX0 tyX0_ok (by decide +kernel) (fun _ => rfl) (by omega) (by omega) (by rw [hX]; exact ⟨Nat.le_of_ble_eq_true rfl, Nat.le_of_ble_eq_true rfl⟩) e33 ?_
  refine J_dup E (jd dk_X6_init_0 29 rfl) rfl ?_
  obtain ⟨h34, e35, hf⟩ := jbind hf
  have l_h34 := len_X0_init N e35
  refine J_ctor (host := "RoundCoracles") E (jd dk_X6_init_0 30 rfl) (Or.inl mn_RX6_36) cal_X0_init (by omega) (lk_X0_init (jE_g E) (jE_tr E) N (by omega) e35) rfl (Nat.le_of_ble_eq_true rfl) (jR_le hX (by decide) (by decide)) (by rw [hX]; exact ⟨Nat.le_of_ble_eq_true rfl, Nat.le_of_ble_eq_true rfl⟩) rfl ?_
  rintro _ _ ⟨rfl, rfl⟩
  obtain ⟨h36, e37, hf⟩ := jbind hf
  have l_h36 := jpf_len e37
  refine J_putF E hnm (jd dk_X6_init_0 31 rfl) fl_RX6_41 ⟨_, _, _, rfl, rfl⟩ e37 (fun _ => rfl) (fun _ => rfl) ?_
  refine J_aload_n E (jd dk_X6_init_0 32 rfl) rfl 0 rfl ?_
  refine J_iconst (v := 0) E (jd dk_X6_init_0 33 rfl) rfl ?_
  obtain ⟨h38, e39, hf⟩ := jbind hf
  have l_h38 := jwz_len e39
  refine J_putz E (jd dk_X6_init_0 34 rfl) fl_RX6_44 e39 ?_
  refine J_aload_n E (jd dk_X6_init_0 35 rfl) rfl 0 rfl ?_
  obtain ⟨⟨x40, h41⟩, e42, hf⟩ := jbind hf
  have l_h41 := jmk_len e42
  refine J_newv (fs := [.int 0, .null, .null, .null, .null, .null, .null, .null, .null]) E tyX5 (jd dk_X6_init_0 36 rfl) (jl4_in _ (List.mem_of_getElem? (i := 11) rfl)) (jl2_in _ (List.mem_of_getElem? (i := 37) rfl)) (jl0_in _ (List.mem_of_getElem? (i := 5) rfl)) rfl inX5 tyX5_ok (by decide +kernel) (fun _ => rfl) (by omega) (by omega) (by rw [hX]; exact ⟨Nat.le_of_ble_eq_true rfl, Nat.le_of_ble_eq_true rfl⟩) e42 ?_
  refine J_dup E (jd dk_X6_init_0 37 rfl) rfl ?_
  obtain ⟨h43, e44, hf⟩ := jbind hf
  have l_h43 := len_X5_init N e44
  refine J_ctor (host := "RoundCoracles") E (jd dk_X6_init_0 38 rfl) (Or.inl mn_RX6_50) cal_X5_init (by omega) (lk_X5_init (jE_g E) (jE_tr E) N (by omega) e44) rfl (Nat.le_of_ble_eq_true rfl) (jR_le hX (by decide) (by decide)) (by rw [hX]; exact ⟨Nat.le_of_ble_eq_true rfl, Nat.le_of_ble_eq_true rfl⟩) rfl ?_
  rintro _ _ ⟨rfl, rfl⟩
  obtain ⟨h45, e46, hf⟩ := jbind hf
  have l_h45 := jpf_len e46
  refine J_putF E hnm (jd dk_X6_init_0 39 rfl) fl_RX6_51 ⟨_, _, _, rfl, rfl⟩ e46 (fun _ => rfl) (fun _ => rfl) ?_
  refine J_aload_n E (jd dk_X6_init_0 40 rfl) rfl 0 rfl ?_
  obtain ⟨⟨x47, h48⟩, e49, hf⟩ := jbind hf
  have l_h48 := jmk_len e49
  refine J_newv (fs := [.int 0, .int 0, .null, .null]) E tyX3 (jd dk_X6_init_0 41 rfl) (jl4_in _ (List.mem_of_getElem? (i := 12) rfl)) (jl4_in _ (List.mem_of_getElem? (i := 13) rfl)) (jl0_in _ (List.mem_of_getElem? (i := 7) rfl)) rfl inX3 tyX3_ok (by decide +kernel) (fun _ => rfl) (by omega) (by omega) (by rw [hX]; exact ⟨Nat.le_of_ble_eq_true rfl, Nat.le_of_ble_eq_true rfl⟩) e49 ?_
  refine J_dup E (jd dk_X6_init_0 42 rfl) rfl ?_
  obtain ⟨h50, e51, hf⟩ := jbind hf
  have l_h50 := len_X3_init N e51
  refine J_ctor (host := "RoundCoracles") E (jd dk_X6_init_0 43 rfl) (Or.inl mn_RX6_57) cal_X3_init (by omega) (lk_X3_init (jE_g E) (jE_tr E) N (by omega) e51) rfl (Nat.le_of_ble_eq_true rfl) (jR_le hX (by decide) (by decide)) (by rw [hX]; exact ⟨Nat.le_of_ble_eq_true rfl, Nat.le_of_ble_eq_true rfl⟩) rfl ?_
  rintro _ _ ⟨rfl, rfl⟩
  obtain ⟨h52, e53, hf⟩ := jbind hf
  have l_h52 := jpf_len e53
  refine J_putF E hnm (jd dk_X6_init_0 44 rfl) fl_RX6_58 ⟨_, _, _, rfl, rfl⟩ e53 (fun _ => rfl) (fun _ => rfl) ?_
  refine J_aload_n E (jd dk_X6_init_0 45 rfl) rfl 0 rfl ?_
  refine J_bipush (v := 8) E (jd dk_X6_init_0 46 rfl) (by decide) ?_
  obtain ⟨⟨x54, h55⟩, e56, hf⟩ := jbind hf
  have l_h55 := jmk_len e56
  refine J_newav (N' := 8) (ak := 0) (a0 := (8, .inl (fun _ => 0))) E (jd dk_X6_init_0 47 rfl) rfl (jl2_in _ (List.mem_of_getElem? (i := 13) rfl)) rfl (fun _ _ z => z) (fun _ => rfl) (by decide) (by decide) (by decide) (by omega) (by omega) (by rw [hX]; exact ⟨Nat.le_of_ble_eq_true rfl, Nat.le_of_ble_eq_true rfl⟩) e56 ?_
  obtain ⟨h57, e58, hf⟩ := jbind hf
  have l_h57 := jpf_len e58
  refine J_putF E hnm (jd dk_X6_init_0 48 rfl) fl_RX6_62 ⟨_, _, _, rfl, rfl⟩ e58 (fun _ => rfl) (fun _ => rfl) ?_
  refine J_aload_n E (jd dk_X6_init_0 49 rfl) rfl 0 rfl ?_
  refine J_iconst (v := 4) E (jd dk_X6_init_1 0 rfl) rfl ?_
  obtain ⟨⟨x59, h60⟩, e61, hf⟩ := jbind hf
  have l_h60 := jmk_len e61
  refine J_newav (N' := 4) (ak := 0) (a0 := (4, .inl (fun _ => 0))) E (jd dk_X6_init_1 1 rfl) rfl (jl2_in _ (List.mem_of_getElem? (i := 13) rfl)) rfl (fun _ _ z => z) (fun _ => rfl) (by decide) (by decide) (by decide) (by omega) (by omega) (by rw [hX]; exact ⟨Nat.le_of_ble_eq_true rfl, Nat.le_of_ble_eq_true rfl⟩) e61 ?_
  obtain ⟨h62, e63, hf⟩ := jbind hf
  have l_h62 := jpf_len e63
  refine J_putF E hnm (jd dk_X6_init_1 2 rfl) fl_RX6_66 ⟨_, _, _, rfl, rfl⟩ e63 (fun _ => rfl) (fun _ => rfl) ?_
  refine J_aload_n E (jd dk_X6_init_1 3 rfl) rfl 0 rfl ?_
  refine J_iconst (v := 4) E (jd dk_X6_init_1 4 rfl) rfl ?_
  obtain ⟨⟨x64, h65⟩, e66, hf⟩ := jbind hf
  have l_h65 := jmk_len e66
  refine J_newav (N' := 4) (ak := 0) (a0 := (4, .inl (fun _ => 0))) E (jd dk_X6_init_1 5 rfl) rfl (jl2_in _ (List.mem_of_getElem? (i := 13) rfl)) rfl (fun _ _ z => z) (fun _ => rfl) (by decide) (by decide) (by decide) (by omega) (by omega) (by rw [hX]; exact ⟨Nat.le_of_ble_eq_true rfl, Nat.le_of_ble_eq_true rfl⟩) e66 ?_
  obtain ⟨h67, e68, hf⟩ := jbind hf
  have l_h67 := jpf_len e68
  refine J_putF E hnm (jd dk_X6_init_1 6 rfl) fl_RX6_69 ⟨_, _, _, rfl, rfl⟩ e68 (fun _ => rfl) (fun _ => rfl) ?_
  refine J_aload_n E (jd dk_X6_init_1 7 rfl) rfl 0 rfl ?_
  obtain ⟨x69, e70, hf⟩ := jbind hf
  refine J_getr E (jd dk_X6_init_1 8 rfl) fl_RX6_37 e70 ?_
  refine J_aload_n E (jd dk_X6_init_1 9 rfl) rfl 0 rfl ?_
  obtain ⟨x71, e72, hf⟩ := jbind hf
  refine J_getr E (jd dk_X6_init_1 10 rfl) fl_RX6_30 e72 ?_
  obtain ⟨u75, e76, hf⟩ := jbind hf
  obtain ⟨h73, e74, hf⟩ := jbind hf
  refine J_callV E (jd dk_X6_init_1 11 rfl) ml_RX6_72 cal_X0_begin e76 rfl (lk_X0_begin (jE_g E) (jE_tr E) N e74) rfl (Nat.le_of_ble_eq_true rfl) (jR_le hX (by decide) (by decide)) (by rw [hX]; exact ⟨Nat.le_of_ble_eq_true rfl, Nat.le_of_ble_eq_true rfl⟩) rfl ?_
  rintro _ _ ⟨rfl, rfl⟩
  cases hf
  exact J_vret E hr (jd dk_X6_init_1 12 rfl) (Nat.le_of_ble_eq_true rfl) (Nat.le_of_ble_eq_true rfl) ⟨rfl, rfl⟩
theorem dk_X7_init_0 : jDec cX7_init [(0, .aload_n 0, 1), (1, .invokespecial 3, 3), (4, .aload_n 0, 1), (5, .iconst 2, 1), (6, .anewarray 9, 3), (9, .dup, 1), (10, .iconst 0, 1), (11, .ldc 11, 2), (13, .aastore, 1), (14, .dup, 1), (15, .iconst 1, 1), (16, .ldc 13, 2), (18, .aastore, 1), (19, .putfield 15, 3), (22, .aload_n 0, 1), (23, .bipush 6, 2), (25, .anewarray 9, 3), (28, .dup, 1), (29, .iconst 0, 1), (30, .ldc 19, 2), (32, .aastore, 1), (33, .dup, 1), (34, .iconst 1, 1), (35, .ldc 21, 2), (37, .aastore, 1), (38, .dup, 1), (39, .iconst 2, 1), (40, .ldc 23, 2), (42, .aastore, 1), (43, .dup, 1), (44, .iconst 3, 1), (45, .ldc 25, 2), (47, .aastore, 1), (48, .dup, 1), (49, .iconst 4, 1), (50, .ldc 27, 2), (52, .aastore, 1), (53, .dup, 1), (54, .iconst 5, 1), (55, .ldc 29, 2), (57, .aastore, 1), (58, .putfield 31, 3), (61, .aload_n 0, 1), (62, .bipush 6, 2), (64, .anewarray 9, 3), (67, .dup, 1), (68, .iconst 0, 1), (69, .ldc 19, 2), (71, .aastore, 1), (72, .dup, 1)] := by
  unfold jDec
  decide +kernel
theorem dk_X7_init_1 : jDec cX7_init [(73, .iconst 1, 1), (74, .ldc 21, 2), (76, .aastore, 1), (77, .dup, 1), (78, .iconst 2, 1), (79, .ldc 23, 2), (81, .aastore, 1), (82, .dup, 1), (83, .iconst 3, 1), (84, .ldc 25, 2), (86, .aastore, 1), (87, .dup, 1), (88, .iconst 4, 1), (89, .ldc 27, 2), (91, .aastore, 1), (92, .dup, 1), (93, .iconst 5, 1), (94, .ldc 34, 2), (96, .aastore, 1), (97, .putfield 36, 3), (100, .aload_n 0, 1), (101, .aload_n 0, 1), (102, .getfield 31, 3), (105, .putfield 39, 3), (108, .aload_n 0, 1), (109, .bipush 10, 2), (111, .newarray .int, 2), (113, .putfield 42, 3), (116, .aload_n 0, 1), (117, .bipush 18, 2), (119, .newarray .int, 2), (121, .putfield 46, 3), (124, .aload_n 0, 1), (125, .bipush 18, 2), (127, .newarray .int, 2), (129, .putfield 49, 3), (132, .aload_n 0, 1), (133, .bipush 16, 2), (135, .newarray .int, 2), (137, .putfield 52, 3), (140, .aload_n 0, 1), (141, .bipush 16, 2), (143, .newarray .int, 2), (145, .putfield 54, 3), (148, .aload_n 0, 1), (149, .bipush 16, 2), (151, .newarray .int, 2), (153, .putfield 57, 3), (156, .aload_n 0, 1), (157, .bipush 16, 2)] := by
  unfold jDec
  decide +kernel
theorem dk_X7_init_2 : jDec cX7_init [(159, .newarray .int, 2), (161, .putfield 60, 3), (164, .aload_n 0, 1), (165, .sipush 1400, 3), (168, .newarray .int, 2), (170, .putfield 63, 3), (173, .aload_n 0, 1), (174, .sipush 1400, 3), (177, .newarray .int, 2), (179, .putfield 66, 3), (182, .aload_n 0, 1), (183, .iconst 3, 1), (184, .newarray .int, 2), (186, .putfield 69, 3), (189, .aload_n 0, 1), (190, .bipush 8, 2), (192, .newarray .int, 2), (194, .putfield 72, 3), (197, .aload_n 0, 1), (198, .sipush 700, 3), (201, .newarray .int, 2), (203, .putfield 74, 3), (206, .aload_n 0, 1), (207, .iconst (-1), 1), (208, .putfield 77, 3), (211, .aload_n 0, 1), (212, .bipush 8, 2), (214, .newarray .int, 2), (216, .putfield 81, 3), (219, .aload_n 0, 1), (220, .bipush 8, 2), (222, .newarray .int, 2), (224, .putfield 84, 3), (227, .aload_n 0, 1), (228, .bipush 8, 2), (230, .newarray .int, 2), (232, .putfield 87, 3), (235, .aload_n 0, 1), (236, .bipush 9, 2), (238, .newarray .int, 2), (240, .putfield 90, 3), (243, .aload_n 0, 1), (244, .bipush 9, 2), (246, .newarray .int, 2), (248, .putfield 92, 3), (251, .aload_n 0, 1), (252, .sipush 1720, 3), (255, .newarray .int, 2), (257, .putfield 94, 3), (260, .aload_n 0, 1)] := by
  unfold jDec
  decide +kernel
theorem dk_X7_init_3 : jDec cX7_init [(261, .bipush 6, 2), (263, .newarray .int, 2), (265, .putfield 97, 3), (268, .aload_n 0, 1), (269, .bipush 64, 2), (271, .newarray .int, 2), (273, .putfield 100, 3), (276, .aload_n 0, 1), (277, .bipush 8, 2), (279, .newarray .int, 2), (281, .putfield 103, 3), (284, .aload_n 0, 1), (285, .bipush 43, 2), (287, .newarray .int, 2), (289, .putfield 106, 3), (292, .aload_n 0, 1), (293, .sipush 2304, 3), (296, .newarray .int, 2), (298, .putfield 109, 3), (301, .aload_n 0, 1), (302, .bipush 8, 2), (304, .newarray .int, 2), (306, .putfield 112, 3), (309, .aload_n 0, 1), (310, .bipush 8, 2), (312, .newarray .int, 2), (314, .putfield 115, 3), (317, .aload_n 0, 1), (318, .bipush 8, 2), (320, .newarray .int, 2), (322, .putfield 118, 3), (325, .aload_n 0, 1), (326, .bipush 43, 2), (328, .newarray .int, 2), (330, .putfield 121, 3), (333, .aload_n 0, 1), (334, .bipush 80, 2), (336, .newarray .int, 2), (338, .putfield 124, 3), (341, .aload_n 0, 1), (342, .bipush 8, 2), (344, .newarray .int, 2), (346, .putfield 127, 3), (349, .aload_n 0, 1), (350, .bipush 8, 2), (352, .newarray .int, 2), (354, .putfield 130, 3), (357, .aload_n 0, 1), (358, .bipush 43, 2), (360, .newarray .int, 2)] := by
  unfold jDec
  decide +kernel
theorem dk_X7_init_4 : jDec cX7_init [(362, .putfield 133, 3), (365, .aload_n 0, 1), (366, .sipush 1720, 3), (369, .newarray .int, 2), (371, .putfield 136, 3), (374, .aload_n 0, 1), (375, .bipush 8, 2), (377, .newarray .int, 2), (379, .putfield 139, 3), (382, .aload_n 0, 1), (383, .bipush 8, 2), (385, .newarray .int, 2), (387, .putfield 142, 3), (390, .aload_n 0, 1), (391, .bipush 8, 2), (393, .newarray .int, 2), (395, .putfield 145, 3), (398, .aload_n 0, 1), (399, .iconst 3, 1), (400, .newarray .int, 2), (402, .putfield 148, 3), (405, .aload_n 0, 1), (406, .getfield 42, 3), (409, .iconst 0, 1), (410, .iconst 4, 1), (411, .iastore, 1), (412, .return_, 1)] := by
  unfold jDec
  decide +kernel
def f_X7_init (N : Nat) (h : AH) (a0 : Nat) : Option AH :=
  (jmk (.inl (4, 2, .inr (.inr (.inr (.inr (fun _ => none)))))) h).bind fun (x1, h2) =>
  (jrs h2 x1 0 1000024).bind fun h4 =>
  (jrs h4 x1 1 1000025).bind fun h6 =>
  (jwr 7 h6 a0 0 x1).bind fun h8 =>
  (jmk (.inl (4, 6, .inr (.inr (.inr (.inr (fun _ => none)))))) h8).bind fun (x10, h11) =>
  (jrs h11 x10 0 1000026).bind fun h13 =>
  (jrs h13 x10 1 1000027).bind fun h15 =>
  (jrs h15 x10 2 1000028).bind fun h17 =>
  (jrs h17 x10 3 1000029).bind fun h19 =>
  (jrs h19 x10 4 1000030).bind fun h21 =>
  (jrs h21 x10 5 1000031).bind fun h23 =>
  (jwr 7 h23 a0 1 x10).bind fun h25 =>
  (jmk (.inl (4, 6, .inr (.inr (.inr (.inr (fun _ => none)))))) h25).bind fun (x27, h28) =>
  (jrs h28 x27 0 1000026).bind fun h30 =>
  (jrs h30 x27 1 1000027).bind fun h32 =>
  (jrs h32 x27 2 1000028).bind fun h34 =>
  (jrs h34 x27 3 1000029).bind fun h36 =>
  (jrs h36 x27 4 1000030).bind fun h38 =>
  (jrs h38 x27 5 1000032).bind fun h40 =>
  (jwr 7 h40 a0 2 x27).bind fun h42 =>
  (jgr 7 h42 a0 1).bind fun x44 =>
  (jwr 7 h42 a0 3 x44).bind fun h46 =>
  (jmk (.inl (0, 10, .inl (fun _ => 0))) h46).bind fun (x48, h49) =>
  (jwr 7 h49 a0 5 x48).bind fun h51 =>
  (jmk (.inl (0, 18, .inl (fun _ => 0))) h51).bind fun (x53, h54) =>
  (jwr 7 h54 a0 6 x53).bind fun h56 =>
  (jmk (.inl (0, 18, .inl (fun _ => 0))) h56).bind fun (x58, h59) =>
  (jwr 7 h59 a0 7 x58).bind fun h61 =>
  (jmk (.inl (0, 16, .inl (fun _ => 0))) h61).bind fun (x63, h64) =>
  (jwr 7 h64 a0 8 x63).bind fun h66 =>
  (jmk (.inl (0, 16, .inl (fun _ => 0))) h66).bind fun (x68, h69) =>
  (jwr 7 h69 a0 9 x68).bind fun h71 =>
  (jmk (.inl (0, 16, .inl (fun _ => 0))) h71).bind fun (x73, h74) =>
  (jwr 7 h74 a0 10 x73).bind fun h76 =>
  (jmk (.inl (0, 16, .inl (fun _ => 0))) h76).bind fun (x78, h79) =>
  (jwr 7 h79 a0 11 x78).bind fun h81 =>
  (jmk (.inl (0, 1400, .inl (fun _ => 0))) h81).bind fun (x83, h84) =>
  (jwr 7 h84 a0 12 x83).bind fun h86 =>
  (jmk (.inl (0, 1400, .inl (fun _ => 0))) h86).bind fun (x88, h89) =>
  (jwr 7 h89 a0 13 x88).bind fun h91 =>
  (jmk (.inl (0, 3, .inl (fun _ => 0))) h91).bind fun (x93, h94) =>
  (jwr 7 h94 a0 14 x93).bind fun h96 =>
  (jmk (.inl (0, 8, .inl (fun _ => 0))) h96).bind fun (x98, h99) =>
  (jwr 7 h99 a0 15 x98).bind fun h101 =>
  (jmk (.inl (0, 700, .inl (fun _ => 0))) h101).bind fun (x103, h104) =>
  (jwr 7 h104 a0 16 x103).bind fun h106 =>
  (jwi 7 h106 a0 26 ((-1))).bind fun h108 =>
  (jmk (.inl (0, 8, .inl (fun _ => 0))) h108).bind fun (x110, h111) =>
  (jwr 7 h111 a0 28 x110).bind fun h113 =>
  (jmk (.inl (0, 8, .inl (fun _ => 0))) h113).bind fun (x115, h116) =>
  (jwr 7 h116 a0 29 x115).bind fun h118 =>
  (jmk (.inl (0, 8, .inl (fun _ => 0))) h118).bind fun (x120, h121) =>
  (jwr 7 h121 a0 30 x120).bind fun h123 =>
  (jmk (.inl (0, 9, .inl (fun _ => 0))) h123).bind fun (x125, h126) =>
  (jwr 7 h126 a0 31 x125).bind fun h128 =>
  (jmk (.inl (0, 9, .inl (fun _ => 0))) h128).bind fun (x130, h131) =>
  (jwr 7 h131 a0 32 x130).bind fun h133 =>
  (jmk (.inl (0, 1720, .inl (fun _ => 0))) h133).bind fun (x135, h136) =>
  (jwr 7 h136 a0 33 x135).bind fun h138 =>
  (jmk (.inl (0, 6, .inl (fun _ => 0))) h138).bind fun (x140, h141) =>
  (jwr 7 h141 a0 37 x140).bind fun h143 =>
  (jmk (.inl (0, 64, .inl (fun _ => 0))) h143).bind fun (x145, h146) =>
  (jwr 7 h146 a0 38 x145).bind fun h148 =>
  (jmk (.inl (0, 8, .inl (fun _ => 0))) h148).bind fun (x150, h151) =>
  (jwr 7 h151 a0 39 x150).bind fun h153 =>
  (jmk (.inl (0, 43, .inl (fun _ => 0))) h153).bind fun (x155, h156) =>
  (jwr 7 h156 a0 41 x155).bind fun h158 =>
  (jmk (.inl (0, 2304, .inl (fun _ => 0))) h158).bind fun (x160, h161) =>
  (jwr 7 h161 a0 42 x160).bind fun h163 =>
  (jmk (.inl (0, 8, .inl (fun _ => 0))) h163).bind fun (x165, h166) =>
  (jwr 7 h166 a0 43 x165).bind fun h168 =>
  (jmk (.inl (0, 8, .inl (fun _ => 0))) h168).bind fun (x170, h171) =>
  (jwr 7 h171 a0 44 x170).bind fun h173 =>
  (jmk (.inl (0, 8, .inl (fun _ => 0))) h173).bind fun (x175, h176) =>
  (jwr 7 h176 a0 45 x175).bind fun h178 =>
  (jmk (.inl (0, 43, .inl (fun _ => 0))) h178).bind fun (x180, h181) =>
  (jwr 7 h181 a0 46 x180).bind fun h183 =>
  (jmk (.inl (0, 80, .inl (fun _ => 0))) h183).bind fun (x185, h186) =>
  (jwr 7 h186 a0 47 x185).bind fun h188 =>
  (jmk (.inl (0, 8, .inl (fun _ => 0))) h188).bind fun (x190, h191) =>
  (jwr 7 h191 a0 48 x190).bind fun h193 =>
  (jmk (.inl (0, 8, .inl (fun _ => 0))) h193).bind fun (x195, h196) =>
  (jwr 7 h196 a0 50 x195).bind fun h198 =>
  (jmk (.inl (0, 43, .inl (fun _ => 0))) h198).bind fun (x200, h201) =>
  (jwr 7 h201 a0 55 x200).bind fun h203 =>
  (jmk (.inl (0, 1720, .inl (fun _ => 0))) h203).bind fun (x205, h206) =>
  (jwr 7 h206 a0 56 x205).bind fun h208 =>
  (jmk (.inl (0, 8, .inl (fun _ => 0))) h208).bind fun (x210, h211) =>
  (jwr 7 h211 a0 57 x210).bind fun h213 =>
  (jmk (.inl (0, 8, .inl (fun _ => 0))) h213).bind fun (x215, h216) =>
  (jwr 7 h216 a0 58 x215).bind fun h218 =>
  (jmk (.inl (0, 8, .inl (fun _ => 0))) h218).bind fun (x220, h221) =>
  (jwr 7 h221 a0 59 x220).bind fun h223 =>
  (jmk (.inl (0, 3, .inl (fun _ => 0))) h223).bind fun (x225, h226) =>
  (jwr 7 h226 a0 60 x225).bind fun h228 =>
  (jgr 7 h228 a0 5).bind fun x230 =>
  (jas 0 h228 x230 0 4).bind fun h232 =>
  some h232
set_option maxRecDepth 100000 in
set_option maxHeartbeats 4000000 in
theorem len_X7_init (N : Nat) {h r : AH} {a0 : Nat} (hf : f_X7_init N h a0 = some r) : r.length = h.length + 39 := by
  unfold f_X7_init at hf
  obtain ⟨⟨x1, h2⟩, e3, hf⟩ := jbind hf
  have l_h2 := jmk_len e3
  obtain ⟨h4, e5, hf⟩ := jbind hf
  have l_h4 := jrs_len e5
  obtain ⟨h6, e7, hf⟩ := jbind hf
  have l_h6 := jrs_len e7
  obtain ⟨h8, e9, hf⟩ := jbind hf
  have l_h8 := jpf_len e9
  obtain ⟨⟨x10, h11⟩, e12, hf⟩ := jbind hf
  have l_h11 := jmk_len e12
  obtain ⟨h13, e14, hf⟩ := jbind hf
  have l_h13 := jrs_len e14
  obtain ⟨h15, e16, hf⟩ := jbind hf
  have l_h15 := jrs_len e16
  obtain ⟨h17, e18, hf⟩ := jbind hf
  have l_h17 := jrs_len e18
  obtain ⟨h19, e20, hf⟩ := jbind hf
  have l_h19 := jrs_len e20
  obtain ⟨h21, e22, hf⟩ := jbind hf
  have l_h21 := jrs_len e22
  obtain ⟨h23, e24, hf⟩ := jbind hf
  have l_h23 := jrs_len e24
  obtain ⟨h25, e26, hf⟩ := jbind hf
  have l_h25 := jpf_len e26
  obtain ⟨⟨x27, h28⟩, e29, hf⟩ := jbind hf
  have l_h28 := jmk_len e29
  obtain ⟨h30, e31, hf⟩ := jbind hf
  have l_h30 := jrs_len e31
  obtain ⟨h32, e33, hf⟩ := jbind hf
  have l_h32 := jrs_len e33
  obtain ⟨h34, e35, hf⟩ := jbind hf
  have l_h34 := jrs_len e35
  obtain ⟨h36, e37, hf⟩ := jbind hf
  have l_h36 := jrs_len e37
  obtain ⟨h38, e39, hf⟩ := jbind hf
  have l_h38 := jrs_len e39
  obtain ⟨h40, e41, hf⟩ := jbind hf
  have l_h40 := jrs_len e41
  obtain ⟨h42, e43, hf⟩ := jbind hf
  have l_h42 := jpf_len e43
  obtain ⟨x44, e45, hf⟩ := jbind hf
  obtain ⟨h46, e47, hf⟩ := jbind hf
  have l_h46 := jpf_len e47
  obtain ⟨⟨x48, h49⟩, e50, hf⟩ := jbind hf
  have l_h49 := jmk_len e50
  obtain ⟨h51, e52, hf⟩ := jbind hf
  have l_h51 := jpf_len e52
  obtain ⟨⟨x53, h54⟩, e55, hf⟩ := jbind hf
  have l_h54 := jmk_len e55
  obtain ⟨h56, e57, hf⟩ := jbind hf
  have l_h56 := jpf_len e57
  obtain ⟨⟨x58, h59⟩, e60, hf⟩ := jbind hf
  have l_h59 := jmk_len e60
  obtain ⟨h61, e62, hf⟩ := jbind hf
  have l_h61 := jpf_len e62
  obtain ⟨⟨x63, h64⟩, e65, hf⟩ := jbind hf
  have l_h64 := jmk_len e65
  obtain ⟨h66, e67, hf⟩ := jbind hf
  have l_h66 := jpf_len e67
  obtain ⟨⟨x68, h69⟩, e70, hf⟩ := jbind hf
  have l_h69 := jmk_len e70
  obtain ⟨h71, e72, hf⟩ := jbind hf
  have l_h71 := jpf_len e72
  obtain ⟨⟨x73, h74⟩, e75, hf⟩ := jbind hf
  have l_h74 := jmk_len e75
  obtain ⟨h76, e77, hf⟩ := jbind hf
  have l_h76 := jpf_len e77
  obtain ⟨⟨x78, h79⟩, e80, hf⟩ := jbind hf
  have l_h79 := jmk_len e80
  obtain ⟨h81, e82, hf⟩ := jbind hf
  have l_h81 := jpf_len e82
  obtain ⟨⟨x83, h84⟩, e85, hf⟩ := jbind hf
  have l_h84 := jmk_len e85
  obtain ⟨h86, e87, hf⟩ := jbind hf
  have l_h86 := jpf_len e87
  obtain ⟨⟨x88, h89⟩, e90, hf⟩ := jbind hf
  have l_h89 := jmk_len e90
  obtain ⟨h91, e92, hf⟩ := jbind hf
  have l_h91 := jpf_len e92
  obtain ⟨⟨x93, h94⟩, e95, hf⟩ := jbind hf
  have l_h94 := jmk_len e95
  obtain ⟨h96, e97, hf⟩ := jbind hf
  have l_h96 := jpf_len e97
  obtain ⟨⟨x98, h99⟩, e100, hf⟩ := jbind hf
  have l_h99 := jmk_len e100
  obtain ⟨h101, e102, hf⟩ := jbind hf
  have l_h101 := jpf_len e102
  obtain ⟨⟨x103, h104⟩, e105, hf⟩ := jbind hf
  have l_h104 := jmk_len e105
  obtain ⟨h106, e107, hf⟩ := jbind hf
  have l_h106 := jpf_len e107
  obtain ⟨h108, e109, hf⟩ := jbind hf
  have l_h108 := jpf_len e109
  obtain ⟨⟨x110, h111⟩, e112, hf⟩ := jbind hf
  have l_h111 := jmk_len e112
  obtain ⟨h113, e114, hf⟩ := jbind hf
  have l_h113 := jpf_len e114
  obtain ⟨⟨x115, h116⟩, e117, hf⟩ := jbind hf
  have l_h116 := jmk_len e117
  obtain ⟨h118, e119, hf⟩ := jbind hf
  have l_h118 := jpf_len e119
  obtain ⟨⟨x120, h121⟩, e122, hf⟩ := jbind hf
  have l_h121 := jmk_len e122
  obtain ⟨h123, e124, hf⟩ := jbind hf
  have l_h123 := jpf_len e124
  obtain ⟨⟨x125, h126⟩, e127, hf⟩ := jbind hf
  have l_h126 := jmk_len e127
  obtain ⟨h128, e129, hf⟩ := jbind hf
  have l_h128 := jpf_len e129
  obtain ⟨⟨x130, h131⟩, e132, hf⟩ := jbind hf
  have l_h131 := jmk_len e132
  obtain ⟨h133, e134, hf⟩ := jbind hf
  have l_h133 := jpf_len e134
  obtain ⟨⟨x135, h136⟩, e137, hf⟩ := jbind hf
  have l_h136 := jmk_len e137
  obtain ⟨h138, e139, hf⟩ := jbind hf
  have l_h138 := jpf_len e139
  obtain ⟨⟨x140, h141⟩, e142, hf⟩ := jbind hf
  have l_h141 := jmk_len e142
  obtain ⟨h143, e144, hf⟩ := jbind hf
  have l_h143 := jpf_len e144
  obtain ⟨⟨x145, h146⟩, e147, hf⟩ := jbind hf
  have l_h146 := jmk_len e147
  obtain ⟨h148, e149, hf⟩ := jbind hf
  have l_h148 := jpf_len e149
  obtain ⟨⟨x150, h151⟩, e152, hf⟩ := jbind hf
  have l_h151 := jmk_len e152
  obtain ⟨h153, e154, hf⟩ := jbind hf
  have l_h153 := jpf_len e154
  obtain ⟨⟨x155, h156⟩, e157, hf⟩ := jbind hf
  have l_h156 := jmk_len e157
  obtain ⟨h158, e159, hf⟩ := jbind hf
  have l_h158 := jpf_len e159
  obtain ⟨⟨x160, h161⟩, e162, hf⟩ := jbind hf
  have l_h161 := jmk_len e162
  obtain ⟨h163, e164, hf⟩ := jbind hf
  have l_h163 := jpf_len e164
  obtain ⟨⟨x165, h166⟩, e167, hf⟩ := jbind hf
  have l_h166 := jmk_len e167
  obtain ⟨h168, e169, hf⟩ := jbind hf
  have l_h168 := jpf_len e169
  obtain ⟨⟨x170, h171⟩, e172, hf⟩ := jbind hf
  have l_h171 := jmk_len e172
  obtain ⟨h173, e174, hf⟩ := jbind hf
  have l_h173 := jpf_len e174
  obtain ⟨⟨x175, h176⟩, e177, hf⟩ := jbind hf
  have l_h176 := jmk_len e177
  obtain ⟨h178, e179, hf⟩ := jbind hf
  have l_h178 := jpf_len e179
  obtain ⟨⟨x180, h181⟩, e182, hf⟩ := jbind hf
  have l_h181 := jmk_len e182
  obtain ⟨h183, e184, hf⟩ := jbind hf
  have l_h183 := jpf_len e184
  obtain ⟨⟨x185, h186⟩, e187, hf⟩ := jbind hf
  have l_h186 := jmk_len e187
  obtain ⟨h188, e189, hf⟩ := jbind hf
  have l_h188 := jpf_len e189
  obtain ⟨⟨x190, h191⟩, e192, hf⟩ := jbind hf
  have l_h191 := jmk_len e192
  obtain ⟨h193, e194, hf⟩ := jbind hf
  have l_h193 := jpf_len e194
  obtain ⟨⟨x195, h196⟩, e197, hf⟩ := jbind hf
  have l_h196 := jmk_len e197
  obtain ⟨h198, e199, hf⟩ := jbind hf
  have l_h198 := jpf_len e199
  obtain ⟨⟨x200, h201⟩, e202, hf⟩ := jbind hf
  have l_h201 := jmk_len e202
  obtain ⟨h203, e204, hf⟩ := jbind hf
  have l_h203 := jpf_len e204
  obtain ⟨⟨x205, h206⟩, e207, hf⟩ := jbind hf
  have l_h206 := jmk_len e207
  obtain ⟨h208, e209, hf⟩ := jbind hf
  have l_h208 := jpf_len e209
  obtain ⟨⟨x210, h211⟩, e212, hf⟩ := jbind hf
  have l_h211 := jmk_len e212
  obtain ⟨h213, e214, hf⟩ := jbind hf
  have l_h213 := jpf_len e214
  obtain ⟨⟨x215, h216⟩, e217, hf⟩ := jbind hf
  have l_h216 := jmk_len e217
  obtain ⟨h218, e219, hf⟩ := jbind hf
  have l_h218 := jpf_len e219
  obtain ⟨⟨x220, h221⟩, e222, hf⟩ := jbind hf
  have l_h221 := jmk_len e222
  obtain ⟨h223, e224, hf⟩ := jbind hf
  have l_h223 := jpf_len e224
  obtain ⟨⟨x225, h226⟩, e227, hf⟩ := jbind hf
  have l_h226 := jmk_len e227
  obtain ⟨h228, e229, hf⟩ := jbind hf
  have l_h228 := jpf_len e229
  obtain ⟨x230, e231, hf⟩ := jbind hf
  obtain ⟨h232, e233, hf⟩ := jbind hf
  have l_h232 := jas_len e233
  cases hf
  omega
set_option maxRecDepth 100000 in
set_option maxHeartbeats 4000000 in
theorem lk_X7_init {G : JG} {l : Launch} (hG : jG G) (htr : l.stackTraces = false) (N : Nat) {h : AH} {a0 : Nat} {r : AH} (hb9 : h.length ≤ 5000) (hf : f_X7_init N h a0 = some r) : jMetN G l yX7_init cX7_init 1 0 39 9775 [.ref a0] h (jpv r) := by
  unfold f_X7_init at hf
  refine jMetN_of hG htr (by decide) (Nat.le_of_ble_eq_true rfl) ?_
  intro X E hl9 hr hX hnm hz0
  show JW G X (RX7, cX7_init, 1) h [(0, .ref a0)] [] 0 0 0 (jEnd G X (jpv r) 39 9775)
  refine J_aload_n E (jd dk_X7_init_0 0 rfl) rfl 0 rfl ?_
  refine J_obj E (jd dk_X7_init_0 1 rfl) (jl23_in _ (List.mem_of_getElem? (i := 35) rfl)) (jl0_in _ (List.mem_of_getElem? (i := 28) rfl)) (jl0_in _ (List.mem_of_getElem? (i := 29) rfl)) (Nat.le_of_ble_eq_true rfl) ?_
  refine J_aload_n E (jd dk_X7_init_0 2 rfl) rfl 0 rfl ?_
  refine J_iconst (v := 2) E (jd dk_X7_init_0 3 rfl) rfl ?_
  obtain ⟨⟨x1, h2⟩, e3, hf⟩ := jbind hf
  have l_h2 := jmk_len e3
  refine J_anewv (N' := 2) E (jd dk_X7_init_0 4 rfl) (jl23_in _ (List.mem_of_getElem? (i := 36) rfl)) (by decide) (by decide) (by decide) (by omega) (by omega) (by rw [hX]; exact ⟨Nat.le_of_ble_eq_true rfl, Nat.le_of_ble_eq_true rfl⟩) e3 ?_
  refine J_dup E (jd dk_X7_init_0 5 rfl) rfl ?_
  refine J_iconst (v := 0) E (jd dk_X7_init_0 6 rfl) rfl ?_
  refine J_ldcS (j := 24) (tx := "judge") E (jd dk_X7_init_0 7 rfl) rfl ?_
  obtain ⟨h4, e5, hf⟩ := jbind hf
  have l_h4 := jrs_len e5
  refine J_aast (j := 24) E rfl (jd dk_X7_init_0 8 rfl) e5 ?_
  refine J_dup E (jd dk_X7_init_0 9 rfl) rfl ?_
  refine J_iconst (v := 1) E (jd dk_X7_init_0 10 rfl) rfl ?_
  refine J_ldcS (j := 25) (tx := "bigot") E (jd dk_X7_init_0 11 rfl) rfl ?_
  obtain ⟨h6, e7, hf⟩ := jbind hf
  have l_h6 := jrs_len e7
  refine J_aast (j := 25) E rfl (jd dk_X7_init_0 12 rfl) e7 ?_
  obtain ⟨h8, e9, hf⟩ := jbind hf
  have l_h8 := jpf_len e9
  refine J_putF E hnm (jd dk_X7_init_0 13 rfl) fl_RX7_15 ⟨_, _, _, rfl, rfl⟩ e9 (fun _ => rfl) (fun _ => rfl) ?_
  refine J_aload_n E (jd dk_X7_init_0 14 rfl) rfl 0 rfl ?_
  refine J_bipush (v := 6) E (jd dk_X7_init_0 15 rfl) (by decide) ?_
  obtain ⟨⟨x10, h11⟩, e12, hf⟩ := jbind hf
  have l_h11 := jmk_len e12
  refine J_anewv (N' := 6) E (jd dk_X7_init_0 16 rfl) (jl23_in _ (List.mem_of_getElem? (i := 36) rfl)) (by decide) (by decide) (by decide) (by omega) (by omega) (by rw [hX]; exact ⟨Nat.le_of_ble_eq_true rfl, Nat.le_of_ble_eq_true rfl⟩) e12 ?_
  refine J_dup E (jd dk_X7_init_0 17 rfl) rfl ?_
  refine J_iconst (v := 0) E (jd dk_X7_init_0 18 rfl) rfl ?_
  refine J_ldcS (j := 26) (tx := "lean") E (jd dk_X7_init_0 19 rfl) rfl ?_
  obtain ⟨h13, e14, hf⟩ := jbind hf
  have l_h13 := jrs_len e14
  refine J_aast (j := 26) E rfl (jd dk_X7_init_0 20 rfl) e14 ?_
  refine J_dup E (jd dk_X7_init_0 21 rfl) rfl ?_
  refine J_iconst (v := 1) E (jd dk_X7_init_0 22 rfl) rfl ?_
  refine J_ldcS (j := 27) (tx := "seen") E (jd dk_X7_init_0 23 rfl) rfl ?_
  obtain ⟨h15, e16, hf⟩ := jbind hf
  have l_h15 := jrs_len e16
  refine J_aast (j := 27) E rfl (jd dk_X7_init_0 24 rfl) e16 ?_
  refine J_dup E (jd dk_X7_init_0 25 rfl) rfl ?_
  refine J_iconst (v := 2) E (jd dk_X7_init_0 26 rfl) rfl ?_
  refine J_ldcS (j := 28) (tx := "faces") E (jd dk_X7_init_0 27 rfl) rfl ?_
  obtain ⟨h17, e18, hf⟩ := jbind hf
  have l_h17 := jrs_len e18
  refine J_aast (j := 28) E rfl (jd dk_X7_init_0 28 rfl) e18 ?_
  refine J_dup E (jd dk_X7_init_0 29 rfl) rfl ?_
  refine J_iconst (v := 3) E (jd dk_X7_init_0 30 rfl) rfl ?_
  refine J_ldcS (j := 29) (tx := "here") E (jd dk_X7_init_0 31 rfl) rfl ?_
  obtain ⟨h19, e20, hf⟩ := jbind hf
  have l_h19 := jrs_len e20
  refine J_aast (j := 29) E rfl (jd dk_X7_init_0 32 rfl) e20 ?_
  refine J_dup E (jd dk_X7_init_0 33 rfl) rfl ?_
  refine J_iconst (v := 4) E (jd dk_X7_init_0 34 rfl) rfl ?_
  refine J_ldcS (j := 30) (tx := "step") E (jd dk_X7_init_0 35 rfl) rfl ?_
  obtain ⟨h21, e22, hf⟩ := jbind hf
  have l_h21 := jrs_len e22
  refine J_aast (j := 30) E rfl (jd dk_X7_init_0 36 rfl) e22 ?_
  refine J_dup E (jd dk_X7_init_0 37 rfl) rfl ?_
  refine J_iconst (v := 5) E (jd dk_X7_init_0 38 rfl) rfl ?_
  refine J_ldcS (j := 31) (tx := "spin") E (jd dk_X7_init_0 39 rfl) rfl ?_
  obtain ⟨h23, e24, hf⟩ := jbind hf
  have l_h23 := jrs_len e24
  refine J_aast (j := 31) E rfl (jd dk_X7_init_0 40 rfl) e24 ?_
  obtain ⟨h25, e26, hf⟩ := jbind hf
  have l_h25 := jpf_len e26
  refine J_putF E hnm (jd dk_X7_init_0 41 rfl) fl_RX7_31 ⟨_, _, _, rfl, rfl⟩ e26 (fun _ => rfl) (fun _ => rfl) ?_
  refine J_aload_n E (jd dk_X7_init_0 42 rfl) rfl 0 rfl ?_
  refine J_bipush (v := 6) E (jd dk_X7_init_0 43 rfl) (by decide) ?_
  obtain ⟨⟨x27, h28⟩, e29, hf⟩ := jbind hf
  have l_h28 := jmk_len e29
  refine J_anewv (N' := 6) E (jd dk_X7_init_0 44 rfl) (jl23_in _ (List.mem_of_getElem? (i := 36) rfl)) (by decide) (by decide) (by decide) (by omega) (by omega) (by rw [hX]; exact ⟨Nat.le_of_ble_eq_true rfl, Nat.le_of_ble_eq_true rfl⟩) e29 ?_
  refine J_dup E (jd dk_X7_init_0 45 rfl) rfl ?_
  refine J_iconst (v := 0) E (jd dk_X7_init_0 46 rfl) rfl ?_
  refine J_ldcS (j := 26) (tx := "lean") E (jd dk_X7_init_0 47 rfl) rfl ?_
  obtain ⟨h30, e31, hf⟩ := jbind hf
  have l_h30 := jrs_len e31
  refine J_aast (j := 26) E rfl (jd dk_X7_init_0 48 rfl) e31 ?_
  refine J_dup E (jd dk_X7_init_0 49 rfl) rfl ?_
  refine J_iconst (v := 1) E (jd dk_X7_init_1 0 rfl) rfl ?_
  refine J_ldcS (j := 27) (tx := "seen") E (jd dk_X7_init_1 1 rfl) rfl ?_
  obtain ⟨h32, e33, hf⟩ := jbind hf
  have l_h32 := jrs_len e33
  refine J_aast (j := 27) E rfl (jd dk_X7_init_1 2 rfl) e33 ?_
  refine J_dup E (jd dk_X7_init_1 3 rfl) rfl ?_
  refine J_iconst (v := 2) E (jd dk_X7_init_1 4 rfl) rfl ?_
  refine J_ldcS (j := 28) (tx := "faces") E (jd dk_X7_init_1 5 rfl) rfl ?_
  obtain ⟨h34, e35, hf⟩ := jbind hf
  have l_h34 := jrs_len e35
  refine J_aast (j := 28) E rfl (jd dk_X7_init_1 6 rfl) e35 ?_
  refine J_dup E (jd dk_X7_init_1 7 rfl) rfl ?_
  refine J_iconst (v := 3) E (jd dk_X7_init_1 8 rfl) rfl ?_
  refine J_ldcS (j := 29) (tx := "here") E (jd dk_X7_init_1 9 rfl) rfl ?_
  obtain ⟨h36, e37, hf⟩ := jbind hf
  have l_h36 := jrs_len e37
  refine J_aast (j := 29) E rfl (jd dk_X7_init_1 10 rfl) e37 ?_
  refine J_dup E (jd dk_X7_init_1 11 rfl) rfl ?_
  refine J_iconst (v := 4) E (jd dk_X7_init_1 12 rfl) rfl ?_
  refine J_ldcS (j := 30) (tx := "step") E (jd dk_X7_init_1 13 rfl) rfl ?_
  obtain ⟨h38, e39, hf⟩ := jbind hf
  have l_h38 := jrs_len e39
  refine J_aast (j := 30) E rfl (jd dk_X7_init_1 14 rfl) e39 ?_
  refine J_dup E (jd dk_X7_init_1 15 rfl) rfl ?_
  refine J_iconst (v := 5) E (jd dk_X7_init_1 16 rfl) rfl ?_
  refine J_ldcS (j := 32) (tx := "flow") E (jd dk_X7_init_1 17 rfl) rfl ?_
  obtain ⟨h40, e41, hf⟩ := jbind hf
  have l_h40 := jrs_len e41
  refine J_aast (j := 32) E rfl (jd dk_X7_init_1 18 rfl) e41 ?_
  obtain ⟨h42, e43, hf⟩ := jbind hf
  have l_h42 := jpf_len e43
  refine J_putF E hnm (jd dk_X7_init_1 19 rfl) fl_RX7_36 ⟨_, _, _, rfl, rfl⟩ e43 (fun _ => rfl) (fun _ => rfl) ?_
  refine J_aload_n E (jd dk_X7_init_1 20 rfl) rfl 0 rfl ?_
  refine J_aload_n E (jd dk_X7_init_1 21 rfl) rfl 0 rfl ?_
  obtain ⟨x44, e45, hf⟩ := jbind hf
  refine J_getr E (jd dk_X7_init_1 22 rfl) fl_RX7_31 e45 ?_
  obtain ⟨h46, e47, hf⟩ := jbind hf
  have l_h46 := jpf_len e47
  refine J_put E (jd dk_X7_init_1 23 rfl) fl_RX7_39 e47 (fun _ => rfl) (fun _ => rfl) ?_
  refine J_aload_n E (jd dk_X7_init_1 24 rfl) rfl 0 rfl ?_
  refine J_bipush (v := 10) E (jd dk_X7_init_1 25 rfl) (by decide) ?_
  obtain ⟨⟨x48, h49⟩, e50, hf⟩ := jbind hf
  have l_h49 := jmk_len e50
  refine J_newav (N' := 10) (ak := 0) (a0 := (10, .inl (fun _ => 0))) E (jd dk_X7_init_1 26 rfl) rfl (jl2_in _ (List.mem_of_getElem? (i := 13) rfl)) rfl (fun _ _ z => z) (fun _ => rfl) (by decide) (by decide) (by decide) (by omega) (by omega) (by rw [hX]; exact ⟨Nat.le_of_ble_eq_true rfl, Nat.le_of_ble_eq_true rfl⟩) e50 ?_
  obtain ⟨h51, e52, hf⟩ := jbind hf
  have l_h51 := jpf_len e52
  refine J_putF E hnm (jd dk_X7_init_1 27 rfl) fl_RX7_42 ⟨_, _, _, rfl, rfl⟩ e52 (fun _ => rfl) (fun _ => rfl) ?_
  refine J_aload_n E (jd dk_X7_init_1 28 rfl) rfl 0 rfl ?_
  refine J_bipush (v := 18) E (jd dk_X7_init_1 29 rfl) (by decide) ?_
  obtain ⟨⟨x53, h54⟩, e55, hf⟩ := jbind hf
  have l_h54 := jmk_len e55
  refine J_newav (N' := 18) (ak := 0) (a0 := (18, .inl (fun _ => 0))) E (jd dk_X7_init_1 30 rfl) rfl (jl2_in _ (List.mem_of_getElem? (i := 13) rfl)) rfl (fun _ _ z => z) (fun _ => rfl) (by decide) (by decide) (by decide) (by omega) (by omega) (by rw [hX]; exact ⟨Nat.le_of_ble_eq_true rfl, Nat.le_of_ble_eq_true rfl⟩) e55 ?_
  obtain ⟨h56, e57, hf⟩ := jbind hf
  have l_h56 := jpf_len e57
  refine J_putF E hnm (jd dk_X7_init_1 31 rfl) fl_RX7_46 ⟨_, _, _, rfl, rfl⟩ e57 (fun _ => rfl) (fun _ => rfl) ?_
  refine J_aload_n E (jd dk_X7_init_1 32 rfl) rfl 0 rfl ?_
  refine J_bipush (v := 18) E (jd dk_X7_init_1 33 rfl) (by decide) ?_
  obtain ⟨⟨x58, h59⟩, e60, hf⟩ := jbind hf
  have l_h59 := jmk_len e60
  refine J_newav (N' := 18) (ak := 0) (a0 := (18, .inl (fun _ => 0))) E (jd dk_X7_init_1 34 rfl) rfl (jl2_in _ (List.mem_of_getElem? (i := 13) rfl)) rfl (fun _ _ z => z) (fun _ => rfl) (by decide) (by decide) (by decide) (by omega) (by omega) (by rw [hX]; exact ⟨Nat.le_of_ble_eq_true rfl, Nat.le_of_ble_eq_true rfl⟩) e60 ?_
  obtain ⟨h61, e62, hf⟩ := jbind hf
  have l_h61 := jpf_len e62
  refine J_putF E hnm (jd dk_X7_init_1 35 rfl) fl_RX7_49 ⟨_, _, _, rfl, rfl⟩ e62 (fun _ => rfl) (fun _ => rfl) ?_
  refine J_aload_n E (jd dk_X7_init_1 36 rfl) rfl 0 rfl ?_
  refine J_bipush (v := 16) E (jd dk_X7_init_1 37 rfl) (by decide) ?_
  obtain ⟨⟨x63, h64⟩, e65, hf⟩ := jbind hf
  have l_h64 := jmk_len e65
  refine J_newav (N' := 16) (ak := 0) (a0 := (16, .inl (fun _ => 0))) E (jd dk_X7_init_1 38 rfl) rfl (jl2_in _ (List.mem_of_getElem? (i := 13) rfl)) rfl (fun _ _ z => z) (fun _ => rfl) (by decide) (by decide) (by decide) (by omega) (by omega) (by rw [hX]; exact ⟨Nat.le_of_ble_eq_true rfl, Nat.le_of_ble_eq_true rfl⟩) e65 ?_
  obtain ⟨h66, e67, hf⟩ := jbind hf
  have l_h66 := jpf_len e67
  refine J_putF E hnm (jd dk_X7_init_1 39 rfl) fl_RX7_52 ⟨_, _, _, rfl, rfl⟩ e67 (fun _ => rfl) (fun _ => rfl) ?_
  refine J_aload_n E (jd dk_X7_init_1 40 rfl) rfl 0 rfl ?_
  refine J_bipush (v := 16) E (jd dk_X7_init_1 41 rfl) (by decide) ?_
  obtain ⟨⟨x68, h69⟩, e70, hf⟩ := jbind hf
  have l_h69 := jmk_len e70
  refine J_newav (N' := 16) (ak := 0) (a0 := (16, .inl (fun _ => 0))) E (jd dk_X7_init_1 42 rfl) rfl (jl2_in _ (List.mem_of_getElem? (i := 13) rfl)) rfl (fun _ _ z => z) (fun _ => rfl) (by decide) (by decide) (by decide) (by omega) (by omega) (by rw [hX]; exact ⟨Nat.le_of_ble_eq_true rfl, Nat.le_of_ble_eq_true rfl⟩) e70 ?_
  obtain ⟨h71, e72, hf⟩ := jbind hf
  have l_h71 := jpf_len e72
  refine J_putF E hnm (jd dk_X7_init_1 43 rfl) fl_RX7_54 ⟨_, _, _, rfl, rfl⟩ e72 (fun _ => rfl) (fun _ => rfl) ?_
  refine J_aload_n E (jd dk_X7_init_1 44 rfl) rfl 0 rfl ?_
  refine J_bipush (v := 16) E (jd dk_X7_init_1 45 rfl) (by decide) ?_
  obtain ⟨⟨x73, h74⟩, e75, hf⟩ := jbind hf
  have l_h74 := jmk_len e75
  refine J_newav (N' := 16) (ak := 0) (a0 := (16, .inl (fun _ => 0))) E (jd dk_X7_init_1 46 rfl) rfl (jl2_in _ (List.mem_of_getElem? (i := 13) rfl)) rfl (fun _ _ z => z) (fun _ => rfl) (by decide) (by decide) (by decide) (by omega) (by omega) (by rw [hX]; exact ⟨Nat.le_of_ble_eq_true rfl, Nat.le_of_ble_eq_true rfl⟩) e75 ?_
  obtain ⟨h76, e77, hf⟩ := jbind hf
  have l_h76 := jpf_len e77
  refine J_putF E hnm (jd dk_X7_init_1 47 rfl) fl_RX7_57 ⟨_, _, _, rfl, rfl⟩ e77 (fun _ => rfl) (fun _ => rfl) ?_
  refine J_aload_n E (jd dk_X7_init_1 48 rfl) rfl 0 rfl ?_
  refine J_bipush (v := 16) E (jd dk_X7_init_1 49 rfl) (by decide) ?_
  obtain ⟨⟨x78, h79⟩, e80, hf⟩ := jbind hf
  have l_h79 := jmk_len e80
  refine J_newav (N' := 16) (ak := 0) (a0 := (16, .inl (fun _ => 0))) E (jd dk_X7_init_2 0 rfl) rfl (jl2_in _ (List.mem_of_getElem? (i := 13) rfl)) rfl (fun _ _ z => z) (fun _ => rfl) (by decide) (by decide) (by decide) (by omega) (by omega) (by rw [hX]; exact ⟨Nat.le_of_ble_eq_true rfl, Nat.le_of_ble_eq_true rfl⟩) e80 ?_
  obtain ⟨h81, e82, hf⟩ := jbind hf
  have l_h81 := jpf_len e82
  refine J_putF E hnm (jd dk_X7_init_2 1 rfl) fl_RX7_60 ⟨_, _, _, rfl, rfl⟩ e82 (fun _ => rfl) (fun _ => rfl) ?_
  refine J_aload_n E (jd dk_X7_init_2 2 rfl) rfl 0 rfl ?_
  refine J_sipush (v := 1400) E (jd dk_X7_init_2 3 rfl) (by decide) ?_
  obtain ⟨⟨x83, h84⟩, e85, hf⟩ := jbind hf
  have l_h84 := jmk_len e85
  refine J_newav (N' := 1400) (ak := 0) (a0 := (1400, .inl (fun _ => 0))) E (jd dk_X7_init_2 4 rfl) rfl (jl2_in _ (List.mem_of_getElem? (i := 13) rfl)) rfl (fun _ _ z => z) (fun _ => rfl) (by decide) (by decide) (by decide) (by omega) (by omega) (by rw [hX]; exact ⟨Nat.le_of_ble_eq_true rfl, Nat.le_of_ble_eq_true rfl⟩) e85 ?_
  obtain ⟨h86, e87, hf⟩ := jbind hf
  have l_h86 := jpf_len e87
  refine J_putF E hnm (jd dk_X7_init_2 5 rfl) fl_RX7_63 ⟨_, _, _, rfl, rfl⟩ e87 (fun _ => rfl) (fun _ => rfl) ?_
  refine J_aload_n E (jd dk_X7_init_2 6 rfl) rfl 0 rfl ?_
  refine J_sipush (v := 1400) E (jd dk_X7_init_2 7 rfl) (by decide) ?_
  obtain ⟨⟨x88, h89⟩, e90, hf⟩ := jbind hf
  have l_h89 := jmk_len e90
  refine J_newav (N' := 1400) (ak := 0) (a0 := (1400, .inl (fun _ => 0))) E (jd dk_X7_init_2 8 rfl) rfl (jl2_in _ (List.mem_of_getElem? (i := 13) rfl)) rfl (fun _ _ z => z) (fun _ => rfl) (by decide) (by decide) (by decide) (by omega) (by omega) (by rw [hX]; exact ⟨Nat.le_of_ble_eq_true rfl, Nat.le_of_ble_eq_true rfl⟩) e90 ?_
  obtain ⟨h91, e92, hf⟩ := jbind hf
  have l_h91 := jpf_len e92
  refine J_putF E hnm (jd dk_X7_init_2 9 rfl) fl_RX7_66 ⟨_, _, _, rfl, rfl⟩ e92 (fun _ => rfl) (fun _ => rfl) ?_
  refine J_aload_n E (jd dk_X7_init_2 10 rfl) rfl 0 rfl ?_
  refine J_iconst (v := 3) E (jd dk_X7_init_2 11 rfl) rfl ?_
  obtain ⟨⟨x93, h94⟩, e95, hf⟩ := jbind hf
  have l_h94 := jmk_len e95
  refine J_newav (N' := 3) (ak := 0) (a0 := (3, .inl (fun _ => 0))) E (jd dk_X7_init_2 12 rfl) rfl (jl2_in _ (List.mem_of_getElem? (i := 13) rfl)) rfl (fun _ _ z => z) (fun _ => rfl) (by decide) (by decide) (by decide) (by omega) (by omega) (by rw [hX]; exact ⟨Nat.le_of_ble_eq_true rfl, Nat.le_of_ble_eq_true rfl⟩) e95 ?_
  obtain ⟨h96, e97, hf⟩ := jbind hf
  have l_h96 := jpf_len e97
  refine J_putF E hnm (jd dk_X7_init_2 13 rfl) fl_RX7_69 ⟨_, _, _, rfl, rfl⟩ e97 (fun _ => rfl) (fun _ => rfl) ?_
  refine J_aload_n E (jd dk_X7_init_2 14 rfl) rfl 0 rfl ?_
  refine J_bipush (v := 8) E (jd dk_X7_init_2 15 rfl) (by decide) ?_
  obtain ⟨⟨x98, h99⟩, e100, hf⟩ := jbind hf
  have l_h99 := jmk_len e100
  refine J_newav (N' := 8) (ak := 0) (a0 := (8, .inl (fun _ => 0))) E (jd dk_X7_init_2 16 rfl) rfl (jl2_in _ (List.mem_of_getElem? (i := 13) rfl)) rfl (fun _ _ z => z) (fun _ => rfl) (by decide) (by decide) (by decide) (by omega) (by omega) (by rw [hX]; exact ⟨Nat.le_of_ble_eq_true rfl, Nat.le_of_ble_eq_true rfl⟩) e100 ?_
  obtain ⟨h101, e102, hf⟩ := jbind hf
  have l_h101 := jpf_len e102
  refine J_putF E hnm (jd dk_X7_init_2 17 rfl) fl_RX7_72 ⟨_, _, _, rfl, rfl⟩ e102 (fun _ => rfl) (fun _ => rfl) ?_
  refine J_aload_n E (jd dk_X7_init_2 18 rfl) rfl 0 rfl ?_
  refine J_sipush (v := 700) E (jd dk_X7_init_2 19 rfl) (by decide) ?_
  obtain ⟨⟨x103, h104⟩, e105, hf⟩ := jbind hf
  have l_h104 := jmk_len e105
  refine J_newav (N' := 700) (ak := 0) (a0 := (700, .inl (fun _ => 0))) E (jd dk_X7_init_2 20 rfl) rfl (jl2_in _ (List.mem_of_getElem? (i := 13) rfl)) rfl (fun _ _ z => z) (fun _ => rfl) (by decide) (by decide) (by decide) (by omega) (by omega) (by rw [hX]; exact ⟨Nat.le_of_ble_eq_true rfl, Nat.le_of_ble_eq_true rfl⟩) e105 ?_
  obtain ⟨h106, e107, hf⟩ := jbind hf
  have l_h106 := jpf_len e107
  refine J_putF E hnm (jd dk_X7_init_2 21 rfl) fl_RX7_74 ⟨_, _, _, rfl, rfl⟩ e107 (fun _ => rfl) (fun _ => rfl) ?_
  refine J_aload_n E (jd dk_X7_init_2 22 rfl) rfl 0 rfl ?_
  refine J_iconst (v := (-1)) E (jd dk_X7_init_2 23 rfl) rfl ?_
  obtain ⟨h108, e109, hf⟩ := jbind hf
  have l_h108 := jpf_len e109
  refine J_put E (jd dk_X7_init_2 24 rfl) fl_RX7_77 e109 (fun _ => rfl) (fun _ => rfl) ?_
  refine J_aload_n E (jd dk_X7_init_2 25 rfl) rfl 0 rfl ?_
  refine J_bipush (v := 8) E (jd dk_X7_init_2 26 rfl) (by decide) ?_
  obtain ⟨⟨x110, h111⟩, e112, hf⟩ := jbind hf
  have l_h111 := jmk_len e112
  refine J_newav (N' := 8) (ak := 0) (a0 := (8, .inl (fun _ => 0))) E (jd dk_X7_init_2 27 rfl) rfl (jl2_in _ (List.mem_of_getElem? (i := 13) rfl)) rfl (fun _ _ z => z) (fun _ => rfl) (by decide) (by decide) (by decide) (by omega) (by omega) (by rw [hX]; exact ⟨Nat.le_of_ble_eq_true rfl, Nat.le_of_ble_eq_true rfl⟩) e112 ?_
  obtain ⟨h113, e114, hf⟩ := jbind hf
  have l_h113 := jpf_len e114
  refine J_putF E hnm (jd dk_X7_init_2 28 rfl) fl_RX7_81 ⟨_, _, _, rfl, rfl⟩ e114 (fun _ => rfl) (fun _ => rfl) ?_
  refine J_aload_n E (jd dk_X7_init_2 29 rfl) rfl 0 rfl ?_
  refine J_bipush (v := 8) E (jd dk_X7_init_2 30 rfl) (by decide) ?_
  obtain ⟨⟨x115, h116⟩, e117, hf⟩ := jbind hf
  have l_h116 := jmk_len e117
  refine J_newav (N' := 8) (ak := 0) (a0 := (8, .inl (fun _ => 0))) E (jd dk_X7_init_2 31 rfl) rfl (jl2_in _ (List.mem_of_getElem? (i := 13) rfl)) rfl (fun _ _ z => z) (fun _ => rfl) (by decide) (by decide) (by decide) (by omega) (by omega) (by rw [hX]; exact ⟨Nat.le_of_ble_eq_true rfl, Nat.le_of_ble_eq_true rfl⟩) e117 ?_
  obtain ⟨h118, e119, hf⟩ := jbind hf
  have l_h118 := jpf_len e119
  refine J_putF E hnm (jd dk_X7_init_2 32 rfl) fl_RX7_84 ⟨_, _, _, rfl, rfl⟩ e119 (fun _ => rfl) (fun _ => rfl) ?_
  refine J_aload_n E (jd dk_X7_init_2 33 rfl) rfl 0 rfl ?_
  refine J_bipush (v := 8) E (jd dk_X7_init_2 34 rfl) (by decide) ?_
  obtain ⟨⟨x120, h121⟩, e122, hf⟩ := jbind hf
  have l_h121 := jmk_len e122
  refine J_newav (N' := 8) (ak := 0) (a0 := (8, .inl (fun _ => 0))) E (jd dk_X7_init_2 35 rfl) rfl (jl2_in _ (List.mem_of_getElem? (i := 13) rfl)) rfl (fun _ _ z => z) (fun _ => rfl) (by decide) (by decide) (by decide) (by omega) (by omega) (by rw [hX]; exact ⟨Nat.le_of_ble_eq_true rfl, Nat.le_of_ble_eq_true rfl⟩) e122 ?_
  obtain ⟨h123, e124, hf⟩ := jbind hf
  have l_h123 := jpf_len e124
  refine J_putF E hnm (jd dk_X7_init_2 36 rfl) fl_RX7_87 ⟨_, _, _, rfl, rfl⟩ e124 (fun _ => rfl) (fun _ => rfl) ?_
  refine J_aload_n E (jd dk_X7_init_2 37 rfl) rfl 0 rfl ?_
  refine J_bipush (v := 9) E (jd dk_X7_init_2 38 rfl) (by decide) ?_
  obtain ⟨⟨x125, h126⟩, e127, hf⟩ := jbind hf
  have l_h126 := jmk_len e127
  refine J_newav (N' := 9) (ak := 0) (a0 := (9, .inl (fun _ => 0))) E (jd dk_X7_init_2 39 rfl) rfl (jl2_in _ (List.mem_of_getElem? (i := 13) rfl)) rfl (fun _ _ z => z) (fun _ => rfl) (by decide) (by decide) (by decide) (by omega) (by omega) (by rw [hX]; exact ⟨Nat.le_of_ble_eq_true rfl, Nat.le_of_ble_eq_true rfl⟩) e127 ?_
  obtain ⟨h128, e129, hf⟩ := jbind hf
  have l_h128 := jpf_len e129
  refine J_putF E hnm (jd dk_X7_init_2 40 rfl) fl_RX7_90 ⟨_, _, _, rfl, rfl⟩ e129 (fun _ => rfl) (fun _ => rfl) ?_
  refine J_aload_n E (jd dk_X7_init_2 41 rfl) rfl 0 rfl ?_
  refine J_bipush (v := 9) E (jd dk_X7_init_2 42 rfl) (by decide) ?_
  obtain ⟨⟨x130, h131⟩, e132, hf⟩ := jbind hf
  have l_h131 := jmk_len e132
  refine J_newav (N' := 9) (ak := 0) (a0 := (9, .inl (fun _ => 0))) E (jd dk_X7_init_2 43 rfl) rfl (jl2_in _ (List.mem_of_getElem? (i := 13) rfl)) rfl (fun _ _ z => z) (fun _ => rfl) (by decide) (by decide) (by decide) (by omega) (by omega) (by rw [hX]; exact ⟨Nat.le_of_ble_eq_true rfl, Nat.le_of_ble_eq_true rfl⟩) e132 ?_
  obtain ⟨h133, e134, hf⟩ := jbind hf
  have l_h133 := jpf_len e134
  refine J_putF E hnm (jd dk_X7_init_2 44 rfl) fl_RX7_92 ⟨_, _, _, rfl, rfl⟩ e134 (fun _ => rfl) (fun _ => rfl) ?_
  refine J_aload_n E (jd dk_X7_init_2 45 rfl) rfl 0 rfl ?_
  refine J_sipush (v := 1720) E (jd dk_X7_init_2 46 rfl) (by decide) ?_
  obtain ⟨⟨x135, h136⟩, e137, hf⟩ := jbind hf
  have l_h136 := jmk_len e137
  refine J_newav (N' := 1720) (ak := 0) (a0 := (1720, .inl (fun _ => 0))) E (jd dk_X7_init_2 47 rfl) rfl (jl2_in _ (List.mem_of_getElem? (i := 13) rfl)) rfl (fun _ _ z => z) (fun _ => rfl) (by decide) (by decide) (by decide) (by omega) (by omega) (by rw [hX]; exact ⟨Nat.le_of_ble_eq_true rfl, Nat.le_of_ble_eq_true rfl⟩) e137 ?_
  obtain ⟨h138, e139, hf⟩ := jbind hf
  have l_h138 := jpf_len e139
  refine J_putF E hnm (jd dk_X7_init_2 48 rfl) fl_RX7_94 ⟨_, _, _, rfl, rfl⟩ e139 (fun _ => rfl) (fun _ => rfl) ?_
  refine J_aload_n E (jd dk_X7_init_2 49 rfl) rfl 0 rfl ?_
  refine J_bipush (v := 6) E (jd dk_X7_init_3 0 rfl) (by decide) ?_
  obtain ⟨⟨x140, h141⟩, e142, hf⟩ := jbind hf
  have l_h141 := jmk_len e142
  refine J_newav (N' := 6) (ak := 0) (a0 := (6, .inl (fun _ => 0))) E (jd dk_X7_init_3 1 rfl) rfl (jl2_in _ (List.mem_of_getElem? (i := 13) rfl)) rfl (fun _ _ z => z) (fun _ => rfl) (by decide) (by decide) (by decide) (by omega) (by omega) (by rw [hX]; exact ⟨Nat.le_of_ble_eq_true rfl, Nat.le_of_ble_eq_true rfl⟩) e142 ?_
  obtain ⟨h143, e144, hf⟩ := jbind hf
  have l_h143 := jpf_len e144
  refine J_putF E hnm (jd dk_X7_init_3 2 rfl) fl_RX7_97 ⟨_, _, _, rfl, rfl⟩ e144 (fun _ => rfl) (fun _ => rfl) ?_
  refine J_aload_n E (jd dk_X7_init_3 3 rfl) rfl 0 rfl ?_
  refine J_bipush (v := 64) E (jd dk_X7_init_3 4 rfl) (by decide) ?_
  obtain ⟨⟨x145, h146⟩, e147, hf⟩ := jbind hf
  have l_h146 := jmk_len e147
  refine J_newav (N' := 64) (ak := 0) (a0 := (64, .inl (fun _ => 0))) E (jd dk_X7_init_3 5 rfl) rfl (jl2_in _ (List.mem_of_getElem? (i := 13) rfl)) rfl (fun _ _ z => z) (fun _ => rfl) (by decide) (by decide) (by decide) (by omega) (by omega) (by rw [hX]; exact ⟨Nat.le_of_ble_eq_true rfl, Nat.le_of_ble_eq_true rfl⟩) e147 ?_
  obtain ⟨h148, e149, hf⟩ := jbind hf
  have l_h148 := jpf_len e149
  refine J_putF E hnm (jd dk_X7_init_3 6 rfl) fl_RX7_100 ⟨_, _, _, rfl, rfl⟩ e149 (fun _ => rfl) (fun _ => rfl) ?_
  refine J_aload_n E (jd dk_X7_init_3 7 rfl) rfl 0 rfl ?_
  refine J_bipush (v := 8) E (jd dk_X7_init_3 8 rfl) (by decide) ?_
  obtain ⟨⟨x150, h151⟩, e152, hf⟩ := jbind hf
  have l_h151 := jmk_len e152
  refine J_newav (N' := 8) (ak := 0) (a0 := (8, .inl (fun _ => 0))) E (jd dk_X7_init_3 9 rfl) rfl (jl2_in _ (List.mem_of_getElem? (i := 13) rfl)) rfl (fun _ _ z => z) (fun _ => rfl) (by decide) (by decide) (by decide) (by omega) (by omega) (by rw [hX]; exact ⟨Nat.le_of_ble_eq_true rfl, Nat.le_of_ble_eq_true rfl⟩) e152 ?_
  obtain ⟨h153, e154, hf⟩ := jbind hf
  have l_h153 := jpf_len e154
  refine J_putF E hnm (jd dk_X7_init_3 10 rfl) fl_RX7_103 ⟨_, _, _, rfl, rfl⟩ e154 (fun _ => rfl) (fun _ => rfl) ?_
  refine J_aload_n E (jd dk_X7_init_3 11 rfl) rfl 0 rfl ?_
  refine J_bipush (v := 43) E (jd dk_X7_init_3 12 rfl) (by decide) ?_
  obtain ⟨⟨x155, h156⟩, e157, hf⟩ := jbind hf
  have l_h156 := jmk_len e157
  refine J_newav (N' := 43) (ak := 0) (a0 := (43, .inl (fun _ => 0))) E (jd dk_X7_init_3 13 rfl) rfl (jl2_in _ (List.mem_of_getElem? (i := 13) rfl)) rfl (fun _ _ z => z) (fun _ => rfl) (by decide) (by decide) (by decide) (by omega) (by omega) (by rw [hX]; exact ⟨Nat.le_of_ble_eq_true rfl, Nat.le_of_ble_eq_true rfl⟩) e157 ?_
  obtain ⟨h158, e159, hf⟩ := jbind hf
  have l_h158 := jpf_len e159
  refine J_putF E hnm (jd dk_X7_init_3 14 rfl) fl_RX7_106 ⟨_, _, _, rfl, rfl⟩ e159 (fun _ => rfl) (fun _ => rfl) ?_
  refine J_aload_n E (jd dk_X7_init_3 15 rfl) rfl 0 rfl ?_
  refine J_sipush (v := 2304) E (jd dk_X7_init_3 16 rfl) (by decide) ?_
  obtain ⟨⟨x160, h161⟩, e162, hf⟩ := jbind hf
  have l_h161 := jmk_len e162
  refine J_newav (N' := 2304) (ak := 0) (a0 := (2304, .inl (fun _ => 0))) E (jd dk_X7_init_3 17 rfl) rfl (jl2_in _ (List.mem_of_getElem? (i := 13) rfl)) rfl (fun _ _ z => z) (fun _ => rfl) (by decide) (by decide) (by decide) (by omega) (by omega) (by rw [hX]; exact ⟨Nat.le_of_ble_eq_true rfl, Nat.le_of_ble_eq_true rfl⟩) e162 ?_
  obtain ⟨h163, e164, hf⟩ := jbind hf
  have l_h163 := jpf_len e164
  refine J_putF E hnm (jd dk_X7_init_3 18 rfl) fl_RX7_109 ⟨_, _, _, rfl, rfl⟩ e164 (fun _ => rfl) (fun _ => rfl) ?_
  refine J_aload_n E (jd dk_X7_init_3 19 rfl) rfl 0 rfl ?_
  refine J_bipush (v := 8) E (jd dk_X7_init_3 20 rfl) (by decide) ?_
  obtain ⟨⟨x165, h166⟩, e167, hf⟩ := jbind hf
  have l_h166 := jmk_len e167
  refine J_newav (N' := 8) (ak := 0) (a0 := (8, .inl (fun _ => 0))) E (jd dk_X7_init_3 21 rfl) rfl (jl2_in _ (List.mem_of_getElem? (i := 13) rfl)) rfl (fun _ _ z => z) (fun _ => rfl) (by decide) (by decide) (by decide) (by omega) (by omega) (by rw [hX]; exact ⟨Nat.le_of_ble_eq_true rfl, Nat.le_of_ble_eq_true rfl⟩) e167 ?_
  obtain ⟨h168, e169, hf⟩ := jbind hf
  have l_h168 := jpf_len e169
  refine J_putF E hnm (jd dk_X7_init_3 22 rfl) fl_RX7_112 ⟨_, _, _, rfl, rfl⟩ e169 (fun _ => rfl) (fun _ => rfl) ?_
  refine J_aload_n E (jd dk_X7_init_3 23 rfl) rfl 0 rfl ?_
  refine J_bipush (v := 8) E (jd dk_X7_init_3 24 rfl) (by decide) ?_
  obtain ⟨⟨x170, h171⟩, e172, hf⟩ := jbind hf
  have l_h171 := jmk_len e172
  refine J_newav (N' := 8) (ak := 0) (a0 := (8, .inl (fun _ => 0))) E (jd dk_X7_init_3 25 rfl) rfl (jl2_in _ (List.mem_of_getElem? (i := 13) rfl)) rfl (fun _ _ z => z) (fun _ => rfl) (by decide) (by decide) (by decide) (by omega) (by omega) (by rw [hX]; exact ⟨Nat.le_of_ble_eq_true rfl, Nat.le_of_ble_eq_true rfl⟩) e172 ?_
  obtain ⟨h173, e174, hf⟩ := jbind hf
  have l_h173 := jpf_len e174
  refine J_putF E hnm (jd dk_X7_init_3 26 rfl) fl_RX7_115 ⟨_, _, _, rfl, rfl⟩ e174 (fun _ => rfl) (fun _ => rfl) ?_
  refine J_aload_n E (jd dk_X7_init_3 27 rfl) rfl 0 rfl ?_
  refine J_bipush (v := 8) E (jd dk_X7_init_3 28 rfl) (by decide) ?_
  obtain ⟨⟨x175, h176⟩, e177, hf⟩ := jbind hf
  have l_h176 := jmk_len e177
  refine J_newav (N' := 8) (ak := 0) (a0 := (8, .inl (fun _ => 0))) E (jd dk_X7_init_3 29 rfl) rfl (jl2_in _ (List.mem_of_getElem? (i := 13) rfl)) rfl (fun _ _ z => z) (fun _ => rfl) (by decide) (by decide) (by decide) (by omega) (by omega) (by rw [hX]; exact ⟨Nat.le_of_ble_eq_true rfl, Nat.le_of_ble_eq_true rfl⟩) e177 ?_
  obtain ⟨h178, e179, hf⟩ := jbind hf
  have l_h178 := jpf_len e179
  refine J_putF E hnm (jd dk_X7_init_3 30 rfl) fl_RX7_118 ⟨_, _, _, rfl, rfl⟩ e179 (fun _ => rfl) (fun _ => rfl) ?_
  refine J_aload_n E (jd dk_X7_init_3 31 rfl) rfl 0 rfl ?_
  refine J_bipush (v := 43) E (jd dk_X7_init_3 32 rfl) (by decide) ?_
  obtain ⟨⟨x180, h181⟩, e182, hf⟩ := jbind hf
  have l_h181 := jmk_len e182
  refine J_newav (N' := 43) (ak := 0) (a0 := (43, .inl (fun _ => 0))) E (jd dk_X7_init_3 33 rfl) rfl (jl2_in _ (List.mem_of_getElem? (i := 13) rfl)) rfl (fun _ _ z => z) (fun _ => rfl) (by decide) (by decide) (by decide) (by omega) (by omega) (by rw [hX]; exact ⟨Nat.le_of_ble_eq_true rfl, Nat.le_of_ble_eq_true rfl⟩) e182 ?_
  obtain ⟨h183, e184, hf⟩ := jbind hf
  have l_h183 := jpf_len e184
  refine J_putF E hnm (jd dk_X7_init_3 34 rfl) fl_RX7_121 ⟨_, _, _, rfl, rfl⟩ e184 (fun _ => rfl) (fun _ => rfl) ?_
  refine J_aload_n E (jd dk_X7_init_3 35 rfl) rfl 0 rfl ?_
  refine J_bipush (v := 80) E (jd dk_X7_init_3 36 rfl) (by decide) ?_
  obtain ⟨⟨x185, h186⟩, e187, hf⟩ := jbind hf
  have l_h186 := jmk_len e187
  refine J_newav (N' := 80) (ak := 0) (a0 := (80, .inl (fun _ => 0))) E (jd dk_X7_init_3 37 rfl) rfl (jl2_in _ (List.mem_of_getElem? (i := 13) rfl)) rfl (fun _ _ z => z) (fun _ => rfl) (by decide) (by decide) (by decide) (by omega) (by omega) (by rw [hX]; exact ⟨Nat.le_of_ble_eq_true rfl, Nat.le_of_ble_eq_true rfl⟩) e187 ?_
  obtain ⟨h188, e189, hf⟩ := jbind hf
  have l_h188 := jpf_len e189
  refine J_putF E hnm (jd dk_X7_init_3 38 rfl) fl_RX7_124 ⟨_, _, _, rfl, rfl⟩ e189 (fun _ => rfl) (fun _ => rfl) ?_
  refine J_aload_n E (jd dk_X7_init_3 39 rfl) rfl 0 rfl ?_
  refine J_bipush (v := 8) E (jd dk_X7_init_3 40 rfl) (by decide) ?_
  obtain ⟨⟨x190, h191⟩, e192, hf⟩ := jbind hf
  have l_h191 := jmk_len e192
  refine J_newav (N' := 8) (ak := 0) (a0 := (8, .inl (fun _ => 0))) E (jd dk_X7_init_3 41 rfl) rfl (jl2_in _ (List.mem_of_getElem? (i := 13) rfl)) rfl (fun _ _ z => z) (fun _ => rfl) (by decide) (by decide) (by decide) (by omega) (by omega) (by rw [hX]; exact ⟨Nat.le_of_ble_eq_true rfl, Nat.le_of_ble_eq_true rfl⟩) e192 ?_
  obtain ⟨h193, e194, hf⟩ := jbind hf
  have l_h193 := jpf_len e194
  refine J_putF E hnm (jd dk_X7_init_3 42 rfl) fl_RX7_127 ⟨_, _, _, rfl, rfl⟩ e194 (fun _ => rfl) (fun _ => rfl) ?_
  refine J_aload_n E (jd dk_X7_init_3 43 rfl) rfl 0 rfl ?_
  refine J_bipush (v := 8) E (jd dk_X7_init_3 44 rfl) (by decide) ?_
  obtain ⟨⟨x195, h196⟩, e197, hf⟩ := jbind hf
  have l_h196 := jmk_len e197
  refine J_newav (N' := 8) (ak := 0) (a0 := (8, .inl (fun _ => 0))) E (jd dk_X7_init_3 45 rfl) rfl (jl2_in _ (List.mem_of_getElem? (i := 13) rfl)) rfl (fun _ _ z => z) (fun _ => rfl) (by decide) (by decide) (by decide) (by omega) (by omega) (by rw [hX]; exact ⟨Nat.le_of_ble_eq_true rfl, Nat.le_of_ble_eq_true rfl⟩) e197 ?_
  obtain ⟨h198, e199, hf⟩ := jbind hf
  have l_h198 := jpf_len e199
  refine J_putF E hnm (jd dk_X7_init_3 46 rfl) fl_RX7_130 ⟨_, _, _, rfl, rfl⟩ e199 (fun _ => rfl) (fun _ => rfl) ?_
  refine J_aload_n E (jd dk_X7_init_3 47 rfl) rfl 0 rfl ?_
  refine J_bipush (v := 43) E (jd dk_X7_init_3 48 rfl) (by decide) ?_
  obtain ⟨⟨x200, h201⟩, e202, hf⟩ := jbind hf
  have l_h201 := jmk_len e202
  refine J_newav (N' := 43) (ak := 0) (a0 := (43, .inl (fun _ => 0))) E (jd dk_X7_init_3 49 rfl) rfl (jl2_in _ (List.mem_of_getElem? (i := 13) rfl)) rfl (fun _ _ z => z) (fun _ => rfl) (by decide) (by decide) (by decide) (by omega) (by omega) (by rw [hX]; exact ⟨Nat.le_of_ble_eq_true rfl, Nat.le_of_ble_eq_true rfl⟩) e202 ?_
  obtain ⟨h203, e204, hf⟩ := jbind hf
  have l_h203 := jpf_len e204
  refine J_putF E hnm (jd dk_X7_init_4 0 rfl) fl_RX7_133 ⟨_, _, _, rfl, rfl⟩ e204 (fun _ => rfl) (fun _ => rfl) ?_
  refine J_aload_n E (jd dk_X7_init_4 1 rfl) rfl 0 rfl ?_
  refine J_sipush (v := 1720) E (jd dk_X7_init_4 2 rfl) (by decide) ?_
  obtain ⟨⟨x205, h206⟩, e207, hf⟩ := jbind hf
  have l_h206 := jmk_len e207
  refine J_newav (N' := 1720) (ak := 0) (a0 := (1720, .inl (fun _ => 0))) E (jd dk_X7_init_4 3 rfl) rfl (jl2_in _ (List.mem_of_getElem? (i := 13) rfl)) rfl (fun _ _ z => z) (fun _ => rfl) (by decide) (by decide) (by decide) (by omega) (by omega) (by rw [hX]; exact ⟨Nat.le_of_ble_eq_true rfl, Nat.le_of_ble_eq_true rfl⟩) e207 ?_
  obtain ⟨h208, e209, hf⟩ := jbind hf
  have l_h208 := jpf_len e209
  refine J_putF E hnm (jd dk_X7_init_4 4 rfl) fl_RX7_136 ⟨_, _, _, rfl, rfl⟩ e209 (fun _ => rfl) (fun _ => rfl) ?_
  refine J_aload_n E (jd dk_X7_init_4 5 rfl) rfl 0 rfl ?_
  refine J_bipush (v := 8) E (jd dk_X7_init_4 6 rfl) (by decide) ?_
  obtain ⟨⟨x210, h211⟩, e212, hf⟩ := jbind hf
  have l_h211 := jmk_len e212
  refine J_newav (N' := 8) (ak := 0) (a0 := (8, .inl (fun _ => 0))) E (jd dk_X7_init_4 7 rfl) rfl (jl2_in _ (List.mem_of_getElem? (i := 13) rfl)) rfl (fun _ _ z => z) (fun _ => rfl) (by decide) (by decide) (by decide) (by omega) (by omega) (by rw [hX]; exact ⟨Nat.le_of_ble_eq_true rfl, Nat.le_of_ble_eq_true rfl⟩) e212 ?_
  obtain ⟨h213, e214, hf⟩ := jbind hf
  have l_h213 := jpf_len e214
  refine J_putF E hnm (jd dk_X7_init_4 8 rfl) fl_RX7_139 ⟨_, _, _, rfl, rfl⟩ e214 (fun _ => rfl) (fun _ => rfl) ?_
  refine J_aload_n E (jd dk_X7_init_4 9 rfl) rfl 0 rfl ?_
  refine J_bipush (v := 8) E (jd dk_X7_init_4 10 rfl) (by decide) ?_
  obtain ⟨⟨x215, h216⟩, e217, hf⟩ := jbind hf
  have l_h216 := jmk_len e217
  refine J_newav (N' := 8) (ak := 0) (a0 := (8, .inl (fun _ => 0))) E (jd dk_X7_init_4 11 rfl) rfl (jl2_in _ (List.mem_of_getElem? (i := 13) rfl)) rfl (fun _ _ z => z) (fun _ => rfl) (by decide) (by decide) (by decide) (by omega) (by omega) (by rw [hX]; exact ⟨Nat.le_of_ble_eq_true rfl, Nat.le_of_ble_eq_true rfl⟩) e217 ?_
  obtain ⟨h218, e219, hf⟩ := jbind hf
  have l_h218 := jpf_len e219
  refine J_putF E hnm (jd dk_X7_init_4 12 rfl) fl_RX7_142 ⟨_, _, _, rfl, rfl⟩ e219 (fun _ => rfl) (fun _ => rfl) ?_
  refine J_aload_n E (jd dk_X7_init_4 13 rfl) rfl 0 rfl ?_
  refine J_bipush (v := 8) E (jd dk_X7_init_4 14 rfl) (by decide) ?_
  obtain ⟨⟨x220, h221⟩, e222, hf⟩ := jbind hf
  have l_h221 := jmk_len e222
  refine J_newav (N' := 8) (ak := 0) (a0 := (8, .inl (fun _ => 0))) E (jd dk_X7_init_4 15 rfl) rfl (jl2_in _ (List.mem_of_getElem? (i := 13) rfl)) rfl (fun _ _ z => z) (fun _ => rfl) (by decide) (by decide) (by decide) (by omega) (by omega) (by rw [hX]; exact ⟨Nat.le_of_ble_eq_true rfl, Nat.le_of_ble_eq_true rfl⟩) e222 ?_
  obtain ⟨h223, e224, hf⟩ := jbind hf
  have l_h223 := jpf_len e224
  refine J_putF E hnm (jd dk_X7_init_4 16 rfl) fl_RX7_145 ⟨_, _, _, rfl, rfl⟩ e224 (fun _ => rfl) (fun _ => rfl) ?_
  refine J_aload_n E (jd dk_X7_init_4 17 rfl) rfl 0 rfl ?_
  refine J_iconst (v := 3) E (jd dk_X7_init_4 18 rfl) rfl ?_
  obtain ⟨⟨x225, h226⟩, e227, hf⟩ := jbind hf
  have l_h226 := jmk_len e227
  refine J_newav (N' := 3) (ak := 0) (a0 := (3, .inl (fun _ => 0))) E (jd dk_X7_init_4 19 rfl) rfl (jl2_in _ (List.mem_of_getElem? (i := 13) rfl)) rfl (fun _ _ z => z) (fun _ => rfl) (by decide) (by decide) (by decide) (by omega) (by omega) (by rw [hX]; exact ⟨Nat.le_of_ble_eq_true rfl, Nat.le_of_ble_eq_true rfl⟩) e227 ?_
  obtain ⟨h228, e229, hf⟩ := jbind hf
  have l_h228 := jpf_len e229
  refine J_putF E hnm (jd dk_X7_init_4 20 rfl) fl_RX7_148 ⟨_, _, _, rfl, rfl⟩ e229 (fun _ => rfl) (fun _ => rfl) ?_
  refine J_aload_n E (jd dk_X7_init_4 21 rfl) rfl 0 rfl ?_
  obtain ⟨x230, e231, hf⟩ := jbind hf
  refine J_getr E (jd dk_X7_init_4 22 rfl) fl_RX7_42 e231 ?_
  refine J_iconst (v := 0) E (jd dk_X7_init_4 23 rfl) rfl ?_
  refine J_iconst (v := 4) E (jd dk_X7_init_4 24 rfl) rfl ?_
  obtain ⟨h232, e233, hf⟩ := jbind hf
  refine J_iast E (jd dk_X7_init_4 25 rfl) e233 ?_
  have l_h232 := jas_len e233
  cases hf
  exact J_vret E hr (jd dk_X7_init_4 26 rfl) (Nat.le_of_ble_eq_true rfl) (Nat.le_of_ble_eq_true rfl) ⟨rfl, rfl⟩
