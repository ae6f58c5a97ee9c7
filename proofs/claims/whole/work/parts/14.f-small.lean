def f_J6_bitCount_0f7a4 (N : Nat) (h : AH) (a0 : Int32) : Option (Int32 × AH) :=
  some (((((a0 - (((a0.toUInt32 >>> (Int32.toUInt32 1 &&& Int32.toUInt32 31)).toInt32) &&& 1431655765)) &&& 858993459) + ((((a0 - (((a0.toUInt32 >>> (Int32.toUInt32 1 &&& Int32.toUInt32 31)).toInt32) &&& 1431655765)).toUInt32 >>> (Int32.toUInt32 2 &&& Int32.toUInt32 31)).toInt32) &&& 858993459)) + (((((a0 - (((a0.toUInt32 >>> (Int32.toUInt32 1 &&& Int32.toUInt32 31)).toInt32) &&& 1431655765)) &&& 858993459) + ((((a0 - (((a0.toUInt32 >>> (Int32.toUInt32 1 &&& Int32.toUInt32 31)).toInt32) &&& 1431655765)).toUInt32 >>> (Int32.toUInt32 2 &&& Int32.toUInt32 31)).toInt32) &&& 858993459)).toUInt32 >>> (Int32.toUInt32 4 &&& Int32.toUInt32 31)).toInt32) &&& 252645135) + ((((((a0 - (((a0.toUInt32 >>> (Int32.toUInt32 1 &&& Int32.toUInt32 31)).toInt32) &&& 1431655765)) &&& 858993459) + ((((a0 - (((a0.toUInt32 >>> (Int32.toUInt32 1 &&& Int32.toUInt32 31)).toInt32) &&& 1431655765)).toUInt32 >>> (Int32.toUInt32 2 &&& Int32.toUInt32 31)).toInt32) &&& 858993459)) + (((((a0 - (((a0.toUInt32 >>> (Int32.toUInt32 1 &&& Int32.toUInt32 31)).toInt32) &&& 1431655765)) &&& 858993459) + ((((a0 - (((a0.toUInt32 >>> (Int32.toUInt32 1 &&& Int32.toUInt32 31)).toInt32) &&& 1431655765)).toUInt32 >>> (Int32.toUInt32 2 &&& Int32.toUInt32 31)).toInt32) &&& 858993459)).toUInt32 >>> (Int32.toUInt32 4 &&& Int32.toUInt32 31)).toInt32) &&& 252645135).toUInt32 >>> (Int32.toUInt32 8 &&& Int32.toUInt32 31)).toInt32) + (((((((a0 - (((a0.toUInt32 >>> (Int32.toUInt32 1 &&& Int32.toUInt32 31)).toInt32) &&& 1431655765)) &&& 858993459) + ((((a0 - (((a0.toUInt32 >>> (Int32.toUInt32 1 &&& Int32.toUInt32 31)).toInt32) &&& 1431655765)).toUInt32 >>> (Int32.toUInt32 2 &&& Int32.toUInt32 31)).toInt32) &&& 858993459)) + (((((a0 - (((a0.toUInt32 >>> (Int32.toUInt32 1 &&& Int32.toUInt32 31)).toInt32) &&& 1431655765)) &&& 858993459) + ((((a0 - (((a0.toUInt32 >>> (Int32.toUInt32 1 &&& Int32.toUInt32 31)).toInt32) &&& 1431655765)).toUInt32 >>> (Int32.toUInt32 2 &&& Int32.toUInt32 31)).toInt32) &&& 858993459)).toUInt32 >>> (Int32.toUInt32 4 &&& Int32.toUInt32 31)).toInt32) &&& 252645135) + ((((((a0 - (((a0.toUInt32 >>> (Int32.toUInt32 1 &&& Int32.toUInt32 31)).toInt32) &&& 1431655765)) &&& 858993459) + ((((a0 - (((a0.toUInt32 >>> (Int32.toUInt32 1 &&& Int32.toUInt32 31)).toInt32) &&& 1431655765)).toUInt32 >>> (Int32.toUInt32 2 &&& Int32.toUInt32 31)).toInt32) &&& 858993459)) + (((((a0 - (((a0.toUInt32 >>> (Int32.toUInt32 1 &&& Int32.toUInt32 31)).toInt32) &&& 1431655765)) &&& 858993459) + ((((a0 - (((a0.toUInt32 >>> (Int32.toUInt32 1 &&& Int32.toUInt32 31)).toInt32) &&& 1431655765)).toUInt32 >>> (Int32.toUInt32 2 &&& Int32.toUInt32 31)).toInt32) &&& 858993459)).toUInt32 >>> (Int32.toUInt32 4 &&& Int32.toUInt32 31)).toInt32) &&& 252645135).toUInt32 >>> (Int32.toUInt32 8 &&& Int32.toUInt32 31)).toInt32)).toUInt32 >>> (Int32.toUInt32 16 &&& Int32.toUInt32 31)).toInt32) &&& 63, h)
set_option maxRecDepth 100000 in
set_option maxHeartbeats 4000000 in
theorem lk_J6_bitCount_0f7a4 {G : JG} {l : Launch} (hG : jG G) (htr : l.stackTraces = false) (N : Nat) {h : AH} {a0 : Int32} {r : (Int32 × AH)} (hf : f_J6_bitCount_0f7a4 N h a0 = some r) : jMet G l yJ6_bitCount_0f7a4 cJ6_bitCount_0f7a4 1 (some .int) 0 0 0 [.int a0] h (jpi r) := by
  unfold f_J6_bitCount_0f7a4 at hf
  refine jMet_of hG htr (by decide) (Nat.le_of_ble_eq_true rfl) ?_
  intro X E hl9 hr hX _ _
  show JW G X (RJ6, cJ6_bitCount_0f7a4, 1) h [(0, .int a0)] [] 0 0 0 (jEnd G X (jpi r) 0 0)
  refine J_iload_n E (jd dk_J6_bitCount_0f7a4_0 0 rfl) rfl 0 rfl ?_
  refine J_iload_n E (jd dk_J6_bitCount_0f7a4_0 1 rfl) rfl 0 rfl ?_
  refine J_iconst (v := 1) E (jd dk_J6_bitCount_0f7a4_0 2 rfl) rfl ?_
  refine J_iushr E (jd dk_J6_bitCount_0f7a4_0 3 rfl) ?_
  refine J_ldcw (v := 1431655765) E (jd dk_J6_bitCount_0f7a4_0 4 rfl) (jl6_in _ (List.mem_of_getElem? (i := 19) rfl)) ?_
  refine J_iand E (jd dk_J6_bitCount_0f7a4_0 5 rfl) ?_
  refine J_isub E (jd dk_J6_bitCount_0f7a4_0 6 rfl) ?_
  refine J_istore_n (lv' := [(0, .int (a0 - (((a0.toUInt32 >>> (Int32.toUInt32 1 &&& Int32.toUInt32 31)).toInt32) &&& 1431655765)))]) E (jd dk_J6_bitCount_0f7a4_0 7 rfl) rfl (by decide) rfl ?_
  refine J_iload_n E (jd dk_J6_bitCount_0f7a4_0 8 rfl) rfl 0 rfl ?_
  refine J_ldcw (v := 858993459) E (jd dk_J6_bitCount_0f7a4_0 9 rfl) (jl6_in _ (List.mem_of_getElem? (i := 20) rfl)) ?_
  refine J_iand E (jd dk_J6_bitCount_0f7a4_0 10 rfl) ?_
  refine J_iload_n E (jd dk_J6_bitCount_0f7a4_0 11 rfl) rfl 0 rfl ?_
  refine J_iconst (v := 2) E (jd dk_J6_bitCount_0f7a4_0 12 rfl) rfl ?_
  refine J_iushr E (jd dk_J6_bitCount_0f7a4_0 13 rfl) ?_
  refine J_ldcw (v := 858993459) E (jd dk_J6_bitCount_0f7a4_0 14 rfl) (jl6_in _ (List.mem_of_getElem? (i := 20) rfl)) ?_
  refine J_iand E (jd dk_J6_bitCount_0f7a4_0 15 rfl) ?_
  refine J_iadd E (jd dk_J6_bitCount_0f7a4_0 16 rfl) ?_
  refine J_istore_n (lv' := [(0, .int (((a0 - (((a0.toUInt32 >>> (Int32.toUInt32 1 &&& Int32.toUInt32 31)).toInt32) &&& 1431655765)) &&& 858993459) + ((((a0 - (((a0.toUInt32 >>> (Int32.toUInt32 1 &&& Int32.toUInt32 31)).toInt32) &&& 1431655765)).toUInt32 >>> (Int32.toUInt32 2 &&& Int32.toUInt32 31)).toInt32) &&& 858993459)))]) E (jd dk_J6_bitCount_0f7a4_0 17 rfl) rfl (by decide) rfl ?_
  refine J_iload_n E (jd dk_J6_bitCount_0f7a4_0 18 rfl) rfl 0 rfl ?_
  refine J_iload_n E (jd dk_J6_bitCount_0f7a4_0 19 rfl) rfl 0 rfl ?_
  refine J_iconst (v := 4) E (jd dk_J6_bitCount_0f7a4_0 20 rfl) rfl ?_
  refine J_iushr E (jd dk_J6_bitCount_0f7a4_0 21 rfl) ?_
  refine J_iadd E (jd dk_J6_bitCount_0f7a4_0 22 rfl) ?_
  refine J_ldcw (v := 252645135) E (jd dk_J6_bitCount_0f7a4_0 23 rfl) (jl6_in _ (List.mem_of_getElem? (i := 21) rfl)) ?_
  refine J_iand E (jd dk_J6_bitCount_0f7a4_0 24 rfl) ?_
  refine J_istore_n (lv' := [(0, .int ((((a0 - (((a0.toUInt32 >>> (Int32.toUInt32 1 &&& Int32.toUInt32 31)).toInt32) &&& 1431655765)) &&& 858993459) + ((((a0 - (((a0.toUInt32 >>> (Int32.toUInt32 1 &&& Int32.toUInt32 31)).toInt32) &&& 1431655765)).toUInt32 >>> (Int32.toUInt32 2 &&& Int32.toUInt32 31)).toInt32) &&& 858993459)) + (((((a0 - (((a0.toUInt32 >>> (Int32.toUInt32 1 &&& Int32.toUInt32 31)).toInt32) &&& 1431655765)) &&& 858993459) + ((((a0 - (((a0.toUInt32 >>> (Int32.toUInt32 1 &&& Int32.toUInt32 31)).toInt32) &&& 1431655765)).toUInt32 >>> (Int32.toUInt32 2 &&& Int32.toUInt32 31)).toInt32) &&& 858993459)).toUInt32 >>> (Int32.toUInt32 4 &&& Int32.toUInt32 31)).toInt32) &&& 252645135))]) E (jd dk_J6_bitCount_0f7a4_0 25 rfl) rfl (by decide) rfl ?_
  refine J_iload_n E (jd dk_J6_bitCount_0f7a4_0 26 rfl) rfl 0 rfl ?_
  refine J_iload_n E (jd dk_J6_bitCount_0f7a4_0 27 rfl) rfl 0 rfl ?_
  refine J_bipush (v := 8) E (jd dk_J6_bitCount_0f7a4_0 28 rfl) (by decide) ?_
  refine J_iushr E (jd dk_J6_bitCount_0f7a4_0 29 rfl) ?_
  refine J_iadd E (jd dk_J6_bitCount_0f7a4_0 30 rfl) ?_
  refine J_istore_n (lv' := [(0, .int (((((a0 - (((a0.toUInt32 >>> (Int32.toUInt32 1 &&& Int32.toUInt32 31)).toInt32) &&& 1431655765)) &&& 858993459) + ((((a0 - (((a0.toUInt32 >>> (Int32.toUInt32 1 &&& Int32.toUInt32 31)).toInt32) &&& 1431655765)).toUInt32 >>> (Int32.toUInt32 2 &&& Int32.toUInt32 31)).toInt32) &&& 858993459)) + (((((a0 - (((a0.toUInt32 >>> (Int32.toUInt32 1 &&& Int32.toUInt32 31)).toInt32) &&& 1431655765)) &&& 858993459) + ((((a0 - (((a0.toUInt32 >>> (Int32.toUInt32 1 &&& Int32.toUInt32 31)).toInt32) &&& 1431655765)).toUInt32 >>> (Int32.toUInt32 2 &&& Int32.toUInt32 31)).toInt32) &&& 858993459)).toUInt32 >>> (Int32.toUInt32 4 &&& Int32.toUInt32 31)).toInt32) &&& 252645135) + ((((((a0 - (((a0.toUInt32 >>> (Int32.toUInt32 1 &&& Int32.toUInt32 31)).toInt32) &&& 1431655765)) &&& 858993459) + ((((a0 - (((a0.toUInt32 >>> (Int32.toUInt32 1 &&& Int32.toUInt32 31)).toInt32) &&& 1431655765)).toUInt32 >>> (Int32.toUInt32 2 &&& Int32.toUInt32 31)).toInt32) &&& 858993459)) + (((((a0 - (((a0.toUInt32 >>> (Int32.toUInt32 1 &&& Int32.toUInt32 31)).toInt32) &&& 1431655765)) &&& 858993459) + ((((a0 - (((a0.toUInt32 >>> (Int32.toUInt32 1 &&& Int32.toUInt32 31)).toInt32) &&& 1431655765)).toUInt32 >>> (Int32.toUInt32 2 &&& Int32.toUInt32 31)).toInt32) &&& 858993459)).toUInt32 >>> (Int32.toUInt32 4 &&& Int32.toUInt32 31)).toInt32) &&& 252645135).toUInt32 >>> (Int32.toUInt32 8 &&& Int32.toUInt32 31)).toInt32)))]) E (jd dk_J6_bitCount_0f7a4_0 31 rfl) rfl (by decide) rfl ?_
  refine J_iload_n E (jd dk_J6_bitCount_0f7a4_0 32 rfl) rfl 0 rfl ?_
  refine J_iload_n E (jd dk_J6_bitCount_0f7a4_0 33 rfl) rfl 0 rfl ?_
  refine J_bipush (v := 16) E (jd dk_J6_bitCount_0f7a4_0 34 rfl) (by decide) ?_
  refine J_iushr E (jd dk_J6_bitCount_0f7a4_0 35 rfl) ?_
  refine J_iadd E (jd dk_J6_bitCount_0f7a4_0 36 rfl) ?_
  refine J_istore_n (lv' := [(0, .int (((((a0 - (((a0.toUInt32 >>> (Int32.toUInt32 1 &&& Int32.toUInt32 31)).toInt32) &&& 1431655765)) &&& 858993459) + ((((a0 - (((a0.toUInt32 >>> (Int32.toUInt32 1 &&& Int32.toUInt32 31)).toInt32) &&& 1431655765)).toUInt32 >>> (Int32.toUInt32 2 &&& Int32.toUInt32 31)).toInt32) &&& 858993459)) + (((((a0 - (((a0.toUInt32 >>> (Int32.toUInt32 1 &&& Int32.toUInt32 31)).toInt32) &&& 1431655765)) &&& 858993459) + ((((a0 - (((a0.toUInt32 >>> (Int32.toUInt32 1 &&& Int32.toUInt32 31)).toInt32) &&& 1431655765)).toUInt32 >>> (Int32.toUInt32 2 &&& Int32.toUInt32 31)).toInt32) &&& 858993459)).toUInt32 >>> (Int32.toUInt32 4 &&& Int32.toUInt32 31)).toInt32) &&& 252645135) + ((((((a0 - (((a0.toUInt32 >>> (Int32.toUInt32 1 &&& Int32.toUInt32 31)).toInt32) &&& 1431655765)) &&& 858993459) + ((((a0 - (((a0.toUInt32 >>> (Int32.toUInt32 1 &&& Int32.toUInt32 31)).toInt32) &&& 1431655765)).toUInt32 >>> (Int32.toUInt32 2 &&& Int32.toUInt32 31)).toInt32) &&& 858993459)) + (((((a0 - (((a0.toUInt32 >>> (Int32.toUInt32 1 &&& Int32.toUInt32 31)).toInt32) &&& 1431655765)) &&& 858993459) + ((((a0 - (((a0.toUInt32 >>> (Int32.toUInt32 1 &&& Int32.toUInt32 31)).toInt32) &&& 1431655765)).toUInt32 >>> (Int32.toUInt32 2 &&& Int32.toUInt32 31)).toInt32) &&& 858993459)).toUInt32 >>> (Int32.toUInt32 4 &&& Int32.toUInt32 31)).toInt32) &&& 252645135).toUInt32 >>> (Int32.toUInt32 8 &&& Int32.toUInt32 31)).toInt32) + (((((((a0 - (((a0.toUInt32 >>> (Int32.toUInt32 1 &&& Int32.toUInt32 31)).toInt32) &&& 1431655765)) &&& 858993459) + ((((a0 - (((a0.toUInt32 >>> (Int32.toUInt32 1 &&& Int32.toUInt32 31)).toInt32) &&& 1431655765)).toUInt32 >>> (Int32.toUInt32 2 &&& Int32.toUInt32 31)).toInt32) &&& 858993459)) + (((((a0 - (((a0.toUInt32 >>> (Int32.toUInt32 1 &&& Int32.toUInt32 31)).toInt32) &&& 1431655765)) &&& 858993459) + ((((a0 - (((a0.toUInt32 >>> (Int32.toUInt32 1 &&& Int32.toUInt32 31)).toInt32) &&& 1431655765)).toUInt32 >>> (Int32.toUInt32 2 &&& Int32.toUInt32 31)).toInt32) &&& 858993459)).toUInt32 >>> (Int32.toUInt32 4 &&& Int32.toUInt32 31)).toInt32) &&& 252645135) + ((((((a0 - (((a0.toUInt32 >>> (Int32.toUInt32 1 &&& Int32.toUInt32 31)).toInt32) &&& 1431655765)) &&& 858993459) + ((((a0 - (((a0.toUInt32 >>> (Int32.toUInt32 1 &&& Int32.toUInt32 31)).toInt32) &&& 1431655765)).toUInt32 >>> (Int32.toUInt32 2 &&& Int32.toUInt32 31)).toInt32) &&& 858993459)) + (((((a0 - (((a0.toUInt32 >>> (Int32.toUInt32 1 &&& Int32.toUInt32 31)).toInt32) &&& 1431655765)) &&& 858993459) + ((((a0 - (((a0.toUInt32 >>> (Int32.toUInt32 1 &&& Int32.toUInt32 31)).toInt32) &&& 1431655765)).toUInt32 >>> (Int32.toUInt32 2 &&& Int32.toUInt32 31)).toInt32) &&& 858993459)).toUInt32 >>> (Int32.toUInt32 4 &&& Int32.toUInt32 31)).toInt32) &&& 252645135).toUInt32 >>> (Int32.toUInt32 8 &&& Int32.toUInt32 31)).toInt32)).toUInt32 >>> (Int32.toUInt32 16 &&& Int32.toUInt32 31)).toInt32)))]) E (jd dk_J6_bitCount_0f7a4_0 37 rfl) rfl (by decide) rfl ?_
  refine J_iload_n E (jd dk_J6_bitCount_0f7a4_0 38 rfl) rfl 0 rfl ?_
  refine J_bipush (v := 63) E (jd dk_J6_bitCount_0f7a4_0 39 rfl) (by decide) ?_
  refine J_iand E (jd dk_J6_bitCount_0f7a4_0 40 rfl) ?_
  cases hf
  exact J_iret E hr rfl (jd dk_J6_bitCount_0f7a4_0 41 rfl) (Nat.le_refl _) (Nat.le_refl _) ⟨rfl, rfl⟩
def f_J6_numberOfTrailingZeros_0f7a4_b74 (N : Nat) (v0 : Int32) (v1 : Int32) (h : AH) : Option (Int32 × AH) :=
  some (v1 + ((v0.toUInt32 >>> (Int32.toUInt32 1 &&& Int32.toUInt32 31)).toInt32), h)
def f_J6_numberOfTrailingZeros_0f7a4_b62 (N : Nat) (v0 : Int32) (v1 : Int32) (h : AH) : Option (Int32 × AH) :=
  if v0 ≤ 4 then f_J6_numberOfTrailingZeros_0f7a4_b74 N v0 v1 h
  else f_J6_numberOfTrailingZeros_0f7a4_b74 N ((v0.toUInt32 >>> (Int32.toUInt32 2 &&& Int32.toUInt32 31)).toInt32) (v1 + 2) h
def f_J6_numberOfTrailingZeros_0f7a4_b49 (N : Nat) (v0 : Int32) (v1 : Int32) (h : AH) : Option (Int32 × AH) :=
  if v0 ≤ 16 then f_J6_numberOfTrailingZeros_0f7a4_b62 N v0 v1 h
  else f_J6_numberOfTrailingZeros_0f7a4_b62 N ((v0.toUInt32 >>> (Int32.toUInt32 4 &&& Int32.toUInt32 31)).toInt32) (v1 + 4) h
def f_J6_numberOfTrailingZeros_0f7a4_b34 (N : Nat) (v0 : Int32) (v1 : Int32) (h : AH) : Option (Int32 × AH) :=
  if v0 ≤ 256 then f_J6_numberOfTrailingZeros_0f7a4_b49 N v0 v1 h
  else f_J6_numberOfTrailingZeros_0f7a4_b49 N ((v0.toUInt32 >>> (Int32.toUInt32 8 &&& Int32.toUInt32 31)).toInt32) (v1 + 8) h
def f_J6_numberOfTrailingZeros_0f7a4 (N : Nat) (h : AH) (a0 : Int32) : Option (Int32 × AH) :=
  if 0 < ((a0 ^^^ ((-1))) &&& (a0 - 1)) then if ((a0 ^^^ ((-1))) &&& (a0 - 1)) ≤ 65536 then f_J6_numberOfTrailingZeros_0f7a4_b34 N ((a0 ^^^ ((-1))) &&& (a0 - 1)) 1 h
  else f_J6_numberOfTrailingZeros_0f7a4_b34 N ((((a0 ^^^ ((-1))) &&& (a0 - 1)).toUInt32 >>> (Int32.toUInt32 16 &&& Int32.toUInt32 31)).toInt32) (1 + 16) h
  else some (((a0 ^^^ ((-1))) &&& (a0 - 1)) &&& 32, h)
set_option maxRecDepth 100000 in
set_option maxHeartbeats 4000000 in
theorem lk_J6_numberOfTrailingZeros_0f7a4_b74 {G : JG} {X : JX} (E : jE G X (RJ6, cJ6_numberOfTrailingZeros_0f7a4, 2)) (hX : X.2.2.2.1 = jRm 0 0 0) (hr : X.2.2.2.2.2.2.2.2.1.sig.returnType = (some .int)) (N : Nat) {v0 : Int32} {v1 : Int32} {h : AH}  {r : (Int32 × AH)} (hf : f_J6_numberOfTrailingZeros_0f7a4_b74 N v0 v1 h = some r) : JW G X (RJ6, cJ6_numberOfTrailingZeros_0f7a4, 2) h [(0, .int v0), (1, .int v1)] [] 74 0 0 (jEnd G X (jpi r) 0 0) := by
  unfold f_J6_numberOfTrailingZeros_0f7a4_b74 at hf
  refine J_iload_n E (jd dk_J6_numberOfTrailingZeros_0f7a4_0 48 rfl) rfl 1 rfl ?_
  refine J_iload_n E (jd dk_J6_numberOfTrailingZeros_0f7a4_0 49 rfl) rfl 0 rfl ?_
  refine J_iconst (v := 1) E (jd dk_J6_numberOfTrailingZeros_0f7a4_1 0 rfl) rfl ?_
  refine J_iushr E (jd dk_J6_numberOfTrailingZeros_0f7a4_1 1 rfl) ?_
  refine J_iadd E (jd dk_J6_numberOfTrailingZeros_0f7a4_1 2 rfl) ?_
  cases hf
  exact J_iret E hr rfl (jd dk_J6_numberOfTrailingZeros_0f7a4_1 3 rfl) (Nat.le_refl _) (Nat.le_refl _) ⟨rfl, rfl⟩
set_option maxRecDepth 100000 in
set_option maxHeartbeats 4000000 in
theorem lk_J6_numberOfTrailingZeros_0f7a4_b62 {G : JG} {X : JX} (E : jE G X (RJ6, cJ6_numberOfTrailingZeros_0f7a4, 2)) (hX : X.2.2.2.1 = jRm 0 0 0) (hr : X.2.2.2.2.2.2.2.2.1.sig.returnType = (some .int)) (N : Nat) {v0 : Int32} {v1 : Int32} {h : AH}  {r : (Int32 × AH)} (hf : f_J6_numberOfTrailingZeros_0f7a4_b62 N v0 v1 h = some r) : JW G X (RJ6, cJ6_numberOfTrailingZeros_0f7a4, 2) h [(0, .int v0), (1, .int v1)] [] 62 0 0 (jEnd G X (jpi r) 0 0) := by
  unfold f_J6_numberOfTrailingZeros_0f7a4_b62 at hf
  refine J_iload_n E (jd dk_J6_numberOfTrailingZeros_0f7a4_0 40 rfl) rfl 0 rfl ?_
  refine J_iconst (v := 4) E (jd dk_J6_numberOfTrailingZeros_0f7a4_0 41 rfl) rfl ?_
  refine J_icmp_le (tgt := 74) E (jd dk_J6_numberOfTrailingZeros_0f7a4_0 42 rfl) (by decide) (fun c1 => ?_) (fun c1 => ?_)
  · replace hf := jif_t c1 hf
    exact lk_J6_numberOfTrailingZeros_0f7a4_b74 E hX hr N hf
  · replace hf := jif_f c1 hf
    refine J_iinc (v := v1 + 2) (lv' := [(1, .int (v1 + 2)), (0, .int v0)]) E (jd dk_J6_numberOfTrailingZeros_0f7a4_0 43 rfl) 1 rfl rfl (by decide) rfl ?_
    refine J_iload_n E (jd dk_J6_numberOfTrailingZeros_0f7a4_0 44 rfl) rfl 1 rfl ?_
    refine J_iconst (v := 2) E (jd dk_J6_numberOfTrailingZeros_0f7a4_0 45 rfl) rfl ?_
    refine J_iushr E (jd dk_J6_numberOfTrailingZeros_0f7a4_0 46 rfl) ?_
    refine J_istore_n (lv' := [(0, .int ((v0.toUInt32 >>> (Int32.toUInt32 2 &&& Int32.toUInt32 31)).toInt32)), (1, .int (v1 + 2))]) E (jd dk_J6_numberOfTrailingZeros_0f7a4_0 47 rfl) rfl (by decide) rfl ?_
    exact lk_J6_numberOfTrailingZeros_0f7a4_b74 E hX hr N hf
set_option maxRecDepth 100000 in
set_option maxHeartbeats 4000000 in
theorem lk_J6_numberOfTrailingZeros_0f7a4_b49 {G : JG} {X : JX} (E : jE G X (RJ6, cJ6_numberOfTrailingZeros_0f7a4, 2)) (hX : X.2.2.2.1 = jRm 0 0 0) (hr : X.2.2.2.2.2.2.2.2.1.sig.returnType = (some .int)) (N : Nat) {v0 : Int32} {v1 : Int32} {h : AH}  {r : (Int32 × AH)} (hf : f_J6_numberOfTrailingZeros_0f7a4_b49 N v0 v1 h = some r) : JW G X (RJ6, cJ6_numberOfTrailingZeros_0f7a4, 2) h [(0, .int v0), (1, .int v1)] [] 49 0 0 (jEnd G X (jpi r) 0 0) := by
  unfold f_J6_numberOfTrailingZeros_0f7a4_b49 at hf
  refine J_iload_n E (jd dk_J6_numberOfTrailingZeros_0f7a4_0 32 rfl) rfl 0 rfl ?_
  refine J_bipush (v := 16) E (jd dk_J6_numberOfTrailingZeros_0f7a4_0 33 rfl) (by decide) ?_
  refine J_icmp_le (tgt := 62) E (jd dk_J6_numberOfTrailingZeros_0f7a4_0 34 rfl) (by decide) (fun c2 => ?_) (fun c2 => ?_)
  · replace hf := jif_t c2 hf
    exact lk_J6_numberOfTrailingZeros_0f7a4_b62 E hX hr N hf
  · replace hf := jif_f c2 hf
    refine J_iinc (v := v1 + 4) (lv' := [(1, .int (v1 + 4)), (0, .int v0)]) E (jd dk_J6_numberOfTrailingZeros_0f7a4_0 35 rfl) 1 rfl rfl (by decide) rfl ?_
    refine J_iload_n E (jd dk_J6_numberOfTrailingZeros_0f7a4_0 36 rfl) rfl 1 rfl ?_
    refine J_iconst (v := 4) E (jd dk_J6_numberOfTrailingZeros_0f7a4_0 37 rfl) rfl ?_
    refine J_iushr E (jd dk_J6_numberOfTrailingZeros_0f7a4_0 38 rfl) ?_
    refine J_istore_n (lv' := [(0, .int ((v0.toUInt32 >>> (Int32.toUInt32 4 &&& Int32.toUInt32 31)).toInt32)), (1, .int (v1 + 4))]) E (jd dk_J6_numberOfTrailingZeros_0f7a4_0 39 rfl) rfl (by decide) rfl ?_
    exact lk_J6_numberOfTrailingZeros_0f7a4_b62 E hX hr N hf
set_option maxRecDepth 100000 in
set_option maxHeartbeats 4000000 in
theorem lk_J6_numberOfTrailingZeros_0f7a4_b34 {G : JG} {X : JX} (E : jE G X (RJ6, cJ6_numberOfTrailingZeros_0f7a4, 2)) (hX : X.2.2.2.1 = jRm 0 0 0) (hr : X.2.2.2.2.2.2.2.2.1.sig.returnType = (some .int)) (N : Nat) {v0 : Int32} {v1 : Int32} {h : AH}  {r : (Int32 × AH)} (hf : f_J6_numberOfTrailingZeros_0f7a4_b34 N v0 v1 h = some r) : JW G X (RJ6, cJ6_numberOfTrailingZeros_0f7a4, 2) h [(0, .int v0), (1, .int v1)] [] 34 0 0 (jEnd G X (jpi r) 0 0) := by
  unfold f_J6_numberOfTrailingZeros_0f7a4_b34 at hf
  refine J_iload_n E (jd dk_J6_numberOfTrailingZeros_0f7a4_0 24 rfl) rfl 0 rfl ?_
  refine J_sipush (v := 256) E (jd dk_J6_numberOfTrailingZeros_0f7a4_0 25 rfl) (by decide) ?_
  refine J_icmp_le (tgt := 49) E (jd dk_J6_numberOfTrailingZeros_0f7a4_0 26 rfl) (by decide) (fun c3 => ?_) (fun c3 => ?_)
  · replace hf := jif_t c3 hf
    exact lk_J6_numberOfTrailingZeros_0f7a4_b49 E hX hr N hf
  · replace hf := jif_f c3 hf
    refine J_iinc (v := v1 + 8) (lv' := [(1, .int (v1 + 8)), (0, .int v0)]) E (jd dk_J6_numberOfTrailingZeros_0f7a4_0 27 rfl) 1 rfl rfl (by decide) rfl ?_
    refine J_iload_n E (jd dk_J6_numberOfTrailingZeros_0f7a4_0 28 rfl) rfl 1 rfl ?_
    refine J_bipush (v := 8) E (jd dk_J6_numberOfTrailingZeros_0f7a4_0 29 rfl) (by decide) ?_
    refine J_iushr E (jd dk_J6_numberOfTrailingZeros_0f7a4_0 30 rfl) ?_
    refine J_istore_n (lv' := [(0, .int ((v0.toUInt32 >>> (Int32.toUInt32 8 &&& Int32.toUInt32 31)).toInt32)), (1, .int (v1 + 8))]) E (jd dk_J6_numberOfTrailingZeros_0f7a4_0 31 rfl) rfl (by decide) rfl ?_
    exact lk_J6_numberOfTrailingZeros_0f7a4_b49 E hX hr N hf
set_option maxRecDepth 100000 in
set_option maxHeartbeats 4000000 in
theorem lk_J6_numberOfTrailingZeros_0f7a4 {G : JG} {l : Launch} (hG : jG G) (htr : l.stackTraces = false) (N : Nat) {h : AH} {a0 : Int32} {r : (Int32 × AH)} (hf : f_J6_numberOfTrailingZeros_0f7a4 N h a0 = some r) : jMet G l yJ6_numberOfTrailingZeros_0f7a4 cJ6_numberOfTrailingZeros_0f7a4 2 (some .int) 0 0 0 [.int a0] h (jpi r) := by
  unfold f_J6_numberOfTrailingZeros_0f7a4 at hf
  refine jMet_of hG htr (by decide) (Nat.le_of_ble_eq_true rfl) ?_
  intro X E hl9 hr hX _ _
  show JW G X (RJ6, cJ6_numberOfTrailingZeros_0f7a4, 2) h [(0, .int a0)] [] 0 0 0 (jEnd G X (jpi r) 0 0)
  refine J_iload_n E (jd dk_J6_numberOfTrailingZeros_0f7a4_0 0 rfl) rfl 0 rfl ?_
  refine J_iconst (v := (-1)) E (jd dk_J6_numberOfTrailingZeros_0f7a4_0 1 rfl) rfl ?_
  refine J_ixor E (jd dk_J6_numberOfTrailingZeros_0f7a4_0 2 rfl) ?_
  refine J_iload_n E (jd dk_J6_numberOfTrailingZeros_0f7a4_0 3 rfl) rfl 0 rfl ?_
  refine J_iconst (v := 1) E (jd dk_J6_numberOfTrailingZeros_0f7a4_0 4 rfl) rfl ?_
  refine J_isub E (jd dk_J6_numberOfTrailingZeros_0f7a4_0 5 rfl) ?_
  refine J_iand E (jd dk_J6_numberOfTrailingZeros_0f7a4_0 6 rfl) ?_
  refine J_istore_n (lv' := [(0, .int ((a0 ^^^ ((-1))) &&& (a0 - 1)))]) E (jd dk_J6_numberOfTrailingZeros_0f7a4_0 7 rfl) rfl (by decide) rfl ?_
  refine J_iload_n E (jd dk_J6_numberOfTrailingZeros_0f7a4_0 8 rfl) rfl 0 rfl ?_
  refine J_if_gt (tgt := 17) E (jd dk_J6_numberOfTrailingZeros_0f7a4_0 9 rfl) (by decide) (fun c4 => ?_) (fun c4 => ?_)
  · replace hf := jif_t c4 hf
    refine J_iconst (v := 1) E (jd dk_J6_numberOfTrailingZeros_0f7a4_0 14 rfl) rfl ?_
    refine J_istore_n (lv' := [(1, .int 1), (0, .int ((a0 ^^^ ((-1))) &&& (a0 - 1)))]) E (jd dk_J6_numberOfTrailingZeros_0f7a4_0 15 rfl) rfl (by decide) rfl ?_
    refine J_iload_n E (jd dk_J6_numberOfTrailingZeros_0f7a4_0 16 rfl) rfl 1 rfl ?_
    refine J_ldcw (v := 65536) E (jd dk_J6_numberOfTrailingZeros_0f7a4_0 17 rfl) (jl9_in _ (List.mem_of_getElem? (i := 3) rfl)) ?_
    refine J_icmp_le (tgt := 34) E (jd dk_J6_numberOfTrailingZeros_0f7a4_0 18 rfl) (by decide) (fun c5 => ?_) (fun c5 => ?_)
    · replace hf := jif_t c5 hf
      refine J_sub [1, 0] rfl ?_
      exact lk_J6_numberOfTrailingZeros_0f7a4_b34 E hX hr N hf
    · replace hf := jif_f c5 hf
      refine J_iinc (v := 1 + 16) (lv' := [(1, .int (1 + 16)), (0, .int ((a0 ^^^ ((-1))) &&& (a0 - 1)))]) E (jd dk_J6_numberOfTrailingZeros_0f7a4_0 19 rfl) 0 rfl rfl (by decide) rfl ?_
      refine J_iload_n E (jd dk_J6_numberOfTrailingZeros_0f7a4_0 20 rfl) rfl 1 rfl ?_
      refine J_bipush (v := 16) E (jd dk_J6_numberOfTrailingZeros_0f7a4_0 21 rfl) (by decide) ?_
      refine J_iushr E (jd dk_J6_numberOfTrailingZeros_0f7a4_0 22 rfl) ?_
      refine J_istore_n (lv' := [(0, .int ((((a0 ^^^ ((-1))) &&& (a0 - 1)).toUInt32 >>> (Int32.toUInt32 16 &&& Int32.toUInt32 31)).toInt32)), (1, .int (1 + 16))]) E (jd dk_J6_numberOfTrailingZeros_0f7a4_0 23 rfl) rfl (by decide) rfl ?_
      exact lk_J6_numberOfTrailingZeros_0f7a4_b34 E hX hr N hf
  · replace hf := jif_f c4 hf
    refine J_iload_n E (jd dk_J6_numberOfTrailingZeros_0f7a4_0 10 rfl) rfl 0 rfl ?_
    refine J_bipush (v := 32) E (jd dk_J6_numberOfTrailingZeros_0f7a4_0 11 rfl) (by decide) ?_
    refine J_iand E (jd dk_J6_numberOfTrailingZeros_0f7a4_0 12 rfl) ?_
    cases hf
    exact J_iret E hr rfl (jd dk_J6_numberOfTrailingZeros_0f7a4_0 13 rfl) (Nat.le_refl _) (Nat.le_refl _) ⟨rfl, rfl⟩
def f_J7_fill_53178_l5 (N : Nat) (v0 : Nat) (v1 : Int32) (v3 : Int32) (v2 : Int32) (h : AH) : Option ((Int32 × AH) ⊕ ((AH))) :=
  if v3 ≤ v2 then some (.inr h)
  else (jas 0 h v0 v2 v1).bind fun h2 =>
  some (.inl ((v2 + 1, h2)))
def f_J7_fill_53178_b5 (N : Nat) (v0 : Nat) (v1 : Int32) (v2 : Int32) (v3 : Int32) (h : AH) : Option AH :=
  (itr (fun s => f_J7_fill_53178_l5 N v0 v1 v3 s.1 s.2) N (v2, h)).bind (fun e => some e)
def f_J7_fill_53178 (N : Nat) (h : AH) (a0 : Nat) (a1 : Int32) : Option AH :=
  (jln 0 h a0).bind fun x4 =>
  f_J7_fill_53178_b5 N a0 a1 0 x4 h
set_option maxRecDepth 100000 in
set_option maxHeartbeats 4000000 in
theorem lk_J7_fill_53178_l5 {G : JG} {X : JX} (E : jE G X (RJ7, cJ7_fill_53178, 4)) (hX : X.2.2.2.1 = jRm 0 0 0) (hr : X.2.2.2.2.2.2.2.2.1.sig.returnType = none) (N : Nat) {Q : State → Prop} {v0 : Nat} {v1 : Int32} {v3 : Int32} {v2 : Int32}  {h : AH} {q : ((Int32 × AH) ⊕ ((AH)))} (hf : f_J7_fill_53178_l5 N v0 v1 v3 v2 h = some q) (kb : ∀ s' : Int32 × AH, q = .inl s' → JW G X (RJ7, cJ7_fill_53178, 4) s'.2 [(0, .ref v0), (1, .int v1), (2, .int s'.1), (3, .int v3)] [] 5 0 0 Q) (ke0 : ∀ e : AH, q = .inr e → JW G X (RJ7, cJ7_fill_53178, 4) e [] [] 20 0 0 Q) : JW G X (RJ7, cJ7_fill_53178, 4) h [(0, .ref v0), (1, .int v1), (2, .int v2), (3, .int v3)] [] 5 0 0 Q := by
  unfold f_J7_fill_53178_l5 at hf
  refine J_iload_n E (jd dk_J7_fill_53178_0 5 rfl) rfl 2 rfl ?_
  refine J_iload_n E (jd dk_J7_fill_53178_0 6 rfl) rfl 3 rfl ?_
  refine J_icmp_ge (tgt := 20) E (jd dk_J7_fill_53178_0 7 rfl) (by decide) (fun c1 => ?_) (fun c1 => ?_)
  · replace hf := jif_t c1 hf
    refine J_sub [] rfl ?_
    exact ke0 _ (Option.some.inj hf).symm
  · replace hf := jif_f c1 hf
    refine J_aload_n E (jd dk_J7_fill_53178_0 8 rfl) rfl 0 rfl ?_
    refine J_iload_n E (jd dk_J7_fill_53178_0 9 rfl) rfl 2 rfl ?_
    refine J_iload_n E (jd dk_J7_fill_53178_0 10 rfl) rfl 1 rfl ?_
    obtain ⟨h2, e3, hf⟩ := jbind hf
    refine J_iast E (jd dk_J7_fill_53178_0 11 rfl) e3 ?_
    refine J_iinc (v := v2 + 1) (lv' := [(2, .int (v2 + 1)), (0, .ref v0), (1, .int v1), (3, .int v3)]) E (jd dk_J7_fill_53178_0 12 rfl) 2 rfl rfl (by decide) rfl ?_
    refine J_goto (tgt := 5) E (jd dk_J7_fill_53178_0 13 rfl) (by decide) ?_
    refine J_sub [1, 2, 0, 3] rfl ?_
    exact kb _ (Option.some.inj hf).symm
set_option maxRecDepth 100000 in
set_option maxHeartbeats 4000000 in
theorem lk_J7_fill_53178_b5 {G : JG} {X : JX} (E : jE G X (RJ7, cJ7_fill_53178, 4)) (hX : X.2.2.2.1 = jRm 0 0 0) (hr : X.2.2.2.2.2.2.2.2.1.sig.returnType = none) (N : Nat) {v0 : Nat} {v1 : Int32} {v2 : Int32} {v3 : Int32} {h : AH}  {r : AH} (hf : f_J7_fill_53178_b5 N v0 v1 v2 v3 h = some r) : JW G X (RJ7, cJ7_fill_53178, 4) h [(0, .ref v0), (1, .int v1), (2, .int v2), (3, .int v3)] [] 5 0 0 (jEnd G X (jpv r) 0 0) := by
  unfold f_J7_fill_53178_b5 at hf
  obtain ⟨q1, h1, hf⟩ := jbind hf
  refine jloop (P := fun s => JW G X (RJ7, cJ7_fill_53178, 4) s.2 [(0, .ref v0), (1, .int v1), (2, .int s.1), (3, .int v3)] [] 5 0 0 (jEnd G X (jpv r) 0 0)) (Ex := fun (e : AH) => JW G X (RJ7, cJ7_fill_53178, 4) e [] [] 20 0 0 (jEnd G X (jpv r) 0 0)) (fun s q hs hb hx => lk_J7_fill_53178_l5 E hX hr N hs (fun s' hs => hb s' hs) (fun e he => hx e he)) N _ q1 h1 ?_
  generalize q1 = e at hf ⊢
  cases hf
  exact J_vret E hr (jd dk_J7_fill_53178_0 14 rfl) (Nat.le_refl _) (Nat.le_refl _) ⟨rfl, rfl⟩
set_option maxRecDepth 100000 in
set_option maxHeartbeats 4000000 in
theorem lk_J7_fill_53178 {G : JG} {l : Launch} (hG : jG G) (htr : l.stackTraces = false) (N : Nat) {h : AH} {a0 : Nat} {a1 : Int32} {r : AH} (hf : f_J7_fill_53178 N h a0 a1 = some r) : jMet G l yJ7_fill_53178 cJ7_fill_53178 4 none 0 0 0 [.ref a0, .int a1] h (jpv r) := by
  unfold f_J7_fill_53178 at hf
  refine jMet_of hG htr (by decide) (Nat.le_of_ble_eq_true rfl) ?_
  intro X E hl9 hr hX _ _
  show JW G X (RJ7, cJ7_fill_53178, 4) h [(0, .ref a0), (1, .int a1)] [] 0 0 0 (jEnd G X (jpv r) 0 0)
  refine J_iconst (v := 0) E (jd dk_J7_fill_53178_0 0 rfl) rfl ?_
  refine J_istore_n (lv' := [(2, .int 0), (0, .ref a0), (1, .int a1)]) E (jd dk_J7_fill_53178_0 1 rfl) rfl (by decide) rfl ?_
  refine J_aload_n E (jd dk_J7_fill_53178_0 2 rfl) rfl 1 rfl ?_
  obtain ⟨x4, e5, hf⟩ := jbind hf
  refine J_alen E (by decide) (jd dk_J7_fill_53178_0 3 rfl) e5 ?_
  refine J_istore_n (lv' := [(3, .int x4), (2, .int 0), (0, .ref a0), (1, .int a1)]) E (jd dk_J7_fill_53178_0 4 rfl) rfl (by decide) rfl ?_
  refine J_sub [2, 3, 1, 0] rfl ?_
  exact lk_J7_fill_53178_b5 E hX hr N hf
def f_X6_rest (N : Nat) (h : AH) (a0 : Int32) (a1 : Int32) : Option (Int32 × AH) :=
  if a1 ≤ 0 then some (0, h)
  else if a1 = 0 then none else
  some (a0 - a0 / a1 * a1, h)
set_option maxRecDepth 100000 in
set_option maxHeartbeats 4000000 in
theorem lk_X6_rest {G : JG} {l : Launch} (hG : jG G) (htr : l.stackTraces = false) (N : Nat) {h : AH} {a0 : Int32} {a1 : Int32} {r : (Int32 × AH)} (hf : f_X6_rest N h a0 a1 = some r) : jMet G l yX6_rest cX6_rest 2 (some .int) 0 0 0 [.int a0, .int a1] h (jpi r) := by
  unfold f_X6_rest at hf
  refine jMet_of hG htr (by decide) (Nat.le_of_ble_eq_true rfl) ?_
  intro X E hl9 hr hX _ _
  show JW G X (RX6, cX6_rest, 2) h [(0, .int a0), (1, .int a1)] [] 0 0 0 (jEnd G X (jpi r) 0 0)
  refine J_iload_n E (jd dk_X6_rest_0 0 rfl) rfl 1 rfl ?_
  refine J_if_le (tgt := 10) E (jd dk_X6_rest_0 1 rfl) (by decide) (fun c1 => ?_) (fun c1 => ?_)
  · replace hf := jif_t c1 hf
    refine J_iconst (v := 0) E (jd dk_X6_rest_0 6 rfl) rfl ?_
    cases hf
    exact J_iret E hr rfl (jd dk_X6_rest_0 7 rfl) (Nat.le_refl _) (Nat.le_refl _) ⟨rfl, rfl⟩
  · replace hf := jif_f c1 hf
    refine J_iload_n E (jd dk_X6_rest_0 2 rfl) rfl 0 rfl ?_
    refine J_iload_n E (jd dk_X6_rest_0 3 rfl) rfl 1 rfl ?_
    obtain ⟨z2, hf⟩ := jnz hf
    refine J_irem E (jd dk_X6_rest_0 4 rfl) z2 ?_
    refine J_goto (tgt := 11) E (jd dk_X6_rest_0 5 rfl) (by decide) ?_
    cases hf
    exact J_iret E hr rfl (jd dk_X6_rest_0 7 rfl) (Nat.le_refl _) (Nat.le_refl _) ⟨rfl, rfl⟩
def f_X1_clear (N : Nat) (h : AH) (a0 : Nat) : Option AH :=
  (jwi 1 h a0 0 4).bind fun h1 =>
  (jwi 1 h1 a0 1 0).bind fun h3 =>
  (jwi 1 h3 a0 2 0).bind fun h5 =>
  (jwi 1 h5 a0 10 0).bind fun h7 =>
  (jwi 1 h7 a0 11 0).bind fun h9 =>
  (jwi 1 h9 a0 12 0).bind fun h11 =>
  (jwi 1 h11 a0 13 0).bind fun h13 =>
  (jwi 1 h13 a0 14 0).bind fun h15 =>
  some h15
set_option maxRecDepth 100000 in
set_option maxHeartbeats 4000000 in
theorem lk_X1_clear {G : JG} {l : Launch} (hG : jG G) (htr : l.stackTraces = false) (N : Nat) {h : AH} {a0 : Nat} {r : AH} (hf : f_X1_clear N h a0 = some r) : jMet G l yX1_clear cX1_clear 1 none 0 0 0 [.ref a0] h (jpv r) := by
  unfold f_X1_clear at hf
  refine jMet_of hG htr (by decide) (Nat.le_of_ble_eq_true rfl) ?_
  intro X E hl9 hr hX _ _
  show JW G X (RX1, cX1_clear, 1) h [(0, .ref a0)] [] 0 0 0 (jEnd G X (jpv r) 0 0)
  refine J_aload_n E (jd dk_X1_clear_0 0 rfl) rfl 0 rfl ?_
  refine J_iconst (v := 4) E (jd dk_X1_clear_0 1 rfl) rfl ?_
  obtain ⟨h1, e2, hf⟩ := jbind hf
  refine J_put E (jd dk_X1_clear_0 2 rfl) fl_RX1_9 e2 (fun _ => rfl) (fun _ => rfl) ?_
  refine J_aload_n E (jd dk_X1_clear_0 3 rfl) rfl 0 rfl ?_
  refine J_iconst (v := 0) E (jd dk_X1_clear_0 4 rfl) rfl ?_
  obtain ⟨h3, e4, hf⟩ := jbind hf
  refine J_put E (jd dk_X1_clear_0 5 rfl) fl_RX1_15 e4 (fun _ => rfl) (fun _ => rfl) ?_
  refine J_aload_n E (jd dk_X1_clear_0 6 rfl) rfl 0 rfl ?_
  refine J_iconst (v := 0) E (jd dk_X1_clear_0 7 rfl) rfl ?_
  obtain ⟨h5, e6, hf⟩ := jbind hf
  refine J_put E (jd dk_X1_clear_0 8 rfl) fl_RX1_18 e6 (fun _ => rfl) (fun _ => rfl) ?_
  refine J_aload_n E (jd dk_X1_clear_0 9 rfl) rfl 0 rfl ?_
  refine J_iconst (v := 0) E (jd dk_X1_clear_0 10 rfl) rfl ?_
  obtain ⟨h7, e8, hf⟩ := jbind hf
  refine J_put E (jd dk_X1_clear_0 11 rfl) fl_RX1_44 e8 (fun _ => rfl) (fun _ => rfl) ?_
  refine J_aload_n E (jd dk_X1_clear_0 12 rfl) rfl 0 rfl ?_
  refine J_iconst (v := 0) E (jd dk_X1_clear_0 13 rfl) rfl ?_
  obtain ⟨h9, e10, hf⟩ := jbind hf
  refine J_put E (jd dk_X1_clear_0 14 rfl) fl_RX1_47 e10 (fun _ => rfl) (fun _ => rfl) ?_
  refine J_aload_n E (jd dk_X1_clear_0 15 rfl) rfl 0 rfl ?_
  refine J_iconst (v := 0) E (jd dk_X1_clear_0 16 rfl) rfl ?_
  obtain ⟨h11, e12, hf⟩ := jbind hf
  refine J_put E (jd dk_X1_clear_0 17 rfl) fl_RX1_50 e12 (fun _ => rfl) (fun _ => rfl) ?_
  refine J_aload_n E (jd dk_X1_clear_0 18 rfl) rfl 0 rfl ?_
  refine J_iconst (v := 0) E (jd dk_X1_clear_0 19 rfl) rfl ?_
  obtain ⟨h13, e14, hf⟩ := jbind hf
  refine J_put E (jd dk_X1_clear_0 20 rfl) fl_RX1_53 e14 (fun _ => rfl) (fun _ => rfl) ?_
  refine J_aload_n E (jd dk_X1_clear_0 21 rfl) rfl 0 rfl ?_
  refine J_iconst (v := 0) E (jd dk_X1_clear_0 22 rfl) rfl ?_
  obtain ⟨h15, e16, hf⟩ := jbind hf
  refine J_put E (jd dk_X1_clear_0 23 rfl) fl_RX1_56 e16 (fun _ => rfl) (fun _ => rfl) ?_
  cases hf
  exact J_vret E hr (jd dk_X1_clear_0 24 rfl) (Nat.le_refl _) (Nat.le_refl _) ⟨rfl, rfl⟩
def f_X1_allSides (N : Nat) (h : AH) (a0 : Nat) : Option (Int32 × AH) :=
  (jgi 1 h a0 0).bind fun x1 =>
  some (((1 : Int32) <<< (x1 &&& 31)) - 1, h)
set_option maxRecDepth 100000 in
set_option maxHeartbeats 4000000 in
theorem lk_X1_allSides {G : JG} {l : Launch} (hG : jG G) (htr : l.stackTraces = false) (N : Nat) {h : AH} {a0 : Nat} {r : (Int32 × AH)} (hf : f_X1_allSides N h a0 = some r) : jMet G l yX1_allSides cX1_allSides 1 (some .int) 0 0 0 [.ref a0] h (jpi r) := by
  unfold f_X1_allSides at hf
  refine jMet_of hG htr (by decide) (Nat.le_of_ble_eq_true rfl) ?_
  intro X E hl9 hr hX _ _
  show JW G X (RX1, cX1_allSides, 1) h [(0, .ref a0)] [] 0 0 0 (jEnd G X (jpi r) 0 0)
  refine J_iconst (v := 1) E (jd dk_X1_allSides_0 0 rfl) rfl ?_
  refine J_aload_n E (jd dk_X1_allSides_0 1 rfl) rfl 0 rfl ?_
  obtain ⟨x1, e2, hf⟩ := jbind hf
  refine J_geti E (jd dk_X1_allSides_0 2 rfl) fl_RX1_9 e2 ?_
  refine J_ishl E (jd dk_X1_allSides_0 3 rfl) ?_
  refine J_iconst (v := 1) E (jd dk_X1_allSides_0 4 rfl) rfl ?_
  refine J_isub E (jd dk_X1_allSides_0 5 rfl) ?_
  cases hf
  exact J_iret E hr rfl (jd dk_X1_allSides_0 6 rfl) (Nat.le_refl _) (Nat.le_refl _) ⟨rfl, rfl⟩
def f_X1_hasTurns (N : Nat) (h : AH) (a0 : Nat) : Option (Int32 × AH) :=
  (jgi 1 h a0 11).bind fun x1 =>
  (jgi 1 h a0 12).bind fun x3 =>
  if x3 ≤ x1 then some (0, h)
  else some (1, h)
set_option maxRecDepth 100000 in
set_option maxHeartbeats 4000000 in
theorem lk_X1_hasTurns {G : JG} {l : Launch} (hG : jG G) (htr : l.stackTraces = false) (N : Nat) {h : AH} {a0 : Nat} {r : (Int32 × AH)} (hf : f_X1_hasTurns N h a0 = some r) : jMet G l yX1_hasTurns cX1_hasTurns 1 (some .boolean) 0 0 0 [.ref a0] h (jpi r) := by
  unfold f_X1_hasTurns at hf
  refine jMet_of hG htr (by decide) (Nat.le_of_ble_eq_true rfl) ?_
  intro X E hl9 hr hX _ _
  show JW G X (RX1, cX1_hasTurns, 1) h [(0, .ref a0)] [] 0 0 0 (jEnd G X (jpi r) 0 0)
  refine J_aload_n E (jd dk_X1_hasTurns_0 0 rfl) rfl 0 rfl ?_
  obtain ⟨x1, e2, hf⟩ := jbind hf
  refine J_geti E (jd dk_X1_hasTurns_0 1 rfl) fl_RX1_47 e2 ?_
  refine J_aload_n E (jd dk_X1_hasTurns_0 2 rfl) rfl 0 rfl ?_
  obtain ⟨x3, e4, hf⟩ := jbind hf
  refine J_geti E (jd dk_X1_hasTurns_0 3 rfl) fl_RX1_50 e4 ?_
  refine J_icmp_ge (tgt := 15) E (jd dk_X1_hasTurns_0 4 rfl) (by decide) (fun c5 => ?_) (fun c5 => ?_)
  · replace hf := jif_t c5 hf
    refine J_iconst (v := 0) E (jd dk_X1_hasTurns_0 7 rfl) rfl ?_
    cases hf
    exact J_iret E hr rfl (jd dk_X1_hasTurns_0 8 rfl) (Nat.le_refl _) (Nat.le_refl _) ⟨rfl, rfl⟩
  · replace hf := jif_f c5 hf
    refine J_iconst (v := 1) E (jd dk_X1_hasTurns_0 5 rfl) rfl ?_
    refine J_goto (tgt := 16) E (jd dk_X1_hasTurns_0 6 rfl) (by decide) ?_
    cases hf
    exact J_iret E hr rfl (jd dk_X1_hasTurns_0 8 rfl) (Nat.le_refl _) (Nat.le_refl _) ⟨rfl, rfl⟩
def f_X1_hasGoes (N : Nat) (h : AH) (a0 : Nat) : Option (Int32 × AH) :=
  (jgi 1 h a0 13).bind fun x1 =>
  (jgi 1 h a0 14).bind fun x3 =>
  if x3 ≤ x1 then some (0, h)
  else some (1, h)
set_option maxRecDepth 100000 in
set_option maxHeartbeats 4000000 in
theorem lk_X1_hasGoes {G : JG} {l : Launch} (hG : jG G) (htr : l.stackTraces = false) (N : Nat) {h : AH} {a0 : Nat} {r : (Int32 × AH)} (hf : f_X1_hasGoes N h a0 = some r) : jMet G l yX1_hasGoes cX1_hasGoes 1 (some .boolean) 0 0 0 [.ref a0] h (jpi r) := by
  unfold f_X1_hasGoes at hf
  refine jMet_of hG htr (by decide) (Nat.le_of_ble_eq_true rfl) ?_
  intro X E hl9 hr hX _ _
  show JW G X (RX1, cX1_hasGoes, 1) h [(0, .ref a0)] [] 0 0 0 (jEnd G X (jpi r) 0 0)
  refine J_aload_n E (jd dk_X1_hasGoes_0 0 rfl) rfl 0 rfl ?_
  obtain ⟨x1, e2, hf⟩ := jbind hf
  refine J_geti E (jd dk_X1_hasGoes_0 1 rfl) fl_RX1_53 e2 ?_
  refine J_aload_n E (jd dk_X1_hasGoes_0 2 rfl) rfl 0 rfl ?_
  obtain ⟨x3, e4, hf⟩ := jbind hf
  refine J_geti E (jd dk_X1_hasGoes_0 3 rfl) fl_RX1_56 e4 ?_
  refine J_icmp_ge (tgt := 15) E (jd dk_X1_hasGoes_0 4 rfl) (by decide) (fun c5 => ?_) (fun c5 => ?_)
  · replace hf := jif_t c5 hf
    refine J_iconst (v := 0) E (jd dk_X1_hasGoes_0 7 rfl) rfl ?_
    cases hf
    exact J_iret E hr rfl (jd dk_X1_hasGoes_0 8 rfl) (Nat.le_refl _) (Nat.le_refl _) ⟨rfl, rfl⟩
  · replace hf := jif_f c5 hf
    refine J_iconst (v := 1) E (jd dk_X1_hasGoes_0 5 rfl) rfl ?_
    refine J_goto (tgt := 16) E (jd dk_X1_hasGoes_0 6 rfl) (by decide) ?_
    cases hf
    exact J_iret E hr rfl (jd dk_X1_hasGoes_0 8 rfl) (Nat.le_refl _) (Nat.le_refl _) ⟨rfl, rfl⟩
def f_X1_emit (N : Nat) (h : AH) (a0 : Nat) (a1 : Int32) (a2 : Int32) : Option AH :=
  (jgi 1 h a0 10).bind fun x1 =>
  (jgr 1 h a0 9).bind fun x3 =>
  (jln 0 h x3).bind fun x5 =>
  if x5 ≤ x1 then some h
  else (jgr 1 h a0 9).bind fun x8 =>
  (jgi 1 h a0 10).bind fun x10 =>
  (jas 0 h x8 x10 ((a2 * 16) + a1)).bind fun h12 =>
  (jgi 1 h12 a0 10).bind fun x14 =>
  (jwi 1 h12 a0 10 (x14 + 1)).bind fun h16 =>
  some h16
set_option maxRecDepth 100000 in
set_option maxHeartbeats 4000000 in
theorem lk_X1_emit {G : JG} {l : Launch} (hG : jG G) (htr : l.stackTraces = false) (N : Nat) {h : AH} {a0 : Nat} {a1 : Int32} {a2 : Int32} {r : AH} (hf : f_X1_emit N h a0 a1 a2 = some r) : jMet G l yX1_emit cX1_emit 3 none 0 0 0 [.ref a0, .int a1, .int a2] h (jpv r) := by
  unfold f_X1_emit at hf
  refine jMet_of hG htr (by decide) (Nat.le_of_ble_eq_true rfl) ?_
  intro X E hl9 hr hX _ _
  show JW G X (RX1, cX1_emit, 3) h [(0, .ref a0), (1, .int a1), (2, .int a2)] [] 0 0 0 (jEnd G X (jpv r) 0 0)
  refine J_aload_n E (jd dk_X1_emit_0 0 rfl) rfl 0 rfl ?_
  obtain ⟨x1, e2, hf⟩ := jbind hf
  refine J_geti E (jd dk_X1_emit_0 1 rfl) fl_RX1_44 e2 ?_
  refine J_aload_n E (jd dk_X1_emit_0 2 rfl) rfl 0 rfl ?_
  obtain ⟨x3, e4, hf⟩ := jbind hf
  refine J_getr E (jd dk_X1_emit_0 3 rfl) fl_RX1_41 e4 ?_
  obtain ⟨x5, e6, hf⟩ := jbind hf
  refine J_alen E (by decide) (jd dk_X1_emit_0 4 rfl) e6 ?_
  refine J_icmp_ge (tgt := 37) E (jd dk_X1_emit_0 5 rfl) (by decide) (fun c7 => ?_) (fun c7 => ?_)
  · replace hf := jif_t c7 hf
    cases hf
    exact J_vret E hr (jd dk_X1_emit_0 22 rfl) (Nat.le_refl _) (Nat.le_refl _) ⟨rfl, rfl⟩
  · replace hf := jif_f c7 hf
    refine J_aload_n E (jd dk_X1_emit_0 6 rfl) rfl 0 rfl ?_
    obtain ⟨x8, e9, hf⟩ := jbind hf
    refine J_getr E (jd dk_X1_emit_0 7 rfl) fl_RX1_41 e9 ?_
    refine J_aload_n E (jd dk_X1_emit_0 8 rfl) rfl 0 rfl ?_
    obtain ⟨x10, e11, hf⟩ := jbind hf
    refine J_geti E (jd dk_X1_emit_0 9 rfl) fl_RX1_44 e11 ?_
    refine J_iload_n E (jd dk_X1_emit_0 10 rfl) rfl 2 rfl ?_
    refine J_bipush (v := 16) E (jd dk_X1_emit_0 11 rfl) (by decide) ?_
    refine J_imul E (jd dk_X1_emit_0 12 rfl) ?_
    refine J_iload_n E (jd dk_X1_emit_0 13 rfl) rfl 1 rfl ?_
    refine J_iadd E (jd dk_X1_emit_0 14 rfl) ?_
    obtain ⟨h12, e13, hf⟩ := jbind hf
    refine J_iast E (jd dk_X1_emit_0 15 rfl) e13 ?_
    refine J_aload_n E (jd dk_X1_emit_0 16 rfl) rfl 0 rfl ?_
    refine J_dup E (jd dk_X1_emit_0 17 rfl) rfl ?_
    obtain ⟨x14, e15, hf⟩ := jbind hf
    refine J_geti E (jd dk_X1_emit_0 18 rfl) fl_RX1_44 e15 ?_
    refine J_iconst (v := 1) E (jd dk_X1_emit_0 19 rfl) rfl ?_
    refine J_iadd E (jd dk_X1_emit_0 20 rfl) ?_
    obtain ⟨h16, e17, hf⟩ := jbind hf
    refine J_put E (jd dk_X1_emit_0 21 rfl) fl_RX1_44 e17 (fun _ => rfl) (fun _ => rfl) ?_
    cases hf
    exact J_vret E hr (jd dk_X1_emit_0 22 rfl) (Nat.le_refl _) (Nat.le_refl _) ⟨rfl, rfl⟩
def f_X2_valueOf_b22 (N : Nat)  (h : AH) : Option (Int32 × AH) :=
  some (0, h)
def f_X2_valueOf (N : Nat) (h : AH) (a0 : Nat) (a1 : Int32) : Option (Int32 × AH) :=
  if a1 < 0 then f_X2_valueOf_b22 N  h
  else (jgr 2 h a0 0).bind fun x2 =>
  (jln 0 h x2).bind fun x4 =>
  if x4 ≤ a1 then f_X2_valueOf_b22 N  h
  else (jgr 2 h a0 0).bind fun x7 =>
  (jal 0 h x7 a1).bind fun x9 =>
  some (x9, h)
set_option maxRecDepth 100000 in
set_option maxHeartbeats 4000000 in
theorem lk_X2_valueOf_b22 {G : JG} {X : JX} (E : jE G X (RX2, cX2_valueOf, 2)) (hX : X.2.2.2.1 = jRm 0 0 0) (hr : X.2.2.2.2.2.2.2.2.1.sig.returnType = (some .int)) (N : Nat)  {h : AH}  {r : (Int32 × AH)} (hf : f_X2_valueOf_b22 N  h = some r) : JW G X (RX2, cX2_valueOf, 2) h [] [] 22 0 0 (jEnd G X (jpi r) 0 0) := by
  unfold f_X2_valueOf_b22 at hf
  refine J_iconst (v := 0) E (jd dk_X2_valueOf_0 12 rfl) rfl ?_
  cases hf
  exact J_iret E hr rfl (jd dk_X2_valueOf_0 13 rfl) (Nat.le_refl _) (Nat.le_refl _) ⟨rfl, rfl⟩
set_option maxRecDepth 100000 in
set_option maxHeartbeats 4000000 in
theorem lk_X2_valueOf {G : JG} {l : Launch} (hG : jG G) (htr : l.stackTraces = false) (N : Nat) {h : AH} {a0 : Nat} {a1 : Int32} {r : (Int32 × AH)} (hf : f_X2_valueOf N h a0 a1 = some r) : jMet G l yX2_valueOf cX2_valueOf 2 (some .int) 0 0 0 [.ref a0, .int a1] h (jpi r) := by
  unfold f_X2_valueOf at hf
  refine jMet_of hG htr (by decide) (Nat.le_of_ble_eq_true rfl) ?_
  intro X E hl9 hr hX _ _
  show JW G X (RX2, cX2_valueOf, 2) h [(0, .ref a0), (1, .int a1)] [] 0 0 0 (jEnd G X (jpi r) 0 0)
  refine J_iload_n E (jd dk_X2_valueOf_0 0 rfl) rfl 1 rfl ?_
  refine J_if_lt (tgt := 22) E (jd dk_X2_valueOf_0 1 rfl) (by decide) (fun c1 => ?_) (fun c1 => ?_)
  · replace hf := jif_t c1 hf
    refine J_sub [] rfl ?_
    exact lk_X2_valueOf_b22 E hX hr N hf
  · replace hf := jif_f c1 hf
    refine J_iload_n E (jd dk_X2_valueOf_0 2 rfl) rfl 1 rfl ?_
    refine J_aload_n E (jd dk_X2_valueOf_0 3 rfl) rfl 0 rfl ?_
    obtain ⟨x2, e3, hf⟩ := jbind hf
    refine J_getr E (jd dk_X2_valueOf_0 4 rfl) fl_RX2_7 e3 ?_
    obtain ⟨x4, e5, hf⟩ := jbind hf
    refine J_alen E (by decide) (jd dk_X2_valueOf_0 5 rfl) e5 ?_
    refine J_icmp_ge (tgt := 22) E (jd dk_X2_valueOf_0 6 rfl) (by decide) (fun c6 => ?_) (fun c6 => ?_)
    · replace hf := jif_t c6 hf
      refine J_sub [] rfl ?_
      exact lk_X2_valueOf_b22 E hX hr N hf
    · replace hf := jif_f c6 hf
      refine J_aload_n E (jd dk_X2_valueOf_0 7 rfl) rfl 0 rfl ?_
      obtain ⟨x7, e8, hf⟩ := jbind hf
      refine J_getr E (jd dk_X2_valueOf_0 8 rfl) fl_RX2_7 e8 ?_
      refine J_iload_n E (jd dk_X2_valueOf_0 9 rfl) rfl 1 rfl ?_
      obtain ⟨x9, e10, hf⟩ := jbind hf
      refine J_iald E (jd dk_X2_valueOf_0 10 rfl) e10 ?_
      refine J_goto (tgt := 23) E (jd dk_X2_valueOf_0 11 rfl) (by decide) ?_
      cases hf
      exact J_iret E hr rfl (jd dk_X2_valueOf_0 13 rfl) (Nat.le_refl _) (Nat.le_refl _) ⟨rfl, rfl⟩
def f_X2_combine_b112 (N : Nat)  (h : AH) : Option (Int32 × AH) :=
  some (1, h)
def f_X2_combine_b102 (N : Nat)  (h : AH) : Option (Int32 × AH) :=
  some (0, h)
def f_X2_combine (N : Nat) (h : AH) (a0 : Int32) (a1 : Int32) (a2 : Int32) : Option (Int32 × AH) :=
  if a0 = 2 then some (a1 + a2, h)
  else if a0 = 3 then some (a1 - a2, h)
  else if a0 = 4 then some (a1 * a2, h)
  else if a0 = 5 then if a2 = 0 then some (0, h)
  else if a2 = 0 then none else
  some (a1 / a2, h)
  else if a0 = 6 then if a2 ≤ a1 then some (0, h)
  else some (1, h)
  else if a0 = 7 then if a1 = a2 then some (1, h)
  else some (0, h)
  else if a0 = 8 then if a1 = 0 then f_X2_combine_b102 N  h
  else if a2 = 0 then f_X2_combine_b102 N  h
  else some (1, h)
  else if a1 = 0 then if a2 = 0 then some (0, h)
  else f_X2_combine_b112 N  h
  else f_X2_combine_b112 N  h
set_option maxRecDepth 100000 in
set_option maxHeartbeats 4000000 in
theorem lk_X2_combine_b112 {G : JG} {X : JX} (E : jE G X (RX2, cX2_combine, 3)) (hX : X.2.2.2.1 = jRm 0 0 0) (hr : X.2.2.2.2.2.2.2.2.1.sig.returnType = (some .int)) (N : Nat)  {h : AH}  {r : (Int32 × AH)} (hf : f_X2_combine_b112 N  h = some r) : JW G X (RX2, cX2_combine, 3) h [] [] 112 0 0 (jEnd G X (jpi r) 0 0) := by
  unfold f_X2_combine_b112 at hf
  refine J_iconst (v := 1) E (jd dk_X2_combine_0 48 rfl) rfl ?_
  refine J_goto (tgt := 117) E (jd dk_X2_combine_0 49 rfl) (by decide) ?_
  cases hf
  exact J_iret E hr rfl (jd dk_X2_combine_1 1 rfl) (Nat.le_refl _) (Nat.le_refl _) ⟨rfl, rfl⟩
set_option maxRecDepth 100000 in
set_option maxHeartbeats 4000000 in
theorem lk_X2_combine_b102 {G : JG} {X : JX} (E : jE G X (RX2, cX2_combine, 3)) (hX : X.2.2.2.1 = jRm 0 0 0) (hr : X.2.2.2.2.2.2.2.2.1.sig.returnType = (some .int)) (N : Nat)  {h : AH}  {r : (Int32 × AH)} (hf : f_X2_combine_b102 N  h = some r) : JW G X (RX2, cX2_combine, 3) h [] [] 102 0 0 (jEnd G X (jpi r) 0 0) := by
  unfold f_X2_combine_b102 at hf
  refine J_iconst (v := 0) E (jd dk_X2_combine_0 42 rfl) rfl ?_
  cases hf
  exact J_iret E hr rfl (jd dk_X2_combine_0 43 rfl) (Nat.le_refl _) (Nat.le_refl _) ⟨rfl, rfl⟩
set_option maxRecDepth 100000 in
set_option maxHeartbeats 4000000 in
theorem lk_X2_combine {G : JG} {l : Launch} (hG : jG G) (htr : l.stackTraces = false) (N : Nat) {h : AH} {a0 : Int32} {a1 : Int32} {a2 : Int32} {r : (Int32 × AH)} (hf : f_X2_combine N h a0 a1 a2 = some r) : jMet G l yX2_combine cX2_combine 3 (some .int) 0 0 0 [.int a0, .int a1, .int a2] h (jpi r) := by
  unfold f_X2_combine at hf
  refine jMet_of hG htr (by decide) (Nat.le_of_ble_eq_true rfl) ?_
  intro X E hl9 hr hX _ _
  show JW G X (RX2, cX2_combine, 3) h [(0, .int a0), (1, .int a1), (2, .int a2)] [] 0 0 0 (jEnd G X (jpi r) 0 0)
  refine J_iload_n E (jd dk_X2_combine_0 0 rfl) rfl 0 rfl ?_
  by_cases c1_2 : a0 = 2
  · replace hf := jif_t c1_2 hf
    refine J_tableIn (off := 43) (tgt := 44) E (jd dk_X2_combine_0 1 rfl) (by rw [c1_2]; decide) (by rw [c1_2]; decide) (by rw [c1_2]; decide) (by decide) ?_
    refine J_iload_n E (jd dk_X2_combine_0 2 rfl) rfl 1 rfl ?_
    refine J_iload_n E (jd dk_X2_combine_0 3 rfl) rfl 2 rfl ?_
    refine J_iadd E (jd dk_X2_combine_0 4 rfl) ?_
    cases hf
    exact J_iret E hr rfl (jd dk_X2_combine_0 5 rfl) (Nat.le_refl _) (Nat.le_refl _) ⟨rfl, rfl⟩
  replace hf := jif_f c1_2 hf
  by_cases c1_3 : a0 = 3
  · replace hf := jif_t c1_3 hf
    refine J_tableIn (off := 47) (tgt := 48) E (jd dk_X2_combine_0 1 rfl) (by rw [c1_3]; decide) (by rw [c1_3]; decide) (by rw [c1_3]; decide) (by decide) ?_
    refine J_iload_n E (jd dk_X2_combine_0 6 rfl) rfl 1 rfl ?_
    refine J_iload_n E (jd dk_X2_combine_0 7 rfl) rfl 2 rfl ?_
    refine J_isub E (jd dk_X2_combine_0 8 rfl) ?_
    cases hf
    exact J_iret E hr rfl (jd dk_X2_combine_0 9 rfl) (Nat.le_refl _) (Nat.le_refl _) ⟨rfl, rfl⟩
  replace hf := jif_f c1_3 hf
  by_cases c1_4 : a0 = 4
  · replace hf := jif_t c1_4 hf
    refine J_tableIn (off := 51) (tgt := 52) E (jd dk_X2_combine_0 1 rfl) (by rw [c1_4]; decide) (by rw [c1_4]; decide) (by rw [c1_4]; decide) (by decide) ?_
    refine J_iload_n E (jd dk_X2_combine_0 10 rfl) rfl 1 rfl ?_
    refine J_iload_n E (jd dk_X2_combine_0 11 rfl) rfl 2 rfl ?_
    refine J_imul E (jd dk_X2_combine_0 12 rfl) ?_
    cases hf
    exact J_iret E hr rfl (jd dk_X2_combine_0 13 rfl) (Nat.le_refl _) (Nat.le_refl _) ⟨rfl, rfl⟩
  replace hf := jif_f c1_4 hf
  by_cases c1_5 : a0 = 5
  · replace hf := jif_t c1_5 hf
    refine J_tableIn (off := 55) (tgt := 56) E (jd dk_X2_combine_0 1 rfl) (by rw [c1_5]; decide) (by rw [c1_5]; decide) (by rw [c1_5]; decide) (by decide) ?_
    refine J_iload_n E (jd dk_X2_combine_0 14 rfl) rfl 2 rfl ?_
    refine J_if_ne (tgt := 64) E (jd dk_X2_combine_0 15 rfl) (by decide) (fun c1 => ?_) (fun c1 => ?_)
    · replace hf := jif_f c1 hf
      refine J_iload_n E (jd dk_X2_combine_0 18 rfl) rfl 1 rfl ?_
      refine J_iload_n E (jd dk_X2_combine_0 19 rfl) rfl 2 rfl ?_
      obtain ⟨z2, hf⟩ := jnz hf
      refine J_idiv E (jd dk_X2_combine_0 20 rfl) z2 ?_
      cases hf
      exact J_iret E hr rfl (jd dk_X2_combine_0 21 rfl) (Nat.le_refl _) (Nat.le_refl _) ⟨rfl, rfl⟩
    · replace hf := jif_t c1 hf
      refine J_iconst (v := 0) E (jd dk_X2_combine_0 16 rfl) rfl ?_
      refine J_goto (tgt := 67) E (jd dk_X2_combine_0 17 rfl) (by decide) ?_
      cases hf
      exact J_iret E hr rfl (jd dk_X2_combine_0 21 rfl) (Nat.le_refl _) (Nat.le_refl _) ⟨rfl, rfl⟩
  replace hf := jif_f c1_5 hf
  by_cases c1_6 : a0 = 6
  · replace hf := jif_t c1_6 hf
    refine J_tableIn (off := 67) (tgt := 68) E (jd dk_X2_combine_0 1 rfl) (by rw [c1_6]; decide) (by rw [c1_6]; decide) (by rw [c1_6]; decide) (by decide) ?_
    refine J_iload_n E (jd dk_X2_combine_0 22 rfl) rfl 1 rfl ?_
    refine J_iload_n E (jd dk_X2_combine_0 23 rfl) rfl 2 rfl ?_
    refine J_icmp_ge (tgt := 77) E (jd dk_X2_combine_0 24 rfl) (by decide) (fun c3 => ?_) (fun c3 => ?_)
    · replace hf := jif_t c3 hf
      refine J_iconst (v := 0) E (jd dk_X2_combine_0 27 rfl) rfl ?_
      cases hf
      exact J_iret E hr rfl (jd dk_X2_combine_0 28 rfl) (Nat.le_refl _) (Nat.le_refl _) ⟨rfl, rfl⟩
    · replace hf := jif_f c3 hf
      refine J_iconst (v := 1) E (jd dk_X2_combine_0 25 rfl) rfl ?_
      refine J_goto (tgt := 78) E (jd dk_X2_combine_0 26 rfl) (by decide) ?_
      cases hf
      exact J_iret E hr rfl (jd dk_X2_combine_0 28 rfl) (Nat.le_refl _) (Nat.le_refl _) ⟨rfl, rfl⟩
  replace hf := jif_f c1_6 hf
  by_cases c1_7 : a0 = 7
  · replace hf := jif_t c1_7 hf
    refine J_tableIn (off := 78) (tgt := 79) E (jd dk_X2_combine_0 1 rfl) (by rw [c1_7]; decide) (by rw [c1_7]; decide) (by rw [c1_7]; decide) (by decide) ?_
    refine J_iload_n E (jd dk_X2_combine_0 29 rfl) rfl 1 rfl ?_
    refine J_iload_n E (jd dk_X2_combine_0 30 rfl) rfl 2 rfl ?_
    refine J_icmp_ne (tgt := 88) E (jd dk_X2_combine_0 31 rfl) (by decide) (fun c4 => ?_) (fun c4 => ?_)
    · replace hf := jif_f c4 hf
      refine J_iconst (v := 0) E (jd dk_X2_combine_0 34 rfl) rfl ?_
      cases hf
      exact J_iret E hr rfl (jd dk_X2_combine_0 35 rfl) (Nat.le_refl _) (Nat.le_refl _) ⟨rfl, rfl⟩
    · replace hf := jif_t c4 hf
      refine J_iconst (v := 1) E (jd dk_X2_combine_0 32 rfl) rfl ?_
      refine J_goto (tgt := 89) E (jd dk_X2_combine_0 33 rfl) (by decide) ?_
      cases hf
      exact J_iret E hr rfl (jd dk_X2_combine_0 35 rfl) (Nat.le_refl _) (Nat.le_refl _) ⟨rfl, rfl⟩
  replace hf := jif_f c1_7 hf
  by_cases c1_8 : a0 = 8
  · replace hf := jif_t c1_8 hf
    refine J_tableIn (off := 89) (tgt := 90) E (jd dk_X2_combine_0 1 rfl) (by rw [c1_8]; decide) (by rw [c1_8]; decide) (by rw [c1_8]; decide) (by decide) ?_
    refine J_iload_n E (jd dk_X2_combine_0 36 rfl) rfl 1 rfl ?_
    refine J_if_eq (tgt := 102) E (jd dk_X2_combine_0 37 rfl) (by decide) (fun c5 => ?_) (fun c5 => ?_)
    · replace hf := jif_t c5 hf
      refine J_sub [] rfl ?_
      exact lk_X2_combine_b102 E hX hr N hf
    · replace hf := jif_f c5 hf
      refine J_iload_n E (jd dk_X2_combine_0 38 rfl) rfl 2 rfl ?_
      refine J_if_eq (tgt := 102) E (jd dk_X2_combine_0 39 rfl) (by decide) (fun c6 => ?_) (fun c6 => ?_)
      · replace hf := jif_t c6 hf
        refine J_sub [] rfl ?_
        exact lk_X2_combine_b102 E hX hr N hf
      · replace hf := jif_f c6 hf
        refine J_iconst (v := 1) E (jd dk_X2_combine_0 40 rfl) rfl ?_
        refine J_goto (tgt := 103) E (jd dk_X2_combine_0 41 rfl) (by decide) ?_
        cases hf
        exact J_iret E hr rfl (jd dk_X2_combine_0 43 rfl) (Nat.le_refl _) (Nat.le_refl _) ⟨rfl, rfl⟩
  replace hf := jif_f c1_8 hf
  refine J_tableOut (tgt := 104) E (jd dk_X2_combine_0 1 rfl) (jsw (v := 8) (jsw (v := 7) (jsw (v := 6) (jsw (v := 5) (jsw (v := 4) (jsw (v := 3) (jsw (v := 2) (jsw0 (x := a0) (2)) (by decide) c1_2) (by decide) c1_3) (by decide) c1_4) (by decide) c1_5) (by decide) c1_6) (by decide) c1_7) (by decide) c1_8) (by decide) ?_
  refine J_iload_n E (jd dk_X2_combine_0 44 rfl) rfl 1 rfl ?_
  refine J_if_ne (tgt := 112) E (jd dk_X2_combine_0 45 rfl) (by decide) (fun c7 => ?_) (fun c7 => ?_)
  · replace hf := jif_f c7 hf
    refine J_sub [] rfl ?_
    exact lk_X2_combine_b112 E hX hr N hf
  · replace hf := jif_t c7 hf
    refine J_iload_n E (jd dk_X2_combine_0 46 rfl) rfl 2 rfl ?_
    refine J_if_eq (tgt := 116) E (jd dk_X2_combine_0 47 rfl) (by decide) (fun c8 => ?_) (fun c8 => ?_)
    · replace hf := jif_t c8 hf
      refine J_iconst (v := 0) E (jd dk_X2_combine_1 0 rfl) rfl ?_
      cases hf
      exact J_iret E hr rfl (jd dk_X2_combine_1 1 rfl) (Nat.le_refl _) (Nat.le_refl _) ⟨rfl, rfl⟩
    · replace hf := jif_f c8 hf
      refine J_sub [] rfl ?_
      exact lk_X2_combine_b112 E hX hr N hf
def f_X2_result_b184 (N : Nat) (v0 : Nat) (v4 : Int32) (h : AH) : Option (Int32 × AH) :=
  if v4 ≤ 0 then some (0, h)
  else (jgr 2 h v0 1).bind fun x2 =>
  (jal 0 h x2 0).bind fun x4 =>
  some (x4, h)
def f_X2_result_b178 (N : Nat) (v0 : Nat) (v1 : Nat) (v3 : Int32) (v4 : Int32) (v5 : Int32) (h : AH) : Option ((Int32 × Int32 × AH) ⊕ ((AH) ⊕ (AH) ⊕ (AH) ⊕ (Int32 × AH))) :=
  some (.inl ((v4, v5 + 1, h)))
def f_X2_result_b86 (N : Nat) (v0 : Nat) (v1 : Nat) (v3 : Int32) (v4 : Int32) (v5 : Int32) (w0 : Nat) (w1 : Int32) (w2 : Int32) (h : AH) : Option ((Int32 × Int32 × AH) ⊕ ((AH) ⊕ (AH) ⊕ (AH) ⊕ (Int32 × AH))) :=
  (jas 0 h w0 w1 w2).bind fun h6 =>
  f_X2_result_b178 N v0 v1 v3 (v4 + 1) v5 h6
def f_X2_result_b52 (N : Nat) (v0 : Nat) (v1 : Nat) (v3 : Int32) (v4 : Int32) (v5 : Int32) (v6 : Int32) (v7 : Int32) (h : AH) : Option ((Int32 × Int32 × AH) ⊕ ((AH) ⊕ (AH) ⊕ (AH) ⊕ (Int32 × AH))) :=
  (jgr 2 h v0 1).bind fun x8 =>
  (jln 0 h x8).bind fun x10 =>
  if v4 < x10 then (jgr 2 h v0 1).bind fun x13 =>
  if v6 = 0 then f_X2_result_b86 N v0 v1 v3 v4 v5 x13 v4 v7 h
  else (jck 2 h v0).bind fun _ =>
  (f_X2_valueOf N h v0 v7).bind fun r16 =>
  f_X2_result_b86 N v0 v1 v3 v4 v5 x13 v4 r16.1 r16.2
  else some (.inr (.inl h))
def f_X2_result_b133 (N : Nat) (v0 : Nat) (v1 : Nat) (v3 : Int32) (v4 : Int32) (v5 : Int32) (w0 : Nat) (w1 : Int32) (w2 : Int32) (h : AH) : Option ((Int32 × Int32 × AH) ⊕ ((AH) ⊕ (AH) ⊕ (AH) ⊕ (Int32 × AH))) :=
  (jas 0 h w0 w1 w2).bind fun h20 =>
  f_X2_result_b178 N v0 v1 v3 v4 v5 h20
def f_X2_result_l10 (N : Nat) (v0 : Nat) (v1 : Nat) (v3 : Int32) (v4 : Int32) (v5 : Int32) (h : AH) : Option ((Int32 × Int32 × AH) ⊕ ((AH) ⊕ (AH) ⊕ (AH) ⊕ (Int32 × AH))) :=
  if v3 ≤ v5 then some (.inr (.inr (.inr (.inr ((v4, h))))))
  else (jln 0 h v1).bind fun x23 =>
  if x23 ≤ v5 then some (.inr (.inr (.inr (.inr ((v4, h))))))
  else (jal 0 h v1 v5).bind fun x26 =>
  (jal 0 h v1 v5).bind fun x28 =>
  if (x26 - x26 / 16 * 16) = 0 then f_X2_result_b52 N v0 v1 v3 v4 v5 (x26 - x26 / 16 * 16) (x28 / 16) h
  else if (x26 - x26 / 16 * 16) = 1 then f_X2_result_b52 N v0 v1 v3 v4 v5 (x26 - x26 / 16 * 16) (x28 / 16) h
  else if (x26 - x26 / 16 * 16) = 10 then if 1 ≤ v4 then (jgr 2 h v0 1).bind fun x49 =>
  (jgr 2 h v0 1).bind fun x51 =>
  (jal 0 h x51 (v4 - 1)).bind fun x53 =>
  if x53 = 0 then f_X2_result_b133 N v0 v1 v3 v4 v5 x49 (v4 - 1) 1 h
  else f_X2_result_b133 N v0 v1 v3 v4 v5 x49 (v4 - 1) 0 h
  else some (.inr (.inr (.inl h)))
  else if 2 ≤ v4 then (jgr 2 h v0 1).bind fun x34 =>
  (jgr 2 h v0 1).bind fun x36 =>
  (jal 0 h x36 ((v4 + (-1)) - 1)).bind fun x38 =>
  (jgr 2 h v0 1).bind fun x40 =>
  (jal 0 h x40 (v4 + (-1))).bind fun x42 =>
  (f_X2_combine N h (x26 - x26 / 16 * 16) x38 x42).bind fun r44 =>
  (jas 0 r44.2 x34 ((v4 + (-1)) - 1) r44.1).bind fun h46 =>
  f_X2_result_b178 N v0 v1 v3 (v4 + (-1)) v5 h46
  else some (.inr (.inr (.inr (.inl h))))
def f_X2_result_b10 (N : Nat) (v0 : Nat) (v1 : Nat) (v3 : Int32) (v4 : Int32) (v5 : Int32) (h : AH) : Option (Int32 × AH) :=
  (itr (fun s => f_X2_result_l10 N v0 v1 v3 s.1 s.2.1 s.2.2) N (v4, v5, h)).bind (Sum.elim (fun e => some (0, e)) (Sum.elim (fun e => some (0, e)) (Sum.elim (fun e => some (0, e)) (fun e => f_X2_result_b184 N v0 e.1 e.2))))
def f_X2_result (N : Nat) (h : AH) (a0 : Nat) (a1 : Nat) (a2 : Int32) (a3 : Int32) : Option (Int32 × AH) :=
  f_X2_result_b10 N a0 a1 a3 0 (jmx a2 0) h
set_option maxRecDepth 100000 in
set_option maxHeartbeats 4000000 in
theorem lk_X2_result_b184 {G : JG} {X : JX} (E : jE G X (RX2, cX2_result, 8)) (hX : X.2.2.2.1 = jRm 1 0 0) (hr : X.2.2.2.2.2.2.2.2.1.sig.returnType = (some .int)) (N : Nat) {v0 : Nat} {v4 : Int32} {h : AH}  {r : (Int32 × AH)} (hf : f_X2_result_b184 N v0 v4 h = some r) : JW G X (RX2, cX2_result, 8) h [(0, .ref v0), (4, .int v4)] [] 184 0 0 (jEnd G X (jpi r) 0 0) := by
  unfold f_X2_result_b184 at hf
  refine J_iload E (jd dk_X2_result_2 1 rfl) 1 rfl ?_
  refine J_if_le (tgt := 198) E (jd dk_X2_result_2 2 rfl) (by decide) (fun c1 => ?_) (fun c1 => ?_)
  · replace hf := jif_t c1 hf
    refine J_iconst (v := 0) E (jd dk_X2_result_2 8 rfl) rfl ?_
    cases hf
    exact J_iret E hr rfl (jd dk_X2_result_2 9 rfl) (Nat.le_refl _) (Nat.le_refl _) ⟨rfl, rfl⟩
  · replace hf := jif_f c1 hf
    refine J_aload_n E (jd dk_X2_result_2 3 rfl) rfl 0 rfl ?_
    obtain ⟨x2, e3, hf⟩ := jbind hf
    refine J_getr E (jd dk_X2_result_2 4 rfl) fl_RX2_13 e3 ?_
    refine J_iconst (v := 0) E (jd dk_X2_result_2 5 rfl) rfl ?_
    obtain ⟨x4, e5, hf⟩ := jbind hf
    refine J_iald E (jd dk_X2_result_2 6 rfl) e5 ?_
    refine J_goto (tgt := 199) E (jd dk_X2_result_2 7 rfl) (by decide) ?_
    cases hf
    exact J_iret E hr rfl (jd dk_X2_result_2 9 rfl) (Nat.le_refl _) (Nat.le_refl _) ⟨rfl, rfl⟩
set_option maxRecDepth 100000 in
set_option maxHeartbeats 4000000 in
theorem lk_X2_result_b178 {G : JG} {X : JX} (E : jE G X (RX2, cX2_result, 8)) (hX : X.2.2.2.1 = jRm 1 0 0) (hr : X.2.2.2.2.2.2.2.2.1.sig.returnType = (some .int)) (N : Nat) {Q : State → Prop} {v0 : Nat} {v1 : Nat} {v3 : Int32} {v4 : Int32} {v5 : Int32} {h : AH}  {q : ((Int32 × Int32 × AH) ⊕ ((AH) ⊕ (AH) ⊕ (AH) ⊕ (Int32 × AH)))} (hf : f_X2_result_b178 N v0 v1 v3 v4 v5 h = some q) (kb : ∀ s' : Int32 × Int32 × AH, q = .inl s' → JW G X (RX2, cX2_result, 8) s'.2.2 [(0, .ref v0), (1, .ref v1), (3, .int v3), (4, .int s'.1), (5, .int s'.2.1)] [] 10 0 0 Q) (ke0 : ∀ e : AH, q = .inr (.inl e) → JW G X (RX2, cX2_result, 8) e [] [] 62 0 0 Q) (ke1 : ∀ e : AH, q = .inr (.inr (.inl e)) → JW G X (RX2, cX2_result, 8) e [] [] 106 0 0 Q) (ke2 : ∀ e : AH, q = .inr (.inr (.inr (.inl e))) → JW G X (RX2, cX2_result, 8) e [] [] 143 0 0 Q) (ke3 : ∀ e : Int32 × AH, q = .inr (.inr (.inr (.inr e))) → JW G X (RX2, cX2_result, 8) e.2 [(0, .ref v0), (4, .int e.1)] [] 184 0 0 Q) : JW G X (RX2, cX2_result, 8) h [(0, .ref v0), (1, .ref v1), (3, .int v3), (4, .int v4), (5, .int v5)] [] 178 0 0 Q := by
  unfold f_X2_result_b178 at hf
  refine J_iinc (v := v5 + 1) (lv' := [(5, .int (v5 + 1)), (0, .ref v0), (1, .ref v1), (3, .int v3), (4, .int v4)]) E (jd dk_X2_result_1 49 rfl) 4 rfl rfl (by decide) rfl ?_
  refine J_goto (tgt := 10) E (jd dk_X2_result_2 0 rfl) (by decide) ?_
  refine J_sub [1, 2, 3, 4, 0] rfl ?_
  exact kb _ (Option.some.inj hf).symm
set_option maxRecDepth 100000 in
set_option maxHeartbeats 4000000 in
theorem lk_X2_result_b86 {G : JG} {X : JX} (E : jE G X (RX2, cX2_result, 8)) (hX : X.2.2.2.1 = jRm 1 0 0) (hr : X.2.2.2.2.2.2.2.2.1.sig.returnType = (some .int)) (N : Nat) {Q : State → Prop} {v0 : Nat} {v1 : Nat} {v3 : Int32} {v4 : Int32} {v5 : Int32} {w0 : Nat} {w1 : Int32} {w2 : Int32} {h : AH}  {q : ((Int32 × Int32 × AH) ⊕ ((AH) ⊕ (AH) ⊕ (AH) ⊕ (Int32 × AH)))} (hf : f_X2_result_b86 N v0 v1 v3 v4 v5 w0 w1 w2 h = some q) (kb : ∀ s' : Int32 × Int32 × AH, q = .inl s' → JW G X (RX2, cX2_result, 8) s'.2.2 [(0, .ref v0), (1, .ref v1), (3, .int v3), (4, .int s'.1), (5, .int s'.2.1)] [] 10 0 0 Q) (ke0 : ∀ e : AH, q = .inr (.inl e) → JW G X (RX2, cX2_result, 8) e [] [] 62 0 0 Q) (ke1 : ∀ e : AH, q = .inr (.inr (.inl e)) → JW G X (RX2, cX2_result, 8) e [] [] 106 0 0 Q) (ke2 : ∀ e : AH, q = .inr (.inr (.inr (.inl e))) → JW G X (RX2, cX2_result, 8) e [] [] 143 0 0 Q) (ke3 : ∀ e : Int32 × AH, q = .inr (.inr (.inr (.inr e))) → JW G X (RX2, cX2_result, 8) e.2 [(0, .ref v0), (4, .int e.1)] [] 184 0 0 Q) : JW G X (RX2, cX2_result, 8) h [(0, .ref v0), (1, .ref v1), (3, .int v3), (4, .int v4), (5, .int v5)] [.int w2, .int w1, .ref w0] 86 0 0 Q := by
  unfold f_X2_result_b86 at hf
  obtain ⟨h6, e7, hf⟩ := jbind hf
  refine J_iast E (jd dk_X2_result_0 47 rfl) e7 ?_
  refine J_iinc (v := v4 + 1) (lv' := [(4, .int (v4 + 1)), (0, .ref v0), (1, .ref v1), (3, .int v3), (5, .int v5)]) E (jd dk_X2_result_0 48 rfl) 3 rfl rfl (by decide) rfl ?_
  refine J_goto (tgt := 178) E (jd dk_X2_result_0 49 rfl) (by decide) ?_
  refine J_sub [1, 2, 3, 0, 4] rfl ?_
  exact lk_X2_result_b178 E hX hr N hf kb ke0 ke1 ke2 ke3
set_option maxRecDepth 100000 in
set_option maxHeartbeats 4000000 in
theorem lk_X2_result_b52 {G : JG} {X : JX} (E : jE G X (RX2, cX2_result, 8)) (hX : X.2.2.2.1 = jRm 1 0 0) (hr : X.2.2.2.2.2.2.2.2.1.sig.returnType = (some .int)) (N : Nat) {Q : State → Prop} {v0 : Nat} {v1 : Nat} {v3 : Int32} {v4 : Int32} {v5 : Int32} {v6 : Int32} {v7 : Int32} {h : AH}  {q : ((Int32 × Int32 × AH) ⊕ ((AH) ⊕ (AH) ⊕ (AH) ⊕ (Int32 × AH)))} (hf : f_X2_result_b52 N v0 v1 v3 v4 v5 v6 v7 h = some q) (kb : ∀ s' : Int32 × Int32 × AH, q = .inl s' → JW G X (RX2, cX2_result, 8) s'.2.2 [(0, .ref v0), (1, .ref v1), (3, .int v3), (4, .int s'.1), (5, .int s'.2.1)] [] 10 0 0 Q) (ke0 : ∀ e : AH, q = .inr (.inl e) → JW G X (RX2, cX2_result, 8) e [] [] 62 0 0 Q) (ke1 : ∀ e : AH, q = .inr (.inr (.inl e)) → JW G X (RX2, cX2_result, 8) e [] [] 106 0 0 Q) (ke2 : ∀ e : AH, q = .inr (.inr (.inr (.inl e))) → JW G X (RX2, cX2_result, 8) e [] [] 143 0 0 Q) (ke3 : ∀ e : Int32 × AH, q = .inr (.inr (.inr (.inr e))) → JW G X (RX2, cX2_result, 8) e.2 [(0, .ref v0), (4, .int e.1)] [] 184 0 0 Q) : JW G X (RX2, cX2_result, 8) h [(0, .ref v0), (1, .ref v1), (3, .int v3), (4, .int v4), (5, .int v5), (6, .int v6), (7, .int v7)] [] 52 0 0 Q := by
  unfold f_X2_result_b52 at hf
  refine J_iload E (jd dk_X2_result_0 30 rfl) 3 rfl ?_
  refine J_aload_n E (jd dk_X2_result_0 31 rfl) rfl 0 rfl ?_
  obtain ⟨x8, e9, hf⟩ := jbind hf
  refine J_getr E (jd dk_X2_result_0 32 rfl) fl_RX2_13 e9 ?_
  obtain ⟨x10, e11, hf⟩ := jbind hf
  refine J_alen E (by decide) (jd dk_X2_result_0 33 rfl) e11 ?_
  refine J_icmp_lt (tgt := 64) E (jd dk_X2_result_0 34 rfl) (by decide) (fun c12 => ?_) (fun c12 => ?_)
  · replace hf := jif_t c12 hf
    refine J_aload_n E (jd dk_X2_result_0 37 rfl) rfl 0 rfl ?_
    obtain ⟨x13, e14, hf⟩ := jbind hf
    refine J_getr E (jd dk_X2_result_0 38 rfl) fl_RX2_13 e14 ?_
    refine J_iload E (jd dk_X2_result_0 39 rfl) 3 rfl ?_
    refine J_iload E (jd dk_X2_result_0 40 rfl) 5 rfl ?_
    refine J_if_ne (tgt := 80) E (jd dk_X2_result_0 41 rfl) (by decide) (fun c15 => ?_) (fun c15 => ?_)
    · replace hf := jif_f c15 hf
      refine J_aload_n E (jd dk_X2_result_0 44 rfl) rfl 0 rfl ?_
      refine J_iload E (jd dk_X2_result_0 45 rfl) 6 rfl ?_
      obtain ⟨u18, e19, hf⟩ := jbind hf
      obtain ⟨r16, e17, hf⟩ := jbind hf
      refine J_callV E (jd dk_X2_result_0 46 rfl) ml_RX2_22 cal_X2_valueOf e19 rfl (lk_X2_valueOf (jE_g E) (jE_tr E) N e17) rfl (Nat.le_of_ble_eq_true rfl) (jR_le hX (by decide) (by decide)) (jF0 hX) rfl ?_
      rintro _ _ ⟨rfl, rfl⟩
      refine J_sub [0, 1, 2, 3, 4] rfl ?_
      exact lk_X2_result_b86 E hX hr N hf kb ke0 ke1 ke2 ke3
    · replace hf := jif_t c15 hf
      refine J_iload E (jd dk_X2_result_0 42 rfl) 6 rfl ?_
      refine J_goto (tgt := 86) E (jd dk_X2_result_0 43 rfl) (by decide) ?_
      refine J_sub [0, 1, 2, 3, 4] rfl ?_
      exact lk_X2_result_b86 E hX hr N hf kb ke0 ke1 ke2 ke3
  · replace hf := jif_f c12 hf
    refine J_sub [] rfl ?_
    exact ke0 _ (Option.some.inj hf).symm
set_option maxRecDepth 100000 in
set_option maxHeartbeats 4000000 in
theorem lk_X2_result_b133 {G : JG} {X : JX} (E : jE G X (RX2, cX2_result, 8)) (hX : X.2.2.2.1 = jRm 1 0 0) (hr : X.2.2.2.2.2.2.2.2.1.sig.returnType = (some .int)) (N : Nat) {Q : State → Prop} {v0 : Nat} {v1 : Nat} {v3 : Int32} {v4 : Int32} {v5 : Int32} {w0 : Nat} {w1 : Int32} {w2 : Int32} {h : AH}  {q : ((Int32 × Int32 × AH) ⊕ ((AH) ⊕ (AH) ⊕ (AH) ⊕ (Int32 × AH)))} (hf : f_X2_result_b133 N v0 v1 v3 v4 v5 w0 w1 w2 h = some q) (kb : ∀ s' : Int32 × Int32 × AH, q = .inl s' → JW G X (RX2, cX2_result, 8) s'.2.2 [(0, .ref v0), (1, .ref v1), (3, .int v3), (4, .int s'.1), (5, .int s'.2.1)] [] 10 0 0 Q) (ke0 : ∀ e : AH, q = .inr (.inl e) → JW G X (RX2, cX2_result, 8) e [] [] 62 0 0 Q) (ke1 : ∀ e : AH, q = .inr (.inr (.inl e)) → JW G X (RX2, cX2_result, 8) e [] [] 106 0 0 Q) (ke2 : ∀ e : AH, q = .inr (.inr (.inr (.inl e))) → JW G X (RX2, cX2_result, 8) e [] [] 143 0 0 Q) (ke3 : ∀ e : Int32 × AH, q = .inr (.inr (.inr (.inr e))) → JW G X (RX2, cX2_result, 8) e.2 [(0, .ref v0), (4, .int e.1)] [] 184 0 0 Q) : JW G X (RX2, cX2_result, 8) h [(0, .ref v0), (1, .ref v1), (3, .int v3), (4, .int v4), (5, .int v5)] [.int w2, .int w1, .ref w0] 133 0 0 Q := by
  unfold f_X2_result_b133 at hf
  obtain ⟨h20, e21, hf⟩ := jbind hf
  refine J_iast E (jd dk_X2_result_1 23 rfl) e21 ?_
  refine J_goto (tgt := 178) E (jd dk_X2_result_1 24 rfl) (by decide) ?_
  exact lk_X2_result_b178 E hX hr N hf kb ke0 ke1 ke2 ke3
set_option maxRecDepth 100000 in
set_option maxHeartbeats 4000000 in
theorem lk_X2_result_l10 {G : JG} {X : JX} (E : jE G X (RX2, cX2_result, 8)) (hX : X.2.2.2.1 = jRm 1 0 0) (hr : X.2.2.2.2.2.2.2.2.1.sig.returnType = (some .int)) (N : Nat) {Q : State → Prop} {v0 : Nat} {v1 : Nat} {v3 : Int32} {v4 : Int32} {v5 : Int32}  {h : AH} {q : ((Int32 × Int32 × AH) ⊕ ((AH) ⊕ (AH) ⊕ (AH) ⊕ (Int32 × AH)))} (hf : f_X2_result_l10 N v0 v1 v3 v4 v5 h = some q) (kb : ∀ s' : Int32 × Int32 × AH, q = .inl s' → JW G X (RX2, cX2_result, 8) s'.2.2 [(0, .ref v0), (1, .ref v1), (3, .int v3), (4, .int s'.1), (5, .int s'.2.1)] [] 10 0 0 Q) (ke0 : ∀ e : AH, q = .inr (.inl e) → JW G X (RX2, cX2_result, 8) e [] [] 62 0 0 Q) (ke1 : ∀ e : AH, q = .inr (.inr (.inl e)) → JW G X (RX2, cX2_result, 8) e [] [] 106 0 0 Q) (ke2 : ∀ e : AH, q = .inr (.inr (.inr (.inl e))) → JW G X (RX2, cX2_result, 8) e [] [] 143 0 0 Q) (ke3 : ∀ e : Int32 × AH, q = .inr (.inr (.inr (.inr e))) → JW G X (RX2, cX2_result, 8) e.2 [(0, .ref v0), (4, .int e.1)] [] 184 0 0 Q) : JW G X (RX2, cX2_result, 8) h [(0, .ref v0), (1, .ref v1), (3, .int v3), (4, .int v4), (5, .int v5)] [] 10 0 0 Q := by
  unfold f_X2_result_l10 at hf
  refine J_iload E (jd dk_X2_result_0 6 rfl) 4 rfl ?_
  refine J_iload_n E (jd dk_X2_result_0 7 rfl) rfl 2 rfl ?_
  refine J_icmp_ge (tgt := 184) E (jd dk_X2_result_0 8 rfl) (by decide) (fun c22 => ?_) (fun c22 => ?_)
  · replace hf := jif_t c22 hf
    refine J_sub [0, 3] rfl ?_
    exact ke3 _ (Option.some.inj hf).symm
  · replace hf := jif_f c22 hf
    refine J_iload E (jd dk_X2_result_0 9 rfl) 4 rfl ?_
    refine J_aload_n E (jd dk_X2_result_0 10 rfl) rfl 1 rfl ?_
    obtain ⟨x23, e24, hf⟩ := jbind hf
    refine J_alen E (by decide) (jd dk_X2_result_0 11 rfl) e24 ?_
    refine J_icmp_ge (tgt := 184) E (jd dk_X2_result_0 12 rfl) (by decide) (fun c25 => ?_) (fun c25 => ?_)
    · replace hf := jif_t c25 hf
      refine J_sub [0, 3] rfl ?_
      exact ke3 _ (Option.some.inj hf).symm
    · replace hf := jif_f c25 hf
      refine J_aload_n E (jd dk_X2_result_0 13 rfl) rfl 1 rfl ?_
      refine J_iload E (jd dk_X2_result_0 14 rfl) 4 rfl ?_
      obtain ⟨x26, e27, hf⟩ := jbind hf
      refine J_iald E (jd dk_X2_result_0 15 rfl) e27 ?_
      refine J_bipush (v := 16) E (jd dk_X2_result_0 16 rfl) (by decide) ?_
      refine J_irem E (jd dk_X2_result_0 17 rfl) (by decide) ?_
      refine J_istore (lv' := [(6, .int (x26 - x26 / 16 * 16)), (0, .ref v0), (1, .ref v1), (3, .int v3), (4, .int v4), (5, .int v5)]) E (jd dk_X2_result_0 18 rfl) (by decide) rfl ?_
      refine J_aload_n E (jd dk_X2_result_0 19 rfl) rfl 2 rfl ?_
      refine J_iload E (jd dk_X2_result_0 20 rfl) 5 rfl ?_
      obtain ⟨x28, e29, hf⟩ := jbind hf
      refine J_iald E (jd dk_X2_result_0 21 rfl) e29 ?_
      refine J_bipush (v := 16) E (jd dk_X2_result_0 22 rfl) (by decide) ?_
      refine J_idiv E (jd dk_X2_result_0 23 rfl) (by decide) ?_
      refine J_istore (lv' := [(7, .int (x28 / 16)), (6, .int (x26 - x26 / 16 * 16)), (0, .ref v0), (1, .ref v1), (3, .int v3), (4, .int v4), (5, .int v5)]) E (jd dk_X2_result_0 24 rfl) (by decide) rfl ?_
      refine J_iload E (jd dk_X2_result_0 25 rfl) 1 rfl ?_
      refine J_if_eq (tgt := 52) E (jd dk_X2_result_0 26 rfl) (by decide) (fun c30 => ?_) (fun c30 => ?_)
      · replace hf := jif_t c30 hf
        refine J_sub [2, 3, 4, 5, 6, 1, 0] rfl ?_
        exact lk_X2_result_b52 E hX hr N hf kb ke0 ke1 ke2 ke3
      · replace hf := jif_f c30 hf
        refine J_iload E (jd dk_X2_result_0 27 rfl) 1 rfl ?_
        refine J_iconst (v := 1) E (jd dk_X2_result_0 28 rfl) rfl ?_
        refine J_icmp_ne (tgt := 93) E (jd dk_X2_result_0 29 rfl) (by decide) (fun c31 => ?_) (fun c31 => ?_)
        · replace hf := jif_f c31 hf
          refine J_iload E (jd dk_X2_result_1 0 rfl) 1 rfl ?_
          refine J_bipush (v := 10) E (jd dk_X2_result_1 1 rfl) (by decide) ?_
          refine J_icmp_ne (tgt := 137) E (jd dk_X2_result_1 2 rfl) (by decide) (fun c32 => ?_) (fun c32 => ?_)
          · replace hf := jif_f c32 hf
            refine J_iload E (jd dk_X2_result_1 25 rfl) 5 rfl ?_
            refine J_iconst (v := 2) E (jd dk_X2_result_1 26 rfl) rfl ?_
            refine J_icmp_ge (tgt := 145) E (jd dk_X2_result_1 27 rfl) (by decide) (fun c33 => ?_) (fun c33 => ?_)
            · replace hf := jif_t c33 hf
              refine J_iinc (v := v4 + (-1)) (lv' := [(4, .int (v4 + (-1))), (7, .int (x28 / 16)), (6, .int (x26 - x26 / 16 * 16)), (0, .ref v0), (1, .ref v1), (3, .int v3), (5, .int v5)]) E (jd dk_X2_result_1 30 rfl) 5 rfl rfl (by decide) rfl ?_
              refine J_aload_n E (jd dk_X2_result_1 31 rfl) rfl 3 rfl ?_
              obtain ⟨x34, e35, hf⟩ := jbind hf
              refine J_getr E (jd dk_X2_result_1 32 rfl) fl_RX2_13 e35 ?_
              refine J_iload E (jd dk_X2_result_1 33 rfl) 0 rfl ?_
              refine J_iconst (v := 1) E (jd dk_X2_result_1 34 rfl) rfl ?_
              refine J_isub E (jd dk_X2_result_1 35 rfl) ?_
              refine J_iload E (jd dk_X2_result_1 36 rfl) 2 rfl ?_
              refine J_aload_n E (jd dk_X2_result_1 37 rfl) rfl 3 rfl ?_
              obtain ⟨x36, e37, hf⟩ := jbind hf
              refine J_getr E (jd dk_X2_result_1 38 rfl) fl_RX2_13 e37 ?_
              refine J_iload E (jd dk_X2_result_1 39 rfl) 0 rfl ?_
              refine J_iconst (v := 1) E (jd dk_X2_result_1 40 rfl) rfl ?_
              refine J_isub E (jd dk_X2_result_1 41 rfl) ?_
              obtain ⟨x38, e39, hf⟩ := jbind hf
              refine J_iald E (jd dk_X2_result_1 42 rfl) e39 ?_
              refine J_aload_n E (jd dk_X2_result_1 43 rfl) rfl 3 rfl ?_
              obtain ⟨x40, e41, hf⟩ := jbind hf
              refine J_getr E (jd dk_X2_result_1 44 rfl) fl_RX2_13 e41 ?_
              refine J_iload E (jd dk_X2_result_1 45 rfl) 0 rfl ?_
              obtain ⟨x42, e43, hf⟩ := jbind hf
              refine J_iald E (jd dk_X2_result_1 46 rfl) e43 ?_
              obtain ⟨r44, e45, hf⟩ := jbind hf
              refine J_callS E (jd dk_X2_result_1 47 rfl) ml_RX2_26 cal_X2_combine (lk_X2_combine (jE_g E) (jE_tr E) N e45) rfl (Nat.le_of_ble_eq_true rfl) (jR_le hX (by decide) (by decide)) (jF0 hX) rfl ?_
              rintro _ _ ⟨rfl, rfl⟩
              obtain ⟨h46, e47, hf⟩ := jbind hf
              refine J_iast E (jd dk_X2_result_1 48 rfl) e47 ?_
              refine J_sub [3, 4, 5, 0, 6] rfl ?_
              exact lk_X2_result_b178 E hX hr N hf kb ke0 ke1 ke2 ke3
            · replace hf := jif_f c33 hf
              refine J_sub [] rfl ?_
              exact ke2 _ (Option.some.inj hf).symm
          · replace hf := jif_t c32 hf
            refine J_iload E (jd dk_X2_result_1 3 rfl) 5 rfl ?_
            refine J_iconst (v := 1) E (jd dk_X2_result_1 4 rfl) rfl ?_
            refine J_icmp_ge (tgt := 108) E (jd dk_X2_result_1 5 rfl) (by decide) (fun c48 => ?_) (fun c48 => ?_)
            · replace hf := jif_t c48 hf
              refine J_aload_n E (jd dk_X2_result_1 8 rfl) rfl 2 rfl ?_
              obtain ⟨x49, e50, hf⟩ := jbind hf
              refine J_getr E (jd dk_X2_result_1 9 rfl) fl_RX2_13 e50 ?_
              refine J_iload E (jd dk_X2_result_1 10 rfl) 5 rfl ?_
              refine J_iconst (v := 1) E (jd dk_X2_result_1 11 rfl) rfl ?_
              refine J_isub E (jd dk_X2_result_1 12 rfl) ?_
              refine J_aload_n E (jd dk_X2_result_1 13 rfl) rfl 2 rfl ?_
              obtain ⟨x51, e52, hf⟩ := jbind hf
              refine J_getr E (jd dk_X2_result_1 14 rfl) fl_RX2_13 e52 ?_
              refine J_iload E (jd dk_X2_result_1 15 rfl) 5 rfl ?_
              refine J_iconst (v := 1) E (jd dk_X2_result_1 16 rfl) rfl ?_
              refine J_isub E (jd dk_X2_result_1 17 rfl) ?_
              obtain ⟨x53, e54, hf⟩ := jbind hf
              refine J_iald E (jd dk_X2_result_1 18 rfl) e54 ?_
              refine J_if_ne (tgt := 132) E (jd dk_X2_result_1 19 rfl) (by decide) (fun c55 => ?_) (fun c55 => ?_)
              · replace hf := jif_f c55 hf
                refine J_iconst (v := 0) E (jd dk_X2_result_1 22 rfl) rfl ?_
                refine J_sub [2, 3, 4, 5, 6] rfl ?_
                exact lk_X2_result_b133 E hX hr N hf kb ke0 ke1 ke2 ke3
              · replace hf := jif_t c55 hf
                refine J_iconst (v := 1) E (jd dk_X2_result_1 20 rfl) rfl ?_
                refine J_goto (tgt := 133) E (jd dk_X2_result_1 21 rfl) (by decide) ?_
                refine J_sub [2, 3, 4, 5, 6] rfl ?_
                exact lk_X2_result_b133 E hX hr N hf kb ke0 ke1 ke2 ke3
            · replace hf := jif_f c48 hf
              refine J_sub [] rfl ?_
              exact ke1 _ (Option.some.inj hf).symm
        · replace hf := jif_t c31 hf
          refine J_sub [2, 3, 4, 5, 6, 1, 0] rfl ?_
          exact lk_X2_result_b52 E hX hr N hf kb ke0 ke1 ke2 ke3
set_option maxRecDepth 100000 in
set_option maxHeartbeats 4000000 in
theorem lk_X2_result_b10 {G : JG} {X : JX} (E : jE G X (RX2, cX2_result, 8)) (hX : X.2.2.2.1 = jRm 1 0 0) (hr : X.2.2.2.2.2.2.2.2.1.sig.returnType = (some .int)) (N : Nat) {v0 : Nat} {v1 : Nat} {v3 : Int32} {v4 : Int32} {v5 : Int32} {h : AH}  {r : (Int32 × AH)} (hf : f_X2_result_b10 N v0 v1 v3 v4 v5 h = some r) : JW G X (RX2, cX2_result, 8) h [(0, .ref v0), (1, .ref v1), (3, .int v3), (4, .int v4), (5, .int v5)] [] 10 0 0 (jEnd G X (jpi r) 0 0) := by
  unfold f_X2_result_b10 at hf
  obtain ⟨q1, h1, hf⟩ := jbind hf
  refine jloop (P := fun s => JW G X (RX2, cX2_result, 8) s.2.2 [(0, .ref v0), (1, .ref v1), (3, .int v3), (4, .int s.1), (5, .int s.2.1)] [] 10 0 0 (jEnd G X (jpi r) 0 0)) (Ex := Sum.elim (fun (e : AH) => JW G X (RX2, cX2_result, 8) e [] [] 62 0 0 (jEnd G X (jpi r) 0 0)) (Sum.elim (fun (e : AH) => JW G X (RX2, cX2_result, 8) e [] [] 106 0 0 (jEnd G X (jpi r) 0 0)) (Sum.elim (fun (e : AH) => JW G X (RX2, cX2_result, 8) e [] [] 143 0 0 (jEnd G X (jpi r) 0 0)) (fun (e : Int32 × AH) => JW G X (RX2, cX2_result, 8) e.2 [(0, .ref v0), (4, .int e.1)] [] 184 0 0 (jEnd G X (jpi r) 0 0))))) (fun s q hs hb hx => lk_X2_result_l10 E hX hr N hs (fun s' hs => hb s' hs) (fun e he => hx _ he) (fun e he => hx _ he) (fun e he => hx _ he) (fun e he => hx _ he)) N _ q1 h1 ?_
  rcases q1 with e | e | e | e
  · refine J_iconst (v := 0) E (jd dk_X2_result_0 35 rfl) rfl ?_
    cases hf
    exact J_iret E hr rfl (jd dk_X2_result_0 36 rfl) (Nat.le_refl _) (Nat.le_refl _) ⟨rfl, rfl⟩
  · refine J_iconst (v := 0) E (jd dk_X2_result_1 6 rfl) rfl ?_
    cases hf
    exact J_iret E hr rfl (jd dk_X2_result_1 7 rfl) (Nat.le_refl _) (Nat.le_refl _) ⟨rfl, rfl⟩
  · refine J_iconst (v := 0) E (jd dk_X2_result_1 28 rfl) rfl ?_
    cases hf
    exact J_iret E hr rfl (jd dk_X2_result_1 29 rfl) (Nat.le_refl _) (Nat.le_refl _) ⟨rfl, rfl⟩
  · exact lk_X2_result_b184 E hX hr N hf
set_option maxRecDepth 100000 in
set_option maxHeartbeats 4000000 in
theorem lk_X2_result {G : JG} {l : Launch} (hG : jG G) (htr : l.stackTraces = false) (N : Nat) {h : AH} {a0 : Nat} {a1 : Nat} {a2 : Int32} {a3 : Int32} {r : (Int32 × AH)} (hf : f_X2_result N h a0 a1 a2 a3 = some r) : jMet G l yX2_result cX2_result 8 (some .int) 1 0 0 [.ref a0, .ref a1, .int a2, .int a3] h (jpi r) := by
  unfold f_X2_result at hf
  refine jMet_of hG htr (by decide) (Nat.le_of_ble_eq_true rfl) ?_
  intro X E hl9 hr hX _ _
  show JW G X (RX2, cX2_result, 8) h [(0, .ref a0), (1, .ref a1), (2, .int a2), (3, .int a3)] [] 0 0 0 (jEnd G X (jpi r) 0 0)
  refine J_iconst (v := 0) E (jd dk_X2_result_0 0 rfl) rfl ?_
  refine J_istore (lv' := [(4, .int 0), (0, .ref a0), (1, .ref a1), (2, .int a2), (3, .int a3)]) E (jd dk_X2_result_0 1 rfl) (by decide) rfl ?_
  refine J_iload_n E (jd dk_X2_result_0 2 rfl) rfl 3 rfl ?_
  refine J_iconst (v := 0) E (jd dk_X2_result_0 3 rfl) rfl ?_
  refine J_max E (jd dk_X2_result_0 4 rfl) ml_RX2_16 (Nat.le_of_ble_eq_true rfl) (by rw [hX]; exact ⟨Nat.zero_le _, Nat.zero_le _⟩) ?_
  refine J_istore (lv' := [(5, .int (jmx a2 0)), (4, .int 0), (0, .ref a0), (1, .ref a1), (2, .int a2), (3, .int a3)]) E (jd dk_X2_result_0 5 rfl) (by decide) rfl ?_
  refine J_sub [2, 3, 5, 1, 0] rfl ?_
  exact lk_X2_result_b10 E hX hr N hf
def f_X5_begin (N : Nat) (h : AH) (a0 : Nat) (a1 : Nat) : Option AH :=
  (jwi 5 h a0 0 0).bind fun h1 =>
  (jgr 5 h1 a0 1).bind fun x3 =>
  (f_J7_fill_53178 N h1 x3 ((-1))).bind fun r5 =>
  (jgr 5 r5 a0 3).bind fun x7 =>
  (f_J7_fill_53178 N r5 x7 0).bind fun r9 =>
  (jgr 5 r9 a0 5).bind fun x11 =>
  (f_J7_fill_53178 N r9 x11 0).bind fun r13 =>
  (jgr 1 r13 a1 5).bind fun x15 =>
  (jgr 5 r13 a0 2).bind fun x17 =>
  (jcp r13 x15 0 x17 0 8).bind fun h19 =>
  (jgr 1 h19 a1 6).bind fun x21 =>
  (jgr 5 h19 a0 4).bind fun x23 =>
  (jcp h19 x21 0 x23 0 8).bind fun h25 =>
  (jgr 1 h25 a1 3).bind fun x27 =>
  (jgr 5 h25 a0 6).bind fun x29 =>
  (jcp h25 x27 0 x29 0 9).bind fun h31 =>
  (jgr 1 h31 a1 4).bind fun x33 =>
  (jgr 5 h31 a0 7).bind fun x35 =>
  (jcp h31 x33 0 x35 0 9).bind fun h37 =>
  some h37
set_option maxRecDepth 100000 in
set_option maxHeartbeats 4000000 in
theorem lk_X5_begin {G : JG} {l : Launch} (hG : jG G) (htr : l.stackTraces = false) (N : Nat) {h : AH} {a0 : Nat} {a1 : Nat} {r : AH} (hf : f_X5_begin N h a0 a1 = some r) : jMet G l yX5_begin cX5_begin 2 none 1 0 0 [.ref a0, .ref a1] h (jpv r) := by
  unfold f_X5_begin at hf
  refine jMet_of hG htr (by decide) (Nat.le_of_ble_eq_true rfl) ?_
  intro X E hl9 hr hX _ _
  show JW G X (RX5, cX5_begin, 2) h [(0, .ref a0), (1, .ref a1)] [] 0 0 0 (jEnd G X (jpv r) 0 0)
  refine J_aload_n E (jd dk_X5_begin_0 0 rfl) rfl 0 rfl ?_
  refine J_iconst (v := 0) E (jd dk_X5_begin_0 1 rfl) rfl ?_
  obtain ⟨h1, e2, hf⟩ := jbind hf
  refine J_put E (jd dk_X5_begin_0 2 rfl) fl_RX5_9 e2 (fun _ => rfl) (fun _ => rfl) ?_
  refine J_aload_n E (jd dk_X5_begin_0 3 rfl) rfl 0 rfl ?_
  obtain ⟨x3, e4, hf⟩ := jbind hf
  refine J_getr E (jd dk_X5_begin_0 4 rfl) fl_RX5_15 e4 ?_
  refine J_iconst (v := (-1)) E (jd dk_X5_begin_0 5 rfl) rfl ?_
  obtain ⟨r5, e6, hf⟩ := jbind hf
  refine J_callS E (jd dk_X5_begin_0 6 rfl) ml_RX5_44 cal_J7_fill_53178 (lk_J7_fill_53178 (jE_g E) (jE_tr E) N e6) rfl (Nat.le_of_ble_eq_true rfl) (jR_le hX (by decide) (by decide)) (jF0 hX) rfl ?_
  rintro _ _ ⟨rfl, rfl⟩
  refine J_aload_n E (jd dk_X5_begin_0 7 rfl) rfl 0 rfl ?_
  obtain ⟨x7, e8, hf⟩ := jbind hf
  refine J_getr E (jd dk_X5_begin_0 8 rfl) fl_RX5_22 e8 ?_
  refine J_iconst (v := 0) E (jd dk_X5_begin_0 9 rfl) rfl ?_
  obtain ⟨r9, e10, hf⟩ := jbind hf
  refine J_callS E (jd dk_X5_begin_0 10 rfl) ml_RX5_44 cal_J7_fill_53178 (lk_J7_fill_53178 (jE_g E) (jE_tr E) N e10) rfl (Nat.le_of_ble_eq_true rfl) (jR_le hX (by decide) (by decide)) (jF0 hX) rfl ?_
  rintro _ _ ⟨rfl, rfl⟩
  refine J_aload_n E (jd dk_X5_begin_0 11 rfl) rfl 0 rfl ?_
  obtain ⟨x11, e12, hf⟩ := jbind hf
  refine J_getr E (jd dk_X5_begin_0 12 rfl) fl_RX5_28 e12 ?_
  refine J_iconst (v := 0) E (jd dk_X5_begin_0 13 rfl) rfl ?_
  obtain ⟨r13, e14, hf⟩ := jbind hf
  refine J_callS E (jd dk_X5_begin_0 14 rfl) ml_RX5_44 cal_J7_fill_53178 (lk_J7_fill_53178 (jE_g E) (jE_tr E) N e14) rfl (Nat.le_of_ble_eq_true rfl) (jR_le hX (by decide) (by decide)) (jF0 hX) rfl ?_
  rintro _ _ ⟨rfl, rfl⟩
  refine J_aload_n E (jd dk_X5_begin_0 15 rfl) rfl 1 rfl ?_
  obtain ⟨x15, e16, hf⟩ := jbind hf
  refine J_getr E (jd dk_X5_begin_0 16 rfl) fl_RX5_50 e16 ?_
  refine J_iconst (v := 0) E (jd dk_X5_begin_0 17 rfl) rfl ?_
  refine J_aload_n E (jd dk_X5_begin_0 18 rfl) rfl 0 rfl ?_
  obtain ⟨x17, e18, hf⟩ := jbind hf
  refine J_getr E (jd dk_X5_begin_0 19 rfl) fl_RX5_19 e18 ?_
  refine J_iconst (v := 0) E (jd dk_X5_begin_0 20 rfl) rfl ?_
  refine J_bipush (v := 8) E (jd dk_X5_begin_0 21 rfl) (by decide) ?_
  obtain ⟨h19, e20, hf⟩ := jbind hf
  refine J_copy E (jd dk_X5_begin_0 22 rfl) ml_RX5_55 cpw.1 cpw.2.1 cpw.2.2 (Nat.le_of_ble_eq_true rfl) e20 ?_
  refine J_aload_n E (jd dk_X5_begin_0 23 rfl) rfl 1 rfl ?_
  obtain ⟨x21, e22, hf⟩ := jbind hf
  refine J_getr E (jd dk_X5_begin_0 24 rfl) fl_RX5_61 e22 ?_
  refine J_iconst (v := 0) E (jd dk_X5_begin_0 25 rfl) rfl ?_
  refine J_aload_n E (jd dk_X5_begin_0 26 rfl) rfl 0 rfl ?_
  obtain ⟨x23, e24, hf⟩ := jbind hf
  refine J_getr E (jd dk_X5_begin_0 27 rfl) fl_RX5_25 e24 ?_
  refine J_iconst (v := 0) E (jd dk_X5_begin_0 28 rfl) rfl ?_
  refine J_bipush (v := 8) E (jd dk_X5_begin_0 29 rfl) (by decide) ?_
  obtain ⟨h25, e26, hf⟩ := jbind hf
  refine J_copy E (jd dk_X5_begin_0 30 rfl) ml_RX5_55 cpw.1 cpw.2.1 cpw.2.2 (Nat.le_of_ble_eq_true rfl) e26 ?_
  refine J_aload_n E (jd dk_X5_begin_0 31 rfl) rfl 1 rfl ?_
  obtain ⟨x27, e28, hf⟩ := jbind hf
  refine J_getr E (jd dk_X5_begin_0 32 rfl) fl_RX5_62 e28 ?_
  refine J_iconst (v := 0) E (jd dk_X5_begin_0 33 rfl) rfl ?_
  refine J_aload_n E (jd dk_X5_begin_0 34 rfl) rfl 0 rfl ?_
  obtain ⟨x29, e30, hf⟩ := jbind hf
  refine J_getr E (jd dk_X5_begin_0 35 rfl) fl_RX5_31 e30 ?_
  refine J_iconst (v := 0) E (jd dk_X5_begin_0 36 rfl) rfl ?_
  refine J_bipush (v := 9) E (jd dk_X5_begin_0 37 rfl) (by decide) ?_
  obtain ⟨h31, e32, hf⟩ := jbind hf
  refine J_copy E (jd dk_X5_begin_0 38 rfl) ml_RX5_55 cpw.1 cpw.2.1 cpw.2.2 (Nat.le_of_ble_eq_true rfl) e32 ?_
  refine J_aload_n E (jd dk_X5_begin_0 39 rfl) rfl 1 rfl ?_
  obtain ⟨x33, e34, hf⟩ := jbind hf
  refine J_getr E (jd dk_X5_begin_0 40 rfl) fl_RX5_63 e34 ?_
  refine J_iconst (v := 0) E (jd dk_X5_begin_0 41 rfl) rfl ?_
  refine J_aload_n E (jd dk_X5_begin_0 42 rfl) rfl 0 rfl ?_
  obtain ⟨x35, e36, hf⟩ := jbind hf
  refine J_getr E (jd dk_X5_begin_0 43 rfl) fl_RX5_34 e36 ?_
  refine J_iconst (v := 0) E (jd dk_X5_begin_0 44 rfl) rfl ?_
  refine J_bipush (v := 9) E (jd dk_X5_begin_0 45 rfl) (by decide) ?_
  obtain ⟨h37, e38, hf⟩ := jbind hf
  refine J_copy E (jd dk_X5_begin_0 46 rfl) ml_RX5_55 cpw.1 cpw.2.1 cpw.2.2 (Nat.le_of_ble_eq_true rfl) e38 ?_
  cases hf
  exact J_vret E hr (jd dk_X5_begin_0 47 rfl) (Nat.le_refl _) (Nat.le_refl _) ⟨rfl, rfl⟩
def f_X5_copyFrom (N : Nat) (h : AH) (a0 : Nat) (a1 : Nat) : Option AH :=
  (jgi 5 h a1 0).bind fun x1 =>
  (jwi 5 h a0 0 x1).bind fun h3 =>
  (jgr 5 h3 a1 1).bind fun x5 =>
  (jgr 5 h3 a0 1).bind fun x7 =>
  (jcp h3 x5 0 x7 0 8).bind fun h9 =>
  (jgr 5 h9 a1 2).bind fun x11 =>
  (jgr 5 h9 a0 2).bind fun x13 =>
  (jcp h9 x11 0 x13 0 8).bind fun h15 =>
  (jgr 5 h15 a1 3).bind fun x17 =>
  (jgr 5 h15 a0 3).bind fun x19 =>
  (jcp h15 x17 0 x19 0 8).bind fun h21 =>
  (jgr 5 h21 a1 4).bind fun x23 =>
  (jgr 5 h21 a0 4).bind fun x25 =>
  (jcp h21 x23 0 x25 0 8).bind fun h27 =>
  (jgr 5 h27 a1 6).bind fun x29 =>
  (jgr 5 h27 a0 6).bind fun x31 =>
  (jcp h27 x29 0 x31 0 9).bind fun h33 =>
  (jgr 5 h33 a1 7).bind fun x35 =>
  (jgr 5 h33 a0 7).bind fun x37 =>
  (jcp h33 x35 0 x37 0 9).bind fun h39 =>
  (jgr 5 h39 a0 5).bind fun x41 =>
  (f_J7_fill_53178 N h39 x41 0).bind fun r43 =>
  some r43
set_option maxRecDepth 100000 in
set_option maxHeartbeats 4000000 in
theorem lk_X5_copyFrom {G : JG} {l : Launch} (hG : jG G) (htr : l.stackTraces = false) (N : Nat) {h : AH} {a0 : Nat} {a1 : Nat} {r : AH} (hf : f_X5_copyFrom N h a0 a1 = some r) : jMet G l yX5_copyFrom cX5_copyFrom 2 none 1 0 0 [.ref a0, .ref a1] h (jpv r) := by
  unfold f_X5_copyFrom at hf
  refine jMet_of hG htr (by decide) (Nat.le_of_ble_eq_true rfl) ?_
  intro X E hl9 hr hX _ _
  show JW G X (RX5, cX5_copyFrom, 2) h [(0, .ref a0), (1, .ref a1)] [] 0 0 0 (jEnd G X (jpv r) 0 0)
  refine J_aload_n E (jd dk_X5_copyFrom_0 0 rfl) rfl 0 rfl ?_
  refine J_aload_n E (jd dk_X5_copyFrom_0 1 rfl) rfl 1 rfl ?_
  obtain ⟨x1, e2, hf⟩ := jbind hf
  refine J_geti E (jd dk_X5_copyFrom_0 2 rfl) fl_RX5_9 e2 ?_
  obtain ⟨h3, e4, hf⟩ := jbind hf
  refine J_put E (jd dk_X5_copyFrom_0 3 rfl) fl_RX5_9 e4 (fun _ => rfl) (fun _ => rfl) ?_
  refine J_aload_n E (jd dk_X5_copyFrom_0 4 rfl) rfl 1 rfl ?_
  obtain ⟨x5, e6, hf⟩ := jbind hf
  refine J_getr E (jd dk_X5_copyFrom_0 5 rfl) fl_RX5_15 e6 ?_
  refine J_iconst (v := 0) E (jd dk_X5_copyFrom_0 6 rfl) rfl ?_
  refine J_aload_n E (jd dk_X5_copyFrom_0 7 rfl) rfl 0 rfl ?_
  obtain ⟨x7, e8, hf⟩ := jbind hf
  refine J_getr E (jd dk_X5_copyFrom_0 8 rfl) fl_RX5_15 e8 ?_
  refine J_iconst (v := 0) E (jd dk_X5_copyFrom_0 9 rfl) rfl ?_
  refine J_bipush (v := 8) E (jd dk_X5_copyFrom_0 10 rfl) (by decide) ?_
  obtain ⟨h9, e10, hf⟩ := jbind hf
  refine J_copy E (jd dk_X5_copyFrom_0 11 rfl) ml_RX5_55 cpw.1 cpw.2.1 cpw.2.2 (Nat.le_of_ble_eq_true rfl) e10 ?_
  refine J_aload_n E (jd dk_X5_copyFrom_0 12 rfl) rfl 1 rfl ?_
  obtain ⟨x11, e12, hf⟩ := jbind hf
  refine J_getr E (jd dk_X5_copyFrom_0 13 rfl) fl_RX5_19 e12 ?_
  refine J_iconst (v := 0) E (jd dk_X5_copyFrom_0 14 rfl) rfl ?_
  refine J_aload_n E (jd dk_X5_copyFrom_0 15 rfl) rfl 0 rfl ?_
  obtain ⟨x13, e14, hf⟩ := jbind hf
  refine J_getr E (jd dk_X5_copyFrom_0 16 rfl) fl_RX5_19 e14 ?_
  refine J_iconst (v := 0) E (jd dk_X5_copyFrom_0 17 rfl) rfl ?_
  refine J_bipush (v := 8) E (jd dk_X5_copyFrom_0 18 rfl) (by decide) ?_
  obtain ⟨h15, e16, hf⟩ := jbind hf
  refine J_copy E (jd dk_X5_copyFrom_0 19 rfl) ml_RX5_55 cpw.1 cpw.2.1 cpw.2.2 (Nat.le_of_ble_eq_true rfl) e16 ?_
  refine J_aload_n E (jd dk_X5_copyFrom_0 20 rfl) rfl 1 rfl ?_
  obtain ⟨x17, e18, hf⟩ := jbind hf
  refine J_getr E (jd dk_X5_copyFrom_0 21 rfl) fl_RX5_22 e18 ?_
  refine J_iconst (v := 0) E (jd dk_X5_copyFrom_0 22 rfl) rfl ?_
  refine J_aload_n E (jd dk_X5_copyFrom_0 23 rfl) rfl 0 rfl ?_
  obtain ⟨x19, e20, hf⟩ := jbind hf
  refine J_getr E (jd dk_X5_copyFrom_0 24 rfl) fl_RX5_22 e20 ?_
  refine J_iconst (v := 0) E (jd dk_X5_copyFrom_0 25 rfl) rfl ?_
  refine J_bipush (v := 8) E (jd dk_X5_copyFrom_0 26 rfl) (by decide) ?_
  obtain ⟨h21, e22, hf⟩ := jbind hf
  refine J_copy E (jd dk_X5_copyFrom_0 27 rfl) ml_RX5_55 cpw.1 cpw.2.1 cpw.2.2 (Nat.le_of_ble_eq_true rfl) e22 ?_
  refine J_aload_n E (jd dk_X5_copyFrom_0 28 rfl) rfl 1 rfl ?_
  obtain ⟨x23, e24, hf⟩ := jbind hf
  refine J_getr E (jd dk_X5_copyFrom_0 29 rfl) fl_RX5_25 e24 ?_
  refine J_iconst (v := 0) E (jd dk_X5_copyFrom_0 30 rfl) rfl ?_
  refine J_aload_n E (jd dk_X5_copyFrom_0 31 rfl) rfl 0 rfl ?_
  obtain ⟨x25, e26, hf⟩ := jbind hf
  refine J_getr E (jd dk_X5_copyFrom_0 32 rfl) fl_RX5_25 e26 ?_
  refine J_iconst (v := 0) E (jd dk_X5_copyFrom_0 33 rfl) rfl ?_
  refine J_bipush (v := 8) E (jd dk_X5_copyFrom_0 34 rfl) (by decide) ?_
  obtain ⟨h27, e28, hf⟩ := jbind hf
  refine J_copy E (jd dk_X5_copyFrom_0 35 rfl) ml_RX5_55 cpw.1 cpw.2.1 cpw.2.2 (Nat.le_of_ble_eq_true rfl) e28 ?_
  refine J_aload_n E (jd dk_X5_copyFrom_0 36 rfl) rfl 1 rfl ?_
  obtain ⟨x29, e30, hf⟩ := jbind hf
  refine J_getr E (jd dk_X5_copyFrom_0 37 rfl) fl_RX5_31 e30 ?_
  refine J_iconst (v := 0) E (jd dk_X5_copyFrom_0 38 rfl) rfl ?_
  refine J_aload_n E (jd dk_X5_copyFrom_0 39 rfl) rfl 0 rfl ?_
  obtain ⟨x31, e32, hf⟩ := jbind hf
  refine J_getr E (jd dk_X5_copyFrom_0 40 rfl) fl_RX5_31 e32 ?_
  refine J_iconst (v := 0) E (jd dk_X5_copyFrom_0 41 rfl) rfl ?_
  refine J_bipush (v := 9) E (jd dk_X5_copyFrom_0 42 rfl) (by decide) ?_
  obtain ⟨h33, e34, hf⟩ := jbind hf
  refine J_copy E (jd dk_X5_copyFrom_0 43 rfl) ml_RX5_55 cpw.1 cpw.2.1 cpw.2.2 (Nat.le_of_ble_eq_true rfl) e34 ?_
  refine J_aload_n E (jd dk_X5_copyFrom_0 44 rfl) rfl 1 rfl ?_
  obtain ⟨x35, e36, hf⟩ := jbind hf
  refine J_getr E (jd dk_X5_copyFrom_0 45 rfl) fl_RX5_34 e36 ?_
  refine J_iconst (v := 0) E (jd dk_X5_copyFrom_0 46 rfl) rfl ?_
  refine J_aload_n E (jd dk_X5_copyFrom_0 47 rfl) rfl 0 rfl ?_
  obtain ⟨x37, e38, hf⟩ := jbind hf
  refine J_getr E (jd dk_X5_copyFrom_0 48 rfl) fl_RX5_34 e38 ?_
  refine J_iconst (v := 0) E (jd dk_X5_copyFrom_0 49 rfl) rfl ?_
  refine J_bipush (v := 9) E (jd dk_X5_copyFrom_1 0 rfl) (by decide) ?_
  obtain ⟨h39, e40, hf⟩ := jbind hf
  refine J_copy E (jd dk_X5_copyFrom_1 1 rfl) ml_RX5_55 cpw.1 cpw.2.1 cpw.2.2 (Nat.le_of_ble_eq_true rfl) e40 ?_
  refine J_aload_n E (jd dk_X5_copyFrom_1 2 rfl) rfl 0 rfl ?_
  obtain ⟨x41, e42, hf⟩ := jbind hf
  refine J_getr E (jd dk_X5_copyFrom_1 3 rfl) fl_RX5_28 e42 ?_
  refine J_iconst (v := 0) E (jd dk_X5_copyFrom_1 4 rfl) rfl ?_
  obtain ⟨r43, e44, hf⟩ := jbind hf
  refine J_callS E (jd dk_X5_copyFrom_1 5 rfl) ml_RX5_44 cal_J7_fill_53178 (lk_J7_fill_53178 (jE_g E) (jE_tr E) N e44) rfl (Nat.le_of_ble_eq_true rfl) (jR_le hX (by decide) (by decide)) (jF0 hX) rfl ?_
  rintro _ _ ⟨rfl, rfl⟩
  cases hf
  exact J_vret E hr (jd dk_X5_copyFrom_1 6 rfl) (Nat.le_refl _) (Nat.le_refl _) ⟨rfl, rfl⟩
def f_X5_writeTo (N : Nat) (h : AH) (a0 : Nat) (a1 : Nat) (a2 : Int32) : Option AH :=
  if (a2 * 43) < 0 then some h
  else (jln 0 h a1).bind fun x2 =>
  if ((a2 * 43) + 43) ≤ x2 then (jgr 5 h a0 1).bind fun x5 =>
  (jcp h x5 0 a1 (a2 * 43) 8).bind fun h7 =>
  (jgr 5 h7 a0 2).bind fun x9 =>
  (jcp h7 x9 0 a1 ((a2 * 43) + 8) 8).bind fun h11 =>
  (jgr 5 h11 a0 3).bind fun x13 =>
  (jcp h11 x13 0 a1 ((a2 * 43) + 16) 8).bind fun h15 =>
  (jgr 5 h15 a0 6).bind fun x17 =>
  (jcp h15 x17 0 a1 ((a2 * 43) + 24) 9).bind fun h19 =>
  (jgr 5 h19 a0 7).bind fun x21 =>
  (jcp h19 x21 0 a1 (((a2 * 43) + 24) + 9) 9).bind fun h23 =>
  (jgi 5 h23 a0 0).bind fun x25 =>
  (jas 0 h23 a1 (((a2 * 43) + 43) - 1) x25).bind fun h27 =>
  some h27
  else some h
set_option maxRecDepth 100000 in
set_option maxHeartbeats 4000000 in
theorem lk_X5_writeTo {G : JG} {l : Launch} (hG : jG G) (htr : l.stackTraces = false) (N : Nat) {h : AH} {a0 : Nat} {a1 : Nat} {a2 : Int32} {r : AH} (hf : f_X5_writeTo N h a0 a1 a2 = some r) : jMet G l yX5_writeTo cX5_writeTo 5 none 1 0 0 [.ref a0, .ref a1, .int a2] h (jpv r) := by
  unfold f_X5_writeTo at hf
  refine jMet_of hG htr (by decide) (Nat.le_of_ble_eq_true rfl) ?_
  intro X E hl9 hr hX _ _
  show JW G X (RX5, cX5_writeTo, 5) h [(0, .ref a0), (1, .ref a1), (2, .int a2)] [] 0 0 0 (jEnd G X (jpv r) 0 0)
  refine J_iload_n E (jd dk_X5_writeTo_0 0 rfl) rfl 2 rfl ?_
  refine J_bipush (v := 43) E (jd dk_X5_writeTo_0 1 rfl) (by decide) ?_
  refine J_imul E (jd dk_X5_writeTo_0 2 rfl) ?_
  refine J_istore_n (lv' := [(3, .int (a2 * 43)), (0, .ref a0), (1, .ref a1), (2, .int a2)]) E (jd dk_X5_writeTo_0 3 rfl) rfl (by decide) rfl ?_
  refine J_iload_n E (jd dk_X5_writeTo_0 4 rfl) rfl 0 rfl ?_
  refine J_if_lt (tgt := 18) E (jd dk_X5_writeTo_0 5 rfl) (by decide) (fun c1 => ?_) (fun c1 => ?_)
  · replace hf := jif_t c1 hf
    cases hf
    exact J_vret E hr (jd dk_X5_writeTo_0 12 rfl) (Nat.le_refl _) (Nat.le_refl _) ⟨rfl, rfl⟩
  · replace hf := jif_f c1 hf
    refine J_iload_n E (jd dk_X5_writeTo_0 6 rfl) rfl 0 rfl ?_
    refine J_bipush (v := 43) E (jd dk_X5_writeTo_0 7 rfl) (by decide) ?_
    refine J_iadd E (jd dk_X5_writeTo_0 8 rfl) ?_
    refine J_aload_n E (jd dk_X5_writeTo_0 9 rfl) rfl 2 rfl ?_
    obtain ⟨x2, e3, hf⟩ := jbind hf
    refine J_alen E (by decide) (jd dk_X5_writeTo_0 10 rfl) e3 ?_
    refine J_icmp_le (tgt := 19) E (jd dk_X5_writeTo_0 11 rfl) (by decide) (fun c4 => ?_) (fun c4 => ?_)
    · replace hf := jif_t c4 hf
      refine J_aload_n E (jd dk_X5_writeTo_0 13 rfl) rfl 1 rfl ?_
      obtain ⟨x5, e6, hf⟩ := jbind hf
      refine J_getr E (jd dk_X5_writeTo_0 14 rfl) fl_RX5_15 e6 ?_
      refine J_iconst (v := 0) E (jd dk_X5_writeTo_0 15 rfl) rfl ?_
      refine J_aload_n E (jd dk_X5_writeTo_0 16 rfl) rfl 2 rfl ?_
      refine J_iload_n E (jd dk_X5_writeTo_0 17 rfl) rfl 0 rfl ?_
      refine J_bipush (v := 8) E (jd dk_X5_writeTo_0 18 rfl) (by decide) ?_
      obtain ⟨h7, e8, hf⟩ := jbind hf
      refine J_copy E (jd dk_X5_writeTo_0 19 rfl) ml_RX5_55 cpw.1 cpw.2.1 cpw.2.2 (Nat.le_of_ble_eq_true rfl) e8 ?_
      refine J_aload_n E (jd dk_X5_writeTo_0 20 rfl) rfl 1 rfl ?_
      obtain ⟨x9, e10, hf⟩ := jbind hf
      refine J_getr E (jd dk_X5_writeTo_0 21 rfl) fl_RX5_19 e10 ?_
      refine J_iconst (v := 0) E (jd dk_X5_writeTo_0 22 rfl) rfl ?_
      refine J_aload_n E (jd dk_X5_writeTo_0 23 rfl) rfl 2 rfl ?_
      refine J_iload_n E (jd dk_X5_writeTo_0 24 rfl) rfl 0 rfl ?_
      refine J_bipush (v := 8) E (jd dk_X5_writeTo_0 25 rfl) (by decide) ?_
      refine J_iadd E (jd dk_X5_writeTo_0 26 rfl) ?_
      refine J_bipush (v := 8) E (jd dk_X5_writeTo_0 27 rfl) (by decide) ?_
      obtain ⟨h11, e12, hf⟩ := jbind hf
      refine J_copy E (jd dk_X5_writeTo_0 28 rfl) ml_RX5_55 cpw.1 cpw.2.1 cpw.2.2 (Nat.le_of_ble_eq_true rfl) e12 ?_
      refine J_aload_n E (jd dk_X5_writeTo_0 29 rfl) rfl 1 rfl ?_
      obtain ⟨x13, e14, hf⟩ := jbind hf
      refine J_getr E (jd dk_X5_writeTo_0 30 rfl) fl_RX5_22 e14 ?_
      refine J_iconst (v := 0) E (jd dk_X5_writeTo_0 31 rfl) rfl ?_
      refine J_aload_n E (jd dk_X5_writeTo_0 32 rfl) rfl 2 rfl ?_
      refine J_iload_n E (jd dk_X5_writeTo_0 33 rfl) rfl 0 rfl ?_
      refine J_bipush (v := 16) E (jd dk_X5_writeTo_0 34 rfl) (by decide) ?_
      refine J_iadd E (jd dk_X5_writeTo_0 35 rfl) ?_
      refine J_bipush (v := 8) E (jd dk_X5_writeTo_0 36 rfl) (by decide) ?_
      obtain ⟨h15, e16, hf⟩ := jbind hf
      refine J_copy E (jd dk_X5_writeTo_0 37 rfl) ml_RX5_55 cpw.1 cpw.2.1 cpw.2.2 (Nat.le_of_ble_eq_true rfl) e16 ?_
      refine J_iload_n E (jd dk_X5_writeTo_0 38 rfl) rfl 0 rfl ?_
      refine J_bipush (v := 24) E (jd dk_X5_writeTo_0 39 rfl) (by decide) ?_
      refine J_iadd E (jd dk_X5_writeTo_0 40 rfl) ?_
      refine J_istore (lv' := [(4, .int ((a2 * 43) + 24)), (3, .int (a2 * 43)), (0, .ref a0), (1, .ref a1), (2, .int a2)]) E (jd dk_X5_writeTo_0 41 rfl) (by decide) rfl ?_
      refine J_aload_n E (jd dk_X5_writeTo_0 42 rfl) rfl 2 rfl ?_
      obtain ⟨x17, e18, hf⟩ := jbind hf
      refine J_getr E (jd dk_X5_writeTo_0 43 rfl) fl_RX5_31 e18 ?_
      refine J_iconst (v := 0) E (jd dk_X5_writeTo_0 44 rfl) rfl ?_
      refine J_aload_n E (jd dk_X5_writeTo_0 45 rfl) rfl 3 rfl ?_
      refine J_iload E (jd dk_X5_writeTo_0 46 rfl) 0 rfl ?_
      refine J_bipush (v := 9) E (jd dk_X5_writeTo_0 47 rfl) (by decide) ?_
      obtain ⟨h19, e20, hf⟩ := jbind hf
      refine J_copy E (jd dk_X5_writeTo_0 48 rfl) ml_RX5_55 cpw.1 cpw.2.1 cpw.2.2 (Nat.le_of_ble_eq_true rfl) e20 ?_
      refine J_aload_n E (jd dk_X5_writeTo_0 49 rfl) rfl 2 rfl ?_
      obtain ⟨x21, e22, hf⟩ := jbind hf
      refine J_getr E (jd dk_X5_writeTo_1 0 rfl) fl_RX5_34 e22 ?_
      refine J_iconst (v := 0) E (jd dk_X5_writeTo_1 1 rfl) rfl ?_
      refine J_aload_n E (jd dk_X5_writeTo_1 2 rfl) rfl 3 rfl ?_
      refine J_iload E (jd dk_X5_writeTo_1 3 rfl) 0 rfl ?_
      refine J_bipush (v := 9) E (jd dk_X5_writeTo_1 4 rfl) (by decide) ?_
      refine J_iadd E (jd dk_X5_writeTo_1 5 rfl) ?_
      refine J_bipush (v := 9) E (jd dk_X5_writeTo_1 6 rfl) (by decide) ?_
      obtain ⟨h23, e24, hf⟩ := jbind hf
      refine J_copy E (jd dk_X5_writeTo_1 7 rfl) ml_RX5_55 cpw.1 cpw.2.1 cpw.2.2 (Nat.le_of_ble_eq_true rfl) e24 ?_
      refine J_aload_n E (jd dk_X5_writeTo_1 8 rfl) rfl 3 rfl ?_
      refine J_iload_n E (jd dk_X5_writeTo_1 9 rfl) rfl 1 rfl ?_
      refine J_bipush (v := 43) E (jd dk_X5_writeTo_1 10 rfl) (by decide) ?_
      refine J_iadd E (jd dk_X5_writeTo_1 11 rfl) ?_
      refine J_iconst (v := 1) E (jd dk_X5_writeTo_1 12 rfl) rfl ?_
      refine J_isub E (jd dk_X5_writeTo_1 13 rfl) ?_
      refine J_aload_n E (jd dk_X5_writeTo_1 14 rfl) rfl 2 rfl ?_
      obtain ⟨x25, e26, hf⟩ := jbind hf
      refine J_geti E (jd dk_X5_writeTo_1 15 rfl) fl_RX5_9 e26 ?_
      obtain ⟨h27, e28, hf⟩ := jbind hf
      refine J_iast E (jd dk_X5_writeTo_1 16 rfl) e28 ?_
      cases hf
      exact J_vret E hr (jd dk_X5_writeTo_1 17 rfl) (Nat.le_refl _) (Nat.le_refl _) ⟨rfl, rfl⟩
    · replace hf := jif_f c4 hf
      cases hf
      exact J_vret E hr (jd dk_X5_writeTo_0 12 rfl) (Nat.le_refl _) (Nat.le_refl _) ⟨rfl, rfl⟩
def f_X5_readFrom (N : Nat) (h : AH) (a0 : Nat) (a1 : Nat) (a2 : Int32) : Option AH :=
  if (a2 * 43) < 0 then some h
  else (jln 0 h a1).bind fun x2 =>
  if ((a2 * 43) + 43) ≤ x2 then (jgr 5 h a0 1).bind fun x5 =>
  (jcp h a1 (a2 * 43) x5 0 8).bind fun h7 =>
  (jgr 5 h7 a0 2).bind fun x9 =>
  (jcp h7 a1 ((a2 * 43) + 8) x9 0 8).bind fun h11 =>
  (jgr 5 h11 a0 3).bind fun x13 =>
  (jcp h11 a1 ((a2 * 43) + 16) x13 0 8).bind fun h15 =>
  (jgr 5 h15 a0 6).bind fun x17 =>
  (jcp h15 a1 ((a2 * 43) + 24) x17 0 9).bind fun h19 =>
  (jgr 5 h19 a0 7).bind fun x21 =>
  (jcp h19 a1 (((a2 * 43) + 24) + 9) x21 0 9).bind fun h23 =>
  (jal 0 h23 a1 (((a2 * 43) + 43) - 1)).bind fun x25 =>
  (jwi 5 h23 a0 0 x25).bind fun h27 =>
  some h27
  else some h
set_option maxRecDepth 100000 in
set_option maxHeartbeats 4000000 in
theorem lk_X5_readFrom {G : JG} {l : Launch} (hG : jG G) (htr : l.stackTraces = false) (N : Nat) {h : AH} {a0 : Nat} {a1 : Nat} {a2 : Int32} {r : AH} (hf : f_X5_readFrom N h a0 a1 a2 = some r) : jMet G l yX5_readFrom cX5_readFrom 5 none 1 0 0 [.ref a0, .ref a1, .int a2] h (jpv r) := by
  unfold f_X5_readFrom at hf
  refine jMet_of hG htr (by decide) (Nat.le_of_ble_eq_true rfl) ?_
  intro X E hl9 hr hX _ _
  show JW G X (RX5, cX5_readFrom, 5) h [(0, .ref a0), (1, .ref a1), (2, .int a2)] [] 0 0 0 (jEnd G X (jpv r) 0 0)
  refine J_iload_n E (jd dk_X5_readFrom_0 0 rfl) rfl 2 rfl ?_
  refine J_bipush (v := 43) E (jd dk_X5_readFrom_0 1 rfl) (by decide) ?_
  refine J_imul E (jd dk_X5_readFrom_0 2 rfl) ?_
  refine J_istore_n (lv' := [(3, .int (a2 * 43)), (0, .ref a0), (1, .ref a1), (2, .int a2)]) E (jd dk_X5_readFrom_0 3 rfl) rfl (by decide) rfl ?_
  refine J_iload_n E (jd dk_X5_readFrom_0 4 rfl) rfl 0 rfl ?_
  refine J_if_lt (tgt := 18) E (jd dk_X5_readFrom_0 5 rfl) (by decide) (fun c1 => ?_) (fun c1 => ?_)
  · replace hf := jif_t c1 hf
    cases hf
    exact J_vret E hr (jd dk_X5_readFrom_0 12 rfl) (Nat.le_refl _) (Nat.le_refl _) ⟨rfl, rfl⟩
  · replace hf := jif_f c1 hf
    refine J_iload_n E (jd dk_X5_readFrom_0 6 rfl) rfl 0 rfl ?_
    refine J_bipush (v := 43) E (jd dk_X5_readFrom_0 7 rfl) (by decide) ?_
    refine J_iadd E (jd dk_X5_readFrom_0 8 rfl) ?_
    refine J_aload_n E (jd dk_X5_readFrom_0 9 rfl) rfl 2 rfl ?_
    obtain ⟨x2, e3, hf⟩ := jbind hf
    refine J_alen E (by decide) (jd dk_X5_readFrom_0 10 rfl) e3 ?_
    refine J_icmp_le (tgt := 19) E (jd dk_X5_readFrom_0 11 rfl) (by decide) (fun c4 => ?_) (fun c4 => ?_)
    · replace hf := jif_t c4 hf
      refine J_aload_n E (jd dk_X5_readFrom_0 13 rfl) rfl 2 rfl ?_
      refine J_iload_n E (jd dk_X5_readFrom_0 14 rfl) rfl 0 rfl ?_
      refine J_aload_n E (jd dk_X5_readFrom_0 15 rfl) rfl 1 rfl ?_
      obtain ⟨x5, e6, hf⟩ := jbind hf
      refine J_getr E (jd dk_X5_readFrom_0 16 rfl) fl_RX5_15 e6 ?_
      refine J_iconst (v := 0) E (jd dk_X5_readFrom_0 17 rfl) rfl ?_
      refine J_bipush (v := 8) E (jd dk_X5_readFrom_0 18 rfl) (by decide) ?_
      obtain ⟨h7, e8, hf⟩ := jbind hf
      refine J_copy E (jd dk_X5_readFrom_0 19 rfl) ml_RX5_55 cpw.1 cpw.2.1 cpw.2.2 (Nat.le_of_ble_eq_true rfl) e8 ?_
      refine J_aload_n E (jd dk_X5_readFrom_0 20 rfl) rfl 2 rfl ?_
      refine J_iload_n E (jd dk_X5_readFrom_0 21 rfl) rfl 0 rfl ?_
      refine J_bipush (v := 8) E (jd dk_X5_readFrom_0 22 rfl) (by decide) ?_
      refine J_iadd E (jd dk_X5_readFrom_0 23 rfl) ?_
      refine J_aload_n E (jd dk_X5_readFrom_0 24 rfl) rfl 1 rfl ?_
      obtain ⟨x9, e10, hf⟩ := jbind hf
      refine J_getr E (jd dk_X5_readFrom_0 25 rfl) fl_RX5_19 e10 ?_
      refine J_iconst (v := 0) E (jd dk_X5_readFrom_0 26 rfl) rfl ?_
      refine J_bipush (v := 8) E (jd dk_X5_readFrom_0 27 rfl) (by decide) ?_
      obtain ⟨h11, e12, hf⟩ := jbind hf
      refine J_copy E (jd dk_X5_readFrom_0 28 rfl) ml_RX5_55 cpw.1 cpw.2.1 cpw.2.2 (Nat.le_of_ble_eq_true rfl) e12 ?_
      refine J_aload_n E (jd dk_X5_readFrom_0 29 rfl) rfl 2 rfl ?_
      refine J_iload_n E (jd dk_X5_readFrom_0 30 rfl) rfl 0 rfl ?_
      refine J_bipush (v := 16) E (jd dk_X5_readFrom_0 31 rfl) (by decide) ?_
      refine J_iadd E (jd dk_X5_readFrom_0 32 rfl) ?_
      refine J_aload_n E (jd dk_X5_readFrom_0 33 rfl) rfl 1 rfl ?_
      obtain ⟨x13, e14, hf⟩ := jbind hf
      refine J_getr E (jd dk_X5_readFrom_0 34 rfl) fl_RX5_22 e14 ?_
      refine J_iconst (v := 0) E (jd dk_X5_readFrom_0 35 rfl) rfl ?_
      refine J_bipush (v := 8) E (jd dk_X5_readFrom_0 36 rfl) (by decide) ?_
      obtain ⟨h15, e16, hf⟩ := jbind hf
      refine J_copy E (jd dk_X5_readFrom_0 37 rfl) ml_RX5_55 cpw.1 cpw.2.1 cpw.2.2 (Nat.le_of_ble_eq_true rfl) e16 ?_
      refine J_iload_n E (jd dk_X5_readFrom_0 38 rfl) rfl 0 rfl ?_
      refine J_bipush (v := 24) E (jd dk_X5_readFrom_0 39 rfl) (by decide) ?_
      refine J_iadd E (jd dk_X5_readFrom_0 40 rfl) ?_
      refine J_istore (lv' := [(4, .int ((a2 * 43) + 24)), (3, .int (a2 * 43)), (0, .ref a0), (1, .ref a1), (2, .int a2)]) E (jd dk_X5_readFrom_0 41 rfl) (by decide) rfl ?_
      refine J_aload_n E (jd dk_X5_readFrom_0 42 rfl) rfl 3 rfl ?_
      refine J_iload E (jd dk_X5_readFrom_0 43 rfl) 0 rfl ?_
      refine J_aload_n E (jd dk_X5_readFrom_0 44 rfl) rfl 2 rfl ?_
      obtain ⟨x17, e18, hf⟩ := jbind hf
      refine J_getr E (jd dk_X5_readFrom_0 45 rfl) fl_RX5_31 e18 ?_
      refine J_iconst (v := 0) E (jd dk_X5_readFrom_0 46 rfl) rfl ?_
      refine J_bipush (v := 9) E (jd dk_X5_readFrom_0 47 rfl) (by decide) ?_
      obtain ⟨h19, e20, hf⟩ := jbind hf
      refine J_copy E (jd dk_X5_readFrom_0 48 rfl) ml_RX5_55 cpw.1 cpw.2.1 cpw.2.2 (Nat.le_of_ble_eq_true rfl) e20 ?_
      refine J_aload_n E (jd dk_X5_readFrom_0 49 rfl) rfl 3 rfl ?_
      refine J_iload E (jd dk_X5_readFrom_1 0 rfl) 0 rfl ?_
      refine J_bipush (v := 9) E (jd dk_X5_readFrom_1 1 rfl) (by decide) ?_
      refine J_iadd E (jd dk_X5_readFrom_1 2 rfl) ?_
      refine J_aload_n E (jd dk_X5_readFrom_1 3 rfl) rfl 2 rfl ?_
      obtain ⟨x21, e22, hf⟩ := jbind hf
      refine J_getr E (jd dk_X5_readFrom_1 4 rfl) fl_RX5_34 e22 ?_
      refine J_iconst (v := 0) E (jd dk_X5_readFrom_1 5 rfl) rfl ?_
      refine J_bipush (v := 9) E (jd dk_X5_readFrom_1 6 rfl) (by decide) ?_
      obtain ⟨h23, e24, hf⟩ := jbind hf
      refine J_copy E (jd dk_X5_readFrom_1 7 rfl) ml_RX5_55 cpw.1 cpw.2.1 cpw.2.2 (Nat.le_of_ble_eq_true rfl) e24 ?_
      refine J_aload_n E (jd dk_X5_readFrom_1 8 rfl) rfl 2 rfl ?_
      refine J_aload_n E (jd dk_X5_readFrom_1 9 rfl) rfl 3 rfl ?_
      refine J_iload_n E (jd dk_X5_readFrom_1 10 rfl) rfl 1 rfl ?_
      refine J_bipush (v := 43) E (jd dk_X5_readFrom_1 11 rfl) (by decide) ?_
      refine J_iadd E (jd dk_X5_readFrom_1 12 rfl) ?_
      refine J_iconst (v := 1) E (jd dk_X5_readFrom_1 13 rfl) rfl ?_
      refine J_isub E (jd dk_X5_readFrom_1 14 rfl) ?_
      obtain ⟨x25, e26, hf⟩ := jbind hf
      refine J_iald E (jd dk_X5_readFrom_1 15 rfl) e26 ?_
      obtain ⟨h27, e28, hf⟩ := jbind hf
      refine J_put E (jd dk_X5_readFrom_1 16 rfl) fl_RX5_9 e28 (fun _ => rfl) (fun _ => rfl) ?_
      cases hf
      exact J_vret E hr (jd dk_X5_readFrom_1 17 rfl) (Nat.le_refl _) (Nat.le_refl _) ⟨rfl, rfl⟩
    · replace hf := jif_f c4 hf
      cases hf
      exact J_vret E hr (jd dk_X5_readFrom_0 12 rfl) (Nat.le_refl _) (Nat.le_refl _) ⟨rfl, rfl⟩
def f_X5_onesOn_b32 (N : Nat) (v0 : Nat) (v1 : Nat) (v2 : Int32) (v3 : Int32) (v4 : Int32) (h : AH) : Option ((Int32 × Int32 × AH) ⊕ ((Int32 × AH))) :=
  some (.inl ((v3, v4 + 1, h)))
def f_X5_onesOn_l5 (N : Nat) (v0 : Nat) (v1 : Nat) (v2 : Int32) (v3 : Int32) (v4 : Int32) (h : AH) : Option ((Int32 × Int32 × AH) ⊕ ((Int32 × AH))) :=
  (jgi 1 h v1 2).bind fun x1 =>
  if x1 ≤ v4 then some (.inr ((v3, h)))
  else (jgr 5 h v0 1).bind fun x4 =>
  (jal 0 h x4 v4).bind fun x6 =>
  if x6 = v2 then f_X5_onesOn_b32 N v0 v1 v2 (v3 ||| ((1 : Int32) <<< (v4 &&& 31))) v4 h
  else f_X5_onesOn_b32 N v0 v1 v2 v3 v4 h
def f_X5_onesOn_b5 (N : Nat) (v0 : Nat) (v1 : Nat) (v2 : Int32) (v3 : Int32) (v4 : Int32) (h : AH) : Option (Int32 × AH) :=
  (itr (fun s => f_X5_onesOn_l5 N v0 v1 v2 s.1 s.2.1 s.2.2) N (v3, v4, h)).bind (fun e => some (e.1, e.2))
def f_X5_onesOn (N : Nat) (h : AH) (a0 : Nat) (a1 : Nat) (a2 : Int32) : Option (Int32 × AH) :=
  f_X5_onesOn_b5 N a0 a1 a2 0 0 h
set_option maxRecDepth 100000 in
set_option maxHeartbeats 4000000 in
theorem lk_X5_onesOn_b32 {G : JG} {X : JX} (E : jE G X (RX5, cX5_onesOn, 5)) (hX : X.2.2.2.1 = jRm 0 0 0) (hr : X.2.2.2.2.2.2.2.2.1.sig.returnType = (some .int)) (N : Nat) {Q : State → Prop} {v0 : Nat} {v1 : Nat} {v2 : Int32} {v3 : Int32} {v4 : Int32} {h : AH}  {q : ((Int32 × Int32 × AH) ⊕ ((Int32 × AH)))} (hf : f_X5_onesOn_b32 N v0 v1 v2 v3 v4 h = some q) (kb : ∀ s' : Int32 × Int32 × AH, q = .inl s' → JW G X (RX5, cX5_onesOn, 5) s'.2.2 [(0, .ref v0), (1, .ref v1), (2, .int v2), (3, .int s'.1), (4, .int s'.2.1)] [] 5 0 0 Q) (ke0 : ∀ e : Int32 × AH, q = .inr e → JW G X (RX5, cX5_onesOn, 5) e.2 [(3, .int e.1)] [] 38 0 0 Q) : JW G X (RX5, cX5_onesOn, 5) h [(0, .ref v0), (1, .ref v1), (2, .int v2), (3, .int v3), (4, .int v4)] [] 32 0 0 Q := by
  unfold f_X5_onesOn_b32 at hf
  refine J_iinc (v := v4 + 1) (lv' := [(4, .int (v4 + 1)), (0, .ref v0), (1, .ref v1), (2, .int v2), (3, .int v3)]) E (jd dk_X5_onesOn_0 20 rfl) 4 rfl rfl (by decide) rfl ?_
  refine J_goto (tgt := 5) E (jd dk_X5_onesOn_0 21 rfl) (by decide) ?_
  refine J_sub [1, 2, 3, 4, 0] rfl ?_
  exact kb _ (Option.some.inj hf).symm
set_option maxRecDepth 100000 in
set_option maxHeartbeats 4000000 in
theorem lk_X5_onesOn_l5 {G : JG} {X : JX} (E : jE G X (RX5, cX5_onesOn, 5)) (hX : X.2.2.2.1 = jRm 0 0 0) (hr : X.2.2.2.2.2.2.2.2.1.sig.returnType = (some .int)) (N : Nat) {Q : State → Prop} {v0 : Nat} {v1 : Nat} {v2 : Int32} {v3 : Int32} {v4 : Int32}  {h : AH} {q : ((Int32 × Int32 × AH) ⊕ ((Int32 × AH)))} (hf : f_X5_onesOn_l5 N v0 v1 v2 v3 v4 h = some q) (kb : ∀ s' : Int32 × Int32 × AH, q = .inl s' → JW G X (RX5, cX5_onesOn, 5) s'.2.2 [(0, .ref v0), (1, .ref v1), (2, .int v2), (3, .int s'.1), (4, .int s'.2.1)] [] 5 0 0 Q) (ke0 : ∀ e : Int32 × AH, q = .inr e → JW G X (RX5, cX5_onesOn, 5) e.2 [(3, .int e.1)] [] 38 0 0 Q) : JW G X (RX5, cX5_onesOn, 5) h [(0, .ref v0), (1, .ref v1), (2, .int v2), (3, .int v3), (4, .int v4)] [] 5 0 0 Q := by
  unfold f_X5_onesOn_l5 at hf
  refine J_iload E (jd dk_X5_onesOn_0 4 rfl) 4 rfl ?_
  refine J_aload_n E (jd dk_X5_onesOn_0 5 rfl) rfl 1 rfl ?_
  obtain ⟨x1, e2, hf⟩ := jbind hf
  refine J_geti E (jd dk_X5_onesOn_0 6 rfl) fl_RX5_64 e2 ?_
  refine J_icmp_ge (tgt := 38) E (jd dk_X5_onesOn_0 7 rfl) (by decide) (fun c3 => ?_) (fun c3 => ?_)
  · replace hf := jif_t c3 hf
    refine J_sub [3] rfl ?_
    exact ke0 _ (Option.some.inj hf).symm
  · replace hf := jif_f c3 hf
    refine J_aload_n E (jd dk_X5_onesOn_0 8 rfl) rfl 0 rfl ?_
    obtain ⟨x4, e5, hf⟩ := jbind hf
    refine J_getr E (jd dk_X5_onesOn_0 9 rfl) fl_RX5_15 e5 ?_
    refine J_iload E (jd dk_X5_onesOn_0 10 rfl) 4 rfl ?_
    obtain ⟨x6, e7, hf⟩ := jbind hf
    refine J_iald E (jd dk_X5_onesOn_0 11 rfl) e7 ?_
    refine J_iload_n E (jd dk_X5_onesOn_0 12 rfl) rfl 2 rfl ?_
    refine J_icmp_ne (tgt := 32) E (jd dk_X5_onesOn_0 13 rfl) (by decide) (fun c8 => ?_) (fun c8 => ?_)
    · replace hf := jif_f c8 hf
      exact lk_X5_onesOn_b32 E hX hr N hf kb ke0
    · replace hf := jif_t c8 hf
      refine J_iload_n E (jd dk_X5_onesOn_0 14 rfl) rfl 3 rfl ?_
      refine J_iconst (v := 1) E (jd dk_X5_onesOn_0 15 rfl) rfl ?_
      refine J_iload E (jd dk_X5_onesOn_0 16 rfl) 4 rfl ?_
      refine J_ishl E (jd dk_X5_onesOn_0 17 rfl) ?_
      refine J_ior E (jd dk_X5_onesOn_0 18 rfl) ?_
      refine J_istore_n (lv' := [(3, .int (v3 ||| ((1 : Int32) <<< (v4 &&& 31)))), (0, .ref v0), (1, .ref v1), (2, .int v2), (4, .int v4)]) E (jd dk_X5_onesOn_0 19 rfl) rfl (by decide) rfl ?_
      refine J_sub [1, 2, 3, 0, 4] rfl ?_
      exact lk_X5_onesOn_b32 E hX hr N hf kb ke0
set_option maxRecDepth 100000 in
set_option maxHeartbeats 4000000 in
theorem lk_X5_onesOn_b5 {G : JG} {X : JX} (E : jE G X (RX5, cX5_onesOn, 5)) (hX : X.2.2.2.1 = jRm 0 0 0) (hr : X.2.2.2.2.2.2.2.2.1.sig.returnType = (some .int)) (N : Nat) {v0 : Nat} {v1 : Nat} {v2 : Int32} {v3 : Int32} {v4 : Int32} {h : AH}  {r : (Int32 × AH)} (hf : f_X5_onesOn_b5 N v0 v1 v2 v3 v4 h = some r) : JW G X (RX5, cX5_onesOn, 5) h [(0, .ref v0), (1, .ref v1), (2, .int v2), (3, .int v3), (4, .int v4)] [] 5 0 0 (jEnd G X (jpi r) 0 0) := by
  unfold f_X5_onesOn_b5 at hf
  obtain ⟨q1, h1, hf⟩ := jbind hf
  refine jloop (P := fun s => JW G X (RX5, cX5_onesOn, 5) s.2.2 [(0, .ref v0), (1, .ref v1), (2, .int v2), (3, .int s.1), (4, .int s.2.1)] [] 5 0 0 (jEnd G X (jpi r) 0 0)) (Ex := fun (e : Int32 × AH) => JW G X (RX5, cX5_onesOn, 5) e.2 [(3, .int e.1)] [] 38 0 0 (jEnd G X (jpi r) 0 0)) (fun s q hs hb hx => lk_X5_onesOn_l5 E hX hr N hs (fun s' hs => hb s' hs) (fun e he => hx e he)) N _ q1 h1 ?_
  generalize q1 = e at hf ⊢
  refine J_iload_n E (jd dk_X5_onesOn_0 22 rfl) rfl 0 rfl ?_
  cases hf
  exact J_iret E hr rfl (jd dk_X5_onesOn_0 23 rfl) (Nat.le_refl _) (Nat.le_refl _) ⟨rfl, rfl⟩
set_option maxRecDepth 100000 in
set_option maxHeartbeats 4000000 in
theorem lk_X5_onesOn {G : JG} {l : Launch} (hG : jG G) (htr : l.stackTraces = false) (N : Nat) {h : AH} {a0 : Nat} {a1 : Nat} {a2 : Int32} {r : (Int32 × AH)} (hf : f_X5_onesOn N h a0 a1 a2 = some r) : jMet G l yX5_onesOn cX5_onesOn 5 (some .int) 0 0 0 [.ref a0, .ref a1, .int a2] h (jpi r) := by
  unfold f_X5_onesOn at hf
  refine jMet_of hG htr (by decide) (Nat.le_of_ble_eq_true rfl) ?_
  intro X E hl9 hr hX _ _
  show JW G X (RX5, cX5_onesOn, 5) h [(0, .ref a0), (1, .ref a1), (2, .int a2)] [] 0 0 0 (jEnd G X (jpi r) 0 0)
  refine J_iconst (v := 0) E (jd dk_X5_onesOn_0 0 rfl) rfl ?_
  refine J_istore_n (lv' := [(3, .int 0), (0, .ref a0), (1, .ref a1), (2, .int a2)]) E (jd dk_X5_onesOn_0 1 rfl) rfl (by decide) rfl ?_
  refine J_iconst (v := 0) E (jd dk_X5_onesOn_0 2 rfl) rfl ?_
  refine J_istore (lv' := [(4, .int 0), (3, .int 0), (0, .ref a0), (1, .ref a1), (2, .int a2)]) E (jd dk_X5_onesOn_0 3 rfl) (by decide) rfl ?_
  refine J_sub [2, 3, 4, 1, 0] rfl ?_
  exact lk_X5_onesOn_b5 E hX hr N hf
def f_X5_tellMachine (N : Nat) (h : AH) (a0 : Nat) (a1 : Nat) (a2 : Int32) (a3 : Int32) : Option AH :=
  (jgr 5 h a0 8).bind fun x1 =>
  (jgr 2 h x1 0).bind fun x3 =>
  (jgr 5 h a0 4).bind fun x5 =>
  (jal 0 h x5 a2).bind fun x7 =>
  (jas 0 h x3 0 x7).bind fun h9 =>
  (jgr 5 h9 a0 8).bind fun x11 =>
  (jgr 2 h9 x11 0).bind fun x13 =>
  (jgr 5 h9 a0 3).bind fun x15 =>
  (jal 0 h9 x15 a2).bind fun x17 =>
  (f_J6_bitCount_0f7a4 N h9 x17).bind fun r19 =>
  (jas 0 r19.2 x13 1 r19.1).bind fun h21 =>
  (jgr 5 h21 a0 8).bind fun x23 =>
  (jgr 2 h21 x23 0).bind fun x25 =>
  (jgr 5 h21 a0 2).bind fun x27 =>
  (jal 0 h21 x27 a2).bind fun x29 =>
  (jas 0 h21 x25 2 x29).bind fun h31 =>
  (jgr 5 h31 a0 8).bind fun x33 =>
  (jgr 2 h31 x33 0).bind fun x35 =>
  (jgr 5 h31 a0 1).bind fun x37 =>
  (jal 0 h31 x37 a2).bind fun x39 =>
  (jck 5 h31 a0).bind fun _ =>
  (f_X5_onesOn N h31 a0 a1 x39).bind fun r41 =>
  (f_J6_bitCount_0f7a4 N r41.2 r41.1).bind fun r45 =>
  (jas 0 r45.2 x35 3 (r45.1 - 1)).bind fun h47 =>
  (jgr 5 h47 a0 8).bind fun x49 =>
  (jgr 2 h47 x49 0).bind fun x51 =>
  (jgi 5 h47 a0 0).bind fun x53 =>
  (jas 0 h47 x51 4 x53).bind fun h55 =>
  (jgr 5 h55 a0 8).bind fun x57 =>
  (jgr 2 h55 x57 0).bind fun x59 =>
  (jas 0 h55 x59 5 a3).bind fun h61 =>
  some h61
set_option maxRecDepth 100000 in
set_option maxHeartbeats 4000000 in
theorem lk_X5_tellMachine {G : JG} {l : Launch} (hG : jG G) (htr : l.stackTraces = false) (N : Nat) {h : AH} {a0 : Nat} {a1 : Nat} {a2 : Int32} {a3 : Int32} {r : AH} (hf : f_X5_tellMachine N h a0 a1 a2 a3 = some r) : jMet G l yX5_tellMachine cX5_tellMachine 4 none 1 0 0 [.ref a0, .ref a1, .int a2, .int a3] h (jpv r) := by
  unfold f_X5_tellMachine at hf
  refine jMet_of hG htr (by decide) (Nat.le_of_ble_eq_true rfl) ?_
  intro X E hl9 hr hX _ _
  show JW G X (RX5, cX5_tellMachine, 4) h [(0, .ref a0), (1, .ref a1), (2, .int a2), (3, .int a3)] [] 0 0 0 (jEnd G X (jpv r) 0 0)
  refine J_aload_n E (jd dk_X5_tellMachine_0 0 rfl) rfl 0 rfl ?_
  obtain ⟨x1, e2, hf⟩ := jbind hf
  refine J_getr E (jd dk_X5_tellMachine_0 1 rfl) fl_RX5_40 e2 ?_
  obtain ⟨x3, e4, hf⟩ := jbind hf
  refine J_getr E (jd dk_X5_tellMachine_0 2 rfl) fl_RX5_137 e4 ?_
  refine J_iconst (v := 0) E (jd dk_X5_tellMachine_0 3 rfl) rfl ?_
  refine J_aload_n E (jd dk_X5_tellMachine_0 4 rfl) rfl 0 rfl ?_
  obtain ⟨x5, e6, hf⟩ := jbind hf
  refine J_getr E (jd dk_X5_tellMachine_0 5 rfl) fl_RX5_25 e6 ?_
  refine J_iload_n E (jd dk_X5_tellMachine_0 6 rfl) rfl 2 rfl ?_
  obtain ⟨x7, e8, hf⟩ := jbind hf
  refine J_iald E (jd dk_X5_tellMachine_0 7 rfl) e8 ?_
  obtain ⟨h9, e10, hf⟩ := jbind hf
  refine J_iast E (jd dk_X5_tellMachine_0 8 rfl) e10 ?_
  refine J_aload_n E (jd dk_X5_tellMachine_0 9 rfl) rfl 0 rfl ?_
  obtain ⟨x11, e12, hf⟩ := jbind hf
  refine J_getr E (jd dk_X5_tellMachine_0 10 rfl) fl_RX5_40 e12 ?_
  obtain ⟨x13, e14, hf⟩ := jbind hf
  refine J_getr E (jd dk_X5_tellMachine_0 11 rfl) fl_RX5_137 e14 ?_
  refine J_iconst (v := 1) E (jd dk_X5_tellMachine_0 12 rfl) rfl ?_
  refine J_aload_n E (jd dk_X5_tellMachine_0 13 rfl) rfl 0 rfl ?_
  obtain ⟨x15, e16, hf⟩ := jbind hf
  refine J_getr E (jd dk_X5_tellMachine_0 14 rfl) fl_RX5_22 e16 ?_
  refine J_iload_n E (jd dk_X5_tellMachine_0 15 rfl) rfl 2 rfl ?_
  obtain ⟨x17, e18, hf⟩ := jbind hf
  refine J_iald E (jd dk_X5_tellMachine_0 16 rfl) e18 ?_
  obtain ⟨r19, e20, hf⟩ := jbind hf
  refine J_callS E (jd dk_X5_tellMachine_0 17 rfl) ml_RX5_140 cal_J6_bitCount_0f7a4 (lk_J6_bitCount_0f7a4 (jE_g E) (jE_tr E) N e20) rfl (Nat.le_of_ble_eq_true rfl) (jR_le hX (by decide) (by decide)) (jF0 hX) rfl ?_
  rintro _ _ ⟨rfl, rfl⟩
  obtain ⟨h21, e22, hf⟩ := jbind hf
  refine J_iast E (jd dk_X5_tellMachine_0 18 rfl) e22 ?_
  refine J_aload_n E (jd dk_X5_tellMachine_0 19 rfl) rfl 0 rfl ?_
  obtain ⟨x23, e24, hf⟩ := jbind hf
  refine J_getr E (jd dk_X5_tellMachine_0 20 rfl) fl_RX5_40 e24 ?_
  obtain ⟨x25, e26, hf⟩ := jbind hf
  refine J_getr E (jd dk_X5_tellMachine_0 21 rfl) fl_RX5_137 e26 ?_
  refine J_iconst (v := 2) E (jd dk_X5_tellMachine_0 22 rfl) rfl ?_
  refine J_aload_n E (jd dk_X5_tellMachine_0 23 rfl) rfl 0 rfl ?_
  obtain ⟨x27, e28, hf⟩ := jbind hf
  refine J_getr E (jd dk_X5_tellMachine_0 24 rfl) fl_RX5_19 e28 ?_
  refine J_iload_n E (jd dk_X5_tellMachine_0 25 rfl) rfl 2 rfl ?_
  obtain ⟨x29, e30, hf⟩ := jbind hf
  refine J_iald E (jd dk_X5_tellMachine_0 26 rfl) e30 ?_
  obtain ⟨h31, e32, hf⟩ := jbind hf
  refine J_iast E (jd dk_X5_tellMachine_0 27 rfl) e32 ?_
  refine J_aload_n E (jd dk_X5_tellMachine_0 28 rfl) rfl 0 rfl ?_
  obtain ⟨x33, e34, hf⟩ := jbind hf
  refine J_getr E (jd dk_X5_tellMachine_0 29 rfl) fl_RX5_40 e34 ?_
  obtain ⟨x35, e36, hf⟩ := jbind hf
  refine J_getr E (jd dk_X5_tellMachine_0 30 rfl) fl_RX5_137 e36 ?_
  refine J_iconst (v := 3) E (jd dk_X5_tellMachine_0 31 rfl) rfl ?_
  refine J_aload_n E (jd dk_X5_tellMachine_0 32 rfl) rfl 0 rfl ?_
  refine J_aload_n E (jd dk_X5_tellMachine_0 33 rfl) rfl 1 rfl ?_
  refine J_aload_n E (jd dk_X5_tellMachine_0 34 rfl) rfl 0 rfl ?_
  obtain ⟨x37, e38, hf⟩ := jbind hf
  refine J_getr E (jd dk_X5_tellMachine_0 35 rfl) fl_RX5_15 e38 ?_
  refine J_iload_n E (jd dk_X5_tellMachine_0 36 rfl) rfl 2 rfl ?_
  obtain ⟨x39, e40, hf⟩ := jbind hf
  refine J_iald E (jd dk_X5_tellMachine_0 37 rfl) e40 ?_
  obtain ⟨u43, e44, hf⟩ := jbind hf
  obtain ⟨r41, e42, hf⟩ := jbind hf
  refine J_callV E (jd dk_X5_tellMachine_0 38 rfl) ml_RX5_146 cal_X5_onesOn e44 rfl (lk_X5_onesOn (jE_g E) (jE_tr E) N e42) rfl (Nat.le_of_ble_eq_true rfl) (jR_le hX (by decide) (by decide)) (jF0 hX) rfl ?_
  rintro _ _ ⟨rfl, rfl⟩
  obtain ⟨r45, e46, hf⟩ := jbind hf
  refine J_callS E (jd dk_X5_tellMachine_0 39 rfl) ml_RX5_140 cal_J6_bitCount_0f7a4 (lk_J6_bitCount_0f7a4 (jE_g E) (jE_tr E) N e46) rfl (Nat.le_of_ble_eq_true rfl) (jR_le hX (by decide) (by decide)) (jF0 hX) rfl ?_
  rintro _ _ ⟨rfl, rfl⟩
  refine J_iconst (v := 1) E (jd dk_X5_tellMachine_0 40 rfl) rfl ?_
  refine J_isub E (jd dk_X5_tellMachine_0 41 rfl) ?_
  obtain ⟨h47, e48, hf⟩ := jbind hf
  refine J_iast E (jd dk_X5_tellMachine_0 42 rfl) e48 ?_
  refine J_aload_n E (jd dk_X5_tellMachine_0 43 rfl) rfl 0 rfl ?_
  obtain ⟨x49, e50, hf⟩ := jbind hf
  refine J_getr E (jd dk_X5_tellMachine_0 44 rfl) fl_RX5_40 e50 ?_
  obtain ⟨x51, e52, hf⟩ := jbind hf
  refine J_getr E (jd dk_X5_tellMachine_0 45 rfl) fl_RX5_137 e52 ?_
  refine J_iconst (v := 4) E (jd dk_X5_tellMachine_0 46 rfl) rfl ?_
  refine J_aload_n E (jd dk_X5_tellMachine_0 47 rfl) rfl 0 rfl ?_
  obtain ⟨x53, e54, hf⟩ := jbind hf
  refine J_geti E (jd dk_X5_tellMachine_0 48 rfl) fl_RX5_9 e54 ?_
  obtain ⟨h55, e56, hf⟩ := jbind hf
  refine J_iast E (jd dk_X5_tellMachine_0 49 rfl) e56 ?_
  refine J_aload_n E (jd dk_X5_tellMachine_1 0 rfl) rfl 0 rfl ?_
  obtain ⟨x57, e58, hf⟩ := jbind hf
  refine J_getr E (jd dk_X5_tellMachine_1 1 rfl) fl_RX5_40 e58 ?_
  obtain ⟨x59, e60, hf⟩ := jbind hf
  refine J_getr E (jd dk_X5_tellMachine_1 2 rfl) fl_RX5_137 e60 ?_
  refine J_iconst (v := 5) E (jd dk_X5_tellMachine_1 3 rfl) rfl ?_
  refine J_iload_n E (jd dk_X5_tellMachine_1 4 rfl) rfl 3 rfl ?_
  obtain ⟨h61, e62, hf⟩ := jbind hf
  refine J_iast E (jd dk_X5_tellMachine_1 5 rfl) e62 ?_
  cases hf
  exact J_vret E hr (jd dk_X5_tellMachine_1 6 rfl) (Nat.le_refl _) (Nat.le_refl _) ⟨rfl, rfl⟩
def f_X5_turnOn_b65 (N : Nat) (v1 : Nat) (v2 : Int32) (v4 : Int32) (h : AH) : Option (Int32 × AH) :=
  (jgr 1 h v1 8).bind fun x1 =>
  (jal 2 h x1 v2).bind fun x3 =>
  if x3 = 0 then some (v4, h)
  else some (v4 / 2, h)
def f_X5_turnOn (N : Nat) (h : AH) (a0 : Nat) (a1 : Nat) (a2 : Int32) (a3 : Int32) : Option (Int32 × AH) :=
  (jck 1 h a1).bind fun _ =>
  (f_X1_hasTurns N h a1).bind fun r6 =>
  if r6.1 = 0 then (jgr 5 r6.2 a0 4).bind fun x11 =>
  (jal 0 r6.2 x11 a2).bind fun x13 =>
  f_X5_turnOn_b65 N a1 a2 (jmx 0 (a3 - x13)) r6.2
  else (jck 5 r6.2 a0).bind fun _ =>
  (f_X5_tellMachine N r6.2 a0 a1 a2 a3).bind fun r15 =>
  (jgr 5 r15 a0 8).bind fun x19 =>
  (jgr 1 r15 a1 9).bind fun x21 =>
  (jgi 1 r15 a1 11).bind fun x23 =>
  (jgi 1 r15 a1 12).bind fun x25 =>
  (jck 2 r15 x19).bind fun _ =>
  (f_X2_result N r15 x19 x21 x23 x25).bind fun r27 =>
  f_X5_turnOn_b65 N a1 a2 (jmx 0 (jmn 30 r27.1)) r27.2
set_option maxRecDepth 100000 in
set_option maxHeartbeats 4000000 in
theorem lk_X5_turnOn_b65 {G : JG} {X : JX} (E : jE G X (RX5, cX5_turnOn, 6)) (hX : X.2.2.2.1 = jRm 2 0 0) (hr : X.2.2.2.2.2.2.2.2.1.sig.returnType = (some .int)) (N : Nat) {v1 : Nat} {v2 : Int32} {v4 : Int32} {h : AH}  {r : (Int32 × AH)} (hf : f_X5_turnOn_b65 N v1 v2 v4 h = some r) : JW G X (RX5, cX5_turnOn, 6) h [(1, .ref v1), (2, .int v2), (4, .int v4)] [] 65 0 0 (jEnd G X (jpi r) 0 0) := by
  unfold f_X5_turnOn_b65 at hf
  refine J_aload_n E (jd dk_X5_turnOn_0 34 rfl) rfl 0 rfl ?_
  obtain ⟨x1, e2, hf⟩ := jbind hf
  refine J_getr E (jd dk_X5_turnOn_0 35 rfl) fl_RX5_120 e2 ?_
  refine J_iload_n E (jd dk_X5_turnOn_0 36 rfl) rfl 1 rfl ?_
  obtain ⟨x3, e4, hf⟩ := jbind hf
  refine J_zald E (jd dk_X5_turnOn_0 37 rfl) e4 ?_
  refine J_if_eq (tgt := 81) E (jd dk_X5_turnOn_0 38 rfl) (by decide) (fun c5 => ?_) (fun c5 => ?_)
  · replace hf := jif_t c5 hf
    refine J_iload E (jd dk_X5_turnOn_0 43 rfl) 2 rfl ?_
    cases hf
    exact J_iret E hr rfl (jd dk_X5_turnOn_0 44 rfl) (Nat.le_refl _) (Nat.le_refl _) ⟨rfl, rfl⟩
  · replace hf := jif_f c5 hf
    refine J_iload E (jd dk_X5_turnOn_0 39 rfl) 2 rfl ?_
    refine J_iconst (v := 2) E (jd dk_X5_turnOn_0 40 rfl) rfl ?_
    refine J_idiv E (jd dk_X5_turnOn_0 41 rfl) (by decide) ?_
    refine J_goto (tgt := 83) E (jd dk_X5_turnOn_0 42 rfl) (by decide) ?_
    cases hf
    exact J_iret E hr rfl (jd dk_X5_turnOn_0 44 rfl) (Nat.le_refl _) (Nat.le_refl _) ⟨rfl, rfl⟩
set_option maxRecDepth 100000 in
set_option maxHeartbeats 4000000 in
theorem lk_X5_turnOn {G : JG} {l : Launch} (hG : jG G) (htr : l.stackTraces = false) (N : Nat) {h : AH} {a0 : Nat} {a1 : Nat} {a2 : Int32} {a3 : Int32} {r : (Int32 × AH)} (hf : f_X5_turnOn N h a0 a1 a2 a3 = some r) : jMet G l yX5_turnOn cX5_turnOn 6 (some .int) 2 0 0 [.ref a0, .ref a1, .int a2, .int a3] h (jpi r) := by
  unfold f_X5_turnOn at hf
  refine jMet_of hG htr (by decide) (Nat.le_of_ble_eq_true rfl) ?_
  intro X E hl9 hr hX _ _
  show JW G X (RX5, cX5_turnOn, 6) h [(0, .ref a0), (1, .ref a1), (2, .int a2), (3, .int a3)] [] 0 0 0 (jEnd G X (jpi r) 0 0)
  refine J_aload_n E (jd dk_X5_turnOn_0 0 rfl) rfl 1 rfl ?_
  obtain ⟨u8, e9, hf⟩ := jbind hf
  obtain ⟨r6, e7, hf⟩ := jbind hf
  refine J_callV E (jd dk_X5_turnOn_0 1 rfl) ml_RX5_91 cal_X1_hasTurns e9 rfl (lk_X1_hasTurns (jE_g E) (jE_tr E) N e7) rfl (Nat.le_of_ble_eq_true rfl) (jR_le hX (by decide) (by decide)) (jF0 hX) rfl ?_
  rintro _ _ ⟨rfl, rfl⟩
  refine J_if_eq (tgt := 51) E (jd dk_X5_turnOn_0 2 rfl) (by decide) (fun c10 => ?_) (fun c10 => ?_)
  · replace hf := jif_t c10 hf
    refine J_iconst (v := 0) E (jd dk_X5_turnOn_0 25 rfl) rfl ?_
    refine J_iload_n E (jd dk_X5_turnOn_0 26 rfl) rfl 3 rfl ?_
    refine J_aload_n E (jd dk_X5_turnOn_0 27 rfl) rfl 0 rfl ?_
    obtain ⟨x11, e12, hf⟩ := jbind hf
    refine J_getr E (jd dk_X5_turnOn_0 28 rfl) fl_RX5_25 e12 ?_
    refine J_iload_n E (jd dk_X5_turnOn_0 29 rfl) rfl 2 rfl ?_
    obtain ⟨x13, e14, hf⟩ := jbind hf
    refine J_iald E (jd dk_X5_turnOn_0 30 rfl) e14 ?_
    refine J_isub E (jd dk_X5_turnOn_0 31 rfl) ?_
    refine J_max E (jd dk_X5_turnOn_0 32 rfl) ml_RX5_117 (Nat.le_of_ble_eq_true rfl) (by rw [hX]; exact ⟨Nat.zero_le _, Nat.zero_le _⟩) ?_
    refine J_istore (lv' := [(4, .int (jmx 0 (a3 - x13))), (0, .ref a0), (1, .ref a1), (2, .int a2), (3, .int a3)]) E (jd dk_X5_turnOn_0 33 rfl) (by decide) rfl ?_
    refine J_sub [2, 3, 0] rfl ?_
    exact lk_X5_turnOn_b65 E hX hr N hf
  · replace hf := jif_f c10 hf
    refine J_aload_n E (jd dk_X5_turnOn_0 3 rfl) rfl 0 rfl ?_
    refine J_aload_n E (jd dk_X5_turnOn_0 4 rfl) rfl 1 rfl ?_
    refine J_iload_n E (jd dk_X5_turnOn_0 5 rfl) rfl 2 rfl ?_
    refine J_iload_n E (jd dk_X5_turnOn_0 6 rfl) rfl 3 rfl ?_
    obtain ⟨u17, e18, hf⟩ := jbind hf
    obtain ⟨r15, e16, hf⟩ := jbind hf
    refine J_callV E (jd dk_X5_turnOn_0 7 rfl) ml_RX5_95 cal_X5_tellMachine e18 rfl (lk_X5_tellMachine (jE_g E) (jE_tr E) N e16) rfl (Nat.le_of_ble_eq_true rfl) (jR_le hX (by decide) (by decide)) (jF0 hX) rfl ?_
    rintro _ _ ⟨rfl, rfl⟩
    refine J_aload_n E (jd dk_X5_turnOn_0 8 rfl) rfl 0 rfl ?_
    obtain ⟨x19, e20, hf⟩ := jbind hf
    refine J_getr E (jd dk_X5_turnOn_0 9 rfl) fl_RX5_40 e20 ?_
    refine J_aload_n E (jd dk_X5_turnOn_0 10 rfl) rfl 1 rfl ?_
    obtain ⟨x21, e22, hf⟩ := jbind hf
    refine J_getr E (jd dk_X5_turnOn_0 11 rfl) fl_RX5_98 e22 ?_
    refine J_aload_n E (jd dk_X5_turnOn_0 12 rfl) rfl 1 rfl ?_
    obtain ⟨x23, e24, hf⟩ := jbind hf
    refine J_geti E (jd dk_X5_turnOn_0 13 rfl) fl_RX5_101 e24 ?_
    refine J_aload_n E (jd dk_X5_turnOn_0 14 rfl) rfl 1 rfl ?_
    obtain ⟨x25, e26, hf⟩ := jbind hf
    refine J_geti E (jd dk_X5_turnOn_0 15 rfl) fl_RX5_104 e26 ?_
    obtain ⟨u29, e30, hf⟩ := jbind hf
    obtain ⟨r27, e28, hf⟩ := jbind hf
    refine J_callV E (jd dk_X5_turnOn_0 16 rfl) ml_RX5_107 cal_X2_result e30 rfl (lk_X2_result (jE_g E) (jE_tr E) N e28) rfl (Nat.le_of_ble_eq_true rfl) (jR_le hX (by decide) (by decide)) (jF0 hX) rfl ?_
    rintro _ _ ⟨rfl, rfl⟩
    refine J_istore (lv' := [(5, .int r27.1), (0, .ref a0), (1, .ref a1), (2, .int a2), (3, .int a3)]) E (jd dk_X5_turnOn_0 17 rfl) (by decide) rfl ?_
    refine J_iconst (v := 0) E (jd dk_X5_turnOn_0 18 rfl) rfl ?_
    refine J_bipush (v := 30) E (jd dk_X5_turnOn_0 19 rfl) (by decide) ?_
    refine J_iload E (jd dk_X5_turnOn_0 20 rfl) 0 rfl ?_
    refine J_min E (jd dk_X5_turnOn_0 21 rfl) ml_RX5_111 (Nat.le_of_ble_eq_true rfl) (by rw [hX]; exact ⟨Nat.zero_le _, Nat.zero_le _⟩) ?_
    refine J_max E (jd dk_X5_turnOn_0 22 rfl) ml_RX5_117 (Nat.le_of_ble_eq_true rfl) (by rw [hX]; exact ⟨Nat.zero_le _, Nat.zero_le _⟩) ?_
    refine J_istore (lv' := [(4, .int (jmx 0 (jmn 30 r27.1))), (5, .int r27.1), (0, .ref a0), (1, .ref a1), (2, .int a2), (3, .int a3)]) E (jd dk_X5_turnOn_0 23 rfl) (by decide) rfl ?_
    refine J_goto (tgt := 65) E (jd dk_X5_turnOn_0 24 rfl) (by decide) ?_
    refine J_sub [3, 4, 0] rfl ?_
    exact lk_X5_turnOn_b65 E hX hr N hf
def f_X5_turnBy (N : Nat) (h : AH) (a0 : Nat) (a1 : Nat) (a2 : Int32) (a3 : Int32) : Option AH :=
  (jgr 5 h a0 2).bind fun x1 =>
  (jgr 5 h a0 2).bind fun x3 =>
  (jal 0 h x3 a2).bind fun x5 =>
  (jgi 1 h a1 0).bind fun x7 =>
  (f_X6_rest N h (x5 + a3) x7).bind fun r9 =>
  (jas 0 r9.2 x1 a2 r9.1).bind fun h11 =>
  some h11
set_option maxRecDepth 100000 in
set_option maxHeartbeats 4000000 in
theorem lk_X5_turnBy {G : JG} {l : Launch} (hG : jG G) (htr : l.stackTraces = false) (N : Nat) {h : AH} {a0 : Nat} {a1 : Nat} {a2 : Int32} {a3 : Int32} {r : AH} (hf : f_X5_turnBy N h a0 a1 a2 a3 = some r) : jMet G l yX5_turnBy cX5_turnBy 4 none 1 0 0 [.ref a0, .ref a1, .int a2, .int a3] h (jpv r) := by
  unfold f_X5_turnBy at hf
  refine jMet_of hG htr (by decide) (Nat.le_of_ble_eq_true rfl) ?_
  intro X E hl9 hr hX _ _
  show JW G X (RX5, cX5_turnBy, 4) h [(0, .ref a0), (1, .ref a1), (2, .int a2), (3, .int a3)] [] 0 0 0 (jEnd G X (jpv r) 0 0)
  refine J_aload_n E (jd dk_X5_turnBy_0 0 rfl) rfl 0 rfl ?_
  obtain ⟨x1, e2, hf⟩ := jbind hf
  refine J_getr E (jd dk_X5_turnBy_0 1 rfl) fl_RX5_19 e2 ?_
  refine J_iload_n E (jd dk_X5_turnBy_0 2 rfl) rfl 2 rfl ?_
  refine J_aload_n E (jd dk_X5_turnBy_0 3 rfl) rfl 0 rfl ?_
  obtain ⟨x3, e4, hf⟩ := jbind hf
  refine J_getr E (jd dk_X5_turnBy_0 4 rfl) fl_RX5_19 e4 ?_
  refine J_iload_n E (jd dk_X5_turnBy_0 5 rfl) rfl 2 rfl ?_
  obtain ⟨x5, e6, hf⟩ := jbind hf
  refine J_iald E (jd dk_X5_turnBy_0 6 rfl) e6 ?_
  refine J_iload_n E (jd dk_X5_turnBy_0 7 rfl) rfl 3 rfl ?_
  refine J_iadd E (jd dk_X5_turnBy_0 8 rfl) ?_
  refine J_aload_n E (jd dk_X5_turnBy_0 9 rfl) rfl 1 rfl ?_
  obtain ⟨x7, e8, hf⟩ := jbind hf
  refine J_geti E (jd dk_X5_turnBy_0 10 rfl) fl_RX5_150 e8 ?_
  obtain ⟨r9, e10, hf⟩ := jbind hf
  refine J_callSN E (jd dk_X5_turnBy_0 11 rfl) mn_RX5_153 cal_X6_rest (lk_X6_rest (jE_g E) (jE_tr E) N e10) rfl (Nat.le_of_ble_eq_true rfl) (jR_le hX (by decide) (by decide)) (jF0 hX) rfl ?_
  rintro _ _ ⟨rfl, rfl⟩
  obtain ⟨h11, e12, hf⟩ := jbind hf
  refine J_iast E (jd dk_X5_turnBy_0 12 rfl) e12 ?_
  cases hf
  exact J_vret E hr (jd dk_X5_turnBy_0 13 rfl) (Nat.le_refl _) (Nat.le_refl _) ⟨rfl, rfl⟩
def f_X5_isFair (N : Nat) (h : AH) (a0 : Nat) (a1 : Nat) (a2 : Int32) : Option (Int32 × AH) :=
  (jgr 5 h a0 3).bind fun x1 =>
  (jal 0 h x1 a2).bind fun x3 =>
  (jck 1 h a1).bind fun _ =>
  (f_X1_allSides N h a1).bind fun r5 =>
  if x3 = r5.1 then some (1, r5.2)
  else some (0, r5.2)
set_option maxRecDepth 100000 in
set_option maxHeartbeats 4000000 in
theorem lk_X5_isFair {G : JG} {l : Launch} (hG : jG G) (htr : l.stackTraces = false) (N : Nat) {h : AH} {a0 : Nat} {a1 : Nat} {a2 : Int32} {r : (Int32 × AH)} (hf : f_X5_isFair N h a0 a1 a2 = some r) : jMet G l yX5_isFair cX5_isFair 3 (some .boolean) 1 0 0 [.ref a0, .ref a1, .int a2] h (jpi r) := by
  unfold f_X5_isFair at hf
  refine jMet_of hG htr (by decide) (Nat.le_of_ble_eq_true rfl) ?_
  intro X E hl9 hr hX _ _
  show JW G X (RX5, cX5_isFair, 3) h [(0, .ref a0), (1, .ref a1), (2, .int a2)] [] 0 0 0 (jEnd G X (jpi r) 0 0)
  refine J_aload_n E (jd dk_X5_isFair_0 0 rfl) rfl 0 rfl ?_
  obtain ⟨x1, e2, hf⟩ := jbind hf
  refine J_getr E (jd dk_X5_isFair_0 1 rfl) fl_RX5_22 e2 ?_
  refine J_iload_n E (jd dk_X5_isFair_0 2 rfl) rfl 2 rfl ?_
  obtain ⟨x3, e4, hf⟩ := jbind hf
  refine J_iald E (jd dk_X5_isFair_0 3 rfl) e4 ?_
  refine J_aload_n E (jd dk_X5_isFair_0 4 rfl) rfl 1 rfl ?_
  obtain ⟨u7, e8, hf⟩ := jbind hf
  obtain ⟨r5, e6, hf⟩ := jbind hf
  refine J_callV E (jd dk_X5_isFair_0 5 rfl) ml_RX5_156 cal_X1_allSides e8 rfl (lk_X1_allSides (jE_g E) (jE_tr E) N e6) rfl (Nat.le_of_ble_eq_true rfl) (jR_le hX (by decide) (by decide)) (jF0 hX) rfl ?_
  rintro _ _ ⟨rfl, rfl⟩
  refine J_icmp_ne (tgt := 17) E (jd dk_X5_isFair_0 6 rfl) (by decide) (fun c9 => ?_) (fun c9 => ?_)
  · replace hf := jif_f c9 hf
    refine J_iconst (v := 0) E (jd dk_X5_isFair_0 9 rfl) rfl ?_
    cases hf
    exact J_iret E hr rfl (jd dk_X5_isFair_0 10 rfl) (Nat.le_refl _) (Nat.le_refl _) ⟨rfl, rfl⟩
  · replace hf := jif_t c9 hf
    refine J_iconst (v := 1) E (jd dk_X5_isFair_0 7 rfl) rfl ?_
    refine J_goto (tgt := 18) E (jd dk_X5_isFair_0 8 rfl) (by decide) ?_
    cases hf
    exact J_iret E hr rfl (jd dk_X5_isFair_0 10 rfl) (Nat.le_refl _) (Nat.le_refl _) ⟨rfl, rfl⟩
def f_X5_wayOn_b63 (N : Nat) (v3 : Int32) (h : AH) : Option (Int32 × AH) :=
  some (v3, h)
def f_X5_wayOn (N : Nat) (h : AH) (a0 : Nat) (a1 : Nat) (a2 : Int32) (a3 : Int32) : Option (Int32 × AH) :=
  (jck 1 h a1).bind fun _ =>
  (f_X1_hasGoes N h a1).bind fun r1 =>
  if r1.1 = 0 then if a3 = 0 then (jck 5 r1.2 a0).bind fun _ =>
  (f_X5_isFair N r1.2 a0 a1 a2).bind fun r7 =>
  if r7.1 = 0 then f_X5_wayOn_b63 N a3 r7.2
  else some (1, r7.2)
  else f_X5_wayOn_b63 N a3 r1.2
  else (jck 5 r1.2 a0).bind fun _ =>
  (f_X5_tellMachine N r1.2 a0 a1 a2 a3).bind fun r12 =>
  (jgr 5 r12 a0 8).bind fun x16 =>
  (jgr 1 r12 a1 9).bind fun x18 =>
  (jgi 1 r12 a1 13).bind fun x20 =>
  (jgi 1 r12 a1 14).bind fun x22 =>
  (jck 2 r12 x16).bind fun _ =>
  (f_X2_result N r12 x16 x18 x20 x22).bind fun r24 =>
  some (jmx 0 (jmn 3 r24.1), r24.2)
set_option maxRecDepth 100000 in
set_option maxHeartbeats 4000000 in
theorem lk_X5_wayOn_b63 {G : JG} {X : JX} (E : jE G X (RX5, cX5_wayOn, 5)) (hX : X.2.2.2.1 = jRm 2 0 0) (hr : X.2.2.2.2.2.2.2.2.1.sig.returnType = (some .int)) (N : Nat) {v3 : Int32} {h : AH}  {r : (Int32 × AH)} (hf : f_X5_wayOn_b63 N v3 h = some r) : JW G X (RX5, cX5_wayOn, 5) h [(3, .int v3)] [] 63 0 0 (jEnd G X (jpi r) 0 0) := by
  unfold f_X5_wayOn_b63 at hf
  refine J_iload_n E (jd dk_X5_wayOn_0 33 rfl) rfl 0 rfl ?_
  cases hf
  exact J_iret E hr rfl (jd dk_X5_wayOn_0 34 rfl) (Nat.le_refl _) (Nat.le_refl _) ⟨rfl, rfl⟩
set_option maxRecDepth 100000 in
set_option maxHeartbeats 4000000 in
theorem lk_X5_wayOn {G : JG} {l : Launch} (hG : jG G) (htr : l.stackTraces = false) (N : Nat) {h : AH} {a0 : Nat} {a1 : Nat} {a2 : Int32} {a3 : Int32} {r : (Int32 × AH)} (hf : f_X5_wayOn N h a0 a1 a2 a3 = some r) : jMet G l yX5_wayOn cX5_wayOn 5 (some .int) 2 0 0 [.ref a0, .ref a1, .int a2, .int a3] h (jpi r) := by
  unfold f_X5_wayOn at hf
  refine jMet_of hG htr (by decide) (Nat.le_of_ble_eq_true rfl) ?_
  intro X E hl9 hr hX _ _
  show JW G X (RX5, cX5_wayOn, 5) h [(0, .ref a0), (1, .ref a1), (2, .int a2), (3, .int a3)] [] 0 0 0 (jEnd G X (jpi r) 0 0)
  refine J_aload_n E (jd dk_X5_wayOn_0 0 rfl) rfl 1 rfl ?_
  obtain ⟨u3, e4, hf⟩ := jbind hf
  obtain ⟨r1, e2, hf⟩ := jbind hf
  refine J_callV E (jd dk_X5_wayOn_0 1 rfl) ml_RX5_124 cal_X1_hasGoes e4 rfl (lk_X1_hasGoes (jE_g E) (jE_tr E) N e2) rfl (Nat.le_of_ble_eq_true rfl) (jR_le hX (by decide) (by decide)) (jF0 hX) rfl ?_
  rintro _ _ ⟨rfl, rfl⟩
  refine J_if_eq (tgt := 46) E (jd dk_X5_wayOn_0 2 rfl) (by decide) (fun c5 => ?_) (fun c5 => ?_)
  · replace hf := jif_t c5 hf
    refine J_iload_n E (jd dk_X5_wayOn_0 24 rfl) rfl 3 rfl ?_
    refine J_if_ne (tgt := 63) E (jd dk_X5_wayOn_0 25 rfl) (by decide) (fun c6 => ?_) (fun c6 => ?_)
    · replace hf := jif_f c6 hf
      refine J_sub [3] rfl ?_
      exact lk_X5_wayOn_b63 E hX hr N hf
    · replace hf := jif_t c6 hf
      refine J_aload_n E (jd dk_X5_wayOn_0 26 rfl) rfl 0 rfl ?_
      refine J_aload_n E (jd dk_X5_wayOn_0 27 rfl) rfl 1 rfl ?_
      refine J_iload_n E (jd dk_X5_wayOn_0 28 rfl) rfl 2 rfl ?_
      obtain ⟨u9, e10, hf⟩ := jbind hf
      obtain ⟨r7, e8, hf⟩ := jbind hf
      refine J_callV E (jd dk_X5_wayOn_0 29 rfl) ml_RX5_133 cal_X5_isFair e10 rfl (lk_X5_isFair (jE_g E) (jE_tr E) N e8) rfl (Nat.le_of_ble_eq_true rfl) (jR_le hX (by decide) (by decide)) (jF0 hX) rfl ?_
      rintro _ _ ⟨rfl, rfl⟩
      refine J_if_eq (tgt := 63) E (jd dk_X5_wayOn_0 30 rfl) (by decide) (fun c11 => ?_) (fun c11 => ?_)
      · replace hf := jif_t c11 hf
        refine J_sub [3] rfl ?_
        exact lk_X5_wayOn_b63 E hX hr N hf
      · replace hf := jif_f c11 hf
        refine J_iconst (v := 1) E (jd dk_X5_wayOn_0 31 rfl) rfl ?_
        refine J_goto (tgt := 64) E (jd dk_X5_wayOn_0 32 rfl) (by decide) ?_
        cases hf
        exact J_iret E hr rfl (jd dk_X5_wayOn_0 34 rfl) (Nat.le_refl _) (Nat.le_refl _) ⟨rfl, rfl⟩
  · replace hf := jif_f c5 hf
    refine J_aload_n E (jd dk_X5_wayOn_0 3 rfl) rfl 0 rfl ?_
    refine J_aload_n E (jd dk_X5_wayOn_0 4 rfl) rfl 1 rfl ?_
    refine J_iload_n E (jd dk_X5_wayOn_0 5 rfl) rfl 2 rfl ?_
    refine J_iload_n E (jd dk_X5_wayOn_0 6 rfl) rfl 3 rfl ?_
    obtain ⟨u14, e15, hf⟩ := jbind hf
    obtain ⟨r12, e13, hf⟩ := jbind hf
    refine J_callV E (jd dk_X5_wayOn_0 7 rfl) ml_RX5_95 cal_X5_tellMachine e15 rfl (lk_X5_tellMachine (jE_g E) (jE_tr E) N e13) rfl (Nat.le_of_ble_eq_true rfl) (jR_le hX (by decide) (by decide)) (jF0 hX) rfl ?_
    rintro _ _ ⟨rfl, rfl⟩
    refine J_aload_n E (jd dk_X5_wayOn_0 8 rfl) rfl 0 rfl ?_
    obtain ⟨x16, e17, hf⟩ := jbind hf
    refine J_getr E (jd dk_X5_wayOn_0 9 rfl) fl_RX5_40 e17 ?_
    refine J_aload_n E (jd dk_X5_wayOn_0 10 rfl) rfl 1 rfl ?_
    obtain ⟨x18, e19, hf⟩ := jbind hf
    refine J_getr E (jd dk_X5_wayOn_0 11 rfl) fl_RX5_98 e19 ?_
    refine J_aload_n E (jd dk_X5_wayOn_0 12 rfl) rfl 1 rfl ?_
    obtain ⟨x20, e21, hf⟩ := jbind hf
    refine J_geti E (jd dk_X5_wayOn_0 13 rfl) fl_RX5_127 e21 ?_
    refine J_aload_n E (jd dk_X5_wayOn_0 14 rfl) rfl 1 rfl ?_
    obtain ⟨x22, e23, hf⟩ := jbind hf
    refine J_geti E (jd dk_X5_wayOn_0 15 rfl) fl_RX5_130 e23 ?_
    obtain ⟨u26, e27, hf⟩ := jbind hf
    obtain ⟨r24, e25, hf⟩ := jbind hf
    refine J_callV E (jd dk_X5_wayOn_0 16 rfl) ml_RX5_107 cal_X2_result e27 rfl (lk_X2_result (jE_g E) (jE_tr E) N e25) rfl (Nat.le_of_ble_eq_true rfl) (jR_le hX (by decide) (by decide)) (jF0 hX) rfl ?_
    rintro _ _ ⟨rfl, rfl⟩
    refine J_istore (lv' := [(4, .int r24.1), (0, .ref a0), (1, .ref a1), (2, .int a2), (3, .int a3)]) E (jd dk_X5_wayOn_0 17 rfl) (by decide) rfl ?_
    refine J_iconst (v := 0) E (jd dk_X5_wayOn_0 18 rfl) rfl ?_
    refine J_iconst (v := 3) E (jd dk_X5_wayOn_0 19 rfl) rfl ?_
    refine J_iload E (jd dk_X5_wayOn_0 20 rfl) 0 rfl ?_
    refine J_min E (jd dk_X5_wayOn_0 21 rfl) ml_RX5_111 (Nat.le_of_ble_eq_true rfl) (by rw [hX]; exact ⟨Nat.zero_le _, Nat.zero_le _⟩) ?_
    refine J_max E (jd dk_X5_wayOn_0 22 rfl) ml_RX5_117 (Nat.le_of_ble_eq_true rfl) (by rw [hX]; exact ⟨Nat.zero_le _, Nat.zero_le _⟩) ?_
    cases hf
    exact J_iret E hr rfl (jd dk_X5_wayOn_0 23 rfl) (Nat.le_refl _) (Nat.le_refl _) ⟨rfl, rfl⟩
def f_X5_goOn_b40 (N : Nat) (w0 : Nat) (w1 : Int32) (w2 : Int32) (h : AH) : Option AH :=
  (jas 0 h w0 w1 w2).bind fun h1 =>
  some h1
def f_X5_goOn (N : Nat) (h : AH) (a0 : Nat) (a1 : Nat) (a2 : Int32) (a3 : Int32) : Option AH :=
  (jgr 5 h a0 1).bind fun x3 =>
  (jal 0 h x3 a2).bind fun x5 =>
  if x5 < 0 then some h
  else (jgr 5 h a0 1).bind fun x8 =>
  (jal 0 h x8 a2).bind fun x10 =>
  (jgr 5 h a0 1).bind fun x12 =>
  (jgi 1 h a1 1).bind fun x14 =>
  if x14 ≤ (x10 + a3) then f_X5_goOn_b40 N x12 a2 ((-2)) h
  else f_X5_goOn_b40 N x12 a2 (x10 + a3) h
set_option maxRecDepth 100000 in
set_option maxHeartbeats 4000000 in
theorem lk_X5_goOn_b40 {G : JG} {X : JX} (E : jE G X (RX5, cX5_goOn, 5)) (hX : X.2.2.2.1 = jRm 0 0 0) (hr : X.2.2.2.2.2.2.2.2.1.sig.returnType = none) (N : Nat) {w0 : Nat} {w1 : Int32} {w2 : Int32} {h : AH}  {r : AH} (hf : f_X5_goOn_b40 N w0 w1 w2 h = some r) : JW G X (RX5, cX5_goOn, 5) h [] [.int w2, .int w1, .ref w0] 40 0 0 (jEnd G X (jpv r) 0 0) := by
  unfold f_X5_goOn_b40 at hf
  obtain ⟨h1, e2, hf⟩ := jbind hf
  refine J_iast E (jd dk_X5_goOn_0 22 rfl) e2 ?_
  cases hf
  exact J_vret E hr (jd dk_X5_goOn_0 23 rfl) (Nat.le_refl _) (Nat.le_refl _) ⟨rfl, rfl⟩
set_option maxRecDepth 100000 in
set_option maxHeartbeats 4000000 in
theorem lk_X5_goOn {G : JG} {l : Launch} (hG : jG G) (htr : l.stackTraces = false) (N : Nat) {h : AH} {a0 : Nat} {a1 : Nat} {a2 : Int32} {a3 : Int32} {r : AH} (hf : f_X5_goOn N h a0 a1 a2 a3 = some r) : jMet G l yX5_goOn cX5_goOn 5 none 0 0 0 [.ref a0, .ref a1, .int a2, .int a3] h (jpv r) := by
  unfold f_X5_goOn at hf
  refine jMet_of hG htr (by decide) (Nat.le_of_ble_eq_true rfl) ?_
  intro X E hl9 hr hX _ _
  show JW G X (RX5, cX5_goOn, 5) h [(0, .ref a0), (1, .ref a1), (2, .int a2), (3, .int a3)] [] 0 0 0 (jEnd G X (jpv r) 0 0)
  refine J_aload_n E (jd dk_X5_goOn_0 0 rfl) rfl 0 rfl ?_
  obtain ⟨x3, e4, hf⟩ := jbind hf
  refine J_getr E (jd dk_X5_goOn_0 1 rfl) fl_RX5_15 e4 ?_
  refine J_iload_n E (jd dk_X5_goOn_0 2 rfl) rfl 2 rfl ?_
  obtain ⟨x5, e6, hf⟩ := jbind hf
  refine J_iald E (jd dk_X5_goOn_0 3 rfl) e6 ?_
  refine J_if_lt (tgt := 41) E (jd dk_X5_goOn_0 4 rfl) (by decide) (fun c7 => ?_) (fun c7 => ?_)
  · replace hf := jif_t c7 hf
    cases hf
    exact J_vret E hr (jd dk_X5_goOn_0 23 rfl) (Nat.le_refl _) (Nat.le_refl _) ⟨rfl, rfl⟩
  · replace hf := jif_f c7 hf
    refine J_aload_n E (jd dk_X5_goOn_0 5 rfl) rfl 0 rfl ?_
    obtain ⟨x8, e9, hf⟩ := jbind hf
    refine J_getr E (jd dk_X5_goOn_0 6 rfl) fl_RX5_15 e9 ?_
    refine J_iload_n E (jd dk_X5_goOn_0 7 rfl) rfl 2 rfl ?_
    obtain ⟨x10, e11, hf⟩ := jbind hf
    refine J_iald E (jd dk_X5_goOn_0 8 rfl) e11 ?_
    refine J_iload_n E (jd dk_X5_goOn_0 9 rfl) rfl 3 rfl ?_
    refine J_iadd E (jd dk_X5_goOn_0 10 rfl) ?_
    refine J_istore (lv' := [(4, .int (x10 + a3)), (0, .ref a0), (1, .ref a1), (2, .int a2), (3, .int a3)]) E (jd dk_X5_goOn_0 11 rfl) (by decide) rfl ?_
    refine J_aload_n E (jd dk_X5_goOn_0 12 rfl) rfl 1 rfl ?_
    obtain ⟨x12, e13, hf⟩ := jbind hf
    refine J_getr E (jd dk_X5_goOn_0 13 rfl) fl_RX5_15 e13 ?_
    refine J_iload_n E (jd dk_X5_goOn_0 14 rfl) rfl 3 rfl ?_
    refine J_iload E (jd dk_X5_goOn_0 15 rfl) 0 rfl ?_
    refine J_aload_n E (jd dk_X5_goOn_0 16 rfl) rfl 2 rfl ?_
    obtain ⟨x14, e15, hf⟩ := jbind hf
    refine J_geti E (jd dk_X5_goOn_0 17 rfl) fl_RX5_70 e15 ?_
    refine J_icmp_ge (tgt := 38) E (jd dk_X5_goOn_0 18 rfl) (by decide) (fun c16 => ?_) (fun c16 => ?_)
    · replace hf := jif_t c16 hf
      refine J_bipush (v := (-2)) E (jd dk_X5_goOn_0 21 rfl) (by decide) ?_
      refine J_sub [] rfl ?_
      exact lk_X5_goOn_b40 E hX hr N hf
    · replace hf := jif_f c16 hf
      refine J_iload E (jd dk_X5_goOn_0 19 rfl) 0 rfl ?_
      refine J_goto (tgt := 40) E (jd dk_X5_goOn_0 20 rfl) (by decide) ?_
      refine J_sub [] rfl ?_
      exact lk_X5_goOn_b40 E hX hr N hf
def f_X5_drift_b80 (N : Nat) (w0 : Nat) (w1 : Nat) (w2 : Int32) (w3 : Nat) (w4 : Nat) (w5 : Int32) (w6 : Int32) (h : AH) : Option AH :=
  (jck 5 h w3).bind fun _ =>
  (f_X5_wayOn N h w3 w4 w5 w6).bind fun r1 =>
  (jck 5 r1.2 w0).bind fun _ =>
  (f_X5_goOn N r1.2 w0 w1 w2 r1.1).bind fun r5 =>
  some r5
def f_X5_drift (N : Nat) (h : AH) (a0 : Nat) (a1 : Nat) (a2 : Int32) (a3 : Int32) : Option AH :=
  (jgr 5 h a0 1).bind fun x9 =>
  (jal 0 h x9 a2).bind fun x11 =>
  (jgr 5 h a0 3).bind fun x13 =>
  (jal 0 h x13 a2).bind fun x15 =>
  (jgr 5 h a0 2).bind fun x17 =>
  (jal 0 h x17 a2).bind fun x19 =>
  (jas 0 h x13 a2 (x15 ||| ((1 : Int32) <<< (x19 &&& 31)))).bind fun h21 =>
  (jgr 5 h21 a0 7).bind fun x23 =>
  (jal 0 h21 x23 x11).bind fun x25 =>
  (jck 5 h21 a0).bind fun _ =>
  (f_X5_turnOn N h21 a0 a1 a2 x25).bind fun r27 =>
  (jgr 5 r27.2 a0 5).bind fun x31 =>
  (jal 0 r27.2 x31 a2).bind fun x33 =>
  (jas 0 r27.2 x31 a2 (x33 + r27.1)).bind fun h35 =>
  (jck 5 h35 a0).bind fun _ =>
  (f_X5_turnBy N h35 a0 a1 a2 r27.1).bind fun r37 =>
  if a3 = 0 then (jgr 5 r37 a0 6).bind fun x42 =>
  (jal 0 r37 x42 x11).bind fun x44 =>
  f_X5_drift_b80 N a0 a1 a2 a0 a1 a2 x44 r37
  else f_X5_drift_b80 N a0 a1 a2 a0 a1 a2 3 r37
set_option maxRecDepth 100000 in
set_option maxHeartbeats 4000000 in
theorem lk_X5_drift_b80 {G : JG} {X : JX} (E : jE G X (RX5, cX5_drift, 6)) (hX : X.2.2.2.1 = jRm 3 0 0) (hr : X.2.2.2.2.2.2.2.2.1.sig.returnType = none) (N : Nat) {w0 : Nat} {w1 : Nat} {w2 : Int32} {w3 : Nat} {w4 : Nat} {w5 : Int32} {w6 : Int32} {h : AH}  {r : AH} (hf : f_X5_drift_b80 N w0 w1 w2 w3 w4 w5 w6 h = some r) : JW G X (RX5, cX5_drift, 6) h [] [.int w6, .int w5, .ref w4, .ref w3, .int w2, .ref w1, .ref w0] 80 0 0 (jEnd G X (jpv r) 0 0) := by
  unfold f_X5_drift_b80 at hf
  obtain ⟨u3, e4, hf⟩ := jbind hf
  obtain ⟨r1, e2, hf⟩ := jbind hf
  refine J_callV E (jd dk_X5_drift_1 4 rfl) ml_RX5_85 cal_X5_wayOn e4 rfl (lk_X5_wayOn (jE_g E) (jE_tr E) N e2) rfl (Nat.le_of_ble_eq_true rfl) (jR_le hX (by decide) (by decide)) (jF0 hX) rfl ?_
  rintro _ _ ⟨rfl, rfl⟩
  obtain ⟨u7, e8, hf⟩ := jbind hf
  obtain ⟨r5, e6, hf⟩ := jbind hf
  refine J_callV E (jd dk_X5_drift_1 5 rfl) ml_RX5_88 cal_X5_goOn e8 rfl (lk_X5_goOn (jE_g E) (jE_tr E) N e6) rfl (Nat.le_of_ble_eq_true rfl) (jR_le hX (by decide) (by decide)) (jF0 hX) rfl ?_
  rintro _ _ ⟨rfl, rfl⟩
  cases hf
  exact J_vret E hr (jd dk_X5_drift_1 6 rfl) (Nat.le_refl _) (Nat.le_refl _) ⟨rfl, rfl⟩
set_option maxRecDepth 100000 in
set_option maxHeartbeats 4000000 in
theorem lk_X5_drift {G : JG} {l : Launch} (hG : jG G) (htr : l.stackTraces = false) (N : Nat) {h : AH} {a0 : Nat} {a1 : Nat} {a2 : Int32} {a3 : Int32} {r : AH} (hf : f_X5_drift N h a0 a1 a2 a3 = some r) : jMet G l yX5_drift cX5_drift 6 none 3 0 0 [.ref a0, .ref a1, .int a2, .int a3] h (jpv r) := by
  unfold f_X5_drift at hf
  refine jMet_of hG htr (by decide) (Nat.le_of_ble_eq_true rfl) ?_
  intro X E hl9 hr hX _ _
  show JW G X (RX5, cX5_drift, 6) h [(0, .ref a0), (1, .ref a1), (2, .int a2), (3, .int a3)] [] 0 0 0 (jEnd G X (jpv r) 0 0)
  refine J_aload_n E (jd dk_X5_drift_0 0 rfl) rfl 0 rfl ?_
  obtain ⟨x9, e10, hf⟩ := jbind hf
  refine J_getr E (jd dk_X5_drift_0 1 rfl) fl_RX5_15 e10 ?_
  refine J_iload_n E (jd dk_X5_drift_0 2 rfl) rfl 2 rfl ?_
  obtain ⟨x11, e12, hf⟩ := jbind hf
  refine J_iald E (jd dk_X5_drift_0 3 rfl) e12 ?_
  refine J_istore (lv' := [(4, .int x11), (0, .ref a0), (1, .ref a1), (2, .int a2), (3, .int a3)]) E (jd dk_X5_drift_0 4 rfl) (by decide) rfl ?_
  refine J_aload_n E (jd dk_X5_drift_0 5 rfl) rfl 1 rfl ?_
  obtain ⟨x13, e14, hf⟩ := jbind hf
  refine J_getr E (jd dk_X5_drift_0 6 rfl) fl_RX5_22 e14 ?_
  refine J_iload_n E (jd dk_X5_drift_0 7 rfl) rfl 3 rfl ?_
  refine J_dup2 E (jd dk_X5_drift_0 8 rfl) rfl rfl ?_
  obtain ⟨x15, e16, hf⟩ := jbind hf
  refine J_iald E (jd dk_X5_drift_0 9 rfl) e16 ?_
  refine J_iconst (v := 1) E (jd dk_X5_drift_0 10 rfl) rfl ?_
  refine J_aload_n E (jd dk_X5_drift_0 11 rfl) rfl 1 rfl ?_
  obtain ⟨x17, e18, hf⟩ := jbind hf
  refine J_getr E (jd dk_X5_drift_0 12 rfl) fl_RX5_19 e18 ?_
  refine J_iload_n E (jd dk_X5_drift_0 13 rfl) rfl 3 rfl ?_
  obtain ⟨x19, e20, hf⟩ := jbind hf
  refine J_iald E (jd dk_X5_drift_0 14 rfl) e20 ?_
  refine J_ishl E (jd dk_X5_drift_0 15 rfl) ?_
  refine J_ior E (jd dk_X5_drift_0 16 rfl) ?_
  obtain ⟨h21, e22, hf⟩ := jbind hf
  refine J_iast E (jd dk_X5_drift_0 17 rfl) e22 ?_
  refine J_aload_n E (jd dk_X5_drift_0 18 rfl) rfl 1 rfl ?_
  refine J_aload_n E (jd dk_X5_drift_0 19 rfl) rfl 2 rfl ?_
  refine J_iload_n E (jd dk_X5_drift_0 20 rfl) rfl 3 rfl ?_
  refine J_aload_n E (jd dk_X5_drift_0 21 rfl) rfl 1 rfl ?_
  obtain ⟨x23, e24, hf⟩ := jbind hf
  refine J_getr E (jd dk_X5_drift_0 22 rfl) fl_RX5_34 e24 ?_
  refine J_iload E (jd dk_X5_drift_0 23 rfl) 0 rfl ?_
  obtain ⟨x25, e26, hf⟩ := jbind hf
  refine J_iald E (jd dk_X5_drift_0 24 rfl) e26 ?_
  obtain ⟨u29, e30, hf⟩ := jbind hf
  obtain ⟨r27, e28, hf⟩ := jbind hf
  refine J_callV E (jd dk_X5_drift_0 25 rfl) ml_RX5_77 cal_X5_turnOn e30 rfl (lk_X5_turnOn (jE_g E) (jE_tr E) N e28) rfl (Nat.le_of_ble_eq_true rfl) (jR_le hX (by decide) (by decide)) (jF0 hX) rfl ?_
  rintro _ _ ⟨rfl, rfl⟩
  refine J_istore (lv' := [(5, .int r27.1), (4, .int x11), (0, .ref a0), (1, .ref a1), (2, .int a2), (3, .int a3)]) E (jd dk_X5_drift_0 26 rfl) (by decide) rfl ?_
  refine J_aload_n E (jd dk_X5_drift_0 27 rfl) rfl 2 rfl ?_
  obtain ⟨x31, e32, hf⟩ := jbind hf
  refine J_getr E (jd dk_X5_drift_0 28 rfl) fl_RX5_28 e32 ?_
  refine J_iload_n E (jd dk_X5_drift_0 29 rfl) rfl 4 rfl ?_
  refine J_dup2 E (jd dk_X5_drift_0 30 rfl) rfl rfl ?_
  obtain ⟨x33, e34, hf⟩ := jbind hf
  refine J_iald E (jd dk_X5_drift_0 31 rfl) e34 ?_
  refine J_iload E (jd dk_X5_drift_0 32 rfl) 0 rfl ?_
  refine J_iadd E (jd dk_X5_drift_0 33 rfl) ?_
  obtain ⟨h35, e36, hf⟩ := jbind hf
  refine J_iast E (jd dk_X5_drift_0 34 rfl) e36 ?_
  refine J_aload_n E (jd dk_X5_drift_0 35 rfl) rfl 2 rfl ?_
  refine J_aload_n E (jd dk_X5_drift_0 36 rfl) rfl 3 rfl ?_
  refine J_iload_n E (jd dk_X5_drift_0 37 rfl) rfl 4 rfl ?_
  refine J_iload E (jd dk_X5_drift_0 38 rfl) 0 rfl ?_
  obtain ⟨u39, e40, hf⟩ := jbind hf
  obtain ⟨r37, e38, hf⟩ := jbind hf
  refine J_callV E (jd dk_X5_drift_0 39 rfl) ml_RX5_81 cal_X5_turnBy e40 rfl (lk_X5_turnBy (jE_g E) (jE_tr E) N e38) rfl (Nat.le_of_ble_eq_true rfl) (jR_le hX (by decide) (by decide)) (jF0 hX) rfl ?_
  rintro _ _ ⟨rfl, rfl⟩
  refine J_aload_n E (jd dk_X5_drift_0 40 rfl) rfl 2 rfl ?_
  refine J_aload_n E (jd dk_X5_drift_0 41 rfl) rfl 3 rfl ?_
  refine J_iload_n E (jd dk_X5_drift_0 42 rfl) rfl 4 rfl ?_
  refine J_aload_n E (jd dk_X5_drift_0 43 rfl) rfl 2 rfl ?_
  refine J_aload_n E (jd dk_X5_drift_0 44 rfl) rfl 3 rfl ?_
  refine J_iload_n E (jd dk_X5_drift_0 45 rfl) rfl 4 rfl ?_
  refine J_iload_n E (jd dk_X5_drift_0 46 rfl) rfl 5 rfl ?_
  refine J_if_eq (tgt := 73) E (jd dk_X5_drift_0 47 rfl) (by decide) (fun c41 => ?_) (fun c41 => ?_)
  · replace hf := jif_t c41 hf
    refine J_aload_n E (jd dk_X5_drift_1 0 rfl) rfl 2 rfl ?_
    obtain ⟨x42, e43, hf⟩ := jbind hf
    refine J_getr E (jd dk_X5_drift_1 1 rfl) fl_RX5_31 e43 ?_
    refine J_iload E (jd dk_X5_drift_1 2 rfl) 1 rfl ?_
    obtain ⟨x44, e45, hf⟩ := jbind hf
    refine J_iald E (jd dk_X5_drift_1 3 rfl) e45 ?_
    refine J_sub [] rfl ?_
    exact lk_X5_drift_b80 E hX hr N hf
  · replace hf := jif_f c41 hf
    refine J_iconst (v := 3) E (jd dk_X5_drift_0 48 rfl) rfl ?_
    refine J_goto (tgt := 80) E (jd dk_X5_drift_0 49 rfl) (by decide) ?_
    refine J_sub [] rfl ?_
    exact lk_X5_drift_b80 E hX hr N hf
def f_X5_pass_b97 (N : Nat) (v0 : Nat) (v1 : Nat) (v2 : Int32) (v3 : Int32) (h : AH) : Option ((Int32 × AH) ⊕ ((AH))) :=
  some (.inl ((v3 + 1, h)))
def f_X5_pass_l60 (N : Nat) (v0 : Nat) (v1 : Nat) (v2 : Int32) (v3 : Int32) (h : AH) : Option ((Int32 × AH) ⊕ ((AH))) :=
  (jgi 1 h v1 2).bind fun x1 =>
  if x1 ≤ v3 then some (.inr h)
  else (jgr 5 h v0 1).bind fun x4 =>
  (jal 0 h x4 v3).bind fun x6 =>
  if x6 < 0 then f_X5_pass_b97 N v0 v1 v2 v3 h
  else (jgr 5 h v0 1).bind fun x9 =>
  (jal 0 h x9 v3).bind fun x11 =>
  (jgi 1 h v1 1).bind fun x13 =>
  if x13 ≤ x11 then f_X5_pass_b97 N v0 v1 v2 v3 h
  else (jck 5 h v0).bind fun _ =>
  (f_X5_drift N h v0 v1 v3 v2).bind fun r16 =>
  f_X5_pass_b97 N v0 v1 v2 v3 r16
def f_X5_pass_b60 (N : Nat) (v0 : Nat) (v1 : Nat) (v2 : Int32) (v3 : Int32) (h : AH) : Option AH :=
  (itr (fun s => f_X5_pass_l60 N v0 v1 v2 s.1 s.2) N (v3, h)).bind (fun e => (jgi 5 e v0 0).bind fun x20 =>
  (jwi 5 e v0 0 (x20 + 1)).bind fun h22 =>
  some h22)
def f_X5_pass_b52 (N : Nat) (v0 : Nat) (v1 : Nat) (v2 : Int32) (v3 : Int32) (h : AH) : Option ((Int32 × AH) ⊕ ((AH))) :=
  some (.inl ((v3 + 1, h)))
def f_X5_pass_b51 (N : Nat) (v0 : Nat) (v1 : Nat) (v2 : Int32) (v3 : Int32) (w0 : Nat) (w1 : Int32) (w2 : Int32) (h : AH) : Option ((Int32 × AH) ⊕ ((AH))) :=
  (jas 0 h w0 w1 w2).bind fun h24 =>
  f_X5_pass_b52 N v0 v1 v2 v3 h24
def f_X5_pass_l2 (N : Nat) (v0 : Nat) (v1 : Nat) (v2 : Int32) (v3 : Int32) (h : AH) : Option ((Int32 × AH) ⊕ ((AH))) :=
  (jgi 1 h v1 2).bind fun x26 =>
  if x26 ≤ v3 then some (.inr h)
  else (jgr 5 h v0 1).bind fun x29 =>
  (jal 0 h x29 v3).bind fun x31 =>
  if x31 = ((-1)) then (jgr 1 h v1 7).bind fun x34 =>
  (jal 0 h x34 v3).bind fun x36 =>
  (jgi 5 h v0 0).bind fun x38 =>
  if x36 = x38 then (jgr 5 h v0 1).bind fun x41 =>
  (jgi 1 h v1 1).bind fun x43 =>
  if x43 ≤ 0 then f_X5_pass_b51 N v0 v1 v2 v3 x41 v3 ((-2)) h
  else f_X5_pass_b51 N v0 v1 v2 v3 x41 v3 0 h
  else f_X5_pass_b52 N v0 v1 v2 v3 h
  else f_X5_pass_b52 N v0 v1 v2 v3 h
def f_X5_pass_b2 (N : Nat) (v0 : Nat) (v1 : Nat) (v2 : Int32) (v3 : Int32) (h : AH) : Option AH :=
  (itr (fun s => f_X5_pass_l2 N v0 v1 v2 s.1 s.2) N (v3, h)).bind (fun e => f_X5_pass_b60 N v0 v1 v2 0 e)
def f_X5_pass (N : Nat) (h : AH) (a0 : Nat) (a1 : Nat) (a2 : Int32) : Option AH :=
  f_X5_pass_b2 N a0 a1 a2 0 h
set_option maxRecDepth 100000 in
set_option maxHeartbeats 4000000 in
theorem lk_X5_pass_b97 {G : JG} {X : JX} (E : jE G X (RX5, cX5_pass, 4)) (hX : X.2.2.2.1 = jRm 4 0 0) (hr : X.2.2.2.2.2.2.2.2.1.sig.returnType = none) (N : Nat) {Q : State → Prop} {v0 : Nat} {v1 : Nat} {v2 : Int32} {v3 : Int32} {h : AH}  {q : ((Int32 × AH) ⊕ ((AH)))} (hf : f_X5_pass_b97 N v0 v1 v2 v3 h = some q) (kb : ∀ s' : Int32 × AH, q = .inl s' → JW G X (RX5, cX5_pass, 4) s'.2 [(0, .ref v0), (1, .ref v1), (2, .int v2), (3, .int s'.1)] [] 60 0 0 Q) (ke0 : ∀ e : AH, q = .inr e → JW G X (RX5, cX5_pass, 4) e [(0, .ref v0)] [] 103 0 0 Q) : JW G X (RX5, cX5_pass, 4) h [(0, .ref v0), (1, .ref v1), (2, .int v2), (3, .int v3)] [] 97 0 0 Q := by
  unfold f_X5_pass_b97 at hf
  refine J_iinc (v := v3 + 1) (lv' := [(3, .int (v3 + 1)), (0, .ref v0), (1, .ref v1), (2, .int v2)]) E (jd dk_X5_pass_1 4 rfl) 3 rfl rfl (by decide) rfl ?_
  refine J_goto (tgt := 60) E (jd dk_X5_pass_1 5 rfl) (by decide) ?_
  refine J_sub [1, 2, 3, 0] rfl ?_
  exact kb _ (Option.some.inj hf).symm
set_option maxRecDepth 100000 in
set_option maxHeartbeats 4000000 in
theorem lk_X5_pass_l60 {G : JG} {X : JX} (E : jE G X (RX5, cX5_pass, 4)) (hX : X.2.2.2.1 = jRm 4 0 0) (hr : X.2.2.2.2.2.2.2.2.1.sig.returnType = none) (N : Nat) {Q : State → Prop} {v0 : Nat} {v1 : Nat} {v2 : Int32} {v3 : Int32}  {h : AH} {q : ((Int32 × AH) ⊕ ((AH)))} (hf : f_X5_pass_l60 N v0 v1 v2 v3 h = some q) (kb : ∀ s' : Int32 × AH, q = .inl s' → JW G X (RX5, cX5_pass, 4) s'.2 [(0, .ref v0), (1, .ref v1), (2, .int v2), (3, .int s'.1)] [] 60 0 0 Q) (ke0 : ∀ e : AH, q = .inr e → JW G X (RX5, cX5_pass, 4) e [(0, .ref v0)] [] 103 0 0 Q) : JW G X (RX5, cX5_pass, 4) h [(0, .ref v0), (1, .ref v1), (2, .int v2), (3, .int v3)] [] 60 0 0 Q := by
  unfold f_X5_pass_l60 at hf
  refine J_iload_n E (jd dk_X5_pass_0 33 rfl) rfl 3 rfl ?_
  refine J_aload_n E (jd dk_X5_pass_0 34 rfl) rfl 1 rfl ?_
  obtain ⟨x1, e2, hf⟩ := jbind hf
  refine J_geti E (jd dk_X5_pass_0 35 rfl) fl_RX5_64 e2 ?_
  refine J_icmp_ge (tgt := 103) E (jd dk_X5_pass_0 36 rfl) (by decide) (fun c3 => ?_) (fun c3 => ?_)
  · replace hf := jif_t c3 hf
    refine J_sub [0] rfl ?_
    exact ke0 _ (Option.some.inj hf).symm
  · replace hf := jif_f c3 hf
    refine J_aload_n E (jd dk_X5_pass_0 37 rfl) rfl 0 rfl ?_
    obtain ⟨x4, e5, hf⟩ := jbind hf
    refine J_getr E (jd dk_X5_pass_0 38 rfl) fl_RX5_15 e5 ?_
    refine J_iload_n E (jd dk_X5_pass_0 39 rfl) rfl 3 rfl ?_
    obtain ⟨x6, e7, hf⟩ := jbind hf
    refine J_iald E (jd dk_X5_pass_0 40 rfl) e7 ?_
    refine J_if_lt (tgt := 97) E (jd dk_X5_pass_0 41 rfl) (by decide) (fun c8 => ?_) (fun c8 => ?_)
    · replace hf := jif_t c8 hf
      exact lk_X5_pass_b97 E hX hr N hf kb ke0
    · replace hf := jif_f c8 hf
      refine J_aload_n E (jd dk_X5_pass_0 42 rfl) rfl 0 rfl ?_
      obtain ⟨x9, e10, hf⟩ := jbind hf
      refine J_getr E (jd dk_X5_pass_0 43 rfl) fl_RX5_15 e10 ?_
      refine J_iload_n E (jd dk_X5_pass_0 44 rfl) rfl 3 rfl ?_
      obtain ⟨x11, e12, hf⟩ := jbind hf
      refine J_iald E (jd dk_X5_pass_0 45 rfl) e12 ?_
      refine J_aload_n E (jd dk_X5_pass_0 46 rfl) rfl 1 rfl ?_
      obtain ⟨x13, e14, hf⟩ := jbind hf
      refine J_geti E (jd dk_X5_pass_0 47 rfl) fl_RX5_70 e14 ?_
      refine J_icmp_ge (tgt := 97) E (jd dk_X5_pass_0 48 rfl) (by decide) (fun c15 => ?_) (fun c15 => ?_)
      · replace hf := jif_t c15 hf
        exact lk_X5_pass_b97 E hX hr N hf kb ke0
      · replace hf := jif_f c15 hf
        refine J_aload_n E (jd dk_X5_pass_0 49 rfl) rfl 0 rfl ?_
        refine J_aload_n E (jd dk_X5_pass_1 0 rfl) rfl 1 rfl ?_
        refine J_iload_n E (jd dk_X5_pass_1 1 rfl) rfl 3 rfl ?_
        refine J_iload_n E (jd dk_X5_pass_1 2 rfl) rfl 2 rfl ?_
        obtain ⟨u18, e19, hf⟩ := jbind hf
        obtain ⟨r16, e17, hf⟩ := jbind hf
        refine J_callV E (jd dk_X5_pass_1 3 rfl) ml_RX5_73 cal_X5_drift e19 rfl (lk_X5_drift (jE_g E) (jE_tr E) N e17) rfl (Nat.le_of_ble_eq_true rfl) (jR_le hX (by decide) (by decide)) (jF0 hX) rfl ?_
        rintro _ _ ⟨rfl, rfl⟩
        exact lk_X5_pass_b97 E hX hr N hf kb ke0
set_option maxRecDepth 100000 in
set_option maxHeartbeats 4000000 in
theorem lk_X5_pass_b60 {G : JG} {X : JX} (E : jE G X (RX5, cX5_pass, 4)) (hX : X.2.2.2.1 = jRm 4 0 0) (hr : X.2.2.2.2.2.2.2.2.1.sig.returnType = none) (N : Nat) {v0 : Nat} {v1 : Nat} {v2 : Int32} {v3 : Int32} {h : AH}  {r : AH} (hf : f_X5_pass_b60 N v0 v1 v2 v3 h = some r) : JW G X (RX5, cX5_pass, 4) h [(0, .ref v0), (1, .ref v1), (2, .int v2), (3, .int v3)] [] 60 0 0 (jEnd G X (jpv r) 0 0) := by
  unfold f_X5_pass_b60 at hf
  obtain ⟨q1, h1, hf⟩ := jbind hf
  refine jloop (P := fun s => JW G X (RX5, cX5_pass, 4) s.2 [(0, .ref v0), (1, .ref v1), (2, .int v2), (3, .int s.1)] [] 60 0 0 (jEnd G X (jpv r) 0 0)) (Ex := fun (e : AH) => JW G X (RX5, cX5_pass, 4) e [(0, .ref v0)] [] 103 0 0 (jEnd G X (jpv r) 0 0)) (fun s q hs hb hx => lk_X5_pass_l60 E hX hr N hs (fun s' hs => hb s' hs) (fun e he => hx e he)) N _ q1 h1 ?_
  generalize q1 = e at hf ⊢
  refine J_aload_n E (jd dk_X5_pass_1 6 rfl) rfl 0 rfl ?_
  refine J_dup E (jd dk_X5_pass_1 7 rfl) rfl ?_
  obtain ⟨x20, e21, hf⟩ := jbind hf
  refine J_geti E (jd dk_X5_pass_1 8 rfl) fl_RX5_9 e21 ?_
  refine J_iconst (v := 1) E (jd dk_X5_pass_1 9 rfl) rfl ?_
  refine J_iadd E (jd dk_X5_pass_1 10 rfl) ?_
  obtain ⟨h22, e23, hf⟩ := jbind hf
  refine J_put E (jd dk_X5_pass_1 11 rfl) fl_RX5_9 e23 (fun _ => rfl) (fun _ => rfl) ?_
  cases hf
  exact J_vret E hr (jd dk_X5_pass_1 12 rfl) (Nat.le_refl _) (Nat.le_refl _) ⟨rfl, rfl⟩
set_option maxRecDepth 100000 in
set_option maxHeartbeats 4000000 in
theorem lk_X5_pass_b52 {G : JG} {X : JX} (E : jE G X (RX5, cX5_pass, 4)) (hX : X.2.2.2.1 = jRm 4 0 0) (hr : X.2.2.2.2.2.2.2.2.1.sig.returnType = none) (N : Nat) {Q : State → Prop} {v0 : Nat} {v1 : Nat} {v2 : Int32} {v3 : Int32} {h : AH}  {q : ((Int32 × AH) ⊕ ((AH)))} (hf : f_X5_pass_b52 N v0 v1 v2 v3 h = some q) (kb : ∀ s' : Int32 × AH, q = .inl s' → JW G X (RX5, cX5_pass, 4) s'.2 [(0, .ref v0), (1, .ref v1), (2, .int v2), (3, .int s'.1)] [] 2 0 0 Q) (ke0 : ∀ e : AH, q = .inr e → JW G X (RX5, cX5_pass, 4) e [(0, .ref v0), (1, .ref v1), (2, .int v2)] [] 58 0 0 Q) : JW G X (RX5, cX5_pass, 4) h [(0, .ref v0), (1, .ref v1), (2, .int v2), (3, .int v3)] [] 52 0 0 Q := by
  unfold f_X5_pass_b52 at hf
  refine J_iinc (v := v3 + 1) (lv' := [(3, .int (v3 + 1)), (0, .ref v0), (1, .ref v1), (2, .int v2)]) E (jd dk_X5_pass_0 29 rfl) 3 rfl rfl (by decide) rfl ?_
  refine J_goto (tgt := 2) E (jd dk_X5_pass_0 30 rfl) (by decide) ?_
  refine J_sub [1, 2, 3, 0] rfl ?_
  exact kb _ (Option.some.inj hf).symm
set_option maxRecDepth 100000 in
set_option maxHeartbeats 4000000 in
theorem lk_X5_pass_b51 {G : JG} {X : JX} (E : jE G X (RX5, cX5_pass, 4)) (hX : X.2.2.2.1 = jRm 4 0 0) (hr : X.2.2.2.2.2.2.2.2.1.sig.returnType = none) (N : Nat) {Q : State → Prop} {v0 : Nat} {v1 : Nat} {v2 : Int32} {v3 : Int32} {w0 : Nat} {w1 : Int32} {w2 : Int32} {h : AH}  {q : ((Int32 × AH) ⊕ ((AH)))} (hf : f_X5_pass_b51 N v0 v1 v2 v3 w0 w1 w2 h = some q) (kb : ∀ s' : Int32 × AH, q = .inl s' → JW G X (RX5, cX5_pass, 4) s'.2 [(0, .ref v0), (1, .ref v1), (2, .int v2), (3, .int s'.1)] [] 2 0 0 Q) (ke0 : ∀ e : AH, q = .inr e → JW G X (RX5, cX5_pass, 4) e [(0, .ref v0), (1, .ref v1), (2, .int v2)] [] 58 0 0 Q) : JW G X (RX5, cX5_pass, 4) h [(0, .ref v0), (1, .ref v1), (2, .int v2), (3, .int v3)] [.int w2, .int w1, .ref w0] 51 0 0 Q := by
  unfold f_X5_pass_b51 at hf
  obtain ⟨h24, e25, hf⟩ := jbind hf
  refine J_iast E (jd dk_X5_pass_0 28 rfl) e25 ?_
  exact lk_X5_pass_b52 E hX hr N hf kb ke0
set_option maxRecDepth 100000 in
set_option maxHeartbeats 4000000 in
theorem lk_X5_pass_l2 {G : JG} {X : JX} (E : jE G X (RX5, cX5_pass, 4)) (hX : X.2.2.2.1 = jRm 4 0 0) (hr : X.2.2.2.2.2.2.2.2.1.sig.returnType = none) (N : Nat) {Q : State → Prop} {v0 : Nat} {v1 : Nat} {v2 : Int32} {v3 : Int32}  {h : AH} {q : ((Int32 × AH) ⊕ ((AH)))} (hf : f_X5_pass_l2 N v0 v1 v2 v3 h = some q) (kb : ∀ s' : Int32 × AH, q = .inl s' → JW G X (RX5, cX5_pass, 4) s'.2 [(0, .ref v0), (1, .ref v1), (2, .int v2), (3, .int s'.1)] [] 2 0 0 Q) (ke0 : ∀ e : AH, q = .inr e → JW G X (RX5, cX5_pass, 4) e [(0, .ref v0), (1, .ref v1), (2, .int v2)] [] 58 0 0 Q) : JW G X (RX5, cX5_pass, 4) h [(0, .ref v0), (1, .ref v1), (2, .int v2), (3, .int v3)] [] 2 0 0 Q := by
  unfold f_X5_pass_l2 at hf
  refine J_iload_n E (jd dk_X5_pass_0 2 rfl) rfl 3 rfl ?_
  refine J_aload_n E (jd dk_X5_pass_0 3 rfl) rfl 1 rfl ?_
  obtain ⟨x26, e27, hf⟩ := jbind hf
  refine J_geti E (jd dk_X5_pass_0 4 rfl) fl_RX5_64 e27 ?_
  refine J_icmp_ge (tgt := 58) E (jd dk_X5_pass_0 5 rfl) (by decide) (fun c28 => ?_) (fun c28 => ?_)
  · replace hf := jif_t c28 hf
    refine J_sub [0, 1, 2] rfl ?_
    exact ke0 _ (Option.some.inj hf).symm
  · replace hf := jif_f c28 hf
    refine J_aload_n E (jd dk_X5_pass_0 6 rfl) rfl 0 rfl ?_
    obtain ⟨x29, e30, hf⟩ := jbind hf
    refine J_getr E (jd dk_X5_pass_0 7 rfl) fl_RX5_15 e30 ?_
    refine J_iload_n E (jd dk_X5_pass_0 8 rfl) rfl 3 rfl ?_
    obtain ⟨x31, e32, hf⟩ := jbind hf
    refine J_iald E (jd dk_X5_pass_0 9 rfl) e32 ?_
    refine J_iconst (v := (-1)) E (jd dk_X5_pass_0 10 rfl) rfl ?_
    refine J_icmp_ne (tgt := 52) E (jd dk_X5_pass_0 11 rfl) (by decide) (fun c33 => ?_) (fun c33 => ?_)
    · replace hf := jif_f c33 hf
      exact lk_X5_pass_b52 E hX hr N hf kb ke0
    · replace hf := jif_t c33 hf
      refine J_aload_n E (jd dk_X5_pass_0 12 rfl) rfl 1 rfl ?_
      obtain ⟨x34, e35, hf⟩ := jbind hf
      refine J_getr E (jd dk_X5_pass_0 13 rfl) fl_RX5_67 e35 ?_
      refine J_iload_n E (jd dk_X5_pass_0 14 rfl) rfl 3 rfl ?_
      obtain ⟨x36, e37, hf⟩ := jbind hf
      refine J_iald E (jd dk_X5_pass_0 15 rfl) e37 ?_
      refine J_aload_n E (jd dk_X5_pass_0 16 rfl) rfl 0 rfl ?_
      obtain ⟨x38, e39, hf⟩ := jbind hf
      refine J_geti E (jd dk_X5_pass_0 17 rfl) fl_RX5_9 e39 ?_
      refine J_icmp_ne (tgt := 52) E (jd dk_X5_pass_0 18 rfl) (by decide) (fun c40 => ?_) (fun c40 => ?_)
      · replace hf := jif_f c40 hf
        exact lk_X5_pass_b52 E hX hr N hf kb ke0
      · replace hf := jif_t c40 hf
        refine J_aload_n E (jd dk_X5_pass_0 19 rfl) rfl 0 rfl ?_
        obtain ⟨x41, e42, hf⟩ := jbind hf
        refine J_getr E (jd dk_X5_pass_0 20 rfl) fl_RX5_15 e42 ?_
        refine J_iload_n E (jd dk_X5_pass_0 21 rfl) rfl 3 rfl ?_
        refine J_aload_n E (jd dk_X5_pass_0 22 rfl) rfl 1 rfl ?_
        obtain ⟨x43, e44, hf⟩ := jbind hf
        refine J_geti E (jd dk_X5_pass_0 23 rfl) fl_RX5_70 e44 ?_
        refine J_if_le (tgt := 49) E (jd dk_X5_pass_0 24 rfl) (by decide) (fun c45 => ?_) (fun c45 => ?_)
        · replace hf := jif_t c45 hf
          refine J_bipush (v := (-2)) E (jd dk_X5_pass_0 27 rfl) (by decide) ?_
          exact lk_X5_pass_b51 E hX hr N hf kb ke0
        · replace hf := jif_f c45 hf
          refine J_iconst (v := 0) E (jd dk_X5_pass_0 25 rfl) rfl ?_
          refine J_goto (tgt := 51) E (jd dk_X5_pass_0 26 rfl) (by decide) ?_
          exact lk_X5_pass_b51 E hX hr N hf kb ke0
set_option maxRecDepth 100000 in
set_option maxHeartbeats 4000000 in
theorem lk_X5_pass_b2 {G : JG} {X : JX} (E : jE G X (RX5, cX5_pass, 4)) (hX : X.2.2.2.1 = jRm 4 0 0) (hr : X.2.2.2.2.2.2.2.2.1.sig.returnType = none) (N : Nat) {v0 : Nat} {v1 : Nat} {v2 : Int32} {v3 : Int32} {h : AH}  {r : AH} (hf : f_X5_pass_b2 N v0 v1 v2 v3 h = some r) : JW G X (RX5, cX5_pass, 4) h [(0, .ref v0), (1, .ref v1), (2, .int v2), (3, .int v3)] [] 2 0 0 (jEnd G X (jpv r) 0 0) := by
  unfold f_X5_pass_b2 at hf
  obtain ⟨q1, h1, hf⟩ := jbind hf
  refine jloop (P := fun s => JW G X (RX5, cX5_pass, 4) s.2 [(0, .ref v0), (1, .ref v1), (2, .int v2), (3, .int s.1)] [] 2 0 0 (jEnd G X (jpv r) 0 0)) (Ex := fun (e : AH) => JW G X (RX5, cX5_pass, 4) e [(0, .ref v0), (1, .ref v1), (2, .int v2)] [] 58 0 0 (jEnd G X (jpv r) 0 0)) (fun s q hs hb hx => lk_X5_pass_l2 E hX hr N hs (fun s' hs => hb s' hs) (fun e he => hx e he)) N _ q1 h1 ?_
  generalize q1 = e at hf ⊢
  refine J_iconst (v := 0) E (jd dk_X5_pass_0 31 rfl) rfl ?_
  refine J_istore_n (lv' := [(3, .int 0), (0, .ref v0), (1, .ref v1), (2, .int v2)]) E (jd dk_X5_pass_0 32 rfl) rfl (by decide) rfl ?_
  refine J_sub [1, 2, 3, 0] rfl ?_
  exact lk_X5_pass_b60 E hX hr N hf
set_option maxRecDepth 100000 in
set_option maxHeartbeats 4000000 in
theorem lk_X5_pass {G : JG} {l : Launch} (hG : jG G) (htr : l.stackTraces = false) (N : Nat) {h : AH} {a0 : Nat} {a1 : Nat} {a2 : Int32} {r : AH} (hf : f_X5_pass N h a0 a1 a2 = some r) : jMet G l yX5_pass cX5_pass 4 none 4 0 0 [.ref a0, .ref a1, .int a2] h (jpv r) := by
  unfold f_X5_pass at hf
  refine jMet_of hG htr (by decide) (Nat.le_of_ble_eq_true rfl) ?_
  intro X E hl9 hr hX _ _
  show JW G X (RX5, cX5_pass, 4) h [(0, .ref a0), (1, .ref a1), (2, .int a2)] [] 0 0 0 (jEnd G X (jpv r) 0 0)
  refine J_iconst (v := 0) E (jd dk_X5_pass_0 0 rfl) rfl ?_
  refine J_istore_n (lv' := [(3, .int 0), (0, .ref a0), (1, .ref a1), (2, .int a2)]) E (jd dk_X5_pass_0 1 rfl) rfl (by decide) rfl ?_
  refine J_sub [1, 2, 3, 0] rfl ?_
  exact lk_X5_pass_b2 E hX hr N hf
def f_X5_isOnPool_b33 (N : Nat)  (h : AH) : Option (Int32 × AH) :=
  some (0, h)
def f_X5_isOnPool (N : Nat) (h : AH) (a0 : Nat) (a1 : Int32) : Option (Int32 × AH) :=
  (jgr 5 h a0 1).bind fun x1 =>
  (jal 0 h x1 a1).bind fun x3 =>
  if x3 < 0 then f_X5_isOnPool_b33 N  h
  else (jgr 5 h a0 6).bind fun x6 =>
  (jln 0 h x6).bind fun x8 =>
  if x8 ≤ x3 then f_X5_isOnPool_b33 N  h
  else (jgr 5 h a0 6).bind fun x11 =>
  (jal 0 h x11 x3).bind fun x13 =>
  if x13 = 0 then some (1, h)
  else f_X5_isOnPool_b33 N  h
set_option maxRecDepth 100000 in
set_option maxHeartbeats 4000000 in
theorem lk_X5_isOnPool_b33 {G : JG} {X : JX} (E : jE G X (RX5, cX5_isOnPool, 3)) (hX : X.2.2.2.1 = jRm 0 0 0) (hr : X.2.2.2.2.2.2.2.2.1.sig.returnType = (some .boolean)) (N : Nat)  {h : AH}  {r : (Int32 × AH)} (hf : f_X5_isOnPool_b33 N  h = some r) : JW G X (RX5, cX5_isOnPool, 3) h [] [] 33 0 0 (jEnd G X (jpi r) 0 0) := by
  unfold f_X5_isOnPool_b33 at hf
  refine J_iconst (v := 0) E (jd dk_X5_isOnPool_0 19 rfl) rfl ?_
  cases hf
  exact J_iret E hr rfl (jd dk_X5_isOnPool_0 20 rfl) (Nat.le_refl _) (Nat.le_refl _) ⟨rfl, rfl⟩
set_option maxRecDepth 100000 in
set_option maxHeartbeats 4000000 in
theorem lk_X5_isOnPool {G : JG} {l : Launch} (hG : jG G) (htr : l.stackTraces = false) (N : Nat) {h : AH} {a0 : Nat} {a1 : Int32} {r : (Int32 × AH)} (hf : f_X5_isOnPool N h a0 a1 = some r) : jMet G l yX5_isOnPool cX5_isOnPool 3 (some .boolean) 0 0 0 [.ref a0, .int a1] h (jpi r) := by
  unfold f_X5_isOnPool at hf
  refine jMet_of hG htr (by decide) (Nat.le_of_ble_eq_true rfl) ?_
  intro X E hl9 hr hX _ _
  show JW G X (RX5, cX5_isOnPool, 3) h [(0, .ref a0), (1, .int a1)] [] 0 0 0 (jEnd G X (jpi r) 0 0)
  refine J_aload_n E (jd dk_X5_isOnPool_0 0 rfl) rfl 0 rfl ?_
  obtain ⟨x1, e2, hf⟩ := jbind hf
  refine J_getr E (jd dk_X5_isOnPool_0 1 rfl) fl_RX5_15 e2 ?_
  refine J_iload_n E (jd dk_X5_isOnPool_0 2 rfl) rfl 1 rfl ?_
  obtain ⟨x3, e4, hf⟩ := jbind hf
  refine J_iald E (jd dk_X5_isOnPool_0 3 rfl) e4 ?_
  refine J_istore_n (lv' := [(2, .int x3), (0, .ref a0), (1, .int a1)]) E (jd dk_X5_isOnPool_0 4 rfl) rfl (by decide) rfl ?_
  refine J_iload_n E (jd dk_X5_isOnPool_0 5 rfl) rfl 0 rfl ?_
  refine J_if_lt (tgt := 33) E (jd dk_X5_isOnPool_0 6 rfl) (by decide) (fun c5 => ?_) (fun c5 => ?_)
  · replace hf := jif_t c5 hf
    refine J_sub [] rfl ?_
    exact lk_X5_isOnPool_b33 E hX hr N hf
  · replace hf := jif_f c5 hf
    refine J_iload_n E (jd dk_X5_isOnPool_0 7 rfl) rfl 0 rfl ?_
    refine J_aload_n E (jd dk_X5_isOnPool_0 8 rfl) rfl 1 rfl ?_
    obtain ⟨x6, e7, hf⟩ := jbind hf
    refine J_getr E (jd dk_X5_isOnPool_0 9 rfl) fl_RX5_31 e7 ?_
    obtain ⟨x8, e9, hf⟩ := jbind hf
    refine J_alen E (by decide) (jd dk_X5_isOnPool_0 10 rfl) e9 ?_
    refine J_icmp_ge (tgt := 33) E (jd dk_X5_isOnPool_0 11 rfl) (by decide) (fun c10 => ?_) (fun c10 => ?_)
    · replace hf := jif_t c10 hf
      refine J_sub [] rfl ?_
      exact lk_X5_isOnPool_b33 E hX hr N hf
    · replace hf := jif_f c10 hf
      refine J_aload_n E (jd dk_X5_isOnPool_0 12 rfl) rfl 1 rfl ?_
      obtain ⟨x11, e12, hf⟩ := jbind hf
      refine J_getr E (jd dk_X5_isOnPool_0 13 rfl) fl_RX5_31 e12 ?_
      refine J_iload_n E (jd dk_X5_isOnPool_0 14 rfl) rfl 0 rfl ?_
      obtain ⟨x13, e14, hf⟩ := jbind hf
      refine J_iald E (jd dk_X5_isOnPool_0 15 rfl) e14 ?_
      refine J_if_ne (tgt := 33) E (jd dk_X5_isOnPool_0 16 rfl) (by decide) (fun c15 => ?_) (fun c15 => ?_)
      · replace hf := jif_f c15 hf
        refine J_sub [] rfl ?_
        exact lk_X5_isOnPool_b33 E hX hr N hf
      · replace hf := jif_t c15 hf
        refine J_iconst (v := 1) E (jd dk_X5_isOnPool_0 17 rfl) rfl ?_
        refine J_goto (tgt := 34) E (jd dk_X5_isOnPool_0 18 rfl) (by decide) ?_
        cases hf
        exact J_iret E hr rfl (jd dk_X5_isOnPool_0 20 rfl) (Nat.le_refl _) (Nat.le_refl _) ⟨rfl, rfl⟩
def f_X5_isAlone_b30 (N : Nat)  (h : AH) : Option (Int32 × AH) :=
  some (0, h)
def f_X5_isAlone (N : Nat) (h : AH) (a0 : Nat) (a1 : Nat) (a2 : Int32) : Option (Int32 × AH) :=
  (jgr 5 h a0 1).bind fun x1 =>
  (jal 0 h x1 a2).bind fun x3 =>
  if x3 < 0 then f_X5_isAlone_b30 N  h
  else (jgr 5 h a0 1).bind fun x6 =>
  (jal 0 h x6 a2).bind fun x8 =>
  (jck 5 h a0).bind fun _ =>
  (f_X5_onesOn N h a0 a1 x8).bind fun r10 =>
  if r10.1 = ((1 : Int32) <<< (a2 &&& 31)) then some (1, r10.2)
  else f_X5_isAlone_b30 N  r10.2
set_option maxRecDepth 100000 in
set_option maxHeartbeats 4000000 in
theorem lk_X5_isAlone_b30 {G : JG} {X : JX} (E : jE G X (RX5, cX5_isAlone, 3)) (hX : X.2.2.2.1 = jRm 1 0 0) (hr : X.2.2.2.2.2.2.2.2.1.sig.returnType = (some .boolean)) (N : Nat)  {h : AH}  {r : (Int32 × AH)} (hf : f_X5_isAlone_b30 N  h = some r) : JW G X (RX5, cX5_isAlone, 3) h [] [] 30 0 0 (jEnd G X (jpi r) 0 0) := by
  unfold f_X5_isAlone_b30 at hf
  refine J_iconst (v := 0) E (jd dk_X5_isAlone_0 18 rfl) rfl ?_
  cases hf
  exact J_iret E hr rfl (jd dk_X5_isAlone_0 19 rfl) (Nat.le_refl _) (Nat.le_refl _) ⟨rfl, rfl⟩
set_option maxRecDepth 100000 in
set_option maxHeartbeats 4000000 in
theorem lk_X5_isAlone {G : JG} {l : Launch} (hG : jG G) (htr : l.stackTraces = false) (N : Nat) {h : AH} {a0 : Nat} {a1 : Nat} {a2 : Int32} {r : (Int32 × AH)} (hf : f_X5_isAlone N h a0 a1 a2 = some r) : jMet G l yX5_isAlone cX5_isAlone 3 (some .boolean) 1 0 0 [.ref a0, .ref a1, .int a2] h (jpi r) := by
  unfold f_X5_isAlone at hf
  refine jMet_of hG htr (by decide) (Nat.le_of_ble_eq_true rfl) ?_
  intro X E hl9 hr hX _ _
  show JW G X (RX5, cX5_isAlone, 3) h [(0, .ref a0), (1, .ref a1), (2, .int a2)] [] 0 0 0 (jEnd G X (jpi r) 0 0)
  refine J_aload_n E (jd dk_X5_isAlone_0 0 rfl) rfl 0 rfl ?_
  obtain ⟨x1, e2, hf⟩ := jbind hf
  refine J_getr E (jd dk_X5_isAlone_0 1 rfl) fl_RX5_15 e2 ?_
  refine J_iload_n E (jd dk_X5_isAlone_0 2 rfl) rfl 2 rfl ?_
  obtain ⟨x3, e4, hf⟩ := jbind hf
  refine J_iald E (jd dk_X5_isAlone_0 3 rfl) e4 ?_
  refine J_if_lt (tgt := 30) E (jd dk_X5_isAlone_0 4 rfl) (by decide) (fun c5 => ?_) (fun c5 => ?_)
  · replace hf := jif_t c5 hf
    refine J_sub [] rfl ?_
    exact lk_X5_isAlone_b30 E hX hr N hf
  · replace hf := jif_f c5 hf
    refine J_aload_n E (jd dk_X5_isAlone_0 5 rfl) rfl 0 rfl ?_
    refine J_aload_n E (jd dk_X5_isAlone_0 6 rfl) rfl 1 rfl ?_
    refine J_aload_n E (jd dk_X5_isAlone_0 7 rfl) rfl 0 rfl ?_
    obtain ⟨x6, e7, hf⟩ := jbind hf
    refine J_getr E (jd dk_X5_isAlone_0 8 rfl) fl_RX5_15 e7 ?_
    refine J_iload_n E (jd dk_X5_isAlone_0 9 rfl) rfl 2 rfl ?_
    obtain ⟨x8, e9, hf⟩ := jbind hf
    refine J_iald E (jd dk_X5_isAlone_0 10 rfl) e9 ?_
    obtain ⟨u12, e13, hf⟩ := jbind hf
    obtain ⟨r10, e11, hf⟩ := jbind hf
    refine J_callV E (jd dk_X5_isAlone_0 11 rfl) ml_RX5_146 cal_X5_onesOn e13 rfl (lk_X5_onesOn (jE_g E) (jE_tr E) N e11) rfl (Nat.le_of_ble_eq_true rfl) (jR_le hX (by decide) (by decide)) (jF0 hX) rfl ?_
    rintro _ _ ⟨rfl, rfl⟩
    refine J_iconst (v := 1) E (jd dk_X5_isAlone_0 12 rfl) rfl ?_
    refine J_iload_n E (jd dk_X5_isAlone_0 13 rfl) rfl 2 rfl ?_
    refine J_ishl E (jd dk_X5_isAlone_0 14 rfl) ?_
    refine J_icmp_ne (tgt := 30) E (jd dk_X5_isAlone_0 15 rfl) (by decide) (fun c14 => ?_) (fun c14 => ?_)
    · replace hf := jif_f c14 hf
      refine J_sub [] rfl ?_
      exact lk_X5_isAlone_b30 E hX hr N hf
    · replace hf := jif_t c14 hf
      refine J_iconst (v := 1) E (jd dk_X5_isAlone_0 16 rfl) rfl ?_
      refine J_goto (tgt := 31) E (jd dk_X5_isAlone_0 17 rfl) (by decide) ?_
      cases hf
      exact J_iret E hr rfl (jd dk_X5_isAlone_0 19 rfl) (Nat.le_refl _) (Nat.le_refl _) ⟨rfl, rfl⟩
def f_X5_landedOnes (N : Nat) (h : AH) (a0 : Nat) (a1 : Nat) : Option (Int32 × AH) :=
  (jck 5 h a0).bind fun _ =>
  (f_X5_onesOn N h a0 a1 ((-2))).bind fun r1 =>
  some (r1.1, r1.2)
set_option maxRecDepth 100000 in
set_option maxHeartbeats 4000000 in
theorem lk_X5_landedOnes {G : JG} {l : Launch} (hG : jG G) (htr : l.stackTraces = false) (N : Nat) {h : AH} {a0 : Nat} {a1 : Nat} {r : (Int32 × AH)} (hf : f_X5_landedOnes N h a0 a1 = some r) : jMet G l yX5_landedOnes cX5_landedOnes 2 (some .int) 1 0 0 [.ref a0, .ref a1] h (jpi r) := by
  unfold f_X5_landedOnes at hf
  refine jMet_of hG htr (by decide) (Nat.le_of_ble_eq_true rfl) ?_
  intro X E hl9 hr hX _ _
  show JW G X (RX5, cX5_landedOnes, 2) h [(0, .ref a0), (1, .ref a1)] [] 0 0 0 (jEnd G X (jpi r) 0 0)
  refine J_aload_n E (jd dk_X5_landedOnes_0 0 rfl) rfl 0 rfl ?_
  refine J_aload_n E (jd dk_X5_landedOnes_0 1 rfl) rfl 1 rfl ?_
  refine J_bipush (v := (-2)) E (jd dk_X5_landedOnes_0 2 rfl) (by decide) ?_
  obtain ⟨u3, e4, hf⟩ := jbind hf
  obtain ⟨r1, e2, hf⟩ := jbind hf
  refine J_callV E (jd dk_X5_landedOnes_0 3 rfl) ml_RX5_146 cal_X5_onesOn e4 rfl (lk_X5_onesOn (jE_g E) (jE_tr E) N e2) rfl (Nat.le_of_ble_eq_true rfl) (jR_le hX (by decide) (by decide)) (jF0 hX) rfl ?_
  rintro _ _ ⟨rfl, rfl⟩
  cases hf
  exact J_iret E hr rfl (jd dk_X5_landedOnes_0 4 rfl) (Nat.le_refl _) (Nat.le_refl _) ⟨rfl, rfl⟩
def f_X5_afloatOnes_b27 (N : Nat) (v0 : Nat) (v1 : Nat) (v2 : Int32) (v3 : Int32) (h : AH) : Option ((Int32 × Int32 × AH) ⊕ ((Int32 × AH))) :=
  some (.inl ((v2, v3 + 1, h)))
def f_X5_afloatOnes_l4 (N : Nat) (v0 : Nat) (v1 : Nat) (v2 : Int32) (v3 : Int32) (h : AH) : Option ((Int32 × Int32 × AH) ⊕ ((Int32 × AH))) :=
  (jgi 1 h v1 2).bind fun x1 =>
  if x1 ≤ v3 then some (.inr ((v2, h)))
  else (jgr 5 h v0 1).bind fun x4 =>
  (jal 0 h x4 v3).bind fun x6 =>
  if x6 < 0 then f_X5_afloatOnes_b27 N v0 v1 v2 v3 h
  else f_X5_afloatOnes_b27 N v0 v1 (v2 ||| ((1 : Int32) <<< (v3 &&& 31))) v3 h
def f_X5_afloatOnes_b4 (N : Nat) (v0 : Nat) (v1 : Nat) (v2 : Int32) (v3 : Int32) (h : AH) : Option (Int32 × AH) :=
  (itr (fun s => f_X5_afloatOnes_l4 N v0 v1 s.1 s.2.1 s.2.2) N (v2, v3, h)).bind (fun e => some (e.1, e.2))
def f_X5_afloatOnes (N : Nat) (h : AH) (a0 : Nat) (a1 : Nat) : Option (Int32 × AH) :=
  f_X5_afloatOnes_b4 N a0 a1 0 0 h
set_option maxRecDepth 100000 in
set_option maxHeartbeats 4000000 in
theorem lk_X5_afloatOnes_b27 {G : JG} {X : JX} (E : jE G X (RX5, cX5_afloatOnes, 4)) (hX : X.2.2.2.1 = jRm 0 0 0) (hr : X.2.2.2.2.2.2.2.2.1.sig.returnType = (some .int)) (N : Nat) {Q : State → Prop} {v0 : Nat} {v1 : Nat} {v2 : Int32} {v3 : Int32} {h : AH}  {q : ((Int32 × Int32 × AH) ⊕ ((Int32 × AH)))} (hf : f_X5_afloatOnes_b27 N v0 v1 v2 v3 h = some q) (kb : ∀ s' : Int32 × Int32 × AH, q = .inl s' → JW G X (RX5, cX5_afloatOnes, 4) s'.2.2 [(0, .ref v0), (1, .ref v1), (2, .int s'.1), (3, .int s'.2.1)] [] 4 0 0 Q) (ke0 : ∀ e : Int32 × AH, q = .inr e → JW G X (RX5, cX5_afloatOnes, 4) e.2 [(2, .int e.1)] [] 33 0 0 Q) : JW G X (RX5, cX5_afloatOnes, 4) h [(0, .ref v0), (1, .ref v1), (2, .int v2), (3, .int v3)] [] 27 0 0 Q := by
  unfold f_X5_afloatOnes_b27 at hf
  refine J_iinc (v := v3 + 1) (lv' := [(3, .int (v3 + 1)), (0, .ref v0), (1, .ref v1), (2, .int v2)]) E (jd dk_X5_afloatOnes_0 19 rfl) 3 rfl rfl (by decide) rfl ?_
  refine J_goto (tgt := 4) E (jd dk_X5_afloatOnes_0 20 rfl) (by decide) ?_
  refine J_sub [1, 2, 3, 0] rfl ?_
  exact kb _ (Option.some.inj hf).symm
set_option maxRecDepth 100000 in
set_option maxHeartbeats 4000000 in
theorem lk_X5_afloatOnes_l4 {G : JG} {X : JX} (E : jE G X (RX5, cX5_afloatOnes, 4)) (hX : X.2.2.2.1 = jRm 0 0 0) (hr : X.2.2.2.2.2.2.2.2.1.sig.returnType = (some .int)) (N : Nat) {Q : State → Prop} {v0 : Nat} {v1 : Nat} {v2 : Int32} {v3 : Int32}  {h : AH} {q : ((Int32 × Int32 × AH) ⊕ ((Int32 × AH)))} (hf : f_X5_afloatOnes_l4 N v0 v1 v2 v3 h = some q) (kb : ∀ s' : Int32 × Int32 × AH, q = .inl s' → JW G X (RX5, cX5_afloatOnes, 4) s'.2.2 [(0, .ref v0), (1, .ref v1), (2, .int s'.1), (3, .int s'.2.1)] [] 4 0 0 Q) (ke0 : ∀ e : Int32 × AH, q = .inr e → JW G X (RX5, cX5_afloatOnes, 4) e.2 [(2, .int e.1)] [] 33 0 0 Q) : JW G X (RX5, cX5_afloatOnes, 4) h [(0, .ref v0), (1, .ref v1), (2, .int v2), (3, .int v3)] [] 4 0 0 Q := by
  unfold f_X5_afloatOnes_l4 at hf
  refine J_iload_n E (jd dk_X5_afloatOnes_0 4 rfl) rfl 3 rfl ?_
  refine J_aload_n E (jd dk_X5_afloatOnes_0 5 rfl) rfl 1 rfl ?_
  obtain ⟨x1, e2, hf⟩ := jbind hf
  refine J_geti E (jd dk_X5_afloatOnes_0 6 rfl) fl_RX5_64 e2 ?_
  refine J_icmp_ge (tgt := 33) E (jd dk_X5_afloatOnes_0 7 rfl) (by decide) (fun c3 => ?_) (fun c3 => ?_)
  · replace hf := jif_t c3 hf
    refine J_sub [2] rfl ?_
    exact ke0 _ (Option.some.inj hf).symm
  · replace hf := jif_f c3 hf
    refine J_aload_n E (jd dk_X5_afloatOnes_0 8 rfl) rfl 0 rfl ?_
    obtain ⟨x4, e5, hf⟩ := jbind hf
    refine J_getr E (jd dk_X5_afloatOnes_0 9 rfl) fl_RX5_15 e5 ?_
    refine J_iload_n E (jd dk_X5_afloatOnes_0 10 rfl) rfl 3 rfl ?_
    obtain ⟨x6, e7, hf⟩ := jbind hf
    refine J_iald E (jd dk_X5_afloatOnes_0 11 rfl) e7 ?_
    refine J_if_lt (tgt := 27) E (jd dk_X5_afloatOnes_0 12 rfl) (by decide) (fun c8 => ?_) (fun c8 => ?_)
    · replace hf := jif_t c8 hf
      exact lk_X5_afloatOnes_b27 E hX hr N hf kb ke0
    · replace hf := jif_f c8 hf
      refine J_iload_n E (jd dk_X5_afloatOnes_0 13 rfl) rfl 2 rfl ?_
      refine J_iconst (v := 1) E (jd dk_X5_afloatOnes_0 14 rfl) rfl ?_
      refine J_iload_n E (jd dk_X5_afloatOnes_0 15 rfl) rfl 3 rfl ?_
      refine J_ishl E (jd dk_X5_afloatOnes_0 16 rfl) ?_
      refine J_ior E (jd dk_X5_afloatOnes_0 17 rfl) ?_
      refine J_istore_n (lv' := [(2, .int (v2 ||| ((1 : Int32) <<< (v3 &&& 31)))), (0, .ref v0), (1, .ref v1), (3, .int v3)]) E (jd dk_X5_afloatOnes_0 18 rfl) rfl (by decide) rfl ?_
      refine J_sub [1, 2, 0, 3] rfl ?_
      exact lk_X5_afloatOnes_b27 E hX hr N hf kb ke0
set_option maxRecDepth 100000 in
set_option maxHeartbeats 4000000 in
theorem lk_X5_afloatOnes_b4 {G : JG} {X : JX} (E : jE G X (RX5, cX5_afloatOnes, 4)) (hX : X.2.2.2.1 = jRm 0 0 0) (hr : X.2.2.2.2.2.2.2.2.1.sig.returnType = (some .int)) (N : Nat) {v0 : Nat} {v1 : Nat} {v2 : Int32} {v3 : Int32} {h : AH}  {r : (Int32 × AH)} (hf : f_X5_afloatOnes_b4 N v0 v1 v2 v3 h = some r) : JW G X (RX5, cX5_afloatOnes, 4) h [(0, .ref v0), (1, .ref v1), (2, .int v2), (3, .int v3)] [] 4 0 0 (jEnd G X (jpi r) 0 0) := by
  unfold f_X5_afloatOnes_b4 at hf
  obtain ⟨q1, h1, hf⟩ := jbind hf
  refine jloop (P := fun s => JW G X (RX5, cX5_afloatOnes, 4) s.2.2 [(0, .ref v0), (1, .ref v1), (2, .int s.1), (3, .int s.2.1)] [] 4 0 0 (jEnd G X (jpi r) 0 0)) (Ex := fun (e : Int32 × AH) => JW G X (RX5, cX5_afloatOnes, 4) e.2 [(2, .int e.1)] [] 33 0 0 (jEnd G X (jpi r) 0 0)) (fun s q hs hb hx => lk_X5_afloatOnes_l4 E hX hr N hs (fun s' hs => hb s' hs) (fun e he => hx e he)) N _ q1 h1 ?_
  generalize q1 = e at hf ⊢
  refine J_iload_n E (jd dk_X5_afloatOnes_0 21 rfl) rfl 0 rfl ?_
  cases hf
  exact J_iret E hr rfl (jd dk_X5_afloatOnes_0 22 rfl) (Nat.le_refl _) (Nat.le_refl _) ⟨rfl, rfl⟩
set_option maxRecDepth 100000 in
set_option maxHeartbeats 4000000 in
theorem lk_X5_afloatOnes {G : JG} {l : Launch} (hG : jG G) (htr : l.stackTraces = false) (N : Nat) {h : AH} {a0 : Nat} {a1 : Nat} {r : (Int32 × AH)} (hf : f_X5_afloatOnes N h a0 a1 = some r) : jMet G l yX5_afloatOnes cX5_afloatOnes 4 (some .int) 0 0 0 [.ref a0, .ref a1] h (jpi r) := by
  unfold f_X5_afloatOnes at hf
  refine jMet_of hG htr (by decide) (Nat.le_of_ble_eq_true rfl) ?_
  intro X E hl9 hr hX _ _
  show JW G X (RX5, cX5_afloatOnes, 4) h [(0, .ref a0), (1, .ref a1)] [] 0 0 0 (jEnd G X (jpi r) 0 0)
  refine J_iconst (v := 0) E (jd dk_X5_afloatOnes_0 0 rfl) rfl ?_
  refine J_istore_n (lv' := [(2, .int 0), (0, .ref a0), (1, .ref a1)]) E (jd dk_X5_afloatOnes_0 1 rfl) rfl (by decide) rfl ?_
  refine J_iconst (v := 0) E (jd dk_X5_afloatOnes_0 2 rfl) rfl ?_
  refine J_istore_n (lv' := [(3, .int 0), (2, .int 0), (0, .ref a0), (1, .ref a1)]) E (jd dk_X5_afloatOnes_0 3 rfl) rfl (by decide) rfl ?_
  refine J_sub [2, 3, 1, 0] rfl ?_
  exact lk_X5_afloatOnes_b4 E hX hr N hf
def f_X5_fairOnes_b27 (N : Nat) (v0 : Nat) (v1 : Nat) (v2 : Int32) (v3 : Int32) (h : AH) : Option ((Int32 × Int32 × AH) ⊕ ((Int32 × AH))) :=
  some (.inl ((v2, v3 + 1, h)))
def f_X5_fairOnes_l4 (N : Nat) (v0 : Nat) (v1 : Nat) (v2 : Int32) (v3 : Int32) (h : AH) : Option ((Int32 × Int32 × AH) ⊕ ((Int32 × AH))) :=
  (jgi 1 h v1 2).bind fun x1 =>
  if x1 ≤ v3 then some (.inr ((v2, h)))
  else (jck 5 h v0).bind fun _ =>
  (f_X5_isFair N h v0 v1 v3).bind fun r4 =>
  if r4.1 = 0 then f_X5_fairOnes_b27 N v0 v1 v2 v3 r4.2
  else f_X5_fairOnes_b27 N v0 v1 (v2 ||| ((1 : Int32) <<< (v3 &&& 31))) v3 r4.2
def f_X5_fairOnes_b4 (N : Nat) (v0 : Nat) (v1 : Nat) (v2 : Int32) (v3 : Int32) (h : AH) : Option (Int32 × AH) :=
  (itr (fun s => f_X5_fairOnes_l4 N v0 v1 s.1 s.2.1 s.2.2) N (v2, v3, h)).bind (fun e => some (e.1, e.2))
def f_X5_fairOnes (N : Nat) (h : AH) (a0 : Nat) (a1 : Nat) : Option (Int32 × AH) :=
  f_X5_fairOnes_b4 N a0 a1 0 0 h
set_option maxRecDepth 100000 in
set_option maxHeartbeats 4000000 in
theorem lk_X5_fairOnes_b27 {G : JG} {X : JX} (E : jE G X (RX5, cX5_fairOnes, 4)) (hX : X.2.2.2.1 = jRm 2 0 0) (hr : X.2.2.2.2.2.2.2.2.1.sig.returnType = (some .int)) (N : Nat) {Q : State → Prop} {v0 : Nat} {v1 : Nat} {v2 : Int32} {v3 : Int32} {h : AH}  {q : ((Int32 × Int32 × AH) ⊕ ((Int32 × AH)))} (hf : f_X5_fairOnes_b27 N v0 v1 v2 v3 h = some q) (kb : ∀ s' : Int32 × Int32 × AH, q = .inl s' → JW G X (RX5, cX5_fairOnes, 4) s'.2.2 [(0, .ref v0), (1, .ref v1), (2, .int s'.1), (3, .int s'.2.1)] [] 4 0 0 Q) (ke0 : ∀ e : Int32 × AH, q = .inr e → JW G X (RX5, cX5_fairOnes, 4) e.2 [(2, .int e.1)] [] 33 0 0 Q) : JW G X (RX5, cX5_fairOnes, 4) h [(0, .ref v0), (1, .ref v1), (2, .int v2), (3, .int v3)] [] 27 0 0 Q := by
  unfold f_X5_fairOnes_b27 at hf
  refine J_iinc (v := v3 + 1) (lv' := [(3, .int (v3 + 1)), (0, .ref v0), (1, .ref v1), (2, .int v2)]) E (jd dk_X5_fairOnes_0 19 rfl) 3 rfl rfl (by decide) rfl ?_
  refine J_goto (tgt := 4) E (jd dk_X5_fairOnes_0 20 rfl) (by decide) ?_
  refine J_sub [1, 2, 3, 0] rfl ?_
  exact kb _ (Option.some.inj hf).symm
set_option maxRecDepth 100000 in
set_option maxHeartbeats 4000000 in
theorem lk_X5_fairOnes_l4 {G : JG} {X : JX} (E : jE G X (RX5, cX5_fairOnes, 4)) (hX : X.2.2.2.1 = jRm 2 0 0) (hr : X.2.2.2.2.2.2.2.2.1.sig.returnType = (some .int)) (N : Nat) {Q : State → Prop} {v0 : Nat} {v1 : Nat} {v2 : Int32} {v3 : Int32}  {h : AH} {q : ((Int32 × Int32 × AH) ⊕ ((Int32 × AH)))} (hf : f_X5_fairOnes_l4 N v0 v1 v2 v3 h = some q) (kb : ∀ s' : Int32 × Int32 × AH, q = .inl s' → JW G X (RX5, cX5_fairOnes, 4) s'.2.2 [(0, .ref v0), (1, .ref v1), (2, .int s'.1), (3, .int s'.2.1)] [] 4 0 0 Q) (ke0 : ∀ e : Int32 × AH, q = .inr e → JW G X (RX5, cX5_fairOnes, 4) e.2 [(2, .int e.1)] [] 33 0 0 Q) : JW G X (RX5, cX5_fairOnes, 4) h [(0, .ref v0), (1, .ref v1), (2, .int v2), (3, .int v3)] [] 4 0 0 Q := by
  unfold f_X5_fairOnes_l4 at hf
  refine J_iload_n E (jd dk_X5_fairOnes_0 4 rfl) rfl 3 rfl ?_
  refine J_aload_n E (jd dk_X5_fairOnes_0 5 rfl) rfl 1 rfl ?_
  obtain ⟨x1, e2, hf⟩ := jbind hf
  refine J_geti E (jd dk_X5_fairOnes_0 6 rfl) fl_RX5_64 e2 ?_
  refine J_icmp_ge (tgt := 33) E (jd dk_X5_fairOnes_0 7 rfl) (by decide) (fun c3 => ?_) (fun c3 => ?_)
  · replace hf := jif_t c3 hf
    refine J_sub [2] rfl ?_
    exact ke0 _ (Option.some.inj hf).symm
  · replace hf := jif_f c3 hf
    refine J_aload_n E (jd dk_X5_fairOnes_0 8 rfl) rfl 0 rfl ?_
    refine J_aload_n E (jd dk_X5_fairOnes_0 9 rfl) rfl 1 rfl ?_
    refine J_iload_n E (jd dk_X5_fairOnes_0 10 rfl) rfl 3 rfl ?_
    obtain ⟨u6, e7, hf⟩ := jbind hf
    obtain ⟨r4, e5, hf⟩ := jbind hf
    refine J_callV E (jd dk_X5_fairOnes_0 11 rfl) ml_RX5_133 cal_X5_isFair e7 rfl (lk_X5_isFair (jE_g E) (jE_tr E) N e5) rfl (Nat.le_of_ble_eq_true rfl) (jR_le hX (by decide) (by decide)) (jF0 hX) rfl ?_
    rintro _ _ ⟨rfl, rfl⟩
    refine J_if_eq (tgt := 27) E (jd dk_X5_fairOnes_0 12 rfl) (by decide) (fun c8 => ?_) (fun c8 => ?_)
    · replace hf := jif_t c8 hf
      exact lk_X5_fairOnes_b27 E hX hr N hf kb ke0
    · replace hf := jif_f c8 hf
      refine J_iload_n E (jd dk_X5_fairOnes_0 13 rfl) rfl 2 rfl ?_
      refine J_iconst (v := 1) E (jd dk_X5_fairOnes_0 14 rfl) rfl ?_
      refine J_iload_n E (jd dk_X5_fairOnes_0 15 rfl) rfl 3 rfl ?_
      refine J_ishl E (jd dk_X5_fairOnes_0 16 rfl) ?_
      refine J_ior E (jd dk_X5_fairOnes_0 17 rfl) ?_
      refine J_istore_n (lv' := [(2, .int (v2 ||| ((1 : Int32) <<< (v3 &&& 31)))), (0, .ref v0), (1, .ref v1), (3, .int v3)]) E (jd dk_X5_fairOnes_0 18 rfl) rfl (by decide) rfl ?_
      refine J_sub [1, 2, 0, 3] rfl ?_
      exact lk_X5_fairOnes_b27 E hX hr N hf kb ke0
set_option maxRecDepth 100000 in
set_option maxHeartbeats 4000000 in
theorem lk_X5_fairOnes_b4 {G : JG} {X : JX} (E : jE G X (RX5, cX5_fairOnes, 4)) (hX : X.2.2.2.1 = jRm 2 0 0) (hr : X.2.2.2.2.2.2.2.2.1.sig.returnType = (some .int)) (N : Nat) {v0 : Nat} {v1 : Nat} {v2 : Int32} {v3 : Int32} {h : AH}  {r : (Int32 × AH)} (hf : f_X5_fairOnes_b4 N v0 v1 v2 v3 h = some r) : JW G X (RX5, cX5_fairOnes, 4) h [(0, .ref v0), (1, .ref v1), (2, .int v2), (3, .int v3)] [] 4 0 0 (jEnd G X (jpi r) 0 0) := by
  unfold f_X5_fairOnes_b4 at hf
  obtain ⟨q1, h1, hf⟩ := jbind hf
  refine jloop (P := fun s => JW G X (RX5, cX5_fairOnes, 4) s.2.2 [(0, .ref v0), (1, .ref v1), (2, .int s.1), (3, .int s.2.1)] [] 4 0 0 (jEnd G X (jpi r) 0 0)) (Ex := fun (e : Int32 × AH) => JW G X (RX5, cX5_fairOnes, 4) e.2 [(2, .int e.1)] [] 33 0 0 (jEnd G X (jpi r) 0 0)) (fun s q hs hb hx => lk_X5_fairOnes_l4 E hX hr N hs (fun s' hs => hb s' hs) (fun e he => hx e he)) N _ q1 h1 ?_
  generalize q1 = e at hf ⊢
  refine J_iload_n E (jd dk_X5_fairOnes_0 21 rfl) rfl 0 rfl ?_
  cases hf
  exact J_iret E hr rfl (jd dk_X5_fairOnes_0 22 rfl) (Nat.le_refl _) (Nat.le_refl _) ⟨rfl, rfl⟩
set_option maxRecDepth 100000 in
set_option maxHeartbeats 4000000 in
theorem lk_X5_fairOnes {G : JG} {l : Launch} (hG : jG G) (htr : l.stackTraces = false) (N : Nat) {h : AH} {a0 : Nat} {a1 : Nat} {r : (Int32 × AH)} (hf : f_X5_fairOnes N h a0 a1 = some r) : jMet G l yX5_fairOnes cX5_fairOnes 4 (some .int) 2 0 0 [.ref a0, .ref a1] h (jpi r) := by
  unfold f_X5_fairOnes at hf
  refine jMet_of hG htr (by decide) (Nat.le_of_ble_eq_true rfl) ?_
  intro X E hl9 hr hX _ _
  show JW G X (RX5, cX5_fairOnes, 4) h [(0, .ref a0), (1, .ref a1)] [] 0 0 0 (jEnd G X (jpi r) 0 0)
  refine J_iconst (v := 0) E (jd dk_X5_fairOnes_0 0 rfl) rfl ?_
  refine J_istore_n (lv' := [(2, .int 0), (0, .ref a0), (1, .ref a1)]) E (jd dk_X5_fairOnes_0 1 rfl) rfl (by decide) rfl ?_
  refine J_iconst (v := 0) E (jd dk_X5_fairOnes_0 2 rfl) rfl ?_
  refine J_istore_n (lv' := [(3, .int 0), (2, .int 0), (0, .ref a0), (1, .ref a1)]) E (jd dk_X5_fairOnes_0 3 rfl) rfl (by decide) rfl ?_
  refine J_sub [2, 3, 1, 0] rfl ?_
  exact lk_X5_fairOnes_b4 E hX hr N hf
def f_X5_pools_b27 (N : Nat) (v0 : Nat) (v1 : Nat) (v2 : Int32) (v3 : Int32) (h : AH) : Option ((Int32 × Int32 × AH) ⊕ ((Int32 × AH))) :=
  some (.inl ((v2, v3 + 1, h)))
def f_X5_pools_l4 (N : Nat) (v0 : Nat) (v1 : Nat) (v2 : Int32) (v3 : Int32) (h : AH) : Option ((Int32 × Int32 × AH) ⊕ ((Int32 × AH))) :=
  (jgi 1 h v1 1).bind fun x1 =>
  if x1 ≤ v3 then some (.inr ((v2, h)))
  else (jgr 5 h v0 6).bind fun x4 =>
  (jal 0 h x4 v3).bind fun x6 =>
  if x6 = 0 then f_X5_pools_b27 N v0 v1 (v2 ||| ((1 : Int32) <<< (v3 &&& 31))) v3 h
  else f_X5_pools_b27 N v0 v1 v2 v3 h
def f_X5_pools_b4 (N : Nat) (v0 : Nat) (v1 : Nat) (v2 : Int32) (v3 : Int32) (h : AH) : Option (Int32 × AH) :=
  (itr (fun s => f_X5_pools_l4 N v0 v1 s.1 s.2.1 s.2.2) N (v2, v3, h)).bind (fun e => some (e.1, e.2))
def f_X5_pools (N : Nat) (h : AH) (a0 : Nat) (a1 : Nat) : Option (Int32 × AH) :=
  f_X5_pools_b4 N a0 a1 0 0 h
set_option maxRecDepth 100000 in
set_option maxHeartbeats 4000000 in
theorem lk_X5_pools_b27 {G : JG} {X : JX} (E : jE G X (RX5, cX5_pools, 4)) (hX : X.2.2.2.1 = jRm 0 0 0) (hr : X.2.2.2.2.2.2.2.2.1.sig.returnType = (some .int)) (N : Nat) {Q : State → Prop} {v0 : Nat} {v1 : Nat} {v2 : Int32} {v3 : Int32} {h : AH}  {q : ((Int32 × Int32 × AH) ⊕ ((Int32 × AH)))} (hf : f_X5_pools_b27 N v0 v1 v2 v3 h = some q) (kb : ∀ s' : Int32 × Int32 × AH, q = .inl s' → JW G X (RX5, cX5_pools, 4) s'.2.2 [(0, .ref v0), (1, .ref v1), (2, .int s'.1), (3, .int s'.2.1)] [] 4 0 0 Q) (ke0 : ∀ e : Int32 × AH, q = .inr e → JW G X (RX5, cX5_pools, 4) e.2 [(2, .int e.1)] [] 33 0 0 Q) : JW G X (RX5, cX5_pools, 4) h [(0, .ref v0), (1, .ref v1), (2, .int v2), (3, .int v3)] [] 27 0 0 Q := by
  unfold f_X5_pools_b27 at hf
  refine J_iinc (v := v3 + 1) (lv' := [(3, .int (v3 + 1)), (0, .ref v0), (1, .ref v1), (2, .int v2)]) E (jd dk_X5_pools_0 19 rfl) 3 rfl rfl (by decide) rfl ?_
  refine J_goto (tgt := 4) E (jd dk_X5_pools_0 20 rfl) (by decide) ?_
  refine J_sub [1, 2, 3, 0] rfl ?_
  exact kb _ (Option.some.inj hf).symm
set_option maxRecDepth 100000 in
set_option maxHeartbeats 4000000 in
theorem lk_X5_pools_l4 {G : JG} {X : JX} (E : jE G X (RX5, cX5_pools, 4)) (hX : X.2.2.2.1 = jRm 0 0 0) (hr : X.2.2.2.2.2.2.2.2.1.sig.returnType = (some .int)) (N : Nat) {Q : State → Prop} {v0 : Nat} {v1 : Nat} {v2 : Int32} {v3 : Int32}  {h : AH} {q : ((Int32 × Int32 × AH) ⊕ ((Int32 × AH)))} (hf : f_X5_pools_l4 N v0 v1 v2 v3 h = some q) (kb : ∀ s' : Int32 × Int32 × AH, q = .inl s' → JW G X (RX5, cX5_pools, 4) s'.2.2 [(0, .ref v0), (1, .ref v1), (2, .int s'.1), (3, .int s'.2.1)] [] 4 0 0 Q) (ke0 : ∀ e : Int32 × AH, q = .inr e → JW G X (RX5, cX5_pools, 4) e.2 [(2, .int e.1)] [] 33 0 0 Q) : JW G X (RX5, cX5_pools, 4) h [(0, .ref v0), (1, .ref v1), (2, .int v2), (3, .int v3)] [] 4 0 0 Q := by
  unfold f_X5_pools_l4 at hf
  refine J_iload_n E (jd dk_X5_pools_0 4 rfl) rfl 3 rfl ?_
  refine J_aload_n E (jd dk_X5_pools_0 5 rfl) rfl 1 rfl ?_
  obtain ⟨x1, e2, hf⟩ := jbind hf
  refine J_geti E (jd dk_X5_pools_0 6 rfl) fl_RX5_70 e2 ?_
  refine J_icmp_ge (tgt := 33) E (jd dk_X5_pools_0 7 rfl) (by decide) (fun c3 => ?_) (fun c3 => ?_)
  · replace hf := jif_t c3 hf
    refine J_sub [2] rfl ?_
    exact ke0 _ (Option.some.inj hf).symm
  · replace hf := jif_f c3 hf
    refine J_aload_n E (jd dk_X5_pools_0 8 rfl) rfl 0 rfl ?_
    obtain ⟨x4, e5, hf⟩ := jbind hf
    refine J_getr E (jd dk_X5_pools_0 9 rfl) fl_RX5_31 e5 ?_
    refine J_iload_n E (jd dk_X5_pools_0 10 rfl) rfl 3 rfl ?_
    obtain ⟨x6, e7, hf⟩ := jbind hf
    refine J_iald E (jd dk_X5_pools_0 11 rfl) e7 ?_
    refine J_if_ne (tgt := 27) E (jd dk_X5_pools_0 12 rfl) (by decide) (fun c8 => ?_) (fun c8 => ?_)
    · replace hf := jif_f c8 hf
      exact lk_X5_pools_b27 E hX hr N hf kb ke0
    · replace hf := jif_t c8 hf
      refine J_iload_n E (jd dk_X5_pools_0 13 rfl) rfl 2 rfl ?_
      refine J_iconst (v := 1) E (jd dk_X5_pools_0 14 rfl) rfl ?_
      refine J_iload_n E (jd dk_X5_pools_0 15 rfl) rfl 3 rfl ?_
      refine J_ishl E (jd dk_X5_pools_0 16 rfl) ?_
      refine J_ior E (jd dk_X5_pools_0 17 rfl) ?_
      refine J_istore_n (lv' := [(2, .int (v2 ||| ((1 : Int32) <<< (v3 &&& 31)))), (0, .ref v0), (1, .ref v1), (3, .int v3)]) E (jd dk_X5_pools_0 18 rfl) rfl (by decide) rfl ?_
      refine J_sub [1, 2, 0, 3] rfl ?_
      exact lk_X5_pools_b27 E hX hr N hf kb ke0
set_option maxRecDepth 100000 in
set_option maxHeartbeats 4000000 in
theorem lk_X5_pools_b4 {G : JG} {X : JX} (E : jE G X (RX5, cX5_pools, 4)) (hX : X.2.2.2.1 = jRm 0 0 0) (hr : X.2.2.2.2.2.2.2.2.1.sig.returnType = (some .int)) (N : Nat) {v0 : Nat} {v1 : Nat} {v2 : Int32} {v3 : Int32} {h : AH}  {r : (Int32 × AH)} (hf : f_X5_pools_b4 N v0 v1 v2 v3 h = some r) : JW G X (RX5, cX5_pools, 4) h [(0, .ref v0), (1, .ref v1), (2, .int v2), (3, .int v3)] [] 4 0 0 (jEnd G X (jpi r) 0 0) := by
  unfold f_X5_pools_b4 at hf
  obtain ⟨q1, h1, hf⟩ := jbind hf
  refine jloop (P := fun s => JW G X (RX5, cX5_pools, 4) s.2.2 [(0, .ref v0), (1, .ref v1), (2, .int s.1), (3, .int s.2.1)] [] 4 0 0 (jEnd G X (jpi r) 0 0)) (Ex := fun (e : Int32 × AH) => JW G X (RX5, cX5_pools, 4) e.2 [(2, .int e.1)] [] 33 0 0 (jEnd G X (jpi r) 0 0)) (fun s q hs hb hx => lk_X5_pools_l4 E hX hr N hs (fun s' hs => hb s' hs) (fun e he => hx e he)) N _ q1 h1 ?_
  generalize q1 = e at hf ⊢
  refine J_iload_n E (jd dk_X5_pools_0 21 rfl) rfl 0 rfl ?_
  cases hf
  exact J_iret E hr rfl (jd dk_X5_pools_0 22 rfl) (Nat.le_refl _) (Nat.le_refl _) ⟨rfl, rfl⟩
set_option maxRecDepth 100000 in
set_option maxHeartbeats 4000000 in
theorem lk_X5_pools {G : JG} {l : Launch} (hG : jG G) (htr : l.stackTraces = false) (N : Nat) {h : AH} {a0 : Nat} {a1 : Nat} {r : (Int32 × AH)} (hf : f_X5_pools N h a0 a1 = some r) : jMet G l yX5_pools cX5_pools 4 (some .int) 0 0 0 [.ref a0, .ref a1] h (jpi r) := by
  unfold f_X5_pools at hf
  refine jMet_of hG htr (by decide) (Nat.le_of_ble_eq_true rfl) ?_
  intro X E hl9 hr hX _ _
  show JW G X (RX5, cX5_pools, 4) h [(0, .ref a0), (1, .ref a1)] [] 0 0 0 (jEnd G X (jpi r) 0 0)
  refine J_iconst (v := 0) E (jd dk_X5_pools_0 0 rfl) rfl ?_
  refine J_istore_n (lv' := [(2, .int 0), (0, .ref a0), (1, .ref a1)]) E (jd dk_X5_pools_0 1 rfl) rfl (by decide) rfl ?_
  refine J_iconst (v := 0) E (jd dk_X5_pools_0 2 rfl) rfl ?_
  refine J_istore_n (lv' := [(3, .int 0), (2, .int 0), (0, .ref a0), (1, .ref a1)]) E (jd dk_X5_pools_0 3 rfl) rfl (by decide) rfl ?_
  refine J_sub [2, 3, 1, 0] rfl ?_
  exact lk_X5_pools_b4 E hX hr N hf
def f_X5_crowd_b40 (N : Nat) (v0 : Nat) (v1 : Nat) (v2 : Int32) (v3 : Int32) (v4 : Int32) (h : AH) : Option ((Int32 × Int32 × Int32 × AH) ⊕ ((Int32 × AH))) :=
  some (.inl ((v2, v3, v4 + 1, h)))
def f_X5_crowd_l7 (N : Nat) (v0 : Nat) (v1 : Nat) (v2 : Int32) (v3 : Int32) (v4 : Int32) (h : AH) : Option ((Int32 × Int32 × Int32 × AH) ⊕ ((Int32 × AH))) :=
  (jgi 1 h v1 1).bind fun x1 =>
  if x1 ≤ v4 then some (.inr ((v2, h)))
  else (jck 5 h v0).bind fun _ =>
  (f_X5_onesOn N h v0 v1 v4).bind fun r4 =>
  (f_J6_bitCount_0f7a4 N r4.2 r4.1).bind fun r8 =>
  if r8.1 ≤ v3 then f_X5_crowd_b40 N v0 v1 v2 v3 v4 r8.2
  else f_X5_crowd_b40 N v0 v1 v4 r8.1 v4 r8.2
def f_X5_crowd_b7 (N : Nat) (v0 : Nat) (v1 : Nat) (v2 : Int32) (v3 : Int32) (v4 : Int32) (h : AH) : Option (Int32 × AH) :=
  (itr (fun s => f_X5_crowd_l7 N v0 v1 s.1 s.2.1 s.2.2.1 s.2.2.2) N (v2, v3, v4, h)).bind (fun e => some (e.1, e.2))
def f_X5_crowd (N : Nat) (h : AH) (a0 : Nat) (a1 : Nat) : Option (Int32 × AH) :=
  f_X5_crowd_b7 N a0 a1 ((-1)) 0 0 h
set_option maxRecDepth 100000 in
set_option maxHeartbeats 4000000 in
theorem lk_X5_crowd_b40 {G : JG} {X : JX} (E : jE G X (RX5, cX5_crowd, 6)) (hX : X.2.2.2.1 = jRm 1 0 0) (hr : X.2.2.2.2.2.2.2.2.1.sig.returnType = (some .int)) (N : Nat) {Q : State → Prop} {v0 : Nat} {v1 : Nat} {v2 : Int32} {v3 : Int32} {v4 : Int32} {h : AH}  {q : ((Int32 × Int32 × Int32 × AH) ⊕ ((Int32 × AH)))} (hf : f_X5_crowd_b40 N v0 v1 v2 v3 v4 h = some q) (kb : ∀ s' : Int32 × Int32 × Int32 × AH, q = .inl s' → JW G X (RX5, cX5_crowd, 6) s'.2.2.2 [(0, .ref v0), (1, .ref v1), (2, .int s'.1), (3, .int s'.2.1), (4, .int s'.2.2.1)] [] 7 0 0 Q) (ke0 : ∀ e : Int32 × AH, q = .inr e → JW G X (RX5, cX5_crowd, 6) e.2 [(2, .int e.1)] [] 46 0 0 Q) : JW G X (RX5, cX5_crowd, 6) h [(0, .ref v0), (1, .ref v1), (2, .int v2), (3, .int v3), (4, .int v4)] [] 40 0 0 Q := by
  unfold f_X5_crowd_b40 at hf
  refine J_iinc (v := v4 + 1) (lv' := [(4, .int (v4 + 1)), (0, .ref v0), (1, .ref v1), (2, .int v2), (3, .int v3)]) E (jd dk_X5_crowd_0 23 rfl) 4 rfl rfl (by decide) rfl ?_
  refine J_goto (tgt := 7) E (jd dk_X5_crowd_0 24 rfl) (by decide) ?_
  refine J_sub [1, 2, 3, 4, 0] rfl ?_
  exact kb _ (Option.some.inj hf).symm
set_option maxRecDepth 100000 in
set_option maxHeartbeats 4000000 in
theorem lk_X5_crowd_l7 {G : JG} {X : JX} (E : jE G X (RX5, cX5_crowd, 6)) (hX : X.2.2.2.1 = jRm 1 0 0) (hr : X.2.2.2.2.2.2.2.2.1.sig.returnType = (some .int)) (N : Nat) {Q : State → Prop} {v0 : Nat} {v1 : Nat} {v2 : Int32} {v3 : Int32} {v4 : Int32}  {h : AH} {q : ((Int32 × Int32 × Int32 × AH) ⊕ ((Int32 × AH)))} (hf : f_X5_crowd_l7 N v0 v1 v2 v3 v4 h = some q) (kb : ∀ s' : Int32 × Int32 × Int32 × AH, q = .inl s' → JW G X (RX5, cX5_crowd, 6) s'.2.2.2 [(0, .ref v0), (1, .ref v1), (2, .int s'.1), (3, .int s'.2.1), (4, .int s'.2.2.1)] [] 7 0 0 Q) (ke0 : ∀ e : Int32 × AH, q = .inr e → JW G X (RX5, cX5_crowd, 6) e.2 [(2, .int e.1)] [] 46 0 0 Q) : JW G X (RX5, cX5_crowd, 6) h [(0, .ref v0), (1, .ref v1), (2, .int v2), (3, .int v3), (4, .int v4)] [] 7 0 0 Q := by
  unfold f_X5_crowd_l7 at hf
  refine J_iload E (jd dk_X5_crowd_0 6 rfl) 4 rfl ?_
  refine J_aload_n E (jd dk_X5_crowd_0 7 rfl) rfl 1 rfl ?_
  obtain ⟨x1, e2, hf⟩ := jbind hf
  refine J_geti E (jd dk_X5_crowd_0 8 rfl) fl_RX5_70 e2 ?_
  refine J_icmp_ge (tgt := 46) E (jd dk_X5_crowd_0 9 rfl) (by decide) (fun c3 => ?_) (fun c3 => ?_)
  · replace hf := jif_t c3 hf
    refine J_sub [2] rfl ?_
    exact ke0 _ (Option.some.inj hf).symm
  · replace hf := jif_f c3 hf
    refine J_aload_n E (jd dk_X5_crowd_0 10 rfl) rfl 0 rfl ?_
    refine J_aload_n E (jd dk_X5_crowd_0 11 rfl) rfl 1 rfl ?_
    refine J_iload E (jd dk_X5_crowd_0 12 rfl) 4 rfl ?_
    obtain ⟨u6, e7, hf⟩ := jbind hf
    obtain ⟨r4, e5, hf⟩ := jbind hf
    refine J_callV E (jd dk_X5_crowd_0 13 rfl) ml_RX5_146 cal_X5_onesOn e7 rfl (lk_X5_onesOn (jE_g E) (jE_tr E) N e5) rfl (Nat.le_of_ble_eq_true rfl) (jR_le hX (by decide) (by decide)) (jF0 hX) rfl ?_
    rintro _ _ ⟨rfl, rfl⟩
    obtain ⟨r8, e9, hf⟩ := jbind hf
    refine J_callS E (jd dk_X5_crowd_0 14 rfl) ml_RX5_140 cal_J6_bitCount_0f7a4 (lk_J6_bitCount_0f7a4 (jE_g E) (jE_tr E) N e9) rfl (Nat.le_of_ble_eq_true rfl) (jR_le hX (by decide) (by decide)) (jF0 hX) rfl ?_
    rintro _ _ ⟨rfl, rfl⟩
    refine J_istore (lv' := [(5, .int r8.1), (0, .ref v0), (1, .ref v1), (2, .int v2), (3, .int v3), (4, .int v4)]) E (jd dk_X5_crowd_0 15 rfl) (by decide) rfl ?_
    refine J_iload E (jd dk_X5_crowd_0 16 rfl) 0 rfl ?_
    refine J_iload_n E (jd dk_X5_crowd_0 17 rfl) rfl 4 rfl ?_
    refine J_icmp_le (tgt := 40) E (jd dk_X5_crowd_0 18 rfl) (by decide) (fun c10 => ?_) (fun c10 => ?_)
    · replace hf := jif_t c10 hf
      refine J_sub [1, 2, 3, 4, 5] rfl ?_
      exact lk_X5_crowd_b40 E hX hr N hf kb ke0
    · replace hf := jif_f c10 hf
      refine J_iload E (jd dk_X5_crowd_0 19 rfl) 0 rfl ?_
      refine J_istore_n (lv' := [(3, .int r8.1), (5, .int r8.1), (0, .ref v0), (1, .ref v1), (2, .int v2), (4, .int v4)]) E (jd dk_X5_crowd_0 20 rfl) rfl (by decide) rfl ?_
      refine J_iload E (jd dk_X5_crowd_0 21 rfl) 5 rfl ?_
      refine J_istore_n (lv' := [(2, .int v4), (3, .int r8.1), (5, .int r8.1), (0, .ref v0), (1, .ref v1), (4, .int v4)]) E (jd dk_X5_crowd_0 22 rfl) rfl (by decide) rfl ?_
      refine J_sub [3, 4, 0, 1, 5] rfl ?_
      exact lk_X5_crowd_b40 E hX hr N hf kb ke0
set_option maxRecDepth 100000 in
set_option maxHeartbeats 4000000 in
theorem lk_X5_crowd_b7 {G : JG} {X : JX} (E : jE G X (RX5, cX5_crowd, 6)) (hX : X.2.2.2.1 = jRm 1 0 0) (hr : X.2.2.2.2.2.2.2.2.1.sig.returnType = (some .int)) (N : Nat) {v0 : Nat} {v1 : Nat} {v2 : Int32} {v3 : Int32} {v4 : Int32} {h : AH}  {r : (Int32 × AH)} (hf : f_X5_crowd_b7 N v0 v1 v2 v3 v4 h = some r) : JW G X (RX5, cX5_crowd, 6) h [(0, .ref v0), (1, .ref v1), (2, .int v2), (3, .int v3), (4, .int v4)] [] 7 0 0 (jEnd G X (jpi r) 0 0) := by
  unfold f_X5_crowd_b7 at hf
  obtain ⟨q1, h1, hf⟩ := jbind hf
  refine jloop (P := fun s => JW G X (RX5, cX5_crowd, 6) s.2.2.2 [(0, .ref v0), (1, .ref v1), (2, .int s.1), (3, .int s.2.1), (4, .int s.2.2.1)] [] 7 0 0 (jEnd G X (jpi r) 0 0)) (Ex := fun (e : Int32 × AH) => JW G X (RX5, cX5_crowd, 6) e.2 [(2, .int e.1)] [] 46 0 0 (jEnd G X (jpi r) 0 0)) (fun s q hs hb hx => lk_X5_crowd_l7 E hX hr N hs (fun s' hs => hb s' hs) (fun e he => hx e he)) N _ q1 h1 ?_
  generalize q1 = e at hf ⊢
  refine J_iload_n E (jd dk_X5_crowd_0 25 rfl) rfl 0 rfl ?_
  cases hf
  exact J_iret E hr rfl (jd dk_X5_crowd_0 26 rfl) (Nat.le_refl _) (Nat.le_refl _) ⟨rfl, rfl⟩
set_option maxRecDepth 100000 in
set_option maxHeartbeats 4000000 in
theorem lk_X5_crowd {G : JG} {l : Launch} (hG : jG G) (htr : l.stackTraces = false) (N : Nat) {h : AH} {a0 : Nat} {a1 : Nat} {r : (Int32 × AH)} (hf : f_X5_crowd N h a0 a1 = some r) : jMet G l yX5_crowd cX5_crowd 6 (some .int) 1 0 0 [.ref a0, .ref a1] h (jpi r) := by
  unfold f_X5_crowd at hf
  refine jMet_of hG htr (by decide) (Nat.le_of_ble_eq_true rfl) ?_
  intro X E hl9 hr hX _ _
  show JW G X (RX5, cX5_crowd, 6) h [(0, .ref a0), (1, .ref a1)] [] 0 0 0 (jEnd G X (jpi r) 0 0)
  refine J_iconst (v := (-1)) E (jd dk_X5_crowd_0 0 rfl) rfl ?_
  refine J_istore_n (lv' := [(2, .int ((-1))), (0, .ref a0), (1, .ref a1)]) E (jd dk_X5_crowd_0 1 rfl) rfl (by decide) rfl ?_
  refine J_iconst (v := 0) E (jd dk_X5_crowd_0 2 rfl) rfl ?_
  refine J_istore_n (lv' := [(3, .int 0), (2, .int ((-1))), (0, .ref a0), (1, .ref a1)]) E (jd dk_X5_crowd_0 3 rfl) rfl (by decide) rfl ?_
  refine J_iconst (v := 0) E (jd dk_X5_crowd_0 4 rfl) rfl ?_
  refine J_istore (lv' := [(4, .int 0), (3, .int 0), (2, .int ((-1))), (0, .ref a0), (1, .ref a1)]) E (jd dk_X5_crowd_0 5 rfl) (by decide) rfl ?_
  refine J_sub [3, 4, 2, 1, 0] rfl ?_
  exact lk_X5_crowd_b7 E hX hr N hf
def f_X5_turnedByAll_l4 (N : Nat) (v0 : Nat) (v1 : Nat) (v2 : Int32) (v3 : Int32) (h : AH) : Option ((Int32 × Int32 × AH) ⊕ ((Int32 × AH))) :=
  (jgi 1 h v1 2).bind fun x1 =>
  if x1 ≤ v3 then some (.inr ((v2, h)))
  else (jgr 5 h v0 5).bind fun x4 =>
  (jal 0 h x4 v3).bind fun x6 =>
  some (.inl ((v2 + x6, v3 + 1, h)))
def f_X5_turnedByAll_b4 (N : Nat) (v0 : Nat) (v1 : Nat) (v2 : Int32) (v3 : Int32) (h : AH) : Option (Int32 × AH) :=
  (itr (fun s => f_X5_turnedByAll_l4 N v0 v1 s.1 s.2.1 s.2.2) N (v2, v3, h)).bind (fun e => some (e.1, e.2))
def f_X5_turnedByAll (N : Nat) (h : AH) (a0 : Nat) (a1 : Nat) : Option (Int32 × AH) :=
  f_X5_turnedByAll_b4 N a0 a1 0 0 h
set_option maxRecDepth 100000 in
set_option maxHeartbeats 4000000 in
theorem lk_X5_turnedByAll_l4 {G : JG} {X : JX} (E : jE G X (RX5, cX5_turnedByAll, 4)) (hX : X.2.2.2.1 = jRm 0 0 0) (hr : X.2.2.2.2.2.2.2.2.1.sig.returnType = (some .int)) (N : Nat) {Q : State → Prop} {v0 : Nat} {v1 : Nat} {v2 : Int32} {v3 : Int32}  {h : AH} {q : ((Int32 × Int32 × AH) ⊕ ((Int32 × AH)))} (hf : f_X5_turnedByAll_l4 N v0 v1 v2 v3 h = some q) (kb : ∀ s' : Int32 × Int32 × AH, q = .inl s' → JW G X (RX5, cX5_turnedByAll, 4) s'.2.2 [(0, .ref v0), (1, .ref v1), (2, .int s'.1), (3, .int s'.2.1)] [] 4 0 0 Q) (ke0 : ∀ e : Int32 × AH, q = .inr e → JW G X (RX5, cX5_turnedByAll, 4) e.2 [(2, .int e.1)] [] 27 0 0 Q) : JW G X (RX5, cX5_turnedByAll, 4) h [(0, .ref v0), (1, .ref v1), (2, .int v2), (3, .int v3)] [] 4 0 0 Q := by
  unfold f_X5_turnedByAll_l4 at hf
  refine J_iload_n E (jd dk_X5_turnedByAll_0 4 rfl) rfl 3 rfl ?_
  refine J_aload_n E (jd dk_X5_turnedByAll_0 5 rfl) rfl 1 rfl ?_
  obtain ⟨x1, e2, hf⟩ := jbind hf
  refine J_geti E (jd dk_X5_turnedByAll_0 6 rfl) fl_RX5_64 e2 ?_
  refine J_icmp_ge (tgt := 27) E (jd dk_X5_turnedByAll_0 7 rfl) (by decide) (fun c3 => ?_) (fun c3 => ?_)
  · replace hf := jif_t c3 hf
    refine J_sub [2] rfl ?_
    exact ke0 _ (Option.some.inj hf).symm
  · replace hf := jif_f c3 hf
    refine J_iload_n E (jd dk_X5_turnedByAll_0 8 rfl) rfl 2 rfl ?_
    refine J_aload_n E (jd dk_X5_turnedByAll_0 9 rfl) rfl 0 rfl ?_
    obtain ⟨x4, e5, hf⟩ := jbind hf
    refine J_getr E (jd dk_X5_turnedByAll_0 10 rfl) fl_RX5_28 e5 ?_
    refine J_iload_n E (jd dk_X5_turnedByAll_0 11 rfl) rfl 3 rfl ?_
    obtain ⟨x6, e7, hf⟩ := jbind hf
    refine J_iald E (jd dk_X5_turnedByAll_0 12 rfl) e7 ?_
    refine J_iadd E (jd dk_X5_turnedByAll_0 13 rfl) ?_
    refine J_istore_n (lv' := [(2, .int (v2 + x6)), (0, .ref v0), (1, .ref v1), (3, .int v3)]) E (jd dk_X5_turnedByAll_0 14 rfl) rfl (by decide) rfl ?_
    refine J_iinc (v := v3 + 1) (lv' := [(3, .int (v3 + 1)), (2, .int (v2 + x6)), (0, .ref v0), (1, .ref v1)]) E (jd dk_X5_turnedByAll_0 15 rfl) 3 rfl rfl (by decide) rfl ?_
    refine J_goto (tgt := 4) E (jd dk_X5_turnedByAll_0 16 rfl) (by decide) ?_
    refine J_sub [2, 3, 1, 0] rfl ?_
    exact kb _ (Option.some.inj hf).symm
set_option maxRecDepth 100000 in
set_option maxHeartbeats 4000000 in
theorem lk_X5_turnedByAll_b4 {G : JG} {X : JX} (E : jE G X (RX5, cX5_turnedByAll, 4)) (hX : X.2.2.2.1 = jRm 0 0 0) (hr : X.2.2.2.2.2.2.2.2.1.sig.returnType = (some .int)) (N : Nat) {v0 : Nat} {v1 : Nat} {v2 : Int32} {v3 : Int32} {h : AH}  {r : (Int32 × AH)} (hf : f_X5_turnedByAll_b4 N v0 v1 v2 v3 h = some r) : JW G X (RX5, cX5_turnedByAll, 4) h [(0, .ref v0), (1, .ref v1), (2, .int v2), (3, .int v3)] [] 4 0 0 (jEnd G X (jpi r) 0 0) := by
  unfold f_X5_turnedByAll_b4 at hf
  obtain ⟨q1, h1, hf⟩ := jbind hf
  refine jloop (P := fun s => JW G X (RX5, cX5_turnedByAll, 4) s.2.2 [(0, .ref v0), (1, .ref v1), (2, .int s.1), (3, .int s.2.1)] [] 4 0 0 (jEnd G X (jpi r) 0 0)) (Ex := fun (e : Int32 × AH) => JW G X (RX5, cX5_turnedByAll, 4) e.2 [(2, .int e.1)] [] 27 0 0 (jEnd G X (jpi r) 0 0)) (fun s q hs hb hx => lk_X5_turnedByAll_l4 E hX hr N hs (fun s' hs => hb s' hs) (fun e he => hx e he)) N _ q1 h1 ?_
  generalize q1 = e at hf ⊢
  refine J_iload_n E (jd dk_X5_turnedByAll_0 17 rfl) rfl 0 rfl ?_
  cases hf
  exact J_iret E hr rfl (jd dk_X5_turnedByAll_0 18 rfl) (Nat.le_refl _) (Nat.le_refl _) ⟨rfl, rfl⟩
set_option maxRecDepth 100000 in
set_option maxHeartbeats 4000000 in
theorem lk_X5_turnedByAll {G : JG} {l : Launch} (hG : jG G) (htr : l.stackTraces = false) (N : Nat) {h : AH} {a0 : Nat} {a1 : Nat} {r : (Int32 × AH)} (hf : f_X5_turnedByAll N h a0 a1 = some r) : jMet G l yX5_turnedByAll cX5_turnedByAll 4 (some .int) 0 0 0 [.ref a0, .ref a1] h (jpi r) := by
  unfold f_X5_turnedByAll at hf
  refine jMet_of hG htr (by decide) (Nat.le_of_ble_eq_true rfl) ?_
  intro X E hl9 hr hX _ _
  show JW G X (RX5, cX5_turnedByAll, 4) h [(0, .ref a0), (1, .ref a1)] [] 0 0 0 (jEnd G X (jpi r) 0 0)
  refine J_iconst (v := 0) E (jd dk_X5_turnedByAll_0 0 rfl) rfl ?_
  refine J_istore_n (lv' := [(2, .int 0), (0, .ref a0), (1, .ref a1)]) E (jd dk_X5_turnedByAll_0 1 rfl) rfl (by decide) rfl ?_
  refine J_iconst (v := 0) E (jd dk_X5_turnedByAll_0 2 rfl) rfl ?_
  refine J_istore_n (lv' := [(3, .int 0), (2, .int 0), (0, .ref a0), (1, .ref a1)]) E (jd dk_X5_turnedByAll_0 3 rfl) rfl (by decide) rfl ?_
  refine J_sub [2, 3, 1, 0] rfl ?_
  exact lk_X5_turnedByAll_b4 E hX hr N hf
def f_X0_begin (N : Nat) (h : AH) (a0 : Nat) (a1 : Nat) : Option AH :=
  (jgr 0 h a0 0).bind fun x1 =>
  (jck 5 h x1).bind fun _ =>
  (f_X5_begin N h x1 a1).bind fun r3 =>
  (jwi 0 r3 a0 2 0).bind fun h7 =>
  (jwi 0 h7 a0 8 0).bind fun h9 =>
  (jwi 0 h9 a0 3 0).bind fun h11 =>
  some h11
set_option maxRecDepth 100000 in
set_option maxHeartbeats 4000000 in
theorem lk_X0_begin {G : JG} {l : Launch} (hG : jG G) (htr : l.stackTraces = false) (N : Nat) {h : AH} {a0 : Nat} {a1 : Nat} {r : AH} (hf : f_X0_begin N h a0 a1 = some r) : jMet G l yX0_begin cX0_begin 2 none 2 0 0 [.ref a0, .ref a1] h (jpv r) := by
  unfold f_X0_begin at hf
  refine jMet_of hG htr (by decide) (Nat.le_of_ble_eq_true rfl) ?_
  intro X E hl9 hr hX _ _
  show JW G X (RX0, cX0_begin, 2) h [(0, .ref a0), (1, .ref a1)] [] 0 0 0 (jEnd G X (jpv r) 0 0)
  refine J_aload_n E (jd dk_X0_begin_0 0 rfl) rfl 0 rfl ?_
  obtain ⟨x1, e2, hf⟩ := jbind hf
  refine J_getr E (jd dk_X0_begin_0 1 rfl) fl_RX0_12 e2 ?_
  refine J_aload_n E (jd dk_X0_begin_0 2 rfl) rfl 1 rfl ?_
  obtain ⟨u5, e6, hf⟩ := jbind hf
  obtain ⟨r3, e4, hf⟩ := jbind hf
  refine J_callV E (jd dk_X0_begin_0 3 rfl) ml_RX0_44 cal_X5_begin e6 rfl (lk_X5_begin (jE_g E) (jE_tr E) N e4) rfl (Nat.le_of_ble_eq_true rfl) (jR_le hX (by decide) (by decide)) (jF0 hX) rfl ?_
  rintro _ _ ⟨rfl, rfl⟩
  refine J_aload_n E (jd dk_X0_begin_0 4 rfl) rfl 0 rfl ?_
  refine J_iconst (v := 0) E (jd dk_X0_begin_0 5 rfl) rfl ?_
  obtain ⟨h7, e8, hf⟩ := jbind hf
  refine J_put E (jd dk_X0_begin_0 6 rfl) fl_RX0_22 e8 (fun _ => rfl) (fun _ => rfl) ?_
  refine J_aload_n E (jd dk_X0_begin_0 7 rfl) rfl 0 rfl ?_
  refine J_iconst (v := 0) E (jd dk_X0_begin_0 8 rfl) rfl ?_
  obtain ⟨h9, e10, hf⟩ := jbind hf
  refine J_put E (jd dk_X0_begin_0 9 rfl) fl_RX0_41 e10 (fun _ => rfl) (fun _ => rfl) ?_
  refine J_aload_n E (jd dk_X0_begin_0 10 rfl) rfl 0 rfl ?_
  refine J_iconst (v := 0) E (jd dk_X0_begin_0 11 rfl) rfl ?_
  obtain ⟨h11, e12, hf⟩ := jbind hf
  refine J_put E (jd dk_X0_begin_0 12 rfl) fl_RX0_26 e12 (fun _ => rfl) (fun _ => rfl) ?_
  cases hf
  exact J_vret E hr (jd dk_X0_begin_0 13 rfl) (Nat.le_refl _) (Nat.le_refl _) ⟨rfl, rfl⟩
def f_X0_copyFrom (N : Nat) (h : AH) (a0 : Nat) (a1 : Nat) : Option AH :=
  (jgr 0 h a0 0).bind fun x1 =>
  (jgr 0 h a1 0).bind fun x3 =>
  (jck 5 h x1).bind fun _ =>
  (f_X5_copyFrom N h x1 x3).bind fun r5 =>
  (jgr 0 r5 a1 1).bind fun x9 =>
  (jgr 0 r5 a0 1).bind fun x11 =>
  (jgr 0 r5 a0 1).bind fun x13 =>
  (jln 0 r5 x13).bind fun x15 =>
  (jcp r5 x9 0 x11 0 x15).bind fun h17 =>
  (jgi 0 h17 a1 2).bind fun x19 =>
  (jwi 0 h17 a0 2 x19).bind fun h21 =>
  (jgi 0 h21 a1 8).bind fun x23 =>
  (jwi 0 h21 a0 8 x23).bind fun h25 =>
  (jgr 0 h25 a1 7).bind fun x27 =>
  (jgr 0 h25 a0 7).bind fun x29 =>
  (jgr 0 h25 a0 7).bind fun x31 =>
  (jln 0 h25 x31).bind fun x33 =>
  (jcp h25 x27 0 x29 0 x33).bind fun h35 =>
  (jgi 0 h35 a1 3).bind fun x37 =>
  (jwi 0 h35 a0 3 x37).bind fun h39 =>
  (jgr 0 h39 a1 4).bind fun x41 =>
  (jgr 0 h39 a0 4).bind fun x43 =>
  (jcp h39 x41 0 x43 0 8).bind fun h45 =>
  (jgr 0 h45 a1 5).bind fun x47 =>
  (jgr 0 h45 a0 5).bind fun x49 =>
  (jcp h45 x47 0 x49 0 8).bind fun h51 =>
  (jgr 0 h51 a1 6).bind fun x53 =>
  (jgr 0 h51 a0 6).bind fun x55 =>
  (jcp h51 x53 0 x55 0 8).bind fun h57 =>
  some h57
set_option maxRecDepth 100000 in
set_option maxHeartbeats 4000000 in
theorem lk_X0_copyFrom {G : JG} {l : Launch} (hG : jG G) (htr : l.stackTraces = false) (N : Nat) {h : AH} {a0 : Nat} {a1 : Nat} {r : AH} (hf : f_X0_copyFrom N h a0 a1 = some r) : jMet G l yX0_copyFrom cX0_copyFrom 2 none 2 0 0 [.ref a0, .ref a1] h (jpv r) := by
  unfold f_X0_copyFrom at hf
  refine jMet_of hG htr (by decide) (Nat.le_of_ble_eq_true rfl) ?_
  intro X E hl9 hr hX _ _
  show JW G X (RX0, cX0_copyFrom, 2) h [(0, .ref a0), (1, .ref a1)] [] 0 0 0 (jEnd G X (jpv r) 0 0)
  refine J_aload_n E (jd dk_X0_copyFrom_0 0 rfl) rfl 0 rfl ?_
  obtain ⟨x1, e2, hf⟩ := jbind hf
  refine J_getr E (jd dk_X0_copyFrom_0 1 rfl) fl_RX0_12 e2 ?_
  refine J_aload_n E (jd dk_X0_copyFrom_0 2 rfl) rfl 1 rfl ?_
  obtain ⟨x3, e4, hf⟩ := jbind hf
  refine J_getr E (jd dk_X0_copyFrom_0 3 rfl) fl_RX0_12 e4 ?_
  obtain ⟨u7, e8, hf⟩ := jbind hf
  obtain ⟨r5, e6, hf⟩ := jbind hf
  refine J_callV E (jd dk_X0_copyFrom_0 4 rfl) ml_RX0_48 cal_X5_copyFrom e8 rfl (lk_X5_copyFrom (jE_g E) (jE_tr E) N e6) rfl (Nat.le_of_ble_eq_true rfl) (jR_le hX (by decide) (by decide)) (jF0 hX) rfl ?_
  rintro _ _ ⟨rfl, rfl⟩
  refine J_aload_n E (jd dk_X0_copyFrom_0 5 rfl) rfl 1 rfl ?_
  obtain ⟨x9, e10, hf⟩ := jbind hf
  refine J_getr E (jd dk_X0_copyFrom_0 6 rfl) fl_RX0_18 e10 ?_
  refine J_iconst (v := 0) E (jd dk_X0_copyFrom_0 7 rfl) rfl ?_
  refine J_aload_n E (jd dk_X0_copyFrom_0 8 rfl) rfl 0 rfl ?_
  obtain ⟨x11, e12, hf⟩ := jbind hf
  refine J_getr E (jd dk_X0_copyFrom_0 9 rfl) fl_RX0_18 e12 ?_
  refine J_iconst (v := 0) E (jd dk_X0_copyFrom_0 10 rfl) rfl ?_
  refine J_aload_n E (jd dk_X0_copyFrom_0 11 rfl) rfl 0 rfl ?_
  obtain ⟨x13, e14, hf⟩ := jbind hf
  refine J_getr E (jd dk_X0_copyFrom_0 12 rfl) fl_RX0_18 e14 ?_
  obtain ⟨x15, e16, hf⟩ := jbind hf
  refine J_alen E (by decide) (jd dk_X0_copyFrom_0 13 rfl) e16 ?_
  obtain ⟨h17, e18, hf⟩ := jbind hf
  refine J_copy E (jd dk_X0_copyFrom_0 14 rfl) ml_RX0_52 cpw.1 cpw.2.1 cpw.2.2 (Nat.le_of_ble_eq_true rfl) e18 ?_
  refine J_aload_n E (jd dk_X0_copyFrom_0 15 rfl) rfl 0 rfl ?_
  refine J_aload_n E (jd dk_X0_copyFrom_0 16 rfl) rfl 1 rfl ?_
  obtain ⟨x19, e20, hf⟩ := jbind hf
  refine J_geti E (jd dk_X0_copyFrom_0 17 rfl) fl_RX0_22 e20 ?_
  obtain ⟨h21, e22, hf⟩ := jbind hf
  refine J_put E (jd dk_X0_copyFrom_0 18 rfl) fl_RX0_22 e22 (fun _ => rfl) (fun _ => rfl) ?_
  refine J_aload_n E (jd dk_X0_copyFrom_0 19 rfl) rfl 0 rfl ?_
  refine J_aload_n E (jd dk_X0_copyFrom_0 20 rfl) rfl 1 rfl ?_
  obtain ⟨x23, e24, hf⟩ := jbind hf
  refine J_geti E (jd dk_X0_copyFrom_0 21 rfl) fl_RX0_41 e24 ?_
  obtain ⟨h25, e26, hf⟩ := jbind hf
  refine J_put E (jd dk_X0_copyFrom_0 22 rfl) fl_RX0_41 e26 (fun _ => rfl) (fun _ => rfl) ?_
  refine J_aload_n E (jd dk_X0_copyFrom_0 23 rfl) rfl 1 rfl ?_
  obtain ⟨x27, e28, hf⟩ := jbind hf
  refine J_getr E (jd dk_X0_copyFrom_0 24 rfl) fl_RX0_38 e28 ?_
  refine J_iconst (v := 0) E (jd dk_X0_copyFrom_0 25 rfl) rfl ?_
  refine J_aload_n E (jd dk_X0_copyFrom_0 26 rfl) rfl 0 rfl ?_
  obtain ⟨x29, e30, hf⟩ := jbind hf
  refine J_getr E (jd dk_X0_copyFrom_0 27 rfl) fl_RX0_38 e30 ?_
  refine J_iconst (v := 0) E (jd dk_X0_copyFrom_0 28 rfl) rfl ?_
  refine J_aload_n E (jd dk_X0_copyFrom_0 29 rfl) rfl 0 rfl ?_
  obtain ⟨x31, e32, hf⟩ := jbind hf
  refine J_getr E (jd dk_X0_copyFrom_0 30 rfl) fl_RX0_38 e32 ?_
  obtain ⟨x33, e34, hf⟩ := jbind hf
  refine J_alen E (by decide) (jd dk_X0_copyFrom_0 31 rfl) e34 ?_
  obtain ⟨h35, e36, hf⟩ := jbind hf
  refine J_copy E (jd dk_X0_copyFrom_0 32 rfl) ml_RX0_52 cpw.1 cpw.2.1 cpw.2.2 (Nat.le_of_ble_eq_true rfl) e36 ?_
  refine J_aload_n E (jd dk_X0_copyFrom_0 33 rfl) rfl 0 rfl ?_
  refine J_aload_n E (jd dk_X0_copyFrom_0 34 rfl) rfl 1 rfl ?_
  obtain ⟨x37, e38, hf⟩ := jbind hf
  refine J_geti E (jd dk_X0_copyFrom_0 35 rfl) fl_RX0_26 e38 ?_
  obtain ⟨h39, e40, hf⟩ := jbind hf
  refine J_put E (jd dk_X0_copyFrom_0 36 rfl) fl_RX0_26 e40 (fun _ => rfl) (fun _ => rfl) ?_
  refine J_aload_n E (jd dk_X0_copyFrom_0 37 rfl) rfl 1 rfl ?_
  obtain ⟨x41, e42, hf⟩ := jbind hf
  refine J_getr E (jd dk_X0_copyFrom_0 38 rfl) fl_RX0_29 e42 ?_
  refine J_iconst (v := 0) E (jd dk_X0_copyFrom_0 39 rfl) rfl ?_
  refine J_aload_n E (jd dk_X0_copyFrom_0 40 rfl) rfl 0 rfl ?_
  obtain ⟨x43, e44, hf⟩ := jbind hf
  refine J_getr E (jd dk_X0_copyFrom_0 41 rfl) fl_RX0_29 e44 ?_
  refine J_iconst (v := 0) E (jd dk_X0_copyFrom_0 42 rfl) rfl ?_
  refine J_bipush (v := 8) E (jd dk_X0_copyFrom_0 43 rfl) (by decide) ?_
  obtain ⟨h45, e46, hf⟩ := jbind hf
  refine J_copy E (jd dk_X0_copyFrom_0 44 rfl) ml_RX0_52 cpw.1 cpw.2.1 cpw.2.2 (Nat.le_of_ble_eq_true rfl) e46 ?_
  refine J_aload_n E (jd dk_X0_copyFrom_0 45 rfl) rfl 1 rfl ?_
  obtain ⟨x47, e48, hf⟩ := jbind hf
  refine J_getr E (jd dk_X0_copyFrom_0 46 rfl) fl_RX0_32 e48 ?_
  refine J_iconst (v := 0) E (jd dk_X0_copyFrom_0 47 rfl) rfl ?_
  refine J_aload_n E (jd dk_X0_copyFrom_0 48 rfl) rfl 0 rfl ?_
  obtain ⟨x49, e50, hf⟩ := jbind hf
  refine J_getr E (jd dk_X0_copyFrom_0 49 rfl) fl_RX0_32 e50 ?_
  refine J_iconst (v := 0) E (jd dk_X0_copyFrom_1 0 rfl) rfl ?_
  refine J_bipush (v := 8) E (jd dk_X0_copyFrom_1 1 rfl) (by decide) ?_
  obtain ⟨h51, e52, hf⟩ := jbind hf
  refine J_copy E (jd dk_X0_copyFrom_1 2 rfl) ml_RX0_52 cpw.1 cpw.2.1 cpw.2.2 (Nat.le_of_ble_eq_true rfl) e52 ?_
  refine J_aload_n E (jd dk_X0_copyFrom_1 3 rfl) rfl 1 rfl ?_
  obtain ⟨x53, e54, hf⟩ := jbind hf
  refine J_getr E (jd dk_X0_copyFrom_1 4 rfl) fl_RX0_35 e54 ?_
  refine J_iconst (v := 0) E (jd dk_X0_copyFrom_1 5 rfl) rfl ?_
  refine J_aload_n E (jd dk_X0_copyFrom_1 6 rfl) rfl 0 rfl ?_
  obtain ⟨x55, e56, hf⟩ := jbind hf
  refine J_getr E (jd dk_X0_copyFrom_1 7 rfl) fl_RX0_35 e56 ?_
  refine J_iconst (v := 0) E (jd dk_X0_copyFrom_1 8 rfl) rfl ?_
  refine J_bipush (v := 8) E (jd dk_X0_copyFrom_1 9 rfl) (by decide) ?_
  obtain ⟨h57, e58, hf⟩ := jbind hf
  refine J_copy E (jd dk_X0_copyFrom_1 10 rfl) ml_RX0_52 cpw.1 cpw.2.1 cpw.2.2 (Nat.le_of_ble_eq_true rfl) e58 ?_
  cases hf
  exact J_vret E hr (jd dk_X0_copyFrom_1 11 rfl) (Nat.le_refl _) (Nat.le_refl _) ⟨rfl, rfl⟩
def f_X0_keepAct_b34 (N : Nat) (v0 : Nat) (h : AH) : Option AH :=
  (jgr 0 h v0 0).bind fun x1 =>
  (jgr 0 h v0 7).bind fun x3 =>
  (jgi 0 h v0 8).bind fun x5 =>
  (jgi 0 h v0 2).bind fun x7 =>
  (f_X6_rest N h (x5 + x7) 40).bind fun r9 =>
  (jck 5 r9.2 x1).bind fun _ =>
  (f_X5_writeTo N r9.2 x1 x3 r9.1).bind fun r11 =>
  (jgi 0 r11 v0 2).bind fun x15 =>
  (jwi 0 r11 v0 2 (x15 + 1)).bind fun h17 =>
  some h17
def f_X0_keepAct (N : Nat) (h : AH) (a0 : Nat) : Option AH :=
  (jgi 0 h a0 2).bind fun x19 =>
  if x19 = 40 then (jgi 0 h a0 8).bind fun x22 =>
  (f_X6_rest N h (x22 + 1) 40).bind fun r24 =>
  (jwi 0 r24.2 a0 8 r24.1).bind fun h26 =>
  (jgi 0 h26 a0 2).bind fun x28 =>
  (jwi 0 h26 a0 2 (x28 - 1)).bind fun h30 =>
  f_X0_keepAct_b34 N a0 h30
  else f_X0_keepAct_b34 N a0 h
set_option maxRecDepth 100000 in
set_option maxHeartbeats 4000000 in
theorem lk_X0_keepAct_b34 {G : JG} {X : JX} (E : jE G X (RX0, cX0_keepAct, 1)) (hX : X.2.2.2.1 = jRm 2 0 0) (hr : X.2.2.2.2.2.2.2.2.1.sig.returnType = none) (N : Nat) {v0 : Nat} {h : AH}  {r : AH} (hf : f_X0_keepAct_b34 N v0 h = some r) : JW G X (RX0, cX0_keepAct, 1) h [(0, .ref v0)] [] 34 0 0 (jEnd G X (jpv r) 0 0) := by
  unfold f_X0_keepAct_b34 at hf
  refine J_aload_n E (jd dk_X0_keepAct_0 18 rfl) rfl 0 rfl ?_
  obtain ⟨x1, e2, hf⟩ := jbind hf
  refine J_getr E (jd dk_X0_keepAct_0 19 rfl) fl_RX0_12 e2 ?_
  refine J_aload_n E (jd dk_X0_keepAct_0 20 rfl) rfl 0 rfl ?_
  obtain ⟨x3, e4, hf⟩ := jbind hf
  refine J_getr E (jd dk_X0_keepAct_0 21 rfl) fl_RX0_38 e4 ?_
  refine J_aload_n E (jd dk_X0_keepAct_0 22 rfl) rfl 0 rfl ?_
  obtain ⟨x5, e6, hf⟩ := jbind hf
  refine J_geti E (jd dk_X0_keepAct_0 23 rfl) fl_RX0_41 e6 ?_
  refine J_aload_n E (jd dk_X0_keepAct_0 24 rfl) rfl 0 rfl ?_
  obtain ⟨x7, e8, hf⟩ := jbind hf
  refine J_geti E (jd dk_X0_keepAct_0 25 rfl) fl_RX0_22 e8 ?_
  refine J_iadd E (jd dk_X0_keepAct_0 26 rfl) ?_
  refine J_bipush (v := 40) E (jd dk_X0_keepAct_0 27 rfl) (by decide) ?_
  obtain ⟨r9, e10, hf⟩ := jbind hf
  refine J_callSN E (jd dk_X0_keepAct_0 28 rfl) mn_RX0_58 cal_X6_rest (lk_X6_rest (jE_g E) (jE_tr E) N e10) rfl (Nat.le_of_ble_eq_true rfl) (jR_le hX (by decide) (by decide)) (jF0 hX) rfl ?_
  rintro _ _ ⟨rfl, rfl⟩
  obtain ⟨u13, e14, hf⟩ := jbind hf
  obtain ⟨r11, e12, hf⟩ := jbind hf
  refine J_callV E (jd dk_X0_keepAct_0 29 rfl) ml_RX0_62 cal_X5_writeTo e14 rfl (lk_X5_writeTo (jE_g E) (jE_tr E) N e12) rfl (Nat.le_of_ble_eq_true rfl) (jR_le hX (by decide) (by decide)) (jF0 hX) rfl ?_
  rintro _ _ ⟨rfl, rfl⟩
  refine J_aload_n E (jd dk_X0_keepAct_0 30 rfl) rfl 0 rfl ?_
  refine J_dup E (jd dk_X0_keepAct_0 31 rfl) rfl ?_
  obtain ⟨x15, e16, hf⟩ := jbind hf
  refine J_geti E (jd dk_X0_keepAct_0 32 rfl) fl_RX0_22 e16 ?_
  refine J_iconst (v := 1) E (jd dk_X0_keepAct_0 33 rfl) rfl ?_
  refine J_iadd E (jd dk_X0_keepAct_0 34 rfl) ?_
  obtain ⟨h17, e18, hf⟩ := jbind hf
  refine J_put E (jd dk_X0_keepAct_0 35 rfl) fl_RX0_22 e18 (fun _ => rfl) (fun _ => rfl) ?_
  cases hf
  exact J_vret E hr (jd dk_X0_keepAct_0 36 rfl) (Nat.le_refl _) (Nat.le_refl _) ⟨rfl, rfl⟩
set_option maxRecDepth 100000 in
set_option maxHeartbeats 4000000 in
theorem lk_X0_keepAct {G : JG} {l : Launch} (hG : jG G) (htr : l.stackTraces = false) (N : Nat) {h : AH} {a0 : Nat} {r : AH} (hf : f_X0_keepAct N h a0 = some r) : jMet G l yX0_keepAct cX0_keepAct 1 none 2 0 0 [.ref a0] h (jpv r) := by
  unfold f_X0_keepAct at hf
  refine jMet_of hG htr (by decide) (Nat.le_of_ble_eq_true rfl) ?_
  intro X E hl9 hr hX _ _
  show JW G X (RX0, cX0_keepAct, 1) h [(0, .ref a0)] [] 0 0 0 (jEnd G X (jpv r) 0 0)
  refine J_aload_n E (jd dk_X0_keepAct_0 0 rfl) rfl 0 rfl ?_
  obtain ⟨x19, e20, hf⟩ := jbind hf
  refine J_geti E (jd dk_X0_keepAct_0 1 rfl) fl_RX0_22 e20 ?_
  refine J_bipush (v := 40) E (jd dk_X0_keepAct_0 2 rfl) (by decide) ?_
  refine J_icmp_ne (tgt := 34) E (jd dk_X0_keepAct_0 3 rfl) (by decide) (fun c21 => ?_) (fun c21 => ?_)
  · replace hf := jif_f c21 hf
    exact lk_X0_keepAct_b34 E hX hr N hf
  · replace hf := jif_t c21 hf
    refine J_aload_n E (jd dk_X0_keepAct_0 4 rfl) rfl 0 rfl ?_
    refine J_aload_n E (jd dk_X0_keepAct_0 5 rfl) rfl 0 rfl ?_
    obtain ⟨x22, e23, hf⟩ := jbind hf
    refine J_geti E (jd dk_X0_keepAct_0 6 rfl) fl_RX0_41 e23 ?_
    refine J_iconst (v := 1) E (jd dk_X0_keepAct_0 7 rfl) rfl ?_
    refine J_iadd E (jd dk_X0_keepAct_0 8 rfl) ?_
    refine J_bipush (v := 40) E (jd dk_X0_keepAct_0 9 rfl) (by decide) ?_
    obtain ⟨r24, e25, hf⟩ := jbind hf
    refine J_callSN E (jd dk_X0_keepAct_0 10 rfl) mn_RX0_58 cal_X6_rest (lk_X6_rest (jE_g E) (jE_tr E) N e25) rfl (Nat.le_of_ble_eq_true rfl) (jR_le hX (by decide) (by decide)) (jF0 hX) rfl ?_
    rintro _ _ ⟨rfl, rfl⟩
    obtain ⟨h26, e27, hf⟩ := jbind hf
    refine J_put E (jd dk_X0_keepAct_0 11 rfl) fl_RX0_41 e27 (fun _ => rfl) (fun _ => rfl) ?_
    refine J_aload_n E (jd dk_X0_keepAct_0 12 rfl) rfl 0 rfl ?_
    refine J_dup E (jd dk_X0_keepAct_0 13 rfl) rfl ?_
    obtain ⟨x28, e29, hf⟩ := jbind hf
    refine J_geti E (jd dk_X0_keepAct_0 14 rfl) fl_RX0_22 e29 ?_
    refine J_iconst (v := 1) E (jd dk_X0_keepAct_0 15 rfl) rfl ?_
    refine J_isub E (jd dk_X0_keepAct_0 16 rfl) ?_
    obtain ⟨h30, e31, hf⟩ := jbind hf
    refine J_put E (jd dk_X0_keepAct_0 17 rfl) fl_RX0_22 e31 (fun _ => rfl) (fun _ => rfl) ?_
    exact lk_X0_keepAct_b34 E hX hr N hf
def f_X0_undoAct (N : Nat) (h : AH) (a0 : Nat) : Option (Int32 × AH) :=
  (jgi 0 h a0 2).bind fun x1 =>
  if x1 = 0 then some (0, h)
  else (jgi 0 h a0 2).bind fun x4 =>
  (jwi 0 h a0 2 (x4 - 1)).bind fun h6 =>
  (jgr 0 h6 a0 0).bind fun x8 =>
  (jgr 0 h6 a0 7).bind fun x10 =>
  (jgi 0 h6 a0 8).bind fun x12 =>
  (jgi 0 h6 a0 2).bind fun x14 =>
  (f_X6_rest N h6 (x12 + x14) 40).bind fun r16 =>
  (jck 5 r16.2 x8).bind fun _ =>
  (f_X5_readFrom N r16.2 x8 x10 r16.1).bind fun r18 =>
  some (1, r18)
set_option maxRecDepth 100000 in
set_option maxHeartbeats 4000000 in
theorem lk_X0_undoAct {G : JG} {l : Launch} (hG : jG G) (htr : l.stackTraces = false) (N : Nat) {h : AH} {a0 : Nat} {r : (Int32 × AH)} (hf : f_X0_undoAct N h a0 = some r) : jMet G l yX0_undoAct cX0_undoAct 1 (some .boolean) 2 0 0 [.ref a0] h (jpi r) := by
  unfold f_X0_undoAct at hf
  refine jMet_of hG htr (by decide) (Nat.le_of_ble_eq_true rfl) ?_
  intro X E hl9 hr hX _ _
  show JW G X (RX0, cX0_undoAct, 1) h [(0, .ref a0)] [] 0 0 0 (jEnd G X (jpi r) 0 0)
  refine J_aload_n E (jd dk_X0_undoAct_0 0 rfl) rfl 0 rfl ?_
  obtain ⟨x1, e2, hf⟩ := jbind hf
  refine J_geti E (jd dk_X0_undoAct_0 1 rfl) fl_RX0_22 e2 ?_
  refine J_if_ne (tgt := 9) E (jd dk_X0_undoAct_0 2 rfl) (by decide) (fun c3 => ?_) (fun c3 => ?_)
  · replace hf := jif_f c3 hf
    refine J_aload_n E (jd dk_X0_undoAct_0 5 rfl) rfl 0 rfl ?_
    refine J_dup E (jd dk_X0_undoAct_0 6 rfl) rfl ?_
    obtain ⟨x4, e5, hf⟩ := jbind hf
    refine J_geti E (jd dk_X0_undoAct_0 7 rfl) fl_RX0_22 e5 ?_
    refine J_iconst (v := 1) E (jd dk_X0_undoAct_0 8 rfl) rfl ?_
    refine J_isub E (jd dk_X0_undoAct_0 9 rfl) ?_
    obtain ⟨h6, e7, hf⟩ := jbind hf
    refine J_put E (jd dk_X0_undoAct_0 10 rfl) fl_RX0_22 e7 (fun _ => rfl) (fun _ => rfl) ?_
    refine J_aload_n E (jd dk_X0_undoAct_0 11 rfl) rfl 0 rfl ?_
    obtain ⟨x8, e9, hf⟩ := jbind hf
    refine J_getr E (jd dk_X0_undoAct_0 12 rfl) fl_RX0_12 e9 ?_
    refine J_aload_n E (jd dk_X0_undoAct_0 13 rfl) rfl 0 rfl ?_
    obtain ⟨x10, e11, hf⟩ := jbind hf
    refine J_getr E (jd dk_X0_undoAct_0 14 rfl) fl_RX0_38 e11 ?_
    refine J_aload_n E (jd dk_X0_undoAct_0 15 rfl) rfl 0 rfl ?_
    obtain ⟨x12, e13, hf⟩ := jbind hf
    refine J_geti E (jd dk_X0_undoAct_0 16 rfl) fl_RX0_41 e13 ?_
    refine J_aload_n E (jd dk_X0_undoAct_0 17 rfl) rfl 0 rfl ?_
    obtain ⟨x14, e15, hf⟩ := jbind hf
    refine J_geti E (jd dk_X0_undoAct_0 18 rfl) fl_RX0_22 e15 ?_
    refine J_iadd E (jd dk_X0_undoAct_0 19 rfl) ?_
    refine J_bipush (v := 40) E (jd dk_X0_undoAct_0 20 rfl) (by decide) ?_
    obtain ⟨r16, e17, hf⟩ := jbind hf
    refine J_callSN E (jd dk_X0_undoAct_0 21 rfl) mn_RX0_58 cal_X6_rest (lk_X6_rest (jE_g E) (jE_tr E) N e17) rfl (Nat.le_of_ble_eq_true rfl) (jR_le hX (by decide) (by decide)) (jF0 hX) rfl ?_
    rintro _ _ ⟨rfl, rfl⟩
    obtain ⟨u20, e21, hf⟩ := jbind hf
    obtain ⟨r18, e19, hf⟩ := jbind hf
    refine J_callV E (jd dk_X0_undoAct_0 22 rfl) ml_RX0_66 cal_X5_readFrom e21 rfl (lk_X5_readFrom (jE_g E) (jE_tr E) N e19) rfl (Nat.le_of_ble_eq_true rfl) (jR_le hX (by decide) (by decide)) (jF0 hX) rfl ?_
    rintro _ _ ⟨rfl, rfl⟩
    refine J_iconst (v := 1) E (jd dk_X0_undoAct_0 23 rfl) rfl ?_
    cases hf
    exact J_iret E hr rfl (jd dk_X0_undoAct_0 24 rfl) (Nat.le_refl _) (Nat.le_refl _) ⟨rfl, rfl⟩
  · replace hf := jif_t c3 hf
    refine J_iconst (v := 0) E (jd dk_X0_undoAct_0 3 rfl) rfl ?_
    cases hf
    exact J_iret E hr rfl (jd dk_X0_undoAct_0 4 rfl) (Nat.le_refl _) (Nat.le_refl _) ⟨rfl, rfl⟩
def f_X0_keepSighting (N : Nat) (h : AH) (a0 : Nat) (a1 : Int32) (a2 : Int32) (a3 : Int32) : Option AH :=
  (jgi 0 h a0 3).bind fun x1 =>
  if 8 ≤ x1 then some h
  else (jgr 0 h a0 4).bind fun x4 =>
  (jgi 0 h a0 3).bind fun x6 =>
  (jas 0 h x4 x6 a1).bind fun h8 =>
  (jgr 0 h8 a0 5).bind fun x10 =>
  (jgi 0 h8 a0 3).bind fun x12 =>
  (jas 0 h8 x10 x12 a2).bind fun h14 =>
  (jgr 0 h14 a0 6).bind fun x16 =>
  (jgi 0 h14 a0 3).bind fun x18 =>
  (jas 0 h14 x16 x18 a3).bind fun h20 =>
  (jgi 0 h20 a0 3).bind fun x22 =>
  (jwi 0 h20 a0 3 (x22 + 1)).bind fun h24 =>
  some h24
set_option maxRecDepth 100000 in
set_option maxHeartbeats 4000000 in
theorem lk_X0_keepSighting {G : JG} {l : Launch} (hG : jG G) (htr : l.stackTraces = false) (N : Nat) {h : AH} {a0 : Nat} {a1 : Int32} {a2 : Int32} {a3 : Int32} {r : AH} (hf : f_X0_keepSighting N h a0 a1 a2 a3 = some r) : jMet G l yX0_keepSighting cX0_keepSighting 4 none 0 0 0 [.ref a0, .int a1, .int a2, .int a3] h (jpv r) := by
  unfold f_X0_keepSighting at hf
  refine jMet_of hG htr (by decide) (Nat.le_of_ble_eq_true rfl) ?_
  intro X E hl9 hr hX _ _
  show JW G X (RX0, cX0_keepSighting, 4) h [(0, .ref a0), (1, .int a1), (2, .int a2), (3, .int a3)] [] 0 0 0 (jEnd G X (jpv r) 0 0)
  refine J_aload_n E (jd dk_X0_keepSighting_0 0 rfl) rfl 0 rfl ?_
  obtain ⟨x1, e2, hf⟩ := jbind hf
  refine J_geti E (jd dk_X0_keepSighting_0 1 rfl) fl_RX0_26 e2 ?_
  refine J_bipush (v := 8) E (jd dk_X0_keepSighting_0 2 rfl) (by decide) ?_
  refine J_icmp_ge (tgt := 49) E (jd dk_X0_keepSighting_0 3 rfl) (by decide) (fun c3 => ?_) (fun c3 => ?_)
  · replace hf := jif_t c3 hf
    cases hf
    exact J_vret E hr (jd dk_X0_keepSighting_0 28 rfl) (Nat.le_refl _) (Nat.le_refl _) ⟨rfl, rfl⟩
  · replace hf := jif_f c3 hf
    refine J_aload_n E (jd dk_X0_keepSighting_0 4 rfl) rfl 0 rfl ?_
    obtain ⟨x4, e5, hf⟩ := jbind hf
    refine J_getr E (jd dk_X0_keepSighting_0 5 rfl) fl_RX0_29 e5 ?_
    refine J_aload_n E (jd dk_X0_keepSighting_0 6 rfl) rfl 0 rfl ?_
    obtain ⟨x6, e7, hf⟩ := jbind hf
    refine J_geti E (jd dk_X0_keepSighting_0 7 rfl) fl_RX0_26 e7 ?_
    refine J_iload_n E (jd dk_X0_keepSighting_0 8 rfl) rfl 1 rfl ?_
    obtain ⟨h8, e9, hf⟩ := jbind hf
    refine J_iast E (jd dk_X0_keepSighting_0 9 rfl) e9 ?_
    refine J_aload_n E (jd dk_X0_keepSighting_0 10 rfl) rfl 0 rfl ?_
    obtain ⟨x10, e11, hf⟩ := jbind hf
    refine J_getr E (jd dk_X0_keepSighting_0 11 rfl) fl_RX0_32 e11 ?_
    refine J_aload_n E (jd dk_X0_keepSighting_0 12 rfl) rfl 0 rfl ?_
    obtain ⟨x12, e13, hf⟩ := jbind hf
    refine J_geti E (jd dk_X0_keepSighting_0 13 rfl) fl_RX0_26 e13 ?_
    refine J_iload_n E (jd dk_X0_keepSighting_0 14 rfl) rfl 2 rfl ?_
    obtain ⟨h14, e15, hf⟩ := jbind hf
    refine J_iast E (jd dk_X0_keepSighting_0 15 rfl) e15 ?_
    refine J_aload_n E (jd dk_X0_keepSighting_0 16 rfl) rfl 0 rfl ?_
    obtain ⟨x16, e17, hf⟩ := jbind hf
    refine J_getr E (jd dk_X0_keepSighting_0 17 rfl) fl_RX0_35 e17 ?_
    refine J_aload_n E (jd dk_X0_keepSighting_0 18 rfl) rfl 0 rfl ?_
    obtain ⟨x18, e19, hf⟩ := jbind hf
    refine J_geti E (jd dk_X0_keepSighting_0 19 rfl) fl_RX0_26 e19 ?_
    refine J_iload_n E (jd dk_X0_keepSighting_0 20 rfl) rfl 3 rfl ?_
    obtain ⟨h20, e21, hf⟩ := jbind hf
    refine J_iast E (jd dk_X0_keepSighting_0 21 rfl) e21 ?_
    refine J_aload_n E (jd dk_X0_keepSighting_0 22 rfl) rfl 0 rfl ?_
    refine J_dup E (jd dk_X0_keepSighting_0 23 rfl) rfl ?_
    obtain ⟨x22, e23, hf⟩ := jbind hf
    refine J_geti E (jd dk_X0_keepSighting_0 24 rfl) fl_RX0_26 e23 ?_
    refine J_iconst (v := 1) E (jd dk_X0_keepSighting_0 25 rfl) rfl ?_
    refine J_iadd E (jd dk_X0_keepSighting_0 26 rfl) ?_
    obtain ⟨h24, e25, hf⟩ := jbind hf
    refine J_put E (jd dk_X0_keepSighting_0 27 rfl) fl_RX0_26 e25 (fun _ => rfl) (fun _ => rfl) ?_
    cases hf
    exact J_vret E hr (jd dk_X0_keepSighting_0 28 rfl) (Nat.le_refl _) (Nat.le_refl _) ⟨rfl, rfl⟩
def f_X0_lastSightingStep_l4 (N : Nat) (v0 : Nat) (v1 : Int32) (v2 : Int32) (h : AH) : Option ((Int32 × Int32 × AH) ⊕ ((Int32 × AH))) :=
  (jgi 0 h v0 3).bind fun x1 =>
  if x1 ≤ v2 then some (.inr ((v1, h)))
  else (jgr 0 h v0 5).bind fun x4 =>
  (jal 0 h x4 v2).bind fun x6 =>
  some (.inl ((jmx v1 x6, v2 + 1, h)))
def f_X0_lastSightingStep_b4 (N : Nat) (v0 : Nat) (v1 : Int32) (v2 : Int32) (h : AH) : Option (Int32 × AH) :=
  (itr (fun s => f_X0_lastSightingStep_l4 N v0 s.1 s.2.1 s.2.2) N (v1, v2, h)).bind (fun e => some (e.1, e.2))
def f_X0_lastSightingStep (N : Nat) (h : AH) (a0 : Nat) : Option (Int32 × AH) :=
  f_X0_lastSightingStep_b4 N a0 0 0 h
set_option maxRecDepth 100000 in
set_option maxHeartbeats 4000000 in
theorem lk_X0_lastSightingStep_l4 {G : JG} {X : JX} (E : jE G X (RX0, cX0_lastSightingStep, 3)) (hX : X.2.2.2.1 = jRm 1 0 0) (hr : X.2.2.2.2.2.2.2.2.1.sig.returnType = (some .int)) (N : Nat) {Q : State → Prop} {v0 : Nat} {v1 : Int32} {v2 : Int32}  {h : AH} {q : ((Int32 × Int32 × AH) ⊕ ((Int32 × AH)))} (hf : f_X0_lastSightingStep_l4 N v0 v1 v2 h = some q) (kb : ∀ s' : Int32 × Int32 × AH, q = .inl s' → JW G X (RX0, cX0_lastSightingStep, 3) s'.2.2 [(0, .ref v0), (1, .int s'.1), (2, .int s'.2.1)] [] 4 0 0 Q) (ke0 : ∀ e : Int32 × AH, q = .inr e → JW G X (RX0, cX0_lastSightingStep, 3) e.2 [(1, .int e.1)] [] 29 0 0 Q) : JW G X (RX0, cX0_lastSightingStep, 3) h [(0, .ref v0), (1, .int v1), (2, .int v2)] [] 4 0 0 Q := by
  unfold f_X0_lastSightingStep_l4 at hf
  refine J_iload_n E (jd dk_X0_lastSightingStep_0 4 rfl) rfl 2 rfl ?_
  refine J_aload_n E (jd dk_X0_lastSightingStep_0 5 rfl) rfl 0 rfl ?_
  obtain ⟨x1, e2, hf⟩ := jbind hf
  refine J_geti E (jd dk_X0_lastSightingStep_0 6 rfl) fl_RX0_26 e2 ?_
  refine J_icmp_ge (tgt := 29) E (jd dk_X0_lastSightingStep_0 7 rfl) (by decide) (fun c3 => ?_) (fun c3 => ?_)
  · replace hf := jif_t c3 hf
    refine J_sub [1] rfl ?_
    exact ke0 _ (Option.some.inj hf).symm
  · replace hf := jif_f c3 hf
    refine J_iload_n E (jd dk_X0_lastSightingStep_0 8 rfl) rfl 1 rfl ?_
    refine J_aload_n E (jd dk_X0_lastSightingStep_0 9 rfl) rfl 0 rfl ?_
    obtain ⟨x4, e5, hf⟩ := jbind hf
    refine J_getr E (jd dk_X0_lastSightingStep_0 10 rfl) fl_RX0_32 e5 ?_
    refine J_iload_n E (jd dk_X0_lastSightingStep_0 11 rfl) rfl 2 rfl ?_
    obtain ⟨x6, e7, hf⟩ := jbind hf
    refine J_iald E (jd dk_X0_lastSightingStep_0 12 rfl) e7 ?_
    refine J_max E (jd dk_X0_lastSightingStep_0 13 rfl) ml_RX0_69 (Nat.le_of_ble_eq_true rfl) (by rw [hX]; exact ⟨Nat.zero_le _, Nat.zero_le _⟩) ?_
    refine J_istore_n (lv' := [(1, .int (jmx v1 x6)), (0, .ref v0), (2, .int v2)]) E (jd dk_X0_lastSightingStep_0 14 rfl) rfl (by decide) rfl ?_
    refine J_iinc (v := v2 + 1) (lv' := [(2, .int (v2 + 1)), (1, .int (jmx v1 x6)), (0, .ref v0)]) E (jd dk_X0_lastSightingStep_0 15 rfl) 2 rfl rfl (by decide) rfl ?_
    refine J_goto (tgt := 4) E (jd dk_X0_lastSightingStep_0 16 rfl) (by decide) ?_
    refine J_sub [2, 1, 0] rfl ?_
    exact kb _ (Option.some.inj hf).symm
set_option maxRecDepth 100000 in
set_option maxHeartbeats 4000000 in
theorem lk_X0_lastSightingStep_b4 {G : JG} {X : JX} (E : jE G X (RX0, cX0_lastSightingStep, 3)) (hX : X.2.2.2.1 = jRm 1 0 0) (hr : X.2.2.2.2.2.2.2.2.1.sig.returnType = (some .int)) (N : Nat) {v0 : Nat} {v1 : Int32} {v2 : Int32} {h : AH}  {r : (Int32 × AH)} (hf : f_X0_lastSightingStep_b4 N v0 v1 v2 h = some r) : JW G X (RX0, cX0_lastSightingStep, 3) h [(0, .ref v0), (1, .int v1), (2, .int v2)] [] 4 0 0 (jEnd G X (jpi r) 0 0) := by
  unfold f_X0_lastSightingStep_b4 at hf
  obtain ⟨q1, h1, hf⟩ := jbind hf
  refine jloop (P := fun s => JW G X (RX0, cX0_lastSightingStep, 3) s.2.2 [(0, .ref v0), (1, .int s.1), (2, .int s.2.1)] [] 4 0 0 (jEnd G X (jpi r) 0 0)) (Ex := fun (e : Int32 × AH) => JW G X (RX0, cX0_lastSightingStep, 3) e.2 [(1, .int e.1)] [] 29 0 0 (jEnd G X (jpi r) 0 0)) (fun s q hs hb hx => lk_X0_lastSightingStep_l4 E hX hr N hs (fun s' hs => hb s' hs) (fun e he => hx e he)) N _ q1 h1 ?_
  generalize q1 = e at hf ⊢
  refine J_iload_n E (jd dk_X0_lastSightingStep_0 17 rfl) rfl 0 rfl ?_
  cases hf
  exact J_iret E hr rfl (jd dk_X0_lastSightingStep_0 18 rfl) (Nat.le_refl _) (Nat.le_refl _) ⟨rfl, rfl⟩
set_option maxRecDepth 100000 in
set_option maxHeartbeats 4000000 in
theorem lk_X0_lastSightingStep {G : JG} {l : Launch} (hG : jG G) (htr : l.stackTraces = false) (N : Nat) {h : AH} {a0 : Nat} {r : (Int32 × AH)} (hf : f_X0_lastSightingStep N h a0 = some r) : jMet G l yX0_lastSightingStep cX0_lastSightingStep 3 (some .int) 1 0 0 [.ref a0] h (jpi r) := by
  unfold f_X0_lastSightingStep at hf
  refine jMet_of hG htr (by decide) (Nat.le_of_ble_eq_true rfl) ?_
  intro X E hl9 hr hX _ _
  show JW G X (RX0, cX0_lastSightingStep, 3) h [(0, .ref a0)] [] 0 0 0 (jEnd G X (jpi r) 0 0)
  refine J_iconst (v := 0) E (jd dk_X0_lastSightingStep_0 0 rfl) rfl ?_
  refine J_istore_n (lv' := [(1, .int 0), (0, .ref a0)]) E (jd dk_X0_lastSightingStep_0 1 rfl) rfl (by decide) rfl ?_
  refine J_iconst (v := 0) E (jd dk_X0_lastSightingStep_0 2 rfl) rfl ?_
  refine J_istore_n (lv' := [(2, .int 0), (1, .int 0), (0, .ref a0)]) E (jd dk_X0_lastSightingStep_0 3 rfl) rfl (by decide) rfl ?_
  refine J_sub [2, 1, 0] rfl ?_
  exact lk_X0_lastSightingStep_b4 E hX hr N hf
def f_X3_mayHave_b26 (N : Nat)  (h : AH) : Option (Int32 × AH) :=
  some (0, h)
def f_X3_mayHave (N : Nat) (h : AH) (a0 : Nat) (a1 : Int32) (a2 : Int32) (a3 : Int32) : Option (Int32 × AH) :=
  if ((a2 >>> (a3 &&& 31)) &&& 1) = 0 then (jgr 5 h a0 3).bind fun x2 =>
  (jal 0 h x2 a3).bind fun x4 =>
  if ((x4 >>> (a1 &&& 31)) &&& 1) = 1 then some (1, h)
  else f_X3_mayHave_b26 N  h
  else f_X3_mayHave_b26 N  h
set_option maxRecDepth 100000 in
set_option maxHeartbeats 4000000 in
theorem lk_X3_mayHave_b26 {G : JG} {X : JX} (E : jE G X (RX3, cX3_mayHave, 4)) (hX : X.2.2.2.1 = jRm 0 0 0) (hr : X.2.2.2.2.2.2.2.2.1.sig.returnType = (some .boolean)) (N : Nat)  {h : AH}  {r : (Int32 × AH)} (hf : f_X3_mayHave_b26 N  h = some r) : JW G X (RX3, cX3_mayHave, 4) h [] [] 26 0 0 (jEnd G X (jpi r) 0 0) := by
  unfold f_X3_mayHave_b26 at hf
  refine J_iconst (v := 0) E (jd dk_X3_mayHave_0 18 rfl) rfl ?_
  cases hf
  exact J_iret E hr rfl (jd dk_X3_mayHave_0 19 rfl) (Nat.le_refl _) (Nat.le_refl _) ⟨rfl, rfl⟩
set_option maxRecDepth 100000 in
set_option maxHeartbeats 4000000 in
theorem lk_X3_mayHave {G : JG} {l : Launch} (hG : jG G) (htr : l.stackTraces = false) (N : Nat) {h : AH} {a0 : Nat} {a1 : Int32} {a2 : Int32} {a3 : Int32} {r : (Int32 × AH)} (hf : f_X3_mayHave N h a0 a1 a2 a3 = some r) : jMet G l yX3_mayHave cX3_mayHave 4 (some .boolean) 0 0 0 [.ref a0, .int a1, .int a2, .int a3] h (jpi r) := by
  unfold f_X3_mayHave at hf
  refine jMet_of hG htr (by decide) (Nat.le_of_ble_eq_true rfl) ?_
  intro X E hl9 hr hX _ _
  show JW G X (RX3, cX3_mayHave, 4) h [(0, .ref a0), (1, .int a1), (2, .int a2), (3, .int a3)] [] 0 0 0 (jEnd G X (jpi r) 0 0)
  refine J_iload_n E (jd dk_X3_mayHave_0 0 rfl) rfl 2 rfl ?_
  refine J_iload_n E (jd dk_X3_mayHave_0 1 rfl) rfl 3 rfl ?_
  refine J_ishr E (jd dk_X3_mayHave_0 2 rfl) ?_
  refine J_iconst (v := 1) E (jd dk_X3_mayHave_0 3 rfl) rfl ?_
  refine J_iand E (jd dk_X3_mayHave_0 4 rfl) ?_
  refine J_if_ne (tgt := 26) E (jd dk_X3_mayHave_0 5 rfl) (by decide) (fun c1 => ?_) (fun c1 => ?_)
  · replace hf := jif_f c1 hf
    refine J_sub [] rfl ?_
    exact lk_X3_mayHave_b26 E hX hr N hf
  · replace hf := jif_t c1 hf
    refine J_aload_n E (jd dk_X3_mayHave_0 6 rfl) rfl 0 rfl ?_
    obtain ⟨x2, e3, hf⟩ := jbind hf
    refine J_getr E (jd dk_X3_mayHave_0 7 rfl) fl_RX3_57 e3 ?_
    refine J_iload_n E (jd dk_X3_mayHave_0 8 rfl) rfl 3 rfl ?_
    obtain ⟨x4, e5, hf⟩ := jbind hf
    refine J_iald E (jd dk_X3_mayHave_0 9 rfl) e5 ?_
    refine J_iload_n E (jd dk_X3_mayHave_0 10 rfl) rfl 1 rfl ?_
    refine J_ishr E (jd dk_X3_mayHave_0 11 rfl) ?_
    refine J_iconst (v := 1) E (jd dk_X3_mayHave_0 12 rfl) rfl ?_
    refine J_iand E (jd dk_X3_mayHave_0 13 rfl) ?_
    refine J_iconst (v := 1) E (jd dk_X3_mayHave_0 14 rfl) rfl ?_
    refine J_icmp_ne (tgt := 26) E (jd dk_X3_mayHave_0 15 rfl) (by decide) (fun c6 => ?_) (fun c6 => ?_)
    · replace hf := jif_f c6 hf
      refine J_sub [] rfl ?_
      exact lk_X3_mayHave_b26 E hX hr N hf
    · replace hf := jif_t c6 hf
      refine J_iconst (v := 1) E (jd dk_X3_mayHave_0 16 rfl) rfl ?_
      refine J_goto (tgt := 27) E (jd dk_X3_mayHave_0 17 rfl) (by decide) ?_
      cases hf
      exact J_iret E hr rfl (jd dk_X3_mayHave_0 19 rfl) (Nat.le_refl _) (Nat.le_refl _) ⟨rfl, rfl⟩
def f_X3_worthWith (N : Nat) (h : AH) (a0 : Nat) (a1 : Nat) (a2 : Int32) (a3 : Int32) (a4 : Int32) : Option (Int32 × AH) :=
  (jgr 1 h a1 6).bind fun x1 =>
  (jal 0 h x1 a4).bind fun x3 =>
  (jgr 3 h a0 3).bind fun x5 =>
  (jal 0 h x5 (((a2 + 1) * 256) + (a3 ||| ((1 : Int32) <<< (a4 &&& 31))))).bind fun x7 =>
  some (((100 : Int32) - x3) + x7, h)
set_option maxRecDepth 100000 in
set_option maxHeartbeats 4000000 in
theorem lk_X3_worthWith {G : JG} {l : Launch} (hG : jG G) (htr : l.stackTraces = false) (N : Nat) {h : AH} {a0 : Nat} {a1 : Nat} {a2 : Int32} {a3 : Int32} {a4 : Int32} {r : (Int32 × AH)} (hf : f_X3_worthWith N h a0 a1 a2 a3 a4 = some r) : jMet G l yX3_worthWith cX3_worthWith 5 (some .int) 0 0 0 [.ref a0, .ref a1, .int a2, .int a3, .int a4] h (jpi r) := by
  unfold f_X3_worthWith at hf
  refine jMet_of hG htr (by decide) (Nat.le_of_ble_eq_true rfl) ?_
  intro X E hl9 hr hX _ _
  show JW G X (RX3, cX3_worthWith, 5) h [(0, .ref a0), (1, .ref a1), (2, .int a2), (3, .int a3), (4, .int a4)] [] 0 0 0 (jEnd G X (jpi r) 0 0)
  refine J_bipush (v := 100) E (jd dk_X3_worthWith_0 0 rfl) (by decide) ?_
  refine J_aload_n E (jd dk_X3_worthWith_0 1 rfl) rfl 1 rfl ?_
  obtain ⟨x1, e2, hf⟩ := jbind hf
  refine J_getr E (jd dk_X3_worthWith_0 2 rfl) fl_RX3_40 e2 ?_
  refine J_iload E (jd dk_X3_worthWith_0 3 rfl) 4 rfl ?_
  obtain ⟨x3, e4, hf⟩ := jbind hf
  refine J_iald E (jd dk_X3_worthWith_0 4 rfl) e4 ?_
  refine J_isub E (jd dk_X3_worthWith_0 5 rfl) ?_
  refine J_aload_n E (jd dk_X3_worthWith_0 6 rfl) rfl 0 rfl ?_
  obtain ⟨x5, e6, hf⟩ := jbind hf
  refine J_getr E (jd dk_X3_worthWith_0 7 rfl) fl_RX3_22 e6 ?_
  refine J_iload_n E (jd dk_X3_worthWith_0 8 rfl) rfl 2 rfl ?_
  refine J_iconst (v := 1) E (jd dk_X3_worthWith_0 9 rfl) rfl ?_
  refine J_iadd E (jd dk_X3_worthWith_0 10 rfl) ?_
  refine J_sipush (v := 256) E (jd dk_X3_worthWith_0 11 rfl) (by decide) ?_
  refine J_imul E (jd dk_X3_worthWith_0 12 rfl) ?_
  refine J_iload_n E (jd dk_X3_worthWith_0 13 rfl) rfl 3 rfl ?_
  refine J_iconst (v := 1) E (jd dk_X3_worthWith_0 14 rfl) rfl ?_
  refine J_iload E (jd dk_X3_worthWith_0 15 rfl) 4 rfl ?_
  refine J_ishl E (jd dk_X3_worthWith_0 16 rfl) ?_
  refine J_ior E (jd dk_X3_worthWith_0 17 rfl) ?_
  refine J_iadd E (jd dk_X3_worthWith_0 18 rfl) ?_
  obtain ⟨x7, e8, hf⟩ := jbind hf
  refine J_iald E (jd dk_X3_worthWith_0 19 rfl) e8 ?_
  refine J_iadd E (jd dk_X3_worthWith_0 20 rfl) ?_
  cases hf
  exact J_iret E hr rfl (jd dk_X3_worthWith_0 21 rfl) (Nat.le_refl _) (Nat.le_refl _) ⟨rfl, rfl⟩
def f_X3_bestWorth_b58 (N : Nat) (v0 : Nat) (v1 : Nat) (v2 : Nat) (v3 : Int32) (v4 : Int32) (v5 : Int32) (v6 : Int32) (h : AH) : Option ((Int32 × Int32 × AH) ⊕ ((Int32 × AH))) :=
  some (.inl ((v5, v6 + 1, h)))
def f_X3_bestWorth_l20 (N : Nat) (v0 : Nat) (v1 : Nat) (v2 : Nat) (v3 : Int32) (v4 : Int32) (v5 : Int32) (v6 : Int32) (h : AH) : Option ((Int32 × Int32 × AH) ⊕ ((Int32 × AH))) :=
  (jgi 1 h v1 2).bind fun x1 =>
  if x1 ≤ v6 then some (.inr ((v5, h)))
  else (f_X3_mayHave N h v2 v3 v4 v6).bind fun r4 =>
  if r4.1 = 0 then f_X3_bestWorth_b58 N v0 v1 v2 v3 v4 v5 v6 r4.2
  else (jck 3 r4.2 v0).bind fun _ =>
  (f_X3_worthWith N r4.2 v0 v1 v3 v4 v6).bind fun r7 =>
  f_X3_bestWorth_b58 N v0 v1 v2 v3 v4 (jmx v5 r7.1) v6 r7.2
def f_X3_bestWorth_b20 (N : Nat) (v0 : Nat) (v1 : Nat) (v2 : Nat) (v3 : Int32) (v4 : Int32) (v5 : Int32) (v6 : Int32) (h : AH) : Option (Int32 × AH) :=
  (itr (fun s => f_X3_bestWorth_l20 N v0 v1 v2 v3 v4 s.1 s.2.1 s.2.2) N (v5, v6, h)).bind (fun e => some (e.1, e.2))
def f_X3_bestWorth (N : Nat) (h : AH) (a0 : Nat) (a1 : Nat) (a2 : Nat) (a3 : Int32) (a4 : Int32) : Option (Int32 × AH) :=
  (jgr 3 h a0 3).bind fun x11 =>
  (jal 0 h x11 (((a3 + 1) * 256) + a4)).bind fun x13 =>
  f_X3_bestWorth_b20 N a0 a1 a2 a3 a4 x13 0 h
set_option maxRecDepth 100000 in
set_option maxHeartbeats 4000000 in
theorem lk_X3_bestWorth_b58 {G : JG} {X : JX} (E : jE G X (RX3, cX3_bestWorth, 7)) (hX : X.2.2.2.1 = jRm 1 0 0) (hr : X.2.2.2.2.2.2.2.2.1.sig.returnType = (some .int)) (N : Nat) {Q : State → Prop} {v0 : Nat} {v1 : Nat} {v2 : Nat} {v3 : Int32} {v4 : Int32} {v5 : Int32} {v6 : Int32} {h : AH}  {q : ((Int32 × Int32 × AH) ⊕ ((Int32 × AH)))} (hf : f_X3_bestWorth_b58 N v0 v1 v2 v3 v4 v5 v6 h = some q) (kb : ∀ s' : Int32 × Int32 × AH, q = .inl s' → JW G X (RX3, cX3_bestWorth, 7) s'.2.2 [(0, .ref v0), (1, .ref v1), (2, .ref v2), (3, .int v3), (4, .int v4), (5, .int s'.1), (6, .int s'.2.1)] [] 20 0 0 Q) (ke0 : ∀ e : Int32 × AH, q = .inr e → JW G X (RX3, cX3_bestWorth, 7) e.2 [(5, .int e.1)] [] 64 0 0 Q) : JW G X (RX3, cX3_bestWorth, 7) h [(0, .ref v0), (1, .ref v1), (2, .ref v2), (3, .int v3), (4, .int v4), (5, .int v5), (6, .int v6)] [] 58 0 0 Q := by
  unfold f_X3_bestWorth_b58 at hf
  refine J_iinc (v := v6 + 1) (lv' := [(6, .int (v6 + 1)), (0, .ref v0), (1, .ref v1), (2, .ref v2), (3, .int v3), (4, .int v4), (5, .int v5)]) E (jd dk_X3_bestWorth_0 32 rfl) 6 rfl rfl (by decide) rfl ?_
  refine J_goto (tgt := 20) E (jd dk_X3_bestWorth_0 33 rfl) (by decide) ?_
  refine J_sub [1, 2, 3, 4, 5, 6, 0] rfl ?_
  exact kb _ (Option.some.inj hf).symm
set_option maxRecDepth 100000 in
set_option maxHeartbeats 4000000 in
theorem lk_X3_bestWorth_l20 {G : JG} {X : JX} (E : jE G X (RX3, cX3_bestWorth, 7)) (hX : X.2.2.2.1 = jRm 1 0 0) (hr : X.2.2.2.2.2.2.2.2.1.sig.returnType = (some .int)) (N : Nat) {Q : State → Prop} {v0 : Nat} {v1 : Nat} {v2 : Nat} {v3 : Int32} {v4 : Int32} {v5 : Int32} {v6 : Int32}  {h : AH} {q : ((Int32 × Int32 × AH) ⊕ ((Int32 × AH)))} (hf : f_X3_bestWorth_l20 N v0 v1 v2 v3 v4 v5 v6 h = some q) (kb : ∀ s' : Int32 × Int32 × AH, q = .inl s' → JW G X (RX3, cX3_bestWorth, 7) s'.2.2 [(0, .ref v0), (1, .ref v1), (2, .ref v2), (3, .int v3), (4, .int v4), (5, .int s'.1), (6, .int s'.2.1)] [] 20 0 0 Q) (ke0 : ∀ e : Int32 × AH, q = .inr e → JW G X (RX3, cX3_bestWorth, 7) e.2 [(5, .int e.1)] [] 64 0 0 Q) : JW G X (RX3, cX3_bestWorth, 7) h [(0, .ref v0), (1, .ref v1), (2, .ref v2), (3, .int v3), (4, .int v4), (5, .int v5), (6, .int v6)] [] 20 0 0 Q := by
  unfold f_X3_bestWorth_l20 at hf
  refine J_iload E (jd dk_X3_bestWorth_0 13 rfl) 6 rfl ?_
  refine J_aload_n E (jd dk_X3_bestWorth_0 14 rfl) rfl 1 rfl ?_
  obtain ⟨x1, e2, hf⟩ := jbind hf
  refine J_geti E (jd dk_X3_bestWorth_0 15 rfl) fl_RX3_25 e2 ?_
  refine J_icmp_ge (tgt := 64) E (jd dk_X3_bestWorth_0 16 rfl) (by decide) (fun c3 => ?_) (fun c3 => ?_)
  · replace hf := jif_t c3 hf
    refine J_sub [5] rfl ?_
    exact ke0 _ (Option.some.inj hf).symm
  · replace hf := jif_f c3 hf
    refine J_aload_n E (jd dk_X3_bestWorth_0 17 rfl) rfl 2 rfl ?_
    refine J_iload_n E (jd dk_X3_bestWorth_0 18 rfl) rfl 3 rfl ?_
    refine J_iload E (jd dk_X3_bestWorth_0 19 rfl) 4 rfl ?_
    refine J_iload E (jd dk_X3_bestWorth_0 20 rfl) 6 rfl ?_
    obtain ⟨r4, e5, hf⟩ := jbind hf
    refine J_callS E (jd dk_X3_bestWorth_0 21 rfl) ml_RX3_43 cal_X3_mayHave (lk_X3_mayHave (jE_g E) (jE_tr E) N e5) rfl (Nat.le_of_ble_eq_true rfl) (jR_le hX (by decide) (by decide)) (jF0 hX) rfl ?_
    rintro _ _ ⟨rfl, rfl⟩
    refine J_if_eq (tgt := 58) E (jd dk_X3_bestWorth_0 22 rfl) (by decide) (fun c6 => ?_) (fun c6 => ?_)
    · replace hf := jif_t c6 hf
      exact lk_X3_bestWorth_b58 E hX hr N hf kb ke0
    · replace hf := jif_f c6 hf
      refine J_iload E (jd dk_X3_bestWorth_0 23 rfl) 5 rfl ?_
      refine J_aload_n E (jd dk_X3_bestWorth_0 24 rfl) rfl 0 rfl ?_
      refine J_aload_n E (jd dk_X3_bestWorth_0 25 rfl) rfl 1 rfl ?_
      refine J_iload_n E (jd dk_X3_bestWorth_0 26 rfl) rfl 3 rfl ?_
      refine J_iload E (jd dk_X3_bestWorth_0 27 rfl) 4 rfl ?_
      refine J_iload E (jd dk_X3_bestWorth_0 28 rfl) 6 rfl ?_
      obtain ⟨u9, e10, hf⟩ := jbind hf
      obtain ⟨r7, e8, hf⟩ := jbind hf
      refine J_callV E (jd dk_X3_bestWorth_0 29 rfl) ml_RX3_47 cal_X3_worthWith e10 rfl (lk_X3_worthWith (jE_g E) (jE_tr E) N e8) rfl (Nat.le_of_ble_eq_true rfl) (jR_le hX (by decide) (by decide)) (jF0 hX) rfl ?_
      rintro _ _ ⟨rfl, rfl⟩
      refine J_max E (jd dk_X3_bestWorth_0 30 rfl) ml_RX3_51 (Nat.le_of_ble_eq_true rfl) (by rw [hX]; exact ⟨Nat.zero_le _, Nat.zero_le _⟩) ?_
      refine J_istore (lv' := [(5, .int (jmx v5 r7.1)), (0, .ref v0), (1, .ref v1), (2, .ref v2), (3, .int v3), (4, .int v4), (6, .int v6)]) E (jd dk_X3_bestWorth_0 31 rfl) (by decide) rfl ?_
      refine J_sub [1, 2, 3, 4, 5, 0, 6] rfl ?_
      exact lk_X3_bestWorth_b58 E hX hr N hf kb ke0
set_option maxRecDepth 100000 in
set_option maxHeartbeats 4000000 in
theorem lk_X3_bestWorth_b20 {G : JG} {X : JX} (E : jE G X (RX3, cX3_bestWorth, 7)) (hX : X.2.2.2.1 = jRm 1 0 0) (hr : X.2.2.2.2.2.2.2.2.1.sig.returnType = (some .int)) (N : Nat) {v0 : Nat} {v1 : Nat} {v2 : Nat} {v3 : Int32} {v4 : Int32} {v5 : Int32} {v6 : Int32} {h : AH}  {r : (Int32 × AH)} (hf : f_X3_bestWorth_b20 N v0 v1 v2 v3 v4 v5 v6 h = some r) : JW G X (RX3, cX3_bestWorth, 7) h [(0, .ref v0), (1, .ref v1), (2, .ref v2), (3, .int v3), (4, .int v4), (5, .int v5), (6, .int v6)] [] 20 0 0 (jEnd G X (jpi r) 0 0) := by
  unfold f_X3_bestWorth_b20 at hf
  obtain ⟨q1, h1, hf⟩ := jbind hf
  refine jloop (P := fun s => JW G X (RX3, cX3_bestWorth, 7) s.2.2 [(0, .ref v0), (1, .ref v1), (2, .ref v2), (3, .int v3), (4, .int v4), (5, .int s.1), (6, .int s.2.1)] [] 20 0 0 (jEnd G X (jpi r) 0 0)) (Ex := fun (e : Int32 × AH) => JW G X (RX3, cX3_bestWorth, 7) e.2 [(5, .int e.1)] [] 64 0 0 (jEnd G X (jpi r) 0 0)) (fun s q hs hb hx => lk_X3_bestWorth_l20 E hX hr N hs (fun s' hs => hb s' hs) (fun e he => hx e he)) N _ q1 h1 ?_
  generalize q1 = e at hf ⊢
  refine J_iload E (jd dk_X3_bestWorth_0 34 rfl) 0 rfl ?_
  cases hf
  exact J_iret E hr rfl (jd dk_X3_bestWorth_0 35 rfl) (Nat.le_refl _) (Nat.le_refl _) ⟨rfl, rfl⟩
set_option maxRecDepth 100000 in
set_option maxHeartbeats 4000000 in
theorem lk_X3_bestWorth {G : JG} {l : Launch} (hG : jG G) (htr : l.stackTraces = false) (N : Nat) {h : AH} {a0 : Nat} {a1 : Nat} {a2 : Nat} {a3 : Int32} {a4 : Int32} {r : (Int32 × AH)} (hf : f_X3_bestWorth N h a0 a1 a2 a3 a4 = some r) : jMet G l yX3_bestWorth cX3_bestWorth 7 (some .int) 1 0 0 [.ref a0, .ref a1, .ref a2, .int a3, .int a4] h (jpi r) := by
  unfold f_X3_bestWorth at hf
  refine jMet_of hG htr (by decide) (Nat.le_of_ble_eq_true rfl) ?_
  intro X E hl9 hr hX _ _
  show JW G X (RX3, cX3_bestWorth, 7) h [(0, .ref a0), (1, .ref a1), (2, .ref a2), (3, .int a3), (4, .int a4)] [] 0 0 0 (jEnd G X (jpi r) 0 0)
  refine J_aload_n E (jd dk_X3_bestWorth_0 0 rfl) rfl 0 rfl ?_
  obtain ⟨x11, e12, hf⟩ := jbind hf
  refine J_getr E (jd dk_X3_bestWorth_0 1 rfl) fl_RX3_22 e12 ?_
  refine J_iload_n E (jd dk_X3_bestWorth_0 2 rfl) rfl 3 rfl ?_
  refine J_iconst (v := 1) E (jd dk_X3_bestWorth_0 3 rfl) rfl ?_
  refine J_iadd E (jd dk_X3_bestWorth_0 4 rfl) ?_
  refine J_sipush (v := 256) E (jd dk_X3_bestWorth_0 5 rfl) (by decide) ?_
  refine J_imul E (jd dk_X3_bestWorth_0 6 rfl) ?_
  refine J_iload E (jd dk_X3_bestWorth_0 7 rfl) 4 rfl ?_
  refine J_iadd E (jd dk_X3_bestWorth_0 8 rfl) ?_
  obtain ⟨x13, e14, hf⟩ := jbind hf
  refine J_iald E (jd dk_X3_bestWorth_0 9 rfl) e14 ?_
  refine J_istore (lv' := [(5, .int x13), (0, .ref a0), (1, .ref a1), (2, .ref a2), (3, .int a3), (4, .int a4)]) E (jd dk_X3_bestWorth_0 10 rfl) (by decide) rfl ?_
  refine J_iconst (v := 0) E (jd dk_X3_bestWorth_0 11 rfl) rfl ?_
  refine J_istore (lv' := [(6, .int 0), (5, .int x13), (0, .ref a0), (1, .ref a1), (2, .ref a2), (3, .int a3), (4, .int a4)]) E (jd dk_X3_bestWorth_0 12 rfl) (by decide) rfl ?_
  refine J_sub [2, 3, 4, 5, 6, 1, 0] rfl ?_
  exact lk_X3_bestWorth_b20 E hX hr N hf
def f_X3_firstBest_b53 (N : Nat) (v0 : Nat) (v1 : Nat) (v2 : Nat) (v3 : Int32) (v4 : Int32) (v5 : Int32) (h : AH) : Option ((Int32 × AH) ⊕ ((Int32 × AH) ⊕ (AH))) :=
  some (.inl ((v5 + 1, h)))
def f_X3_firstBest_l3 (N : Nat) (v0 : Nat) (v1 : Nat) (v2 : Nat) (v3 : Int32) (v4 : Int32) (v5 : Int32) (h : AH) : Option ((Int32 × AH) ⊕ ((Int32 × AH) ⊕ (AH))) :=
  (jgi 1 h v1 2).bind fun x1 =>
  if x1 ≤ v5 then some (.inr (.inr h))
  else (f_X3_mayHave N h v2 v3 v4 v5).bind fun r4 =>
  if r4.1 = 0 then f_X3_firstBest_b53 N v0 v1 v2 v3 v4 v5 r4.2
  else (jck 3 r4.2 v0).bind fun _ =>
  (f_X3_worthWith N r4.2 v0 v1 v3 v4 v5).bind fun r7 =>
  (jgr 3 r7.2 v0 3).bind fun x11 =>
  (jal 0 r7.2 x11 ((v3 * 256) + v4)).bind fun x13 =>
  if r7.1 = x13 then some (.inr (.inl ((v5, r7.2))))
  else f_X3_firstBest_b53 N v0 v1 v2 v3 v4 v5 r7.2
def f_X3_firstBest_b3 (N : Nat) (v0 : Nat) (v1 : Nat) (v2 : Nat) (v3 : Int32) (v4 : Int32) (v5 : Int32) (h : AH) : Option (Int32 × AH) :=
  (itr (fun s => f_X3_firstBest_l3 N v0 v1 v2 v3 v4 s.1 s.2) N (v5, h)).bind (Sum.elim (fun e => some (e.1, e.2)) (fun e => some ((-1), e)))
def f_X3_firstBest (N : Nat) (h : AH) (a0 : Nat) (a1 : Nat) (a2 : Nat) (a3 : Int32) (a4 : Int32) : Option (Int32 × AH) :=
  f_X3_firstBest_b3 N a0 a1 a2 a3 a4 0 h
set_option maxRecDepth 100000 in
set_option maxHeartbeats 4000000 in
theorem lk_X3_firstBest_b53 {G : JG} {X : JX} (E : jE G X (RX3, cX3_firstBest, 6)) (hX : X.2.2.2.1 = jRm 1 0 0) (hr : X.2.2.2.2.2.2.2.2.1.sig.returnType = (some .int)) (N : Nat) {Q : State → Prop} {v0 : Nat} {v1 : Nat} {v2 : Nat} {v3 : Int32} {v4 : Int32} {v5 : Int32} {h : AH}  {q : ((Int32 × AH) ⊕ ((Int32 × AH) ⊕ (AH)))} (hf : f_X3_firstBest_b53 N v0 v1 v2 v3 v4 v5 h = some q) (kb : ∀ s' : Int32 × AH, q = .inl s' → JW G X (RX3, cX3_firstBest, 6) s'.2 [(0, .ref v0), (1, .ref v1), (2, .ref v2), (3, .int v3), (4, .int v4), (5, .int s'.1)] [] 3 0 0 Q) (ke0 : ∀ e : Int32 × AH, q = .inr (.inl e) → JW G X (RX3, cX3_firstBest, 6) e.2 [(5, .int e.1)] [] 50 0 0 Q) (ke1 : ∀ e : AH, q = .inr (.inr e) → JW G X (RX3, cX3_firstBest, 6) e [] [] 59 0 0 Q) : JW G X (RX3, cX3_firstBest, 6) h [(0, .ref v0), (1, .ref v1), (2, .ref v2), (3, .int v3), (4, .int v4), (5, .int v5)] [] 53 0 0 Q := by
  unfold f_X3_firstBest_b53 at hf
  refine J_iinc (v := v5 + 1) (lv' := [(5, .int (v5 + 1)), (0, .ref v0), (1, .ref v1), (2, .ref v2), (3, .int v3), (4, .int v4)]) E (jd dk_X3_firstBest_0 29 rfl) 5 rfl rfl (by decide) rfl ?_
  refine J_goto (tgt := 3) E (jd dk_X3_firstBest_0 30 rfl) (by decide) ?_
  refine J_sub [1, 2, 3, 4, 5, 0] rfl ?_
  exact kb _ (Option.some.inj hf).symm
set_option maxRecDepth 100000 in
set_option maxHeartbeats 4000000 in
theorem lk_X3_firstBest_l3 {G : JG} {X : JX} (E : jE G X (RX3, cX3_firstBest, 6)) (hX : X.2.2.2.1 = jRm 1 0 0) (hr : X.2.2.2.2.2.2.2.2.1.sig.returnType = (some .int)) (N : Nat) {Q : State → Prop} {v0 : Nat} {v1 : Nat} {v2 : Nat} {v3 : Int32} {v4 : Int32} {v5 : Int32}  {h : AH} {q : ((Int32 × AH) ⊕ ((Int32 × AH) ⊕ (AH)))} (hf : f_X3_firstBest_l3 N v0 v1 v2 v3 v4 v5 h = some q) (kb : ∀ s' : Int32 × AH, q = .inl s' → JW G X (RX3, cX3_firstBest, 6) s'.2 [(0, .ref v0), (1, .ref v1), (2, .ref v2), (3, .int v3), (4, .int v4), (5, .int s'.1)] [] 3 0 0 Q) (ke0 : ∀ e : Int32 × AH, q = .inr (.inl e) → JW G X (RX3, cX3_firstBest, 6) e.2 [(5, .int e.1)] [] 50 0 0 Q) (ke1 : ∀ e : AH, q = .inr (.inr e) → JW G X (RX3, cX3_firstBest, 6) e [] [] 59 0 0 Q) : JW G X (RX3, cX3_firstBest, 6) h [(0, .ref v0), (1, .ref v1), (2, .ref v2), (3, .int v3), (4, .int v4), (5, .int v5)] [] 3 0 0 Q := by
  unfold f_X3_firstBest_l3 at hf
  refine J_iload E (jd dk_X3_firstBest_0 2 rfl) 5 rfl ?_
  refine J_aload_n E (jd dk_X3_firstBest_0 3 rfl) rfl 1 rfl ?_
  obtain ⟨x1, e2, hf⟩ := jbind hf
  refine J_geti E (jd dk_X3_firstBest_0 4 rfl) fl_RX3_25 e2 ?_
  refine J_icmp_ge (tgt := 59) E (jd dk_X3_firstBest_0 5 rfl) (by decide) (fun c3 => ?_) (fun c3 => ?_)
  · replace hf := jif_t c3 hf
    refine J_sub [] rfl ?_
    exact ke1 _ (Option.some.inj hf).symm
  · replace hf := jif_f c3 hf
    refine J_aload_n E (jd dk_X3_firstBest_0 6 rfl) rfl 2 rfl ?_
    refine J_iload_n E (jd dk_X3_firstBest_0 7 rfl) rfl 3 rfl ?_
    refine J_iload E (jd dk_X3_firstBest_0 8 rfl) 4 rfl ?_
    refine J_iload E (jd dk_X3_firstBest_0 9 rfl) 5 rfl ?_
    obtain ⟨r4, e5, hf⟩ := jbind hf
    refine J_callS E (jd dk_X3_firstBest_0 10 rfl) ml_RX3_43 cal_X3_mayHave (lk_X3_mayHave (jE_g E) (jE_tr E) N e5) rfl (Nat.le_of_ble_eq_true rfl) (jR_le hX (by decide) (by decide)) (jF0 hX) rfl ?_
    rintro _ _ ⟨rfl, rfl⟩
    refine J_if_eq (tgt := 53) E (jd dk_X3_firstBest_0 11 rfl) (by decide) (fun c6 => ?_) (fun c6 => ?_)
    · replace hf := jif_t c6 hf
      exact lk_X3_firstBest_b53 E hX hr N hf kb ke0 ke1
    · replace hf := jif_f c6 hf
      refine J_aload_n E (jd dk_X3_firstBest_0 12 rfl) rfl 0 rfl ?_
      refine J_aload_n E (jd dk_X3_firstBest_0 13 rfl) rfl 1 rfl ?_
      refine J_iload_n E (jd dk_X3_firstBest_0 14 rfl) rfl 3 rfl ?_
      refine J_iload E (jd dk_X3_firstBest_0 15 rfl) 4 rfl ?_
      refine J_iload E (jd dk_X3_firstBest_0 16 rfl) 5 rfl ?_
      obtain ⟨u9, e10, hf⟩ := jbind hf
      obtain ⟨r7, e8, hf⟩ := jbind hf
      refine J_callV E (jd dk_X3_firstBest_0 17 rfl) ml_RX3_47 cal_X3_worthWith e10 rfl (lk_X3_worthWith (jE_g E) (jE_tr E) N e8) rfl (Nat.le_of_ble_eq_true rfl) (jR_le hX (by decide) (by decide)) (jF0 hX) rfl ?_
      rintro _ _ ⟨rfl, rfl⟩
      refine J_aload_n E (jd dk_X3_firstBest_0 18 rfl) rfl 0 rfl ?_
      obtain ⟨x11, e12, hf⟩ := jbind hf
      refine J_getr E (jd dk_X3_firstBest_0 19 rfl) fl_RX3_22 e12 ?_
      refine J_iload_n E (jd dk_X3_firstBest_0 20 rfl) rfl 3 rfl ?_
      refine J_sipush (v := 256) E (jd dk_X3_firstBest_0 21 rfl) (by decide) ?_
      refine J_imul E (jd dk_X3_firstBest_0 22 rfl) ?_
      refine J_iload E (jd dk_X3_firstBest_0 23 rfl) 4 rfl ?_
      refine J_iadd E (jd dk_X3_firstBest_0 24 rfl) ?_
      obtain ⟨x13, e14, hf⟩ := jbind hf
      refine J_iald E (jd dk_X3_firstBest_0 25 rfl) e14 ?_
      refine J_icmp_ne (tgt := 53) E (jd dk_X3_firstBest_0 26 rfl) (by decide) (fun c15 => ?_) (fun c15 => ?_)
      · replace hf := jif_f c15 hf
        exact lk_X3_firstBest_b53 E hX hr N hf kb ke0 ke1
      · replace hf := jif_t c15 hf
        refine J_sub [5] rfl ?_
        exact ke0 _ (Option.some.inj hf).symm
set_option maxRecDepth 100000 in
set_option maxHeartbeats 4000000 in
theorem lk_X3_firstBest_b3 {G : JG} {X : JX} (E : jE G X (RX3, cX3_firstBest, 6)) (hX : X.2.2.2.1 = jRm 1 0 0) (hr : X.2.2.2.2.2.2.2.2.1.sig.returnType = (some .int)) (N : Nat) {v0 : Nat} {v1 : Nat} {v2 : Nat} {v3 : Int32} {v4 : Int32} {v5 : Int32} {h : AH}  {r : (Int32 × AH)} (hf : f_X3_firstBest_b3 N v0 v1 v2 v3 v4 v5 h = some r) : JW G X (RX3, cX3_firstBest, 6) h [(0, .ref v0), (1, .ref v1), (2, .ref v2), (3, .int v3), (4, .int v4), (5, .int v5)] [] 3 0 0 (jEnd G X (jpi r) 0 0) := by
  unfold f_X3_firstBest_b3 at hf
  obtain ⟨q1, h1, hf⟩ := jbind hf
  refine jloop (P := fun s => JW G X (RX3, cX3_firstBest, 6) s.2 [(0, .ref v0), (1, .ref v1), (2, .ref v2), (3, .int v3), (4, .int v4), (5, .int s.1)] [] 3 0 0 (jEnd G X (jpi r) 0 0)) (Ex := Sum.elim (fun (e : Int32 × AH) => JW G X (RX3, cX3_firstBest, 6) e.2 [(5, .int e.1)] [] 50 0 0 (jEnd G X (jpi r) 0 0)) (fun (e : AH) => JW G X (RX3, cX3_firstBest, 6) e [] [] 59 0 0 (jEnd G X (jpi r) 0 0))) (fun s q hs hb hx => lk_X3_firstBest_l3 E hX hr N hs (fun s' hs => hb s' hs) (fun e he => hx _ he) (fun e he => hx _ he)) N _ q1 h1 ?_
  rcases q1 with e | e
  · refine J_iload E (jd dk_X3_firstBest_0 27 rfl) 0 rfl ?_
    cases hf
    exact J_iret E hr rfl (jd dk_X3_firstBest_0 28 rfl) (Nat.le_refl _) (Nat.le_refl _) ⟨rfl, rfl⟩
  · refine J_iconst (v := (-1)) E (jd dk_X3_firstBest_0 31 rfl) rfl ?_
    cases hf
    exact J_iret E hr rfl (jd dk_X3_firstBest_0 32 rfl) (Nat.le_refl _) (Nat.le_refl _) ⟨rfl, rfl⟩
set_option maxRecDepth 100000 in
set_option maxHeartbeats 4000000 in
theorem lk_X3_firstBest {G : JG} {l : Launch} (hG : jG G) (htr : l.stackTraces = false) (N : Nat) {h : AH} {a0 : Nat} {a1 : Nat} {a2 : Nat} {a3 : Int32} {a4 : Int32} {r : (Int32 × AH)} (hf : f_X3_firstBest N h a0 a1 a2 a3 a4 = some r) : jMet G l yX3_firstBest cX3_firstBest 6 (some .int) 1 0 0 [.ref a0, .ref a1, .ref a2, .int a3, .int a4] h (jpi r) := by
  unfold f_X3_firstBest at hf
  refine jMet_of hG htr (by decide) (Nat.le_of_ble_eq_true rfl) ?_
  intro X E hl9 hr hX _ _
  show JW G X (RX3, cX3_firstBest, 6) h [(0, .ref a0), (1, .ref a1), (2, .ref a2), (3, .int a3), (4, .int a4)] [] 0 0 0 (jEnd G X (jpi r) 0 0)
  refine J_iconst (v := 0) E (jd dk_X3_firstBest_0 0 rfl) rfl ?_
  refine J_istore (lv' := [(5, .int 0), (0, .ref a0), (1, .ref a1), (2, .ref a2), (3, .int a3), (4, .int a4)]) E (jd dk_X3_firstBest_0 1 rfl) (by decide) rfl ?_
  refine J_sub [1, 2, 3, 4, 5, 0] rfl ?_
  exact lk_X3_firstBest_b3 E hX hr N hf
def f_X3_fill_b184 (N : Nat) (v0 : Nat) (v1 : Nat) (v2 : Nat) (v4 : Int32) (v5 : Int32) (h : AH) : Option ((Int32 × Int32 × AH) ⊕ ((AH))) :=
  some (.inl ((v4, v5 + 1, h)))
def f_X3_fill_l113 (N : Nat) (v0 : Nat) (v1 : Nat) (v2 : Nat) (v4 : Int32) (v5 : Int32) (h : AH) : Option ((Int32 × Int32 × AH) ⊕ ((AH))) :=
  (jgi 1 h v1 0).bind fun x1 =>
  if x1 ≤ v5 then some (.inr h)
  else (jck 3 h v0).bind fun _ =>
  (f_X3_firstBest N h v0 v1 v2 v5 v4).bind fun r4 =>
  (jgr 3 r4.2 v0 2).bind fun x8 =>
  (jas 0 r4.2 x8 v5 r4.1).bind fun h10 =>
  if r4.1 = ((-1)) then f_X3_fill_b184 N v0 v1 v2 v4 v5 h10
  else (jgi 3 h10 v0 0).bind fun x13 =>
  (jwi 3 h10 v0 0 (x13 + 1)).bind fun h15 =>
  (jgi 3 h15 v0 1).bind fun x17 =>
  (jgr 1 h15 v1 6).bind fun x19 =>
  (jal 0 h15 x19 r4.1).bind fun x21 =>
  (jwi 3 h15 v0 1 (x17 + x21)).bind fun h23 =>
  f_X3_fill_b184 N v0 v1 v2 (v4 ||| ((1 : Int32) <<< (r4.1 &&& 31))) v5 h23
def f_X3_fill_b113 (N : Nat) (v0 : Nat) (v1 : Nat) (v2 : Nat) (v4 : Int32) (v5 : Int32) (h : AH) : Option AH :=
  (itr (fun s => f_X3_fill_l113 N v0 v1 v2 s.1 s.2.1 s.2.2) N (v4, v5, h)).bind (fun e => some e)
def f_X3_fill_l55 (N : Nat) (v0 : Nat) (v1 : Nat) (v2 : Nat) (v3 : Int32) (v4 : Int32) (v5 : Int32) (h : AH) : Option ((Int32 × AH) ⊕ ((AH))) :=
  if v3 ≤ v5 then some (.inr h)
  else (jgr 3 h v0 3).bind fun x26 =>
  (jck 3 h v0).bind fun _ =>
  (f_X3_bestWorth N h v0 v1 v2 v4 v5).bind fun r28 =>
  (jas 0 r28.2 x26 ((v4 * 256) + v5) r28.1).bind fun h32 =>
  some (.inl ((v5 + 1, h32)))
def f_X3_fill_b55 (N : Nat) (v0 : Nat) (v1 : Nat) (v2 : Nat) (v3 : Int32) (v4 : Int32) (v5 : Int32) (h : AH) : Option ((Int32 × AH) ⊕ ((AH))) :=
  (itr (fun s => f_X3_fill_l55 N v0 v1 v2 v3 v4 s.1 s.2) N (v5, h)).bind (fun e => some (.inl ((v4 + (-1), e))))
def f_X3_fill_l47 (N : Nat) (v0 : Nat) (v1 : Nat) (v2 : Nat) (v3 : Int32) (v4 : Int32) (h : AH) : Option ((Int32 × AH) ⊕ ((AH))) :=
  if v4 < 0 then some (.inr h)
  else f_X3_fill_b55 N v0 v1 v2 v3 v4 0 h
def f_X3_fill_b47 (N : Nat) (v0 : Nat) (v1 : Nat) (v2 : Nat) (v3 : Int32) (v4 : Int32) (h : AH) : Option AH :=
  (itr (fun s => f_X3_fill_l47 N v0 v1 v2 v3 s.1 s.2) N (v4, h)).bind (fun e => (jwi 3 e v0 0 0).bind fun h35 =>
  (jwi 3 h35 v0 1 0).bind fun h37 =>
  f_X3_fill_b113 N v0 v1 v2 0 0 h37)
def f_X3_fill_l10 (N : Nat) (v0 : Nat) (v1 : Nat) (v2 : Nat) (v3 : Int32) (v4 : Int32) (h : AH) : Option ((Int32 × AH) ⊕ ((AH))) :=
  if v3 ≤ v4 then some (.inr h)
  else (jgr 3 h v0 3).bind fun x40 =>
  (jgi 1 h v1 0).bind fun x42 =>
  (jas 0 h x40 ((x42 * 256) + v4) 0).bind fun h44 =>
  some (.inl ((v4 + 1, h44)))
def f_X3_fill_b10 (N : Nat) (v0 : Nat) (v1 : Nat) (v2 : Nat) (v3 : Int32) (v4 : Int32) (h : AH) : Option AH :=
  (itr (fun s => f_X3_fill_l10 N v0 v1 v2 v3 s.1 s.2) N (v4, h)).bind (fun e => (jgi 1 e v1 0).bind fun x46 =>
  f_X3_fill_b47 N v0 v1 v2 v3 (x46 - 1) e)
def f_X3_fill (N : Nat) (h : AH) (a0 : Nat) (a1 : Nat) (a2 : Nat) : Option AH :=
  (jgi 1 h a1 2).bind fun x48 =>
  f_X3_fill_b10 N a0 a1 a2 ((1 : Int32) <<< (x48 &&& 31)) 0 h
set_option maxRecDepth 100000 in
set_option maxHeartbeats 4000000 in
theorem lk_X3_fill_b184 {G : JG} {X : JX} (E : jE G X (RX3, cX3_fill, 7)) (hX : X.2.2.2.1 = jRm 2 0 0) (hr : X.2.2.2.2.2.2.2.2.1.sig.returnType = none) (N : Nat) {Q : State → Prop} {v0 : Nat} {v1 : Nat} {v2 : Nat} {v4 : Int32} {v5 : Int32} {h : AH}  {q : ((Int32 × Int32 × AH) ⊕ ((AH)))} (hf : f_X3_fill_b184 N v0 v1 v2 v4 v5 h = some q) (kb : ∀ s' : Int32 × Int32 × AH, q = .inl s' → JW G X (RX3, cX3_fill, 7) s'.2.2 [(0, .ref v0), (1, .ref v1), (2, .ref v2), (4, .int s'.1), (5, .int s'.2.1)] [] 113 0 0 Q) (ke0 : ∀ e : AH, q = .inr e → JW G X (RX3, cX3_fill, 7) e [] [] 190 0 0 Q) : JW G X (RX3, cX3_fill, 7) h [(0, .ref v0), (1, .ref v1), (2, .ref v2), (4, .int v4), (5, .int v5)] [] 184 0 0 Q := by
  unfold f_X3_fill_b184 at hf
  refine J_iinc (v := v5 + 1) (lv' := [(5, .int (v5 + 1)), (0, .ref v0), (1, .ref v1), (2, .ref v2), (4, .int v4)]) E (jd dk_X3_fill_2 2 rfl) 4 rfl rfl (by decide) rfl ?_
  refine J_goto (tgt := 113) E (jd dk_X3_fill_2 3 rfl) (by decide) ?_
  refine J_sub [1, 2, 3, 4, 0] rfl ?_
  exact kb _ (Option.some.inj hf).symm
set_option maxRecDepth 100000 in
set_option maxHeartbeats 4000000 in
theorem lk_X3_fill_l113 {G : JG} {X : JX} (E : jE G X (RX3, cX3_fill, 7)) (hX : X.2.2.2.1 = jRm 2 0 0) (hr : X.2.2.2.2.2.2.2.2.1.sig.returnType = none) (N : Nat) {Q : State → Prop} {v0 : Nat} {v1 : Nat} {v2 : Nat} {v4 : Int32} {v5 : Int32}  {h : AH} {q : ((Int32 × Int32 × AH) ⊕ ((AH)))} (hf : f_X3_fill_l113 N v0 v1 v2 v4 v5 h = some q) (kb : ∀ s' : Int32 × Int32 × AH, q = .inl s' → JW G X (RX3, cX3_fill, 7) s'.2.2 [(0, .ref v0), (1, .ref v1), (2, .ref v2), (4, .int s'.1), (5, .int s'.2.1)] [] 113 0 0 Q) (ke0 : ∀ e : AH, q = .inr e → JW G X (RX3, cX3_fill, 7) e [] [] 190 0 0 Q) : JW G X (RX3, cX3_fill, 7) h [(0, .ref v0), (1, .ref v1), (2, .ref v2), (4, .int v4), (5, .int v5)] [] 113 0 0 Q := by
  unfold f_X3_fill_l113 at hf
  refine J_iload E (jd dk_X3_fill_1 12 rfl) 4 rfl ?_
  refine J_aload_n E (jd dk_X3_fill_1 13 rfl) rfl 1 rfl ?_
  obtain ⟨x1, e2, hf⟩ := jbind hf
  refine J_geti E (jd dk_X3_fill_1 14 rfl) fl_RX3_30 e2 ?_
  refine J_icmp_ge (tgt := 190) E (jd dk_X3_fill_1 15 rfl) (by decide) (fun c3 => ?_) (fun c3 => ?_)
  · replace hf := jif_t c3 hf
    refine J_sub [] rfl ?_
    exact ke0 _ (Option.some.inj hf).symm
  · replace hf := jif_f c3 hf
    refine J_aload_n E (jd dk_X3_fill_1 16 rfl) rfl 0 rfl ?_
    refine J_aload_n E (jd dk_X3_fill_1 17 rfl) rfl 1 rfl ?_
    refine J_aload_n E (jd dk_X3_fill_1 18 rfl) rfl 2 rfl ?_
    refine J_iload E (jd dk_X3_fill_1 19 rfl) 4 rfl ?_
    refine J_iload E (jd dk_X3_fill_1 20 rfl) 3 rfl ?_
    obtain ⟨u6, e7, hf⟩ := jbind hf
    obtain ⟨r4, e5, hf⟩ := jbind hf
    refine J_callV E (jd dk_X3_fill_1 21 rfl) ml_RX3_37 cal_X3_firstBest e7 rfl (lk_X3_firstBest (jE_g E) (jE_tr E) N e5) rfl (Nat.le_of_ble_eq_true rfl) (jR_le hX (by decide) (by decide)) (jF0 hX) rfl ?_
    rintro _ _ ⟨rfl, rfl⟩
    refine J_istore (lv' := [(6, .int r4.1), (0, .ref v0), (1, .ref v1), (2, .ref v2), (4, .int v4), (5, .int v5)]) E (jd dk_X3_fill_1 22 rfl) (by decide) rfl ?_
    refine J_aload_n E (jd dk_X3_fill_1 23 rfl) rfl 1 rfl ?_
    obtain ⟨x8, e9, hf⟩ := jbind hf
    refine J_getr E (jd dk_X3_fill_1 24 rfl) fl_RX3_18 e9 ?_
    refine J_iload E (jd dk_X3_fill_1 25 rfl) 5 rfl ?_
    refine J_iload E (jd dk_X3_fill_1 26 rfl) 0 rfl ?_
    obtain ⟨h10, e11, hf⟩ := jbind hf
    refine J_iast E (jd dk_X3_fill_1 27 rfl) e11 ?_
    refine J_iload E (jd dk_X3_fill_1 28 rfl) 0 rfl ?_
    refine J_iconst (v := (-1)) E (jd dk_X3_fill_1 29 rfl) rfl ?_
    refine J_icmp_eq (tgt := 184) E (jd dk_X3_fill_1 30 rfl) (by decide) (fun c12 => ?_) (fun c12 => ?_)
    · replace hf := jif_t c12 hf
      refine J_sub [1, 2, 3, 4, 5] rfl ?_
      exact lk_X3_fill_b184 E hX hr N hf kb ke0
    · replace hf := jif_f c12 hf
      refine J_aload_n E (jd dk_X3_fill_1 31 rfl) rfl 1 rfl ?_
      refine J_dup E (jd dk_X3_fill_1 32 rfl) rfl ?_
      obtain ⟨x13, e14, hf⟩ := jbind hf
      refine J_geti E (jd dk_X3_fill_1 33 rfl) fl_RX3_9 e14 ?_
      refine J_iconst (v := 1) E (jd dk_X3_fill_1 34 rfl) rfl ?_
      refine J_iadd E (jd dk_X3_fill_1 35 rfl) ?_
      obtain ⟨h15, e16, hf⟩ := jbind hf
      refine J_put E (jd dk_X3_fill_1 36 rfl) fl_RX3_9 e16 (fun _ => rfl) (fun _ => rfl) ?_
      refine J_aload_n E (jd dk_X3_fill_1 37 rfl) rfl 1 rfl ?_
      refine J_dup E (jd dk_X3_fill_1 38 rfl) rfl ?_
      obtain ⟨x17, e18, hf⟩ := jbind hf
      refine J_geti E (jd dk_X3_fill_1 39 rfl) fl_RX3_15 e18 ?_
      refine J_aload_n E (jd dk_X3_fill_1 40 rfl) rfl 2 rfl ?_
      obtain ⟨x19, e20, hf⟩ := jbind hf
      refine J_getr E (jd dk_X3_fill_1 41 rfl) fl_RX3_40 e20 ?_
      refine J_iload E (jd dk_X3_fill_1 42 rfl) 0 rfl ?_
      obtain ⟨x21, e22, hf⟩ := jbind hf
      refine J_iald E (jd dk_X3_fill_1 43 rfl) e22 ?_
      refine J_iadd E (jd dk_X3_fill_1 44 rfl) ?_
      obtain ⟨h23, e24, hf⟩ := jbind hf
      refine J_put E (jd dk_X3_fill_1 45 rfl) fl_RX3_15 e24 (fun _ => rfl) (fun _ => rfl) ?_
      refine J_iload E (jd dk_X3_fill_1 46 rfl) 4 rfl ?_
      refine J_iconst (v := 1) E (jd dk_X3_fill_1 47 rfl) rfl ?_
      refine J_iload E (jd dk_X3_fill_1 48 rfl) 0 rfl ?_
      refine J_ishl E (jd dk_X3_fill_1 49 rfl) ?_
      refine J_ior E (jd dk_X3_fill_2 0 rfl) ?_
      refine J_istore (lv' := [(4, .int (v4 ||| ((1 : Int32) <<< (r4.1 &&& 31)))), (6, .int r4.1), (0, .ref v0), (1, .ref v1), (2, .ref v2), (5, .int v5)]) E (jd dk_X3_fill_2 1 rfl) (by decide) rfl ?_
      refine J_sub [2, 3, 4, 0, 5] rfl ?_
      exact lk_X3_fill_b184 E hX hr N hf kb ke0
set_option maxRecDepth 100000 in
set_option maxHeartbeats 4000000 in
theorem lk_X3_fill_b113 {G : JG} {X : JX} (E : jE G X (RX3, cX3_fill, 7)) (hX : X.2.2.2.1 = jRm 2 0 0) (hr : X.2.2.2.2.2.2.2.2.1.sig.returnType = none) (N : Nat) {v0 : Nat} {v1 : Nat} {v2 : Nat} {v4 : Int32} {v5 : Int32} {h : AH}  {r : AH} (hf : f_X3_fill_b113 N v0 v1 v2 v4 v5 h = some r) : JW G X (RX3, cX3_fill, 7) h [(0, .ref v0), (1, .ref v1), (2, .ref v2), (4, .int v4), (5, .int v5)] [] 113 0 0 (jEnd G X (jpv r) 0 0) := by
  unfold f_X3_fill_b113 at hf
  obtain ⟨q1, h1, hf⟩ := jbind hf
  refine jloop (P := fun s => JW G X (RX3, cX3_fill, 7) s.2.2 [(0, .ref v0), (1, .ref v1), (2, .ref v2), (4, .int s.1), (5, .int s.2.1)] [] 113 0 0 (jEnd G X (jpv r) 0 0)) (Ex := fun (e : AH) => JW G X (RX3, cX3_fill, 7) e [] [] 190 0 0 (jEnd G X (jpv r) 0 0)) (fun s q hs hb hx => lk_X3_fill_l113 E hX hr N hs (fun s' hs => hb s' hs) (fun e he => hx e he)) N _ q1 h1 ?_
  generalize q1 = e at hf ⊢
  cases hf
  exact J_vret E hr (jd dk_X3_fill_2 4 rfl) (Nat.le_refl _) (Nat.le_refl _) ⟨rfl, rfl⟩
set_option maxRecDepth 100000 in
set_option maxHeartbeats 4000000 in
theorem lk_X3_fill_l55 {G : JG} {X : JX} (E : jE G X (RX3, cX3_fill, 7)) (hX : X.2.2.2.1 = jRm 2 0 0) (hr : X.2.2.2.2.2.2.2.2.1.sig.returnType = none) (N : Nat) {Q : State → Prop} {v0 : Nat} {v1 : Nat} {v2 : Nat} {v3 : Int32} {v4 : Int32} {v5 : Int32}  {h : AH} {q : ((Int32 × AH) ⊕ ((AH)))} (hf : f_X3_fill_l55 N v0 v1 v2 v3 v4 v5 h = some q) (kb : ∀ s' : Int32 × AH, q = .inl s' → JW G X (RX3, cX3_fill, 7) s'.2 [(0, .ref v0), (1, .ref v1), (2, .ref v2), (3, .int v3), (4, .int v4), (5, .int s'.1)] [] 55 0 0 Q) (ke0 : ∀ e : AH, q = .inr e → JW G X (RX3, cX3_fill, 7) e [(0, .ref v0), (1, .ref v1), (2, .ref v2), (3, .int v3), (4, .int v4)] [] 91 0 0 Q) : JW G X (RX3, cX3_fill, 7) h [(0, .ref v0), (1, .ref v1), (2, .ref v2), (3, .int v3), (4, .int v4), (5, .int v5)] [] 55 0 0 Q := by
  unfold f_X3_fill_l55 at hf
  refine J_iload E (jd dk_X3_fill_0 31 rfl) 5 rfl ?_
  refine J_iload_n E (jd dk_X3_fill_0 32 rfl) rfl 3 rfl ?_
  refine J_icmp_ge (tgt := 91) E (jd dk_X3_fill_0 33 rfl) (by decide) (fun c25 => ?_) (fun c25 => ?_)
  · replace hf := jif_t c25 hf
    refine J_sub [0, 1, 2, 3, 4] rfl ?_
    exact ke0 _ (Option.some.inj hf).symm
  · replace hf := jif_f c25 hf
    refine J_aload_n E (jd dk_X3_fill_0 34 rfl) rfl 0 rfl ?_
    obtain ⟨x26, e27, hf⟩ := jbind hf
    refine J_getr E (jd dk_X3_fill_0 35 rfl) fl_RX3_22 e27 ?_
    refine J_iload E (jd dk_X3_fill_0 36 rfl) 4 rfl ?_
    refine J_sipush (v := 256) E (jd dk_X3_fill_0 37 rfl) (by decide) ?_
    refine J_imul E (jd dk_X3_fill_0 38 rfl) ?_
    refine J_iload E (jd dk_X3_fill_0 39 rfl) 5 rfl ?_
    refine J_iadd E (jd dk_X3_fill_0 40 rfl) ?_
    refine J_aload_n E (jd dk_X3_fill_0 41 rfl) rfl 0 rfl ?_
    refine J_aload_n E (jd dk_X3_fill_0 42 rfl) rfl 1 rfl ?_
    refine J_aload_n E (jd dk_X3_fill_0 43 rfl) rfl 2 rfl ?_
    refine J_iload E (jd dk_X3_fill_0 44 rfl) 4 rfl ?_
    refine J_iload E (jd dk_X3_fill_0 45 rfl) 5 rfl ?_
    obtain ⟨u30, e31, hf⟩ := jbind hf
    obtain ⟨r28, e29, hf⟩ := jbind hf
    refine J_callV E (jd dk_X3_fill_0 46 rfl) ml_RX3_33 cal_X3_bestWorth e31 rfl (lk_X3_bestWorth (jE_g E) (jE_tr E) N e29) rfl (Nat.le_of_ble_eq_true rfl) (jR_le hX (by decide) (by decide)) (jF0 hX) rfl ?_
    rintro _ _ ⟨rfl, rfl⟩
    obtain ⟨h32, e33, hf⟩ := jbind hf
    refine J_iast E (jd dk_X3_fill_0 47 rfl) e33 ?_
    refine J_iinc (v := v5 + 1) (lv' := [(5, .int (v5 + 1)), (0, .ref v0), (1, .ref v1), (2, .ref v2), (3, .int v3), (4, .int v4)]) E (jd dk_X3_fill_0 48 rfl) 5 rfl rfl (by decide) rfl ?_
    refine J_goto (tgt := 55) E (jd dk_X3_fill_0 49 rfl) (by decide) ?_
    refine J_sub [1, 2, 3, 4, 5, 0] rfl ?_
    exact kb _ (Option.some.inj hf).symm
set_option maxRecDepth 100000 in
set_option maxHeartbeats 4000000 in
theorem lk_X3_fill_b55 {G : JG} {X : JX} (E : jE G X (RX3, cX3_fill, 7)) (hX : X.2.2.2.1 = jRm 2 0 0) (hr : X.2.2.2.2.2.2.2.2.1.sig.returnType = none) (N : Nat) {Q : State → Prop} {v0 : Nat} {v1 : Nat} {v2 : Nat} {v3 : Int32} {v4 : Int32} {v5 : Int32} {h : AH}  {q : ((Int32 × AH) ⊕ ((AH)))} (hf : f_X3_fill_b55 N v0 v1 v2 v3 v4 v5 h = some q) (kb : ∀ s' : Int32 × AH, q = .inl s' → JW G X (RX3, cX3_fill, 7) s'.2 [(0, .ref v0), (1, .ref v1), (2, .ref v2), (3, .int v3), (4, .int s'.1)] [] 47 0 0 Q) (ke0 : ∀ e : AH, q = .inr e → JW G X (RX3, cX3_fill, 7) e [(0, .ref v0), (1, .ref v1), (2, .ref v2)] [] 97 0 0 Q) : JW G X (RX3, cX3_fill, 7) h [(0, .ref v0), (1, .ref v1), (2, .ref v2), (3, .int v3), (4, .int v4), (5, .int v5)] [] 55 0 0 Q := by
  unfold f_X3_fill_b55 at hf
  obtain ⟨q1, h1, hf⟩ := jbind hf
  refine jloop (P := fun s => JW G X (RX3, cX3_fill, 7) s.2 [(0, .ref v0), (1, .ref v1), (2, .ref v2), (3, .int v3), (4, .int v4), (5, .int s.1)] [] 55 0 0 Q) (Ex := fun (e : AH) => JW G X (RX3, cX3_fill, 7) e [(0, .ref v0), (1, .ref v1), (2, .ref v2), (3, .int v3), (4, .int v4)] [] 91 0 0 Q) (fun s q hs hb hx => lk_X3_fill_l55 E hX hr N hs (fun s' hs => hb s' hs) (fun e he => hx e he)) N _ q1 h1 ?_
  generalize q1 = e at hf ⊢
  refine J_iinc (v := v4 + (-1)) (lv' := [(4, .int (v4 + (-1))), (0, .ref v0), (1, .ref v1), (2, .ref v2), (3, .int v3)]) E (jd dk_X3_fill_1 0 rfl) 4 rfl rfl (by decide) rfl ?_
  refine J_goto (tgt := 47) E (jd dk_X3_fill_1 1 rfl) (by decide) ?_
  refine J_sub [1, 2, 3, 4, 0] rfl ?_
  exact kb _ (Option.some.inj hf).symm
set_option maxRecDepth 100000 in
set_option maxHeartbeats 4000000 in
theorem lk_X3_fill_l47 {G : JG} {X : JX} (E : jE G X (RX3, cX3_fill, 7)) (hX : X.2.2.2.1 = jRm 2 0 0) (hr : X.2.2.2.2.2.2.2.2.1.sig.returnType = none) (N : Nat) {Q : State → Prop} {v0 : Nat} {v1 : Nat} {v2 : Nat} {v3 : Int32} {v4 : Int32}  {h : AH} {q : ((Int32 × AH) ⊕ ((AH)))} (hf : f_X3_fill_l47 N v0 v1 v2 v3 v4 h = some q) (kb : ∀ s' : Int32 × AH, q = .inl s' → JW G X (RX3, cX3_fill, 7) s'.2 [(0, .ref v0), (1, .ref v1), (2, .ref v2), (3, .int v3), (4, .int s'.1)] [] 47 0 0 Q) (ke0 : ∀ e : AH, q = .inr e → JW G X (RX3, cX3_fill, 7) e [(0, .ref v0), (1, .ref v1), (2, .ref v2)] [] 97 0 0 Q) : JW G X (RX3, cX3_fill, 7) h [(0, .ref v0), (1, .ref v1), (2, .ref v2), (3, .int v3), (4, .int v4)] [] 47 0 0 Q := by
  unfold f_X3_fill_l47 at hf
  refine J_iload E (jd dk_X3_fill_0 27 rfl) 4 rfl ?_
  refine J_if_lt (tgt := 97) E (jd dk_X3_fill_0 28 rfl) (by decide) (fun c34 => ?_) (fun c34 => ?_)
  · replace hf := jif_t c34 hf
    refine J_sub [0, 1, 2] rfl ?_
    exact ke0 _ (Option.some.inj hf).symm
  · replace hf := jif_f c34 hf
    refine J_iconst (v := 0) E (jd dk_X3_fill_0 29 rfl) rfl ?_
    refine J_istore (lv' := [(5, .int 0), (0, .ref v0), (1, .ref v1), (2, .ref v2), (3, .int v3), (4, .int v4)]) E (jd dk_X3_fill_0 30 rfl) (by decide) rfl ?_
    refine J_sub [1, 2, 3, 4, 5, 0] rfl ?_
    exact lk_X3_fill_b55 E hX hr N hf kb ke0
set_option maxRecDepth 100000 in
set_option maxHeartbeats 4000000 in
theorem lk_X3_fill_b47 {G : JG} {X : JX} (E : jE G X (RX3, cX3_fill, 7)) (hX : X.2.2.2.1 = jRm 2 0 0) (hr : X.2.2.2.2.2.2.2.2.1.sig.returnType = none) (N : Nat) {v0 : Nat} {v1 : Nat} {v2 : Nat} {v3 : Int32} {v4 : Int32} {h : AH}  {r : AH} (hf : f_X3_fill_b47 N v0 v1 v2 v3 v4 h = some r) : JW G X (RX3, cX3_fill, 7) h [(0, .ref v0), (1, .ref v1), (2, .ref v2), (3, .int v3), (4, .int v4)] [] 47 0 0 (jEnd G X (jpv r) 0 0) := by
  unfold f_X3_fill_b47 at hf
  obtain ⟨q1, h1, hf⟩ := jbind hf
  refine jloop (P := fun s => JW G X (RX3, cX3_fill, 7) s.2 [(0, .ref v0), (1, .ref v1), (2, .ref v2), (3, .int v3), (4, .int s.1)] [] 47 0 0 (jEnd G X (jpv r) 0 0)) (Ex := fun (e : AH) => JW G X (RX3, cX3_fill, 7) e [(0, .ref v0), (1, .ref v1), (2, .ref v2)] [] 97 0 0 (jEnd G X (jpv r) 0 0)) (fun s q hs hb hx => lk_X3_fill_l47 E hX hr N hs (fun s' hs => hb s' hs) (fun e he => hx e he)) N _ q1 h1 ?_
  generalize q1 = e at hf ⊢
  refine J_aload_n E (jd dk_X3_fill_1 2 rfl) rfl 0 rfl ?_
  refine J_iconst (v := 0) E (jd dk_X3_fill_1 3 rfl) rfl ?_
  obtain ⟨h35, e36, hf⟩ := jbind hf
  refine J_put E (jd dk_X3_fill_1 4 rfl) fl_RX3_9 e36 (fun _ => rfl) (fun _ => rfl) ?_
  refine J_aload_n E (jd dk_X3_fill_1 5 rfl) rfl 0 rfl ?_
  refine J_iconst (v := 0) E (jd dk_X3_fill_1 6 rfl) rfl ?_
  obtain ⟨h37, e38, hf⟩ := jbind hf
  refine J_put E (jd dk_X3_fill_1 7 rfl) fl_RX3_15 e38 (fun _ => rfl) (fun _ => rfl) ?_
  refine J_iconst (v := 0) E (jd dk_X3_fill_1 8 rfl) rfl ?_
  refine J_istore (lv' := [(4, .int 0), (0, .ref v0), (1, .ref v1), (2, .ref v2)]) E (jd dk_X3_fill_1 9 rfl) (by decide) rfl ?_
  refine J_iconst (v := 0) E (jd dk_X3_fill_1 10 rfl) rfl ?_
  refine J_istore (lv' := [(5, .int 0), (4, .int 0), (0, .ref v0), (1, .ref v1), (2, .ref v2)]) E (jd dk_X3_fill_1 11 rfl) (by decide) rfl ?_
  refine J_sub [2, 3, 4, 1, 0] rfl ?_
  exact lk_X3_fill_b113 E hX hr N hf
set_option maxRecDepth 100000 in
set_option maxHeartbeats 4000000 in
theorem lk_X3_fill_l10 {G : JG} {X : JX} (E : jE G X (RX3, cX3_fill, 7)) (hX : X.2.2.2.1 = jRm 2 0 0) (hr : X.2.2.2.2.2.2.2.2.1.sig.returnType = none) (N : Nat) {Q : State → Prop} {v0 : Nat} {v1 : Nat} {v2 : Nat} {v3 : Int32} {v4 : Int32}  {h : AH} {q : ((Int32 × AH) ⊕ ((AH)))} (hf : f_X3_fill_l10 N v0 v1 v2 v3 v4 h = some q) (kb : ∀ s' : Int32 × AH, q = .inl s' → JW G X (RX3, cX3_fill, 7) s'.2 [(0, .ref v0), (1, .ref v1), (2, .ref v2), (3, .int v3), (4, .int s'.1)] [] 10 0 0 Q) (ke0 : ∀ e : AH, q = .inr e → JW G X (RX3, cX3_fill, 7) e [(0, .ref v0), (1, .ref v1), (2, .ref v2), (3, .int v3)] [] 39 0 0 Q) : JW G X (RX3, cX3_fill, 7) h [(0, .ref v0), (1, .ref v1), (2, .ref v2), (3, .int v3), (4, .int v4)] [] 10 0 0 Q := by
  unfold f_X3_fill_l10 at hf
  refine J_iload E (jd dk_X3_fill_0 7 rfl) 4 rfl ?_
  refine J_iload_n E (jd dk_X3_fill_0 8 rfl) rfl 3 rfl ?_
  refine J_icmp_ge (tgt := 39) E (jd dk_X3_fill_0 9 rfl) (by decide) (fun c39 => ?_) (fun c39 => ?_)
  · replace hf := jif_t c39 hf
    refine J_sub [0, 1, 2, 3] rfl ?_
    exact ke0 _ (Option.some.inj hf).symm
  · replace hf := jif_f c39 hf
    refine J_aload_n E (jd dk_X3_fill_0 10 rfl) rfl 0 rfl ?_
    obtain ⟨x40, e41, hf⟩ := jbind hf
    refine J_getr E (jd dk_X3_fill_0 11 rfl) fl_RX3_22 e41 ?_
    refine J_aload_n E (jd dk_X3_fill_0 12 rfl) rfl 1 rfl ?_
    obtain ⟨x42, e43, hf⟩ := jbind hf
    refine J_geti E (jd dk_X3_fill_0 13 rfl) fl_RX3_30 e43 ?_
    refine J_sipush (v := 256) E (jd dk_X3_fill_0 14 rfl) (by decide) ?_
    refine J_imul E (jd dk_X3_fill_0 15 rfl) ?_
    refine J_iload E (jd dk_X3_fill_0 16 rfl) 4 rfl ?_
    refine J_iadd E (jd dk_X3_fill_0 17 rfl) ?_
    refine J_iconst (v := 0) E (jd dk_X3_fill_0 18 rfl) rfl ?_
    obtain ⟨h44, e45, hf⟩ := jbind hf
    refine J_iast E (jd dk_X3_fill_0 19 rfl) e45 ?_
    refine J_iinc (v := v4 + 1) (lv' := [(4, .int (v4 + 1)), (0, .ref v0), (1, .ref v1), (2, .ref v2), (3, .int v3)]) E (jd dk_X3_fill_0 20 rfl) 4 rfl rfl (by decide) rfl ?_
    refine J_goto (tgt := 10) E (jd dk_X3_fill_0 21 rfl) (by decide) ?_
    refine J_sub [1, 2, 3, 4, 0] rfl ?_
    exact kb _ (Option.some.inj hf).symm
set_option maxRecDepth 100000 in
set_option maxHeartbeats 4000000 in
theorem lk_X3_fill_b10 {G : JG} {X : JX} (E : jE G X (RX3, cX3_fill, 7)) (hX : X.2.2.2.1 = jRm 2 0 0) (hr : X.2.2.2.2.2.2.2.2.1.sig.returnType = none) (N : Nat) {v0 : Nat} {v1 : Nat} {v2 : Nat} {v3 : Int32} {v4 : Int32} {h : AH}  {r : AH} (hf : f_X3_fill_b10 N v0 v1 v2 v3 v4 h = some r) : JW G X (RX3, cX3_fill, 7) h [(0, .ref v0), (1, .ref v1), (2, .ref v2), (3, .int v3), (4, .int v4)] [] 10 0 0 (jEnd G X (jpv r) 0 0) := by
  unfold f_X3_fill_b10 at hf
  obtain ⟨q1, h1, hf⟩ := jbind hf
  refine jloop (P := fun s => JW G X (RX3, cX3_fill, 7) s.2 [(0, .ref v0), (1, .ref v1), (2, .ref v2), (3, .int v3), (4, .int s.1)] [] 10 0 0 (jEnd G X (jpv r) 0 0)) (Ex := fun (e : AH) => JW G X (RX3, cX3_fill, 7) e [(0, .ref v0), (1, .ref v1), (2, .ref v2), (3, .int v3)] [] 39 0 0 (jEnd G X (jpv r) 0 0)) (fun s q hs hb hx => lk_X3_fill_l10 E hX hr N hs (fun s' hs => hb s' hs) (fun e he => hx e he)) N _ q1 h1 ?_
  generalize q1 = e at hf ⊢
  refine J_aload_n E (jd dk_X3_fill_0 22 rfl) rfl 1 rfl ?_
  obtain ⟨x46, e47, hf⟩ := jbind hf
  refine J_geti E (jd dk_X3_fill_0 23 rfl) fl_RX3_30 e47 ?_
  refine J_iconst (v := 1) E (jd dk_X3_fill_0 24 rfl) rfl ?_
  refine J_isub E (jd dk_X3_fill_0 25 rfl) ?_
  refine J_istore (lv' := [(4, .int (x46 - 1)), (0, .ref v0), (1, .ref v1), (2, .ref v2), (3, .int v3)]) E (jd dk_X3_fill_0 26 rfl) (by decide) rfl ?_
  refine J_sub [1, 2, 3, 4, 0] rfl ?_
  exact lk_X3_fill_b47 E hX hr N hf
set_option maxRecDepth 100000 in
set_option maxHeartbeats 4000000 in
theorem lk_X3_fill {G : JG} {l : Launch} (hG : jG G) (htr : l.stackTraces = false) (N : Nat) {h : AH} {a0 : Nat} {a1 : Nat} {a2 : Nat} {r : AH} (hf : f_X3_fill N h a0 a1 a2 = some r) : jMet G l yX3_fill cX3_fill 7 none 2 0 0 [.ref a0, .ref a1, .ref a2] h (jpv r) := by
  unfold f_X3_fill at hf
  refine jMet_of hG htr (by decide) (Nat.le_of_ble_eq_true rfl) ?_
  intro X E hl9 hr hX _ _
  show JW G X (RX3, cX3_fill, 7) h [(0, .ref a0), (1, .ref a1), (2, .ref a2)] [] 0 0 0 (jEnd G X (jpv r) 0 0)
  refine J_iconst (v := 1) E (jd dk_X3_fill_0 0 rfl) rfl ?_
  refine J_aload_n E (jd dk_X3_fill_0 1 rfl) rfl 1 rfl ?_
  obtain ⟨x48, e49, hf⟩ := jbind hf
  refine J_geti E (jd dk_X3_fill_0 2 rfl) fl_RX3_25 e49 ?_
  refine J_ishl E (jd dk_X3_fill_0 3 rfl) ?_
  refine J_istore_n (lv' := [(3, .int ((1 : Int32) <<< (x48 &&& 31))), (0, .ref a0), (1, .ref a1), (2, .ref a2)]) E (jd dk_X3_fill_0 4 rfl) rfl (by decide) rfl ?_
  refine J_iconst (v := 0) E (jd dk_X3_fill_0 5 rfl) rfl ?_
  refine J_istore (lv' := [(4, .int 0), (3, .int ((1 : Int32) <<< (x48 &&& 31))), (0, .ref a0), (1, .ref a1), (2, .ref a2)]) E (jd dk_X3_fill_0 6 rfl) (by decide) rfl ?_
  refine J_sub [2, 3, 4, 1, 0] rfl ?_
  exact lk_X3_fill_b10 E hX hr N hf
