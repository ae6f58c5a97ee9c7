/-! the start: whole_start -/
theorem jE_start {p : Program} {e : Env} {s : State} {m : MethodId} {below : List Frame} {meth : Method} {c : Code} (l : Launch) {b L : Nat} {xs : Nat → Int32} (htr : l.stackTraces = false) (C0 : lw_At p s m meth c b L xs) : ∃ Gg : JG, jE Gg (p, l, e, room_1, s, m, #[Value.ref b], below, meth, c) (RL, cL_law, 7) ∧ gb Gg = s.heap.size ∧ gS Gg 4000000 = b := by
  obtain ⟨hx, hb, hr, hml, hown, hts9, hX, hbl, hlk, hgv⟩ := C0
  have hts : ∀ w ∈ jT, w.before #[Value.ref b] s = true := fun w hw => hts9 w (List.mem_filter.mp hw).1
  have hs := flat_of_before _ hgv
  have hao : va_AO "java/lang/String" s := va_AO.of (hts9 _ w_ao)
  obtain ⟨D, hD⟩ := clsK hts
  obtain ⟨gA9, hA9⟩ := arrK hts hao
  have hA : ∀ a : Nat, a < s.heap.size → ¬ s.heap.size ≤ a := fun a h1 h2 => by omega
  obtain ⟨ad, had⟩ := strF (A := fun q => s.heap.size ≤ q) hgv hA
  obtain ⟨v, hv, hvr⟩ := Cond.isRef_spec (hs _ n_4)
  obtain ⟨t, ht⟩ : ∃ t : Nat, va_Z "jdk/internal/util/Preconditions" "SIOOBE_FORMATTER" "Ljava/util/function/BiFunction;" .null (fun q => s.heap.size ≤ q) s s.heap ∨ va_Z "jdk/internal/util/Preconditions" "SIOOBE_FORMATTER" "Ljava/util/function/BiFunction;" (.ref t) (fun q => s.heap.size ≤ q) s s.heap := by
    have z := va_Zof (A := fun q => s.heap.size ≤ q) (hts9 _ w_ls4) (hts9 _ w_in4) hv hA
    cases v with
    | null => exact ⟨0, .inl z⟩
    | ref t => exact ⟨t, .inr z⟩
    | int x => cases hvr
    | long x => cases hvr
    | float x => cases hvr
    | double x => cases hvr
    | retAddr x => cases hvr
  refine ⟨(gS0 s.heap.size b t ad, s.heap.size, gA9, fun c => (D c).1, fun c => (D c).2, s.heap), ⟨hx, hb, hml, hown, hts, ⟨hD, hA9⟩, ⟨fun k hk => ?_, rfl⟩, Nat.le_refl _, fun _ _ => rfl, ⟨fun i q hq => ?_, fun w hw hk => va_Nw.of (jkT hk) (hts9 w (jNG_in w hw)), vx_Zqof (hts9 _ w_ls1) (hts9 _ w_in1) (hs _ n_1) hA, vx_Zqof (hts9 _ w_ls2) (hts9 _ w_in1) (hs _ n_2) hA, va_Zof (hts9 _ w_ls3) (hts9 _ w_in3) (va_eqt (hs _ n_3)) hA, va_Nc.of (hs _ n_5), ?_, hao⟩, hlk, htr, by decide, by decide⟩, rfl, gS0_4 (n := s.heap.size) (b := b) (t := t) (ad := ad)⟩
  · show gS0 s.heap.size b t ad k = s.heap.size + k
    unfold gS0
    rw [if_pos hk]
  · have hi : i < 1000 := by
      have := (List.getElem?_eq_some_iff.mp hq).1
      rw [jlen] at this
      omega
    obtain ⟨s1, s2, s3, s4, s5⟩ := had i q hq
    have e1 : gS0 s.heap.size b t ad (1000000 + i) = (ad i).1 := gS0_1 hi
    have e2 : gS0 s.heap.size b t ad (2000000 + i) = (ad i).2 := gS0_2 hi
    have hR := vk_R.of (hts9 _ (jNG_in _ (strR q (List.mem_of_getElem? hq)))) s1
    show vk_R q.1 q.2.1 q.2.2 (gS0 s.heap.size b t ad (1000000 + i)) s ∧ va_O "java/lang/String" (gS0 s.heap.size b t ad (1000000 + i)) (fun q => s.heap.size ≤ q) s s.heap ∧ va_OF "java/lang/String" "coder" "B" (.int 0) (gS0 s.heap.size b t ad (1000000 + i)) (fun q => s.heap.size ≤ q) s s.heap ∧ va_OF "java/lang/String" "value" "[B" (.ref (gS0 s.heap.size b t ad (2000000 + i))) (gS0 s.heap.size b t ad (1000000 + i)) (fun q => s.heap.size ≤ q) s s.heap ∧ va_T .byte (gS0 s.heap.size b t ad (2000000 + i)) q.2.2.toList.length (fun j => .int (jbyt q.2.2 j)) (fun q => s.heap.size ≤ q) s s.heap
    rw [e1, e2]
    exact ⟨hR, s2, s3, s4, s5⟩
  · show va_Z "jdk/internal/util/Preconditions" "SIOOBE_FORMATTER" "Ljava/util/function/BiFunction;" .null (fun q => s.heap.size ≤ q) s s.heap ∨ va_Z "jdk/internal/util/Preconditions" "SIOOBE_FORMATTER" "Ljava/util/function/BiFunction;" (.ref (gS0 s.heap.size b t ad 3000000)) (fun q => s.heap.size ≤ q) s s.heap
    rw [gS0_3]
    exact ht
