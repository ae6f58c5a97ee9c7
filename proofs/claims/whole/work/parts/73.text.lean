/-! THE TEXT: tokens -/
def TXT (n : Nat) (tx : Nat → Nat) (C M : ST) : Prop := n ≤ 700 ∧ C 2 3 = nI n ∧ M 71 19 = nI n ∧ ∀ i, i < n → tx i < 256 ∧ C 1 i = sb (tx i) ∧ M 86 i = nI (tx i)
def isL (b : Nat) : Bool := decide (97 ≤ b ∧ b ≤ 122)
def isD (b : Nat) : Bool := decide (48 ≤ b ∧ b ≤ 57)
def isB (b : Nat) : Bool := decide (b = 32 ∨ b = 10)
def isM (b : Nat) : Bool := decide (b = 59 ∨ b = 40 ∨ b = 41 ∨ b = 43 ∨ b = 45 ∨ b = 42 ∨ b = 47 ∨ b = 60 ∨ b = 61)
def rTo (q : Nat → Bool) : Nat → Nat → Nat
  | 0, i => i
  | m + 1, i => if q i = true then rTo q m (i + 1) else i
theorem rTo_le (q : Nat → Bool) : ∀ m i, i ≤ rTo q m i ∧ rTo q m i ≤ i + m
  | 0 => fun i => ⟨Nat.le_refl _, Nat.le_refl _⟩
  | m + 1 => fun i => by
    unfold rTo
    split
    · have := rTo_le q m (i + 1); omega
    · omega
theorem rTo_in (q : Nat → Bool) : ∀ m i j, i ≤ j → j < rTo q m i → q j = true
  | 0 => fun i j h1 h2 => by unfold rTo at h2; omega
  | m + 1 => fun i j h1 h2 => by
    unfold rTo at h2
    by_cases y : q i = true
    · rw [if_pos y] at h2
      by_cases z : i = j
      · rw [← z]; exact y
      · exact rTo_in q m (i + 1) j (by omega) h2
    · rw [if_neg y] at h2; omega
theorem rTo_end (q : Nat → Bool) : ∀ m i, rTo q m i < i + m → q (rTo q m i) = false
  | 0 => fun i h => by unfold rTo at h; omega
  | m + 1 => fun i h => by
    unfold rTo at h ⊢
    by_cases y : q i = true
    · rw [if_pos y] at h ⊢
      exact rTo_end q m (i + 1) (by omega)
    · rw [if_neg y]
      simpa using y
theorem sb_eq {b c : Nat} (hb : b < 256) (hc : c < 128) : sb b = nI c ↔ b = c := by
  constructor
  · intro h
    have := congrArg Int32.toInt h
    rw [sb_toInt b hb, nI_toInt (by omega)] at this
    split at this <;> omega
  · intro h
    subst h
    unfold sb
    rw [if_pos hc]
theorem cL : ∀ b, b < 256 → (isL b = true ∧ ¬ sb b < 97 ∧ ¬ 122 < sb b) ∨ (isL b = false ∧ sb b < 97) ∨ (isL b = false ∧ ¬ sb b < 97 ∧ 122 < sb b) := by decide +kernel
theorem cD : ∀ b, b < 256 → (isD b = true ∧ ¬ sb b < 48 ∧ ¬ 57 < sb b) ∨ (isD b = false ∧ sb b < 48) ∨ (isD b = false ∧ ¬ sb b < 48 ∧ 57 < sb b) := by decide +kernel
theorem mL : ∀ b, b < 256 → (isL b = true ∧ ¬ nI b < 97 ∧ ¬ 122 < nI b) ∨ (isL b = false ∧ nI b < 97) ∨ (isL b = false ∧ ¬ nI b < 97 ∧ 122 < nI b) := by decide +kernel
theorem mD : ∀ b, b < 256 → (isD b = true ∧ ¬ nI b < 48 ∧ ¬ 57 < nI b) ∨ (isD b = false ∧ nI b < 48) ∨ (isD b = false ∧ ¬ nI b < 48 ∧ 57 < nI b) := by decide +kernel
section S73
variable {C C' M M' : ST} {N n g vl : Nat} {tx : Nat → Nat} {h : AH} {b : Nat}
theorem isL_c (hb : b < 256) : f_X4_isLetter N h (sb b) = some (b2i (isL b), h) := by
  rcases cL b hb with ⟨e, e1, e2⟩ | ⟨e, e1⟩ | ⟨e, e1, e2⟩
  · simp only [f_X4_isLetter, e1, e2, ↓reduceIte, e]; rfl
  · simp only [f_X4_isLetter, f_X4_isLetter_b16, e1, ↓reduceIte, e]; rfl
  · simp only [f_X4_isLetter, f_X4_isLetter_b16, e1, e2, ↓reduceIte, e]; rfl
theorem isD_c (hb : b < 256) : f_X4_isDigit N h (sb b) = some (b2i (isD b), h) := by
  rcases cD b hb with ⟨e, e1, e2⟩ | ⟨e, e1⟩ | ⟨e, e1, e2⟩
  · simp only [f_X4_isDigit, e1, e2, ↓reduceIte, e]; rfl
  · simp only [f_X4_isDigit, f_X4_isDigit_b16, e1, ↓reduceIte, e]; rfl
  · simp only [f_X4_isDigit, f_X4_isDigit_b16, e1, e2, ↓reduceIte, e]; rfl
theorem isL_m (hb : b < 256) : f_X7_isLetter N h (nI b) = some (b2i (isL b), h) := by
  rcases mL b hb with ⟨e, e1, e2⟩ | ⟨e, e1⟩ | ⟨e, e1, e2⟩
  · simp only [f_X7_isLetter, e1, e2, ↓reduceIte, e]; rfl
  · simp only [f_X7_isLetter, f_X7_isLetter_b16, e1, ↓reduceIte, e]; rfl
  · simp only [f_X7_isLetter, f_X7_isLetter_b16, e1, e2, ↓reduceIte, e]; rfl
theorem isD_m (hb : b < 256) : f_X7_isDigit N h (nI b) = some (b2i (isD b), h) := by
  rcases mD b hb with ⟨e, e1, e2⟩ | ⟨e, e1⟩ | ⟨e, e1, e2⟩
  · simp only [f_X7_isDigit, e1, e2, ↓reduceIte, e]; rfl
  · simp only [f_X7_isDigit, f_X7_isDigit_b16, e1, ↓reduceIte, e]; rfl
  · simp only [f_X7_isDigit, f_X7_isDigit_b16, e1, e2, ↓reduceIte, e]; rfl
theorem sb32 (hb : b < 256) : (sb b = 32) = (b = 32) := propext (sb_eq (c := 32) hb (by decide))
theorem sb10 (hb : b < 256) : (sb b = 10) = (b = 10) := propext (sb_eq (c := 10) hb (by decide))
theorem nI32 (hb : b < 256) : (nI b = 32) = (b = 32) := propext (eq_nI (b := 32) (by omega) (by decide))
theorem nI10 (hb : b < 256) : (nI b = 10) = (b = 10) := propext (eq_nI (b := 10) (by omega) (by decide))
theorem isB_c (hb : b < 256) : f_X4_isBlank N h (sb b) = some (b2i (isB b), h) := by
  unfold isB
  by_cases h1 : b = 32
  · simp only [f_X4_isBlank, f_X4_isBlank_b12, sb32 hb, h1, ↓reduceIte]; rfl
  · by_cases h2 : b = 10
    · simp only [f_X4_isBlank, f_X4_isBlank_b12, sb32 hb, sb10 hb, h1, h2, ↓reduceIte]; rfl
    · simp only [f_X4_isBlank, f_X4_isBlank_b12, sb32 hb, sb10 hb, h1, h2, ↓reduceIte, or_self, decide_false]; rfl
theorem sb_59 (hb : b < 256) : (sb b = 59) = (b = 59) := propext (sb_eq (c := 59) hb (by decide))
theorem nI_59 (hb : b < 256) : (nI b = 59) = (b = 59) := propext (eq_nI (b := 59) (by omega) (by decide))
theorem sb_40 (hb : b < 256) : (sb b = 40) = (b = 40) := propext (sb_eq (c := 40) hb (by decide))
theorem nI_40 (hb : b < 256) : (nI b = 40) = (b = 40) := propext (eq_nI (b := 40) (by omega) (by decide))
theorem sb_41 (hb : b < 256) : (sb b = 41) = (b = 41) := propext (sb_eq (c := 41) hb (by decide))
theorem nI_41 (hb : b < 256) : (nI b = 41) = (b = 41) := propext (eq_nI (b := 41) (by omega) (by decide))
theorem sb_43 (hb : b < 256) : (sb b = 43) = (b = 43) := propext (sb_eq (c := 43) hb (by decide))
theorem nI_43 (hb : b < 256) : (nI b = 43) = (b = 43) := propext (eq_nI (b := 43) (by omega) (by decide))
theorem sb_45 (hb : b < 256) : (sb b = 45) = (b = 45) := propext (sb_eq (c := 45) hb (by decide))
theorem nI_45 (hb : b < 256) : (nI b = 45) = (b = 45) := propext (eq_nI (b := 45) (by omega) (by decide))
theorem sb_42 (hb : b < 256) : (sb b = 42) = (b = 42) := propext (sb_eq (c := 42) hb (by decide))
theorem nI_42 (hb : b < 256) : (nI b = 42) = (b = 42) := propext (eq_nI (b := 42) (by omega) (by decide))
theorem sb_47 (hb : b < 256) : (sb b = 47) = (b = 47) := propext (sb_eq (c := 47) hb (by decide))
theorem nI_47 (hb : b < 256) : (nI b = 47) = (b = 47) := propext (eq_nI (b := 47) (by omega) (by decide))
theorem sb_60 (hb : b < 256) : (sb b = 60) = (b = 60) := propext (sb_eq (c := 60) hb (by decide))
theorem nI_60 (hb : b < 256) : (nI b = 60) = (b = 60) := propext (eq_nI (b := 60) (by omega) (by decide))
theorem sb_61 (hb : b < 256) : (sb b = 61) = (b = 61) := propext (sb_eq (c := 61) hb (by decide))
theorem nI_61 (hb : b < 256) : (nI b = 61) = (b = 61) := propext (eq_nI (b := 61) (by omega) (by decide))
theorem isM_c (hb : b < 256) : f_X4_isSignByte N h (sb b) = some (b2i (isM b), h) := by
  unfold isM
  by_cases h59 : b = 59
  · simp only [f_X4_isSignByte, f_X4_isSignByte_b54, sb_59 hb, h59, ↓reduceIte]; rfl
  by_cases h40 : b = 40
  · simp only [f_X4_isSignByte, f_X4_isSignByte_b54, sb_59 hb, sb_40 hb, h59, h40, ↓reduceIte]; rfl
  by_cases h41 : b = 41
  · simp only [f_X4_isSignByte, f_X4_isSignByte_b54, sb_59 hb, sb_40 hb, sb_41 hb, h59, h40, h41, ↓reduceIte]; rfl
  by_cases h43 : b = 43
  · simp only [f_X4_isSignByte, f_X4_isSignByte_b54, sb_59 hb, sb_40 hb, sb_41 hb, sb_43 hb, h59, h40, h41, h43, ↓reduceIte]; rfl
  by_cases h45 : b = 45
  · simp only [f_X4_isSignByte, f_X4_isSignByte_b54, sb_59 hb, sb_40 hb, sb_41 hb, sb_43 hb, sb_45 hb, h59, h40, h41, h43, h45, ↓reduceIte]; rfl
  by_cases h42 : b = 42
  · simp only [f_X4_isSignByte, f_X4_isSignByte_b54, sb_59 hb, sb_40 hb, sb_41 hb, sb_43 hb, sb_45 hb, sb_42 hb, h59, h40, h41, h43, h45, h42, ↓reduceIte]; rfl
  by_cases h47 : b = 47
  · simp only [f_X4_isSignByte, f_X4_isSignByte_b54, sb_59 hb, sb_40 hb, sb_41 hb, sb_43 hb, sb_45 hb, sb_42 hb, sb_47 hb, h59, h40, h41, h43, h45, h42, h47, ↓reduceIte]; rfl
  by_cases h60 : b = 60
  · simp only [f_X4_isSignByte, f_X4_isSignByte_b54, sb_59 hb, sb_40 hb, sb_41 hb, sb_43 hb, sb_45 hb, sb_42 hb, sb_47 hb, sb_60 hb, h59, h40, h41, h43, h45, h42, h47, h60, ↓reduceIte]; rfl
  by_cases h61 : b = 61
  · simp only [f_X4_isSignByte, f_X4_isSignByte_b54, sb_59 hb, sb_40 hb, sb_41 hb, sb_43 hb, sb_45 hb, sb_42 hb, sb_47 hb, sb_60 hb, sb_61 hb, h59, h40, h41, h43, h45, h42, h47, h60, h61, ↓reduceIte]; rfl
  simp only [f_X4_isSignByte, f_X4_isSignByte_b54, sb_59 hb, sb_40 hb, sb_41 hb, sb_43 hb, sb_45 hb, sb_42 hb, sb_47 hb, sb_60 hb, sb_61 hb, h59, h40, h41, h43, h45, h42, h47, h60, h61, ↓reduceIte, or_self, decide_false]; rfl
theorem isM_m (hb : b < 256) : f_X7_isMark N h (nI b) = some (b2i (isM b), h) := by
  unfold isM
  by_cases h59 : b = 59
  · simp only [f_X7_isMark, f_X7_isMark_b54, nI_59 hb, h59, ↓reduceIte]; rfl
  by_cases h40 : b = 40
  · simp only [f_X7_isMark, f_X7_isMark_b54, nI_59 hb, nI_40 hb, h59, h40, ↓reduceIte]; rfl
  by_cases h41 : b = 41
  · simp only [f_X7_isMark, f_X7_isMark_b54, nI_59 hb, nI_40 hb, nI_41 hb, h59, h40, h41, ↓reduceIte]; rfl
  by_cases h43 : b = 43
  · simp only [f_X7_isMark, f_X7_isMark_b54, nI_59 hb, nI_40 hb, nI_41 hb, nI_43 hb, h59, h40, h41, h43, ↓reduceIte]; rfl
  by_cases h45 : b = 45
  · simp only [f_X7_isMark, f_X7_isMark_b54, nI_59 hb, nI_40 hb, nI_41 hb, nI_43 hb, nI_45 hb, h59, h40, h41, h43, h45, ↓reduceIte]; rfl
  by_cases h42 : b = 42
  · simp only [f_X7_isMark, f_X7_isMark_b54, nI_59 hb, nI_40 hb, nI_41 hb, nI_43 hb, nI_45 hb, nI_42 hb, h59, h40, h41, h43, h45, h42, ↓reduceIte]; rfl
  by_cases h47 : b = 47
  · simp only [f_X7_isMark, f_X7_isMark_b54, nI_59 hb, nI_40 hb, nI_41 hb, nI_43 hb, nI_45 hb, nI_42 hb, nI_47 hb, h59, h40, h41, h43, h45, h42, h47, ↓reduceIte]; rfl
  by_cases h60 : b = 60
  · simp only [f_X7_isMark, f_X7_isMark_b54, nI_59 hb, nI_40 hb, nI_41 hb, nI_43 hb, nI_45 hb, nI_42 hb, nI_47 hb, nI_60 hb, h59, h40, h41, h43, h45, h42, h47, h60, ↓reduceIte]; rfl
  by_cases h61 : b = 61
  · simp only [f_X7_isMark, f_X7_isMark_b54, nI_59 hb, nI_40 hb, nI_41 hb, nI_43 hb, nI_45 hb, nI_42 hb, nI_47 hb, nI_60 hb, nI_61 hb, h59, h40, h41, h43, h45, h42, h47, h60, h61, ↓reduceIte]; rfl
  simp only [f_X7_isMark, f_X7_isMark_b54, nI_59 hb, nI_40 hb, nI_41 hb, nI_43 hb, nI_45 hb, nI_42 hb, nI_47 hb, nI_60 hb, nI_61 hb, h59, h40, h41, h43, h45, h42, h47, h60, h61, ↓reduceIte, or_self, decide_false]; rfl
/-- the reader's token cells, all else as in C -/
def s2 (C : ST) (p e k d v : Int32) : ST := fun a => if a = 2 then (fun i => if i = 5 then p else if i = 6 then e else if i = 7 then k else if i = 8 then d else if i = 9 then v else C 2 i) else C a
def m7 (M : ST) (a t x b s : Int32) : ST := fun c => if c = 71 then (fun i => if i = 18 then a else if i = 20 then t else if i = 21 then x else if i = 22 then b else if i = 23 then s else M 71 i) else M c
theorem s2_o {a : Nat} {p e k d v : Int32} (ha : a ≠ 2) : s2 C p e k d v a = C a := by simp only [s2, ha, if_false]
theorem m7_o {c : Nat} {a t x b s : Int32} (hc : c ≠ 71) : m7 M a t x b s c = M c := by simp only [m7, hc, if_false]
theorem s2_r {p e k d v : Int32} : s2 C p e k d v 2 5 = p ∧ s2 C p e k d v 2 6 = e ∧ s2 C p e k d v 2 7 = k ∧ s2 C p e k d v 2 8 = d ∧ s2 C p e k d v 2 9 = v ∧ s2 C p e k d v 2 3 = C 2 3 := ⟨rfl, rfl, rfl, rfl, rfl, rfl⟩
theorem m7_r {a t x b s : Int32} : m7 M a t x b s 71 18 = a ∧ m7 M a t x b s 71 20 = t ∧ m7 M a t x b s 71 21 = x ∧ m7 M a t x b s 71 22 = b ∧ m7 M a t x b s 71 23 = s ∧ m7 M a t x b s 71 19 = M 71 19 ∧ m7 M a t x b s 71 24 = M 71 24 := ⟨rfl, rfl, rfl, rfl, rfl, rfl, rfl⟩
theorem s2_k {i : Nat} {p e k d v : Int32} (hi : i < 5 ∨ 9 < i) : s2 C p e k d v 2 i = C 2 i := by
  simp only [s2, if_true, show ¬ i = 5 by omega, show ¬ i = 6 by omega, show ¬ i = 7 by omega, show ¬ i = 8 by omega, show ¬ i = 9 by omega, if_false]
theorem m7_k {i : Nat} {a t x b s : Int32} (hi : i ≠ 18 ∧ i ≠ 20 ∧ i ≠ 21 ∧ i ≠ 22 ∧ i ≠ 23) : m7 M a t x b s 71 i = M 71 i := by
  simp only [m7, if_true, show ¬ i = 18 by omega, show ¬ i = 20 by omega, show ¬ i = 21 by omega, show ¬ i = 22 by omega, show ¬ i = 23 by omega, if_false]
theorem s2_self : s2 C (C 2 5) (C 2 6) (C 2 7) (C 2 8) (C 2 9) = C := by
  funext a
  by_cases h : a = 2
  · subst h
    funext i
    simp only [s2, if_true]
    by_cases h5 : i = 5
    · rw [if_pos h5, h5]
    · rw [if_neg h5]
      by_cases h6 : i = 6
      · rw [if_pos h6, h6]
      · rw [if_neg h6]
        by_cases h7 : i = 7
        · rw [if_pos h7, h7]
        · rw [if_neg h7]
          by_cases h8 : i = 8
          · rw [if_pos h8, h8]
          · rw [if_neg h8]
            by_cases h9 : i = 9
            · rw [if_pos h9, h9]
            · rw [if_neg h9]
  · exact s2_o h
theorem m7_self : m7 M (M 71 18) (M 71 20) (M 71 21) (M 71 22) (M 71 23) = M := by
  funext a
  by_cases h : a = 71
  · subst h
    funext i
    simp only [m7, if_true]
    by_cases h5 : i = 18
    · rw [if_pos h5, h5]
    · rw [if_neg h5]
      by_cases h6 : i = 20
      · rw [if_pos h6, h6]
      · rw [if_neg h6]
        by_cases h7 : i = 21
        · rw [if_pos h7, h7]
        · rw [if_neg h7]
          by_cases h8 : i = 22
          · rw [if_pos h8, h8]
          · rw [if_neg h8]
            by_cases h9 : i = 23
            · rw [if_pos h9, h9]
            · rw [if_neg h9]
  · exact m7_o h
theorem s2_w5 {p e k d v y : Int32} : up (s2 C p e k d v) 2 5 y = s2 C y e k d v := by
  funext c
  by_cases h : c = 2
  · subst h
    rw [up_s]
    funext i
    by_cases hi : i = 5
    · subst hi; rw [upd_s]; rfl
    · rw [upd_o hi]
      simp only [s2, if_true, hi, if_false]
  · rw [up_o h, s2_o h, s2_o h]
theorem s2_w6 {p e k d v y : Int32} : up (s2 C p e k d v) 2 6 y = s2 C p y k d v := by
  funext c
  by_cases h : c = 2
  · subst h
    rw [up_s]
    funext i
    by_cases hi : i = 6
    · subst hi; rw [upd_s]; rfl
    · rw [upd_o hi]
      simp only [s2, if_true, hi, if_false]
  · rw [up_o h, s2_o h, s2_o h]
theorem s2_w7 {p e k d v y : Int32} : up (s2 C p e k d v) 2 7 y = s2 C p e y d v := by
  funext c
  by_cases h : c = 2
  · subst h
    rw [up_s]
    funext i
    by_cases hi : i = 7
    · subst hi; rw [upd_s]; rfl
    · rw [upd_o hi]
      simp only [s2, if_true, hi, if_false]
  · rw [up_o h, s2_o h, s2_o h]
theorem s2_w8 {p e k d v y : Int32} : up (s2 C p e k d v) 2 8 y = s2 C p e k y v := by
  funext c
  by_cases h : c = 2
  · subst h
    rw [up_s]
    funext i
    by_cases hi : i = 8
    · subst hi; rw [upd_s]; rfl
    · rw [upd_o hi]
      simp only [s2, if_true, hi, if_false]
  · rw [up_o h, s2_o h, s2_o h]
theorem s2_w9 {p e k d v y : Int32} : up (s2 C p e k d v) 2 9 y = s2 C p e k d y := by
  funext c
  by_cases h : c = 2
  · subst h
    rw [up_s]
    funext i
    by_cases hi : i = 9
    · subst hi; rw [upd_s]; rfl
    · rw [upd_o hi]
      simp only [s2, if_true, hi, if_false]
  · rw [up_o h, s2_o h, s2_o h]
theorem m7_w18 {a t x b s y : Int32} : up (m7 M a t x b s) 71 18 y = m7 M y t x b s := by
  funext c
  by_cases h : c = 71
  · subst h
    rw [up_s]
    funext i
    by_cases hi : i = 18
    · subst hi; rw [upd_s]; rfl
    · rw [upd_o hi]
      simp only [m7, if_true, hi, if_false]
  · rw [up_o h, m7_o h, m7_o h]
theorem m7_w20 {a t x b s y : Int32} : up (m7 M a t x b s) 71 20 y = m7 M a y x b s := by
  funext c
  by_cases h : c = 71
  · subst h
    rw [up_s]
    funext i
    by_cases hi : i = 20
    · subst hi; rw [upd_s]; rfl
    · rw [upd_o hi]
      simp only [m7, if_true, hi, if_false]
  · rw [up_o h, m7_o h, m7_o h]
theorem m7_w21 {a t x b s y : Int32} : up (m7 M a t x b s) 71 21 y = m7 M a t y b s := by
  funext c
  by_cases h : c = 71
  · subst h
    rw [up_s]
    funext i
    by_cases hi : i = 21
    · subst hi; rw [upd_s]; rfl
    · rw [upd_o hi]
      simp only [m7, if_true, hi, if_false]
  · rw [up_o h, m7_o h, m7_o h]
theorem m7_w22 {a t x b s y : Int32} : up (m7 M a t x b s) 71 22 y = m7 M a t x y s := by
  funext c
  by_cases h : c = 71
  · subst h
    rw [up_s]
    funext i
    by_cases hi : i = 22
    · subst hi; rw [upd_s]; rfl
    · rw [upd_o hi]
      simp only [m7, if_true, hi, if_false]
  · rw [up_o h, m7_o h, m7_o h]
theorem m7_w23 {a t x b s y : Int32} : up (m7 M a t x b s) 71 23 y = m7 M a t x b y := by
  funext c
  by_cases h : c = 71
  · subst h
    rw [up_s]
    funext i
    by_cases hi : i = 23
    · subst hi; rw [upd_s]; rfl
    · rw [upd_o hi]
      simp only [m7, if_true, hi, if_false]
  · rw [up_o h, m7_o h, m7_o h]
theorem m7_24 {a t x b s y : Int32} : m7 M a t x b s 71 24 = M 71 24 := rfl
theorem byteAt_m (hT : TXT n tx C M) {i : Nat} {a t x b s : Int32} (hi : i ≤ n) : ∀ (Cz : ST) (k1 k2 k3 : Nat) (O : Nat → Int64), f_X7_byteAt N (HP Cz (m7 M a t x b s) (k1, k2, k3, vl) O) 71 (nI i) = some (if i < n then nI (tx i) else -1, (HP Cz (m7 M a t x b s) (k1, k2, k3, vl) O)) := by
  intro Cz k1 k2 k3 O
  obtain ⟨h7, _, e2, ht⟩ := hT
  have e2' : m7 M a t x b s 71 19 = nI n := e2
  by_cases z : i < n
  · have i7 : i < 700 := by omega
    have e3 : m7 M a t x b s 86 i = nI (tx i) := by rw [m7_o (by decide)]; exact (ht i z).2.2
    simp only [f_X7_byteAt, ↓b_rdM, e2', nle z (by omega), ↓reduceIte, ↓b_raM, i7, e3, z]
  · simp only [f_X7_byteAt, ↓b_rdM, e2', yle (show n ≤ i by omega) (by omega), ↓reduceIte, z]
end S73
