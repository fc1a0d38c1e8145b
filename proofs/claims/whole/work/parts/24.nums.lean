-- bits and numbers: rows of the kit's texts for pasting (BITS, NUMBERS), and some of my own
def bt (x : Int32) (i : Nat) : Bool := x.toBitVec.getLsbD i
theorem b_ext {x y : Int32} (h : ∀ i, i < 32 → bt x i = bt y i) : x = y := Int32.toBitVec_inj.mp (BitVec.eq_of_getLsbD_eq (fun i hi => h i hi))
theorem b_or (x y : Int32) (i : Nat) : bt (x ||| y) i = (bt x i || bt y i) := by unfold bt; rw [Int32.toBitVec_or, BitVec.getLsbD_or]
theorem b_and (x y : Int32) (i : Nat) : bt (x &&& y) i = (bt x i && bt y i) := by unfold bt; rw [Int32.toBitVec_and, BitVec.getLsbD_and]
theorem b_xor (x y : Int32) (i : Nat) : bt (x ^^^ y) i = (bt x i ^^ bt y i) := by unfold bt; rw [Int32.toBitVec_xor, BitVec.getLsbD_xor]
theorem b_big {x : Int32} {i : Nat} (h : 32 ≤ i) : bt x i = false := BitVec.getLsbD_of_ge _ _ h
theorem b_m1 : ∀ i, i < 32 → bt (-1) i = true := by decide +kernel
theorem b_0 (i : Nat) : bt 0 i = false := BitVec.getLsbD_zero
theorem s_l : ∀ n, n < 32 → ((nI n &&& 31).toBitVec.smod 32).toNat = n := by decide +kernel
theorem s_u : ∀ n, n < 32 → (((nI n).toUInt32 &&& Int32.toUInt32 31).toBitVec % 32).toNat = n := by decide +kernel
theorem b_shl (n : Nat) (hn : n < 32) (x : Int32) {i : Nat} (hi : i < 32) : bt (x <<< (nI n &&& 31)) i = (decide (n ≤ i) && bt x (i - n)) := by
  unfold bt
  rw [Int32.toBitVec_shiftLeft]
  show (x.toBitVec <<< ((nI n &&& 31).toBitVec.smod 32).toNat).getLsbD i = _
  rw [s_l n hn, BitVec.getLsbD_shiftLeft]
  rcases Nat.lt_or_ge i n with h | h
  · simp [h, Nat.not_le.mpr h]
  · simp [hi, h, Nat.not_lt.mpr h]
theorem b_ushr (n : Nat) (hn : n < 32) (x : Int32) (i : Nat) : bt ((x.toUInt32 >>> ((nI n).toUInt32 &&& Int32.toUInt32 31)).toInt32) i = bt x (n + i) := by
  show (x.toUInt32 >>> ((nI n).toUInt32 &&& Int32.toUInt32 31)).toBitVec.getLsbD i = x.toUInt32.toBitVec.getLsbD (n + i)
  rw [UInt32.toBitVec_shiftRight]
  show (x.toUInt32.toBitVec >>> (((nI n).toUInt32 &&& Int32.toUInt32 31).toBitVec % 32).toNat).getLsbD i = _
  rw [s_u n hn, BitVec.getLsbD_ushiftRight]
theorem b_sshr (n : Nat) (hn : n < 32) (x : Int32) {i : Nat} (hi : i < 32) : bt (x >>> (nI n &&& 31)) i = if n + i < 32 then bt x (n + i) else bt x 31 := by
  unfold bt
  rw [Int32.toBitVec_shiftRight]
  show (x.toBitVec.sshiftRight ((nI n &&& 31).toBitVec.smod 32).toNat).getLsbD i = _
  rw [s_l n hn, BitVec.getLsbD_sshiftRight, BitVec.msb_eq_getLsbD_last]
  simp [hi]
theorem fa_lt (a b : Int32) : a < b ↔ a.toInt < b.toInt := Int32.lt_iff_toInt_lt
theorem fa_le (a b : Int32) : a ≤ b ↔ a.toInt ≤ b.toInt := Int32.le_iff_toInt_le
theorem fa_eq (a b : Int32) : a = b ↔ a.toInt = b.toInt := Int32.toInt_inj.symm
theorem fa_lt64 (a b : Int64) : a < b ↔ a.toInt < b.toInt := Int64.lt_iff_toInt_lt
theorem fa_le64 (a b : Int64) : a ≤ b ↔ a.toInt ≤ b.toInt := Int64.le_iff_toInt_le
theorem fa_eq64 (a b : Int64) : a = b ↔ a.toInt = b.toInt := Int64.toInt_inj.symm
/-- a comparison of two ints taken as longs -/
theorem fa_wide_lt (a b : Int32) : a.toInt64 < b.toInt64 ↔ a < b := by rw [fa_lt64, fa_lt, Int32.toInt_toInt64, Int32.toInt_toInt64]
theorem fa_wide_le (a b : Int32) : a.toInt64 ≤ b.toInt64 ↔ a ≤ b := by rw [fa_le64, fa_le, Int32.toInt_toInt64, Int32.toInt_toInt64]
theorem fa_wide_eq (a b : Int32) : a.toInt64 = b.toInt64 ↔ a = b := by rw [fa_eq64, fa_eq, Int32.toInt_toInt64, Int32.toInt_toInt64]
/-- one strict comparison gives all the others -/
theorem fa_of_lt {a b : Int32} (h : a < b) : a ≤ b ∧ ¬ b ≤ a ∧ ¬ b < a ∧ a ≠ b ∧ b ≠ a := by
  rw [fa_lt] at h
  refine ⟨?_, ?_, ?_, ?_, ?_⟩
  · rw [fa_le]; omega
  · rw [fa_le]; omega
  · rw [fa_lt]; omega
  · intro e; rw [fa_eq] at e; omega
  · intro e; rw [fa_eq] at e; omega
theorem fa_of_nlt {a b : Int32} (h : ¬ a < b) : b ≤ a := by
  rw [fa_lt] at h
  rw [fa_le]
  omega
theorem fa_of_nle {a b : Int32} (h : ¬ a ≤ b) : b < a := by
  rw [fa_le] at h
  rw [fa_lt]
  omega
theorem fa_le_ne {a b : Int32} (h : a ≤ b) (h2 : a ≠ b) : a < b := by
  rw [fa_le] at h
  rw [fa_lt]
  have h3 : a.toInt ≠ b.toInt := fun e => h2 ((fa_eq a b).mpr e)
  omega
theorem fa_three (a b : Int32) : a < b ∨ a = b ∨ b < a := by
  rw [fa_lt, fa_lt, fa_eq]
  omega
theorem fa_trans {a b c : Int32} (h : a < b) (h2 : b ≤ c) : a < c := by
  rw [fa_lt] at *
  rw [fa_le] at h2
  omega
/-! ===== small literals as numbers ===== -/
theorem fa_lit (n : Nat) : (OfNat.ofNat n : Int32) = nI n := rfl
theorem fa_litL (n : Nat) : (OfNat.ofNat n : Int64) = lN n := rfl
theorem gI_eq (S : BV) (k : Nat) : gI S k = S.1 k := rfl
theorem gA_nI (S : BV) (k : Nat) {j : Nat} (h : j < 2147483648) : gA S k (nI j) = S.2.1 k j := by
  unfold gA
  rw [nI_clamp (by omega)]
theorem inb_nI {j N : Nat} (h : j < N) (hN : N < 2147483648) : inb (nI j) N = true := by
  unfold inb
  exact decide_eq_true (nI_in h (by omega))
theorem ck_inb {α : Type} {j N : Nat} (h : j < N) (hN : N < 2147483648) (k : Option α) : ck (inb (nI j) N) k = k := by rw [inb_nI h hN]; rfl
theorem ck_inbL {α : Type} {i : Int32} {N : Nat} (h : inb i N = true) (k : Option α) : ck (inb i N) k = k := by rw [h]; rfl
theorem isb0 {α : Type} (k : Option α) : ck (isb 0) k = k := by rw [show isb 0 = true by decide]; rfl
theorem isb1 {α : Type} (k : Option α) : ck (isb 1) k = k := by rw [show isb 1 = true by decide]; rfl
theorem isbI {α : Type} (c : Prop) [Decidable c] (k : Option α) : ck (isb (if c then 1 else 0)) k = k := by
  by_cases h : c
  · rw [if_pos h]; exact isb1 k
  · rw [if_neg h]; exact isb0 k
theorem ite10 (c : Prop) [Decidable c] : ((if c then (1 : Int32) else 0) = 0) ↔ ¬ c := by
  by_cases h : c
  · simp [h]
  · simp [h]
theorem bit_test (x : Int32) {d : Nat} (h : d < 32) : ((x >>> (nI d &&& 31)) &&& 1 = 0) ↔ bt x d = false := by
  constructor
  · intro e
    have h1 := congrArg (fun z => bt z 0) e
    simp only [b_and, b_0] at h1
    rw [b_sshr d h x (by omega), if_pos (by omega)] at h1
    have h2 : bt 1 0 = true := by decide
    rw [h2, Bool.and_true] at h1
    exact h1
  · intro e
    refine b_ext (fun i hi => ?_)
    rw [b_and, b_0]
    by_cases hi0 : i = 0
    · subst hi0
      rw [b_sshr d h x (by omega), if_pos (by omega), Nat.add_zero, e]
      rfl
    · have : ∀ i, i < 32 → i ≠ 0 → bt 1 i = false := by decide +kernel
      rw [this i hi hi0, Bool.and_false]
theorem bit_test1 (x : Int32) {d : Nat} (h : d < 32) : ((x >>> (nI d &&& 31)) &&& 1 = 1) ↔ bt x d = true := by
  have h0 := bit_test x h
  constructor
  · intro e
    cases hb : bt x d
    · rw [h0.mpr hb] at e
      exact absurd e (by decide)
    · rfl
  · intro e
    refine b_ext (fun i hi => ?_)
    rw [b_and]
    by_cases hi0 : i = 0
    · subst hi0
      rw [b_sshr d h x (by omega), if_pos (by omega), Nat.add_zero, e]
      rfl
    · have : ∀ i, i < 32 → i ≠ 0 → bt 1 i = false := by decide +kernel
      rw [this i hi hi0, Bool.and_false]
theorem has_eq (x : Int32) {d : Nat} (h : d < 32) : f_5_has x (nI d) = some (if bt x d = true then 1 else 0) := by
  unfold f_5_has f_5_has_13
  by_cases hb : bt x d = true
  · rw [if_neg (by rw [bit_test x h, hb]; decide), if_pos hb, isb1]
  · rw [if_pos (by rw [bit_test x h]; simpa using hb), if_neg hb, isb0]
theorem within_eq (x a b : Int32) : f_5_isWithin x a b = some (if a ≤ x ∧ x ≤ b then 1 else 0) := by
  unfold f_5_isWithin f_5_isWithin_14 f_5_isWithin_15
  rw [isb0, isb1]
  by_cases h1 : x < a
  · rw [if_pos h1, if_neg (fun h => (fa_of_lt h1).2.1 h.1)]
  · rw [if_neg h1]
    by_cases h2 : b < x
    · rw [if_pos h2, if_neg (fun h => (fa_of_lt h2).2.1 h.2)]
    · rw [if_neg h2, if_pos ⟨fa_of_nlt h1, fa_of_nlt h2⟩]
theorem in64_eq (x a b : Int64) : f_6_in x a b = some (if a ≤ x ∧ x ≤ b then 1 else 0) := by
  unfold f_6_in f_6_in_17 f_6_in_18
  rw [isb0, isb1]
  have h1 : (lg_cmp x a < 0) ↔ ¬ a ≤ x := by
    unfold lg_cmp
    rw [fa_le64]
    by_cases g1 : x > a
    · rw [if_pos g1]
      have g1 := (fa_lt64 _ _).mp g1
      constructor
      · intro h; exact absurd h (by decide)
      · intro h; omega
    · rw [if_neg g1]
      have g1' : ¬ a.toInt < x.toInt := fun h => g1 ((fa_lt64 _ _).mpr h)
      by_cases g2 : x = a
      · rw [if_pos g2, g2]
        constructor
        · intro h; exact absurd h (by decide)
        · intro h; omega
      · rw [if_neg g2]
        have g2' : x.toInt ≠ a.toInt := fun h => g2 ((fa_eq64 _ _).mpr h)
        constructor
        · intro _; omega
        · intro _; decide
  have h2 : (0 < lg_cmp x b) ↔ ¬ x ≤ b := by
    unfold lg_cmp
    rw [fa_le64]
    by_cases g1 : x > b
    · rw [if_pos g1]
      have g1 := (fa_lt64 _ _).mp g1
      constructor
      · intro _; omega
      · intro _; decide
    · rw [if_neg g1]
      have g1' : ¬ b.toInt < x.toInt := fun h => g1 ((fa_lt64 _ _).mpr h)
      by_cases g2 : x = b
      · rw [if_pos g2, g2]
        constructor
        · intro h; exact absurd h (by decide)
        · intro h; omega
      · rw [if_neg g2]
        constructor
        · intro h; exact absurd h (by decide)
        · intro h; omega
  by_cases g1 : a ≤ x
  · rw [if_neg (by rw [h1]; exact fun h => h g1)]
    by_cases g2 : x ≤ b
    · rw [if_neg (by rw [h2]; exact fun h => h g2), if_pos ⟨g1, g2⟩]
    · rw [if_pos (h2.mpr g2), if_neg (fun h => g2 h.2)]
  · rw [if_pos (h1.mpr g1), if_neg (fun h => g1 h.1)]
theorem in_eq (x a b : Int32) : f_6_in x.toInt64 a.toInt64 b.toInt64 = some (if a ≤ x ∧ x ≤ b then 1 else 0) := by
  rw [in64_eq]
  simp only [fa_wide_le]
theorem l64 (n : Nat) (h : n < 2147483648) : lN n = (nI n).toInt64 := (nI_l (by omega)).symm
