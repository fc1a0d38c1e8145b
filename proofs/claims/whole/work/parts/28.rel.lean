-- the relation between class and reference, and what the calls share
def OkT (v : LV) (w : SV) (B : Nat) : Prop := OkS v w ∧ w.2.2.2.2.1 ≤ B ∧ w.2.2.2.2.2 ≤ 99
def RText (T : BV) (s : Int32) (a : Nat → Int32) : Prop := ∃ sz, sz ≤ 150 ∧ T.1 1 = nI sz ∧ s = nI sz ∧ ∀ i, i < sz → T.2.1 0 i = a i
def RStory (v : LV) (Y : BV) (P : Nat → BV) (k : Int32) (a : Nat → Int32) (o B : Nat) : Prop := ∃ kn, kn ≤ 10 ∧ Y.1 2 = nI kn ∧ k = nI kn ∧ ∀ i, i < kn → ∃ u, SC (P i) u ∧ SM a (o + 15 * i) u ∧ OkT v u B
def RTold (v : LV) (X : BV) (k : Int32) (a c : Nat → Int32) : Prop := ∃ tl, tl ≤ 6 ∧ X.1 8 = nI tl ∧ k = nI tl ∧ ∀ i, i < tl → ∃ cr s, cr < v.1 4 ∧ s ≤ 1 ∧ X.2.1 6 i = nI cr ∧ a i = nI cr ∧ X.2.1 7 i = nI s ∧ c i = nI s
def RImg (v : LV) (X : BV) (Z M : Nat → BV) (O : Nat → Nat → BV) (a : Nat → Int32) (B : Nat) : Prop := ∀ i, i < 2 → (X.2.1 4 i = 0 ∧ a (167 * i) = 0) ∨ (X.2.1 4 i = 1 ∧ a (167 * i) = 1 ∧ (∃ u, SC (M i) u ∧ SM a (167 * i + 2) u ∧ OkT v u B) ∧ RStory v (Z i) (O i) (a (167 * i + 1)) a (167 * i + 17) B)
abbrev sX (σ : XS) : BV := σ.1
abbrev sT (σ : XS) : BV := σ.2.2.1
abbrev sL (σ : XS) : BV := σ.2.2.2.2.1
abbrev sY (σ : XS) : BV := σ.2.2.2.2.2.2.1
abbrev sN (σ : XS) : BV := σ.2.2.2.2.2.2.2.1
abbrev sP (σ : XS) : Nat → BV := σ.2.2.2.2.2.2.2.2.1
abbrev sZ (σ : XS) : Nat → BV := σ.2.2.2.2.2.2.2.2.2.1
abbrev sM (σ : XS) : Nat → BV := σ.2.2.2.2.2.2.2.2.2.2.1
abbrev sO (σ : XS) : Nat → Nat → BV := σ.2.2.2.2.2.2.2.2.2.2.2
def Rel0 (v : LV) (w : SV) (X T L Y N : BV) (P Z M : Nat → BV) (O : Nat → Nat → BV) (b : BV) (B : Nat) : Prop := OkL v ∧ LC L v ∧ LM (b.2.1 7) v ∧ SC N w ∧ SM (b.2.1 8) 0 w ∧ OkT v w B ∧ RText T (b.1 1) (b.2.1 0) ∧ RStory v Y P (b.1 10) (b.2.1 9) 0 B ∧ RTold v X (b.1 12) (b.2.1 13) (b.2.1 14) ∧ X.2.2 = b.2.2 ∧ RImg v X Z M O (b.2.1 16) B
def Rel (σ : XS) (b : BV) (n : Nat) : Prop := ∃ v w, Rel0 v w (sX σ) (sT σ) (sL σ) (sY σ) (sN σ) (sP σ) (sZ σ) (sM σ) (sO σ) b (1000 * n)
theorem OkT.mono {v : LV} {w : SV} {B C : Nat} (h : OkT v w B) (hB : B ≤ C) : OkT v w C := ⟨h.1, Nat.le_trans h.2.1 hB, h.2.2⟩
theorem RStory.mono {v : LV} {Y : BV} {P : Nat → BV} {k : Int32} {a : Nat → Int32} {o B C : Nat} (h : RStory v Y P k a o B) (hB : B ≤ C) : RStory v Y P k a o C := by
  obtain ⟨kn, h1, h2, h3, h4⟩ := h
  refine ⟨kn, h1, h2, h3, fun i hi => ?_⟩
  obtain ⟨u, g1, g2, g3⟩ := h4 i hi
  exact ⟨u, g1, g2, g3.mono hB⟩
theorem RImg.mono {v : LV} {X : BV} {Z M : Nat → BV} {O : Nat → Nat → BV} {a : Nat → Int32} {B C : Nat} (h : RImg v X Z M O a B) (hB : B ≤ C) : RImg v X Z M O a C := by
  intro i hi
  rcases h i hi with h | ⟨h1, h2, ⟨u, g1, g2, g3⟩, h3⟩
  · exact Or.inl h
  · exact Or.inr ⟨h1, h2, ⟨u, g1, g2, g3.mono hB⟩, h3.mono hB⟩
theorem Rel0.mono {v : LV} {w : SV} {X T L Y N : BV} {P Z M : Nat → BV} {O : Nat → Nat → BV} {b : BV} {B C : Nat} (h : Rel0 v w X T L Y N P Z M O b B) (hB : B ≤ C) : Rel0 v w X T L Y N P Z M O b C := by
  obtain ⟨h1, h2, h3, h4, h5, h6, h7, h8, h9, h10, h11⟩ := h
  exact ⟨h1, h2, h3, h4, h5, h6.mono hB, h7, h8.mono hB, h9, h10, h11.mono hB⟩
theorem Rel.mono {σ : XS} {b : BV} {n : Nat} (h : Rel σ b n) : Rel σ b (n + 1) := by
  obtain ⟨v, w, h⟩ := h
  exact ⟨v, w, h.mono (by omega)⟩
theorem isbS {α : Type} {z : Int32} (h : z = 0 ∨ z = 1) (k : Option α) : ck (isb z) k = k := by
  rcases h with rfl | rfl
  · exact isb0 k
  · exact isb1 k
theorem rng (x : Int32) {N : Nat} (hN : N < 1000000) : (∃ d, d < N ∧ x = nI d ∧ ((0 : Int32) ≤ x ∧ x ≤ nI N - 1)) ∨ ¬ ((0 : Int32) ≤ x ∧ x ≤ nI N - 1) := by
  by_cases h : (0 : Int32) ≤ x ∧ x ≤ nI N - 1
  · left
    obtain ⟨j, hj, rfl⟩ := nI_of (x := x) (by intro h2; exact (fa_of_lt h2).2.1 h.1)
    refine ⟨j, ?_, rfl, h⟩
    have h2 := (fa_le _ _).mp h.2
    rw [nI_toInt (by omega), show (1 : Int32) = nI 1 from rfl, pk_sub_toInt (by omega) (by omega)] at h2
    omega
  · right; exact h
theorem rng2 (x : Int32) {a N : Nat} (ha : a < 1000000) (hN : N < 1000000) : (∃ d, a ≤ d ∧ d ≤ N ∧ x = nI d ∧ (nI a ≤ x ∧ x ≤ nI N)) ∨ ¬ (nI a ≤ x ∧ x ≤ nI N) := by
  by_cases h : nI a ≤ x ∧ x ≤ nI N
  · left
    obtain ⟨j, hj, rfl⟩ := nI_of (x := x) (by
      intro h2
      have h3 := (fa_le _ _).mp h.1
      have h4 := (fa_lt _ _).mp h2
      rw [nI_toInt (by omega)] at h3
      have : (0 : Int32).toInt = 0 := by decide
      omega)
    refine ⟨j, ?_, ?_, rfl, h⟩
    · exact (nI_leI (by omega) (by omega)).mp h.1
    · exact (nI_leI (by omega) (by omega)).mp h.2
  · right; exact h
/-- a number within a .. N on both sides, or refused on both -/
theorem wi (x : Int32) (a N : Nat) (ha : a < 1000000) (hN : N < 1000000) : (∃ d, a ≤ d ∧ d ≤ N ∧ x = nI d ∧ f_5_isWithin x (nI a) (nI N) = some 1 ∧ f_6_in x.toInt64 (lN a) (lN N) = some 1) ∨ ((∀ d, a ≤ d → d ≤ N → ¬ x = nI d) ∧ f_5_isWithin x (nI a) (nI N) = some 0 ∧ f_6_in x.toInt64 (lN a) (lN N) = some 0) := by
  rw [within_eq, l64 a (by omega), l64 N (by omega), in_eq]
  rcases rng2 x ha hN with ⟨d, h1, h2, h3, h4⟩ | h
  · left; exact ⟨d, h1, h2, h3, by rw [if_pos h4], by rw [if_pos h4]⟩
  · right
    refine ⟨fun d h1 h2 h3 => h ?_, by rw [if_neg h], by rw [if_neg h]⟩
    rw [h3]
    exact ⟨nI_le h1 (by omega), nI_le h2 (by omega)⟩
theorem isDay2 {L b : BV} {v : LV} (hL : LC L v) (hM : LM (b.2.1 7) v) (ok : OkL v) (x : Int32) : (∃ d, d < v.1 1 ∧ x = nI d ∧ f_5_isDay L x = some 1 ∧ f_6_isDay b x = some 1) ∨ (f_5_isDay L x = some 0 ∧ f_6_isDay b x = some 0) := by
  have h30 := ok.days
  unfold f_5_isDay f_6_isDay
  rw [hL.days, daysM hM, Option.bind_some, within_eq, show (0 : Int64) = (0 : Int32).toInt64 from by decide, in_eq]
  simp only [Option.bind_some, isbI]
  rcases rng x (N := v.1 1) (by omega) with ⟨d, h1, h2, h3⟩ | h
  · left; exact ⟨d, h1, h2, by rw [if_pos h3], by rw [if_pos h3]⟩
  · right; exact ⟨by rw [if_neg h], by rw [if_neg h]⟩
theorem isCrop2 {L b : BV} {v : LV} (hL : LC L v) (hM : LM (b.2.1 7) v) (ok : OkL v) (x : Int32) : (∃ d, d < v.1 4 ∧ x = nI d ∧ f_5_isCrop L x = some 1 ∧ f_6_isCrop b x = some 1) ∨ (f_5_isCrop L x = some 0 ∧ f_6_isCrop b x = some 0) := by
  have h30 := ok.crops
  unfold f_5_isCrop f_6_isCrop
  rw [hL.crops, ck_inbL (by decide), hM.crops, within_eq, show (0 : Int64) = (0 : Int32).toInt64 from by decide, in_eq]
  simp only [Option.bind_some, isbI]
  rcases rng x (N := v.1 4) (by omega) with ⟨d, h1, h2, h3⟩ | h
  · left; exact ⟨d, h1, h2, by rw [if_pos h3], by rw [if_pos h3]⟩
  · right; exact ⟨by rw [if_neg h], by rw [if_neg h]⟩
theorem isLoan2 (x : Int32) : (∃ d, d < 4 ∧ x = nI d ∧ f_5_isLoan x = some 1 ∧ f_6_isLoan x = some 1) ∨ (f_5_isLoan x = some 0 ∧ f_6_isLoan x = some 0) := by
  unfold f_5_isLoan f_6_isLoan
  rcases wi x 0 3 (by decide) (by decide) with ⟨d, h1, h2, h3, h4, h5⟩ | ⟨-, h4, h5⟩
  · left
    refine ⟨d, by omega, h3, ?_, ?_⟩
    · rw [show (0 : Int32) = nI 0 from rfl, show (3 : Int32) = nI 3 from rfl, h4]; rfl
    · rw [show (0 : Int64) = lN 0 from rfl, show (3 : Int64) = lN 3 from rfl, h5]; rfl
  · right
    constructor
    · rw [show (0 : Int32) = nI 0 from rfl, show (3 : Int32) = nI 3 from rfl, h4]; rfl
    · rw [show (0 : Int64) = lN 0 from rfl, show (3 : Int64) = lN 3 from rfl, h5]; rfl
theorem if1 {α : Type} (a b : α) : (if (1 : Int32) = 0 then a else b) = b := if_neg (by decide)
theorem if0 {α : Type} (a b : α) : (if (0 : Int32) = 0 then a else b) = a := if_pos (by decide)
