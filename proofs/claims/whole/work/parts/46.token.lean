-- tokens: the class's Text beside the reference's reads
def FrT (T T' : BV) : Prop := T'.1 1 = T.1 1 ∧ T'.2 = T.2
def FrR (b b' : BV) : Prop := b'.2 = b.2 ∧ ∀ j, (j < 2 ∨ 5 < j) → b'.1 j = b.1 j
theorem FrT.rf (T : BV) : FrT T T := ⟨rfl, rfl⟩
theorem FrR.rf (b : BV) : FrR b b := ⟨rfl, fun _ _ => rfl⟩
theorem FrT.trans {T T' T'' : BV} (h : FrT T T') (h2 : FrT T' T'') : FrT T T'' := ⟨h2.1.trans h.1, h2.2.trans h.2⟩
theorem FrR.trans {T T' T'' : BV} (h : FrR T T') (h2 : FrR T' T'') : FrR T T'' := ⟨h2.1.trans h.1, fun j hj => (h2.2 j hj).trans (h.2 j hj)⟩
theorem FrT.pI (T : BV) {k : Nat} (h : 1 ≠ k) (x : Int32) : FrT T (pI T k x) := ⟨pI_n _ _ h, rfl⟩
theorem FrR.pI (b : BV) {k : Nat} (h : 2 ≤ k ∧ k ≤ 5) (x : Int32) : FrR b (pI b k x) := ⟨rfl, fun j hj => pI_n _ _ (by omega)⟩
def Jt (sz : Nat) (a : Nat → Int32) (T b : BV) : Prop := sz ≤ 150 ∧ T.1 1 = nI sz ∧ b.1 1 = nI sz ∧ ∀ i, i < sz → T.2.1 0 i = a i ∧ b.2.1 0 i = a i
theorem Jt.fr {sz : Nat} {a : Nat → Int32} {T b T' b' : BV} (h : Jt sz a T b) (hT : FrT T T') (hb : FrR b b') : Jt sz a T' b' := by
  obtain ⟨h1, h2, h3, h4⟩ := h
  exact ⟨h1, hT.1.trans h2, (hb.2 1 (by omega)).trans h3, by rw [hT.2, hb.1]; exact h4⟩
def isL (x : Int32) : Prop := x = 99 ∨ x = 105 ∨ x = 108 ∨ x = 112 ∨ x = 115
def Kd (T b : BV) : Prop := (T.1 3 = 0 ∧ b.1 4 = 0) ∨ (T.1 3 = 1 ∧ b.1 4 = 1 ∧ T.1 4 = b.1 5 ∧ isL (b.1 5)) ∨ (T.1 3 = 2 ∧ b.1 4 = 2 ∧ ∃ x, x ≤ 99 ∧ T.1 4 = nI x ∧ b.1 5 = nI x) ∨ (T.1 3 = 3 ∧ b.1 4 = 3) ∨ (b.1 4 = 4 ∧ (T.1 3 = 4 ∨ (T.1 3 = 1 ∧ ¬ isL (T.1 4))))
def Jk (sz beg p : Nat) (T b : BV) : Prop := beg ≤ p ∧ p ≤ sz ∧ T.1 2 = nI beg ∧ b.1 3 = nI beg ∧ T.1 5 = nI p ∧ b.1 2 = nI p ∧ Kd T b ∧ (¬ T.1 3 = 0 → beg < p)
theorem let2 (c : Int32) : ∃ z, (z = 0 ∨ z = 1) ∧ f_4_isLetter c = some z ∧ f_6_isLetter c = some z := by
  refine ⟨if (97 : Int32) ≤ c ∧ c ≤ 122 then 1 else 0, by split <;> simp, ?_, ?_⟩
  · unfold f_4_isLetter f_4_isLetter_16 f_4_isLetter_17
    rw [isb0, isb1]
    simp only [fa_lt, fa_le]
    by_cases h1 : c.toInt < (97 : Int32).toInt
    · rw [if_pos h1, if_neg (by omega)]
    · rw [if_neg h1]
      by_cases h2 : (122 : Int32).toInt < c.toInt
      · rw [if_pos h2, if_neg (by omega)]
      · rw [if_neg h2, if_pos (by omega)]
  · unfold f_6_isLetter
    rw [show (97 : Int64) = (97 : Int32).toInt64 by decide, show (122 : Int64) = (122 : Int32).toInt64 by decide, in_eq, Option.bind_some, isbI]
theorem dig2 (c : Int32) : ∃ z, (z = 0 ∨ (z = 1 ∧ ∃ g, g ≤ 9 ∧ c = nI (48 + g))) ∧ f_4_isDigit c = some z ∧ f_6_isFigure c = some z := by
  refine ⟨if (48 : Int32) ≤ c ∧ c ≤ 57 then 1 else 0, ?_, ?_, ?_⟩
  · rcases rng2 c (a := 48) (N := 57) (by decide) (by decide) with ⟨d, h1, h2, h3, h4⟩ | h
    · rw [if_pos (show (48 : Int32) ≤ c ∧ c ≤ 57 from h4)]
      exact Or.inr ⟨rfl, d - 48, by omega, by rw [h3, show 48 + (d - 48) = d by omega]⟩
    · rw [if_neg (show ¬ ((48 : Int32) ≤ c ∧ c ≤ 57) from h)]
      exact Or.inl rfl
  · unfold f_4_isDigit f_4_isDigit_16 f_4_isDigit_17
    rw [isb0, isb1]
    simp only [fa_lt, fa_le]
    by_cases h1 : c.toInt < (48 : Int32).toInt
    · rw [if_pos h1, if_neg (by omega)]
    · rw [if_neg h1]
      by_cases h2 : (57 : Int32).toInt < c.toInt
      · rw [if_pos h2, if_neg (by omega)]
      · rw [if_neg h2, if_pos (by omega)]
  · unfold f_6_isFigure
    rw [show (48 : Int64) = (48 : Int32).toInt64 by decide, show (57 : Int64) = (57 : Int32).toInt64 by decide, in_eq, Option.bind_some, isbI]
theorem Jt.cC {sz : Nat} {a : Nat → Int32} {T b : BV} (h : Jt sz a T b) {p : Nat} (hp : p < sz) : gA T 0 (nI p) = a p := by
  have := h.1
  rw [gA_nI _ _ (by omega)]; exact (h.2.2.2 p hp).1
theorem Jt.cM {sz : Nat} {a : Nat → Int32} {T b : BV} (h : Jt sz a T b) {p : Nat} (hp : p < sz) : gA b 0 (nI p) = a p := by
  have := h.1
  rw [gA_nI _ _ (by omega)]; exact (h.2.2.2 p hp).2
/-- the letters of one token -/
theorem lets {sz : Nat} {a : Nat → Int32} {beg : Nat} {c : Int32} : ∀ (k n n' p : Nat) (T b : BV), p + k = sz → k < n → k < n' → Jt sz a T b → T.1 5 = nI p → b.1 2 = nI p → T.1 3 = 1 → T.1 2 = nI beg → b.1 3 = nI beg → beg < p → b.1 5 = c → T.1 4 = (if p = beg + 1 then c else 0) → ∃ T' b' q, f_4_scanLetters_28 n T = some T' ∧ f_6_readLetters_13 n' b = some b' ∧ Jk sz beg q T' b' ∧ FrT T T' ∧ FrR b b' ∧ p ≤ q := by
  have fin : ∀ (p : Nat) (T b : BV), p ≤ sz → Jt sz a T b → T.1 5 = nI p → b.1 2 = nI p → T.1 3 = 1 → T.1 2 = nI beg → b.1 3 = nI beg → beg < p → b.1 5 = c → T.1 4 = (if p = beg + 1 then c else 0) → ∃ b', f_6_readLetters_52 b = some b' ∧ Jk sz beg p T b' ∧ FrR b b' := by
    intro p T b hp hJ h5 h2 h3 hb1 hb2 hlt hc hv
    have hsz := hJ.1
    have hd : gI b 2 - gI b 3 = nI (p - beg) := by rw [gI_eq, gI_eq, h2, hb2, pk_sub (by omega)]
    have mk : ∀ x, (x = 1 → p = beg + 1 ∧ isL c) → (x = 1 ∨ x = 4 ∧ (p = beg + 1 → ¬ isL c)) → Jk sz beg p T (pI b 4 x) ∧ FrR b (pI b 4 x) := by
      intro x hx1 hx2
      refine ⟨⟨by omega, hp, hb1, by rw [pI_n _ _ (by decide)]; exact hb2, h5, by rw [pI_n _ _ (by decide)]; exact h2, ?_, fun _ => hlt⟩, FrR.pI _ (by omega) _⟩
      unfold Kd
      rw [pI_s, pI_n _ _ (show 5 ≠ 4 by decide), hc]
      rcases hx2 with rfl | ⟨rfl, hx2⟩
      · obtain ⟨e1, e2⟩ := hx1 rfl
        rw [if_pos e1] at hv
        exact Or.inr (Or.inl ⟨h3, rfl, hv, e2⟩)
      · refine Or.inr (Or.inr (Or.inr (Or.inr ⟨rfl, Or.inr ⟨h3, ?_⟩⟩)))
        rw [hv]
        by_cases e1 : p = beg + 1
        · rw [if_pos e1]; exact hx2 e1
        · rw [if_neg e1]; unfold isL; decide
    have t1 : isL c → ∃ b', f_6_readLetters_102 b 1 = some b' ∧ Jk sz beg p T b' ∧ FrR b b' := by
      intro hl
      unfold f_6_readLetters_102 f_6_readLetters_125 f_6_readLetters_126
      rw [hd]
      by_cases e1 : p = beg + 1
      · rw [if_pos (show nI (p - beg) = 1 by rw [show p - beg = 1 by omega]; rfl), if1]
        exact ⟨_, rfl, mk 1 (fun _ => ⟨e1, hl⟩) (Or.inl rfl)⟩
      · rw [if_neg (show ¬ nI (p - beg) = 1 by rw [show (1 : Int32) = nI 1 from rfl, nI_eq (by omega) (by decide)]; omega)]
        exact ⟨_, rfl, mk 4 (fun h => absurd h (by decide)) (Or.inr ⟨rfl, fun h => absurd h e1⟩)⟩
    have t0 : ¬ isL c → ∃ b', f_6_readLetters_102 b 0 = some b' ∧ Jk sz beg p T b' ∧ FrR b b' := by
      intro hl
      unfold f_6_readLetters_102 f_6_readLetters_125 f_6_readLetters_126
      rw [if0, ite_self]
      exact ⟨_, rfl, mk 4 (fun h => absurd h (by decide)) (Or.inr ⟨rfl, fun _ => hl⟩)⟩
    unfold f_6_readLetters_52 f_6_readLetters_97
    rw [gI_eq b 5, hc]
    by_cases e1 : c = 115
    · rw [if_pos e1]; exact t1 (Or.inr (Or.inr (Or.inr (Or.inr e1))))
    rw [if_neg e1]
    by_cases e2 : c = 99
    · rw [if_pos e2]; exact t1 (Or.inl e2)
    rw [if_neg e2]
    by_cases e3 : c = 112
    · rw [if_pos e3]; exact t1 (Or.inr (Or.inr (Or.inr (Or.inl e3))))
    rw [if_neg e3]
    by_cases e4 : c = 105
    · rw [if_pos e4]; exact t1 (Or.inr (Or.inl e4))
    rw [if_neg e4]
    by_cases e5 : c = 108
    · rw [if_pos e5]; exact t1 (Or.inr (Or.inr (Or.inl e5)))
    rw [if_neg e5]
    exact t0 (fun h => by rcases h with h | h | h | h | h <;> contradiction)
  intro k
  induction k with
  | zero =>
    intro n n' p T b hp hn hn' hJ h5 h2 h3 hb1 hb2 hlt hc hv
    obtain ⟨n, rfl⟩ : ∃ m, n = m + 1 := ⟨n - 1, by omega⟩
    obtain ⟨n', rfl⟩ : ∃ m, n' = m + 1 := ⟨n' - 1, by omega⟩
    have hsz := hJ.1
    obtain ⟨b', q1, q2, q3⟩ := fin p T b (by omega) hJ h5 h2 h3 hb1 hb2 hlt hc hv
    refine ⟨T, b', p, ?_, ?_, q2, FrT.rf _, q3, Nat.le_refl _⟩
    · show f_4_scanLetters_28_b (f_4_scanLetters_28 n) _ = _
      unfold f_4_scanLetters_28_b f_4_scanLetters_72
      rw [gI_eq, gI_eq, hJ.2.1, h5, if_pos (nI_le (by omega) (by omega))]
    · show f_6_readLetters_13_b (f_6_readLetters_13 n') _ = _
      unfold f_6_readLetters_13_b
      rw [gI_eq, gI_eq, hJ.2.2.1, h2, if_pos (nI_le (by omega) (by omega))]
      exact q1
  | succ k ih =>
    intro n n' p T b hp hn hn' hJ h5 h2 h3 hb1 hb2 hlt hc hv
    obtain ⟨n, rfl⟩ : ∃ m, n = m + 1 := ⟨n - 1, by omega⟩
    obtain ⟨n', rfl⟩ : ∃ m, n' = m + 1 := ⟨n' - 1, by omega⟩
    have hsz := hJ.1
    obtain ⟨z, hz, z1, z2⟩ := let2 (a p)
    show ∃ T' b' q, f_4_scanLetters_28_b (f_4_scanLetters_28 n) T = some T' ∧ f_6_readLetters_13_b (f_6_readLetters_13 n') b = some b' ∧ _
    unfold f_4_scanLetters_28_b f_4_scanLetters_72 f_6_readLetters_13_b
    rw [gI_eq T 1, gI_eq T 5, gI_eq b 1, gI_eq b 2, hJ.2.1, h5, hJ.2.2.1, h2, if_neg (nI_ge (by omega) (by omega)), if_neg (nI_ge (by omega) (by omega)), ck_inb (by omega) (by decide), ck_inb (by omega) (by decide), hJ.cC (by omega), hJ.cM (by omega), z1, z2, Option.bind_some, Option.bind_some, nI_1]
    rcases hz with rfl | rfl
    · rw [if0, if0]
      obtain ⟨b', q1, q2, q3⟩ := fin p T b (by omega) hJ h5 h2 h3 hb1 hb2 hlt hc hv
      exact ⟨T, b', p, rfl, q1, q2, FrT.rf _, q3, Nat.le_refl _⟩
    · rw [if1, if1]
      have fT : FrT T (pI (pI T 4 0) 5 (nI (p + 1))) := (FrT.pI T (by decide) _).trans (FrT.pI _ (by decide) _)
      have fb : FrR b (pI b 2 (nI (p + 1))) := FrR.pI b (by omega) _
      obtain ⟨T', b', q, r1, r2, r3, r4, r5, r6⟩ := ih n n' (p + 1) (pI (pI T 4 0) 5 (nI (p + 1))) (pI b 2 (nI (p + 1))) (by omega) (by omega) (by omega) (hJ.fr fT fb) (pI_s _ _ _) (pI_s _ _ _) (by rw [pI_n _ _ (by decide), pI_n _ _ (by decide)]; exact h3) (by rw [pI_n _ _ (by decide), pI_n _ _ (by decide)]; exact hb1) (by rw [pI_n _ _ (by decide)]; exact hb2) (by omega) (by rw [pI_n _ _ (by decide)]; exact hc) (by rw [pI_n _ _ (by decide), pI_s, if_neg (by omega)])
      exact ⟨T', b', q, r1, r2, r3, fT.trans r4, fb.trans r5, by omega⟩
