-- tokens: the next token on both sides; numbers and ends as the readers take them
theorem next38 {sz : Nat} {a : Nat → Int32} {p : Nat} {T b : BV} (hJ : Jt sz a T b) (h5 : T.1 5 = nI p) (h2 : b.1 2 = nI p) (hp : p ≤ sz) : ∃ T' b' q, f_4_toNextToken_38 T = some T' ∧ f_6_reads_38 b = some b' ∧ Jk sz p q T' b' ∧ FrT T T' ∧ FrR b b' := by
  have hsz := hJ.1
  have fT : FrT T (pI T 2 (nI p)) := FrT.pI T (by decide) _
  have fb : FrR b (pI b 3 (nI p)) := FrR.pI b (by omega) _
  unfold f_4_toNextToken_38 f_4_toNextToken_142 f_6_reads_38 f_6_reads_142
  simp only [gI_eq T 1, gI_eq T 5, gI_eq b 1, gI_eq b 2, hJ.2.1, h5, hJ.2.2.1, h2]
  by_cases he : p = sz
  · rw [if_neg (nI_nlt (by omega) (by omega)), if_pos (by rw [he])]
    refine ⟨_, _, p, rfl, rfl, ⟨Nat.le_refl _, hp, ?_, ?_, ?_, ?_, Or.inl ⟨pI_s _ _ _, pI_s _ _ _⟩, fun h => absurd (pI_s _ _ _) h⟩, fT.trans (FrT.pI _ (by decide) _), fb.trans (FrR.pI _ (by omega) _)⟩
    · rw [pI_n _ _ (by decide), pI_s]
    · rw [pI_n _ _ (by decide), pI_s]
    · rw [pI_n _ _ (by decide), pI_n _ _ (by decide)]; exact h5
    · rw [pI_n _ _ (by decide), pI_n _ _ (by decide)]; exact h2
  · have hlt : p < sz := by omega
    have i1 : ∀ {α : Type} (k : Option α), ck (inb (nI p) 150) k = k := fun k => ck_inb (by omega) (by decide) k
    obtain ⟨z, hz, z1, z2⟩ := let2 (a p)
    obtain ⟨y, hy, y1, y2⟩ := dig2 (a p)
    rw [if_pos (nI_lt hlt (by omega)), if_neg (show ¬ nI p = nI sz by rw [nI_eq (by omega) (by omega)]; exact he)]
    simp only [i1, hJ.cC hlt, hJ.cM hlt, z1, z2, y1, y2, Option.bind_some]
    rcases hz with rfl | rfl
    · rw [if0, if0]
      rcases hy with rfl | ⟨rfl, g, hg, hag⟩
      · rw [if0, if0]
        have mk : ∀ x, (x = 3 ∨ x = 4) → ∃ T' b' q, f_4_toNextToken_129 (pI T 2 (nI p)) x = some T' ∧ f_6_reads_129 (pI b 3 (nI p)) x = some b' ∧ Jk sz p q T' b' ∧ FrT T T' ∧ FrR b b' := by
          intro x hx
          unfold f_4_toNextToken_129 f_4_toNextToken_142 f_6_reads_129 f_6_reads_142
          rw [gI_eq, gI_eq, pI_n _ _ (show 5 ≠ 2 by decide), pI_n _ _ (show 2 ≠ 3 by decide), h5, h2, nI_1]
          refine ⟨_, _, p + 1, rfl, rfl, ⟨by omega, by omega, ?_, ?_, pI_s _ _ _, ?_, ?_, fun _ => by omega⟩, fT.trans ((FrT.pI _ (by decide) _).trans (FrT.pI _ (by decide) _)), fb.trans ((FrR.pI _ (by omega) _).trans (FrR.pI _ (by omega) _))⟩
          · rw [pI_n _ _ (by decide), pI_n _ _ (by decide), pI_s]
          · rw [pI_n _ _ (by decide), pI_n _ _ (by decide), pI_s]
          · rw [pI_n _ _ (by decide), pI_s]
          · unfold Kd
            rw [pI_n (k := 5) (j := 3) _ _ (by decide), pI_s, pI_s]
            rcases hx with rfl | rfl
            · exact Or.inr (Or.inr (Or.inr (Or.inl ⟨rfl, rfl⟩)))
            · exact Or.inr (Or.inr (Or.inr (Or.inr ⟨rfl, Or.inl rfl⟩)))
        by_cases h59 : a p = 59
        · rw [if_pos h59, if_pos h59]; exact mk 3 (Or.inl rfl)
        · rw [if_neg h59, if_neg h59]; exact mk 4 (Or.inr rfl)
      · rw [if1, if1]
        have hJ2 := hJ.fr (fT.trans (FrT.pI _ (k := 4) (by decide) 0)) fb
        obtain ⟨T', b', q, r1, r2, r3, r4, r5, r6⟩ := nums (beg := p) (sz - p) 200 200 p 0 (pI (pI T 2 (nI p)) 4 0) (pI b 3 (nI p)) 0 (by omega) (by omega) (by omega) hJ2 (by rw [pI_n _ _ (by decide), pI_n _ _ (by decide)]; exact h5) (by rw [pI_n _ _ (by decide)]; exact h2) (by rw [pI_n _ _ (by decide), pI_s]) (pI_s _ _ _) (Nat.le_refl _) (fun _ => ⟨hlt, g, hg, hag⟩) (by omega) (by rw [pI_s]; rfl) (Or.inr ⟨rfl, Or.inl ⟨rfl, rfl⟩⟩)
        have r1 : f_4_scanNumber (pI T 2 (nI p)) = some T' := r1
        have r2 : f_6_readNumber (pI b 3 (nI p)) = some b' := r2
        rw [r1, r2]
        exact ⟨T', b', q, rfl, rfl, r3, (fT.trans (FrT.pI _ (by decide) _)).trans r4, fb.trans r5⟩
    · rw [if1, if1]
      have fT3 : FrT T (pI (pI (pI (pI T 2 (nI p)) 3 1) 4 (a p)) 5 (nI (p + 1))) := fT.trans ((FrT.pI _ (by decide) _).trans ((FrT.pI _ (by decide) _).trans (FrT.pI _ (by decide) _)))
      have fb3 : FrR b (pI (pI (pI b 3 (nI p)) 5 (a p)) 2 (nI (p + 1))) := fb.trans ((FrR.pI _ (by omega) _).trans (FrR.pI _ (by omega) _))
      obtain ⟨T', b', q, r1, r2, r3, r4, r5, r6⟩ := lets (beg := p) (c := a p) (sz - (p + 1)) 200 199 (p + 1) (pI (pI (pI (pI T 2 (nI p)) 3 1) 4 (a p)) 5 (nI (p + 1))) (pI (pI (pI b 3 (nI p)) 5 (a p)) 2 (nI (p + 1))) (by omega) (by omega) (by omega) (hJ.fr fT3 fb3) (pI_s _ _ _) (pI_s _ _ _) (by rw [pI_n _ _ (by decide), pI_n _ _ (by decide), pI_s]) (by rw [pI_n _ _ (by decide), pI_n _ _ (by decide), pI_n _ _ (by decide), pI_s]) (by rw [pI_n _ _ (by decide), pI_n _ _ (by decide), pI_s]) (by omega) (by rw [pI_n _ _ (by decide), pI_s]) (by rw [pI_n _ _ (by decide), pI_s, if_pos rfl])
      have q1 : f_4_scanLetters (pI T 2 (nI p)) = some T' := by
        unfold f_4_scanLetters
        rw [gI_eq, pI_n _ _ (show 5 ≠ 2 by decide), h5, i1, nI_1]
        have e : gA (pI T 2 (nI p)) 0 (nI p) = a p := hJ.cC hlt
        have e5 : gI (pI (pI (pI T 2 (nI p)) 3 1) 4 (gA (pI T 2 (nI p)) 0 (nI p))) 5 = nI p := by
          rw [gI_eq, pI_n _ _ (by decide), pI_n _ _ (by decide), pI_n _ _ (by decide)]; exact h5
        rw [e]
        exact r1
      have q2 : f_6_readLetters (pI b 3 (nI p)) = some b' := by
        unfold f_6_readLetters
        rw [gI_eq, pI_n _ _ (show 2 ≠ 3 by decide), h2, i1]
        have e : gA (pI b 3 (nI p)) 0 (nI p) = a p := hJ.cM hlt
        rw [e, ← r2]
        show f_6_readLetters_13_b (f_6_readLetters_13 199) _ = _
        unfold f_6_readLetters_13_b
        have g1 : gI (pI (pI b 3 (nI p)) 5 (a p)) 1 = nI sz := by rw [gI_eq, pI_n _ _ (by decide), pI_n _ _ (by decide)]; exact hJ.2.2.1
        have g2 : gI (pI (pI b 3 (nI p)) 5 (a p)) 2 = nI p := by rw [gI_eq, pI_n _ _ (by decide), pI_n _ _ (by decide)]; exact h2
        have g3 : gA (pI (pI b 3 (nI p)) 5 (a p)) 0 (nI p) = a p := hJ.cM hlt
        rw [g1, g2, if_neg (nI_ge hlt (by omega)), i1, g3, z2, Option.bind_some, if1, nI_1]
      rw [q1, q2]
      exact ⟨T', b', q, rfl, rfl, r3, fT3.trans r4, fb3.trans r5⟩
theorem nextS {sz : Nat} {a : Nat → Int32} : ∀ (k n p : Nat) (T b : BV), p + k = sz → k < n → Jt sz a T b → T.1 5 = nI p → b.1 2 = nI p → ∃ T' b' beg q, p ≤ beg ∧ f_4_toNextToken_0 n T = some T' ∧ f_6_reads_0 n b = some b' ∧ Jk sz beg q T' b' ∧ FrT T T' ∧ FrR b b' := by
  intro k
  induction k with
  | zero =>
    intro n p T b hp hn hJ h5 h2
    obtain ⟨n, rfl⟩ : ∃ m, n = m + 1 := ⟨n - 1, by omega⟩
    have hsz := hJ.1
    obtain ⟨T', b', q, r1, r2, r3, r4, r5⟩ := next38 hJ h5 h2 (by omega)
    refine ⟨T', b', p, q, Nat.le_refl _, ?_, ?_, r3, r4, r5⟩
    · show f_4_toNextToken_0_b (f_4_toNextToken_0 n) _ = _
      unfold f_4_toNextToken_0_b
      rw [gI_eq T 1, gI_eq T 5, hJ.2.1, h5, if_pos (nI_le (by omega) (by omega))]
      exact r1
    · show f_6_reads_0_b (f_6_reads_0 n) _ = _
      unfold f_6_reads_0_b
      rw [gI_eq b 1, gI_eq b 2, hJ.2.2.1, h2, if_pos (nI_le (by omega) (by omega))]
      exact r2
  | succ k ih =>
    intro n p T b hp hn hJ h5 h2
    obtain ⟨n, rfl⟩ : ∃ m, n = m + 1 := ⟨n - 1, by omega⟩
    have hsz := hJ.1
    show ∃ T' b' beg q, p ≤ beg ∧ f_4_toNextToken_0_b (f_4_toNextToken_0 n) T = some T' ∧ f_6_reads_0_b (f_6_reads_0 n) b = some b' ∧ _
    unfold f_4_toNextToken_0_b f_6_reads_0_b
    rw [gI_eq T 1, gI_eq T 5, hJ.2.1, h5, if_neg (nI_ge (by omega) (by omega)), ck_inb (by omega) (by decide), hJ.cC (by omega), gI_eq b 1, gI_eq b 2, hJ.2.2.1, h2, if_neg (nI_ge (by omega) (by omega)), ck_inb (by omega) (by decide), hJ.cM (by omega), nI_1]
    by_cases hs : a p = 32
    · rw [if_pos hs, if_pos hs]
      have fT : FrT T (pI T 5 (nI (p + 1))) := FrT.pI T (by decide) _
      have fb : FrR b (pI b 2 (nI (p + 1))) := FrR.pI b (by omega) _
      obtain ⟨T', b', beg, q, r0, r1, r2, r3, r4, r5⟩ := ih n (p + 1) (pI T 5 (nI (p + 1))) (pI b 2 (nI (p + 1))) (by omega) (by omega) (hJ.fr fT fb) (pI_s _ _ _) (pI_s _ _ _)
      exact ⟨T', b', beg, q, by omega, r1, r2, r3, fT.trans r4, fb.trans r5⟩
    · rw [if_neg hs, if_neg hs]
      obtain ⟨T', b', q, r1, r2, r3, r4, r5⟩ := next38 hJ h5 h2 (by omega)
      exact ⟨T', b', p, q, Nat.le_refl _, r1, r2, r3, r4, r5⟩
theorem nextT {sz : Nat} {a : Nat → Int32} {p : Nat} {T b : BV} (hJ : Jt sz a T b) (h5 : T.1 5 = nI p) (h2 : b.1 2 = nI p) (hp : p ≤ sz) : ∃ T' b' beg q, p ≤ beg ∧ f_4_toNextToken T = some T' ∧ f_6_reads b = some b' ∧ Jk sz beg q T' b' ∧ FrT T T' ∧ FrR b b' := nextS (sz - p) 200 p T b (by omega) (by have := hJ.1; omega) hJ h5 h2
/-- both sides stand at the same token -/
def Jn (sz : Nat) (a : Nat → Int32) (beg p : Nat) (T b : BV) : Prop := Jt sz a T b ∧ Jk sz beg p T b
theorem nextJ {sz : Nat} {a : Nat → Int32} {beg p : Nat} {T b : BV} (h : Jn sz a beg p T b) : ∃ T' b' beg' p', p ≤ beg' ∧ f_4_toNextToken T = some T' ∧ f_6_reads b = some b' ∧ Jn sz a beg' p' T' b' ∧ FrT T T' ∧ FrR b b' := by
  obtain ⟨hJ, hk⟩ := h
  obtain ⟨T', b', beg', q, r0, r1, r2, r3, r4, r5⟩ := nextT hJ hk.2.2.2.2.1 hk.2.2.2.2.2.1 hk.2.1
  exact ⟨T', b', beg', q, r0, r1, r2, ⟨hJ.fr r4 r5, r3⟩, r4, r5⟩
theorem Jn.fr {sz : Nat} {a : Nat → Int32} {beg p : Nat} {T b b' : BV} (h : Jn sz a beg p T b) (h1 : b'.1 = b.1) (h2 : b'.2.1 0 = b.2.1 0) : Jn sz a beg p T b' := by
  obtain ⟨⟨j1, j2, j3, j4⟩, hk⟩ := h
  refine ⟨⟨j1, j2, by rw [h1]; exact j3, by rw [h2]; exact j4⟩, ?_⟩
  unfold Jk Kd at hk ⊢
  rw [h1]; exact hk
theorem ref9 {R : BV} {T : BV} (h : R.1 2 = -9) : f_1_refuseUnless R T 0 = some (pI R 2 (gI T 2)) := by
  unfold f_1_refuseUnless f_1_refuseUnless_24
  rw [if0, gI_eq R 2, h, if_pos rfl]
theorem refOk {R : BV} {T : BV} : f_1_refuseUnless R T 1 = some R := by
  unfold f_1_refuseUnless f_1_refuseUnless_24
  rw [if1]
theorem refBad {R : BV} {T : BV} (h : ¬ R.1 2 = -9) (y : Int32) : f_1_refuseUnless R T y = some R := by
  unfold f_1_refuseUnless f_1_refuseUnless_24
  rw [gI_eq R 2, if_neg h, ite_self]
/-- the reader of the class can go on from here -/
def Gd (T : BV) : Prop := ∃ sz a beg p b, Jn sz a beg p T b
theorem Jn.gd {sz : Nat} {a : Nat → Int32} {beg p : Nat} {T b : BV} (h : Jn sz a beg p T b) : Gd T := ⟨sz, a, beg, p, b, h⟩
theorem Gd.next {T : BV} (h : Gd T) : ∃ T', f_4_toNextToken T = some T' ∧ Gd T' ∧ FrT T T' := by
  obtain ⟨sz, a, beg, p, b, h⟩ := h
  obtain ⟨T', b', beg', q, r0, r1, r2, r3, r4, r5⟩ := nextJ h
  exact ⟨T', r1, r3.gd, r4⟩
theorem numBad {R : BV} {T : BV} (h : ¬ R.1 2 = -9) (g : Gd T) (x y : Int32) : ∃ T', f_1_readNumber R T x y = some (T.1 4, R, T') ∧ Gd T' ∧ FrT T T' := by
  obtain ⟨T', n1, n2, n3⟩ := g.next
  refine ⟨T', ?_, n2, n3⟩
  unfold f_1_readNumber f_1_readNumber_33 f_1_readNumber_34
  rw [within_eq, refBad h, refBad h, Option.bind_some, Option.bind_some, n1, Option.bind_some, ite_self, ite_self]
  rfl
theorem endBad {R : BV} {T : BV} (h : ¬ R.1 2 = -9) (g : Gd T) : ∃ T', f_1_readEnd R T = some (R, T') ∧ FrT T T' := by
  obtain ⟨T', n1, n2, n3⟩ := g.next
  refine ⟨T', ?_, n3⟩
  unfold f_1_readEnd f_1_readEnd_17
  rw [refBad h, refBad h, Option.bind_some, n1, Option.bind_some, ite_self]
theorem letOk {R T T' : BV} (hn : f_4_toNextToken T = some T') : f_1_readLetter R T 1 = some (R, T') := by
  unfold f_1_readLetter
  rw [refOk, Option.bind_some, hn, Option.bind_some]
theorem beg9 {beg : Nat} (h : beg ≤ 150) : ¬ nI beg = (-9 : Int32) := by
  intro h2
  have h3 := congrArg Int32.toInt h2
  rw [nI_toInt (by omega)] at h3
  have : (-9 : Int32).toInt = -9 := by decide
  omega
theorem Jn.b150 {sz : Nat} {a : Nat → Int32} {beg p : Nat} {T b : BV} (h : Jn sz a beg p T b) : beg ≤ 150 := by
  have h1 := h.1.1
  have h2 := h.2.1
  have h3 := h.2.2.1
  omega
theorem letBad {sz : Nat} {a : Nat → Int32} {beg p : Nat} {R T b : BV} (h : R.1 2 = -9) (hJ : Jn sz a beg p T b) : ∃ T', f_1_readLetter R T 0 = some (pI R 2 (nI beg), T') ∧ Gd T' ∧ FrT T T' := by
  obtain ⟨T', n1, n2, n3⟩ := hJ.gd.next
  refine ⟨T', ?_, n2, n3⟩
  unfold f_1_readLetter
  rw [ref9 h, Option.bind_some, gI_eq, hJ.2.2.2.1, n1, Option.bind_some]
/-- one number: taken on both sides, or refused on both at the same place -/
theorem numJ {sz : Nat} {a : Nat → Int32} {beg p : Nat} {T b : BV} (h : Jn sz a beg p T b) {lo hi : Nat} (hlo : lo ≤ 99) (hhi : hi ≤ 99) : ∃ T1 b1 beg1 p1, p ≤ beg1 ∧ f_4_toNextToken T = some T1 ∧ Jn sz a beg1 p1 T1 b1 ∧ FrT T T1 ∧ FrR b b1 ∧ ∀ R : BV, R.1 2 = -9 → ((∃ x, lo ≤ x ∧ x ≤ hi ∧ f_6_number b (nI lo) (nI hi) = some (1, b1) ∧ b1.1 5 = nI x ∧ f_1_readNumber R T1 (nI lo) (nI hi) = (f_4_toNextToken T1).bind (fun T2 => some (nI x, R, T2))) ∨ (f_6_number b (nI lo) (nI hi) = some (0, b1) ∧ b1.1 3 = nI beg1 ∧ ∃ T2, f_1_readNumber R T1 (nI lo) (nI hi) = some (T1.1 4, pI R 2 (nI beg1), T2) ∧ Gd T2 ∧ FrT T1 T2)) := by
  obtain ⟨T1, b1, beg1, p1, r0, r1, r2, r3, r4, r5⟩ := nextJ h
  refine ⟨T1, b1, beg1, p1, r0, r1, r3, r4, r5, fun R hR => ?_⟩
  have h150 := r3.b150
  obtain ⟨T2, n1, n2, n3⟩ := r3.gd.next
  have hbad : f_1_readNumber_34 R T1 (T1.1 4) 0 = some (T1.1 4, pI R 2 (nI beg1), T2) := by
    unfold f_1_readNumber_34
    rw [ref9 hR, Option.bind_some, gI_eq, r3.2.2.2.1, n1, Option.bind_some]
  have bad : f_6_number b (nI lo) (nI hi) = some (0, b1) → f_1_readNumber R T1 (nI lo) (nI hi) = f_1_readNumber_34 R T1 (T1.1 4) 0 → (∃ x, lo ≤ x ∧ x ≤ hi ∧ f_6_number b (nI lo) (nI hi) = some (1, b1) ∧ b1.1 5 = nI x ∧ f_1_readNumber R T1 (nI lo) (nI hi) = (f_4_toNextToken T1).bind (fun T2 => some (nI x, R, T2))) ∨ (f_6_number b (nI lo) (nI hi) = some (0, b1) ∧ b1.1 3 = nI beg1 ∧ ∃ T2, f_1_readNumber R T1 (nI lo) (nI hi) = some (T1.1 4, pI R 2 (nI beg1), T2) ∧ Gd T2 ∧ FrT T1 T2) := fun h1 h2 => Or.inr ⟨h1, r3.2.2.2.2.1, T2, h2.trans hbad, n2, n3⟩
  have no : ¬ T1.1 3 = 2 → ¬ b1.1 4 = 2 → _ := fun h1 h2 => bad (by
    unfold f_6_number f_6_number_31 f_6_number_32
    rw [r2, Option.bind_some, gI_eq, if_neg h2, isb0]) (by
    unfold f_1_readNumber f_1_readNumber_33
    rw [gI_eq T1 3, if_neg h1]; rfl)
  rcases r3.2.2.2.2.2.2.2.1 with ⟨k1, k2⟩ | ⟨k1, k2, -⟩ | ⟨k1, k2, x, x9, k3, k4⟩ | ⟨k1, k2⟩ | ⟨k2, k1⟩
  · exact no (by rw [k1]; decide) (by rw [k2]; decide)
  · exact no (by rw [k1]; decide) (by rw [k2]; decide)
  · by_cases hx : lo ≤ x ∧ x ≤ hi
    · left
      have hw : nI lo ≤ nI x ∧ nI x ≤ nI hi := ⟨nI_le hx.1 (by omega), nI_le hx.2 (by omega)⟩
      refine ⟨x, hx.1, hx.2, ?_, k4, ?_⟩
      · unfold f_6_number f_6_number_31 f_6_number_32
        rw [r2, Option.bind_some, gI_eq, k2, if_pos rfl, gI_eq, k4, in_eq, if_pos hw, Option.bind_some, if1, isb1]
      · unfold f_1_readNumber f_1_readNumber_33 f_1_readNumber_34
        rw [gI_eq T1 3, k1, if_pos rfl, gI_eq, k3, within_eq, if_pos hw, Option.bind_some, if1, refOk, Option.bind_some]
    · have hw : ¬ (nI lo ≤ nI x ∧ nI x ≤ nI hi) := fun h => hx ⟨(nI_leI (by omega) (by omega)).mp h.1, (nI_leI (by omega) (by omega)).mp h.2⟩
      refine bad ?_ ?_
      · unfold f_6_number f_6_number_31 f_6_number_32
        rw [r2, Option.bind_some, gI_eq, k2, if_pos rfl, gI_eq, k4, in_eq, if_neg hw, Option.bind_some, if0, isb0]
      · unfold f_1_readNumber f_1_readNumber_33
        rw [gI_eq T1 3, k1, if_pos rfl, gI_eq, k3, within_eq, if_neg hw, Option.bind_some, if0]
  · exact no (by rw [k1]; decide) (by rw [k2]; decide)
  · exact no (by rcases k1 with k1 | ⟨k1, -⟩ <;> rw [k1] <;> decide) (by rw [k2]; decide)
/-- the end of an item: read on both sides, or refused on both at the same place -/
theorem endJ {sz : Nat} {a : Nat → Int32} {beg p : Nat} {T b : BV} (h : Jn sz a beg p T b) : ∃ T1 b1 beg1 p1, p ≤ beg1 ∧ f_4_toNextToken T = some T1 ∧ Jn sz a beg1 p1 T1 b1 ∧ FrT T T1 ∧ FrR b b1 ∧ ∀ R : BV, R.1 2 = -9 → ((f_6_itemEnds b = some (1, b1) ∧ f_1_readEnd R T1 = (f_4_toNextToken T1).bind (fun T2 => some (R, T2))) ∨ (f_6_itemEnds b = some (0, b1) ∧ b1.1 3 = nI beg1 ∧ ∃ T2, f_1_readEnd R T1 = some (pI R 2 (nI beg1), T2) ∧ FrT T1 T2)) := by
  obtain ⟨T1, b1, beg1, p1, r0, r1, r2, r3, r4, r5⟩ := nextJ h
  refine ⟨T1, b1, beg1, p1, r0, r1, r3, r4, r5, fun R hR => ?_⟩
  obtain ⟨T2, n1, n2, n3⟩ := r3.gd.next
  have no : ¬ T1.1 3 = 3 → ¬ b1.1 4 = 3 → (f_6_itemEnds b = some (1, b1) ∧ f_1_readEnd R T1 = (f_4_toNextToken T1).bind (fun T2 => some (R, T2))) ∨ (f_6_itemEnds b = some (0, b1) ∧ b1.1 3 = nI beg1 ∧ ∃ T2, f_1_readEnd R T1 = some (pI R 2 (nI beg1), T2) ∧ FrT T1 T2) := fun h1 h2 => Or.inr ⟨by
    unfold f_6_itemEnds f_6_itemEnds_17
    rw [r2, Option.bind_some, gI_eq, if_neg h2, isb0], r3.2.2.2.2.1, T2, by
    unfold f_1_readEnd f_1_readEnd_17
    rw [gI_eq T1 3, if_neg h1, ref9 hR, Option.bind_some, gI_eq, r3.2.2.2.1, n1, Option.bind_some], n3⟩
  rcases r3.2.2.2.2.2.2.2.1 with ⟨k1, k2⟩ | ⟨k1, k2, -⟩ | ⟨k1, k2, -⟩ | ⟨k1, k2⟩ | ⟨k2, k1⟩
  · exact no (by rw [k1]; decide) (by rw [k2]; decide)
  · exact no (by rw [k1]; decide) (by rw [k2]; decide)
  · exact no (by rw [k1]; decide) (by rw [k2]; decide)
  · left
    constructor
    · unfold f_6_itemEnds f_6_itemEnds_17
      rw [r2, Option.bind_some, gI_eq, k2, if_pos rfl, isb1]
    · unfold f_1_readEnd f_1_readEnd_17
      rw [gI_eq T1 3, k1, if_pos rfl, refOk, Option.bind_some]
  · exact no (by rcases k1 with k1 | ⟨k1, -⟩ <;> rw [k1] <;> decide) (by rw [k2]; decide)
