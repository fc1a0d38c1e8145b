-- tokens: numbers, and the next token
def numSt (a : Nat → Int32) (beg p m : Nat) (f : Int32) : Prop := (f = 1 ∧ beg + 2 ≤ p ∧ a beg = 48) ∨ (f = 0 ∧ ((p = beg ∧ m = 0) ∨ (p = beg + 1 ∧ a beg = 48 ∧ m = 0) ∨ (beg + 1 ≤ p ∧ ¬ a beg = 48 ∧ 1 ≤ m)))
theorem nums {sz : Nat} {a : Nat → Int32} {beg : Nat} : ∀ (k n n' p m : Nat) (T b : BV) (f : Int32), p + k = sz → k < n → k < n' → Jt sz a T b → T.1 5 = nI p → b.1 2 = nI p → T.1 2 = nI beg → b.1 3 = nI beg → beg ≤ p → (p = beg → p < sz ∧ ∃ g, g ≤ 9 ∧ a p = nI (48 + g)) → m ≤ 999 → T.1 4 = nI (if m ≤ 99 then m else 100) → numSt a beg p m f → ∃ T' b' q, f_4_scanNumber_7 n T f = some T' ∧ f_6_readNumber_2 n' b (nI m) = some b' ∧ Jk sz beg q T' b' ∧ FrT T T' ∧ FrR b b' ∧ p ≤ q := by
  have fin : ∀ (p m : Nat) (T b : BV) (f : Int32), p ≤ sz → Jt sz a T b → T.1 5 = nI p → b.1 2 = nI p → T.1 2 = nI beg → b.1 3 = nI beg → beg < p → m ≤ 999 → T.1 4 = nI (if m ≤ 99 then m else 100) → numSt a beg p m f → ∃ T' b', f_4_scanNumber_103 T f = some T' ∧ f_6_readNumber_69 b (nI m) = some b' ∧ Jk sz beg p T' b' ∧ FrT T T' ∧ FrR b b' := by
    intro p m T b f hp hJ h5 h2 hb1 hb2 hlt hm hv hf
    have hsz := hJ.1
    have hd : gI b 2 - gI b 3 = nI (p - beg) := by rw [gI_eq, gI_eq, h2, hb2, pk_sub (by omega)]
    have g4 : gI T 4 = nI (if m ≤ 99 then m else 100) := hv
    have gb : gA b 0 (gI b 3) = a beg := by rw [gI_eq, hb2]; exact hJ.cM (by omega)
    have ib : ∀ {α : Type} (k : Option α), ck (inb (gI b 3) 150) k = k := fun k => by rw [gI_eq, hb2, ck_inb (by omega) (by decide)]
    have mk : ∀ x, (x = 2 ∧ m ≤ 99 ∨ x = 4) → Jk sz beg p (pI T 3 x) (pI (pI b 4 x) 5 (nI m)) ∧ FrT T (pI T 3 x) ∧ FrR b (pI (pI b 4 x) 5 (nI m)) := by
      intro x hx
      refine ⟨⟨by omega, hp, by rw [pI_n _ _ (by decide)]; exact hb1, by rw [pI_n _ _ (by decide), pI_n _ _ (by decide)]; exact hb2, by rw [pI_n _ _ (by decide)]; exact h5, by rw [pI_n _ _ (by decide), pI_n _ _ (by decide)]; exact h2, ?_, fun _ => hlt⟩, FrT.pI T (by decide) _, (FrR.pI b (by omega) _).trans (FrR.pI _ (by omega) _)⟩
      unfold Kd
      rw [pI_s, pI_n (k := 5) (j := 4) _ _ (by decide), pI_s, pI_s, pI_n (k := 3) (j := 4) _ _ (by decide), hv]
      rcases hx with ⟨rfl, h9⟩ | rfl
      · rw [if_pos h9]
        exact Or.inr (Or.inr (Or.inl ⟨rfl, rfl, m, h9, rfl, rfl⟩))
      · exact Or.inr (Or.inr (Or.inr (Or.inr ⟨rfl, Or.inl rfl⟩)))
    have r2 : f_4_scanNumber_103 T f = some (pI T 3 2) → f_6_readNumber_69 b (nI m) = some (pI (pI b 4 2) 5 (nI m)) → m ≤ 99 → ∃ T' b', f_4_scanNumber_103 T f = some T' ∧ f_6_readNumber_69 b (nI m) = some b' ∧ Jk sz beg p T' b' ∧ FrT T T' ∧ FrR b b' := fun h1 h2 h3 => ⟨_, _, h1, h2, mk 2 (Or.inl ⟨rfl, h3⟩)⟩
    have r4 : f_4_scanNumber_103 T f = some (pI T 3 4) → f_6_readNumber_69 b (nI m) = some (pI (pI b 4 4) 5 (nI m)) → ∃ T' b', f_4_scanNumber_103 T f = some T' ∧ f_6_readNumber_69 b (nI m) = some b' ∧ Jk sz beg p T' b' ∧ FrT T T' ∧ FrR b b' := fun h1 h2 => ⟨_, _, h1, h2, mk 4 (Or.inr rfl)⟩
    by_cases h9 : m ≤ 99
    · have l9 : ¬ (99 : Int32) < nI m := nI_nlt (a := 99) (by omega) (by decide)
      rcases hf with ⟨rfl, e1, e2⟩ | ⟨rfl, h | h | h⟩
      · refine r4 ?_ ?_
        · unfold f_4_scanNumber_103 f_4_scanNumber_117 f_4_scanNumber_122
          rw [if1]
        · unfold f_6_readNumber_69 f_6_readNumber_103 f_6_readNumber_107 f_6_readNumber_108
          rw [if_neg l9, hd, if_neg (show ¬ nI (p - beg) ≤ 1 from nI_ge (a := 1) (by omega) (by omega)), ib, gb, if_pos e2]
      · omega
      · refine r2 ?_ ?_ h9
        · unfold f_4_scanNumber_103 f_4_scanNumber_122
          rw [if0, g4, if_pos h9, if_pos (show nI m ≤ 99 from nI_le (b := 99) h9 (by decide))]
        · unfold f_6_readNumber_69 f_6_readNumber_103 f_6_readNumber_107 f_6_readNumber_108
          rw [if_neg l9, hd, if_pos (show nI (p - beg) ≤ 1 from nI_le (b := 1) (by omega) (by omega))]
      · refine r2 ?_ ?_ h9
        · unfold f_4_scanNumber_103 f_4_scanNumber_122
          rw [if0, g4, if_pos h9, if_pos (show nI m ≤ 99 from nI_le (b := 99) h9 (by decide))]
        · unfold f_6_readNumber_69 f_6_readNumber_103 f_6_readNumber_107 f_6_readNumber_108
          rw [if_neg l9, hd, ib, gb, if_neg h.2.1, ite_self]
    · have l9 : (99 : Int32) < nI m := nI_lt (a := 99) (by omega) (by omega)
      refine r4 ?_ ?_
      · unfold f_4_scanNumber_103 f_4_scanNumber_117 f_4_scanNumber_122
        rw [g4, if_neg h9, if_neg (show ¬ nI 100 ≤ 99 by decide), ite_self]
      · unfold f_6_readNumber_69 f_6_readNumber_103 f_6_readNumber_108
        rw [if_pos l9]
  intro k
  induction k with
  | zero =>
    intro n n' p m T b f hp hn hn' hJ h5 h2 hb1 hb2 hle hbd hm hv hf
    obtain ⟨n, rfl⟩ : ∃ m, n = m + 1 := ⟨n - 1, by omega⟩
    obtain ⟨n', rfl⟩ : ∃ m, n' = m + 1 := ⟨n' - 1, by omega⟩
    have hsz := hJ.1
    have hlt : beg < p := by
      rcases Nat.lt_or_ge beg p with h | h
      · exact h
      · have := (hbd (by omega)).1; omega
    obtain ⟨T', b', q1, q2, q3, q4, q5⟩ := fin p m T b f (by omega) hJ h5 h2 hb1 hb2 hlt hm hv hf
    refine ⟨T', b', p, ?_, ?_, q3, q4, q5, Nat.le_refl _⟩
    · show f_4_scanNumber_7_b (f_4_scanNumber_7 n) _ _ = _
      unfold f_4_scanNumber_7_b
      rw [gI_eq T 1, gI_eq T 5, hJ.2.1, h5, if_pos (nI_le (by omega) (by omega))]
      exact q1
    · show f_6_readNumber_2_b (f_6_readNumber_2 n') _ _ = _
      unfold f_6_readNumber_2_b
      rw [gI_eq b 1, gI_eq b 2, hJ.2.2.1, h2, if_pos (nI_le (by omega) (by omega))]
      exact q2
  | succ k ih =>
    intro n n' p m T b f hp hn hn' hJ h5 h2 hb1 hb2 hle hbd hm hv hf
    obtain ⟨n, rfl⟩ : ∃ m, n = m + 1 := ⟨n - 1, by omega⟩
    obtain ⟨n', rfl⟩ : ∃ m, n' = m + 1 := ⟨n' - 1, by omega⟩
    have hsz := hJ.1
    obtain ⟨z, hz, z1, z2⟩ := dig2 (a p)
    rcases hz with rfl | ⟨rfl, g, hg, hag⟩
    · have hlt : beg < p := by
        rcases Nat.lt_or_ge beg p with h | h
        · exact h
        · obtain ⟨-, g, hg, hag⟩ := hbd (by omega)
          exfalso
          rw [hag] at z2
          unfold f_6_isFigure at z2
          rw [show (48 : Int64) = (48 : Int32).toInt64 by decide, show (57 : Int64) = (57 : Int32).toInt64 by decide, in_eq, Option.bind_some, isbI, if_pos ⟨show (48 : Int32) ≤ nI (48 + g) from nI_le (a := 48) (by omega) (by omega), show nI (48 + g) ≤ 57 from nI_le (b := 57) (by omega) (by omega)⟩] at z2
          exact absurd (Option.some.inj z2) (by decide)
      obtain ⟨T', b', q1, q2, q3, q4, q5⟩ := fin p m T b f (by omega) hJ h5 h2 hb1 hb2 hlt hm hv hf
      refine ⟨T', b', p, ?_, ?_, q3, q4, q5, Nat.le_refl _⟩
      · show f_4_scanNumber_7_b (f_4_scanNumber_7 n) _ _ = _
        unfold f_4_scanNumber_7_b
        rw [gI_eq T 1, gI_eq T 5, hJ.2.1, h5, if_neg (nI_ge (by omega) (by omega)), ck_inb (by omega) (by decide), hJ.cC (by omega), z1, Option.bind_some, if0]
        exact q1
      · show f_6_readNumber_2_b (f_6_readNumber_2 n') _ _ = _
        unfold f_6_readNumber_2_b
        rw [gI_eq b 1, gI_eq b 2, hJ.2.2.1, h2, if_neg (nI_ge (by omega) (by omega)), ck_inb (by omega) (by decide), hJ.cM (by omega), z2, Option.bind_some, if0]
        exact q2
    · -- one figure more
      obtain ⟨m', hm'⟩ : ∃ m', m' = if m ≤ 99 then 10 * m + g else m := ⟨_, rfl⟩
      obtain ⟨f', hf'⟩ : ∃ f' : Int32, f' = if f = 0 then (if p ≤ beg then 0 else if m = 0 then 1 else 0) else 1 := ⟨_, rfl⟩
      have hm'9 : m' ≤ 999 := by rw [hm']; split <;> omega
      have hv' : (if (100 : Int32) < ((gI T 4 * 10) + a p) - 48 then (100 : Int32) else ((gI T 4 * 10) + a p) - 48) = nI (if m' ≤ 99 then m' else 100) := by
        have e : ∀ y, ((nI y * 10) + a p) - 48 = nI (10 * y + g) := fun y => by
          rw [hag, show (10 : Int32) = nI 10 from rfl, pk_mul, nI_add, show (48 : Int32) = nI 48 from rfl, pk_sub (by omega), show y * 10 + (48 + g) - 48 = 10 * y + g by omega]
        rw [gI_eq, hv, e]
        by_cases h9 : m ≤ 99
        · rw [if_pos h9] at hm' ⊢
          subst hm'
          by_cases h10 : 10 * m + g ≤ 99
          · rw [if_pos h10, if_neg (show ¬ (100 : Int32) < nI (10 * m + g) from nI_nlt (a := 100) (by omega) (by decide))]
          · rw [if_neg h10]
            by_cases h11 : 10 * m + g = 100
            · rw [h11]; rfl
            · rw [if_pos (show (100 : Int32) < nI (10 * m + g) from nI_lt (a := 100) (by omega) (by omega))]; rfl
        · rw [if_neg h9] at hm' ⊢
          subst hm'
          rw [if_neg h9, if_pos (show (100 : Int32) < nI (10 * 100 + g) from nI_lt (a := 100) (by omega) (by omega))]; rfl
      have hf2 : numSt a beg (p + 1) m' f' := by
        rcases hf with ⟨rfl, e1, e2⟩ | ⟨rfl, ⟨e1, e2⟩ | ⟨e1, e2, e3⟩ | ⟨e1, e2, e3⟩⟩
        · rw [if_neg (by decide)] at hf'
          exact Or.inl ⟨hf', by omega, e2⟩
        · subst e1 e2
          rw [if_pos rfl, if_pos (Nat.le_refl _)] at hf'
          rw [if_pos (by omega)] at hm'
          refine Or.inr ⟨hf', Or.inr ?_⟩
          by_cases hg0 : g = 0
          · exact Or.inl ⟨rfl, by rw [hag, hg0]; rfl, by omega⟩
          · refine Or.inr ⟨by omega, ?_, by omega⟩
            rw [hag, show (48 : Int32) = nI 48 from rfl, nI_eq (by omega) (by decide)]
            omega
        · rw [if_pos rfl, if_neg (by omega), if_pos e3] at hf'
          exact Or.inl ⟨hf', by omega, e2⟩
        · rw [if_pos rfl, if_neg (by omega), if_neg (by omega)] at hf'
          refine Or.inr ⟨hf', Or.inr (Or.inr ⟨by omega, e2, ?_⟩)⟩
          rw [hm']; split <;> omega
      have fT : FrT T (pI (pI T 4 (nI (if m' ≤ 99 then m' else 100))) 5 (nI (p + 1))) := (FrT.pI T (by decide) _).trans (FrT.pI _ (by decide) _)
      have fb : FrR b (pI b 2 (nI (p + 1))) := FrR.pI b (by omega) _
      obtain ⟨T', b', q, r1, r2, r3, r4, r5, r6⟩ := ih n n' (p + 1) m' (pI (pI T 4 (nI (if m' ≤ 99 then m' else 100))) 5 (nI (p + 1))) (pI b 2 (nI (p + 1))) f' (by omega) (by omega) (by omega) (hJ.fr fT fb) (pI_s _ _ _) (pI_s _ _ _) (by rw [pI_n _ _ (by decide), pI_n _ _ (by decide)]; exact hb1) (by rw [pI_n _ _ (by decide)]; exact hb2) (by omega) (fun h => by omega) hm'9 (by rw [pI_n _ _ (by decide), pI_s]) hf2
      refine ⟨T', b', q, ?_, ?_, r3, fT.trans r4, fb.trans r5, by omega⟩
      · rw [← r1]
        have st : ∀ y, f_4_scanNumber_60 (f_4_scanNumber_7 n) T y = f_4_scanNumber_7 n (pI (pI T 4 (nI (if m' ≤ 99 then m' else 100))) 5 (nI (p + 1))) y := fun y => by
          unfold f_4_scanNumber_60
          rw [gI_eq T 5, h5, ck_inb (by omega) (by decide), hJ.cC (by omega), hv', nI_1]
        show f_4_scanNumber_7_b (f_4_scanNumber_7 n) _ _ = _
        unfold f_4_scanNumber_7_b f_4_scanNumber_59 f_4_scanNumber_55
        rw [st, st, gI_eq T 1, gI_eq T 5, gI_eq T 2, hJ.2.1, h5, hb1, if_neg (nI_ge (by omega) (by omega)), ck_inb (by omega) (by decide), hJ.cC (by omega), z1, Option.bind_some, if1, hf']
        by_cases hf0 : f = 0
        · rw [if_pos hf0, if_pos hf0]
          by_cases hpb : p ≤ beg
          · rw [if_pos (nI_le hpb (by omega)), if_pos hpb]
          · rw [if_neg (nI_ge (by omega) (by omega)), if_neg hpb, gI_eq, hv]
            by_cases hm0 : m = 0
            · rw [hm0, if_pos (show nI (if 0 ≤ 99 then 0 else 100) = 0 from rfl), if_pos rfl]
            · rw [if_neg hm0, if_neg (show ¬ nI (if m ≤ 99 then m else 100) = 0 by
                rw [show (0 : Int32) = nI 0 from rfl, nI_eq (by split <;> omega) (by decide)]; split <;> omega)]
        · rw [if_neg hf0, if_neg hf0]
      · rw [← r2]
        show f_6_readNumber_2_b (f_6_readNumber_2 n') _ _ = _
        unfold f_6_readNumber_2_b f_6_readNumber_55
        rw [gI_eq b 1, gI_eq b 2, hJ.2.2.1, h2, if_neg (nI_ge (by omega) (by omega)), ck_inb (by omega) (by decide), hJ.cM (by omega), z2, Option.bind_some, if1, ck_inb (by omega) (by decide), nI_1, hm']
        by_cases h9 : m ≤ 99
        · have e : ((10 : Int32) * nI m + a p) - 48 = nI (10 * m + g) := by
            rw [hag, show (10 : Int32) = nI 10 from rfl, pk_mul, nI_add, show (48 : Int32) = nI 48 from rfl, pk_sub (by omega), show 10 * m + (48 + g) - 48 = 10 * m + g by omega]
          rw [if_pos (show nI m ≤ 99 from nI_le (b := 99) h9 (by decide)), if_pos h9, e]
        · rw [if_neg (show ¬ nI m ≤ 99 from nI_ge (a := 99) (by omega) (by omega)), if_neg h9]
