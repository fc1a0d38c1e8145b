-- pawns, redeems
theorem lfM {b : BV} {w : SV} (hB : SM (b.2.1 8) 0 w) (x y : Int32) : ∀ (k n l : Nat), l + k = 4 → k < n → f_6_pawns_24 n b x y (nI l) = f_6_pawns_43 b x y (nI (lowF w.1 k l)) := by
  intro k
  induction k with
  | zero =>
    intro n l hl hn
    obtain ⟨n, rfl⟩ : ∃ m, n = m + 1 := ⟨n - 1, by omega⟩
    obtain rfl : l = 4 := by omega
    show f_6_pawns_24_b (f_6_pawns_24 n) _ _ _ _ = _
    unfold f_6_pawns_24_b
    rw [if_pos (show (4 : Int32) ≤ nI 4 by decide)]
    rfl
  | succ k ih =>
    intro n l hl hn
    obtain ⟨n, rfl⟩ : ∃ m, n = m + 1 := ⟨n - 1, by omega⟩
    show f_6_pawns_24_b (f_6_pawns_24 n) _ _ _ _ = _
    unfold f_6_pawns_24_b lowF
    rw [if_neg (show ¬ (4 : Int32) ≤ nI l from nI_ge (b := 4) (by omega) (by decide)), loanDaysM hB (by omega), Option.bind_some, nI_1]
    by_cases h0 : w.1 l = 0
    · rw [if_pos h0, if_pos h0]
    · rw [if_neg h0, if_neg h0]
      exact ih n (l + 1) (by omega) (by omega)
theorem s_pawns : Sim2 Rel F_pawns G_pawns := by
  intro σ b n x y hn hr
  obtain ⟨v, w, ok, hL, hM, hS, hB, hT, hx, hy, ht, hj, hi⟩ := id hr
  have h30 := ok.days
  have ref : ∀ (r : Int32), f_5_pawns (sL σ) (sY σ) (sN σ) (sP σ) x y = some (r, sY σ, sN σ, sP σ) → f_6_pawns b x y = some (r, b) → ∃ r σ2 b2, F_pawns σ x y = some (r, σ2) ∧ G_pawns b x y = some (r, b2) ∧ Rel σ2 b2 (n + 1) := fun r h1 h2 => ⟨r, σ, b, by unfold F_pawns; rw [h1]; rfl, by unfold G_pawns; rw [h2]; rfl, hr.mono⟩
  rcases isDay2 hL hM ok x with ⟨d, hd, rfl, i1, i2⟩ | ⟨i1, i2⟩
  · rcases wi y 1 9 (by decide) (by decide) with ⟨m, m1, m2, rfl, w1, w2⟩ | ⟨-, w1, w2⟩
    · have w1 : f_5_isWithin (nI m) 1 9 = some 1 := w1
      have w2 : f_6_in (nI m).toInt64 1 9 = some 1 := w2
      obtain ⟨z1, hz1, hz1'⟩ := isRowInC hL ok hS (d := d) (n := m) (by omega) m2
      obtain ⟨z2, hz2, hz2'⟩ := isFreeRM hM ok hB (d := d) (n := m) (by omega) m2
      have hlf := lowestFreeC hS
      have hlm : f_6_pawns_24 200 b (nI d) (nI m) 0 = f_6_pawns_43 b (nI d) (nI m) (nI (lowF w.1 4 0)) := lfM hB (nI d) (nI m) 4 200 0 (by omega) (by omega)
      have hlo := lowF_le (x := w.1) 4 0
      by_cases hro : rowOk v w d m
      · by_cases hfull : lowF w.1 4 0 = 4
        · refine ref (-2) ?_ ?_
          · unfold f_5_pawns f_5_pawns_46
            rw [i1, Option.bind_some, if1, w1, Option.bind_some, if1, hlf, Option.bind_some, if_pos hfull, hz1, Option.bind_some, if_neg (fun h => hz1'.mp h hro), if_pos rfl]
          · unfold f_6_pawns
            rw [i2, Option.bind_some, if1, w2, Option.bind_some, if1, hlm]
            unfold f_6_pawns_43 f_6_pawns_57
            rw [hz2, Option.bind_some, if_neg (fun h => hz2'.mp h hro), hfull, if_pos (show nI 4 = (4 : Int32) from rfl)]
        · obtain ⟨l, hl⟩ : ∃ l, l = lowF w.1 4 0 := ⟨_, rfl⟩
          rw [← hl] at hfull hlf hlm hlo
          have hl4 : l < 4 := by omega
          obtain ⟨r, b', g1, g2, g3, g4, g5, g6⟩ := remembers hS hB hT hy
          obtain ⟨S', p1, p2⟩ := pawnC hS hl4 (rowI d m) (lentN v d m)
          have hB' : SM (b'.2.1 8) 0 w := by rw [g6 8 (by decide)]; exact hB
          have hM' : LM (b'.2.1 7) v := by rw [g6 7 (by decide)]; exact hM
          have e3 : (3 : Int32) + 3 * nI l = nI (3 + 3 * l) := by rw [show (3 : Int32) = nI 3 from rfl, ix3]
          have e4 : (3 : Int32) + 3 * nI l + 1 = nI (4 + 3 * l) := by rw [e3, nI_1]; congr 1; omega
          have e5 : (3 : Int32) + 3 * nI l + 2 = nI (5 + 3 * l) := by rw [e3, show (2 : Int32) = nI 2 from rfl, nI_add]; congr 1; omega
          refine ⟨nI (lentN v d m), (σ.1, σ.2.1, σ.2.2.1, σ.2.2.2.1, σ.2.2.2.2.1, σ.2.2.2.2.2.1, r.1, S', r.2, σ.2.2.2.2.2.2.2.2.2), pA (pA (pA (pA b' 8 (nI (3 + 3 * l)) (rowI d m)) 8 (nI (4 + 3 * l)) (nI (lentN v d m))) 8 (nI (5 + 3 * l)) 0) 8 0 (nI (w.2.2.2.2.1 + lentN v d m)), ?_, ?_, ?_⟩
          · have e1 : f_5_pawns (sL σ) (sY σ) (sN σ) (sP σ) (nI d) (nI m) = some (nI (lentN v d m), r.1, S', r.2) := by
              unfold f_5_pawns
              rw [i1, Option.bind_some, if1, w1, Option.bind_some, if1, hlf, Option.bind_some, if_neg hfull, hz1, Option.bind_some, if_neg (fun h => hz1'.mp h hro), if_neg (show ¬ nI l = -9 by
                intro h
                have := congrArg Int32.toInt h
                rw [nI_toInt (by omega)] at this
                have h1 : (-9 : Int32).toInt = -9 := by decide
                omega), g1, Option.bind_some, lentC hL ok (by omega) m2, Option.bind_some, rowC, Option.bind_some, p1, Option.bind_some]
            unfold F_pawns
            rw [e1]; rfl
          · have e1 : f_6_pawns b (nI d) (nI m) = some (nI (lentN v d m), pA (pA (pA (pA b' 8 (nI (3 + 3 * l)) (rowI d m)) 8 (nI (4 + 3 * l)) (nI (lentN v d m))) 8 (nI (5 + 3 * l)) 0) 8 0 (nI (w.2.2.2.2.1 + lentN v d m))) := by
              unfold f_6_pawns
              rw [i2, Option.bind_some, if1, w2, Option.bind_some, if1, hlm]
              unfold f_6_pawns_43 bs
              rw [hz2, Option.bind_some, if_neg (fun h => hz2'.mp h hro), if_neg (show ¬ nI l = 4 by rw [show (4 : Int32) = nI 4 from rfl, nI_eq (by omega) (by decide)]; exact hfull), g2, Option.bind_some, lentM hM' ok (by omega) m2, Option.bind_some, rowM, Option.bind_some, e4, e5, e3]
              simp only [ck_inb (show 3 + 3 * l < 15 by omega) (show 15 < 2147483648 by decide), ck_inb (show 4 + 3 * l < 15 by omega) (show 15 < 2147483648 by decide), ck_inb (show 5 + 3 * l < 15 by omega) (show 15 < 2147483648 by decide), ck_inbL (show inb 0 15 = true by decide)]
              have e0 : gA (pA (pA (pA b' 8 (nI (3 + 3 * l)) (rowI d m)) 8 (nI (4 + 3 * l)) (nI (lentN v d m))) 8 (nI (5 + 3 * l)) 0) 8 0 = nI w.2.2.2.2.1 := by
                show (pA (pA (pA b' 8 (nI (3 + 3 * l)) (rowI d m)) 8 (nI (4 + 3 * l)) (nI (lentN v d m))) 8 (nI (5 + 3 * l)) 0).2.1 8 0 = _
                rw [pA_same, pA_same, pA_same, nI_clamp (by omega), nI_clamp (by omega), nI_clamp (by omega), upd_n _ _ (by omega), upd_n _ _ (by omega), upd_n _ _ (by omega)]
                exact hB'.2.2.1
              rw [e0, nI_add]
            unfold G_pawns
            rw [e1]; rfl
          · have fr : FrA 8 b' (pA (pA (pA (pA b' 8 (nI (3 + 3 * l)) (rowI d m)) 8 (nI (4 + 3 * l)) (nI (lentN v d m))) 8 (nI (5 + 3 * l)) 0) 8 0 (nI (w.2.2.2.2.1 + lentN v d m))) := ((((FrA.rf 8 b').pA _ _).pA _ _).pA _ _).pA _ _
            refine ⟨v, pawnW w l (rowI d m) (lentN v d m), ?_⟩
            have gr := hi.mono (show 1000 * n ≤ 1000 * (n + 1) by omega)
            refine ⟨ok, hL, ?_, p2, pawnM hB' hl4 _ _, pawnOk ok hT hl4 m2 hro (by omega), ?_, ?_, ?_, ?_, ?_⟩
            · rw [fr.2.2 7 (by decide)]; exact hM'
            · rw [fr.1, fr.2.2 0 (by decide), g5 1 (by decide), g6 0 (by decide)]; exact hx
            · rw [fr.1, fr.2.2 9 (by decide)]; exact g3.mono (by omega)
            · rw [fr.1, fr.2.2 13 (by decide), fr.2.2 14 (by decide), g5 12 (by decide), g6 13 (by decide), g6 14 (by decide)]; exact ht
            · exact hj.trans (g4.symm.trans fr.2.1.symm)
            · rw [fr.2.2 16 (by decide), g6 16 (by decide)]; exact gr
      · refine ref (-2) ?_ ?_
        · unfold f_5_pawns f_5_pawns_46
          rw [i1, Option.bind_some, if1, w1, Option.bind_some, if1, hlf, Option.bind_some, hz1, Option.bind_some, if_pos (hz1'.mpr hro)]
        · unfold f_6_pawns
          rw [i2, Option.bind_some, if1, w2, Option.bind_some, if1, hlm]
          unfold f_6_pawns_43 f_6_pawns_57
          rw [hz2, Option.bind_some, if_pos (hz2'.mpr hro)]
    · have w1 : f_5_isWithin y 1 9 = some 0 := w1
      have w2 : f_6_in y.toInt64 1 9 = some 0 := w2
      exact ref (-1) (by unfold f_5_pawns; rw [i1, Option.bind_some, if1, w1]; rfl) (by unfold f_6_pawns; rw [i2, Option.bind_some, if1, w2]; rfl)
  · exact ref (-1) (by unfold f_5_pawns; rw [i1]; rfl) (by unfold f_6_pawns; rw [i2]; rfl)
def freeW (w : SV) (l p : Nat) : SV := (va_up w.1 l 0, va_up w.2.1 l 0, va_up w.2.2.1 l 0, w.2.2.2.1, p, w.2.2.2.2.2)
theorem setFreeC {S : BV} {w : SV} (h : SC S w) {l : Nat} (hl : l < 4) : ∃ S', f_2_setFree S (nI l) = some S' ∧ SC S' (freeW w l w.2.2.2.2.1) := by
  refine ⟨pA (pA (pA S 0 (nI l) 0) 1 (nI l) 0) 2 (nI l) 0, ?_, ?_⟩
  · unfold f_2_setFree bs
    simp only [ck_inb hl (show 4 < 2147483648 by decide)]
  · obtain ⟨h1, h2, h3, h4⟩ := h
    refine ⟨fun k hk => ?_, h2, h3, h4⟩
    have a0 : (pA (pA (pA S 0 (nI l) 0) 1 (nI l) 0) 2 (nI l) 0).2.1 0 k = upd (S.2.1 0) l 0 k := by
      rw [pA_ne _ _ _ (by decide), pA_ne _ _ _ (by decide), pA_same, nI_clamp (by omega)]
    have a1 : (pA (pA (pA S 0 (nI l) 0) 1 (nI l) 0) 2 (nI l) 0).2.1 1 k = upd (S.2.1 1) l 0 k := by
      rw [pA_ne _ _ _ (by decide), pA_same, pA_ne _ _ _ (by decide), nI_clamp (by omega)]
    have a2 : (pA (pA (pA S 0 (nI l) 0) 1 (nI l) 0) 2 (nI l) 0).2.1 2 k = upd (S.2.1 2) l 0 k := by
      rw [pA_same, pA_ne _ _ _ (by decide), pA_ne _ _ _ (by decide), nI_clamp (by omega)]
    rw [a0, a1, a2]
    unfold freeW
    by_cases hkl : k = l
    · subst hkl
      simp only [upd_s, va_up_self]
      exact ⟨trivial, rfl, rfl⟩
    · simp only [upd_n _ _ hkl, va_up_ne _ _ hkl]
      exact h1 k hk
theorem freesM {b : BV} {w : SV} (h : SM (b.2.1 8) 0 w) {l : Nat} (hl : l < 4) : ∃ b', f_6_frees b (nI l) = some b' ∧ FrA 8 b b' ∧ SM (b'.2.1 8) 0 (freeW w l w.2.2.2.2.1) := by
  have e3 : (3 : Int32) + 3 * nI l = nI (3 + 3 * l) := by rw [show (3 : Int32) = nI 3 from rfl, ix3]
  have st : ∀ (n k : Nat) (b : BV), k < 3 → f_6_frees_2 (n + 1) b (nI l) (nI k) = f_6_frees_2 n (pA b 8 (nI (3 + 3 * l + k)) 0) (nI l) (nI (k + 1)) := fun n k b hk => by
    show f_6_frees_2_b (f_6_frees_2 n) _ _ _ = _
    unfold f_6_frees_2_b bs
    rw [if_neg (show ¬ (3 : Int32) ≤ nI k from nI_ge (b := 3) hk (by decide)), e3, nI_add, ck_inb (by omega) (by decide), nI_1]
  refine ⟨pA (pA (pA b 8 (nI (3 + 3 * l + 0)) 0) 8 (nI (3 + 3 * l + 1)) 0) 8 (nI (3 + 3 * l + 2)) 0, ?_, (((FrA.rf 8 b).pA _ _).pA _ _).pA _ _, ?_⟩
  · show f_6_frees_2 (199 + 1) b (nI l) (nI 0) = _
    rw [st _ _ _ (by omega), show 199 = 198 + 1 from rfl, st _ _ _ (by omega), show 198 = 197 + 1 from rfl, st _ _ _ (by omega)]
    show f_6_frees_2_b (f_6_frees_2 196) _ _ _ = _
    unfold f_6_frees_2_b
    rw [if_pos (by decide)]
  · have e : ∀ j, (pA (pA (pA b 8 (nI (3 + 3 * l + 0)) 0) 8 (nI (3 + 3 * l + 1)) 0) 8 (nI (3 + 3 * l + 2)) 0).2.1 8 j = upd (upd (upd (b.2.1 8) (3 + 3 * l + 0) 0) (3 + 3 * l + 1) 0) (3 + 3 * l + 2) 0 j := fun j => by
      rw [pA_same, pA_same, pA_same, nI_clamp (by omega), nI_clamp (by omega), nI_clamp (by omega)]
    obtain ⟨h1, h2, h3, h4⟩ := h
    refine ⟨fun k hk => ?_, ?_, ?_, ?_⟩
    · obtain ⟨g1, g2, g3⟩ := h1 k hk
      rw [e, e, e]
      unfold freeW
      by_cases hkl : k = l
      · subst hkl
        simp only [va_up_self]
        refine ⟨?_, ?_, ?_⟩
        · rw [upd_n _ _ (by omega), upd_n _ _ (by omega), show 0 + 3 + 3 * k = 3 + 3 * k + 0 by omega, upd_s]
        · rw [upd_n _ _ (by omega), show 0 + 4 + 3 * k = 3 + 3 * k + 1 by omega, upd_s]; rfl
        · rw [show 0 + 5 + 3 * k = 3 + 3 * k + 2 by omega, upd_s]; rfl
      · simp only [va_up_ne _ _ hkl]
        refine ⟨?_, ?_, ?_⟩
        · rw [upd_n _ _ (by omega), upd_n _ _ (by omega), upd_n _ _ (by omega), g1]
        · rw [upd_n _ _ (by omega), upd_n _ _ (by omega), upd_n _ _ (by omega), g2]
        · rw [upd_n _ _ (by omega), upd_n _ _ (by omega), upd_n _ _ (by omega), g3]
    · rw [e, upd_n _ _ (by omega), upd_n _ _ (by omega), upd_n _ _ (by omega)]; exact h2
    · rw [e, upd_n _ _ (by omega), upd_n _ _ (by omega), upd_n _ _ (by omega)]; exact h3
    · rw [e, upd_n _ _ (by omega), upd_n _ _ (by omega), upd_n _ _ (by omega)]; exact h4
theorem freeOkS {v : LV} {w : SV} (ok : OkS v w) (l p : Nat) : OkS v (freeW w l p) := by
  obtain ⟨o1, o2, o3, o4, o5⟩ := ok
  refine ⟨fun k hk => ?_, fun k hk j hj => ?_, o3, fun k m hk hm hkm j hj => ?_, fun k hk j hj => ?_⟩
  · unfold freeW
    by_cases hkl : k = l
    · subst hkl
      simp only [va_up_self]
      exact ⟨by omega, by omega, fun h => absurd rfl h⟩
    · simp only [va_up_ne _ _ hkl]
      exact o1 k hk
  · unfold freeW at hj
    by_cases hkl : k = l
    · subst hkl
      simp only [va_up_self, b_0] at hj
      cases hj
    · simp only [va_up_ne _ _ hkl] at hj
      exact o2 k hk j hj
  · unfold freeW at hj ⊢
    by_cases hkl : k = l
    · subst hkl
      simp only [va_up_self, b_0] at hj
      cases hj
    · simp only [va_up_ne _ _ hkl] at hj
      by_cases hml : m = l
      · subst hml
        simp only [va_up_self, b_0]
      · simp only [va_up_ne _ _ hml]
        exact o4 k m hk hm hkm j hj
  · unfold freeW at hj ⊢
    by_cases hkl : k = l
    · subst hkl
      simp only [va_up_self, b_0] at hj
      cases hj
    · simp only [va_up_ne _ _ hkl] at hj
      exact o5 k hk j hj
theorem s_redeems : Sim1 Rel F_redeems G_redeems := by
  intro σ b n x hn hr
  obtain ⟨v, w, ok, hL, hM, hS, hB, hT, hx, hy, ht, hj, hi⟩ := id hr
  have ref : ∀ (r : Int32), f_5_redeems (sY σ) (sN σ) (sP σ) x = some (r, sY σ, sN σ, sP σ) → f_6_redeems b x = some (r, b) → ∃ r σ2 b2, F_redeems σ x = some (r, σ2) ∧ G_redeems b x = some (r, b2) ∧ Rel σ2 b2 (n + 1) := fun r h1 h2 => ⟨r, σ, b, by unfold F_redeems; rw [h1]; rfl, by unfold G_redeems; rw [h2]; rfl, hr.mono⟩
  rcases isLoan2 x with ⟨l, hl, rfl, i1, i2⟩ | ⟨i1, i2⟩
  · have hpu := hT.2.1
    have hle := (hT.1.1 l hl).1
    by_cases h0 : w.1 l = 0
    · have f1 : f_2_isFree (sN σ) (nI l) = some 1 := by rw [isFreeC hS hl, if_pos h0]
      refine ref (-2) ?_ ?_
      · unfold f_5_redeems f_5_redeems_38
        rw [i1, Option.bind_some, if1, f1, Option.bind_some, if1]
      · unfold f_6_redeems f_6_redeems_31
        rw [i2, Option.bind_some, if1, loanDaysM hB hl, Option.bind_some, if_pos h0]
    · have f1 : f_2_isFree (sN σ) (nI l) = some 0 := by rw [isFreeC hS hl, if_neg h0]
      by_cases hp : w.2.1 l ≤ w.2.2.2.2.1
      · obtain ⟨r, b', g1, g2, g3, g4, g5, g6⟩ := remembers hS hB hT hy
        have hB' : SM (b'.2.1 8) 0 w := by rw [g6 8 (by decide)]; exact hB
        have hM' : LM (b'.2.1 7) v := by rw [g6 7 (by decide)]; exact hM
        -- the purse first
        have hS1 : SC (pI (sN σ) 4 (nI (w.2.2.2.2.1 - w.2.1 l))) (w.1, w.2.1, w.2.2.1, w.2.2.2.1, w.2.2.2.2.1 - w.2.1 l, w.2.2.2.2.2) := by
          obtain ⟨h1, h2, h3, h4⟩ := hS
          exact ⟨h1, by rw [pI_n _ _ (by decide)]; exact h2, pI_s _ _ _, by rw [pI_n _ _ (by decide)]; exact h4⟩
        have hB1 : SM ((pA b' 8 0 (nI (w.2.2.2.2.1 - w.2.1 l))).2.1 8) 0 (w.1, w.2.1, w.2.2.1, w.2.2.2.1, w.2.2.2.2.1 - w.2.1 l, w.2.2.2.2.2) := by
          have e : ∀ j, (pA b' 8 0 (nI (w.2.2.2.2.1 - w.2.1 l))).2.1 8 j = upd (b'.2.1 8) 0 (nI (w.2.2.2.2.1 - w.2.1 l)) j := fun j => by
            rw [pA_same, show (0 : Int32).toNatClampNeg = 0 by decide]
          obtain ⟨h1, h2, h3, h4⟩ := hB'
          refine ⟨fun k hk => ?_, ?_, ?_, ?_⟩
          · rw [e, e, e, upd_n _ _ (by omega), upd_n _ _ (by omega), upd_n _ _ (by omega)]
            exact h1 k hk
          · rw [e, upd_n _ _ (by omega)]; exact h2
          · rw [e, upd_s]
          · rw [e, upd_n _ _ (by omega)]; exact h4
        obtain ⟨S', p1, p2⟩ := setFreeC hS1 hl
        obtain ⟨b2, q1, q2, q3⟩ := freesM hB1 hl
        have hz : nI (w.2.2.2.2.1) - nI (w.2.1 l) = nI (w.2.2.2.2.1 - w.2.1 l) := pk_sub hp
        have fr : FrA 8 b' b2 := ((FrA.rf 8 b').pA _ _).trans q2
        refine ⟨nI (w.2.2.2.2.1 - w.2.1 l), (σ.1, σ.2.1, σ.2.2.1, σ.2.2.2.1, σ.2.2.2.2.1, σ.2.2.2.2.2.1, r.1, S', r.2, σ.2.2.2.2.2.2.2.2.2), b2, ?_, ?_, ?_⟩
        · have e1 : f_5_redeems (sY σ) (sN σ) (sP σ) (nI l) = some (nI (w.2.2.2.2.1 - w.2.1 l), r.1, S', r.2) := by
            unfold f_5_redeems f_2_redeem
            rw [i1, Option.bind_some, if1, f1, Option.bind_some, if0, ck_inb hl (by decide), hS.lent hl, hS.purse, if_pos (nI_le hp (by omega)), g1, Option.bind_some, ck_inb hl (by decide), hz, p1, Option.bind_some, Option.bind_some, p2.purse]
            rfl
          unfold F_redeems
          rw [e1]; rfl
        · have e1 : f_6_redeems b (nI l) = some (nI (w.2.2.2.2.1 - w.2.1 l), b2) := by
            unfold f_6_redeems bs
            rw [i2, Option.bind_some, if1, loanDaysM hB hl, Option.bind_some, if_neg h0, lentLM hB hl, Option.bind_some, ck_inbL (by decide), hB.purse, if_pos (nI_le hp (by omega)), g2, Option.bind_some, ck_inbL (by decide), lentLM hB' hl, Option.bind_some, ck_inbL (by decide), hB'.purse, hz]
            show (f_6_frees (pA b' 8 0 (nI (w.2.2.2.2.1 - w.2.1 l))) (nI l)).bind _ = _
            rw [q1, Option.bind_some, ck_inbL (by decide), q3.purse]
            rfl
          unfold G_redeems
          rw [e1]; rfl
        · refine ⟨v, freeW (w.1, w.2.1, w.2.2.1, w.2.2.2.1, w.2.2.2.2.1 - w.2.1 l, w.2.2.2.2.2) l (w.2.2.2.2.1 - w.2.1 l), Rel0.mono (B := 1000 * n) ?_ (by omega)⟩
          refine ⟨ok, hL, ?_, p2, q3, ⟨freeOkS hT.1 l _, by show w.2.2.2.2.1 - w.2.1 l ≤ _; omega, hT.2.2⟩, ?_, ?_, ?_, ?_, ?_⟩
          · rw [fr.2.2 7 (by decide)]; exact hM'
          · rw [fr.1, fr.2.2 0 (by decide), g5 1 (by decide), g6 0 (by decide)]; exact hx
          · rw [fr.1, fr.2.2 9 (by decide)]; exact g3
          · rw [fr.1, fr.2.2 13 (by decide), fr.2.2 14 (by decide), g5 12 (by decide), g6 13 (by decide), g6 14 (by decide)]; exact ht
          · exact hj.trans (g4.symm.trans fr.2.1.symm)
          · rw [fr.2.2 16 (by decide), g6 16 (by decide)]; exact hi
      · refine ref (-2) ?_ ?_
        · unfold f_5_redeems f_5_redeems_38
          rw [i1, Option.bind_some, if1, f1, Option.bind_some, if0, ck_inb hl (by decide), hS.lent hl, hS.purse, if_neg (nI_ge (by omega) (by omega))]
        · unfold f_6_redeems f_6_redeems_31
          rw [i2, Option.bind_some, if1, loanDaysM hB hl, Option.bind_some, if_neg h0, lentLM hB hl, Option.bind_some, ck_inbL (by decide), hB.purse, if_neg (nI_ge (by omega) (by omega))]
  · exact ref (-1) (by unfold f_5_redeems; rw [i1]; rfl) (by unfold f_6_redeems; rw [i2]; rfl)
