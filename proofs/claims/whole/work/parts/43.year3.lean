-- a year goes by: what holds stays, the loops, year
theorem takeOk {v : LV} {c : CV} {p y l : Nat} (okv : OkL v) (ok : OkS v (mkW c p y)) (hl : l < 4) (h0 : ¬ c.1 l = 0) (hb : bhN (c.1 l) 30 ≤ v.1 1) : OkS v (mkW (takeK v c l) p y) := by
  have h30 := okv.days
  obtain ⟨o1, o2, o3, o4, o5⟩ := ok
  have hin : ∀ j, bt (takeL v (inD v (mkW c 0 0)) (v.1 1 - bhN (c.1 l) 30) (bhN (c.1 l) 30) 0 (c.1 l)) j = true → bt (c.1 l) j = true ∨ inD v (mkW c 0 0) j = true := takeL_bt _ _ _ _ (by omega)
  refine ⟨fun k hk => ⟨(o1 k hk).1, (o1 k hk).2.1, fun h => ?_⟩, fun k hk j hj => ?_, o3, fun k m hk hm hkm j hj => ?_, fun k hk j hj => ?_⟩
  · by_cases hkl : k = l
    · subst hkl; exact (o1 k hk).2.2 h0
    · refine (o1 k hk).2.2 (fun h2 => h ?_)
      show va_up c.1 l _ k = 0
      rw [va_up_ne _ _ hkl]; exact h2
  · have hj : bt (va_up c.1 l _ k) j = true := hj
    by_cases hkl : k = l
    · subst hkl
      rw [va_up_self] at hj
      rcases hin j hj with h | h
      · exact o2 k hk j h
      · exact (inD_out h).1
    · rw [va_up_ne _ _ hkl] at hj
      exact o2 k hk j hj
  · replace hj : bt (va_up c.1 l _ k) j = true := hj
    show bt (va_up c.1 l _ m) j = false
    by_cases hkl : k = l
    · subst hkl
      rw [va_up_self] at hj
      rw [va_up_ne _ _ (Ne.symm hkm)]
      rcases hin j hj with h | h
      · exact o4 k m hk hm hkm j h
      · exact out_bt (inD_out h).2.1 m hm
    · rw [va_up_ne _ _ hkl] at hj
      by_cases hml : m = l
      · subst hml
        rw [va_up_self]
        cases hb' : bt (takeL v (inD v (mkW c 0 0)) (v.1 1 - bhN (c.1 m) 30) (bhN (c.1 m) 30) 0 (c.1 m)) j
        · rfl
        · rcases hin j hb' with h | h
          · have := o4 k m hk hm hkm j hj
            have this : bt (c.1 m) j = false := this
            rw [h] at this; cases this
          · have : bt (c.1 k) j = false := out_bt (inD_out h).2.1 k hk
            rw [hj] at this; cases this
      · rw [va_up_ne _ _ hml]
        exact o4 k m hk hm hkm j hj
  · have hj : bt (va_up c.1 l _ k) j = true := hj
    by_cases hkl : k = l
    · subst hkl
      rw [va_up_self] at hj
      rcases hin j hj with h | h
      · exact o5 k hk j h
      · exact (inD_out h).2.2
    · rw [va_up_ne _ _ hkl] at hj
      exact o5 k hk j hj
theorem growOk {v : LV} {c : CV} {p y l : Nat} (okv : OkL v) (ok : OkS v (mkW c p y)) (hl : l < 4) : OkS v (mkW (growK v c l) p y) := by
  have hlap := okv.2.2.2.2.2.1
  unfold growK
  by_cases h : c.2.2.1 l + 1 < v.1 10
  · rw [if_pos h]
    obtain ⟨o1, o2, o3, o4, o5⟩ := ok
    refine ⟨fun k hk => ?_, o2, o3, o4, o5⟩
    show _ ∧ va_up c.2.2.1 l (c.2.2.1 l + 1) k ≤ 9 ∧ (_ → va_up c.2.2.1 l (c.2.2.1 l + 1) k < v.1 10)
    by_cases hkl : k = l
    · subst hkl
      rw [va_up_self]
      exact ⟨(o1 k hk).1, by omega, fun _ => h⟩
    · rw [va_up_ne _ _ hkl]; exact o1 k hk
  · rw [if_neg h]
    obtain ⟨o1, o2, o3, o4, o5⟩ := ok
    refine ⟨fun k hk => ?_, fun k hk j hj => ?_, fun j hj => ?_, fun k m hk hm hkm j hj => ?_, fun k hk j hj => ?_⟩
    · show va_up c.2.1 l 0 k ≤ 729 ∧ va_up (va_up c.2.2.1 l (c.2.2.1 l + 1)) l 0 k ≤ 9 ∧ (va_up c.1 l 0 k ≠ 0 → va_up (va_up c.2.2.1 l (c.2.2.1 l + 1)) l 0 k < v.1 10)
      by_cases hkl : k = l
      · subst hkl
        rw [va_up_self, va_up_self, va_up_self]
        exact ⟨by omega, by omega, fun h => absurd rfl h⟩
      · rw [va_up_ne _ _ hkl, va_up_ne _ _ hkl, va_up_ne _ _ hkl, va_up_ne _ _ hkl]; exact o1 k hk
    · have hj : bt (va_up c.1 l 0 k) j = true := hj
      by_cases hkl : k = l
      · subst hkl
        rw [va_up_self, b_0] at hj; cases hj
      · rw [va_up_ne _ _ hkl] at hj; exact o2 k hk j hj
    · have hj : bt (c.2.2.2 ||| c.1 l) j = true := hj
      rw [b_or, Bool.or_eq_true] at hj
      rcases hj with hj | hj
      · exact o3 j hj
      · exact o2 l hl j hj
    · have hj : bt (va_up c.1 l 0 k) j = true := hj
      show bt (va_up c.1 l 0 m) j = false
      by_cases hkl : k = l
      · subst hkl
        rw [va_up_self, b_0] at hj; cases hj
      · rw [va_up_ne _ _ hkl] at hj
        by_cases hml : m = l
        · subst hml
          rw [va_up_self, b_0]
        · rw [va_up_ne _ _ hml]; exact o4 k m hk hm hkm j hj
    · have hj : bt (va_up c.1 l 0 k) j = true := hj
      show bt (c.2.2.2 ||| c.1 l) j = false
      by_cases hkl : k = l
      · subst hkl
        rw [va_up_self, b_0] at hj; cases hj
      · rw [va_up_ne _ _ hkl] at hj
        have a1 : bt c.2.2.2 j = false := o5 k hk j hj
        have a2 : bt (c.1 l) j = false := o4 k l hk hl hkl j hj
        rw [b_or, a1, a2]; rfl
theorem bh_ok {v : LV} {w : SV} (okv : OkL v) (ok : OkS v w) {l : Nat} (hl : l < 4) : bhN (w.1 l) 30 ≤ v.1 1 ∧ (∀ j, 30 ≤ j → bt (w.1 l) j = false) ∧ (¬ w.1 l = 0 → 1 ≤ bhN (w.1 l) 30) := by
  have h30 := okv.days
  have hb := bhN_le (w.1 l) 30
  refine ⟨?_, fun j hj => ?_, fun h0 => ?_⟩
  · rcases Nat.lt_or_ge (bhN (w.1 l) 30) 1 with h | h
    · omega
    · have := ok.2.1 l hl _ (hb.2.2 h)
      omega
  · cases h : bt (w.1 l) j
    · rfl
    · have := ok.2.1 l hl j h; omega
  · rcases Nat.lt_or_ge (bhN (w.1 l) 30) 1 with h | h
    · refine absurd (bt0.mpr (fun j hj => ?_)) h0
      by_cases hj30 : j < 30
      · exact hb.2.1 j (by omega) hj30
      · cases h : bt (w.1 l) j
        · rfl
        · have := ok.2.1 l hl j h; omega
    · exact h
theorem stepOk {v : LV} {c : CV} {p y l : Nat} (okv : OkL v) (ok : OkS v (mkW c p y)) (hl : l < 4) : OkS v (mkW (stepK v c l) p y) := by
  unfold stepK
  by_cases h0 : c.1 l = 0
  · rw [if_pos h0]; exact ok
  · rw [if_neg h0]
    exact growOk okv (takeOk okv ok hl h0 (bh_ok okv ok hl).1) hl
theorem yearOk {v : LV} (okv : OkL v) : ∀ (k l : Nat) (c : CV) (p y : Nat), l + k = 4 → OkS v (mkW c p y) → OkS v (mkW (yearK v k l c) p y) := by
  intro k
  induction k with
  | zero => intro l c p y _ h; exact h
  | succ k ih =>
    intro l c p y hl h
    rw [yearK_s]
    exact ih (l + 1) _ p y (by omega) (stepOk okv h (by omega))
theorem pyC {L : BV} {v : LV} (hL : LC L v) (okv : OkL v) (z : Int32) : ∀ (k n l : Nat) (S : BV) (c : CV) (p y : Nat), l + k = 4 → k < n → OkS v (mkW c p y) → SC S (mkW c p y) → ∃ S', f_2_passYear_32 L n S z (nI l) = some (z, S') ∧ SC S' (mkW (yearK v k l c) p y) := by
  intro k
  induction k with
  | zero =>
    intro n l S c p y hl hn ok hS
    obtain ⟨n, rfl⟩ : ∃ m, n = m + 1 := ⟨n - 1, by omega⟩
    obtain rfl : l = 4 := by omega
    refine ⟨S, ?_, hS⟩
    show f_2_passYear_32_b L (f_2_passYear_32 L n) _ _ _ = _
    unfold f_2_passYear_32_b
    rw [if_pos (show (4 : Int32) ≤ nI 4 by decide)]
  | succ k ih =>
    intro n l S c p y hl hn ok hS
    obtain ⟨n, rfl⟩ : ∃ m, n = m + 1 := ⟨n - 1, by omega⟩
    have h4 : l < 4 := by omega
    rw [yearK_s]
    have st := stepOk okv ok h4
    show ∃ S', f_2_passYear_32_b L (f_2_passYear_32 L n) _ _ _ = _ ∧ _
    unfold f_2_passYear_32_b f_2_passYear_57
    rw [if_neg (show ¬ (4 : Int32) ≤ nI l from nI_ge (b := 4) h4 (by decide)), isFreeC hS h4, Option.bind_some, nI_1]
    show ∃ S', (if (if c.1 l = 0 then (1 : Int32) else 0) = 0 then _ else _) = _ ∧ _
    by_cases h0 : c.1 l = 0
    · have e : stepK v c l = c := if_pos h0
      rw [if_pos h0, if1, e]
      exact ih n (l + 1) S c p y (by omega) (by omega) ok hS
    · have e : stepK v c l = growK v (takeK v c l) l := if_neg h0
      have hb := bh_ok okv ok h4
      obtain ⟨S1, q1, q2⟩ := takeC hL okv hS h4 hb.1
      have ok1 := takeOk okv ok h4 h0 hb.1
      obtain ⟨S2, r1, r2⟩ := growC hL okv q2 h4 (ok1.1 l h4).2.1
      rw [if_neg h0, if0, q1, Option.bind_some, r1, Option.bind_some]
      rw [e] at st ⊢
      exact ih n (l + 1) S2 _ p y (by omega) (by omega) st r2
theorem takeAge (v : LV) (c : CV) (l : Nat) : (takeK v c l).2 = c.2 := rfl
theorem gbM {v : LV} (okv : OkL v) (z : Int32) : ∀ (k n l : Nat) (b : BV) (c : CV) (p y : Nat), l + k = 4 → k < n → LM (b.2.1 7) v → OkS v (mkW c p y) → SM (b.2.1 8) 0 (mkW c p y) → ∃ b', f_6_goesBy_21 n b z (nI l) = some (z, b') ∧ FrA 8 b b' ∧ SM (b'.2.1 8) 0 (mkW (yearK v k l c) p (y + 1)) := by
  intro k
  induction k with
  | zero =>
    intro n l b c p y hl hn hM ok hB
    obtain ⟨n, rfl⟩ : ∃ m, n = m + 1 := ⟨n - 1, by omega⟩
    obtain rfl : l = 4 := by omega
    refine ⟨pA b 8 1 (nI (y + 1)), ?_, (FrA.rf 8 b).pA _ _, ?_⟩
    · show f_6_goesBy_21_b (f_6_goesBy_21 n) _ _ _ = _
      unfold f_6_goesBy_21_b bs
      rw [if_pos (show (4 : Int32) ≤ nI 4 by decide), ck_inbL (by decide), ck_inbL (by decide), hB.years]
      show some (z, pA b 8 1 (nI y + 1)) = _
      rw [nI_1]
    · have e : ∀ j, (pA b 8 1 (nI (y + 1))).2.1 8 j = upd (b.2.1 8) 1 (nI (y + 1)) j := fun j => by rw [pA_same, show (1 : Int32).toNatClampNeg = 1 by decide]
      obtain ⟨h1, h2, h3, h4⟩ := hB
      refine ⟨fun k hk => ?_, ?_, ?_, ?_⟩
      · rw [e, e, e, upd_n _ _ (by omega), upd_n _ _ (by omega), upd_n _ _ (by omega)]
        exact h1 k hk
      · rw [e, upd_n _ _ (by omega)]; exact h2
      · rw [e, upd_n _ _ (by omega)]; exact h3
      · rw [e, upd_s]; rfl
  | succ k ih =>
    intro n l b c p y hl hn hM ok hB
    obtain ⟨n, rfl⟩ : ∃ m, n = m + 1 := ⟨n - 1, by omega⟩
    have h4 : l < 4 := by omega
    rw [yearK_s]
    have st := stepOk okv ok h4
    show ∃ b', f_6_goesBy_21_b (f_6_goesBy_21 n) _ _ _ = _ ∧ _
    unfold f_6_goesBy_21_b f_6_goesBy_39
    rw [if_neg (show ¬ (4 : Int32) ≤ nI l from nI_ge (b := 4) h4 (by decide)), loanDaysM hB h4, Option.bind_some, nI_1]
    show ∃ b', (if c.1 l = 0 then _ else _) = _ ∧ _
    by_cases h0 : c.1 l = 0
    · have e : stepK v c l = c := if_pos h0
      rw [if_pos h0, e]
      exact ih n (l + 1) b c p y (by omega) (by omega) hM ok hB
    · have e : stepK v c l = growK v (takeK v c l) l := if_neg h0
      have hb := bh_ok okv ok h4
      obtain ⟨b1, q1, q2, q3⟩ := takeM hM okv hB h4 hb.1 (hb.2.2 h0) hb.2.1
      have hM1 : LM (b1.2.1 7) v := by rw [q2.2.2 7 (by decide)]; exact hM
      obtain ⟨b2, r1, r2, r3⟩ := growM hM1 okv q3 h4 ((ok.1 l h4).2.2 h0)
      have hM2 : LM (b2.2.1 7) v := by rw [r2.2.2 7 (by decide)]; exact hM1
      rw [if_neg h0, q1, r1, Option.bind_some]
      rw [e] at st ⊢
      obtain ⟨b', s1, s2, s3⟩ := ih n (l + 1) b2 _ p y (by omega) (by omega) hM2 st r3
      exact ⟨b', s1, (q2.trans r2).trans s2, s3⟩
theorem passYearC {L S : BV} {v : LV} {w : SV} (hL : LC L v) (okv : OkL v) (ok : OkS v w) (hS : SC S w) : ∃ S', f_2_passYear L S = some (nI (harv v (inD v w)), S') ∧ SC S' (yearW v w) := by
  have h30 := okv.days
  obtain ⟨z, hz, hbz⟩ := daysInC hL okv hS
  have hh : f_0_harvest L z = some (nI (harv v (inD v w))) := by
    rw [harvC hL okv]
    rw [harv_congr (v := v) (q := bt z) (q' := inD v w) (fun j hj => hbz j (by omega))]
  have hS1 : SC (pI (pI S 4 (nI (w.2.2.2.2.1 + harv v (inD v w)))) 5 (nI (w.2.2.2.2.2 + 1))) (mkW (coreW w) (w.2.2.2.2.1 + harv v (inD v w)) (w.2.2.2.2.2 + 1)) := by
    obtain ⟨h1, h2, h3, h4⟩ := hS
    exact ⟨h1, by rw [pI_n _ _ (by decide), pI_n _ _ (by decide)]; exact h2, by rw [pI_n _ _ (by decide), pI_s]; rfl, pI_s _ _ _⟩
  obtain ⟨S', q1, q2⟩ := pyC hL okv (nI (harv v (inD v w))) 4 200 0 _ (coreW w) (w.2.2.2.2.1 + harv v (inD v w)) (w.2.2.2.2.2 + 1) (by omega) (by omega) ok hS1
  refine ⟨S', ?_, q2⟩
  unfold f_2_passYear
  rw [hz, Option.bind_some, hh, Option.bind_some, hS.purse, hS.years, nI_add, nI_1]
  exact q1
theorem goesByM {b : BV} {v : LV} {w : SV} (hM : LM (b.2.1 7) v) (okv : OkL v) (ok : OkS v w) (hB : SM (b.2.1 8) 0 w) : ∃ b', f_6_goesBy b = some (nI (harv v (inD v w)), b') ∧ FrA 8 b b' ∧ SM (b'.2.1 8) 0 (yearW v w) := by
  have hh : f_6_harvest b (awayW w) = some (nI (harv v (inD v w))) := by
    rw [harvM hM okv]
    rw [harv_congr (v := v) (q := fun j => !bt (awayW w) j) (q' := inD v w) (fun j hj => (away_in w hj).symm)]
  have hB1 : SM ((pA b 8 0 (nI (w.2.2.2.2.1 + harv v (inD v w)))).2.1 8) 0 (mkW (coreW w) (w.2.2.2.2.1 + harv v (inD v w)) w.2.2.2.2.2) := by
    have e : ∀ j, (pA b 8 0 (nI (w.2.2.2.2.1 + harv v (inD v w)))).2.1 8 j = upd (b.2.1 8) 0 (nI (w.2.2.2.2.1 + harv v (inD v w))) j := fun j => by rw [pA_same, show (0 : Int32).toNatClampNeg = 0 by decide]
    obtain ⟨h1, h2, h3, h4⟩ := hB
    refine ⟨fun k hk => ?_, ?_, ?_, ?_⟩
    · rw [e, e, e, upd_n _ _ (by omega), upd_n _ _ (by omega), upd_n _ _ (by omega)]
      exact h1 k hk
    · rw [e, upd_n _ _ (by omega)]; exact h2
    · rw [e, upd_s]; rfl
    · rw [e, upd_n _ _ (by omega)]; exact h4
  obtain ⟨b', q1, q2, q3⟩ := gbM okv (nI (harv v (inD v w))) 4 200 0 _ (coreW w) (w.2.2.2.2.1 + harv v (inD v w)) w.2.2.2.2.2 (by omega) (by omega) (by rw [pA_ne _ _ _ (by decide)]; exact hM) ok hB1
  refine ⟨b', ?_, ((FrA.rf 8 b).pA _ _).trans q2, q3⟩
  unfold f_6_goesBy bs
  rw [notInM hB, Option.bind_some, hh, Option.bind_some, ck_inbL (by decide), ck_inbL (by decide), hB.purse, nI_add]
  exact q1
theorem yearWOk {v : LV} {w : SV} (okv : OkL v) (ok : OkS v w) : OkS v (yearW v w) := yearOk okv 4 0 (coreW w) _ _ (by omega) ok
theorem s_year : Sim0 Rel F_year G_year := by
  intro σ b n hn hr
  obtain ⟨v, w, ok, hL, hM, hS, hB, hT, hx, hy, ht, hj, hi⟩ := id hr
  have hyr := hT.2.2
  by_cases h99 : w.2.2.2.2.2 < 99
  · obtain ⟨r, b', g1, g2, g3, g4, g5, g6⟩ := remembers hS hB hT hy
    have hB' : SM (b'.2.1 8) 0 w := by rw [g6 8 (by decide)]; exact hB
    have hM' : LM (b'.2.1 7) v := by rw [g6 7 (by decide)]; exact hM
    obtain ⟨S', p1, p2⟩ := passYearC hL ok hT.1 hS
    obtain ⟨b2, q1, fr, q3⟩ := goesByM hM' ok hT.1 hB'
    have hle := harv_le ok (inD v w)
    refine ⟨nI (harv v (inD v w)), (σ.1, σ.2.1, σ.2.2.1, σ.2.2.2.1, σ.2.2.2.2.1, σ.2.2.2.2.2.1, r.1, S', r.2, σ.2.2.2.2.2.2.2.2.2), b2, ?_, ?_, ?_⟩
    · have e1 : f_5_year (sL σ) (sY σ) (sN σ) (sP σ) = some (nI (harv v (inD v w)), r.1, S', r.2) := by
        unfold f_5_year
        rw [hS.years, if_pos (show nI w.2.2.2.2.2 < 99 from nI_lt (b := 99) h99 (by decide)), g1, Option.bind_some, p1]
        rfl
      unfold F_year
      rw [e1]; rfl
    · have e1 : f_6_year b = some (nI (harv v (inD v w)), b2) := by
        unfold f_6_year
        rw [ck_inbL (by decide), hB.years, if_neg (show ¬ nI w.2.2.2.2.2 = 99 by rw [show (99 : Int32) = nI 99 from rfl, nI_eq (by omega) (by decide)]; omega), g2, Option.bind_some, q1]
        rfl
      unfold G_year
      rw [e1]; rfl
    · refine ⟨v, yearW v w, ok, hL, ?_, p2, q3, ⟨yearWOk ok hT.1, ?_, ?_⟩, ?_, ?_, ?_, ?_, ?_⟩
      · rw [fr.2.2 7 (by decide)]; exact hM'
      · have := hT.2.1
        show w.2.2.2.2.1 + harv v (inD v w) ≤ _
        omega
      · show w.2.2.2.2.2 + 1 ≤ 99
        omega
      · rw [fr.1, fr.2.2 0 (by decide), g5 1 (by decide), g6 0 (by decide)]; exact hx
      · rw [fr.1, fr.2.2 9 (by decide)]; exact g3.mono (by omega)
      · rw [fr.1, fr.2.2 13 (by decide), fr.2.2 14 (by decide), g5 12 (by decide), g6 13 (by decide), g6 14 (by decide)]; exact ht
      · exact hj.trans (g4.symm.trans fr.2.1.symm)
      · rw [fr.2.2 16 (by decide), g6 16 (by decide)]; exact hi.mono (by omega)
  · refine ⟨-2, σ, b, ?_, ?_, hr.mono⟩
    · have e1 : f_5_year (sL σ) (sY σ) (sN σ) (sP σ) = some (-2, sY σ, sN σ, sP σ) := by
        unfold f_5_year
        rw [hS.years, if_neg (show ¬ nI w.2.2.2.2.2 < 99 from nI_nlt (b := 99) (by omega) (by omega))]
      unfold F_year
      rw [e1]; rfl
    · have e1 : f_6_year b = some (-2, b) := by
        unfold f_6_year
        rw [ck_inbL (by decide), hB.years, if_pos (show nI w.2.2.2.2.2 = 99 by rw [show w.2.2.2.2.2 = 99 by omega]; rfl)]
      unfold G_year
      rw [e1]; rfl
