-- calls that only ask, or change one thing
theorem s_clear : Sim0 Rel F_clear G_clear := by
  intro σ b n hn hr
  obtain ⟨v, w, ok, hL, hM, hS, hB, hT, hx, hy, ht, hj, hi⟩ := hr
  obtain ⟨sz, h1, h2, h3, h4⟩ := hx
  refine ⟨nI sz, (σ.1, σ.2.1, pI (sT σ) 1 0, σ.2.2.2), pI b 1 0, ?_, ?_, ?_⟩
  · show some (gI (sT σ) 1, _) = _
    rw [gI_eq, h2]
  · show some (gI b 1, _) = _
    rw [gI_eq, h3]
  · refine ⟨v, w, Rel0.mono (B := 1000 * n) ⟨ok, hL, hM, hS, hB, hT, ⟨0, by omega, rfl, rfl, fun i hi => absurd hi (by omega)⟩, hy, ht, hj, hi⟩ (by omega)⟩
theorem s_forget : Sim0 Rel F_forget G_forget := by
  intro σ b n hn hr
  obtain ⟨v, w, ok, hL, hM, hS, hB, hT, hx, hy, ht, hj, hi⟩ := hr
  obtain ⟨tl, h1, h2, h3, h4⟩ := ht
  refine ⟨nI tl, (pI (sX σ) 8 0, σ.2), pI b 12 0, ?_, ?_, ?_⟩
  · show some (gI (sX σ) 8, _) = _
    rw [gI_eq, h2]
  · show some (gI b 12, _) = _
    rw [gI_eq, h3]
  · refine ⟨v, w, Rel0.mono (B := 1000 * n) ⟨ok, hL, hM, hS, hB, hT, hx, hy, ⟨0, by omega, rfl, rfl, fun i hi => absurd hi (by omega)⟩, hj, hi⟩ (by omega)⟩
theorem s_trace : Sim0 Rel F_trace G_trace := by
  intro σ b n hn hr
  obtain ⟨v, w, ok, hL, hM, hS, hB, hT, hx, hy, ht, hj, hi⟩ := id hr
  refine ⟨gJ b, σ, b, ?_, rfl, hr.mono⟩
  show some (gJ (sX σ), _) = _
  unfold gJ
  rw [hj]
theorem s_count : Sim1 Rel F_count G_count := by
  intro σ b n x hn hr
  obtain ⟨v, w, ok, hL, hM, hS, hB, hT, hx, hy, ht, hj, hi⟩ := id hr
  obtain ⟨sz, -, t2, t3, -⟩ := hx
  obtain ⟨kn, -, k2, k3, -⟩ := hy
  obtain ⟨tl, -, l2, l3, -⟩ := ht
  obtain ⟨c0, c1, c4, c8, c9, c10, -, -⟩ := hL
  obtain ⟨p0, p1, p2, p3, p4, p5, -, -⟩ := hM
  have key : ∃ r, f_5_count (sX σ) (sT σ) (sL σ) (sY σ) x = some r ∧ f_6_count b x = some r := by
    unfold f_5_count f_6_count
    by_cases e0 : x = 0
    · subst e0; exact ⟨nI (v.1 1), by rw [if_pos rfl, gI_eq, c1], by rw [if_pos rfl, ck_inbL (by decide)]; exact congrArg some p0⟩
    rw [if_neg e0, if_neg e0]
    by_cases e0 : x = 1
    · subst e0; exact ⟨nI (v.1 0), by rw [if_pos rfl, gI_eq, c0], by rw [if_pos rfl, ck_inbL (by decide)]; exact congrArg some p1⟩
    rw [if_neg e0, if_neg e0]
    by_cases e0 : x = 2
    · subst e0; exact ⟨nI (v.1 4), by rw [if_pos rfl, gI_eq, c4], by rw [if_pos rfl, ck_inbL (by decide)]; exact congrArg some p2⟩
    rw [if_neg e0, if_neg e0]
    by_cases e0 : x = 3
    · subst e0; exact ⟨nI (v.1 8), by rw [if_pos rfl, gI_eq, c8], by rw [if_pos rfl, ck_inbL (by decide)]; exact congrArg some p3⟩
    rw [if_neg e0, if_neg e0]
    by_cases e0 : x = 4
    · subst e0; exact ⟨nI (v.1 9), by rw [if_pos rfl, gI_eq, c9], by rw [if_pos rfl, ck_inbL (by decide)]; exact congrArg some p4⟩
    rw [if_neg e0, if_neg e0]
    by_cases e0 : x = 5
    · subst e0; exact ⟨nI (v.1 10), by rw [if_pos rfl, gI_eq, c10], by rw [if_pos rfl, ck_inbL (by decide)]; exact congrArg some p5⟩
    rw [if_neg e0, if_neg e0]
    by_cases e0 : x = 6
    · subst e0; exact ⟨nI tl, by rw [if_pos rfl, gI_eq, l2], by rw [if_pos rfl, gI_eq, l3]⟩
    rw [if_neg e0, if_neg e0]
    by_cases e0 : x = 7
    · subst e0; exact ⟨nI kn, by rw [if_pos rfl, gI_eq, k2], by rw [if_pos rfl, gI_eq, k3]⟩
    rw [if_neg e0, if_neg e0]
    by_cases e0 : x = 8
    · subst e0; exact ⟨nI sz, by rw [if_pos rfl, gI_eq, t2], by rw [if_pos rfl, gI_eq, t3]⟩
    rw [if_neg e0, if_neg e0]
    exact ⟨-1, rfl, rfl⟩
  obtain ⟨r, h1, h2⟩ := key
  exact ⟨r, σ, b, by unfold F_count; rw [h1]; rfl, by unfold G_count; rw [h2]; rfl, hr.mono⟩
theorem s_type : Sim1 Rel F_type G_type := by
  intro σ b n x hn hr
  obtain ⟨v, w, ok, hL, hM, hS, hB, hT, hx, hy, ht, hj, hi⟩ := id hr
  obtain ⟨sz, h1, h2, h3, h4⟩ := hx
  rcases wi x 0 255 (by decide) (by decide) with ⟨d, -, -, rfl, w1, w2⟩ | ⟨-, w1, w2⟩
  · have w1 : f_5_isWithin (nI d) 0 255 = some 1 := w1
    have w2 : f_6_in (nI d).toInt64 0 255 = some 1 := w2
    by_cases hf : sz < 150
    · refine ⟨nI (sz + 1), (σ.1, σ.2.1, pI (pA (sT σ) 0 (nI sz) (nI d)) 1 (nI (sz + 1)), σ.2.2.2), pI (pA b 0 (nI sz) (nI d)) 1 (nI (sz + 1)), ?_, ?_, ?_⟩
      · have e1 : f_5_type (sT σ) (nI d) = some (nI (sz + 1), pI (pA (sT σ) 0 (nI sz) (nI d)) 1 (nI (sz + 1))) := by
          unfold f_5_type f_4_take
          rw [w1, Option.bind_some, if1, gI_eq, h2, if_pos (show nI sz < 150 from nI_lt (b := 150) hf (by decide)), ck_inb hf (by decide)]
          unfold bs
          rw [Option.bind_some]
          show f_5_type_42 _ _ = _
          unfold f_5_type_42
          rw [show gI (pA (sT σ) 0 (nI sz) (nI d)) 1 = nI sz from h2, nI_1]
          rfl
        unfold F_type
        rw [e1]; rfl
      · have e1 : f_6_type b (nI d) = some (nI (sz + 1), pI (pA b 0 (nI sz) (nI d)) 1 (nI (sz + 1))) := by
          unfold f_6_type
          rw [w2, Option.bind_some, if1, gI_eq, h3, if_neg (by rw [show (150 : Int32) = nI 150 from rfl, nI_eq (by omega) (by decide)]; omega), ck_inb hf (by decide)]
          show some (gI (pA b 0 (nI sz) (nI d)) 1 + 1, pI (pA b 0 (nI sz) (nI d)) 1 (gI (pA b 0 (nI sz) (nI d)) 1 + 1)) = _
          rw [show gI (pA b 0 (nI sz) (nI d)) 1 = nI sz from h3, nI_1]
        unfold G_type
        rw [e1]; rfl
      · refine ⟨v, w, Rel0.mono (B := 1000 * n) ⟨ok, hL, hM, hS, hB, hT, ⟨sz + 1, by omega, rfl, rfl, fun i hi => ?_⟩, hy, ht, hj, hi⟩ (by omega)⟩
        show (pA (sT σ) 0 (nI sz) (nI d)).2.1 0 i = (pA b 0 (nI sz) (nI d)).2.1 0 i
        rw [pA_same, pA_same, nI_clamp (by omega)]
        by_cases he : i = sz
        · rw [he, upd_s, upd_s]
        · rw [upd_n _ _ he, upd_n _ _ he]
          exact h4 i (by omega)
    · obtain rfl : sz = 150 := by omega
      refine ⟨-3, σ, b, ?_, ?_, hr.mono⟩
      · have e1 : f_5_type (sT σ) (nI d) = some (-3, sT σ) := by
          unfold f_5_type f_4_take
          rw [w1, Option.bind_some, if1, gI_eq, h2, if_neg (by decide)]
          rfl
        unfold F_type
        rw [e1]; rfl
      · have e1 : f_6_type b (nI d) = some (-3, b) := by
          unfold f_6_type
          rw [w2, Option.bind_some, if1, gI_eq, h3]
          rfl
        unfold G_type
        rw [e1]; rfl
  · have w1 : f_5_isWithin x 0 255 = some 0 := w1
    have w2 : f_6_in x.toInt64 0 255 = some 0 := w2
    refine ⟨-1, σ, b, ?_, ?_, hr.mono⟩
    · have e1 : f_5_type (sT σ) x = some (-1, sT σ) := by
        unfold f_5_type
        rw [w1]; rfl
      unfold F_type
      rw [e1]; rfl
    · have e1 : f_6_type b x = some (-1, b) := by
        unfold f_6_type
        rw [w2]; rfl
      unfold G_type
      rw [e1]; rfl
theorem s_lends : Sim2 Rel F_lends G_lends := by
  intro σ b n x y hn hr
  obtain ⟨v, w, ok, hL, hM, hS, hB, hT, hx, hy, ht, hj, hi⟩ := id hr
  have h30 := ok.days
  have key : ∃ r, f_5_lends (sL σ) x y = some r ∧ f_6_lends b x y = some r := by
    unfold f_5_lends f_6_lends f_5_lends_18 f_6_lends_29 f_6_lends_30
    rcases isDay2 hL hM ok x with ⟨d, hd, rfl, i1, i2⟩ | ⟨i1, i2⟩
    · rw [i1, i2, Option.bind_some, Option.bind_some, if1, if1]
      rcases wi y 1 9 (by decide) (by decide) with ⟨m, m1, m2, rfl, w1, w2⟩ | ⟨-, w1, w2⟩
      · have w1 : f_5_isWithin (nI m) 1 9 = some 1 := w1
        have w2 : f_6_in (nI m).toInt64 1 9 = some 1 := w2
        rw [w1, w2, Option.bind_some, Option.bind_some, if1, if1, lentC hL ok (by omega) m2, lentM hM ok (by omega) m2]
        exact ⟨_, rfl, rfl⟩
      · have w1 : f_5_isWithin y 1 9 = some 0 := w1
        have w2 : f_6_in y.toInt64 1 9 = some 0 := w2
        rw [w1, w2]
        exact ⟨-1, rfl, rfl⟩
    · rw [i1, i2]
      exact ⟨-1, rfl, rfl⟩
  obtain ⟨r, h1, h2⟩ := key
  exact ⟨r, σ, b, by unfold F_lends; rw [h1]; rfl, by unfold G_lends; rw [h2]; rfl, hr.mono⟩
theorem s_loan : Sim2 Rel F_loan G_loan := by
  intro σ b n x y hn hr
  obtain ⟨v, w, ok, hL, hM, hS, hB, hT, hx, hy, ht, hj, hi⟩ := id hr
  have key : ∃ r, f_5_loan (sN σ) x y = some r ∧ f_6_loan b x y = some r := by
    unfold f_5_loan f_6_loan f_5_loan_16 f_6_loan_19 f_6_loan_46
    rcases isLoan2 x with ⟨d, hd, rfl, i1, i2⟩ | ⟨i1, i2⟩
    · rw [i1, i2, Option.bind_some, Option.bind_some, if1, if1]
      rcases wi y 0 2 (by decide) (by decide) with ⟨m, m1, m2, rfl, w1, w2⟩ | ⟨-, w1, w2⟩
      · have w1' : f_5_isWithin (nI m) 0 2 = some 1 := w1
        have w2' : f_6_in (nI m).toInt64 0 2 = some 1 := w2
        rw [w1', w2', Option.bind_some, Option.bind_some, if1, if1, loanDaysM hB hd, Option.bind_some]
        by_cases h0 : w.1 d = 0
        · have f1 : f_2_isFree (sN σ) (nI d) = some 1 := by rw [isFreeC hS hd, if_pos h0]
          rw [f1, Option.bind_some, if1, if_pos h0]
          exact ⟨-9, rfl, rfl⟩
        · have f1 : f_2_isFree (sN σ) (nI d) = some 0 := by rw [isFreeC hS hd, if_neg h0]
          rw [f1, Option.bind_some, if0, if_neg h0, ck_inb hd (by decide), ck_inb hd (by decide), ck_inb hd (by decide)]
          have e2 : (3 : Int32) + 3 * nI d + nI m = nI (3 + 3 * d + m) := by rw [show (3 : Int32) = nI 3 from rfl, ix3, nI_add]
          rw [e2, ck_inb (by omega) (by decide)]
          rcases (show m = 0 ∨ m = 1 ∨ m = 2 by omega) with rfl | rfl | rfl
          · exact ⟨w.1 d, congrArg some (hS.days hd), congrArg some (hB.days hd)⟩
          · refine ⟨_, congrArg some (hS.lent hd), ?_⟩
            rw [show 3 + 3 * d + 1 = 4 + 3 * d by omega, hB.lent hd]
          · refine ⟨_, congrArg some (hS.age hd), ?_⟩
            rw [show 3 + 3 * d + 2 = 5 + 3 * d by omega, hB.age hd]
      · have w1' : f_5_isWithin y 0 2 = some 0 := w1
        have w2' : f_6_in y.toInt64 0 2 = some 0 := w2
        rw [w1', w2']
        exact ⟨-1, rfl, rfl⟩
    · rw [i1, i2]
      exact ⟨-1, rfl, rfl⟩
  obtain ⟨r, h1, h2⟩ := key
  exact ⟨r, σ, b, by unfold F_loan; rw [h1]; rfl, by unfold G_loan; rw [h2]; rfl, hr.mono⟩
