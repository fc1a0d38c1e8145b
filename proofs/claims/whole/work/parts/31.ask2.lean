-- now, mark, tells
theorem gM {b : BV} {v : LV} {w : SV} (hL : LM (b.2.1 7) v) (ok : OkL v) (hS : SM (b.2.1 8) 0 w) : ∀ (k n d : Nat), d + k = v.1 1 → k < n → f_6_gap_6 b n (nI (gpN (fun j => !bt (awayW w) j) d).2) (nI (gpN (fun j => !bt (awayW w) j) d).1) (nI d) = some (nI (gpN (fun j => !bt (awayW w) j) (v.1 1)).2) := by
  have h4 := ok.days
  intro k
  induction k with
  | zero =>
    intro n d hd hn
    obtain ⟨n, rfl⟩ : ∃ m, n = m + 1 := ⟨n - 1, by omega⟩
    show f_6_gap_6_b b (f_6_gap_6 b n) _ _ _ = _
    unfold f_6_gap_6_b
    rw [daysM hL, Option.bind_some, if_pos (nI_le (by omega) (by omega)), ← hd]
    rfl
  | succ k ih =>
    intro n d hd hn
    obtain ⟨n, rfl⟩ : ∃ m, n = m + 1 := ⟨n - 1, by omega⟩
    show f_6_gap_6_b b (f_6_gap_6 b n) _ _ _ = _
    have hle := gpN_le (q := fun j => !bt (awayW w) j) d
    unfold f_6_gap_6_b f_6_gap_33 f_6_gap_44
    rw [daysM hL, Option.bind_some, if_neg (nI_ge (by omega) (by omega)), notInM hS, Option.bind_some]
    simp only [nI_1]
    rw [← ih n (d + 1) (by omega) (by omega)]
    generalize hq : (fun j => !bt (awayW w) j) = q at hle ⊢
    by_cases hb : bt (awayW w) d = true
    · have hqd : ¬ (q d = true) := by rw [← hq]; simp [hb]
      have e1 : (gpN q (d + 1)).1 = (gpN q d).1 + 1 := by
        show (if _ then _ else _) = _
        rw [if_neg hqd]
      have e2 : (gpN q (d + 1)).2 = max (gpN q d).2 ((gpN q d).1 + 1) := by
        show max _ _ = _
        rw [if_neg hqd]
      rw [if_pos ((bit_test1 _ (by omega)).mpr hb), e1, e2]
      by_cases hm : (gpN q d).2 < (gpN q d).1 + 1
      · rw [if_neg (nI_ge hm (by omega))]
        congr 2; omega
      · rw [if_pos (nI_le (by omega) (by omega))]
        congr 2; omega
    · have hqd : q d = true := by rw [← hq]; simpa using hb
      have e1 : (gpN q (d + 1)).1 = 0 := by
        show (if _ then _ else _) = _
        rw [if_pos hqd]
      have e2 : (gpN q (d + 1)).2 = (gpN q d).2 := by
        show max _ _ = _
        rw [if_pos hqd]; omega
      rw [if_neg (fun h => hb ((bit_test1 _ (by omega)).mp h)), e1, e2, if_pos (show (0 : Int32) ≤ nI (gpN q d).2 from nI_pos' (by omega))]
      rfl
theorem gapM {b : BV} {v : LV} {w : SV} (hL : LM (b.2.1 7) v) (ok : OkL v) (hS : SM (b.2.1 8) 0 w) : f_6_gap b = some (nI (gpN (fun j => !bt (awayW w) j) (v.1 1)).2) := gM hL ok hS (v.1 1) 200 0 (by omega) (by have := ok.days; omega)
theorem s_now : Sim1 Rel F_now G_now := by
  intro σ b n x hn hr
  obtain ⟨v, w, ok, hL, hM, hS, hB, hT, hx, hy, ht, hj, hi⟩ := id hr
  have h30 := ok.days
  have key : ∃ r, f_5_now (sL σ) (sN σ) x = some r ∧ f_6_now b x = some r := by
    obtain ⟨z, hz, hzb⟩ := daysInX hL ok hS
    unfold f_5_now f_6_now
    by_cases e0 : x = 0
    · subst e0; exact ⟨_, by rw [if_pos rfl, hS.purse], by rw [if_pos rfl, ck_inbL (by decide), hB.purse]⟩
    rw [if_neg e0, if_neg e0]
    by_cases e0 : x = 1
    · subst e0; exact ⟨_, by rw [if_pos rfl, hS.years], by rw [if_pos rfl, ck_inbL (by decide), hB.years]⟩
    rw [if_neg e0, if_neg e0]
    by_cases e0 : x = 2
    · subst e0; exact ⟨_, by rw [if_pos rfl, daysOutC hS]; rfl, by rw [if_pos rfl, outM hB]; rfl⟩
    rw [if_neg e0, if_neg e0]
    by_cases e0 : x = 3
    · subst e0; exact ⟨_, by rw [if_pos rfl, hS.lapsed], by rw [if_pos rfl, ck_inbL (by decide), hB.lapsed]⟩
    rw [if_neg e0, if_neg e0]
    by_cases e0 : x = 4
    · subst e0
      refine ⟨nI (harv v (bt z)), by rw [if_pos rfl, hz, Option.bind_some, harvC hL ok]; rfl, ?_⟩
      rw [if_pos rfl, notInM hB, Option.bind_some, harvM hM ok, harv_now ok w hzb]; rfl
    rw [if_neg e0, if_neg e0]
    by_cases e0 : x = 5
    · subst e0
      refine ⟨_, by rw [if_pos rfl, hz, Option.bind_some, gapC hL ok]; rfl, ?_⟩
      rw [if_pos rfl, gapM hM ok hB, gpN_congr (q' := bt z) _ (fun j hj => by rw [hzb j (by omega), away_in w hj])]; rfl
    rw [if_neg e0, if_neg e0]
    by_cases e0 : x = 6
    · subst e0
      have l0 : f_6_lent b 0 = some (nI (w.2.1 0)) := lentLM hB (l := 0) (by omega)
      have l1 : f_6_lent b 1 = some (nI (w.2.1 1)) := lentLM hB (l := 1) (by omega)
      have l2 : f_6_lent b 2 = some (nI (w.2.1 2)) := lentLM hB (l := 2) (by omega)
      have l3 : f_6_lent b 3 = some (nI (w.2.1 3)) := lentLM hB (l := 3) (by omega)
      refine ⟨nI (w.2.1 0 + w.2.1 1 + w.2.1 2 + w.2.1 3), ?_, ?_⟩
      · rw [if_pos rfl]
        unfold f_2_owed
        rw [costC hS, Option.bind_some, Option.bind_some]
        have h : ∀ l, l < 4 → bt 15 l = true := by decide
        rw [sumN_s, sumN_s, sumN_s, sumN_s]
        simp only [h 0 (by decide), h 1 (by decide), h 2 (by decide), h 3 (by decide), if_true, sumN, Nat.zero_add]
      · rw [if_pos rfl, l0, l1, l2, l3]
        simp only [Option.bind_some, nI_add]
    rw [if_neg e0, if_neg e0]
    exact ⟨-1, rfl, rfl⟩
  obtain ⟨r, h1, h2⟩ := key
  exact ⟨r, σ, b, by unfold F_now; rw [h1]; rfl, by unfold G_now; rw [h2]; rfl, hr.mono⟩
theorem s_tells : Sim2 Rel F_tells G_tells := by
  intro σ b n x y hn hr
  obtain ⟨v, w, ok, hL, hM, hS, hB, hT, hx, hy, ht, hj, hi⟩ := id hr
  have h4 := ok.crops
  obtain ⟨tl, t1, t2, t3, t4⟩ := ht
  have bad : f_5_tells (sX σ) (sL σ) x y = some (-1, sX σ) → f_6_tells b x y = some (-1, b) → ∃ r σ2 b2, F_tells σ x y = some (r, σ2) ∧ G_tells b x y = some (r, b2) ∧ Rel σ2 b2 (n + 1) := fun h1 h2 => ⟨-1, σ, b, by unfold F_tells; rw [h1]; rfl, by unfold G_tells; rw [h2]; rfl, hr.mono⟩
  rcases isCrop2 hL hM ok x with ⟨c, hc, rfl, i1, i2⟩ | ⟨i1, i2⟩
  · rcases wi y 0 1 (by decide) (by decide) with ⟨m, m1, m2, rfl, w1, w2⟩ | ⟨w0, w1, w2⟩
    · have w1 : f_5_isWithin (nI m) 0 1 = some 1 := w1
      have w2 : f_6_in (nI m).toInt64 0 1 = some 1 := w2
      by_cases hf : tl < 6
      · have e1 : f_5_tells (sX σ) (sL σ) (nI c) (nI m) = some (nI (tl + 1), pI (pA (pA (sX σ) 6 (nI tl) (nI c)) 7 (nI tl) (nI m)) 8 (nI (tl + 1))) := by
          unfold f_5_tells
          rw [i1, Option.bind_some, if1, w1, Option.bind_some, if1, gI_eq, t2, if_pos (show nI tl < 6 from nI_lt (b := 6) hf (by decide)), ck_inb hf (by decide)]
          show ck (inb (gI (pA (sX σ) 6 (nI tl) (nI c)) 8) 6) _ = _
          rw [show gI (pA (sX σ) 6 (nI tl) (nI c)) 8 = nI tl from t2, ck_inb hf (by decide)]
          show some (gI (pA (pA (sX σ) 6 (nI tl) (nI c)) 7 (nI tl) (nI m)) 8 + 1, pI (pA (pA (sX σ) 6 (nI tl) (nI c)) 7 (nI tl) (nI m)) 8 (gI (pA (pA (sX σ) 6 (nI tl) (nI c)) 7 (nI tl) (nI m)) 8 + 1)) = _
          rw [show gI (pA (pA (sX σ) 6 (nI tl) (nI c)) 7 (nI tl) (nI m)) 8 = nI tl from t2, nI_1]
        have e2 : f_6_tells b (nI c) (nI m) = some (nI (tl + 1), pI (pA (pA b 13 (nI tl) (nI c)) 14 (nI tl) (nI m)) 12 (nI (tl + 1))) := by
          unfold f_6_tells
          rw [i2, Option.bind_some, if1, w2, Option.bind_some, if1, gI_eq, t3, if_neg (show ¬ nI tl = 6 by rw [show (6 : Int32) = nI 6 from rfl, nI_eq (by omega) (by decide)]; omega), ck_inb hf (by decide)]
          show ck (inb (gI (pA b 13 (nI tl) (nI c)) 12) 6) _ = _
          rw [show gI (pA b 13 (nI tl) (nI c)) 12 = nI tl from t3, ck_inb hf (by decide)]
          show some (gI (pA (pA b 13 (nI tl) (nI c)) 14 (nI tl) (nI m)) 12 + 1, pI (pA (pA b 13 (nI tl) (nI c)) 14 (nI tl) (nI m)) 12 (gI (pA (pA b 13 (nI tl) (nI c)) 14 (nI tl) (nI m)) 12 + 1)) = _
          rw [show gI (pA (pA b 13 (nI tl) (nI c)) 14 (nI tl) (nI m)) 12 = nI tl from t3, nI_1]
        refine ⟨nI (tl + 1), (pI (pA (pA (sX σ) 6 (nI tl) (nI c)) 7 (nI tl) (nI m)) 8 (nI (tl + 1)), σ.2), pI (pA (pA b 13 (nI tl) (nI c)) 14 (nI tl) (nI m)) 12 (nI (tl + 1)), by unfold F_tells; rw [e1]; rfl, by unfold G_tells; rw [e2]; rfl, v, w, Rel0.mono (B := 1000 * n) ⟨ok, hL, hM, hS, hB, hT, hx, hy, ⟨tl + 1, by omega, rfl, rfl, fun i hi => ?_⟩, hj, ?_⟩ (by omega)⟩
        · have q1 : (pA (pA (sX σ) 6 (nI tl) (nI c)) 7 (nI tl) (nI m)).2.1 6 i = upd ((sX σ).2.1 6) tl (nI c) i := by
            rw [pA_ne _ _ _ (by decide), pA_same, nI_clamp (by omega)]
          have q2 : (pA (pA (sX σ) 6 (nI tl) (nI c)) 7 (nI tl) (nI m)).2.1 7 i = upd ((sX σ).2.1 7) tl (nI m) i := by
            rw [pA_same, pA_ne _ _ _ (by decide), nI_clamp (by omega)]
          have q3 : (pA (pA b 13 (nI tl) (nI c)) 14 (nI tl) (nI m)).2.1 13 i = upd (b.2.1 13) tl (nI c) i := by
            rw [pA_ne _ _ _ (by decide), pA_same, nI_clamp (by omega)]
          have q4 : (pA (pA b 13 (nI tl) (nI c)) 14 (nI tl) (nI m)).2.1 14 i = upd (b.2.1 14) tl (nI m) i := by
            rw [pA_same, pA_ne _ _ _ (by decide), nI_clamp (by omega)]
          by_cases he : i = tl
          · subst he
            exact ⟨c, m, hc, m2, q1.trans (upd_s _ _ _), q3.trans (upd_s _ _ _), q2.trans (upd_s _ _ _), q4.trans (upd_s _ _ _)⟩
          · obtain ⟨cr, s, g1, g2, g3, g4, g5, g6⟩ := t4 i (by omega)
            exact ⟨cr, s, g1, g2, (q1.trans (upd_n _ _ he)).trans g3, (q3.trans (upd_n _ _ he)).trans g4, (q2.trans (upd_n _ _ he)).trans g5, (q4.trans (upd_n _ _ he)).trans g6⟩
        · intro i hi2
          have hh := hi i hi2
          exact hh
      · obtain rfl : tl = 6 := by omega
        refine ⟨-3, σ, b, ?_, ?_, hr.mono⟩
        · have e1 : f_5_tells (sX σ) (sL σ) (nI c) (nI m) = some (-3, sX σ) := by
            unfold f_5_tells
            rw [i1, Option.bind_some, if1, w1, Option.bind_some, if1, gI_eq, t2, if_neg (by decide)]
          unfold F_tells
          rw [e1]; rfl
        · have e1 : f_6_tells b (nI c) (nI m) = some (-3, b) := by
            unfold f_6_tells
            rw [i2, Option.bind_some, if1, w2, Option.bind_some, if1, gI_eq, t3]
            rfl
          unfold G_tells
          rw [e1]; rfl
    · have w1 : f_5_isWithin y 0 1 = some 0 := w1
      have w2 : f_6_in y.toInt64 0 1 = some 0 := w2
      exact bad (by unfold f_5_tells; rw [i1, Option.bind_some, if1, w1]; rfl) (by unfold f_6_tells; rw [i2, Option.bind_some, if1, w2]; rfl)
  · exact bad (by unfold f_5_tells; rw [i1]; rfl) (by unfold f_6_tells; rw [i2]; rfl)
theorem pJ_pJ (X : BV) (a c : Int64) : pJ (pJ X a) c = pJ X c := rfl
theorem gJ_pJ (X : BV) (a : Int64) : gJ (pJ X a) = a := rfl
theorem s_mark : Sim2 Rel F_mark G_mark := by
  intro σ b n x y hn hr
  obtain ⟨v, w, ok, hL, hM, hS, hB, hT, hx, hy, ht, hj, hi⟩ := id hr
  have h4 := ok.crops
  have bad : f_5_mark (sX σ) (sL σ) (sN σ) x y = some (-1000000, sX σ) → f_6_mark b x y = some (-1000000, b) → ∃ r σ2 b2, F_mark σ x y = some (r, σ2) ∧ G_mark b x y = some (r, b2) ∧ Rel σ2 b2 (n + 1) := fun h1 h2 => ⟨-1000000, σ, b, by unfold F_mark; rw [h1]; rfl, by unfold G_mark; rw [h2]; rfl, hr.mono⟩
  have good : ∀ (r : Int32) (j : Int64), f_5_mark (sX σ) (sL σ) (sN σ) x y = some (r, pJ (sX σ) (gJ (sX σ) + j)) → f_6_mark b x y = some (r, pJ b (gJ b + j)) → ∃ r σ2 b2, F_mark σ x y = some (r, σ2) ∧ G_mark b x y = some (r, b2) ∧ Rel σ2 b2 (n + 1) := fun r j h1 h2 => ⟨r, (pJ (sX σ) (gJ (sX σ) + j), σ.2), pJ b (gJ b + j), by unfold F_mark; rw [h1]; rfl, by unfold G_mark; rw [h2]; rfl, v, w, Rel0.mono (B := 1000 * n) ⟨ok, hL, hM, hS, hB, hT, hx, hy, ht, by show gJ (sX σ) + j = gJ b + j; unfold gJ; rw [hj], hi⟩ (by omega)⟩
  rcases isCrop2 hL hM ok y with ⟨c, hc, rfl, i1, i2⟩ | ⟨i1, i2⟩
  · rcases wi x 0 5 (by decide) (by decide) with ⟨m, m1, m2, rfl, w1, w2⟩ | ⟨w0, w1, w2⟩
    · have w2 : f_6_in (nI m).toInt64 0 5 = some 1 := w2
      have e1 : ∀ m, m ≤ 2 → (67 : Int32) + 3 * nI c + nI m = nI (67 + m + 3 * c) := fun m hm => by
        rw [show (67 : Int32) = nI 67 from rfl, show (3 : Int32) = nI 3 from rfl, ix3, nI_add]; congr 1; omega
      have e67 : (67 : Int32) + 3 * nI c = nI (67 + 3 * c) := by
        rw [show (67 : Int32) = nI 67 from rfl, show (3 : Int32) = nI 3 from rfl, ix3]
      have e68 : (67 : Int32) + 3 * nI c + 1 = nI (68 + 3 * c) := e1 1 (by omega)
      have e69 : (67 : Int32) + 3 * nI c + 2 = nI (69 + 3 * c) := e1 2 (by omega)
      have hwo : ∀ j, f_6_worth (pJ b j) (nI c) = some (nI (v.2 7 c)) := fun j => by
        unfold f_6_worth
        rw [e69, ck_inb (by omega) (by decide), show gA (pJ b j) 7 (nI (69 + 3 * c)) = gA b 7 (nI (69 + 3 * c)) from rfl, hM.worth ok hc]
      have hC : ∀ X, f_5_markAsCrop X (sL σ) (nI c) = some (nI (v.2 7 c), pJ X (gJ X + 1)) := fun X => by
        unfold f_5_markAsCrop
        rw [ck_inb (by omega) (by decide), hL.worth ok hc]
      have hH : ∀ X, f_5_markAsHay X (sL σ) (nI c) = some (nI (v.2 7 c) + nI (v.2 5 c), pJ X (gJ X + 10 + 1)) := fun X => by
        unfold f_5_markAsHay
        rw [hC, Option.bind_some, ck_inb (by omega) (by decide), hL.needs ok hc]; rfl
      have hPl : ∀ X, f_5_markAsPlum X (sL σ) (nI c) = some (nI (v.2 7 c) - nI (v.2 6 c), pJ X (gJ X + 100 + 1)) := fun X => by
        unfold f_5_markAsPlum
        rw [hC, Option.bind_some, ck_inb (by omega) (by decide), hL.least ok hc]; rfl
      have a64 : ∀ (z a c d : Int64), a + c = d → z + a + c = z + d := fun z a c d h => by rw [Int64.add_assoc, h]
      rcases (show m = 0 ∨ m = 1 ∨ m = 2 ∨ m = 3 ∨ m = 4 ∨ m = 5 by omega) with rfl | rfl | rfl | rfl | rfl | rfl
      · refine good (nI (v.2 7 c)) 1 ?_ ?_
        · unfold f_5_mark
          rw [i1, Option.bind_some, if1, if_pos (show nI 0 = (0 : Int32) from rfl), hC]; rfl
        · unfold f_6_mark f_6_mark_83
          rw [w2, Option.bind_some, if1, i2, Option.bind_some, if1, if_pos (show nI 0 = (0 : Int32) from rfl), hwo, Option.bind_some, e68, ck_inb (by omega) (by decide), if_pos (show nI 0 = (0 : Int32) from rfl)]; rfl
      · refine good (nI (v.2 7 c) + nI (v.2 5 c)) 11 ?_ ?_
        · unfold f_5_mark
          rw [i1, Option.bind_some, if1, if_neg (by decide), if_pos (show nI 1 = (1 : Int32) from rfl), hH, a64 _ 10 1 11 (by decide)]; rfl
        · unfold f_6_mark f_6_mark_83
          rw [w2, Option.bind_some, if1, i2, Option.bind_some, if1, if_neg (by decide), if_pos (show nI 1 = (1 : Int32) from rfl), hwo, Option.bind_some, e68, ck_inb (by omega) (by decide), if_neg (by decide), if_pos (show nI 1 = (1 : Int32) from rfl), Option.bind_some, e67, ck_inb (by omega) (by decide), hM.needs ok hc]
      · refine good (nI (v.2 7 c) - nI (v.2 6 c)) 101 ?_ ?_
        · unfold f_5_mark
          rw [i1, Option.bind_some, if1, if_neg (by decide), if_neg (by decide), if_pos (show nI 2 = (2 : Int32) from rfl), hPl, a64 _ 100 1 101 (by decide)]; rfl
        · unfold f_6_mark f_6_mark_83
          rw [w2, Option.bind_some, if1, i2, Option.bind_some, if1, if_neg (by decide), if_neg (by decide), if_pos (show nI 2 = (2 : Int32) from rfl), hwo, Option.bind_some, e68, ck_inb (by omega) (by decide), if_neg (by decide), if_neg (by decide), if_pos (show nI 2 = (2 : Int32) from rfl), hM.least ok hc]
      · refine good ((nI (v.2 7 c) + nI (v.2 5 c)) * 2) 1011 ?_ ?_
        · unfold f_5_mark f_5_markAsClover
          rw [i1, Option.bind_some, if1, if_neg (by decide), if_neg (by decide), if_neg (by decide), if_pos (show nI 3 = (3 : Int32) from rfl), hH, Option.bind_some, Option.bind_some]
          simp only [pJ_pJ, gJ_pJ]
          rw [a64 (gJ (sX σ) + 1000) 10 1 11 (by decide), a64 _ 1000 11 1011 (by decide)]
        · unfold f_6_mark f_6_mark_83
          rw [w2, Option.bind_some, if1, i2, Option.bind_some, if1, if_neg (by decide), if_neg (by decide), if_neg (by decide), if_pos (show nI 3 = (3 : Int32) from rfl), hwo, Option.bind_some, e68, ck_inb (by omega) (by decide), if_neg (by decide), if_neg (by decide), if_neg (by decide), if_pos (show nI 3 = (3 : Int32) from rfl), Option.bind_some, e67, ck_inb (by omega) (by decide), hM.needs ok hc, Int32.mul_comm]
      · have hrn := ripensNowC hL ok hS hc
        have hri := ripM hM ok hc (awayW w)
        have f1 : f_5_mark (sX σ) (sL σ) (sN σ) (nI 4) (nI c) = some (nI (v.2 7 c) - nI (v.2 6 c) + (if oI (rip v c (fun j => !bt (awayW w) j)) = -9 then 0 else 9), pJ (sX σ) (gJ (sX σ) + 10101)) := by
          unfold f_5_mark f_5_markAsSloe f_5_markAsSloe_31
          rw [i1, Option.bind_some, if1, if_neg (by decide), if_neg (by decide), if_neg (by decide), if_neg (by decide), if_pos (show nI 4 = (4 : Int32) from rfl), hPl, Option.bind_some, hrn, Option.bind_some]
          have ea : (pJ (pJ (sX σ) (gJ (sX σ) + 10000)) (gJ (pJ (sX σ) (gJ (sX σ) + 10000)) + 100 + 1)) = pJ (sX σ) (gJ (sX σ) + 10101) := by
            rw [pJ_pJ, gJ_pJ, a64 (gJ (sX σ) + 10000) 100 1 101 (by decide), a64 _ 10000 101 10101 (by decide)]
          by_cases h9 : oI (rip v c (fun j => !bt (awayW w) j)) = -9
          · rw [if_pos h9, if0, Option.bind_some, if_pos h9]
            show some (_, pJ (pJ (sX σ) (gJ (sX σ) + 10000)) (gJ (pJ (sX σ) (gJ (sX σ) + 10000)) + 100 + 1)) = _
            rw [ea]
          · rw [if_neg h9, if1, Option.bind_some, if_neg h9]
            show some (_, pJ (pJ (sX σ) (gJ (sX σ) + 10000)) (gJ (pJ (sX σ) (gJ (sX σ) + 10000)) + 100 + 1)) = _
            rw [ea]
        refine good _ 10101 f1 ?_
        unfold f_6_mark f_6_mark_83 f_6_mark_211
        have hB2 : SM ((pJ b (gJ b + 10101)).2.1 8) 0 w := hB
        have hM2 : LM ((pJ b (gJ b + 10101)).2.1 7) v := hM
        rw [w2, Option.bind_some, if1, i2, Option.bind_some, if1, if_neg (by decide), if_neg (by decide), if_neg (by decide), if_neg (by decide), if_pos (show nI 4 = (4 : Int32) from rfl), hwo, Option.bind_some, e68, ck_inb (by omega) (by decide), if_neg (by decide), if_neg (by decide), if_neg (by decide), if_neg (by decide), if_pos (show nI 4 = (4 : Int32) from rfl), notInM hB2, Option.bind_some, ripM hM2 ok hc, Option.bind_some, hM.least ok hc]
        by_cases h9 : oI (rip v c (fun j => !bt (awayW w) j)) = -9
        · rw [if_pos h9, if_pos h9]
        · rw [if_neg h9, if_neg h9]
      · refine good (nI (v.2 7 c) + nI w.2.2.2.2.2) 100001 ?_ ?_
        · unfold f_5_mark f_5_markAsLamb
          rw [i1, Option.bind_some, if1, if_neg (by decide), if_neg (by decide), if_neg (by decide), if_neg (by decide), if_neg (by decide), if_pos (show nI 5 = (5 : Int32) from rfl), hC, Option.bind_some, Option.bind_some, hS.years]
          simp only [pJ_pJ, gJ_pJ]
          rw [a64 _ 100000 1 100001 (by decide)]
        · unfold f_6_mark f_6_mark_83
          have hy8 : gA b 8 1 = nI w.2.2.2.2.2 := hB.years
          rw [w2, Option.bind_some, if1, i2, Option.bind_some, if1, if_neg (by decide), if_neg (by decide), if_neg (by decide), if_neg (by decide), if_neg (by decide), hwo, Option.bind_some, e68, ck_inb (by omega) (by decide), if_neg (by decide), if_neg (by decide), if_neg (by decide), if_neg (by decide), if_neg (by decide), Option.bind_some, ck_inbL (by decide), hy8]
    · have w2 : f_6_in x.toInt64 0 5 = some 0 := w2
      refine bad ?_ (by unfold f_6_mark; rw [w2]; rfl)
      unfold f_5_mark
      rw [i1, Option.bind_some, if1, if_neg (show ¬ x = 0 from w0 0 (by omega) (by omega)), if_neg (show ¬ x = 1 from w0 1 (by omega) (by omega)), if_neg (show ¬ x = 2 from w0 2 (by omega) (by omega)), if_neg (show ¬ x = 3 from w0 3 (by omega) (by omega)), if_neg (show ¬ x = 4 from w0 4 (by omega) (by omega)), if_neg (show ¬ x = 5 from w0 5 (by omega) (by omega))]
  · refine bad (by unfold f_5_mark; rw [i1]; rfl) ?_
    unfold f_6_mark
    rcases wi x 0 5 (by decide) (by decide) with ⟨m, m1, m2, rfl, w1, w2⟩ | ⟨w0, w1, w2⟩
    · have w2 : f_6_in (nI m).toInt64 0 5 = some 1 := w2
      rw [w2, Option.bind_some, if1, i2]; rfl
    · have w2 : f_6_in x.toInt64 0 5 = some 0 := w2
      rw [w2]; rfl
