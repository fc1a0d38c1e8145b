-- day, crop, now, mark, tells
theorem lo_step {S : BV} {w : SV} (hS : SC S w) {d l : Nat} (hd : d < 32) (hl : l < 4) (n : Nat) : f_2_loanOf_2 S (n + 1) (nI d) (nI l) = if bt (w.1 l) d = true then some (nI l) else f_2_loanOf_2 S n (nI d) (nI (l + 1)) := by
  show f_2_loanOf_2_b S (f_2_loanOf_2 S n) _ _ = _
  unfold f_2_loanOf_2_b
  rw [if_neg (show ¬ (4 : Int32) ≤ nI l from nI_ge (b := 4) hl (by decide)), ck_inb hl (by decide), hS.days hl, has_eq _ hd, Option.bind_some]
  by_cases hb : bt (w.1 l) d = true
  · rw [if_pos hb, if_pos hb, if1]
  · rw [if_neg hb, if_neg hb, if0, nI_1]
def lnC (w : SV) (d : Nat) : Int32 := if bt (w.1 0) d = true then 0 else if bt (w.1 1) d = true then 1 else if bt (w.1 2) d = true then 2 else if bt (w.1 3) d = true then 3 else -9
theorem loanOfC {S : BV} {w : SV} (hS : SC S w) {d : Nat} (hd : d < 32) : f_2_loanOf S (nI d) = some (lnC w d) := by
  show f_2_loanOf_2 S (199 + 1) (nI d) (nI 0) = _
  unfold lnC
  rw [lo_step hS hd (by omega)]
  by_cases h0 : bt (w.1 0) d = true
  · rw [if_pos h0, if_pos h0]; rfl
  rw [if_neg h0, if_neg h0, show 199 = 198 + 1 from rfl, lo_step hS hd (by omega)]
  by_cases h0 : bt (w.1 1) d = true
  · rw [if_pos h0, if_pos h0]; rfl
  rw [if_neg h0, if_neg h0, show 198 = 197 + 1 from rfl, lo_step hS hd (by omega)]
  by_cases h0 : bt (w.1 2) d = true
  · rw [if_pos h0, if_pos h0]; rfl
  rw [if_neg h0, if_neg h0, show 197 = 196 + 1 from rfl, lo_step hS hd (by omega)]
  by_cases h0 : bt (w.1 3) d = true
  · rw [if_pos h0, if_pos h0]; rfl
  rw [if_neg h0, if_neg h0]
  rfl
theorem dy_step {b : BV} {w : SV} (hS : SM (b.2.1 8) 0 w) {d l : Nat} (hd : d < 32) (hl : l < 4) (n : Nat) (y by' : Int32) : f_6_day_28 b (n + 1) (nI d) y by' (nI l) = f_6_day_28 b n (nI d) y (if bt (w.1 l) d = true then nI l else by') (nI (l + 1)) := by
  show f_6_day_28_b b (f_6_day_28 b n) _ _ _ _ = _
  unfold f_6_day_28_b f_6_day_54
  rw [if_neg (show ¬ (4 : Int32) ≤ nI l from nI_ge (b := 4) hl (by decide)), loanDaysM hS hl, Option.bind_some, nI_1]
  by_cases hb : bt (w.1 l) d = true
  · rw [if_pos ((bit_test1 _ hd).mpr hb), if_pos hb]
  · rw [if_neg (fun h => hb ((bit_test1 _ hd).mp h)), if_neg hb]
def lnM (w : SV) (d : Nat) : Int32 := if bt (w.1 3) d = true then nI 3 else if bt (w.1 2) d = true then nI 2 else if bt (w.1 1) d = true then nI 1 else if bt (w.1 0) d = true then nI 0 else -9
theorem dayLoopM {b : BV} {w : SV} (hS : SM (b.2.1 8) 0 w) {d : Nat} (hd : d < 32) (y : Int32) : f_6_day_28 b 200 (nI d) y (-9) 0 = f_6_day_80 b (nI d) y (lnM w d) (if bt w.2.2.2.1 d = true then 1 else 0) := by
  show f_6_day_28 b (199 + 1) (nI d) y (-9) (nI 0) = _
  rw [dy_step hS hd (by omega), show 199 = 198 + 1 from rfl, dy_step hS hd (by omega), show 198 = 197 + 1 from rfl, dy_step hS hd (by omega), show 197 = 196 + 1 from rfl, dy_step hS hd (by omega)]
  show f_6_day_28_b b (f_6_day_28 b 195) (nI d) y (lnM w d) (nI 4) = _
  unfold f_6_day_28_b
  rw [if_pos (show (4 : Int32) ≤ nI 4 by decide), ck_inbL (by decide), hS.lapsed]
  by_cases hb : bt w.2.2.2.1 d = true
  · rw [if_pos ((bit_test1 _ hd).mpr hb), if_pos hb]
  · rw [if_neg (fun h => hb ((bit_test1 _ hd).mp h)), if_neg hb]
theorem ln_same {v : LV} {w : SV} (ok : OkS v w) (d : Nat) : lnM w d = lnC w d := by
  unfold lnM lnC
  have h := ok.2.2.2.1
  by_cases h3 : bt (w.1 3) d = true
  · have e0 := h 3 0 (by omega) (by omega) (by omega) d h3
    have e1 := h 3 1 (by omega) (by omega) (by omega) d h3
    have e2 := h 3 2 (by omega) (by omega) (by omega) d h3
    simp [h3, e0, e1, e2]; rfl
  by_cases h2 : bt (w.1 2) d = true
  · have e0 := h 2 0 (by omega) (by omega) (by omega) d h2
    have e1 := h 2 1 (by omega) (by omega) (by omega) d h2
    simp [h3, h2, e0, e1]; rfl
  by_cases h1 : bt (w.1 1) d = true
  · have e0 := h 1 0 (by omega) (by omega) (by omega) d h1
    simp [h3, h2, h1, e0]; rfl
  by_cases h0 : bt (w.1 0) d = true
  · simp [h3, h2, h1, h0]; rfl
  simp [h3, h2, h1, h0]
theorem ln_none {w : SV} {d : Nat} : (lnC w d = -9) ↔ bt (outW w) d = false := by
  unfold lnC outW
  rw [b_or, b_or, b_or]
  by_cases h0 : bt (w.1 0) d = true
  · simp [h0]
  by_cases h1 : bt (w.1 1) d = true
  · simp [h0, h1]
  by_cases h2 : bt (w.1 2) d = true
  · simp [h0, h1, h2]
  by_cases h3 : bt (w.1 3) d = true
  · simp [h0, h1, h2, h3]
  simp [h0, h1, h2, h3]
theorem out_lapsed {v : LV} {w : SV} (ok : OkS v w) {d : Nat} (h : bt w.2.2.2.1 d = true) : bt (outW w) d = false := by
  have hh := ok.2.2.2.2
  unfold outW
  rw [b_or, b_or, b_or]
  have e : ∀ l, l < 4 → bt (w.1 l) d = false := fun l hl => by
    cases hb : bt (w.1 l) d
    · rfl
    · have := hh l hl d hb
      rw [h] at this; cases this
  rw [e 0 (by omega), e 1 (by omega), e 2 (by omega), e 3 (by omega)]
  rfl
theorem s_day : Sim2 Rel F_day G_day := by
  intro σ b n x y hn hr
  obtain ⟨v, w, ok, hL, hM, hS, hB, hT, hx, hy, ht, hj, hi⟩ := id hr
  have h30 := ok.days
  have key : ∃ r, f_5_day (sL σ) (sN σ) x y = some r ∧ f_6_day b x y = some r := by
    unfold f_5_day f_6_day f_6_day_20
    rcases isDay2 hL hM ok x with ⟨d, hd, rfl, i1, i2⟩ | ⟨i1, i2⟩
    · rw [i1, i2, Option.bind_some, Option.bind_some, if1, if1]
      rcases wi y 0 3 (by decide) (by decide) with ⟨m, m1, m2, rfl, w1, w2⟩ | ⟨w0, w1, w2⟩
      · have w2 : f_6_in (nI m).toInt64 0 3 = some 1 := w2
        rw [w2, Option.bind_some, if1, dayLoopM hB (by omega), ck_inb (by omega) (by decide), ck_inb (by omega) (by decide)]
        unfold f_6_day_80 f_6_day_144
        rcases (show m = 0 ∨ m = 1 ∨ m = 2 ∨ m = 3 by omega) with rfl | rfl | rfl | rfl
        · refine ⟨_, congrArg some (hL.season ok hd), ?_⟩
          show ck (inb (nI 37 + nI d) 79) (some (gA b 7 (nI 37 + nI d))) = _
          rw [nI_add, ck_inb (by omega) (by decide), hM.season ok hd]
        · refine ⟨_, congrArg some (hL.gift ok hd), ?_⟩
          show ck (inb (nI 7 + nI d) 79) (some (gA b 7 (nI 7 + nI d))) = _
          rw [nI_add, ck_inb (by omega) (by decide), hM.gift ok hd]
        · show ∃ r, (f_5_howDayIs (sN σ) (nI d)).bind (fun z2 => some z2) = some r ∧ (if lnM w d = -9 then (if (if bt w.2.2.2.1 d = true then (1 : Int32) else 0) = 0 then some 0 else some 2) else some 1) = some r
          unfold f_5_howDayIs f_5_howDayIs_40
          rw [hS.lapsed, has_eq _ (by omega), Option.bind_some, loanOfC hS (by omega), Option.bind_some, ln_same hT.1]
          by_cases hl : bt w.2.2.2.1 d = true
          · rw [if_pos hl, if1, if_pos (ln_none.mpr (out_lapsed hT.1 hl)), if1]
            exact ⟨2, rfl, rfl⟩
          · rw [if_neg hl, if0]
            by_cases hz : lnC w d = -9
            · rw [if_pos hz, if_pos hz, if0]
              exact ⟨0, rfl, rfl⟩
            · rw [if_neg hz, if_neg hz]
              exact ⟨1, rfl, rfl⟩
        · show ∃ r, (f_2_loanOf (sN σ) (nI d)).bind (fun z3 => some z3) = some r ∧ some (lnM w d) = some r
          rw [loanOfC hS (by omega), ln_same hT.1]
          exact ⟨_, rfl, rfl⟩
      · have w2 : f_6_in y.toInt64 0 3 = some 0 := w2
        rw [w2, Option.bind_some, if0, if_neg (show ¬ y = 0 from w0 0 (by omega) (by omega)), if_neg (show ¬ y = 1 from w0 1 (by omega) (by omega)), if_neg (show ¬ y = 2 from w0 2 (by omega) (by omega)), if_neg (show ¬ y = 3 from w0 3 (by omega) (by omega))]
        exact ⟨-1, rfl, rfl⟩
    · rw [i1, i2]
      exact ⟨-1, rfl, rfl⟩
  obtain ⟨r, h1, h2⟩ := key
  exact ⟨r, σ, b, by unfold F_day; rw [h1]; rfl, by unfold G_day; rw [h2]; rfl, hr.mono⟩
theorem rip_now {v : LV} (ok : OkL v) (w : SV) {x : Int32} (hx : ∀ d, d < 32 → bt x d = inD v w d) (c : Nat) : rip v c (bt x) = rip v c (fun j => !bt (awayW w) j) := rip_congr (fun j hj => by
  have := ok.days
  rw [hx j (by omega), away_in w hj])
theorem harv_now {v : LV} (ok : OkL v) (w : SV) {x : Int32} (hx : ∀ d, d < 32 → bt x d = inD v w d) : harv v (bt x) = harv v (fun j => !bt (awayW w) j) := harv_congr (fun j hj => by
  have := ok.days
  rw [hx j (by omega), away_in w hj])
theorem ripensNowC {L N : BV} {v : LV} {w : SV} (hL : LC L v) (ok : OkL v) (hS : SC N w) {c : Nat} (hc : c < v.1 4) : f_5_ripensNow L N (nI c) = some (if oI (rip v c (fun j => !bt (awayW w) j)) = -9 then 0 else 1) := by
  obtain ⟨x, hx, hb⟩ := daysInX hL ok hS
  unfold f_5_ripensNow f_5_ripensNow_22
  rw [hx, Option.bind_some, ripC hL ok hc, Option.bind_some, rip_now ok w hb, isb0, isb1]
  by_cases h : oI (rip v c (fun j => !bt (awayW w) j)) = -9
  · rw [if_pos h, if_pos h]
  · rw [if_neg h, if_neg h]
theorem s_crop : Sim2 Rel F_crop G_crop := by
  intro σ b n x y hn hr
  obtain ⟨v, w, ok, hL, hM, hS, hB, hT, hx, hy, ht, hj, hi⟩ := id hr
  have h4 := ok.crops
  have key : ∃ r, f_5_crop (sL σ) (sN σ) x y = some r ∧ f_6_crop b x y = some r := by
    unfold f_5_crop f_6_crop f_6_crop_20 f_5_crop_87 f_6_crop_73
    rcases isCrop2 hL hM ok x with ⟨c, hc, rfl, i1, i2⟩ | ⟨i1, i2⟩
    · rw [i1, i2, Option.bind_some, Option.bind_some, if1, if1]
      rcases wi y 0 4 (by decide) (by decide) with ⟨m, m1, m2, rfl, w1, w2⟩ | ⟨w0, w1, w2⟩
      · have w2 : f_6_in (nI m).toInt64 0 4 = some 1 := w2
        obtain ⟨z, hz, hzb⟩ := daysInX hL ok hS
        rw [w2, Option.bind_some, if1, notInM hB, Option.bind_some, ripM hM ok hc, Option.bind_some, ck_inb (by omega) (by decide), ck_inb (by omega) (by decide), ck_inb (by omega) (by decide), ripensNowC hL ok hS hc, Option.bind_some, hz, Option.bind_some, ripC hL ok hc, Option.bind_some, rip_now ok w hzb]
        have e1 : ∀ m, m ≤ 2 → (67 : Int32) + 3 * nI c + nI m = nI (67 + m + 3 * c) := fun m hm => by
          rw [show (67 : Int32) = nI 67 from rfl, show (3 : Int32) = nI 3 from rfl, ix3, nI_add]; congr 1; omega
        rcases (show m = 0 ∨ m = 1 ∨ m = 2 ∨ m = 3 ∨ m = 4 by omega) with rfl | rfl | rfl | rfl | rfl
        · refine ⟨_, congrArg some (hL.needs ok hc), ?_⟩
          rw [if_neg (by decide), e1 0 (by omega), ck_inb (by omega) (by decide), hM.needs ok hc]
        · refine ⟨_, congrArg some (hL.least ok hc), ?_⟩
          rw [if_neg (by decide), e1 1 (by omega), ck_inb (by omega) (by decide), hM.least ok hc]
        · refine ⟨_, congrArg some (hL.worth ok hc), ?_⟩
          rw [if_neg (by decide), e1 2 (by omega), ck_inb (by omega) (by decide), hM.worth ok hc]
        · rw [if_pos (show (3 : Int32) ≤ nI 3 by decide), if_pos (show nI 3 = (3 : Int32) from rfl), if_neg (by decide), if_neg (by decide), if_neg (by decide), if_pos (show nI 3 = (3 : Int32) from rfl)]
          by_cases h9 : oI (rip v c (fun j => !bt (awayW w) j)) = -9
          · rw [if_pos h9, if_pos h9, if0]; exact ⟨0, rfl, rfl⟩
          · rw [if_neg h9, if_neg h9, if1]; exact ⟨1, rfl, rfl⟩
        · exact ⟨_, rfl, rfl⟩
      · have w2 : f_6_in y.toInt64 0 4 = some 0 := w2
        rw [w2, Option.bind_some, if0, if_neg (show ¬ y = 0 from w0 0 (by omega) (by omega)), if_neg (show ¬ y = 1 from w0 1 (by omega) (by omega)), if_neg (show ¬ y = 2 from w0 2 (by omega) (by omega)), if_neg (show ¬ y = 3 from w0 3 (by omega) (by omega)), if_neg (show ¬ y = 4 from w0 4 (by omega) (by omega))]
        exact ⟨-1, rfl, rfl⟩
    · rw [i1, i2]
      exact ⟨-1, rfl, rfl⟩
  obtain ⟨r, h1, h2⟩ := key
  exact ⟨r, σ, b, by unfold F_crop; rw [h1]; rfl, by unfold G_crop; rw [h2]; rfl, hr.mono⟩
