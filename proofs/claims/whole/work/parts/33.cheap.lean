-- cheap
theorem rowOk_iff {v : LV} {w : SV} (ok : OkL v) {x : Int32} (hx : ∀ d, d < 32 → bt x d = inD v w d) {d n : Nat} (hn : n ≤ 9) (h : d + n ≤ v.1 1) : (rowI d n &&& (x ^^^ (-1)) = 0) ↔ rowOk v w d n := by
  have h30 := ok.days
  constructor
  · intro h2
    refine ⟨h, fun j h3 h4 => ?_⟩
    have h5 := (and0 _ _).mp h2 j (by omega) (by rw [row_bt (by omega) (by omega) (by omega)]; simp; omega)
    rw [bnot _ (by omega), hx j (by omega)] at h5
    simpa using h5
  · intro h2
    refine (and0 _ _).mpr (fun j hj hbj => ?_)
    rw [row_bt (by omega) (by omega) hj] at hbj
    have h3 := of_decide_eq_true hbj
    rw [bnot _ hj, hx j hj, h2.2 j h3.1 h3.2]
    rfl
def hR (v : LV) (w : SV) (d n : Nat) : Nat := harv v (fun j => inD v w j && !decide (d ≤ j ∧ j < d + n))
theorem hR_C {v : LV} {w : SV} (ok : OkL v) {x : Int32} (hx : ∀ d, d < 32 → bt x d = inD v w d) {d n : Nat} (hd : d < 31) (hn : n < 31) : harv v (bt (x &&& (rowI d n ^^^ (-1)))) = hR v w d n := harv_congr (fun j hj => by
  have h30 := ok.days
  rw [b_and, bnot _ (by omega), hx j (by omega), row_bt (by omega) (by omega) (by omega)])
theorem hR_M {v : LV} {w : SV} (ok : OkL v) {d n : Nat} (hd : d < 31) (hn : n < 31) : harv v (fun j => !bt (awayW w ||| rowI d n) j) = hR v w d n := harv_congr (fun j hj => by
  have h30 := ok.days
  rw [b_or, row_bt (by omega) (by omega) (by omega), away_in w hj, Bool.not_or])
def cRel (v : LV) (w : SV) (best bh fi ma mo : Int32) : Prop := (best = -9 ∧ bh = -1 ∧ fi = -9 ∧ ma = -9 ∧ mo = -9) ∨ (∃ d n, d < 30 ∧ 1 ≤ n ∧ n ≤ 9 ∧ best = nI (d * 100 + n) ∧ bh = nI (hR v w d n) ∧ fi = nI d ∧ ma = nI n ∧ mo = nI (hR v w d n))
def cFin (v : LV) (w : SV) (y z r : Int32) : Prop := (z = -9 ∧ r = -9) ∨ (∃ d n, d < 30 ∧ 1 ≤ n ∧ n ≤ 9 ∧ z = nI (d * 100 + n) ∧ r = if y = 0 then nI d else if y = 1 then nI n else nI (hR v w d n))
theorem cheap_tail {b : BV} {v : LV} {w : SV} (hM : LM (b.2.1 7) v) (ok : OkL v) (hB : SM (b.2.1 8) 0 w) {k40 : Int32 → Int32 → Int32 → Int32 → Int32 → Int32 → Option Int32} (x y fi ma mo : Int32) {j : Nat} (hj : j ≤ 9) : ∀ (k n d : Nat), d + k = v.1 1 → k < n → v.1 1 < d + j → f_6_cheap_50 b k40 n x y fi ma mo (nI j) (nI d) = k40 x y fi ma mo (nI (j + 1)) := by
  have h30 := ok.days
  intro k
  induction k with
  | zero =>
    intro n d hd hn hp
    obtain ⟨n, rfl⟩ : ∃ q, n = q + 1 := ⟨n - 1, by omega⟩
    show f_6_cheap_50_b b k40 (f_6_cheap_50 b k40 n) _ _ _ _ _ _ _ = _
    unfold f_6_cheap_50_b
    rw [daysM hM, Option.bind_some, if_pos (nI_le (by omega) (by omega)), nI_1]
  | succ k ih =>
    intro n d hd hn hp
    obtain ⟨n, rfl⟩ : ∃ q, n = q + 1 := ⟨n - 1, by omega⟩
    show f_6_cheap_50_b b k40 (f_6_cheap_50 b k40 n) _ _ _ _ _ _ _ = _
    obtain ⟨z, hz, hz0⟩ := isFreeRM hM ok hB (d := d) (n := j) (by omega) hj
    have : z = 0 := hz0.mpr (fun h => by have := h.1; omega)
    unfold f_6_cheap_50_b f_6_cheap_160
    rw [daysM hM, Option.bind_some, if_neg (nI_ge (by omega) (by omega)), hz, Option.bind_some, if_pos this, nI_1]
    exact ih n (d + 1) (by omega) (by omega) (by omega)
theorem cheap_in {L N b : BV} {v : LV} {w : SV} (hL : LC L v) (hM : LM (b.2.1 7) v) (ok : OkL v) (hS : SC N w) (hB : SM (b.2.1 8) 0 w) {z : Int32} (hz : ∀ d, d < 32 → bt z d = inD v w d) (x y : Int32) {j : Nat} (hj1 : 1 ≤ j) (hj : j ≤ 9) {k14 : Int32 → Int32 → Int32 → Int32 → Int32 → Option Int32} {k40 : Int32 → Int32 → Int32 → Int32 → Int32 → Int32 → Option Int32} (hk : ∀ best bh fi ma mo, cRel v w best bh fi ma mo → ∃ a r, k14 x z best bh (nI (j + 1)) = some a ∧ k40 x y fi ma mo (nI (j + 1)) = some r ∧ cFin v w y a r) : ∀ (k n n' d : Nat) (best bh fi ma mo : Int32), d + k = v.1 1 → k < n → k < n' → cRel v w best bh fi ma mo → ∃ a r, f_5_cheapestRow_24 L N k14 n x z best bh (nI j) (nI d) = some a ∧ f_6_cheap_50 b k40 n' x y fi ma mo (nI j) (nI d) = some r ∧ cFin v w y a r := by
  have h30 := ok.days
  intro k
  induction k with
  | zero =>
    intro n n' d best bh fi ma mo hd hn hn' hI
    obtain ⟨n, rfl⟩ : ∃ q, n = q + 1 := ⟨n - 1, by omega⟩
    rw [cheap_tail hM ok hB x y fi ma mo hj 0 n' d (by omega) (by omega) (by omega)]
    obtain ⟨a, r, h1, h2, h3⟩ := hk best bh fi ma mo hI
    refine ⟨a, r, ?_, h2, h3⟩
    show f_5_cheapestRow_24_b L N k14 (f_5_cheapestRow_24 L N k14 n) _ _ _ _ _ _ = _
    unfold f_5_cheapestRow_24_b
    rw [hL.days, nI_add, if_pos (nI_lt (by omega) (by omega)), nI_1]
    exact h1
  | succ k ih =>
    intro n n' d best bh fi ma mo hd hn hn' hI
    obtain ⟨n, rfl⟩ : ∃ q, n = q + 1 := ⟨n - 1, by omega⟩
    by_cases hp : v.1 1 < d + j
    · rw [cheap_tail hM ok hB x y fi ma mo hj (k + 1) n' d (by omega) (by omega) (by omega)]
      obtain ⟨a, r, h1, h2, h3⟩ := hk best bh fi ma mo hI
      refine ⟨a, r, ?_, h2, h3⟩
      show f_5_cheapestRow_24_b L N k14 (f_5_cheapestRow_24 L N k14 n) _ _ _ _ _ _ = _
      unfold f_5_cheapestRow_24_b
      rw [hL.days, nI_add, if_pos (nI_lt (by omega) (by omega)), nI_1]
      exact h1
    · obtain ⟨n', rfl⟩ : ∃ q, n' = q + 1 := ⟨n' - 1, by omega⟩
      have next := fun best bh fi ma mo hI => ih n n' (d + 1) best bh fi ma mo (by omega) (by omega) (by omega) hI
      show ∃ a r, f_5_cheapestRow_24_b L N k14 (f_5_cheapestRow_24 L N k14 n) _ _ _ _ _ _ = some a ∧ f_6_cheap_50_b b k40 (f_6_cheap_50 b k40 n') _ _ _ _ _ _ _ = some r ∧ _
      obtain ⟨q, hq, hq0⟩ := isFreeRM hM ok hB (d := d) (n := j) (by omega) hj
      have hri := rowOk_iff ok hz hj (d := d) (n := j) (by omega)
      unfold f_5_cheapestRow_24_b f_6_cheap_50_b f_5_cheapestRow_107 f_6_cheap_160
      rw [hL.days, nI_add, if_neg (nI_nlt (by omega) (by omega)), rowC, Option.bind_some, daysM hM, Option.bind_some, if_neg (nI_ge (by omega) (by omega)), hq, Option.bind_some, nI_1]
      by_cases hr : rowOk v w d j
      · rw [if_pos (hri.mpr hr), if_neg (fun h => hq0.mp h hr), lentC hL ok (by omega) hj, Option.bind_some, lentM hM ok (by omega) hj, Option.bind_some]
        by_cases hl : nI (lentN v d j) < x
        · rw [if_pos hl, if_pos hl]
          exact next best bh fi ma mo hI
        · have hle := harv_le ok (fun q => inD v w q && !decide (d ≤ q ∧ q < d + j))
          have hle : hR v w d j ≤ 396 := hle
          rw [if_neg hl, if_neg hl, harvC hL ok, Option.bind_some, hR_C ok hz (by omega) (by omega), notInM hB, Option.bind_some, rowM, Option.bind_some, harvM hM ok, Option.bind_some, hR_M ok (by omega) (by omega)]
          unfold f_6_cheap_113 f_6_cheap_118 f_6_cheap_131 f_6_cheap_144 f_6_cheap_158 f_6_cheap_160
          simp only [if0, if1]
          have hnew : cRel v w (nI d * 100 + nI j) (nI (hR v w d j)) (nI d) (nI j) (nI (hR v w d j)) := Or.inr ⟨d, j, by omega, hj1, hj, by rw [show (100 : Int32) = nI 100 from rfl, pk_mul, nI_add], rfl, rfl, rfl, rfl⟩
          rw [nI_1]
          rcases hI with ⟨e1, e2, e3, e4, e5⟩ | ⟨d0, n0, g1, g2, g3, e1, e2, e3, e4, e5⟩
          · subst e1; subst e2; subst e3; subst e4; subst e5
            rw [if_neg (show ¬ nI (hR v w d j) ≤ -1 by
              intro h
              have := (fa_le _ _).mp h
              rw [nI_toInt (by omega)] at this
              have h1 : (-1 : Int32).toInt = -1 := by decide
              omega), if_pos rfl]
            exact next _ _ _ _ _ hnew
          · have hle0 : hR v w d0 n0 ≤ 396 := harv_le ok _
            rw [if_neg (show ¬ fi = -9 by
              rw [e3]
              intro h
              have := congrArg Int32.toInt h
              rw [nI_toInt (by omega)] at this
              have h1 : (-9 : Int32).toInt = -9 := by decide
              omega), e2, e5]
            by_cases hb : nI (hR v w d j) ≤ nI (hR v w d0 n0)
            · rw [if_pos hb, if_pos hb]
              exact next best (nI (hR v w d0 n0)) fi ma (nI (hR v w d0 n0)) (Or.inr ⟨d0, n0, g1, g2, g3, e1, rfl, e3, e4, rfl⟩)
            · rw [if_neg hb, if_neg hb]
              exact next _ _ _ _ _ hnew
      · rw [if_neg (fun h => hr (hri.mp h)), if_pos (hq0.mpr hr)]
        exact next best bh fi ma mo hI
theorem cheap_out {L N b : BV} {v : LV} {w : SV} (hL : LC L v) (hM : LM (b.2.1 7) v) (ok : OkL v) (hS : SC N w) (hB : SM (b.2.1 8) 0 w) {z : Int32} (hz : ∀ d, d < 32 → bt z d = inD v w d) (x y : Int32) : ∀ (k n n' j : Nat) (best bh fi ma mo : Int32), j + k = 10 → 1 ≤ j → k < n → k < n' → cRel v w best bh fi ma mo → ∃ a r, f_5_cheapestRow_14 L N n x z best bh (nI j) = some a ∧ f_6_cheap_40 b n' x y fi ma mo (nI j) = some r ∧ cFin v w y a r := by
  have h30 := ok.days
  intro k
  induction k with
  | zero =>
    intro n n' j best bh fi ma mo hj hj1 hn hn' hI
    obtain ⟨n, rfl⟩ : ∃ q, n = q + 1 := ⟨n - 1, by omega⟩
    obtain ⟨n', rfl⟩ : ∃ q, n' = q + 1 := ⟨n' - 1, by omega⟩
    obtain rfl : j = 10 := by omega
    show ∃ a r, f_5_cheapestRow_14_b L N (f_5_cheapestRow_14 L N n) _ _ _ _ _ = some a ∧ f_6_cheap_40_b b (f_6_cheap_40 b n') _ _ _ _ _ _ = some r ∧ _
    unfold f_5_cheapestRow_14_b f_6_cheap_40_b f_6_cheap_192
    rw [if_pos (show (9 : Int32) < nI 10 by decide), if_pos (show (10 : Int32) ≤ nI 10 by decide)]
    rcases hI with ⟨e1, e2, e3, e4, e5⟩ | ⟨d0, n0, g1, g2, g3, e1, e2, e3, e4, e5⟩
    · rw [e1, e3, e4, e5]
      refine ⟨-9, -9, rfl, ?_, Or.inl ⟨rfl, rfl⟩⟩
      by_cases h0 : y = 0
      · rw [if_pos h0]
      · rw [if_neg h0]
        by_cases h1 : y = 1
        · rw [if_pos h1]
        · rw [if_neg h1]
    · rw [e1, e3, e4, e5]
      refine ⟨_, if y = 0 then nI d0 else if y = 1 then nI n0 else nI (hR v w d0 n0), rfl, ?_, Or.inr ⟨d0, n0, g1, g2, g3, rfl, rfl⟩⟩
      by_cases h0 : y = 0
      · rw [if_pos h0, if_pos h0]
      · rw [if_neg h0, if_neg h0]
        by_cases h1 : y = 1
        · rw [if_pos h1, if_pos h1]
        · rw [if_neg h1, if_neg h1]
  | succ k ih =>
    intro n n' j best bh fi ma mo hj hj1 hn hn' hI
    obtain ⟨n, rfl⟩ : ∃ q, n = q + 1 := ⟨n - 1, by omega⟩
    obtain ⟨n', rfl⟩ : ∃ q, n' = q + 1 := ⟨n' - 1, by omega⟩
    show ∃ a r, f_5_cheapestRow_14_b L N (f_5_cheapestRow_14 L N n) _ _ _ _ _ = some a ∧ f_6_cheap_40_b b (f_6_cheap_40 b n') _ _ _ _ _ _ = some r ∧ _
    unfold f_5_cheapestRow_14_b f_6_cheap_40_b
    rw [if_neg (show ¬ (9 : Int32) < nI j from nI_nlt (a := 9) (b := j) (by omega) (by omega)), if_neg (show ¬ (10 : Int32) ≤ nI j from nI_ge (a := j) (b := 10) (by omega) (by omega))]
    exact cheap_in hL hM ok hS hB hz x y hj1 (by omega) (fun best bh fi ma mo hI => ih n n' (j + 1) best bh fi ma mo (by omega) (by omega) (by omega) (by omega) hI) (v.1 1) 200 200 0 best bh fi ma mo (by omega) (by omega) (by omega) hI
theorem s_cheap : Sim2 Rel F_cheap G_cheap := by
  intro σ b n x y hn hr
  obtain ⟨v, w, ok, hL, hM, hS, hB, hT, hx, hy, ht, hj, hi⟩ := id hr
  have h30 := ok.days
  have key : ∃ r, f_5_cheap (sL σ) (sN σ) x y = some r ∧ f_6_cheap b x y = some r := by
    unfold f_5_cheap f_6_cheap f_5_cheap_20 f_6_cheap_24
    rcases wi x 1 999 (by decide) (by decide) with ⟨m, m1, m2, rfl, w1, w2⟩ | ⟨w0, w1, w2⟩
    · have w1 : f_5_isWithin (nI m) 1 999 = some 1 := w1
      have w2 : f_6_in (nI m).toInt64 1 999 = some 1 := w2
      rw [w1, w2, Option.bind_some, Option.bind_some, if1, if1]
      rcases wi y 0 2 (by decide) (by decide) with ⟨p, p1, p2, rfl, u1, u2⟩ | ⟨w0, u1, u2⟩
      · have u1 : f_5_isWithin (nI p) 0 2 = some 1 := u1
        have u2 : f_6_in (nI p).toInt64 0 2 = some 1 := u2
        obtain ⟨z, hz, hzb⟩ := daysInX hL ok hS
        obtain ⟨a, r, h1, h2, h3⟩ := cheap_out hL hM ok hS hB hzb (nI m) (nI p) 9 200 200 1 (-9) (-1) (-9) (-9) (-9) (by omega) (by omega) (by omega) (by omega) (Or.inl ⟨rfl, rfl, rfl, rfl, rfl⟩)
        have hc : f_5_cheapestRow (sL σ) (sN σ) (nI m) = some a := by
          unfold f_5_cheapestRow
          rw [hz, Option.bind_some]; exact h1
        have h2 : f_6_cheap_40 b 200 (nI m) (nI p) (-9) (-9) (-9) 1 = some r := h2
        rw [u1, u2, Option.bind_some, Option.bind_some, if1, if1, hc, Option.bind_some, h2]
        rcases h3 with ⟨e1, e2⟩ | ⟨d, q, g1, g2, g3, e1, e2⟩
        · rw [if_pos e1, e2]; exact ⟨-9, rfl, rfl⟩
        · have ea : a / 100 = nI d := by
            rw [e1, show (100 : Int32) = nI 100 from rfl, pk_div (by omega) (by omega) (by omega)]; congr 1; omega
          have eb : a - a / 100 * 100 = nI q := by
            rw [e1, show (100 : Int32) = nI 100 from rfl, pk_rem (by omega) (by omega) (by omega)]; congr 1; omega
          rw [if_neg (show ¬ a = -9 by
              rw [e1]
              intro h
              have := congrArg Int32.toInt h
              rw [nI_toInt (by omega)] at this
              have h1 : (-9 : Int32).toInt = -9 := by decide
              omega), show nz 100 = true by decide, ck_t, ck_t, ea] 
          rw [ea] at eb
          rw [eb, e2]
          rcases (show p = 0 ∨ p = 1 ∨ p = 2 by omega) with rfl | rfl | rfl
          · exact ⟨nI d, rfl, rfl⟩
          · exact ⟨nI q, rfl, rfl⟩
          · refine ⟨nI (hR v w d q), ?_, rfl⟩
            rw [if_neg (by decide), if_neg (by decide), hz, Option.bind_some, rowC, Option.bind_some, harvC hL ok, hR_C ok hzb (by omega) (by omega)]
            rfl
      · have u1 : f_5_isWithin y 0 2 = some 0 := u1
        have u2 : f_6_in y.toInt64 0 2 = some 0 := u2
        rw [u1, u2]
        exact ⟨-1, rfl, rfl⟩
    · have w1 : f_5_isWithin x 1 999 = some 0 := w1
      have w2 : f_6_in x.toInt64 1 999 = some 0 := w2
      rw [w1, w2]
      exact ⟨-1, rfl, rfl⟩
  obtain ⟨r, h1, h2⟩ := key
  exact ⟨r, σ, b, by unfold F_cheap; rw [h1]; rfl, by unfold G_cheap; rw [h2]; rfl, hr.mono⟩
