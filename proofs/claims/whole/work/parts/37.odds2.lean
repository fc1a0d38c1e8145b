-- odds: the greatest divisor, and the call
theorem gcd_st (a b : Nat) : Nat.gcd a b = Nat.gcd b (a % b) := by
  rw [Nat.gcd_comm a b, Nat.gcd_rec b a, Nat.gcd_comm]
theorem gdC_step {a b i : Nat} (ha : a < 1000000) (hb : b < 1000000) (hi : i < 64) (n : Nat) : f_5_greatestDivisor_7 (n + 1) (nI a) (nI b) (nI i) = if b = 0 then some (nI a) else f_5_greatestDivisor_7 n (nI b) (nI (a % b)) (nI (i + 1)) := by
  show f_5_greatestDivisor_7_b (f_5_greatestDivisor_7 n) _ _ _ = _
  unfold f_5_greatestDivisor_7_b f_5_greatestDivisor_34
  rw [if_neg (show ¬ (64 : Int32) ≤ nI i from nI_ge (b := 64) hi (by decide))]
  by_cases h0 : b = 0
  · subst h0
    rw [if_pos (show nI 0 = (0 : Int32) from rfl), if_pos rfl]
  · have hz : nz (nI b) = true := by
      unfold nz
      exact decide_eq_true (nI_ne0 (by omega) (by omega))
    rw [if_neg (nI_ne0 (by omega) (by omega)), if_neg h0, hz, ck_t, pk_rem (by omega) (by omega) (by omega), nI_1]
theorem half_rem {b r : Nat} (hr : 0 < r) (h : r ≤ b) : 2 * (b % r) < b + 1 ∧ b % r < r := by
  have h1 := Nat.mod_lt b hr
  have h2 := Nat.div_add_mod b r
  have h3 : 1 ≤ b / r := (Nat.le_div_iff_mul_le hr).mpr (by omega)
  have h4 : r * 1 ≤ r * (b / r) := Nat.mul_le_mul_left r h3
  omega
theorem gdC : ∀ (k a b i n : Nat), a < 1000000 → b < 1000000 → b < 2 ^ k → i + 2 * k + 1 ≤ 64 → 2 * k + 1 < n → f_5_greatestDivisor_7 n (nI a) (nI b) (nI i) = some (nI (Nat.gcd a b)) := by
  intro k
  induction k with
  | zero =>
    intro a b i n ha hb hk hi hn
    obtain ⟨n, rfl⟩ : ∃ m, n = m + 1 := ⟨n - 1, by omega⟩
    obtain rfl : b = 0 := by
      have : 2 ^ 0 = 1 := rfl
      omega
    rw [gdC_step ha hb (by omega), if_pos rfl, Nat.gcd_zero_right]
  | succ k ih =>
    intro a b i n ha hb hk hi hn
    obtain ⟨n, rfl⟩ : ∃ m, n = m + 2 := ⟨n - 2, by omega⟩
    rw [gdC_step ha hb (by omega)]
    by_cases h0 : b = 0
    · subst h0
      rw [if_pos rfl, Nat.gcd_zero_right]
    · rw [if_neg h0, gcd_st a b]
      have hr := Nat.mod_lt a (show 0 < b by omega)
      generalize a % b = r at hr
      rw [gdC_step hb (by omega) (by omega)]
      by_cases h1 : r = 0
      · subst h1
        rw [if_pos rfl, Nat.gcd_zero_right]
      · rw [if_neg h1, gcd_st b r]
        have h2 := half_rem (b := b) (r := r) (by omega) (by omega)
        have h3 : 2 ^ (k + 1) = 2 * 2 ^ k := by rw [Nat.pow_succ]; omega
        exact ih r (b % r) (i + 1 + 1) n (by omega) (by omega) (by omega) (by omega) (by omega)
theorem gdM_step (b0 : BV) {a b : Nat} (ha : a < 1000000) (hb : b < 1000000) (y A B : Int32) (n : Nat) : f_6_odds_223 b0 (n + 1) y A B (nI a) (nI b) = if b = 0 then (if y = 0 then (ck (nz (nI a)) (some (A / nI a))) else (ck (nz (nI a)) (some (B / nI a)))) else f_6_odds_223 b0 n y A B (nI b) (nI (a % b)) := by
  show f_6_odds_223_b b0 (f_6_odds_223 b0 n) _ _ _ _ _ = _
  unfold f_6_odds_223_b f_6_odds_263
  by_cases h0 : b = 0
  · subst h0
    rw [if_pos (show nI 0 = (0 : Int32) from rfl), if_pos rfl]
  · have hz : nz (nI b) = true := by
      unfold nz
      exact decide_eq_true (nI_ne0 (by omega) (by omega))
    rw [if_neg (nI_ne0 (by omega) (by omega)), if_neg h0, hz, ck_t, pk_rem (by omega) (by omega) (by omega)]
theorem gdM (b0 : BV) (y A B : Int32) : ∀ (k a b n : Nat), a < 1000000 → b < 1000000 → b < 2 ^ k → 2 * k + 1 < n → f_6_odds_223 b0 n y A B (nI a) (nI b) = (if y = 0 then (ck (nz (nI (Nat.gcd a b))) (some (A / nI (Nat.gcd a b)))) else (ck (nz (nI (Nat.gcd a b))) (some (B / nI (Nat.gcd a b))))) := by
  intro k
  induction k with
  | zero =>
    intro a b n ha hb hk hn
    obtain ⟨n, rfl⟩ : ∃ m, n = m + 1 := ⟨n - 1, by omega⟩
    obtain rfl : b = 0 := by
      have : 2 ^ 0 = 1 := rfl
      omega
    rw [gdM_step b0 ha hb, if_pos rfl, Nat.gcd_zero_right]
  | succ k ih =>
    intro a b n ha hb hk hn
    obtain ⟨n, rfl⟩ : ∃ m, n = m + 2 := ⟨n - 2, by omega⟩
    rw [gdM_step b0 ha hb]
    by_cases h0 : b = 0
    · subst h0
      rw [if_pos rfl, Nat.gcd_zero_right]
    · rw [if_neg h0, gcd_st a b]
      have hr := Nat.mod_lt a (show 0 < b by omega)
      generalize a % b = r at hr
      rw [gdM_step b0 hb (by omega)]
      by_cases h1 : r = 0
      · subst h1
        rw [if_pos rfl, Nat.gcd_zero_right]
      · rw [if_neg h1, gcd_st b r]
        have h2 := half_rem (b := b) (r := r) (by omega) (by omega)
        have h3 : 2 ^ (k + 1) = 2 * 2 ^ k := by rw [Nat.pow_succ]; omega
        exact ih r (b % r) n (by omega) (by omega) (by omega) (by omega)
theorem chN_le {r s : Nat → Bool} {x : Nat} (hx : x ≤ 10) : ∀ c, chN r s x c ≤ 10 ^ c := by
  intro c
  induction c with
  | zero => exact Nat.le_refl _
  | succ c ih =>
    rw [chN_s, Nat.pow_succ]
    by_cases h : r c = true
    · rw [if_pos h]
      refine Nat.mul_le_mul ih ?_
      split <;> omega
    · rw [if_neg h]
      omega
theorem chN_pos {r s : Nat → Bool} {x : Nat} : ∀ c, (∀ j, j < c → r j = true → 1 ≤ (if s j = true then 10 - x else x)) → 1 ≤ chN r s x c := by
  intro c
  induction c with
  | zero => intro _; exact Nat.le_refl _
  | succ c ih =>
    intro h
    have h1 := ih (fun j hj => h j (by omega))
    rw [chN_s]
    by_cases hr : r c = true
    · rw [if_pos hr]
      have h2 := h c (by omega) hr
      calc 1 = 1 * 1 := rfl
        _ ≤ _ := Nat.mul_le_mul h1 h2
    · rw [if_neg hr]; exact h1
theorem sumN_ge {f : Nat → Nat} : ∀ n s, s < n → f s ≤ sumN f n := by
  intro n
  induction n with
  | zero => intro s h; omega
  | succ n ih =>
    intro s h
    rw [sumN_s]
    by_cases hs : s = n
    · subst hs; omega
    · have := ih s (by omega); omega
theorem lo_pos (r : Nat → Bool) {x : Nat} (hx : x ≤ 10) : 1 ≤ sumN (loN r x) 16 := by
  by_cases h0 : 1 ≤ x
  · have h1 : 1 ≤ loN r x 0 := by
      unfold loN subB
      rw [tb_0_0, tb_0_1, tb_0_2, tb_0_3]
      rw [if_pos (by rfl)]
      refine chN_pos 4 (fun j hj _ => ?_)
      have : ∀ j, j < 4 → Nat.testBit 0 j = false := by decide
      rw [this j hj]
      exact h0
    have := sumN_ge (f := loN r x) 16 0 (by omega)
    omega
  · have ex : ∃ s, s < 16 ∧ s.testBit 0 = r 0 ∧ s.testBit 1 = r 1 ∧ s.testBit 2 = r 2 ∧ s.testBit 3 = r 3 := by
      have : ∀ a b c d : Bool, ∃ s, s < 16 ∧ s.testBit 0 = a ∧ s.testBit 1 = b ∧ s.testBit 2 = c ∧ s.testBit 3 = d := by decide
      exact this (r 0) (r 1) (r 2) (r 3)
    obtain ⟨s, hs, e0, e1, e2, e3⟩ := ex
    have h1 : 1 ≤ loN r x s := by
      unfold loN subB
      rw [e0, e1, e2, e3]
      rw [if_pos (by cases r 0 <;> cases r 1 <;> cases r 2 <;> cases r 3 <;> rfl)]
      refine chN_pos 4 (fun j hj hr => ?_)
      have : s.testBit j = r j := by
        rcases (show j = 0 ∨ j = 1 ∨ j = 2 ∨ j = 3 by omega) with rfl | rfl | rfl | rfl <;> assumption
      rw [this, hr, if_pos rfl]
      omega
    have := sumN_ge (f := loN r x) 16 s hs
    omega
theorem s_odds : Sim3 Rel F_odds G_odds := by
  intro σ b n x y u hn hr
  obtain ⟨v, w, ok, hL, hM, hN, hB, hT, hx, hy, ht, hj, hi⟩ := id hr
  have h30 := ok.days
  have h4 := ok.crops
  have key : ∃ r, f_5_odds (sL σ) (sN σ) x y u = some r ∧ f_6_odds b x y u = some r := by
    unfold f_5_odds f_6_odds f_5_odds_30 f_6_odds_34
    rcases wi x 0 10 (by decide) (by decide) with ⟨m, m1, m2, rfl, a1, a2⟩ | ⟨-, a1, a2⟩
    · have a1 : f_5_isWithin (nI m) 0 10 = some 1 := a1
      have a2 : f_6_in (nI m).toInt64 0 10 = some 1 := a2
      rw [a1, a2, Option.bind_some, Option.bind_some, if1, if1]
      rcases wi y 0 999 (by decide) (by decide) with ⟨V, V1, V2, rfl, b1, b2⟩ | ⟨-, b1, b2⟩
      · have b1 : f_5_isWithin (nI V) 0 999 = some 1 := b1
        have b2 : f_6_in (nI V).toInt64 0 999 = some 1 := b2
        rw [b1, b2, Option.bind_some, Option.bind_some, if1, if1]
        rcases wi u 0 1 (by decide) (by decide) with ⟨p, p1, p2, rfl, c1, c2⟩ | ⟨-, c1, c2⟩
        · have c1 : f_5_isWithin (nI p) 0 1 = some 1 := c1
          have c2 : f_6_in (nI p).toInt64 0 1 = some 1 := c2
          obtain ⟨z, hz, hzb⟩ := daysInX hL ok hN
          rw [c1, c2, Option.bind_some, Option.bind_some, if1, if1, hz, Option.bind_some, ripeningC hL ok, Option.bind_some]
          generalize hR : rmsk v (bt z) (v.1 4) = R
          have hRb : ∀ c, c < 4 → bt R c = (decide (c < v.1 4) && rpe v (fun j => !bt (awayW w) j) c) := fun c hc => by
            rw [← hR, rmsk_bt _ h4 c (by omega), rpe_congr (q := bt z) (q' := fun j => !bt (awayW w) j) (fun j hj => by rw [hzb j (by omega), away_in w hj])]
          have eC := oC (L := sL σ) (N := sN σ) hL ok (r := R) m2 V2 (nI p) 16 200 0 (by omega) (by omega)
          have eM := oM hM ok hB m2 V2 (nI p) (2 ^ (v.1 4)) 200 0 (by omega) (by
            have : ∀ k, k ≤ 4 → 2 ^ k < 200 := by decide
            exact this _ h4)
          rw [← od_lo (bt R) _ m h4 hRb, ← od_up (bt R) _ m (v.2 7) V h4 hRb] at eM
          rw [show nI (sumN (upN (bt R) (v.2 7) m V (v.1 4)) 0) = 0 from rfl, show nI (sumN (loN (bt R) m) 0) = 0 from rfl, show nI 0 = (0 : Int32) from rfl] at eC
          rw [show nI (sumN (abN (rpe v (fun j => !bt (awayW w) j)) (v.2 7) m V (v.1 4)) 0) = 0 from rfl, show nI (sumN (beN (rpe v (fun j => !bt (awayW w) j)) m (v.1 4)) 0) = 0 from rfl, show nI 0 = (0 : Int32) from rfl] at eM
          rw [eC, eM]
          have hlo := lo_pos (bt R) m2
          have hloU : sumN (loN (bt R) m) 16 ≤ 160000 := sumN_le (B := 10000) 16 (fun j _ => by
            unfold loN
            have := chN_le (r := bt R) (s := j.testBit) m2 4
            split <;> omega)
          have hupU : sumN (upN (bt R) (v.2 7) m V (v.1 4)) 16 ≤ 160000 := sumN_le (B := 10000) 16 (fun j _ => by
            unfold upN
            have := chN_le (r := bt R) (s := j.testBit) m2 4
            split
            · split <;> omega
            · omega)
          generalize sumN (loN (bt R) m) 16 = lo at hlo hloU
          generalize sumN (upN (bt R) (v.2 7) m V (v.1 4)) 16 = up at hupU
          unfold oFinC f_5_greatestDivisor
          rw [show (0 : Int32) = nI 0 from rfl, gdC 18 lo up 0 200 (by omega) (by omega) (by omega) (by omega) (by omega), Option.bind_some, gdM b (nI p) (nI up) (nI lo) 18 up lo 200 (by omega) (by omega) (by omega) (by omega), Nat.gcd_comm up lo]
          have hg0 : 0 < Nat.gcd lo up := Nat.gcd_pos_of_pos_left _ (by omega)
          have hgl : Nat.gcd lo up ≤ lo := Nat.gcd_le_left _ (by omega)
          have hz : nz (nI (Nat.gcd lo up)) = true := by
            unfold nz
            exact decide_eq_true (nI_ne0 hg0 (by omega))
          rw [hz, ck_t, ck_t, if_neg (show ¬ nI (Nat.gcd lo up) = nI 0 from nI_ne0 hg0 (by omega))]
          by_cases hp : nI p = nI 0
          · have hp2 : nI p = 0 := hp
            rw [if_pos hp, if_pos hp2]; exact ⟨_, rfl, rfl⟩
          · have hp2 : ¬ nI p = 0 := hp
            rw [if_neg hp, if_neg hp2]; exact ⟨_, rfl, rfl⟩
        · have c1 : f_5_isWithin u 0 1 = some 0 := c1
          have c2 : f_6_in u.toInt64 0 1 = some 0 := c2
          rw [c1, c2]
          exact ⟨-1, rfl, rfl⟩
      · have b1 : f_5_isWithin y 0 999 = some 0 := b1
        have b2 : f_6_in y.toInt64 0 999 = some 0 := b2
        rw [b1, b2]
        exact ⟨-1, rfl, rfl⟩
    · have a1 : f_5_isWithin x 0 10 = some 0 := a1
      have a2 : f_6_in x.toInt64 0 10 = some 0 := a2
      rw [a1, a2]
      exact ⟨-1, rfl, rfl⟩
  obtain ⟨r, h1, h2⟩ := key
  exact ⟨r, σ, b, by unfold F_odds; rw [h1]; rfl, by unfold G_odds; rw [h2]; rfl, hr.mono⟩
