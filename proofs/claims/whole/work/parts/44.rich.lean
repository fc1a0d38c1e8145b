-- rich, bare
theorem asM : ∀ (m n k : Nat) (b : BV), k + m = 15 → m < n → ∃ b', f_6_asides_2 n b (nI k) = some b' ∧ FrA 11 b b' ∧ (∀ i, i < k → b'.2.1 11 i = b.2.1 11 i) ∧ (∀ j, k ≤ j → j < 15 → b'.2.1 11 j = b.2.1 8 j) := by
  intro m
  induction m with
  | zero =>
    intro n k b hk hn
    obtain ⟨n, rfl⟩ : ∃ q, n = q + 1 := ⟨n - 1, by omega⟩
    obtain rfl : k = 15 := by omega
    refine ⟨b, ?_, FrA.rf _ _, fun i hi => rfl, fun j h1 h2 => by omega⟩
    show f_6_asides_2_b (f_6_asides_2 n) _ _ = _
    unfold f_6_asides_2_b
    rw [if_pos (show (15 : Int32) ≤ nI 15 by decide)]
  | succ m ih =>
    intro n k b hk hn
    obtain ⟨n, rfl⟩ : ∃ q, n = q + 1 := ⟨n - 1, by omega⟩
    have e : f_6_asides_2 (n + 1) b (nI k) = f_6_asides_2 n (pA b 11 (nI k) (b.2.1 8 k)) (nI (k + 1)) := by
      show f_6_asides_2_b (f_6_asides_2 n) _ _ = _
      unfold f_6_asides_2_b bs
      rw [if_neg (show ¬ (15 : Int32) ≤ nI k from nI_ge (b := 15) (by omega) (by decide)), ck_inb (by omega) (by decide), ck_inb (by omega) (by decide), nI_1, gA_nI _ _ (by omega)]
    obtain ⟨b', h1, h2, h3, h4⟩ := ih n (k + 1) (pA b 11 (nI k) (b.2.1 8 k)) (by omega) (by omega)
    refine ⟨b', by rw [e]; exact h1, ((FrA.rf 11 b).pA _ _).trans h2, fun i hi => ?_, fun j hj1 hj2 => ?_⟩
    · rw [h3 i (by omega), pA_same, nI_clamp (by omega), upd_n _ _ (by omega)]
    · by_cases hjk : j = k
      · subst hjk
        rw [h3 _ (by omega), pA_same, nI_clamp (by omega), upd_s]
      · rw [h4 j (by omega) hj2, pA_ne _ _ _ (by decide)]
theorem bkM : ∀ (m n k : Nat) (b : BV), k + m = 15 → m < n → ∃ b', f_6_backs_2 n b (nI k) = some b' ∧ FrA 8 b b' ∧ (∀ i, i < k → b'.2.1 8 i = b.2.1 8 i) ∧ (∀ j, k ≤ j → j < 15 → b'.2.1 8 j = b.2.1 11 j) := by
  intro m
  induction m with
  | zero =>
    intro n k b hk hn
    obtain ⟨n, rfl⟩ : ∃ q, n = q + 1 := ⟨n - 1, by omega⟩
    obtain rfl : k = 15 := by omega
    refine ⟨b, ?_, FrA.rf _ _, fun i hi => rfl, fun j h1 h2 => by omega⟩
    show f_6_backs_2_b (f_6_backs_2 n) _ _ = _
    unfold f_6_backs_2_b
    rw [if_pos (show (15 : Int32) ≤ nI 15 by decide)]
  | succ m ih =>
    intro n k b hk hn
    obtain ⟨n, rfl⟩ : ∃ q, n = q + 1 := ⟨n - 1, by omega⟩
    have e : f_6_backs_2 (n + 1) b (nI k) = f_6_backs_2 n (pA b 8 (nI k) (b.2.1 11 k)) (nI (k + 1)) := by
      show f_6_backs_2_b (f_6_backs_2 n) _ _ = _
      unfold f_6_backs_2_b bs
      rw [if_neg (show ¬ (15 : Int32) ≤ nI k from nI_ge (b := 15) (by omega) (by decide)), ck_inb (by omega) (by decide), ck_inb (by omega) (by decide), nI_1, gA_nI _ _ (by omega)]
    obtain ⟨b', h1, h2, h3, h4⟩ := ih n (k + 1) (pA b 8 (nI k) (b.2.1 11 k)) (by omega) (by omega)
    refine ⟨b', by rw [e]; exact h1, ((FrA.rf 8 b).pA _ _).trans h2, fun i hi => ?_, fun j hj1 hj2 => ?_⟩
    · rw [h3 i (by omega), pA_same, nI_clamp (by omega), upd_n _ _ (by omega)]
    · by_cases hjk : j = k
      · subst hjk
        rw [h3 _ (by omega), pA_same, nI_clamp (by omega), upd_s]
      · rw [h4 j (by omega) hj2, pA_ne _ _ _ (by decide)]
def richN (v : LV) (t : Nat) : Nat → Nat → SV → Int32
  | 0, _, _ => -9
  | k + 1, d, w => if w.2.2.2.2.1 < t then richN v t k (d + 1) (yearW v w) else nI d
theorem richN_s (v : LV) (t k d : Nat) (w : SV) : richN v t (k + 1) d w = if w.2.2.2.2.1 < t then richN v t k (d + 1) (yearW v w) else nI d := rfl
theorem yearW_purse {v : LV} (ok : OkL v) (w : SV) : (yearW v w).2.2.2.2.1 ≤ w.2.2.2.2.1 + 396 := by
  have := harv_le ok (inD v w)
  show w.2.2.2.2.1 + harv v (inD v w) ≤ _
  omega
theorem riC {L N : BV} {v : LV} {t : Nat} (hL : LC L v) (ok : OkL v) (ht : t ≤ 9999) : ∀ (k n d : Nat) (A : BV) (w : SV), d + k = 61 → k < n → OkS v w → SC A w → w.2.2.2.2.1 ≤ 100000 + 396 * d → ∃ A', f_5_rich_29 L N n A (nI t) (nI d) = some (richN v t k d w, A') := by
  intro k
  induction k with
  | zero =>
    intro n d A w hd hn hw hA hp
    obtain ⟨n, rfl⟩ : ∃ m, n = m + 1 := ⟨n - 1, by omega⟩
    obtain rfl : d = 61 := by omega
    refine ⟨A, ?_⟩
    show f_5_rich_29_b L N (f_5_rich_29 L N n) _ _ _ = _
    unfold f_5_rich_29_b
    rw [if_pos (show (60 : Int32) < nI 61 by decide)]
    rfl
  | succ k ih =>
    intro n d A w hd hn hw hA hp
    obtain ⟨n, rfl⟩ : ∃ m, n = m + 1 := ⟨n - 1, by omega⟩
    show ∃ A', f_5_rich_29_b L N (f_5_rich_29 L N n) _ _ _ = _
    unfold f_5_rich_29_b
    rw [if_neg (show ¬ (60 : Int32) < nI d from nI_nlt (a := 60) (by omega) (by omega)), hA.purse, richN_s, nI_1]
    by_cases h : w.2.2.2.2.1 < t
    · obtain ⟨A1, q1, q2⟩ := passYearC hL ok hw hA
      rw [if_pos (nI_lt h (by omega)), q1, Option.bind_some, if_pos h]
      exact ih n (d + 1) A1 (yearW v w) (by omega) (by omega) (yearWOk ok hw) q2 (Nat.le_trans (yearW_purse ok w) (by omega))
    · rw [if_neg (nI_nlt (by omega) (by omega)), if_neg h]
      exact ⟨A, rfl⟩
theorem riM {v : LV} {t : Nat} (ok : OkL v) (ht : t ≤ 9999) : ∀ (k n d : Nat) (b : BV) (w : SV), d + k = 61 → k < n → LM (b.2.1 7) v → OkS v w → SM (b.2.1 8) 0 w → w.2.2.2.2.1 ≤ 100000 + 396 * d → ∃ b' e, f_6_rich_20 n b (nI t) (nI d) = f_6_rich_47 b' (nI e) ∧ FrA 8 b b' ∧ e ≤ 61 ∧ richN v t k d w = if e ≤ 60 then nI e else -9 := by
  intro k
  induction k with
  | zero =>
    intro n d b w hd hn hM hw hB hp
    obtain ⟨n, rfl⟩ : ∃ m, n = m + 1 := ⟨n - 1, by omega⟩
    obtain rfl : d = 61 := by omega
    refine ⟨b, 61, ?_, FrA.rf _ _, by omega, by rw [if_neg (by omega)]; rfl⟩
    show f_6_rich_20_b (f_6_rich_20 n) _ _ _ = _
    unfold f_6_rich_20_b
    rw [if_pos (show (61 : Int32) ≤ nI 61 by decide)]
  | succ k ih =>
    intro n d b w hd hn hM hw hB hp
    obtain ⟨n, rfl⟩ : ∃ m, n = m + 1 := ⟨n - 1, by omega⟩
    show ∃ b' e, f_6_rich_20_b (f_6_rich_20 n) _ _ _ = _ ∧ _
    unfold f_6_rich_20_b
    rw [if_neg (show ¬ (61 : Int32) ≤ nI d from nI_ge (b := 61) (by omega) (by decide)), ck_inbL (by decide), hB.purse, richN_s, nI_1]
    by_cases h : w.2.2.2.2.1 < t
    · obtain ⟨b1, q1, q2, q3⟩ := goesByM hM ok hw hB
      rw [if_neg (nI_ge h (by omega)), q1, Option.bind_some, if_pos h]
      obtain ⟨b', e, r1, r2, r3, r4⟩ := ih n (d + 1) b1 _ (by omega) (by omega) (by rw [q2.2.2 7 (by decide)]; exact hM) (yearWOk ok hw) q3 (Nat.le_trans (yearW_purse ok w) (by omega))
      exact ⟨b', e, r1, q2.trans r2, r3, r4⟩
    · rw [if_pos (nI_le (by omega) (by omega)), if_neg h]
      exact ⟨b, d, rfl, FrA.rf _ _, by omega, by rw [if_pos (by omega)]⟩
theorem aheadRel {σ : XS} {b b1 b2 b3 : BV} {n : Nat} (A' : BV) (hr : Rel σ b n) (f1 : FrA 11 b b1) (f2 : FrA 8 b1 b2) (f3 : FrA 8 b2 b3) (e1 : ∀ j, j < 15 → b1.2.1 11 j = b.2.1 8 j) (e3 : ∀ j, j < 15 → b3.2.1 8 j = b2.2.1 11 j) : Rel (σ.1, σ.2.1, σ.2.2.1, σ.2.2.2.1, σ.2.2.2.2.1, A', σ.2.2.2.2.2.2) b3 (n + 1) := by
  obtain ⟨v, w, ok, hL, hM, hS, hB, hT, hx, hy, ht, hj, hi⟩ := hr
  have f := f2.trans f3
  refine ⟨v, w, Rel0.mono (B := 1000 * n) ?_ (by omega)⟩
  refine ⟨ok, hL, ?_, hS, ?_, hT, ?_, ?_, ?_, ?_, ?_⟩
  · rw [f.2.2 7 (by decide), f1.2.2 7 (by decide)]; exact hM
  · refine hB.congr (fun k hk => ?_)
    rw [Nat.zero_add, e3 k hk, f2.2.2 11 (by decide), e1 k hk]
  · rw [f.1, f1.1, f.2.2 0 (by decide), f1.2.2 0 (by decide)]; exact hx
  · rw [f.1, f1.1, f.2.2 9 (by decide), f1.2.2 9 (by decide)]; exact hy
  · rw [f.1, f1.1, f.2.2 13 (by decide), f.2.2 14 (by decide), f1.2.2 13 (by decide), f1.2.2 14 (by decide)]; exact ht
  · exact hj.trans (f1.2.1.symm.trans f.2.1.symm)
  · rw [f.2.2 16 (by decide), f1.2.2 16 (by decide)]; exact hi
theorem s_rich : Sim1 Rel F_rich G_rich := by
  intro σ b n x hn hr
  obtain ⟨v, w, ok, hL, hM, hS, hB, hT, hx, hy, ht, hj, hi⟩ := id hr
  rcases wi x 0 9999 (by decide) (by decide) with ⟨t, -, t2, rfl, w1, w2⟩ | ⟨-, w1, w2⟩
  · have w1 : f_5_isWithin (nI t) 0 9999 = some 1 := w1
    have w2 : f_6_in (nI t).toInt64 0 9999 = some 1 := w2
    have hpu := hT.2.1
    obtain ⟨A1, a1, a2⟩ := becomeC σ.2.2.2.2.2.1 (sN σ)
    obtain ⟨A2, a3⟩ := riC (N := sN σ) hL ok t2 61 200 0 A1 w (by omega) (by omega) hT.1 (a2 w hS) (by omega)
    obtain ⟨b1, c1, f1, -, e1⟩ := asM 15 200 0 b (by omega) (by omega)
    have hB1 : SM (b1.2.1 8) 0 w := by rw [f1.2.2 8 (by decide)]; exact hB
    have hM1 : LM (b1.2.1 7) v := by rw [f1.2.2 7 (by decide)]; exact hM
    obtain ⟨b2, e, c2, f2, e61, er⟩ := riM ok t2 61 200 0 b1 w (by omega) (by omega) hM1 hT.1 hB1 (by omega)
    obtain ⟨b3, c3, f3, -, e3⟩ := bkM 15 200 0 b2 (by omega) (by omega)
    refine ⟨richN v t 61 0 w, _, b3, ?_, ?_, aheadRel A2 hr f1 f2 f3 (fun j hj => e1 j (by omega) hj) (fun j hj => e3 j (by omega) hj)⟩
    · have e1 : f_5_rich (sL σ) σ.2.2.2.2.2.1 (sN σ) (nI t) = some (richN v t 61 0 w, A2) := by
        unfold f_5_rich
        rw [w1, Option.bind_some, if1, a1, Option.bind_some]
        exact a3
      unfold F_rich
      rw [e1]; rfl
    · have e1 : f_6_rich b (nI t) = some (richN v t 61 0 w, b3) := by
        have c1 : f_6_asides b = some b1 := c1
        have c2 : f_6_rich_20 200 b1 (nI t) 0 = f_6_rich_47 b2 (nI e) := c2
        have c3 : f_6_backs b2 = some b3 := c3
        unfold f_6_rich
        rw [w2, Option.bind_some, if1, c1, Option.bind_some, c2]
        unfold f_6_rich_47 f_6_rich_63
        rw [c3, Option.bind_some, er]
        by_cases h : e ≤ 60
        · rw [if_pos h, if_pos (show nI e ≤ 60 from nI_le (b := 60) h (by decide))]
        · rw [if_neg h, if_neg (show ¬ nI e ≤ 60 from nI_ge (a := 60) (by omega) (by omega))]
      unfold G_rich
      rw [e1]; rfl
  · have w1 : f_5_isWithin x 0 9999 = some 0 := w1
    have w2 : f_6_in x.toInt64 0 9999 = some 0 := w2
    refine ⟨-1, σ, b, ?_, ?_, hr.mono⟩
    · unfold F_rich f_5_rich
      rw [w1]; rfl
    · unfold G_rich f_6_rich
      rw [w2]; rfl
def allB (q : Nat → Bool) : Nat → Bool
  | 0 => true
  | n + 1 => allB q n && !q n
theorem allB_s (q : Nat → Bool) (n : Nat) : allB q (n + 1) = (allB q n && !q n) := rfl
theorem allB_iff (q : Nat → Bool) : ∀ n, allB q n = true ↔ ∀ i, i < n → q i = false := by
  intro n
  induction n with
  | zero => exact ⟨fun _ i h => absurd h (by omega), fun _ => rfl⟩
  | succ n ih =>
    rw [allB_s, Bool.and_eq_true, ih, Bool.not_eq_true']
    constructor
    · intro h i hi
      by_cases hin : i = n
      · subst hin; exact h.2
      · exact h.1 i (by omega)
    · intro h
      exact ⟨fun i hi => h i (by omega), h n (by omega)⟩
theorem ibM {b : BV} {v : LV} {w : SV} (hM : LM (b.2.1 7) v) (ok : OkL v) (hB : SM (b.2.1 8) 0 w) : ∀ (k n c : Nat), c + k = v.1 4 → k < n → f_6_isBare_4 b n (if allB (rpe v (inD v w)) c = true then 1 else 0) (nI c) = some (if allB (rpe v (inD v w)) (v.1 4) = true then 1 else 0) := by
  have h4 := ok.crops
  intro k
  induction k with
  | zero =>
    intro n c hc hn
    obtain ⟨n, rfl⟩ : ∃ m, n = m + 1 := ⟨n - 1, by omega⟩
    obtain rfl : c = v.1 4 := by omega
    show f_6_isBare_4_b b (f_6_isBare_4 b n) _ _ = _
    unfold f_6_isBare_4_b
    rw [ck_inbL (by decide), hM.crops, if_pos (nI_le (by omega) (by omega))]
    by_cases h : allB (rpe v (inD v w)) (v.1 4) = true
    · rw [if_pos h, isb1]
    · rw [if_neg h, isb0]
  | succ k ih =>
    intro n c hc hn
    obtain ⟨n, rfl⟩ : ∃ m, n = m + 1 := ⟨n - 1, by omega⟩
    rw [← ih n (c + 1) (by omega) (by omega), allB_s]
    show f_6_isBare_4_b b (f_6_isBare_4 b n) _ _ = _
    unfold f_6_isBare_4_b f_6_isBare_36 f_6_isBare_37
    have hrp : rip v c (fun j => !bt (awayW w) j) = rip v c (inD v w) := rip_congr (fun j hj => (away_in w hj).symm)
    rw [ck_inbL (by decide), hM.crops, if_neg (nI_ge (by omega) (by omega)), notInM hB, Option.bind_some, ripM hM ok (by omega), Option.bind_some, nI_1, hrp]
    simp only [oI_none ok]
    by_cases h : allB (rpe v (inD v w)) c = true
    · rw [if_pos h, if1, h, Bool.true_and]
      by_cases h2 : (rip v c (inD v w)).isSome = false
      · have h3 : rpe v (inD v w) c = false := h2
        rw [if_pos h2, h3]; rfl
      · have h3 : rpe v (inD v w) c = true := by unfold rpe; exact Bool.of_not_eq_false h2
        rw [if_neg h2, h3]; rfl
    · have h' : allB (rpe v (inD v w)) c = false := by simpa using h
      rw [if_neg h, if0, h', Bool.false_and]; rfl
def bareN (v : LV) : Nat → Nat → SV → Int32
  | 0, _, _ => -9
  | k + 1, d, w => if allB (rpe v (inD v w)) (v.1 4) = true then nI d else bareN v k (d + 1) (yearW v w)
theorem bareN_s (v : LV) (k d : Nat) (w : SV) : bareN v (k + 1) d w = if allB (rpe v (inD v w)) (v.1 4) = true then nI d else bareN v k (d + 1) (yearW v w) := rfl
theorem baC {L N : BV} {v : LV} (hL : LC L v) (ok : OkL v) : ∀ (k n d : Nat) (A : BV) (w : SV), d + k = 61 → k < n → OkS v w → SC A w → ∃ A', f_5_bare_16 L N n A (nI d) = some (bareN v k d w, A') := by
  have h30 := ok.days
  have h4 := ok.crops
  intro k
  induction k with
  | zero =>
    intro n d A w hd hn hw hA
    obtain ⟨n, rfl⟩ : ∃ m, n = m + 1 := ⟨n - 1, by omega⟩
    obtain rfl : d = 61 := by omega
    refine ⟨A, ?_⟩
    show f_5_bare_16_b L N (f_5_bare_16 L N n) _ _ = _
    unfold f_5_bare_16_b
    rw [if_pos (show (60 : Int32) < nI 61 by decide)]
    rfl
  | succ k ih =>
    intro n d A w hd hn hw hA
    obtain ⟨n, rfl⟩ : ∃ m, n = m + 1 := ⟨n - 1, by omega⟩
    show ∃ A', f_5_bare_16_b L N (f_5_bare_16 L N n) _ _ = _
    unfold f_5_bare_16_b
    obtain ⟨z, hz, hbz⟩ := daysInC hL ok hA
    rw [if_neg (show ¬ (60 : Int32) < nI d from nI_nlt (a := 60) (by omega) (by omega)), hz, Option.bind_some, ripeningC hL ok, Option.bind_some, bareN_s, nI_1]
    have key : rmsk v (bt z) (v.1 4) = 0 ↔ allB (rpe v (inD v w)) (v.1 4) = true := by
      rw [allB_iff, bt0]
      have hc : ∀ c, rpe v (bt z) c = rpe v (inD v w) c := fun c => rpe_congr (fun j hj => hbz j (by omega))
      constructor
      · intro h i hi
        have := h i (by omega)
        rw [rmsk_bt _ h4 i (by omega), hc] at this
        simpa [hi] using this
      · intro h j hj
        rw [rmsk_bt _ h4 j hj, hc]
        by_cases hj4 : j < v.1 4
        · rw [h j hj4, Bool.and_false]
        · simp [hj4]
    by_cases h : allB (rpe v (inD v w)) (v.1 4) = true
    · rw [if_pos (key.mpr h), if_pos h]
      exact ⟨A, rfl⟩
    · obtain ⟨A1, q1, q2⟩ := passYearC hL ok hw hA
      rw [if_neg (fun h2 => h (key.mp h2)), if_neg h, q1, Option.bind_some]
      exact ih n (d + 1) A1 _ (by omega) (by omega) (yearWOk ok hw) q2
theorem baM {v : LV} (ok : OkL v) : ∀ (k n d : Nat) (b : BV) (w : SV), d + k = 61 → k < n → LM (b.2.1 7) v → OkS v w → SM (b.2.1 8) 0 w → ∃ b' e, f_6_bare_6 n b (nI d) = f_6_bare_30 b' (nI e) ∧ FrA 8 b b' ∧ e ≤ 61 ∧ bareN v k d w = if e ≤ 60 then nI e else -9 := by
  intro k
  induction k with
  | zero =>
    intro n d b w hd hn hM hw hB
    obtain ⟨n, rfl⟩ : ∃ m, n = m + 1 := ⟨n - 1, by omega⟩
    obtain rfl : d = 61 := by omega
    refine ⟨b, 61, ?_, FrA.rf _ _, by omega, by rw [if_neg (by omega)]; rfl⟩
    show f_6_bare_6_b (f_6_bare_6 n) _ _ = _
    unfold f_6_bare_6_b
    rw [if_pos (show (61 : Int32) ≤ nI 61 by decide)]
  | succ k ih =>
    intro n d b w hd hn hM hw hB
    obtain ⟨n, rfl⟩ : ∃ m, n = m + 1 := ⟨n - 1, by omega⟩
    show ∃ b' e, f_6_bare_6_b (f_6_bare_6 n) _ _ = _ ∧ _
    unfold f_6_bare_6_b
    have h4 := ok.crops
    have hib : f_6_isBare b = some (if allB (rpe v (inD v w)) (v.1 4) = true then 1 else 0) := ibM hM ok hB (v.1 4) 200 0 (by omega) (by omega)
    rw [if_neg (show ¬ (61 : Int32) ≤ nI d from nI_ge (b := 61) (by omega) (by decide)), hib, Option.bind_some, bareN_s, nI_1]
    by_cases h : allB (rpe v (inD v w)) (v.1 4) = true
    · rw [if_pos h, if1, if_pos h]
      exact ⟨b, d, rfl, FrA.rf _ _, by omega, by rw [if_pos (by omega)]⟩
    · obtain ⟨b1, q1, q2, q3⟩ := goesByM hM ok hw hB
      rw [if_neg h, if0, if_neg h, q1, Option.bind_some]
      obtain ⟨b', e, r1, r2, r3, r4⟩ := ih n (d + 1) b1 _ (by omega) (by omega) (by rw [q2.2.2 7 (by decide)]; exact hM) (yearWOk ok hw) q3
      exact ⟨b', e, r1, q2.trans r2, r3, r4⟩
theorem s_bare : Sim0 Rel F_bare G_bare := by
  intro σ b n hn hr
  obtain ⟨v, w, ok, hL, hM, hS, hB, hT, hx, hy, ht, hj, hi⟩ := id hr
  obtain ⟨A1, a1, a2⟩ := becomeC σ.2.2.2.2.2.1 (sN σ)
  obtain ⟨A2, a3⟩ := baC (N := sN σ) hL ok 61 200 0 A1 w (by omega) (by omega) hT.1 (a2 w hS)
  obtain ⟨b1, c1, f1, -, e1⟩ := asM 15 200 0 b (by omega) (by omega)
  have hB1 : SM (b1.2.1 8) 0 w := by rw [f1.2.2 8 (by decide)]; exact hB
  have hM1 : LM (b1.2.1 7) v := by rw [f1.2.2 7 (by decide)]; exact hM
  obtain ⟨b2, e, c2, f2, e61, er⟩ := baM ok 61 200 0 b1 w (by omega) (by omega) hM1 hT.1 hB1
  obtain ⟨b3, c3, f3, -, e3⟩ := bkM 15 200 0 b2 (by omega) (by omega)
  refine ⟨bareN v 61 0 w, _, b3, ?_, ?_, aheadRel A2 hr f1 f2 f3 (fun j hj => e1 j (by omega) hj) (fun j hj => e3 j (by omega) hj)⟩
  · have e1 : f_5_bare (sL σ) σ.2.2.2.2.2.1 (sN σ) = some (bareN v 61 0 w, A2) := by
      unfold f_5_bare
      rw [a1, Option.bind_some]
      exact a3
    unfold F_bare
    rw [e1]; rfl
  · have e1 : f_6_bare b = some (bareN v 61 0 w, b3) := by
      have c1 : f_6_asides b = some b1 := c1
      have c2 : f_6_bare_6 200 b1 0 = f_6_bare_30 b2 (nI e) := c2
      have c3 : f_6_backs b2 = some b3 := c3
      unfold f_6_bare
      rw [c1, Option.bind_some, c2]
      unfold f_6_bare_30 f_6_bare_46
      rw [c3, Option.bind_some, er]
      by_cases h : e ≤ 60
      · rw [if_pos h, if_pos (show nI e ≤ 60 from nI_le (b := 60) h (by decide))]
      · rw [if_neg h, if_neg (show ¬ nI e ≤ 60 from nI_ge (a := 60) (by omega) (by omega))]
    unfold G_bare
    rw [e1]; rfl
