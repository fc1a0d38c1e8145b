-- freeing
def preF (g : Nat → Bool) : Nat → Bool
  | 0 => true
  | n + 1 => preF g n && g n
def gL (w : SV) (s : Int32) (l : Nat) : Bool := !bt s l || !decide (w.1 l = 0)
theorem allF4 (g : Nat → Bool) : allF g 4 0 = preF g 4 := by
  simp only [allF_s, preF, allF]
  cases g 0 <;> cases g 1 <;> cases g 2 <;> cases g 3 <;> rfl
theorem slC {S : BV} {w : SV} (hS : SC S w) (s : Int32) : ∀ (k n l : Nat), l + k = 4 → k < n → f_2_isSetOfLoans_2 S n s (nI l) = some (if allF (gL w s) k l = true then 1 else 0) := by
  intro k
  induction k with
  | zero =>
    intro n l hl hn
    obtain ⟨n, rfl⟩ : ∃ m, n = m + 1 := ⟨n - 1, by omega⟩
    obtain rfl : l = 4 := by omega
    rfl
  | succ k ih =>
    intro n l hl hn
    obtain ⟨n, rfl⟩ : ∃ m, n = m + 1 := ⟨n - 1, by omega⟩
    show f_2_isSetOfLoans_2_b S (f_2_isSetOfLoans_2 S n) _ _ = _
    unfold f_2_isSetOfLoans_2_b f_2_isSetOfLoans_25
    rw [if_neg (show ¬ (4 : Int32) ≤ nI l from nI_ge (b := 4) (by omega) (by decide)), has_eq s (by omega), Option.bind_some, isFreeC hS (by omega), Option.bind_some, nI_1, ih n (l + 1) (by omega) (by omega), allF_s]
    unfold gL
    by_cases hb : bt s l = true
    · by_cases h0 : w.1 l = 0
      · simp [hb, h0]
      · simp [hb, h0]
    · simp [hb]
theorem setC {S : BV} {w : SV} (hS : SC S w) (s : Int32) : f_2_isSetOfLoans S s = some (if preF (gL w s) 4 = true then 1 else 0) := by
  rw [← allF4]
  exact slC hS s 4 200 0 (by omega) (by omega)
def awL (w : SV) (s : Int32) : Nat → Int32
  | 0 => awayW w
  | l + 1 => awL w s l &&& (if bt s l = true then (w.1 l ^^^ (-1)) else -1)
def hS (v : LV) (w : SV) (s : Int32) : Nat := harv v (fun j => inD v w j || bt (orS w.1 (bt s) 4) j)
theorem hS_C {v : LV} {w : SV} (ok : OkL v) {x : Int32} (hx : ∀ d, d < 32 → bt x d = inD v w d) (s : Int32) : harv v (bt (x ||| orS w.1 (bt s) 4)) = hS v w s := harv_congr (fun j hj => by
  have h30 := ok.days
  rw [b_or, hx j (by omega)])
theorem awL_bt {v : LV} {w : SV} (ok : OkL v) (s : Int32) {j : Nat} (hj : j < v.1 1) : ∀ l, l ≤ 4 → (!bt (awL w s l) j) = (inD v w j || bt (orS w.1 (bt s) l) j) := by
  have h30 := ok.days
  intro l
  induction l with
  | zero =>
    intro _
    show (!bt (awayW w) j) = (_ || bt 0 j)
    rw [b_0, Bool.or_false, away_in w hj]
  | succ l ih =>
    intro hl
    have h1 := ih (by omega)
    show (!bt (awL w s l &&& _) j) = _
    rw [b_and, orS_s]
    by_cases hb : bt s l = true
    · rw [if_pos hb, if_pos hb, bnot _ (by omega), b_or, ← Bool.or_assoc, ← h1]
      cases bt (awL w s l) j <;> cases bt (w.1 l) j <;> rfl
    · rw [if_neg hb, if_neg hb, b_m1 j (by omega), Bool.and_true, h1]
theorem hS_M {v : LV} {w : SV} (ok : OkL v) (s : Int32) : harv v (fun j => !bt (awL w s 4) j) = hS v w s := harv_congr (fun j hj => awL_bt ok s hj 4 (by omega))
def cost (w : SV) (s : Int32) (l : Nat) : Nat := sumN (fun l => if bt s l = true then w.2.1 l else 0) l
/-- what the reference does behind the loans of a set -/
def frFin (b : BV) (k22 : Int32 → Int32 → Int32 → Int32 → Int32 → Option Int32) (x1 x2 x3 x4 x5 x6 x7 x8 : Int32) : Option Int32 := if x8 = 0 then (f_6_freeing_230 b k22 x1 x2 x3 x4 x5) else (ck (inb 0 15) (if (gA b 8 0) < x6 then (f_6_freeing_230 b k22 x1 x2 x3 x4 x5) else ((f_6_harvest b x7).bind (fun z4 => if x3 < z4 then (f_6_freeing_185 b k22 x1 x2 x3 x4 x5 x6 z4) else (if z4 = x3 then (if x4 ≤ x6 then (f_6_freeing_189 b k22 x1 x2 x3 x4 x5 x6 z4) else (f_6_freeing_185 b k22 x1 x2 x3 x4 x5 x6 z4)) else (f_6_freeing_189 b k22 x1 x2 x3 x4 x5 x6 z4))))))
theorem frM {b : BV} {w : SV} (hB : SM (b.2.1 8) 0 w) (k22 : Int32 → Int32 → Int32 → Int32 → Int32 → Option Int32) (x1 x2 x3 x4 s : Int32) : ∀ (k n l : Nat), l + k = 4 → k < n → f_6_freeing_44 b k22 n x1 x2 x3 x4 s (nI (cost w s l)) (awL w s l) (if preF (gL w s) l = true then 1 else 0) (nI l) = frFin b k22 x1 x2 x3 x4 s (nI (cost w s 4)) (awL w s 4) (if preF (gL w s) 4 = true then 1 else 0) := by
  intro k
  induction k with
  | zero =>
    intro n l hl hn
    obtain ⟨n, rfl⟩ : ∃ m, n = m + 1 := ⟨n - 1, by omega⟩
    obtain rfl : l = 4 := by omega
    rfl
  | succ k ih =>
    intro n l hl hn
    obtain ⟨n, rfl⟩ : ∃ m, n = m + 1 := ⟨n - 1, by omega⟩
    rw [← ih n (l + 1) (by omega) (by omega)]
    show f_6_freeing_44_b b k22 (f_6_freeing_44 b k22 n) _ _ _ _ _ _ _ _ _ = _
    unfold f_6_freeing_44_b f_6_freeing_66 f_6_freeing_91 f_6_freeing_87 f_6_freeing_92 f_6_freeing_111 f_6_freeing_133
    rw [if_neg (show ¬ (4 : Int32) ≤ nI l from nI_ge (b := 4) (by omega) (by decide)), loanDaysM hB (by omega), Option.bind_some, lentLM hB (by omega), Option.bind_some, nI_1]
    have ec : cost w s (l + 1) = cost w s l + (if bt s l = true then w.2.1 l else 0) := rfl
    have ea : awL w s (l + 1) = awL w s l &&& (if bt s l = true then (w.1 l ^^^ (-1)) else -1) := rfl
    have ep : preF (gL w s) (l + 1) = (preF (gL w s) l && gL w s l) := rfl
    have eg : gL w s l = (!bt s l || !decide (w.1 l = 0)) := rfl
    rw [ec, ea, ep, eg]
    by_cases hb : bt s l = true
    · rw [if_pos ((bit_test1 s (by omega)).mpr hb)]
      simp only [hb, if_true, Option.bind_some, if1, nI_add]
      cases hp : preF (gL w s) l
      · simp
      · by_cases h0 : w.1 l = 0
        · simp [h0]
        · simp [h0]
    · rw [if_neg (fun h => hb ((bit_test1 s (by omega)).mp h))]
      have hz : nI (cost w s l) + 0 = nI (cost w s l) := by rw [show (0 : Int32) = nI 0 from rfl, nI_add, Nat.add_zero]
      simp only [hb, if_false, Option.bind_some, if0, Nat.add_zero, hz]
      cases hp : preF (gL w s) l
      · simp
      · simp
theorem cost_le {v : LV} {w : SV} (ok : OkS v w) (s : Int32) : cost w s 4 ≤ 2916 := by
  have := sumN_le (f := fun l => if bt s l = true then w.2.1 l else 0) (B := 729) 4 (fun j hj => by
    have := (ok.1 j hj).1
    show (if _ then _ else _) ≤ 729
    split <;> omega)
  exact this
theorem fr_out {L N b : BV} {v : LV} {w : SV} (hL : LC L v) (hM : LM (b.2.1 7) v) (ok : OkL v) (hN : SC N w) (hB : SM (b.2.1 8) 0 w) {z : Int32} (hz : ∀ d, d < 32 → bt z d = inD v w d) (x : Int32) : ∀ (k n n' s s0 : Nat) (c : Int32), s + k = 16 → 1 ≤ s → k < n → k < n' → s0 < 16 → ∃ q, q < 16 ∧ f_5_bestFreeing_31 L N n z (nI s0) c (nI (hS v w (nI s0))) (nI s) = some (nI q) ∧ f_6_freeing_22 b n' x (nI s0) (nI (hS v w (nI s0))) c (nI s) = some (if x = 0 then nI q else nI (hS v w (nI q))) := by
  intro k
  induction k with
  | zero =>
    intro n n' s s0 c hs hs1 hn hn' h0
    obtain ⟨n, rfl⟩ : ∃ m, n = m + 1 := ⟨n - 1, by omega⟩
    obtain ⟨n', rfl⟩ : ∃ m, n' = m + 1 := ⟨n' - 1, by omega⟩
    obtain rfl : s = 16 := by omega
    refine ⟨s0, h0, ?_, ?_⟩
    · show f_5_bestFreeing_31_b L N (f_5_bestFreeing_31 L N n) _ _ _ _ _ = _
      unfold f_5_bestFreeing_31_b
      rw [if_pos (show (16 : Int32) ≤ nI 16 by decide)]
    show f_6_freeing_22_b b (f_6_freeing_22 b n') _ _ _ _ _ = _
    unfold f_6_freeing_22_b f_6_freeing_245
    rw [if_pos (show (16 : Int32) ≤ nI 16 by decide)]
    by_cases hx : x = 0
    · rw [if_pos hx, if_pos hx]
    · rw [if_neg hx, if_neg hx]
  | succ k ih =>
    intro n n' s s0 c hs hs1 hn hn' h0
    obtain ⟨n, rfl⟩ : ∃ m, n = m + 1 := ⟨n - 1, by omega⟩
    obtain ⟨n', rfl⟩ : ∃ m, n' = m + 1 := ⟨n' - 1, by omega⟩
    have keep := ih n n' (s + 1) s0 c (by omega) (by omega) (by omega) (by omega) h0
    have take := ih n n' (s + 1) s (nI (cost w (nI s) 4)) (by omega) (by omega) (by omega) (by omega) (by omega)
    show ∃ q, q < 16 ∧ f_5_bestFreeing_31_b L N (f_5_bestFreeing_31 L N n) _ _ _ _ _ = some (nI q) ∧ f_6_freeing_22_b b (f_6_freeing_22 b n') _ _ _ _ _ = _
    have hfr := frM hB (f_6_freeing_22 b n') x (nI s0) (nI (hS v w (nI s0))) c (nI s) 4 200 0 (by omega) (by omega)
    rw [show nI (cost w (nI s) 0) = 0 from rfl, show awL w (nI s) 0 = awayW w from rfl, show (if preF (gL w (nI s)) 0 = true then (1 : Int32) else 0) = 1 from rfl, show nI 0 = (0 : Int32) from rfl] at hfr
    unfold f_5_bestFreeing_31_b f_6_freeing_22_b f_5_bestFreeing_113 f_5_bestFreeing_102 f_5_bestFreeing_113
    rw [if_neg (show ¬ (16 : Int32) ≤ nI s from nI_ge (b := 16) (by omega) (by decide)), if_neg (show ¬ (16 : Int32) ≤ nI s from nI_ge (b := 16) (by omega) (by decide)), costC hN, Option.bind_some, setC hN, Option.bind_some, notInM hB, Option.bind_some, hfr]
    have ecost : sumN (fun l => if bt (nI s) l = true then w.2.1 l else 0) 4 = cost w (nI s) 4 := rfl
    rw [ecost]
    unfold frFin f_6_freeing_230 f_6_freeing_185 f_6_freeing_189 f_6_freeing_190 f_6_freeing_203 f_6_freeing_215 f_6_freeing_228 f_6_freeing_230
    rw [ck_inbL (by decide), hB.purse, hN.purse, nI_1, daysOfSetC hN, Option.bind_some, harvC hL ok, Option.bind_some, hS_C ok hz, harvM hM ok, Option.bind_some, hS_M ok]
    simp only [if0, if1]
    cases hp : preF (gL w (nI s)) 4
    · simp only [Bool.false_eq_true, if_false, if0]
      exact keep
    · simp only [if_true, if1]
      by_cases h1 : nI w.2.2.2.2.1 < nI (cost w (nI s) 4)
      · rw [if_pos h1, if_pos h1]; exact keep
      · rw [if_neg h1, if_neg h1]
        by_cases h2 : nI (hS v w (nI s0)) < nI (hS v w (nI s))
        · rw [if_pos h2, if_pos h2]; exact take
        · rw [if_neg h2, if_neg h2]
          by_cases h3 : nI (hS v w (nI s)) = nI (hS v w (nI s0))
          · rw [if_pos h3, if_pos h3]
            by_cases h4 : c ≤ nI (cost w (nI s) 4)
            · rw [if_pos h4, if_pos h4]; exact keep
            · rw [if_neg h4, if_neg h4]; exact take
          · rw [if_neg h3, if_neg h3]; exact keep
theorem s_freeing : Sim1 Rel F_freeing G_freeing := by
  intro σ b n x hn hr
  obtain ⟨v, w, ok, hL, hM, hN, hB, hT, hx, hy, ht, hj, hi⟩ := id hr
  have h30 := ok.days
  have key : ∃ r, f_5_freeing (sL σ) (sN σ) x = some r ∧ f_6_freeing b x = some r := by
    unfold f_5_freeing f_6_freeing f_5_freeing_47
    rcases wi x 0 1 (by decide) (by decide) with ⟨m, m1, m2, rfl, w1, w2⟩ | ⟨w0, w1, w2⟩
    · have w1 : f_5_isWithin (nI m) 0 1 = some 1 := w1
      have w2 : f_6_in (nI m).toInt64 0 1 = some 1 := w2
      obtain ⟨z, hz, hzb⟩ := daysInX hL ok hN
      have hle : hS v w (nI 0) ≤ 396 := harv_le ok _
      have hpu := hT.2.1
      obtain ⟨q, q1, q2, q3⟩ := fr_out hL hM ok hN hB hzb (nI m) 15 200 199 1 0 0 (by omega) (by omega) (by omega) (by omega) (by omega)
      have e0 : ∀ l, bt (nI 0) l = false := fun l => b_0 l
      have ehz : harv v (bt z) = hS v w (nI 0) := harv_congr (fun j hj => by
        rw [hzb j (by omega)]
        have : orS w.1 (bt (nI 0)) 4 = 0 := by
          rw [orS_s, orS_s, orS_s, orS_s, e0, e0, e0, e0]; rfl
        rw [this, b_0, Bool.or_false])
      have hbf : f_5_bestFreeing (sL σ) (sN σ) = some (nI q) := by
        unfold f_5_bestFreeing
        rw [hz, Option.bind_some, harvC hL ok, Option.bind_some, ehz]
        exact q2
      have hmm : f_6_freeing_22 b 200 (nI m) 0 (-1) 0 0 = some (if nI m = 0 then nI q else nI (hS v w (nI q))) := by
        rw [← q3]
        show f_6_freeing_22_b b (f_6_freeing_22 b 199) _ _ _ _ _ = _
        have hfr := frM hB (f_6_freeing_22 b 199) (nI m) 0 (-1) 0 (nI 0) 4 200 0 (by omega) (by omega)
        have hfr : f_6_freeing_44 b (f_6_freeing_22 b 199) 200 (nI m) 0 (-1) 0 0 0 (awayW w) 1 0 = _ := hfr
        have ep : preF (gL w (nI 0)) 4 = true := by
          unfold preF preF preF preF preF gL
          rw [e0, e0, e0, e0]; rfl
        have ec : cost w (nI 0) 4 = 0 := by
          unfold cost
          rw [sumN_s, sumN_s, sumN_s, sumN_s]
          simp only [e0, Bool.false_eq_true, if_false]
          rfl
        unfold f_6_freeing_22_b
        rw [if_neg (show ¬ (16 : Int32) ≤ 0 by decide), notInM hB, Option.bind_some, hfr, ep, ec]
        unfold frFin
        simp only [if_true, if1]
        rw [ck_inbL (by decide), hB.purse, if_neg (show ¬ nI w.2.2.2.2.1 < nI 0 from nI_pos (by omega)), harvM hM ok, Option.bind_some, hS_M ok, if_pos (show (-1 : Int32) < nI (hS v w (nI 0)) by
          rw [fa_lt, nI_toInt (by omega)]
          have h1 : (-1 : Int32).toInt = -1 := by decide
          omega)]
        rfl
      rw [w1, w2, Option.bind_some, Option.bind_some, if1, if1, hbf, Option.bind_some, hmm]
      rcases (show m = 0 ∨ m = 1 by omega) with rfl | rfl
      · exact ⟨nI q, rfl, rfl⟩
      · refine ⟨nI (hS v w (nI q)), ?_, rfl⟩
        rw [if_neg (by decide), hz, Option.bind_some, daysOfSetC hN, Option.bind_some, harvC hL ok, Option.bind_some, hS_C ok hzb]
    · have w1 : f_5_isWithin x 0 1 = some 0 := w1
      have w2 : f_6_in x.toInt64 0 1 = some 0 := w2
      rw [w1, w2]
      exact ⟨-1, rfl, rfl⟩
  obtain ⟨r, h1, h2⟩ := key
  exact ⟨r, σ, b, by unfold F_freeing; rw [h1]; rfl, by unfold G_freeing; rw [h2]; rfl, hr.mono⟩
