-- fits
def allF (f : Nat → Bool) : Nat → Nat → Bool
  | 0, _ => true
  | k + 1, i => f i && allF f k (i + 1)
theorem allF_s (f : Nat → Bool) (k i : Nat) : allF f (k + 1) i = (f i && allF f k (i + 1)) := rfl
theorem dn0 : decide (nI 0 = (1 : Int32)) = false := by decide
theorem dn1 : decide (nI 1 = (1 : Int32)) = true := by decide
def tF (v : LV) (X : BV) (q : Nat → Bool) (i : Nat) : Bool := rpe v q (X.2.1 6 i).toNatClampNeg == decide (X.2.1 7 i = 1)
theorem tF_congr {v : LV} {X : BV} {q q' : Nat → Bool} (h : ∀ j, j < v.1 1 → q j = q' j) (i : Nat) : tF v X q i = tF v X q' i := by
  unfold tF
  rw [rpe_congr h]
theorem allF_congr {f g : Nat → Bool} (h : ∀ i, f i = g i) : ∀ k i, allF f k i = allF g k i := by
  intro k
  induction k with
  | zero => intro i; rfl
  | succ k ih => intro i; unfold allF; rw [h i, ih]
theorem agC {X L : BV} {v : LV} (hL : LC L v) (ok : OkL v) {tl : Nat} (h6 : tl ≤ 6) (h8 : X.1 8 = nI tl) (ht : ∀ i, i < tl → ∃ cr s, cr < v.1 4 ∧ s ≤ 1 ∧ X.2.1 6 i = nI cr ∧ X.2.1 7 i = nI s) (w : Int32) : ∀ (k n i : Nat), i + k = tl → k < n → f_5_agreesWithTold_2 X L n w (nI i) = some (if allF (tF v X (bt w)) k i = true then 1 else 0) := by
  have h4 := ok.crops
  intro k
  induction k with
  | zero =>
    intro n i hi hn
    obtain ⟨n, rfl⟩ : ∃ m, n = m + 1 := ⟨n - 1, by omega⟩
    show f_5_agreesWithTold_2_b X L (f_5_agreesWithTold_2 X L n) _ _ = _
    unfold f_5_agreesWithTold_2_b
    rw [gI_eq, h8, if_pos (nI_le (by omega) (by omega))]
    rfl
  | succ k ih =>
    intro n i hi hn
    obtain ⟨n, rfl⟩ : ∃ m, n = m + 1 := ⟨n - 1, by omega⟩
    obtain ⟨cr, s, hc, hs, e6, e7⟩ := ht i (by omega)
    show f_5_agreesWithTold_2_b X L (f_5_agreesWithTold_2 X L n) _ _ = _
    unfold f_5_agreesWithTold_2_b f_5_agreesWithTold_34 f_5_agreesWithTold_51
    rw [gI_eq, h8, if_neg (nI_ge (by omega) (by omega)), ck_inb (by omega) (by decide), gA_nI _ _ (by omega), e6, ripC hL ok hc, Option.bind_some, ck_inb (by omega) (by decide), ck_inb (by omega) (by decide), gA_nI _ _ (by omega), e7, nI_1, ih n (i + 1) (by omega) (by omega)]
    have et : tF v X (bt w) i = (rpe v (bt w) cr == decide (nI s = 1)) := by
      unfold tF
      rw [e6, e7, nI_clamp (by omega)]
    rw [allF_s, et]
    simp only [oI_none ok]
    have hr : (rip v cr (bt w)).isSome = rpe v (bt w) cr := rfl
    rw [hr]
    rcases (show s = 0 ∨ s = 1 by omega) with rfl | rfl
    · rw [if_neg (show ¬ nI 0 = 1 by decide), if_neg (show ¬ nI 0 = 1 by decide), dn0]
      cases rpe v (bt w) cr
      · simp
      · simp
    · rw [if_pos (show nI 1 = 1 by decide), if_pos (show nI 1 = 1 by decide), dn1]
      cases rpe v (bt w) cr
      · simp
      · simp
theorem agM {X b : BV} {v : LV} (hL : LM (b.2.1 7) v) (ok : OkL v) {tl : Nat} (h6 : tl ≤ 6) (h8 : b.1 12 = nI tl) (ht : ∀ i, i < tl → ∃ cr s, cr < v.1 4 ∧ s ≤ 1 ∧ X.2.1 6 i = nI cr ∧ X.2.1 7 i = nI s ∧ b.2.1 13 i = nI cr ∧ b.2.1 14 i = nI s) (w : Int32) : ∀ (k n i : Nat) (p : Bool), i + k = tl → k < n → f_6_isSo_4 b n w (if p = true then 1 else 0) (nI i) = some (if (p && allF (tF v X (fun j => !bt w j)) k i) = true then 1 else 0) := by
  have h4 := ok.crops
  intro k
  induction k with
  | zero =>
    intro n i p hi hn
    obtain ⟨n, rfl⟩ : ∃ m, n = m + 1 := ⟨n - 1, by omega⟩
    show f_6_isSo_4_b b (f_6_isSo_4 b n) _ _ _ = _
    unfold f_6_isSo_4_b
    rw [gI_eq, h8, if_pos (nI_le (by omega) (by omega)), isbI]
    unfold allF
    rw [Bool.and_true]
  | succ k ih =>
    intro n i p hi hn
    obtain ⟨n, rfl⟩ : ∃ m, n = m + 1 := ⟨n - 1, by omega⟩
    obtain ⟨cr, s, hc, hs, e6, e7, e13, e14⟩ := ht i (by omega)
    show f_6_isSo_4_b b (f_6_isSo_4 b n) _ _ _ = _
    unfold f_6_isSo_4_b f_6_isSo_37 f_6_isSo_50 f_6_isSo_51
    rw [gI_eq, h8, if_neg (nI_ge (by omega) (by omega)), ck_inb (by omega) (by decide), gA_nI _ _ (by omega), e13, ripM hL ok hc, Option.bind_some, ck_inb (by omega) (by decide), ck_inb (by omega) (by decide), gA_nI _ _ (by omega), e14, nI_1]
    have hF := ih n (i + 1) false (by omega) (by omega)
    have hT := ih n (i + 1) true (by omega) (by omega)
    simp only [Bool.false_and, Bool.true_and, if_true] at hF hT
    have hF : f_6_isSo_4 b n w 0 (nI (i + 1)) = some 0 := hF
    rw [hF, hT]
    cases p with
    | false => rfl
    | true =>
      have et : tF v X (fun j => !bt w j) i = (rpe v (fun j => !bt w j) cr == decide (nI s = 1)) := by
        unfold tF
        rw [e6, e7, nI_clamp (by omega)]
      show (if (1 : Int32) = 0 then some 0 else _) = _
      rw [if1]
      rw [allF_s, et]
      simp only [oI_none ok]
      have hr : (rip v cr (fun j => !bt w j)).isSome = rpe v (fun j => !bt w j) cr := rfl
      rw [hr]
      rcases (show s = 0 ∨ s = 1 by omega) with rfl | rfl
      · rw [if_pos (show (0 : Int32) = nI 0 by decide), if_neg (show ¬ (1 : Int32) = nI 0 by decide), dn0]
        cases rpe v (fun j => !bt w j) cr
        · simp
        · simp
      · rw [if_neg (show ¬ (0 : Int32) = nI 1 by decide), if_pos (show (1 : Int32) = nI 1 by decide), dn1]
        cases rpe v (fun j => !bt w j) cr
        · simp
        · simp
def fInv (all : Int32) (m : Nat) (sC sM : Int32) : Prop := sC = all &&& sM ∧ (m ≠ 0 → sC = sM)
theorem and_assoc3 (a b c : Int32) : (a &&& b) &&& c = a &&& (b &&& c) := b_ext (fun i _ => by simp only [b_and, Bool.and_assoc])
theorem fits_in {X L b : BV} {v : LV} (hL : LC L v) (hM : LM (b.2.1 7) v) (ok : OkL v) {tl : Nat} (h6 : tl ≤ 6) (h8 : X.1 8 = nI tl) (h12 : b.1 12 = nI tl) (ht : ∀ i, i < tl → ∃ cr s, cr < v.1 4 ∧ s ≤ 1 ∧ X.2.1 6 i = nI cr ∧ X.2.1 7 i = nI s ∧ b.2.1 13 i = nI cr ∧ b.2.1 14 i = nI s) (x : Int32) {d : Nat} (hd : d < v.1 1) {k28 k25 : Int32 → Int32 → Int32 → Int32 → Int32 → Option Int32} (hk : ∀ (m : Nat) (f sC sM : Int32), m ≤ 10 * (d + 1) → fInv (rowI 0 (v.1 1)) m sC sM → ∃ r, k28 x (nI m) f sC (nI (d + 1)) = some r ∧ k25 x (nI m) f sM (nI (d + 1)) = some r) : ∀ (k n n' j m : Nat) (f sC sM : Int32), j + k = 10 → k < n → k < n' → m + 1 ≤ 10 * d + j → fInv (rowI 0 (v.1 1)) m sC sM → ∃ r, f_5_fits_43 X L k28 n x (nI m) f sC (nI d) (nI j) = some r ∧ f_6_fits_37 b k25 n' x (nI m) f sM (nI d) (nI j) = some r := by
  have h30 := ok.days
  intro k
  induction k with
  | zero =>
    intro n n' j m f sC sM hj hn hn' hm hI
    obtain ⟨n, rfl⟩ : ∃ q, n = q + 1 := ⟨n - 1, by omega⟩
    obtain ⟨n', rfl⟩ : ∃ q, n' = q + 1 := ⟨n' - 1, by omega⟩
    obtain rfl : j = 10 := by omega
    show ∃ r, f_5_fits_43_b X L k28 (f_5_fits_43 X L k28 n) _ _ _ _ _ _ = some r ∧ f_6_fits_37_b b k25 (f_6_fits_37 b k25 n') _ _ _ _ _ _ = some r
    unfold f_5_fits_43_b f_6_fits_37_b f_5_fits_126 f_6_fits_108
    rw [if_pos (show (9 : Int32) < nI 10 by decide), if_pos (show (10 : Int32) ≤ nI 10 by decide), nI_1]
    exact hk m f sC sM (by omega) hI
  | succ k ih =>
    intro n n' j m f sC sM hj hn hn' hm hI
    obtain ⟨n, rfl⟩ : ∃ q, n = q + 1 := ⟨n - 1, by omega⟩
    obtain ⟨n', rfl⟩ : ∃ q, n' = q + 1 := ⟨n' - 1, by omega⟩
    show ∃ r, f_5_fits_43_b X L k28 (f_5_fits_43 X L k28 n) _ _ _ _ _ _ = some r ∧ f_6_fits_37_b b k25 (f_6_fits_37 b k25 n') _ _ _ _ _ _ = some r
    unfold f_5_fits_43_b f_6_fits_37_b f_5_fits_126 f_6_fits_108 f_5_fits_120 f_6_fits_102 f_5_fits_109 f_6_fits_86 f_5_fits_120 f_6_fits_102
    rw [if_neg (show ¬ (9 : Int32) < nI j from nI_nlt (a := 9) (b := j) (by omega) (by omega)), if_neg (show ¬ (10 : Int32) ≤ nI j from nI_ge (a := j) (b := 10) (by omega) (by omega)), hL.days, daysM hM, Option.bind_some, nI_add]
    by_cases hp : v.1 1 < d + j
    · rw [if_pos (nI_lt hp (by omega)), if_pos (nI_lt hp (by omega)), nI_1]
      exact hk m f sC sM (by omega) hI
    · rw [if_neg (nI_nlt (by omega) (by omega)), if_neg (nI_nlt (by omega) (by omega)), rowC, Option.bind_some, allDaysC hL, Option.bind_some, rowM, Option.bind_some]
      have a1 : f_5_agreesWithTold X L (rowI 0 (v.1 1) &&& (rowI d j ^^^ (-1))) = some (if allF (tF v X (fun i => !bt (rowI d j) i)) tl 0 = true then 1 else 0) := by
        have := agC hL ok h6 h8 (fun i hi => by obtain ⟨cr, s, g1, g2, g3, g4, -, -⟩ := ht i hi; exact ⟨cr, s, g1, g2, g3, g4⟩) (rowI 0 (v.1 1) &&& (rowI d j ^^^ (-1))) tl 200 0 (by omega) (by omega)
        rw [allF_congr (g := tF v X (fun i => !bt (rowI d j) i)) (fun i => tF_congr (fun q hq => by
          rw [b_and, bnot _ (by omega), row_bt (by omega) (by omega) (by omega)]
          simp [hq]) i)] at this
        exact this
      have a2 : f_6_isSo b (rowI d j) = some (if allF (tF v X (fun i => !bt (rowI d j) i)) tl 0 = true then 1 else 0) := by
        have := agM (X := X) hM ok h6 h12 ht (rowI d j) tl 200 0 true (by omega) (by omega)
        simp only [Bool.true_and, if_true] at this
        exact this
      rw [a1, a2, Option.bind_some, Option.bind_some, nI_1]
      by_cases hag : allF (tF v X (fun i => !bt (rowI d j) i)) tl 0 = true
      · rw [if_pos hag, if1, if1]
        have hI2 : fInv (rowI 0 (v.1 1)) (m + 1) (sC &&& rowI d j) (sM &&& rowI d j) := by
          have e : sC &&& rowI d j = rowI 0 (v.1 1) &&& (sM &&& rowI d j) := by rw [hI.1, and_assoc3]
          refine ⟨e, fun _ => e.trans (b_ext (fun i hi => ?_))⟩
          rw [b_and, b_and, row_bt (by omega) (by omega) hi, row_bt (by omega) (by omega) hi]
          by_cases h1 : d ≤ i ∧ i < d + j
          · have : i < v.1 1 := by omega
            simp [h1, this]
          · simp [h1]
        by_cases hm0 : m = 0
        · subst hm0
          rw [if_pos (show nI 0 = 0 by decide), if_pos (show nI 0 = 0 by decide), nI_1]
          rw [Option.bind_some, show nI d * 100 = 100 * nI d from Int32.mul_comm _ _]
          exact ih n n' (j + 1) 1 _ _ _ (by omega) (by omega) (by omega) (by omega) hI2
        · rw [if_neg (nI_ne0 (by omega) (by omega)), if_neg (nI_ne0 (by omega) (by omega)), nI_1, Option.bind_some]
          exact ih n n' (j + 1) (m + 1) _ _ _ (by omega) (by omega) (by omega) (by omega) hI2
      · rw [if_neg hag, if0, if0]
        exact ih n n' (j + 1) m f sC sM (by omega) (by omega) (by omega) (by omega) hI
theorem fits_out {X L b : BV} {v : LV} (hL : LC L v) (hM : LM (b.2.1 7) v) (ok : OkL v) {tl : Nat} (h6 : tl ≤ 6) (h8 : X.1 8 = nI tl) (h12 : b.1 12 = nI tl) (ht : ∀ i, i < tl → ∃ cr s, cr < v.1 4 ∧ s ≤ 1 ∧ X.2.1 6 i = nI cr ∧ X.2.1 7 i = nI s ∧ b.2.1 13 i = nI cr ∧ b.2.1 14 i = nI s) (x : Int32) : ∀ (k n n' d m : Nat) (f sC sM : Int32), d + k = v.1 1 → k < n → k < n' → m ≤ 10 * d → fInv (rowI 0 (v.1 1)) m sC sM → ∃ r, f_5_fits_28 X L n x (nI m) f sC (nI d) = some r ∧ f_6_fits_25 b n' x (nI m) f sM (nI d) = some r := by
  have h30 := ok.days
  intro k
  induction k with
  | zero =>
    intro n n' d m f sC sM hd hn hn' hm hI
    obtain ⟨n, rfl⟩ : ∃ q, n = q + 1 := ⟨n - 1, by omega⟩
    obtain ⟨n', rfl⟩ : ∃ q, n' = q + 1 := ⟨n' - 1, by omega⟩
    show ∃ r, f_5_fits_28_b X L (f_5_fits_28 X L n) _ _ _ _ _ = some r ∧ f_6_fits_25_b b (f_6_fits_25 b n') _ _ _ _ _ = some r
    unfold f_5_fits_28_b f_6_fits_25_b f_5_fits_156 f_6_fits_142
    rw [hL.days, daysM hM, Option.bind_some, if_pos (nI_le (by omega) (by omega)), if_pos (nI_le (by omega) (by omega))]
    by_cases hx : x = 0
    · rw [if_pos hx, if_pos hx]; exact ⟨_, rfl, rfl⟩
    · rw [if_neg hx, if_neg hx]
      by_cases hm0 : m = 0
      · subst hm0
        rw [if_pos (show nI 0 = 0 by decide), if_pos (show nI 0 = 0 by decide)]; exact ⟨_, rfl, rfl⟩
      · rw [if_neg (nI_ne0 (by omega) (by omega)), if_neg (nI_ne0 (by omega) (by omega)), hI.2 hm0]
        by_cases hx1 : x = 1
        · rw [if_pos hx1]; exact ⟨_, rfl, rfl⟩
        · rw [if_neg hx1]; exact ⟨_, rfl, rfl⟩
  | succ k ih =>
    intro n n' d m f sC sM hd hn hn' hm hI
    obtain ⟨n, rfl⟩ : ∃ q, n = q + 1 := ⟨n - 1, by omega⟩
    obtain ⟨n', rfl⟩ : ∃ q, n' = q + 1 := ⟨n' - 1, by omega⟩
    show ∃ r, f_5_fits_28_b X L (f_5_fits_28 X L n) _ _ _ _ _ = some r ∧ f_6_fits_25_b b (f_6_fits_25 b n') _ _ _ _ _ = some r
    unfold f_5_fits_28_b f_6_fits_25_b
    rw [hL.days, daysM hM, Option.bind_some, if_neg (nI_ge (by omega) (by omega)), if_neg (nI_ge (by omega) (by omega))]
    exact fits_in hL hM ok h6 h8 h12 ht x (by omega) (fun m f sC sM h1 h2 => ih n n' (d + 1) m f sC sM (by omega) (by omega) (by omega) (by omega) h2) 9 200 200 1 m f sC sM (by omega) (by omega) (by omega) (by omega) hI
theorem s_fits : Sim1 Rel F_fits G_fits := by
  intro σ b n x hn hr
  obtain ⟨v, w, ok, hL, hM, hS, hB, hT, hx, hy, ht, hj, hi⟩ := id hr
  have h30 := ok.days
  have key : ∃ r, f_5_fits (sX σ) (sL σ) x = some r ∧ f_6_fits b x = some r := by
    obtain ⟨tl, t1, t2, t3, t4⟩ := ht
    unfold f_5_fits f_6_fits
    rcases wi x 0 2 (by decide) (by decide) with ⟨m, m1, m2, rfl, w1, w2⟩ | ⟨w0, w1, w2⟩
    · have w1 : f_5_isWithin (nI m) 0 2 = some 1 := w1
      have w2 : f_6_in (nI m).toInt64 0 2 = some 1 := w2
      rw [w1, w2, Option.bind_some, Option.bind_some, if1, if1, allDaysC hL, Option.bind_some]
      refine fits_out hL hM ok t1 t2 t3 (fun i hi => ?_) (nI m) (v.1 1) 200 200 0 0 (-9) _ (-1) (by omega) (by omega) (by omega) (by omega) ⟨b_ext (fun i hi => ?_), fun h => absurd rfl h⟩
      · obtain ⟨cr, s, g1, g2, g3, g4, g5, g6⟩ := t4 i hi
        exact ⟨cr, s, g1, g2, g3, g5, g4, g6⟩
      · rw [b_and, b_m1 i hi, Bool.and_true]
    · have w1 : f_5_isWithin x 0 2 = some 0 := w1
      have w2 : f_6_in x.toInt64 0 2 = some 0 := w2
      rw [w1, w2]
      exact ⟨-1, rfl, rfl⟩
  obtain ⟨r, h1, h2⟩ := key
  exact ⟨r, σ, b, by unfold F_fits; rw [h1]; rfl, by unfold G_fits; rw [h2]; rfl, hr.mono⟩
