-- a year goes by
def sxW (w : SV) (l : Nat) (x : Int32) : SV := (va_up w.1 l x, w.2)
def bhN (x : Int32) : Nat → Nat
  | 0 => 0
  | d + 1 => if bt x d = true then d + 1 else bhN x d
theorem bhN_s (x : Int32) (d : Nat) : bhN x (d + 1) = if bt x d = true then d + 1 else bhN x d := rfl
theorem bhN_le (x : Int32) : ∀ d, bhN x d ≤ d ∧ (∀ j, bhN x d ≤ j → j < d → bt x j = false) ∧ (1 ≤ bhN x d → bt x (bhN x d - 1) = true) := by
  intro d
  induction d with
  | zero => exact ⟨Nat.le_refl _, fun j _ h => absurd h (by omega), fun h => absurd h (show ¬ 1 ≤ 0 by decide)⟩
  | succ d ih =>
    rw [bhN_s]
    by_cases h : bt x d = true
    · rw [if_pos h]
      exact ⟨Nat.le_refl _, fun j h1 h2 => by omega, fun _ => by simpa using h⟩
    · rw [if_neg h]
      refine ⟨by omega, fun j h1 h2 => ?_, ih.2.2⟩
      by_cases hj : j = d
      · subst hj; simpa using h
      · exact ih.2.1 j h1 (by omega)
theorem bhC (x : Int32) : ∀ (k n d : Nat), d + k = 30 → k < n → f_2_behindLast_4 n x (nI (bhN x d)) (nI d) = some (nI (bhN x 30)) := by
  intro k
  induction k with
  | zero =>
    intro n d hd hn
    obtain ⟨n, rfl⟩ : ∃ m, n = m + 1 := ⟨n - 1, by omega⟩
    obtain rfl : d = 30 := by omega
    show f_2_behindLast_4_b (f_2_behindLast_4 n) _ _ _ = _
    unfold f_2_behindLast_4_b
    rw [if_pos (show (30 : Int32) ≤ nI 30 by decide)]
  | succ k ih =>
    intro n d hd hn
    obtain ⟨n, rfl⟩ : ∃ m, n = m + 1 := ⟨n - 1, by omega⟩
    rw [← ih n (d + 1) (by omega) (by omega), bhN_s]
    show f_2_behindLast_4_b (f_2_behindLast_4 n) _ _ _ = _
    unfold f_2_behindLast_4_b f_2_behindLast_22
    rw [if_neg (show ¬ (30 : Int32) ≤ nI d from nI_ge (b := 30) (by omega) (by decide)), has_eq x (by omega), Option.bind_some, nI_1]
    by_cases h : bt x d = true
    · rw [if_pos h, if1, if_pos h]
    · rw [if_neg h, if0, if_neg h]
theorem behindC (x : Int32) : f_2_behindLast x = some (nI (bhN x 30)) := bhC x 30 200 0 (by omega) (by omega)
theorem shr0 {x : Int32} {k : Nat} (hk : k + 1 < 32) (hx : ∀ j, 30 ≤ j → bt x j = false) : (x >>> (nI (k + 1) &&& 31) = 0) ↔ bhN x 30 ≤ k + 1 := by
  have hb := bhN_le x 30
  constructor
  · intro h
    rcases Nat.lt_or_ge (k + 1) (bhN x 30) with h1 | h1
    · have h2 := hb.2.2 (by omega)
      have h3 := congrArg (fun z => bt z (bhN x 30 - 1 - (k + 1))) h
      simp only [b_0] at h3
      rw [b_sshr (k + 1) hk x (by omega), if_pos (by omega), show k + 1 + (bhN x 30 - 1 - (k + 1)) = bhN x 30 - 1 by omega, h2] at h3
      cases h3
    · exact h1
  · intro h
    refine b_ext (fun i hi => ?_)
    rw [b_sshr (k + 1) hk x hi, b_0]
    by_cases h1 : k + 1 + i < 32
    · rw [if_pos h1]
      by_cases h2 : k + 1 + i < 30
      · exact hb.2.1 _ (by omega) h2
      · exact hx _ (by omega)
    · rw [if_neg h1]; exact hx 31 (by omega)
theorem ag9 {b : BV} {w : SV} (hB : SM (b.2.1 8) 0 w) {l : Nat} (hl : l < 4) (left : Int32) (hx : ∀ j, 30 ≤ j → bt (w.1 l) j = false) : ∀ (m n k : Nat), k + 1 + m = bhN (w.1 l) 30 → m < n → f_6_ages_9 n b (nI l) left (nI k) = f_6_ages_32 200 b (nI l) left (nI (bhN (w.1 l) 30)) := by
  have hb := bhN_le (w.1 l) 30
  intro m
  induction m with
  | zero =>
    intro n k hk hn
    obtain ⟨n, rfl⟩ : ∃ q, n = q + 1 := ⟨n - 1, by omega⟩
    show f_6_ages_9_b (f_6_ages_9 n) _ _ _ _ = _
    unfold f_6_ages_9_b
    rw [loanDaysM hB hl, Option.bind_some, nI_1, if_pos ((shr0 (by omega) hx).mpr (by omega)), show k + 1 = bhN (w.1 l) 30 by omega]
  | succ m ih =>
    intro n k hk hn
    obtain ⟨n, rfl⟩ : ∃ q, n = q + 1 := ⟨n - 1, by omega⟩
    show f_6_ages_9_b (f_6_ages_9 n) _ _ _ _ = _
    unfold f_6_ages_9_b
    rw [loanDaysM hB hl, Option.bind_some, nI_1, if_neg (fun h => by have := (shr0 (by omega) hx).mp h; omega)]
    exact ih n (k + 1) (by omega) (by omega)
def takeL (v : LV) (q : Nat → Bool) : Nat → Nat → Nat → Int32 → Int32
  | 0, _, _, x => x
  | k + 1, d, tk, x => if tk < v.1 9 then (if q d = true then takeL v q k (d + 1) (tk + 1) (x ||| (1 <<< (nI d &&& 31))) else takeL v q k (d + 1) tk x) else x
theorem takeL_s (v : LV) (q : Nat → Bool) (k d tk : Nat) (x : Int32) : takeL v q (k + 1) d tk x = if tk < v.1 9 then (if q d = true then takeL v q k (d + 1) (tk + 1) (x ||| (1 <<< (nI d &&& 31))) else takeL v q k (d + 1) tk x) else x := rfl
theorem takeL_bt {v : LV} {q : Nat → Bool} : ∀ (k d tk : Nat) (x : Int32), d + k ≤ 32 → ∀ j, bt (takeL v q k d tk x) j = true → bt x j = true ∨ q j = true := by
  intro k
  induction k with
  | zero => intro d tk x _ j h; exact Or.inl h
  | succ k ih =>
    intro d tk x hd j h
    rw [takeL_s] at h
    by_cases h1 : tk < v.1 9
    · rw [if_pos h1] at h
      by_cases h2 : q d = true
      · rw [if_pos h2] at h
        rcases ih (d + 1) (tk + 1) _ (by omega) j h with h3 | h3
        · rw [b_or] at h3
          by_cases h32 : j < 32
          · rw [one_shl (by omega) h32] at h3
            by_cases hj : j = d
            · subst hj; exact Or.inr h2
            · simp [hj] at h3; exact Or.inl h3
          · rw [b_big (by omega), b_big (by omega)] at h3; cases h3
        · exact Or.inr h3
      · rw [if_neg h2] at h
        exact ih (d + 1) tk x (by omega) j h
    · rw [if_neg h1] at h; exact Or.inl h
theorem takeL_ne {v : LV} {q : Nat → Bool} : ∀ (k d tk : Nat) (x : Int32) (j : Nat), bt x j = true → bt (takeL v q k d tk x) j = true := by
  intro k
  induction k with
  | zero => intro d tk x j h; exact h
  | succ k ih =>
    intro d tk x j h
    rw [takeL_s]
    by_cases h1 : tk < v.1 9
    · rw [if_pos h1]
      by_cases h2 : q d = true
      · rw [if_pos h2]
        exact ih _ _ _ j (by rw [b_or, h]; rfl)
      · rw [if_neg h2]
        exact ih _ _ _ j h
    · rw [if_neg h1]; exact h
theorem SC.sx {S : BV} {w : SV} {l : Nat} {x : Int32} (h : SC S (sxW w l x)) (hl : l < 4) (y : Int32) : SC (pA S 0 (nI l) y) (sxW w l y) := by
  obtain ⟨h1, h2, h3, h4⟩ := h
  refine ⟨fun k hk => ?_, h2, h3, h4⟩
  obtain ⟨g1, g2, g3⟩ := h1 k hk
  rw [pA_ne (j := 1) _ _ _ (by decide), pA_ne (j := 2) _ _ _ (by decide), pA_same, nI_clamp (by omega)]
  refine ⟨?_, g2, g3⟩
  unfold sxW at g1 ⊢
  by_cases hkl : k = l
  · subst hkl
    rw [upd_s]
    exact (va_up_self _ _ _).symm
  · rw [upd_n _ _ hkl, g1]
    show va_up w.1 l x k = va_up w.1 l y k
    rw [va_up_ne _ _ hkl, va_up_ne _ _ hkl]
theorem SM.sx {b : BV} {w : SV} {l : Nat} {x : Int32} (h : SM (b.2.1 8) 0 (sxW w l x)) (hl : l < 4) (y : Int32) : SM ((pA b 8 (nI (3 + 3 * l)) y).2.1 8) 0 (sxW w l y) := by
  have e : ∀ j, (pA b 8 (nI (3 + 3 * l)) y).2.1 8 j = upd (b.2.1 8) (3 + 3 * l) y j := fun j => by rw [pA_same, nI_clamp (by omega)]
  obtain ⟨h1, h2, h3, h4⟩ := h
  refine ⟨fun k hk => ?_, ?_, ?_, ?_⟩
  · obtain ⟨g1, g2, g3⟩ := h1 k hk
    rw [e, e, e, upd_n _ _ (show 0 + 4 + 3 * k ≠ 3 + 3 * l by omega), upd_n _ _ (show 0 + 5 + 3 * k ≠ 3 + 3 * l by omega)]
    refine ⟨?_, g2, g3⟩
    unfold sxW at g1 ⊢
    by_cases hkl : k = l
    · subst hkl
      rw [show 0 + 3 + 3 * k = 3 + 3 * k by omega, upd_s]
      exact (va_up_self _ _ _).symm
    · rw [upd_n _ _ (by omega), g1]
      show va_up w.1 l x k = va_up w.1 l y k
      rw [va_up_ne _ _ hkl, va_up_ne _ _ hkl]
  · rw [e, upd_n _ _ (by omega)]; exact h2
  · rw [e, upd_n _ _ (by omega)]; exact h3
  · rw [e, upd_n _ _ (by omega)]; exact h4
theorem tiC {L : BV} {v : LV} {w : SV} (hL : LC L v) (ok : OkL v) {z : Int32} (hz : ∀ d, d < 32 → bt z d = inD v w d) {l : Nat} (hl : l < 4) : ∀ (k n d tk : Nat) (S : BV) (x : Int32), d + k = v.1 1 → k < n → tk ≤ v.1 9 → SC S (sxW w l x) → ∃ S', f_2_takeInterest_20 L n S (nI l) z (nI tk) (nI d) = some S' ∧ SC S' (sxW w l (takeL v (inD v w) k d tk x)) := by
  have h30 := ok.days
  have h9 : v.1 9 ≤ 5 := ok.2.2.2.2.1
  have hi : gI L 9 = nI (v.1 9) := hL.2.2.2.2.1
  intro k
  induction k with
  | zero =>
    intro n d tk S x hd hn ht hS
    obtain ⟨n, rfl⟩ : ∃ m, n = m + 1 := ⟨n - 1, by omega⟩
    refine ⟨S, ?_, hS⟩
    show f_2_takeInterest_20_b L (f_2_takeInterest_20 L n) _ _ _ _ _ = _
    unfold f_2_takeInterest_20_b f_2_takeInterest_69
    rw [hL.days, if_pos (nI_le (by omega) (by omega))]
  | succ k ih =>
    intro n d tk S x hd hn ht hS
    obtain ⟨n, rfl⟩ : ∃ m, n = m + 1 := ⟨n - 1, by omega⟩
    rw [takeL_s]
    show ∃ S', f_2_takeInterest_20_b L (f_2_takeInterest_20 L n) _ _ _ _ _ = some S' ∧ _
    unfold f_2_takeInterest_20_b f_2_takeInterest_69 f_2_takeInterest_63 bs
    rw [hL.days, if_neg (nI_ge (by omega) (by omega)), hi]
    by_cases h1 : tk < v.1 9
    · rw [if_neg (nI_ge h1 (by omega)), if_pos h1, has_eq z (by omega), Option.bind_some, hz d (by omega), ck_inb hl (by decide), ck_inb hl (by decide), nI_1, nI_1]
      by_cases h2 : inD v w d = true
      · rw [if_pos h2, if1, if_pos h2]
        have hx : gA S 0 (nI l) = x := by
          rw [hS.days hl]
          exact va_up_self _ _ _
        rw [hx]
        exact ih n (d + 1) (tk + 1) _ _ (by omega) (by omega) (by omega) (hS.sx hl _)
      · rw [if_neg h2, if0, if_neg h2]
        exact ih n (d + 1) tk S x (by omega) (by omega) ht hS
    · rw [if_pos (nI_le (by omega) (by omega)), if_neg h1]
      exact ⟨S, rfl, hS⟩
theorem away_sx {w : SV} {l : Nat} (hl : l < 4) {x : Int32} {d : Nat} (h : bt x d = bt (w.1 l) d) : bt (awayW (sxW w l x)) d = bt (awayW w) d := by
  unfold awayW outW sxW
  simp only [b_or]
  rcases (show l = 0 ∨ l = 1 ∨ l = 2 ∨ l = 3 by omega) with rfl | rfl | rfl | rfl
  · simp only [va_up_self, va_up_ne w.1 x (show 1 ≠ 0 by decide), va_up_ne w.1 x (show 2 ≠ 0 by decide), va_up_ne w.1 x (show 3 ≠ 0 by decide), h]
  · simp only [va_up_self, va_up_ne w.1 x (show 0 ≠ 1 by decide), va_up_ne w.1 x (show 2 ≠ 1 by decide), va_up_ne w.1 x (show 3 ≠ 1 by decide), h]
  · simp only [va_up_self, va_up_ne w.1 x (show 0 ≠ 2 by decide), va_up_ne w.1 x (show 1 ≠ 2 by decide), va_up_ne w.1 x (show 3 ≠ 2 by decide), h]
  · simp only [va_up_self, va_up_ne w.1 x (show 0 ≠ 3 by decide), va_up_ne w.1 x (show 1 ≠ 3 by decide), va_up_ne w.1 x (show 2 ≠ 3 by decide), h]
theorem tiM {v : LV} {w : SV} (ok : OkL v) {l : Nat} (hl : l < 4) : ∀ (k n d tk : Nat) (b : BV) (x : Int32), d + k = v.1 1 → k < n → tk ≤ v.1 9 → LM (b.2.1 7) v → SM (b.2.1 8) 0 (sxW w l x) → (∀ j, d ≤ j → bt x j = bt (w.1 l) j) → ∃ b', f_6_ages_32 n b (nI l) (nI (v.1 9 - tk)) (nI d) = f_6_ages_83 b' (nI l) ∧ FrA 8 b b' ∧ SM (b'.2.1 8) 0 (sxW w l (takeL v (inD v w) k d tk x)) := by
  have h30 := ok.days
  have h9 : v.1 9 ≤ 5 := ok.2.2.2.2.1
  intro k
  induction k with
  | zero =>
    intro n d tk b x hd hn ht hM hB hx
    obtain ⟨n, rfl⟩ : ∃ m, n = m + 1 := ⟨n - 1, by omega⟩
    refine ⟨b, ?_, FrA.rf _ _, hB⟩
    show f_6_ages_32_b (f_6_ages_32 n) _ _ _ _ = _
    unfold f_6_ages_32_b
    rw [daysM hM, Option.bind_some, if_pos (nI_le (by omega) (by omega))]
  | succ k ih =>
    intro n d tk b x hd hn ht hM hB hx
    obtain ⟨n, rfl⟩ : ∃ m, n = m + 1 := ⟨n - 1, by omega⟩
    rw [takeL_s]
    show ∃ b', f_6_ages_32_b (f_6_ages_32 n) _ _ _ _ = _ ∧ _
    have e3 : (3 : Int32) + 3 * nI l = nI (3 + 3 * l) := by rw [show (3 : Int32) = nI 3 from rfl, ix3]
    unfold f_6_ages_32_b f_6_ages_77 bs
    rw [daysM hM, Option.bind_some, if_neg (nI_ge (by omega) (by omega))]
    by_cases h1 : tk < v.1 9
    · rw [if_neg (nI_nle (by omega) (by omega)), if_pos h1, notInM hB, Option.bind_some, e3, ck_inb (by omega) (by decide), ck_inb (by omega) (by decide), nI_1]
      have hin : inD v w d = !bt (awayW (sxW w l x)) d := by rw [away_in w (by omega), away_sx hl (hx d (Nat.le_refl _))]
      by_cases h2 : inD v w d = true
      · rw [if_pos ((bit_test _ (by omega)).mpr (by rw [hin] at h2; simpa using h2)), if_pos h2]
        have hgx : gA b 8 (nI (3 + 3 * l)) = x := by
          rw [hB.days hl]
          exact va_up_self _ _ _
        rw [hgx, show nI (v.1 9 - tk) + (-1) = nI (v.1 9 - (tk + 1)) by
          rw [show v.1 9 - tk = (v.1 9 - (tk + 1)) + 1 by omega, pk_m1]]
        obtain ⟨b', q1, q2, q3⟩ := ih n (d + 1) (tk + 1) (pA b 8 (nI (3 + 3 * l)) (x ||| (1 <<< (nI d &&& 31)))) (x ||| (1 <<< (nI d &&& 31))) (by omega) (by omega) (by omega) (by rw [pA_ne _ _ _ (by decide)]; exact hM) (hB.sx hl _) (fun j hj => by
          rw [b_or]
          by_cases h32 : j < 32
          · rw [one_shl (by omega) h32, hx j (by omega)]
            have : ¬ j = d := by omega
            simp [this]
          · rw [b_big (by omega), b_big (by omega), b_big (by omega)]; rfl)
        exact ⟨b', q1, ((FrA.rf 8 b).pA _ _).trans q2, q3⟩
      · rw [if_neg (fun h => h2 (by rw [hin, (bit_test _ (by omega)).mp h]; rfl)), if_neg h2]
        exact ih n (d + 1) tk b x (by omega) (by omega) ht hM hB (fun j hj => hx j (by omega))
    · rw [show v.1 9 - tk = 0 by omega, if_pos (show nI 0 ≤ 0 by decide), if_neg h1]
      exact ⟨b, rfl, FrA.rf _ _, hB⟩
