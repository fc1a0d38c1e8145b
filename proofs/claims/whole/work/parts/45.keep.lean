-- keep, back
theorem blC {O : Nat → BV} : ∀ (k i : Nat) (P : Nat → BV), i + k = 10 → (∀ j, j < i → ∀ w, SC (O j) w → SC (P j) w) → ∃ P', f_3_bl O k i P = some P' ∧ ∀ j, j < 10 → ∀ w, SC (O j) w → SC (P' j) w := by
  intro k
  induction k with
  | zero =>
    intro i P hi h
    exact ⟨P, rfl, fun j hj => h j (by omega)⟩
  | succ k ih =>
    intro i P hi h
    obtain ⟨z, hz, hw⟩ := becomeC (P i) (O i)
    show ∃ P', (f_2_become (P i) (O i)).bind (fun z => f_3_bl O k (i + 1) (va_up P i z)) = some P' ∧ _
    rw [hz, Option.bind_some]
    refine ih (i + 1) _ (by omega) (fun j hj w => ?_)
    by_cases hji : j = i
    · subst hji; rw [va_up_self]; exact hw w
    · rw [va_up_ne _ _ hji]; exact h j (by omega) w
theorem storyBecomeC (Y N : BV) (P : Nat → BV) (Z M : BV) (O : Nat → BV) : ∃ r, f_3_become Y N P Z M O = some r ∧ r.1 = pI Y 2 (gI Z 2) ∧ (∀ w, SC M w → SC r.2.1 w) ∧ ∀ j, j < 10 → ∀ w, SC (O j) w → SC (r.2.2 j) w := by
  obtain ⟨z, hz, hw⟩ := becomeC N M
  obtain ⟨P', hP, hP2⟩ := blC (O := O) 10 0 P (by omega) (fun j hj => absurd hj (by omega))
  refine ⟨(pI Y 2 (gI Z 2), z, P'), ?_, rfl, hw, hP2⟩
  unfold f_3_become
  rw [hz, Option.bind_some, hP, Option.bind_some]
theorem RStory.cp {v : LV} {Y Y' : BV} {P P' : Nat → BV} {k k' : Int32} {a a' : Nat → Int32} {o o' B : Nat} (h : RStory v Y P k a o B) (hY : Y'.1 2 = Y.1 2) (hP : ∀ j, j < 10 → ∀ w, SC (P j) w → SC (P' j) w) (hk : k' = k) (e : ∀ j, j < 150 → a' (o' + j) = a (o + j)) : RStory v Y' P' k' a' o' B := by
  obtain ⟨kn, h1, h2, h3, h4⟩ := h
  refine ⟨kn, h1, hY.trans h2, hk.trans h3, fun i hi => ?_⟩
  obtain ⟨u, g1, g2, g3⟩ := h4 i hi
  exact ⟨u, hP i (by omega) u g1, g2.congr (fun j hj => by rw [Nat.add_assoc, Nat.add_assoc]; exact e (15 * i + j) (by omega)), g3⟩
theorem kp39 {o : Nat} (ho : o ≤ 167) : ∀ (m n k : Nat) (b : BV), k + m = 15 → m < n → ∃ b', f_6_keep_39 n b (nI o) (nI k) = f_6_keep_69 200 b' (nI o) 0 ∧ FrA 16 b b' ∧ (∀ i, ¬ (o + 2 + k ≤ i ∧ i < o + 17) → b'.2.1 16 i = b.2.1 16 i) ∧ (∀ j, k ≤ j → j < 15 → b'.2.1 16 (o + 2 + j) = b.2.1 8 j) := by
  intro m
  induction m with
  | zero =>
    intro n k b hk hn
    obtain ⟨n, rfl⟩ : ∃ q, n = q + 1 := ⟨n - 1, by omega⟩
    obtain rfl : k = 15 := by omega
    refine ⟨b, ?_, FrA.rf _ _, fun i hi => rfl, fun j h1 h2 => by omega⟩
    show f_6_keep_39_b (f_6_keep_39 n) _ _ _ = _
    unfold f_6_keep_39_b
    rw [if_pos (show (15 : Int32) ≤ nI 15 by decide)]
  | succ m ih =>
    intro n k b hk hn
    obtain ⟨n, rfl⟩ : ∃ q, n = q + 1 := ⟨n - 1, by omega⟩
    have ei : (nI o + 2) + nI k = nI (o + 2 + k) := by rw [show (2 : Int32) = nI 2 from rfl, nI_add, nI_add]
    have e : f_6_keep_39 (n + 1) b (nI o) (nI k) = f_6_keep_39 n (pA b 16 (nI (o + 2 + k)) (b.2.1 8 k)) (nI o) (nI (k + 1)) := by
      show f_6_keep_39_b (f_6_keep_39 n) _ _ _ = _
      unfold f_6_keep_39_b bs
      rw [if_neg (show ¬ (15 : Int32) ≤ nI k from nI_ge (b := 15) (by omega) (by decide)), ei, ck_inb (by omega) (by decide), ck_inb (by omega) (by decide), nI_1, gA_nI _ _ (by omega)]
    obtain ⟨b', h1, h2, h3, h4⟩ := ih n (k + 1) (pA b 16 (nI (o + 2 + k)) (b.2.1 8 k)) (by omega) (by omega)
    refine ⟨b', by rw [e]; exact h1, ((FrA.rf 16 b).pA _ _).trans h2, fun i hi => ?_, fun j hj1 hj2 => ?_⟩
    · rw [h3 i (by omega), pA_same, nI_clamp (by omega), upd_n _ _ (by omega)]
    · by_cases hjk : j = k
      · subst hjk
        rw [h3 _ (by omega), pA_same, nI_clamp (by omega), upd_s]
      · rw [h4 j (by omega) hj2, pA_ne _ _ _ (by decide)]
theorem kp69 {o : Nat} (ho : o ≤ 167) : ∀ (m n k : Nat) (b : BV), k + m = 150 → m < n → ∃ b', f_6_keep_69 n b (nI o) (nI k) = some (gA b 8 0, b') ∧ FrA 16 b b' ∧ (∀ i, ¬ (o + 17 + k ≤ i ∧ i < o + 167) → b'.2.1 16 i = b.2.1 16 i) ∧ (∀ j, k ≤ j → j < 150 → b'.2.1 16 (o + 17 + j) = b.2.1 9 j) := by
  intro m
  induction m with
  | zero =>
    intro n k b hk hn
    obtain ⟨n, rfl⟩ : ∃ q, n = q + 1 := ⟨n - 1, by omega⟩
    obtain rfl : k = 150 := by omega
    refine ⟨b, ?_, FrA.rf _ _, fun i hi => rfl, fun j h1 h2 => by omega⟩
    show f_6_keep_69_b (f_6_keep_69 n) _ _ _ = _
    unfold f_6_keep_69_b
    rw [if_pos (show (150 : Int32) ≤ nI 150 by decide), ck_inbL (by decide)]
  | succ m ih =>
    intro n k b hk hn
    obtain ⟨n, rfl⟩ : ∃ q, n = q + 1 := ⟨n - 1, by omega⟩
    have ei : (nI o + 17) + nI k = nI (o + 17 + k) := by rw [show (17 : Int32) = nI 17 from rfl, nI_add, nI_add]
    have e : f_6_keep_69 (n + 1) b (nI o) (nI k) = f_6_keep_69 n (pA b 16 (nI (o + 17 + k)) (b.2.1 9 k)) (nI o) (nI (k + 1)) := by
      show f_6_keep_69_b (f_6_keep_69 n) _ _ _ = _
      unfold f_6_keep_69_b bs
      rw [if_neg (show ¬ (150 : Int32) ≤ nI k from nI_ge (b := 150) (by omega) (by decide)), ei, ck_inb (by omega) (by decide), ck_inb (by omega) (by decide), nI_1, gA_nI _ _ (by omega)]
    obtain ⟨b', h1, h2, h3, h4⟩ := ih n (k + 1) (pA b 16 (nI (o + 17 + k)) (b.2.1 9 k)) (by omega) (by omega)
    refine ⟨b', by rw [e]; exact h1, ((FrA.rf 16 b).pA _ _).trans h2, fun i hi => ?_, fun j hj1 hj2 => ?_⟩
    · rw [h3 i (by omega), pA_same, nI_clamp (by omega), upd_n _ _ (by omega)]
    · by_cases hjk : j = k
      · subst hjk
        rw [h3 _ (by omega), pA_same, nI_clamp (by omega), upd_s]
      · rw [h4 j (by omega) hj2, pA_ne _ _ _ (by decide)]
theorem ba44 {o : Nat} (ho : o ≤ 167) : ∀ (m n k : Nat) (b : BV), k + m = 15 → m < n → ∃ b', f_6_back_44 n b (nI o) (nI k) = f_6_back_74 200 b' (nI o) 0 ∧ FrA 8 b b' ∧ (∀ i, i < k → b'.2.1 8 i = b.2.1 8 i) ∧ (∀ j, k ≤ j → j < 15 → b'.2.1 8 j = b.2.1 16 (o + 2 + j)) := by
  intro m
  induction m with
  | zero =>
    intro n k b hk hn
    obtain ⟨n, rfl⟩ : ∃ q, n = q + 1 := ⟨n - 1, by omega⟩
    obtain rfl : k = 15 := by omega
    refine ⟨b, ?_, FrA.rf _ _, fun i hi => rfl, fun j h1 h2 => by omega⟩
    show f_6_back_44_b (f_6_back_44 n) _ _ _ = _
    unfold f_6_back_44_b
    rw [if_pos (show (15 : Int32) ≤ nI 15 by decide)]
  | succ m ih =>
    intro n k b hk hn
    obtain ⟨n, rfl⟩ : ∃ q, n = q + 1 := ⟨n - 1, by omega⟩
    have ei : (nI o + 2) + nI k = nI (o + 2 + k) := by rw [show (2 : Int32) = nI 2 from rfl, nI_add, nI_add]
    have e : f_6_back_44 (n + 1) b (nI o) (nI k) = f_6_back_44 n (pA b 8 (nI k) (b.2.1 16 (o + 2 + k))) (nI o) (nI (k + 1)) := by
      show f_6_back_44_b (f_6_back_44 n) _ _ _ = _
      unfold f_6_back_44_b bs
      rw [if_neg (show ¬ (15 : Int32) ≤ nI k from nI_ge (b := 15) (by omega) (by decide)), ei, ck_inb (by omega) (by decide), ck_inb (by omega) (by decide), nI_1, gA_nI _ _ (by omega)]
    obtain ⟨b', h1, h2, h3, h4⟩ := ih n (k + 1) (pA b 8 (nI k) (b.2.1 16 (o + 2 + k))) (by omega) (by omega)
    refine ⟨b', by rw [e]; exact h1, ((FrA.rf 8 b).pA _ _).trans h2, fun i hi => ?_, fun j hj1 hj2 => ?_⟩
    · rw [h3 i (by omega), pA_same, nI_clamp (by omega), upd_n _ _ (by omega)]
    · by_cases hjk : j = k
      · subst hjk
        rw [h3 _ (by omega), pA_same, nI_clamp (by omega), upd_s]
      · rw [h4 j (by omega) hj2, pA_ne _ _ _ (by decide)]
theorem ba74 {o : Nat} (ho : o ≤ 167) : ∀ (m n k : Nat) (b : BV), k + m = 150 → m < n → ∃ b', f_6_back_74 n b (nI o) (nI k) = some (gA b 8 0, b') ∧ FrA 9 b b' ∧ (∀ i, i < k → b'.2.1 9 i = b.2.1 9 i) ∧ (∀ j, k ≤ j → j < 150 → b'.2.1 9 j = b.2.1 16 (o + 17 + j)) := by
  intro m
  induction m with
  | zero =>
    intro n k b hk hn
    obtain ⟨n, rfl⟩ : ∃ q, n = q + 1 := ⟨n - 1, by omega⟩
    obtain rfl : k = 150 := by omega
    refine ⟨b, ?_, FrA.rf _ _, fun i hi => rfl, fun j h1 h2 => by omega⟩
    show f_6_back_74_b (f_6_back_74 n) _ _ _ = _
    unfold f_6_back_74_b
    rw [if_pos (show (150 : Int32) ≤ nI 150 by decide), ck_inbL (by decide)]
  | succ m ih =>
    intro n k b hk hn
    obtain ⟨n, rfl⟩ : ∃ q, n = q + 1 := ⟨n - 1, by omega⟩
    have ei : (nI o + 17) + nI k = nI (o + 17 + k) := by rw [show (17 : Int32) = nI 17 from rfl, nI_add, nI_add]
    have e : f_6_back_74 (n + 1) b (nI o) (nI k) = f_6_back_74 n (pA b 9 (nI k) (b.2.1 16 (o + 17 + k))) (nI o) (nI (k + 1)) := by
      show f_6_back_74_b (f_6_back_74 n) _ _ _ = _
      unfold f_6_back_74_b bs
      rw [if_neg (show ¬ (150 : Int32) ≤ nI k from nI_ge (b := 150) (by omega) (by decide)), ei, ck_inb (by omega) (by decide), ck_inb (by omega) (by decide), nI_1, gA_nI _ _ (by omega)]
    obtain ⟨b', h1, h2, h3, h4⟩ := ih n (k + 1) (pA b 9 (nI k) (b.2.1 16 (o + 17 + k))) (by omega) (by omega)
    refine ⟨b', by rw [e]; exact h1, ((FrA.rf 9 b).pA _ _).trans h2, fun i hi => ?_, fun j hj1 hj2 => ?_⟩
    · rw [h3 i (by omega), pA_same, nI_clamp (by omega), upd_n _ _ (by omega)]
    · by_cases hjk : j = k
      · subst hjk
        rw [h3 _ (by omega), pA_same, nI_clamp (by omega), upd_s]
      · rw [h4 j (by omega) hj2, pA_ne _ _ _ (by decide)]
theorem s_keep : Sim1 Rel F_keep G_keep := by
  intro σ b n x hn hr
  obtain ⟨v, w, ok, hL, hM, hS, hB, hT, hx, hy, ht, hj, hi⟩ := id hr
  rcases wi x 0 1 (by decide) (by decide) with ⟨i, -, i2, rfl, w1, w2⟩ | ⟨-, w1, w2⟩
  · have w1 : f_5_isWithin (nI i) 0 1 = some 1 := w1
    have w2 : f_6_in (nI i).toInt64 0 1 = some 1 := w2
    have hcl : (nI i).toNatClampNeg = i := nI_clamp (by omega)
    obtain ⟨r, r1, r2, r3, r4⟩ := storyBecomeC (sZ σ i) (sM σ i) (sO σ i) (sY σ) (sN σ) (sP σ)
    have em : (167 : Int32) * nI i = nI (167 * i) := by rw [show (167 : Int32) = nI 167 from rfl, pk_mul]
    have em1 : nI (167 * i) + 1 = nI (167 * i + 1) := nI_1 _
    obtain ⟨b5, hb5⟩ : ∃ b5, b5 = pA (pA b 16 (nI (167 * i)) 1) 16 (nI (167 * i + 1)) (b.1 10) := ⟨_, rfl⟩
    have f5 : FrA 16 b b5 := by rw [hb5]; exact ((FrA.rf 16 b).pA _ _).pA _ _
    have e5 : ∀ j, b5.2.1 16 j = upd (upd (b.2.1 16) (167 * i) 1) (167 * i + 1) (b.1 10) j := fun j => by
      rw [hb5, pA_same, pA_same, nI_clamp (by omega), nI_clamp (by omega)]
    obtain ⟨b6, c6, f6, d6, g6⟩ := kp39 (o := 167 * i) (by omega) 15 200 0 b5 (by omega) (by omega)
    obtain ⟨b7, c7, f7, d7, g7⟩ := kp69 (o := 167 * i) (by omega) 150 200 0 b6 (by omega) (by omega)
    have f := (f5.trans f6).trans f7
    have hpu : gA b6 8 0 = nI w.2.2.2.2.1 := by
      show b6.2.1 8 0 = _
      rw [f6.2.2 8 (by decide), f5.2.2 8 (by decide)]
      exact hB.2.2.1
    refine ⟨nI w.2.2.2.2.1, (pA (sX σ) 4 (nI i) 1, σ.2.1, σ.2.2.1, σ.2.2.2.1, σ.2.2.2.2.1, σ.2.2.2.2.2.1, σ.2.2.2.2.2.2.1, σ.2.2.2.2.2.2.2.1, σ.2.2.2.2.2.2.2.2.1, va_up (sZ σ) i r.1, va_up (sM σ) i r.2.1, va_up (sO σ) i r.2.2), b7, ?_, ?_, ?_⟩
    · have e1 : f_5_keep (sX σ) (sY σ) (sN σ) (sP σ) (sZ σ) (sM σ) (sO σ) (nI i) = some (nI w.2.2.2.2.1, pA (sX σ) 4 (nI i) 1, va_up (sZ σ) i r.1, va_up (sM σ) i r.2.1, va_up (sO σ) i r.2.2) := by
        unfold f_5_keep
        rw [w1, Option.bind_some, if1, ck_inb (by omega) (by decide), hcl, r1, Option.bind_some, hS.purse]
      unfold F_keep
      rw [e1]; rfl
    · have e1 : f_6_keep b (nI i) = some (nI w.2.2.2.2.1, b7) := by
        unfold f_6_keep bs
        rw [w2, Option.bind_some, if1, em, em1, ck_inb (by omega) (by decide)]
        show ck (inb (nI (167 * i + 1)) 334) (f_6_keep_39 200 (pA (pA b 16 (nI (167 * i)) 1) 16 (nI (167 * i + 1)) (b.1 10)) (nI (167 * i)) 0) = _
        have c6 : f_6_keep_39 200 b5 (nI (167 * i)) 0 = f_6_keep_69 200 b6 (nI (167 * i)) 0 := c6
        have c7 : f_6_keep_69 200 b6 (nI (167 * i)) 0 = some (gA b6 8 0, b7) := c7
        rw [ck_inb (by omega) (by decide), ← hb5, c6, c7, hpu]
      unfold G_keep
      rw [e1]; rfl
    · refine ⟨v, w, Rel0.mono (B := 1000 * n) ?_ (by omega)⟩
      refine ⟨ok, hL, ?_, hS, ?_, hT, ?_, ?_, ?_, ?_, ?_⟩
      · rw [f.2.2 7 (by decide)]; exact hM
      · rw [f.2.2 8 (by decide)]; exact hB
      · rw [f.1, f.2.2 0 (by decide)]; exact hx
      · rw [f.1, f.2.2 9 (by decide)]; exact hy
      · rw [f.1, f.2.2 13 (by decide), f.2.2 14 (by decide)]
        obtain ⟨tl, t1, t2, t3, t4⟩ := ht
        refine ⟨tl, t1, t2, t3, fun k hk => ?_⟩
        obtain ⟨cr, s, q1, q2, q3, q4, q5, q6⟩ := t4 k hk
        exact ⟨cr, s, q1, q2, by rw [pA_ne _ _ _ (by decide)]; exact q3, q4, by rw [pA_ne _ _ _ (by decide)]; exact q5, q6⟩
      · exact hj.trans f.2.1.symm
      · intro k hk
        have hX : (pA (sX σ) 4 (nI i) 1).2.1 4 k = upd ((sX σ).2.1 4) i 1 k := by rw [pA_same, hcl]
        show ((pA (sX σ) 4 (nI i) 1).2.1 4 k = 0 ∧ _) ∨ ((pA (sX σ) 4 (nI i) 1).2.1 4 k = 1 ∧ _ ∧ (∃ u, SC (va_up (sM σ) i r.2.1 k) u ∧ _ ∧ _) ∧ RStory v (va_up (sZ σ) i r.1 k) (va_up (sO σ) i r.2.2 k) _ _ _ _)
        rw [hX]
        by_cases hki : k = i
        · subst hki
          right
          rw [upd_s, va_up_self, va_up_self, va_up_self]
          refine ⟨rfl, ?_, ⟨w, r3 w hS, ?_, hT⟩, ?_⟩
          · rw [d7 _ (by omega), d6 _ (by omega), e5, upd_n _ _ (by omega), upd_s]
          · refine hB.congr (fun j hj => ?_)
            rw [Nat.zero_add, d7 _ (by omega), g6 j (by omega) hj, f5.2.2 8 (by decide)]
          · refine RStory.cp hy ?_ r4 ?_ (fun j hj => ?_)
            · rw [r2, pI_s]; rfl
            · rw [d7 _ (by omega), d6 _ (by omega), e5, upd_s]
            · rw [Nat.zero_add, g7 j (by omega) hj, f6.2.2 9 (by decide), f5.2.2 9 (by decide)]
        · rw [upd_n _ _ hki, va_up_ne _ _ hki, va_up_ne _ _ hki, va_up_ne _ _ hki]
          have same : ∀ j, j < 167 → b7.2.1 16 (167 * k + j) = b.2.1 16 (167 * k + j) := fun j hj => by
            rw [d7 _ (by omega), d6 _ (by omega), e5, upd_n _ _ (by omega), upd_n _ _ (by omega)]
          have s0 := same 0 (by omega)
          rw [Nat.add_zero] at s0
          rcases hi k hk with ⟨h1, h2⟩ | ⟨h1, h2, ⟨u, u1, u2, u3⟩, h3⟩
          · exact Or.inl ⟨h1, s0.trans h2⟩
          · refine Or.inr ⟨h1, s0.trans h2, ⟨u, u1, u2.congr (fun j hj => ?_), u3⟩, RStory.cp h3 rfl (fun _ _ _ h => h) (same 1 (by omega)) (fun j hj => ?_)⟩
            · rw [Nat.add_assoc]; exact same (2 + j) (by omega)
            · rw [Nat.add_assoc]; exact same (17 + j) (by omega)
  · have w1 : f_5_isWithin x 0 1 = some 0 := w1
    have w2 : f_6_in x.toInt64 0 1 = some 0 := w2
    refine ⟨-1, σ, b, ?_, ?_, hr.mono⟩
    · unfold F_keep f_5_keep
      rw [w1]; rfl
    · unfold G_keep f_6_keep
      rw [w2]; rfl
theorem s_back : Sim1 Rel F_back G_back := by
  intro σ b n x hn hr
  obtain ⟨v, w, ok, hL, hM, hS, hB, hT, hx, hy, ht, hj, hi⟩ := id hr
  rcases wi x 0 1 (by decide) (by decide) with ⟨i, -, i2, rfl, w1, w2⟩ | ⟨-, w1, w2⟩
  · have w1 : f_5_isWithin (nI i) 0 1 = some 1 := w1
    have w2 : f_6_in (nI i).toInt64 0 1 = some 1 := w2
    have hcl : (nI i).toNatClampNeg = i := nI_clamp (by omega)
    have em : (167 : Int32) * nI i = nI (167 * i) := by rw [show (167 : Int32) = nI 167 from rfl, pk_mul]
    have em1 : nI (167 * i) + 1 = nI (167 * i + 1) := nI_1 _
    have gX : gA (sX σ) 4 (nI i) = (sX σ).2.1 4 i := gA_nI _ _ (by omega)
    have gB : gA b 16 (nI (167 * i)) = b.2.1 16 (167 * i) := gA_nI _ _ (by omega)
    have gB1 : gA b 16 (nI (167 * i + 1)) = b.2.1 16 (167 * i + 1) := gA_nI _ _ (by omega)
    rcases hi i (by omega) with ⟨h1, h2⟩ | ⟨h1, h2, ⟨u, u1, u2, u3⟩, h3⟩
    · refine ⟨-2, σ, b, ?_, ?_, hr.mono⟩
      · have e1 : f_5_back (sX σ) (sY σ) (sN σ) (sP σ) (sZ σ) (sM σ) (sO σ) (nI i) = some (-2, sY σ, sN σ, sP σ) := by
          unfold f_5_back
          rw [w1, Option.bind_some, if1, ck_inb (by omega) (by decide), gX, h1, if0]
        unfold F_back
        rw [e1]; rfl
      · have e1 : f_6_back b (nI i) = some (-2, b) := by
          unfold f_6_back
          rw [w2, Option.bind_some, if1, em, ck_inb (by omega) (by decide), gB, h2, if0]
        unfold G_back
        rw [e1]; rfl
    · obtain ⟨r, r1, r2, r3, r4⟩ := storyBecomeC (sY σ) (sN σ) (sP σ) (sZ σ i) (sM σ i) (sO σ i)
      obtain ⟨b6, c6, f6, -, g6⟩ := ba44 (o := 167 * i) (by omega) 15 200 0 (pI b 10 (b.2.1 16 (167 * i + 1))) (by omega) (by omega)
      obtain ⟨b7, c7, f7, -, g7⟩ := ba74 (o := 167 * i) (by omega) 150 200 0 b6 (by omega) (by omega)
      have hB7 : SM (b7.2.1 8) 0 u := by
        refine u2.congr (fun j hj => ?_)
        rw [Nat.zero_add, f7.2.2 8 (by decide), g6 j (by omega) hj]
        rfl
      have hpu : gA b6 8 0 = nI u.2.2.2.2.1 := by
        have := hB7.2.2.1
        rw [f7.2.2 8 (by decide)] at this
        exact this
      have n10 : ∀ j, j ≠ 10 → b7.1 j = b.1 j := fun j hj => by
        rw [f7.1, f6.1, pI_n _ _ hj]
      have rw' : ∀ j, j ≠ 8 → j ≠ 9 → b7.2.1 j = b.2.1 j := fun j h8 h9 => by
        rw [f7.2.2 j h9, f6.2.2 j h8]; rfl
      refine ⟨nI u.2.2.2.2.1, (σ.1, σ.2.1, σ.2.2.1, σ.2.2.2.1, σ.2.2.2.2.1, σ.2.2.2.2.2.1, r.1, r.2.1, r.2.2, σ.2.2.2.2.2.2.2.2.2), b7, ?_, ?_, ?_⟩
      · have e1 : f_5_back (sX σ) (sY σ) (sN σ) (sP σ) (sZ σ) (sM σ) (sO σ) (nI i) = some (nI u.2.2.2.2.1, r.1, r.2.1, r.2.2) := by
          unfold f_5_back
          rw [w1, Option.bind_some, if1, ck_inb (by omega) (by decide), gX, h1, if1, hcl, r1, Option.bind_some, (r3 u u1).purse]
        unfold F_back
        rw [e1]; rfl
      · have e1 : f_6_back b (nI i) = some (nI u.2.2.2.2.1, b7) := by
          have c6 : f_6_back_44 200 (pI b 10 (b.2.1 16 (167 * i + 1))) (nI (167 * i)) 0 = f_6_back_74 200 b6 (nI (167 * i)) 0 := c6
          have c7 : f_6_back_74 200 b6 (nI (167 * i)) 0 = some (gA b6 8 0, b7) := c7
          unfold f_6_back
          rw [w2, Option.bind_some, if1, em, em1, ck_inb (by omega) (by decide), gB, h2, if1, ck_inb (by omega) (by decide), gB1, c6, c7, hpu]
        unfold G_back
        rw [e1]; rfl
      · refine ⟨v, u, Rel0.mono (B := 1000 * n) ?_ (by omega)⟩
        refine ⟨ok, hL, ?_, r3 u u1, hB7, u3, ?_, ?_, ?_, ?_, ?_⟩
        · rw [rw' 7 (by decide) (by decide)]; exact hM
        · rw [n10 1 (by decide), rw' 0 (by decide) (by decide)]; exact hx
        · refine RStory.cp h3 ?_ r4 ?_ (fun j hj => ?_)
          · show r.1.1 2 = _
            rw [r2, pI_s]; rfl
          · rw [f7.1, f6.1, pI_s]
          · rw [Nat.zero_add, g7 j (by omega) hj, f6.2.2 16 (by decide)]; rfl
        · rw [n10 12 (by decide), rw' 13 (by decide) (by decide), rw' 14 (by decide) (by decide)]; exact ht
        · rw [f7.2.1, f6.2.1]; exact hj
        · rw [rw' 16 (by decide) (by decide)]; exact hi
  · have w1 : f_5_isWithin x 0 1 = some 0 := w1
    have w2 : f_6_in x.toInt64 0 1 = some 0 := w2
    refine ⟨-1, σ, b, ?_, ?_, hr.mono⟩
    · unfold F_back f_5_back
      rw [w1]; rfl
    · unfold G_back f_6_back
      rw [w2]; rfl
