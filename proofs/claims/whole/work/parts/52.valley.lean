-- the items of a valley, and what a valley taken leaves
theorem it73 {R T G : BV} (h : R.1 2 = -9) (x : Int32) : f_1_readItems_73 R T G x = some (x, R, T, G) := by
  unfold f_1_readItems_73 f_1_readItems_93
  rw [gI_eq, h, if_pos rfl]
theorem it73b {R T G : BV} {bg : Nat} (h : R.1 2 = nI bg) (hb : bg ≤ 150) (x : Int32) : f_1_readItems_73 R T G x = some (-10 - nI bg, R, T, G) := by
  unfold f_1_readItems_73 f_1_readItems_93
  rw [gI_eq, h, if_neg (beg9 hb)]
theorem itemsJ {sz : Nat} {a : Nat → Int32} : ∀ (k n n' i beg p : Nat) (R T G b : BV) (v : LV), sz - beg ≤ k → k < n → k < n' → i ≤ beg → Jn sz a beg p T b → R.1 2 = -9 → Dr R G (b.2.1 6) v → (∃ R' T' G' b' c v', f_1_readItems_37 n R T G (nI i) = some (nI c, R', T', G') ∧ c ≤ 150 ∧ f_6_valley_15 n' b (nI i) = (f_6_takes (pI b' 1 0)).bind (fun z1 => some (nI c, z1)) ∧ Dr R' G' (b'.2.1 6) v' ∧ FrT T T' ∧ FrI b b') ∨ (∃ R' T' G' b' bg, f_1_readItems_37 n R T G (nI i) = some (-10 - nI bg, R', T', G') ∧ f_6_valley_15 n' b (nI i) = some (-10 - nI bg, b') ∧ bg ≤ 150 ∧ FrT T T' ∧ FrI b b') := by
  intro k
  induction k with
  | zero =>
    intro n n' i beg p R T G b v hk hn hn' hi hJ hR hD
    obtain ⟨n, rfl⟩ : ∃ m, n = m + 1 := ⟨n - 1, by omega⟩
    obtain ⟨n', rfl⟩ : ∃ m, n' = m + 1 := ⟨n' - 1, by omega⟩
    have h150 := hJ.b150
    have h0 : T.1 3 = 0 := by
      by_cases h : T.1 3 = 0
      · exact h
      · have h1 := hJ.2.2.2.2.2.2.2.2 h
        have h2 := hJ.2.2.1
        omega
    have h0b : b.1 4 = 0 := by
      rcases hJ.2.2.2.2.2.2.2.1 with ⟨-, k2⟩ | ⟨k1, -⟩ | ⟨k1, -⟩ | ⟨k1, -⟩ | ⟨-, k1 | ⟨k1, -⟩⟩
      · exact k2
      all_goals rw [h0] at k1; exact absurd k1 (by decide)
    refine Or.inl ⟨R, T, G, b, i, v, ?_, by omega, ?_, hD, FrT.rf _, FrI.rf _⟩
    · show f_1_readItems_37_b (f_1_readItems_37 n) _ _ _ _ = _
      unfold f_1_readItems_37_b
      rw [gI_eq R 2, gI_eq T 3, hR, h0, if_pos rfl, if0, it73 hR, ite_self]
    · show f_6_valley_15_b (f_6_valley_15 n') _ _ = _
      unfold f_6_valley_15_b
      rw [gI_eq b 4, h0b, if0]
  | succ k ih =>
    intro n n' i beg p R T G b v hk hn hn' hi hJ hR hD
    obtain ⟨n, rfl⟩ : ∃ m, n = m + 1 := ⟨n - 1, by omega⟩
    obtain ⟨n', rfl⟩ : ∃ m, n' = m + 1 := ⟨n' - 1, by omega⟩
    have h150 := hJ.b150
    by_cases h0 : T.1 3 = 0
    · have h0b : b.1 4 = 0 := by
        rcases hJ.2.2.2.2.2.2.2.1 with ⟨-, k2⟩ | ⟨k1, -⟩ | ⟨k1, -⟩ | ⟨k1, -⟩ | ⟨-, k1 | ⟨k1, -⟩⟩
        · exact k2
        all_goals rw [h0] at k1; exact absurd k1 (by decide)
      refine Or.inl ⟨R, T, G, b, i, v, ?_, by omega, ?_, hD, FrT.rf _, FrI.rf _⟩
      · show f_1_readItems_37_b (f_1_readItems_37 n) _ _ _ _ = _
        unfold f_1_readItems_37_b
        rw [gI_eq R 2, gI_eq T 3, hR, h0, if_pos rfl, if0, it73 hR, ite_self]
      · show f_6_valley_15_b (f_6_valley_15 n') _ _ = _
        unfold f_6_valley_15_b
        rw [gI_eq b 4, h0b, if0]
    · have h0b : ¬ b.1 4 = 0 := by
        rcases hJ.2.2.2.2.2.2.2.1 with ⟨k1, -⟩ | ⟨-, k2, -⟩ | ⟨-, k2, -⟩ | ⟨-, k2⟩ | ⟨k2, -⟩
        · exact absurd k1 h0
        all_goals rw [k2]; decide
      have hlt := hJ.2.2.2.2.2.2.2.2 h0
      have hps := hJ.2.2.1
      have hsz := hJ.1.1
      have eC : f_1_readItems_37 (n + 1) R T G (nI i) = (f_1_readItem R T G).bind (fun z1 => f_1_readItems_37 n z1.1 z1.2.1 z1.2.2 (nI (i + 1))) := by
        show f_1_readItems_37_b (f_1_readItems_37 n) _ _ _ _ = _
        unfold f_1_readItems_37_b
        rw [if_neg (show ¬ (150 : Int32) ≤ nI i from nI_ge (b := 150) (by omega) (by decide)), gI_eq R 2, gI_eq T 3, hR, if_pos rfl, if_neg h0, nI_1]
      have eM : f_6_valley_15 (n' + 1) b (nI i) = (f_6_readItem b).bind (fun z2 => if z2.1 = 0 then (some (((-10) - (gI z2.2 3)), z2.2)) else ((f_6_reads z2.2).bind (fun z3 => f_6_valley_15 n' z3 (nI (i + 1))))) := by
        show f_6_valley_15_b (f_6_valley_15 n') _ _ = _
        unfold f_6_valley_15_b
        rw [gI_eq b 4, if_neg h0b, nI_1]
      rw [eC, eM]
      rcases itemOut hJ h0 hR hD with ⟨R', T', G', b1, b', beg', p', v', q1, q2, q3, q4, q5, q6, q7, q8, q9⟩ | ⟨R', T', G', b', bg, q1, q2, q3, q4, q5, q6, q7⟩
      · rw [q1, q2, Option.bind_some, Option.bind_some, if1, q3, Option.bind_some]
        rcases ih n n' (i + 1) beg' p' R' T' G' b' v' (by omega) (by omega) (by omega) (by omega) q5 q4 q7 with ⟨R2, T2, G2, b2, c, v2, e1, e2, e3, e4, e5, e6⟩ | ⟨R2, T2, G2, b2, bg, e1, e2, e3, e4, e5⟩
        · exact Or.inl ⟨R2, T2, G2, b2, c, v2, e1, e2, e3, e4, q8.trans e5, q9.trans e6⟩
        · exact Or.inr ⟨R2, T2, G2, b2, bg, e1, e2, e3, q8.trans e4, q9.trans e5⟩
      · rw [q1, q2, Option.bind_some, Option.bind_some, if0, gI_eq, q3]
        obtain ⟨n, rfl⟩ : ∃ m, n = m + 1 := ⟨n - 1, by omega⟩
        refine Or.inr ⟨R', T', G', b', bg, ?_, rfl, q5, q6, q7⟩
        show f_1_readItems_37_b (f_1_readItems_37 n) _ _ _ _ = _
        unfold f_1_readItems_37_b
        rw [gI_eq R' 2, q4, if_neg (beg9 q5), it73b q4 q5, ite_self]
theorem plM : ∀ (m n k : Nat) (b : BV), k + m = 79 → m < n → ∃ b', f_6_plain_2 n b (nI k) = some b' ∧ FrA 6 b b' ∧ (∀ j, j < k → j ≠ 3 → j ≠ 4 → j ≠ 5 → b'.2.1 6 j = b.2.1 6 j) ∧ b'.2.1 6 3 = 2 ∧ b'.2.1 6 4 = 3 ∧ b'.2.1 6 5 = 9 ∧ (∀ j, k ≤ j → j < 79 → j ≠ 3 → j ≠ 4 → j ≠ 5 → b'.2.1 6 j = 0) := by
  intro m
  induction m with
  | zero =>
    intro n k b hk hn
    obtain ⟨n, rfl⟩ : ∃ q, n = q + 1 := ⟨n - 1, by omega⟩
    obtain rfl : k = 79 := by omega
    have e : (pA (pA (pA b 6 3 2) 6 4 3) 6 5 9).2.1 6 = upd (upd (upd (b.2.1 6) 3 2) 4 3) 5 9 := by
      rw [pA_same, pA_same, pA_same, show (3 : Int32).toNatClampNeg = 3 by decide, show (4 : Int32).toNatClampNeg = 4 by decide, show (5 : Int32).toNatClampNeg = 5 by decide]
    refine ⟨pA (pA (pA b 6 3 2) 6 4 3) 6 5 9, ?_, (((FrA.rf 6 b).pA _ _).pA _ _).pA _ _, fun j _ h3 h4 h5 => ?_, ?_, ?_, ?_, fun j h1 h2 => by omega⟩
    · show f_6_plain_2_b (f_6_plain_2 n) _ _ = _
      unfold f_6_plain_2_b bs
      rw [if_pos (show (79 : Int32) ≤ nI 79 by decide), ck_inbL (by decide)]
      show ck (inb 4 79) (ck (inb 5 79) _) = _
      rw [ck_inbL (by decide), ck_inbL (by decide)]
    · rw [e, upd_n _ _ h5, upd_n _ _ h4, upd_n _ _ h3]
    · rw [e, upd_n _ _ (by decide), upd_n _ _ (by decide), upd_s]
    · rw [e, upd_n _ _ (by decide), upd_s]
    · rw [e, upd_s]
  | succ m ih =>
    intro n k b hk hn
    obtain ⟨n, rfl⟩ : ∃ q, n = q + 1 := ⟨n - 1, by omega⟩
    have e : f_6_plain_2 (n + 1) b (nI k) = f_6_plain_2 n (pA b 6 (nI k) 0) (nI (k + 1)) := by
      show f_6_plain_2_b (f_6_plain_2 n) _ _ = _
      unfold f_6_plain_2_b bs
      rw [if_neg (show ¬ (79 : Int32) ≤ nI k from nI_ge (b := 79) (by omega) (by decide)), ck_inb (by omega) (by decide), nI_1]
    obtain ⟨b', h1, h2, h3, h4, h5, h6, h7⟩ := ih n (k + 1) (pA b 6 (nI k) 0) (by omega) (by omega)
    refine ⟨b', by rw [e]; exact h1, ((FrA.rf 6 b).pA _ _).trans h2, fun j hj a3 a4 a5 => ?_, h4, h5, h6, fun j hj1 hj2 a3 a4 a5 => ?_⟩
    · rw [h3 j (by omega) a3 a4 a5, pA_same, nI_clamp (by omega), upd_n _ _ (by omega)]
    · by_cases hjk : j = k
      · subst hjk
        rw [h3 _ (by omega) a3 a4 a5, pA_same, nI_clamp (by omega), upd_s]
      · exact h7 j (by omega) hj2 a3 a4 a5
def v00 : LV := (fun j => if j = 8 then 2 else if j = 9 then 3 else if j = 10 then 9 else 0, fun _ _ => 0)
theorem okV00 : OkL v00 := ⟨by decide, by decide, by decide, by decide, by decide, by decide, fun d h => absurd h (show ¬ d < 0 by omega), fun c h => absurd h (show ¬ c < 0 by omega)⟩
theorem lmV00 {m : Nat → Int32} (h3 : m 3 = 2) (h4 : m 4 = 3) (h5 : m 5 = 9) (h0 : ∀ j, j < 3 → m j = 0) : LM m v00 := ⟨h0 0 (by omega), h0 1 (by omega), h0 2 (by omega), h3, h4, h5, fun d h => absurd h (show ¬ d < 0 by omega), fun c h => absurd h (show ¬ c < 0 by omega)⟩
theorem plainM (b : BV) : ∃ b', f_6_plain b = some b' ∧ FrA 6 b b' ∧ LM (b'.2.1 6) v00 ∧ b'.2.1 6 6 = 0 := by
  obtain ⟨b', h1, h2, -, h4, h5, h6, h7⟩ := plM 79 200 0 b (by omega) (by omega)
  exact ⟨b', h1, h2, lmV00 h4 h5 h6 (fun j hj => h7 j (by omega) (by omega) (by omega) (by omega) (by omega)), h7 6 (by omega) (by omega) (by decide) (by decide) (by decide)⟩
theorem tk28 : ∀ (m n k : Nat) (b : BV), k + m = 15 → m < n → ∃ b', f_6_takes_28 n b (nI k) = some (pA (pI (pI (pA b' 16 0 0) 10 0) 12 0) 16 167 0) ∧ FrA 8 b b' ∧ (∀ i, i < k → b'.2.1 8 i = b.2.1 8 i) ∧ (∀ j, k ≤ j → j < 15 → b'.2.1 8 j = 0) := by
  intro m
  induction m with
  | zero =>
    intro n k b hk hn
    obtain ⟨n, rfl⟩ : ∃ q, n = q + 1 := ⟨n - 1, by omega⟩
    obtain rfl : k = 15 := by omega
    refine ⟨b, ?_, FrA.rf _ _, fun i hi => rfl, fun j h1 h2 => by omega⟩
    show f_6_takes_28_b (f_6_takes_28 n) _ _ = _
    unfold f_6_takes_28_b bs
    rw [if_pos (show (15 : Int32) ≤ nI 15 by decide), ck_inbL (by decide)]
    show ck (inb 167 334) _ = _
    rw [ck_inbL (by decide)]
  | succ m ih =>
    intro n k b hk hn
    obtain ⟨n, rfl⟩ : ∃ q, n = q + 1 := ⟨n - 1, by omega⟩
    have e : f_6_takes_28 (n + 1) b (nI k) = f_6_takes_28 n (pA b 8 (nI k) 0) (nI (k + 1)) := by
      show f_6_takes_28_b (f_6_takes_28 n) _ _ = _
      unfold f_6_takes_28_b bs
      rw [if_neg (show ¬ (15 : Int32) ≤ nI k from nI_ge (b := 15) (by omega) (by decide)), ck_inb (by omega) (by decide), nI_1]
    obtain ⟨b', h1, h2, h3, h4⟩ := ih n (k + 1) (pA b 8 (nI k) 0) (by omega) (by omega)
    refine ⟨b', by rw [e]; exact h1, ((FrA.rf 8 b).pA _ _).trans h2, fun i hi => ?_, fun j hj1 hj2 => ?_⟩
    · rw [h3 i (by omega), pA_same, nI_clamp (by omega), upd_n _ _ (by omega)]
    · by_cases hjk : j = k
      · subst hjk
        rw [h3 _ (by omega), pA_same, nI_clamp (by omega), upd_s]
      · exact h4 j (by omega) hj2
theorem tk2 : ∀ (m n k : Nat) (b : BV), k + m = 79 → m < n → ∃ b', f_6_takes_2 n b (nI k) = f_6_takes_28 200 b' 0 ∧ FrA 7 b b' ∧ (∀ i, i < k → b'.2.1 7 i = b.2.1 7 i) ∧ (∀ j, k ≤ j → j < 79 → b'.2.1 7 j = b.2.1 6 j) := by
  intro m
  induction m with
  | zero =>
    intro n k b hk hn
    obtain ⟨n, rfl⟩ : ∃ q, n = q + 1 := ⟨n - 1, by omega⟩
    obtain rfl : k = 79 := by omega
    refine ⟨b, ?_, FrA.rf _ _, fun i hi => rfl, fun j h1 h2 => by omega⟩
    show f_6_takes_2_b (f_6_takes_2 n) _ _ = _
    unfold f_6_takes_2_b
    rw [if_pos (show (79 : Int32) ≤ nI 79 by decide)]
  | succ m ih =>
    intro n k b hk hn
    obtain ⟨n, rfl⟩ : ∃ q, n = q + 1 := ⟨n - 1, by omega⟩
    have e : f_6_takes_2 (n + 1) b (nI k) = f_6_takes_2 n (pA b 7 (nI k) (b.2.1 6 k)) (nI (k + 1)) := by
      show f_6_takes_2_b (f_6_takes_2 n) _ _ = _
      unfold f_6_takes_2_b bs
      rw [if_neg (show ¬ (79 : Int32) ≤ nI k from nI_ge (b := 79) (by omega) (by decide)), ck_inb (by omega) (by decide), ck_inb (by omega) (by decide), nI_1, gA_nI _ _ (by omega)]
    obtain ⟨b', h1, h2, h3, h4⟩ := ih n (k + 1) (pA b 7 (nI k) (b.2.1 6 k)) (by omega) (by omega)
    refine ⟨b', by rw [e]; exact h1, ((FrA.rf 7 b).pA _ _).trans h2, fun i hi => ?_, fun j hj1 hj2 => ?_⟩
    · rw [h3 i (by omega), pA_same, nI_clamp (by omega), upd_n _ _ (by omega)]
    · by_cases hjk : j = k
      · subst hjk
        rw [h3 _ (by omega), pA_same, nI_clamp (by omega), upd_s]
      · rw [h4 j (by omega) hj2, pA_ne _ _ _ (by decide)]
def w00 : SV := (fun _ => 0, fun _ => 0, fun _ => 0, 0, 0, 0)
theorem takesM (b : BV) : ∃ b', f_6_takes b = some b' ∧ b'.2.2 = b.2.2 ∧ b'.1 10 = 0 ∧ b'.1 12 = 0 ∧ b'.1 1 = b.1 1 ∧ (∀ j, j < 79 → b'.2.1 7 j = b.2.1 6 j) ∧ SM (b'.2.1 8) 0 w00 ∧ b'.2.1 16 0 = 0 ∧ b'.2.1 16 167 = 0 ∧ b'.2.1 0 = b.2.1 0 := by
  obtain ⟨b1, h1, h2, -, h4⟩ := tk2 79 200 0 b (by omega) (by omega)
  obtain ⟨b2, g1, g2, -, g4⟩ := tk28 15 200 0 b1 (by omega) (by omega)
  have g1 : f_6_takes_28 200 b1 0 = _ := g1
  have h1 : f_6_takes b = _ := h1
  refine ⟨_, h1.trans g1, ?_, ?_, by rw [pA_1, pI_s], ?_, fun j hj => ?_, ?_, ?_, ?_, ?_⟩
  · exact g2.2.1.trans h2.2.1
  · rw [pA_1, pI_n _ _ (by decide), pI_s]
  · rw [pA_1, pI_n _ _ (by decide), pI_n _ _ (by decide), pA_1, g2.1, h2.1]
  · rw [pA_ne _ _ _ (by decide), pI_2, pI_2, pA_ne _ _ _ (by decide), g2.2.2 7 (by decide)]
    exact h4 j (by omega) hj
  · have e : ∀ j, j < 15 → (pA (pI (pI (pA b2 16 0 0) 10 0) 12 0) 16 167 0).2.1 8 j = 0 := fun j hj => by
      rw [pA_ne _ _ _ (by decide), pI_2, pI_2, pA_ne _ _ _ (by decide)]
      exact g4 j (by omega) hj
    exact ⟨fun l hl => ⟨e _ (by omega), e _ (by omega), e _ (by omega)⟩, e _ (by omega), e _ (by omega), e _ (by omega)⟩
  · rw [pA_same, show (167 : Int32).toNatClampNeg = 167 by decide, upd_n _ _ (by decide), pI_2, pI_2, pA_same, show (0 : Int32).toNatClampNeg = 0 by decide, upd_s]
  · rw [pA_same, show (167 : Int32).toNatClampNeg = 167 by decide, upd_s]
  · rw [pA_ne _ _ _ (by decide), pI_2, pI_2, pA_ne _ _ _ (by decide), g2.2.2 0 (by decide), h2.2.2 0 (by decide)]
theorem LM.congr {m m' : Nat → Int32} {v : LV} (h : LM m v) (ok : OkL v) (e : ∀ j, j < 79 → m' j = m j) : LM m' v := by
  have h30 := ok.days
  have h4 := ok.crops
  obtain ⟨c1, c2, c3, c4, c5, c6, c7, c8⟩ := h
  refine ⟨(e 0 (by omega)).trans c1, (e 1 (by omega)).trans c2, (e 2 (by omega)).trans c3, (e 3 (by omega)).trans c4, (e 4 (by omega)).trans c5, (e 5 (by omega)).trans c6, fun d hd => ?_, fun c hc => ?_⟩
  · rw [e _ (by omega), e _ (by omega)]; exact c7 d hd
  · rw [e _ (by omega), e _ (by omega), e _ (by omega)]; exact c8 c hc
theorem snC : ∀ (k n l : Nat) (S : BV) (w : SV), l + k = 4 → k < n → SC S w → (∀ j, j < l → w.1 j = 0 ∧ w.2.1 j = 0 ∧ w.2.2.1 j = 0) → ∃ S', f_2_startAnew_2 n S (nI l) = some S' ∧ SC S' w00 := by
  intro k
  induction k with
  | zero =>
    intro n l S w hl hn hS h0
    obtain ⟨n, rfl⟩ : ∃ q, n = q + 1 := ⟨n - 1, by omega⟩
    obtain rfl : l = 4 := by omega
    refine ⟨pI (pI (pI S 3 0) 4 0) 5 0, ?_, fun j hj => ?_, ?_, ?_, pI_s _ _ _⟩
    · show f_2_startAnew_2_b (f_2_startAnew_2 n) _ _ = _
      unfold f_2_startAnew_2_b
      rw [if_pos (show (4 : Int32) ≤ nI 4 by decide)]
    · obtain ⟨g1, g2, g3⟩ := hS.1 j hj
      obtain ⟨z1, z2, z3⟩ := h0 j hj
      rw [z1] at g1
      rw [z2] at g2
      rw [z3] at g3
      exact ⟨g1, g2, g3⟩
    · rw [pI_n _ _ (by decide), pI_n _ _ (by decide), pI_s]; rfl
    · rw [pI_n _ _ (by decide), pI_s]; rfl
  | succ k ih =>
    intro n l S w hl hn hS h0
    obtain ⟨n, rfl⟩ : ∃ q, n = q + 1 := ⟨n - 1, by omega⟩
    obtain ⟨S1, q1, q2⟩ := setFreeC hS (show l < 4 by omega)
    have e : f_2_startAnew_2 (n + 1) S (nI l) = f_2_startAnew_2 n S1 (nI (l + 1)) := by
      show f_2_startAnew_2_b (f_2_startAnew_2 n) _ _ = _
      unfold f_2_startAnew_2_b
      rw [if_neg (show ¬ (4 : Int32) ≤ nI l from nI_ge (b := 4) (by omega) (by decide)), q1, Option.bind_some, nI_1]
    rw [e]
    refine ih n (l + 1) S1 _ (by omega) (by omega) q2 (fun j hj => ?_)
    unfold freeW
    by_cases hjl : j = l
    · subst hjl
      simp only [va_up_self]
      exact ⟨trivial, trivial, trivial⟩
    · simp only [va_up_ne _ _ hjl]
      exact h0 j (by omega)
theorem okW00 {v : LV} (ok : OkL v) (B : Nat) : OkT v w00 B := by
  refine ⟨⟨fun l hl => ⟨Nat.zero_le _, Nat.zero_le _, fun h => absurd rfl h⟩, fun l hl d hd => ?_, fun d hd => ?_, fun l k hl hk hlk d hd => ?_, fun l hl d hd => ?_⟩, Nat.zero_le _, Nat.zero_le _⟩
  · have hd : bt 0 d = true := hd
    rw [b_0] at hd; cases hd
  · have hd : bt 0 d = true := hd
    rw [b_0] at hd; cases hd
  · exact b_0 d
  · exact b_0 d
