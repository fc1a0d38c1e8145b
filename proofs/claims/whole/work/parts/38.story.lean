-- what is remembered: Standing.become, Story.remember, and the reference's notes
theorem pI_s (S : BV) (k : Nat) (v : Int32) : (pI S k v).1 k = v := by
  unfold pI
  exact upd_s _ _ _
theorem pI_n (S : BV) {k j : Nat} (v : Int32) (h : j ≠ k) : (pI S k v).1 j = S.1 j := by
  unfold pI
  exact upd_n _ _ h
theorem SM.congr {m m' : Nat → Int32} {o o' : Nat} {w : SV} (h : SM m o w) (e : ∀ k, k < 15 → m' (o' + k) = m (o + k)) : SM m' o' w := by
  obtain ⟨h1, h2, h3, h4⟩ := h
  refine ⟨fun l hl => ?_, ?_, ?_, ?_⟩
  · obtain ⟨g1, g2, g3⟩ := h1 l hl
    have e1 := e (3 + 3 * l) (by omega)
    have e2 := e (4 + 3 * l) (by omega)
    have e3 := e (5 + 3 * l) (by omega)
    rw [← Nat.add_assoc, ← Nat.add_assoc] at e1 e2 e3
    exact ⟨e1.trans g1, e2.trans g2, e3.trans g3⟩
  · exact (e 2 (by omega)).trans h2
  · exact (e 0 (by omega)).trans h3
  · exact (e 1 (by omega)).trans h4
theorem bcC {O : BV} : ∀ (k n l : Nat) (S : BV), l + k = 4 → k < n → (∀ a, a < 3 → ∀ j, j < l → S.2.1 a j = O.2.1 a j) → ∃ S', f_2_become_2 O n S (nI l) = some S' ∧ ∀ w, SC O w → SC S' w := by
  intro k
  induction k with
  | zero =>
    intro n l S hl hn hI
    obtain ⟨n, rfl⟩ : ∃ m, n = m + 1 := ⟨n - 1, by omega⟩
    obtain rfl : l = 4 := by omega
    refine ⟨pI (pI (pI S 3 (gI O 3)) 4 (gI O 4)) 5 (gI O 5), ?_, fun w hw => ?_⟩
    · show f_2_become_2_b O (f_2_become_2 O n) _ _ = _
      unfold f_2_become_2_b
      rw [if_pos (show (4 : Int32) ≤ nI 4 by decide)]
    · obtain ⟨h1, h2, h3, h4⟩ := hw
      exact ⟨fun l hl => ⟨(hI 0 (by omega) l hl).trans (h1 l hl).1, (hI 1 (by omega) l hl).trans (h1 l hl).2.1, (hI 2 (by omega) l hl).trans (h1 l hl).2.2⟩, h2, h3, h4⟩
  | succ k ih =>
    intro n l S hl hn hI
    obtain ⟨n, rfl⟩ : ∃ m, n = m + 1 := ⟨n - 1, by omega⟩
    have e : f_2_become_2 O (n + 1) S (nI l) = f_2_become_2 O n (pA (pA (pA S 0 (nI l) (gA O 0 (nI l))) 1 (nI l) (gA O 1 (nI l))) 2 (nI l) (gA O 2 (nI l))) (nI (l + 1)) := by
      show f_2_become_2_b O (f_2_become_2 O n) _ _ = _
      unfold f_2_become_2_b bs
      rw [if_neg (show ¬ (4 : Int32) ≤ nI l from nI_ge (b := 4) (by omega) (by decide)), nI_1]
      simp only [ck_inb (show l < 4 by omega) (show 4 < 2147483648 by decide)]
    rw [e]
    refine ih n (l + 1) _ (by omega) (by omega) (fun a ha j hj => ?_)
    have hg : ∀ a, gA O a (nI l) = O.2.1 a l := fun a => gA_nI _ _ (by omega)
    rw [hg, hg, hg]
    rcases (show a = 0 ∨ a = 1 ∨ a = 2 by omega) with rfl | rfl | rfl
    · rw [pA_ne _ _ _ (by decide), pA_ne _ _ _ (by decide), pA_same, nI_clamp (by omega)]
      by_cases hjl : j = l
      · subst hjl; rw [upd_s]
      · rw [upd_n _ _ hjl]; exact hI 0 ha j (by omega)
    · rw [pA_ne _ _ _ (by decide), pA_same, pA_ne _ _ _ (by decide), nI_clamp (by omega)]
      by_cases hjl : j = l
      · subst hjl; rw [upd_s]
      · rw [upd_n _ _ hjl]; exact hI 1 ha j (by omega)
    · rw [pA_same, pA_ne _ _ _ (by decide), pA_ne _ _ _ (by decide), nI_clamp (by omega)]
      by_cases hjl : j = l
      · subst hjl; rw [upd_s]
      · rw [upd_n _ _ hjl]; exact hI 2 ha j (by omega)
theorem becomeC (S O : BV) : ∃ S', f_2_become S O = some S' ∧ ∀ w, SC O w → SC S' w := bcC 4 200 0 S (by omega) (by omega) (fun a _ j hj => absurd hj (by omega))
/-- only the row k (and no number) may differ -/
def FrA (k : Nat) (b b' : BV) : Prop := b'.1 = b.1 ∧ b'.2.2 = b.2.2 ∧ ∀ j, j ≠ k → b'.2.1 j = b.2.1 j
theorem FrA.rf (k : Nat) (b : BV) : FrA k b b := ⟨rfl, rfl, fun _ _ => rfl⟩
theorem FrA.pA {k : Nat} {b b' : BV} (h : FrA k b b') (i v : Int32) : FrA k b (pA b' k i v) := ⟨h.1, h.2.1, fun j hj => (pA_ne _ _ _ hj).trans (h.2.2 j hj)⟩
theorem FrA.trans {k : Nat} {b b' b'' : BV} (h : FrA k b b') (h2 : FrA k b' b'') : FrA k b b'' := ⟨h2.1.trans h.1, h2.2.1.trans h.2.1, fun j hj => (h2.2.2 j hj).trans (h.2.2 j hj)⟩
theorem nt48 {u : Nat} (hu : u ≤ 9) : ∀ (m n k : Nat) (b : BV), k + m = 15 → m < n → b.1 10 = nI u → ∃ b', f_6_notes_48 n b (nI k) = some (pI b' 10 (nI (u + 1))) ∧ FrA 9 b b' ∧ (∀ i, i < 15 * u + k → b'.2.1 9 i = b.2.1 9 i) ∧ (∀ j, k ≤ j → j < 15 → b'.2.1 9 (15 * u + j) = b.2.1 8 j) := by
  intro m
  induction m with
  | zero =>
    intro n k b hk hn h10
    obtain ⟨n, rfl⟩ : ∃ q, n = q + 1 := ⟨n - 1, by omega⟩
    obtain rfl : k = 15 := by omega
    refine ⟨b, ?_, FrA.rf _ _, fun i hi => rfl, fun j h1 h2 => by omega⟩
    show f_6_notes_48_b (f_6_notes_48 n) _ _ = _
    unfold f_6_notes_48_b
    rw [if_pos (show (15 : Int32) ≤ nI 15 by decide), gI_eq, h10, nI_1]
  | succ m ih =>
    intro n k b hk hn h10
    obtain ⟨n, rfl⟩ : ∃ q, n = q + 1 := ⟨n - 1, by omega⟩
    have ei : (15 : Int32) * nI u + nI k = nI (15 * u + k) := by rw [show (15 : Int32) = nI 15 from rfl, pk_mul, nI_add]
    have e : f_6_notes_48 (n + 1) b (nI k) = f_6_notes_48 n (pA b 9 (nI (15 * u + k)) (b.2.1 8 k)) (nI (k + 1)) := by
      show f_6_notes_48_b (f_6_notes_48 n) _ _ = _
      unfold f_6_notes_48_b bs
      rw [if_neg (show ¬ (15 : Int32) ≤ nI k from nI_ge (b := 15) (by omega) (by decide)), gI_eq, h10, ei, ck_inb (by omega) (by decide), ck_inb (by omega) (by decide), nI_1, gA_nI _ _ (by omega)]
    obtain ⟨b', h1, h2, h3, h4⟩ := ih n (k + 1) (pA b 9 (nI (15 * u + k)) (b.2.1 8 k)) (by omega) (by omega) h10
    refine ⟨b', by rw [e]; exact h1, ((FrA.rf 9 b).pA _ _).trans h2, fun i hi => ?_, fun j hj1 hj2 => ?_⟩
    · rw [h3 i (by omega), pA_same, nI_clamp (by omega), upd_n _ _ (by omega)]
    · by_cases hjk : j = k
      · subst hjk
        rw [h3 _ (by omega), pA_same, nI_clamp (by omega), upd_s]
      · rw [h4 j (by omega) hj2, pA_ne _ _ _ (by decide)]
theorem nt12 : ∀ (m n k : Nat) (b : BV), k + m = 150 → 15 ≤ k → m < n → ∃ b', f_6_notes_12 n b (nI k) = f_6_notes_46 (pI b' 10 9) ∧ FrA 9 b b' ∧ (∀ i, i + 15 < k → b'.2.1 9 i = b.2.1 9 i) ∧ (∀ i, k ≤ i + 15 → i + 15 < 150 → b'.2.1 9 i = b.2.1 9 (i + 15)) := by
  intro m
  induction m with
  | zero =>
    intro n k b hk hk15 hn
    obtain ⟨n, rfl⟩ : ∃ q, n = q + 1 := ⟨n - 1, by omega⟩
    obtain rfl : k = 150 := by omega
    refine ⟨b, ?_, FrA.rf _ _, fun i hi => rfl, fun j h1 h2 => by omega⟩
    show f_6_notes_12_b (f_6_notes_12 n) _ _ = _
    unfold f_6_notes_12_b
    rw [if_pos (show (150 : Int32) ≤ nI 150 by decide)]
  | succ m ih =>
    intro n k b hk hk15 hn
    obtain ⟨n, rfl⟩ : ∃ q, n = q + 1 := ⟨n - 1, by omega⟩
    have ei : nI k - (15 : Int32) = nI (k - 15) := pk_sub (b := 15) hk15
    have e : f_6_notes_12 (n + 1) b (nI k) = f_6_notes_12 n (pA b 9 (nI (k - 15)) (b.2.1 9 k)) (nI (k + 1)) := by
      show f_6_notes_12_b (f_6_notes_12 n) _ _ = _
      unfold f_6_notes_12_b bs
      rw [if_neg (show ¬ (150 : Int32) ≤ nI k from nI_ge (b := 150) (by omega) (by decide)), ei, ck_inb (by omega) (by decide), ck_inb (by omega) (by decide), nI_1, gA_nI _ _ (by omega)]
    obtain ⟨b', h1, h2, h3, h4⟩ := ih n (k + 1) (pA b 9 (nI (k - 15)) (b.2.1 9 k)) (by omega) (by omega) (by omega)
    refine ⟨b', by rw [e]; exact h1, ((FrA.rf 9 b).pA _ _).trans h2, fun i hi => ?_, fun i hi1 hi2 => ?_⟩
    · rw [h3 i (by omega), pA_same, nI_clamp (by omega), upd_n _ _ (by omega)]
    · by_cases hik : i + 15 = k
      · rw [h3 i (by omega), pA_same, nI_clamp (by omega), show k - 15 = i by omega, upd_s, hik]
      · rw [h4 i (by omega) hi2, pA_same, nI_clamp (by omega), upd_n _ _ (by omega)]
theorem notesM {b : BV} {kn : Nat} (hk : kn ≤ 10) (h10 : b.1 10 = nI kn) : ∃ b' u, u = (if kn = 10 then 9 else kn) ∧ f_6_notes b = some (pI b' 10 (nI (u + 1))) ∧ b'.2.2 = b.2.2 ∧ (∀ j, j ≠ 10 → b'.1 j = b.1 j) ∧ (∀ j, j ≠ 9 → b'.2.1 j = b.2.1 j) ∧ (∀ i, i < 15 * u → b'.2.1 9 i = b.2.1 9 (if kn = 10 then i + 15 else i)) ∧ (∀ j, j < 15 → b'.2.1 9 (15 * u + j) = b.2.1 8 j) := by
  by_cases h : kn = 10
  · obtain ⟨b1, g1, g2, g3, g4⟩ := nt12 135 200 15 b (by omega) (by omega) (by omega)
    obtain ⟨b2, k1, k2, k3, k4⟩ := nt48 (u := 9) (by omega) 15 200 0 (pI b1 10 9) (by omega) (by omega) (by show upd b1.1 10 9 10 = _; rw [upd_s]; rfl)
    refine ⟨b2, 9, by rw [if_pos h], ?_, ?_, ?_, ?_, ?_, ?_⟩
    · unfold f_6_notes
      rw [gI_eq, h10, h, if_pos (show nI 10 = (10 : Int32) from rfl)]
      have g1 : f_6_notes_12 200 b 15 = f_6_notes_46 (pI b1 10 9) := g1
      rw [g1]
      exact k1
    · exact k2.2.1.trans g2.2.1
    · intro j hj
      rw [k2.1]
      show upd b1.1 10 9 j = _
      rw [upd_n _ _ hj, g2.1]
    · intro j hj
      rw [k2.2.2 j hj]
      exact g2.2.2 j hj
    · intro i hi
      rw [if_pos h, k3 i (by omega)]
      exact g4 i (by omega) (by omega)
    · intro j hj
      rw [k4 j (by omega) hj]
      exact congrFun (g2.2.2 8 (by decide)) j
  · obtain ⟨b2, k1, k2, k3, k4⟩ := nt48 (u := kn) (by omega) 15 200 0 b (by omega) (by omega) h10
    refine ⟨b2, kn, by rw [if_neg h], ?_, k2.2.1, fun j _ => by rw [k2.1], k2.2.2, fun i hi => ?_, fun j hj => k4 j (by omega) hj⟩
    · unfold f_6_notes
      rw [gI_eq, h10, if_neg (show ¬ nI kn = 10 by rw [show (10 : Int32) = nI 10 from rfl, nI_eq (by omega) (by decide)]; exact h)]
      exact k1
    · rw [if_neg h]; exact k3 i (by omega)
theorem rem2C {Y : BV} {kn : Nat} (hk : kn ≤ 9) (h2 : Y.1 2 = nI kn) (N : BV) (P : Nat → BV) : ∃ z, f_3_rem2 Y N P = some (pI Y 2 (nI (kn + 1)), va_up P kn z) ∧ ∀ w, SC N w → SC z w := by
  obtain ⟨z, hz, hw⟩ := becomeC (P kn) N
  refine ⟨z, ?_, hw⟩
  unfold f_3_rem2
  rw [gI_eq, h2, ck_inb (by omega) (by decide), nI_clamp (by omega), hz, Option.bind_some, nI_1]
theorem remembers {v : LV} {w : SV} {Y N b : BV} {P : Nat → BV} {B : Nat} (hS : SC N w) (hB : SM (b.2.1 8) 0 w) (hT : OkT v w B) (hy : RStory v Y P (b.1 10) (b.2.1 9) 0 B) : ∃ r b', f_3_remember Y N P = some r ∧ f_6_notes b = some b' ∧ RStory v r.1 r.2 (b'.1 10) (b'.2.1 9) 0 B ∧ b'.2.2 = b.2.2 ∧ (∀ j, j ≠ 10 → b'.1 j = b.1 j) ∧ (∀ j, j ≠ 9 → b'.2.1 j = b.2.1 j) := by
  obtain ⟨kn, hk, h2, h3, h4⟩ := hy
  obtain ⟨b', u, hu, n1, n2, n3, n4, n5, n6⟩ := notesM hk h3
  have tail : ∀ (Y' : BV) (z : BV) (P' : Nat → BV), SC z w → (∀ i, i < u → P' i = P (if kn = 10 then i + 1 else i)) → RStory v (pI Y' 2 (nI (u + 1))) (va_up P' u z) ((pI b' 10 (nI (u + 1))).1 10) ((pI b' 10 (nI (u + 1))).2.1 9) 0 B := by
    intro Y' z P' hz hP
    refine ⟨u + 1, by split at hu <;> omega, ?_, ?_, fun i hi => ?_⟩
    · exact pI_s _ _ _
    · exact pI_s _ _ _
    · show ∃ x, SC (va_up P' u z i) x ∧ SM (b'.2.1 9) (0 + 15 * i) x ∧ _
      by_cases hiu : i = u
      · subst hiu
        rw [va_up_self]
        exact ⟨w, hz, hB.congr (fun k hk => by rw [Nat.zero_add, n6 k hk, Nat.zero_add]), hT⟩
      · rw [va_up_ne _ _ hiu, hP i (by omega)]
        by_cases h10 : kn = 10
        · rw [if_pos h10] at hu ⊢
          obtain ⟨x, x1, x2, x3⟩ := h4 (i + 1) (by omega)
          exact ⟨x, x1, x2.congr (fun k hk => by rw [n5 _ (by omega), if_pos h10, show 0 + 15 * i + k + 15 = 0 + 15 * (i + 1) + k by omega]), x3⟩
        · rw [if_neg h10] at hu ⊢
          obtain ⟨x, x1, x2, x3⟩ := h4 i (by omega)
          exact ⟨x, x1, x2.congr (fun k hk => by rw [n5 _ (by omega), if_neg h10]), x3⟩
  unfold f_3_remember
  rw [gI_eq, h2]
  by_cases h10 : kn = 10
  · rw [if_pos h10] at hu
    subst hu
    obtain ⟨z, hz, hw⟩ := rem2C (Y := pI Y 2 9) (kn := 9) (by omega) (by show upd Y.1 2 9 2 = _; rw [upd_s]; rfl) N (fun i => P (rot i))
    refine ⟨_, _, by rw [if_neg (show ¬ nI kn < 10 from nI_nlt (b := 10) (by omega) (by omega))]; exact hz, n1, tail _ z _ (hw w hS) (fun i hi => ?_), n2, fun j hj => ?_, n4⟩
    · rw [if_pos h10]
      show P (rot i) = _
      unfold rot
      rw [if_neg (by omega)]
    · show upd b'.1 10 _ j = _
      rw [upd_n _ _ hj]; exact n3 j hj
  · rw [if_neg h10] at hu
    subst hu
    obtain ⟨z, hz, hw⟩ := rem2C (Y := Y) (kn := u) (by omega) h2 N P
    refine ⟨_, _, by rw [if_pos (show nI u < 10 from nI_lt (b := 10) (by omega) (by omega))]; exact hz, n1, tail _ z _ (hw w hS) (fun i hi => by rw [if_neg h10]), n2, fun j hj => ?_, n4⟩
    show upd b'.1 10 _ j = _
    rw [upd_n _ _ hj]; exact n3 j hj
