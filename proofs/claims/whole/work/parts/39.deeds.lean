-- undo, pawns, redeems
theorem un22 {u : Nat} (hu : u ≤ 9) : ∀ (m n k : Nat) (b : BV), k + m = 15 → m < n → b.1 10 = nI u → ∃ b', f_6_undo_22 n b (nI k) = some (nI u, b') ∧ FrA 8 b b' ∧ (∀ i, i < k → b'.2.1 8 i = b.2.1 8 i) ∧ (∀ j, k ≤ j → j < 15 → b'.2.1 8 j = b.2.1 9 (15 * u + j)) := by
  intro m
  induction m with
  | zero =>
    intro n k b hk hn h10
    obtain ⟨n, rfl⟩ : ∃ q, n = q + 1 := ⟨n - 1, by omega⟩
    obtain rfl : k = 15 := by omega
    refine ⟨b, ?_, FrA.rf _ _, fun i hi => rfl, fun j h1 h2 => by omega⟩
    show f_6_undo_22_b (f_6_undo_22 n) _ _ = _
    unfold f_6_undo_22_b
    rw [if_pos (show (15 : Int32) ≤ nI 15 by decide), gI_eq, h10]
  | succ m ih =>
    intro n k b hk hn h10
    obtain ⟨n, rfl⟩ : ∃ q, n = q + 1 := ⟨n - 1, by omega⟩
    have ei : (15 : Int32) * nI u + nI k = nI (15 * u + k) := by rw [show (15 : Int32) = nI 15 from rfl, pk_mul, nI_add]
    have e : f_6_undo_22 (n + 1) b (nI k) = f_6_undo_22 n (pA b 8 (nI k) (b.2.1 9 (15 * u + k))) (nI (k + 1)) := by
      show f_6_undo_22_b (f_6_undo_22 n) _ _ = _
      unfold f_6_undo_22_b bs
      rw [if_neg (show ¬ (15 : Int32) ≤ nI k from nI_ge (b := 15) (by omega) (by decide)), gI_eq, h10, ei, ck_inb (by omega) (by decide), ck_inb (by omega) (by decide), nI_1, gA_nI _ _ (by omega)]
    obtain ⟨b', h1, h2, h3, h4⟩ := ih n (k + 1) (pA b 8 (nI k) (b.2.1 9 (15 * u + k))) (by omega) (by omega) h10
    refine ⟨b', by rw [e]; exact h1, ((FrA.rf 8 b).pA _ _).trans h2, fun i hi => ?_, fun j hj1 hj2 => ?_⟩
    · rw [h3 i (by omega), pA_same, nI_clamp (by omega), upd_n _ _ (by omega)]
    · by_cases hjk : j = k
      · subst hjk
        rw [h3 _ (by omega), pA_same, nI_clamp (by omega), upd_s]
      · rw [h4 j (by omega) hj2, pA_ne _ _ _ (by decide)]
theorem s_undo : Sim0 Rel F_undo G_undo := by
  intro σ b n hn hr
  obtain ⟨v, w, ok, hL, hM, hS, hB, hT, hx, hy, ht, hj, hi⟩ := id hr
  obtain ⟨kn, hk, h2, h3, h4⟩ := hy
  by_cases h0 : kn = 0
  · subst h0
    refine ⟨-2, σ, b, ?_, ?_, hr.mono⟩
    · have e1 : f_5_undo (sY σ) (sN σ) (sP σ) = some (-2, sY σ, sN σ) := by
        unfold f_5_undo f_3_goBack
        rw [gI_eq, h2, if_neg (show ¬ (0 : Int32) < nI 0 by decide)]
        rfl
      unfold F_undo
      rw [e1]; rfl
    · have e1 : f_6_undo b = some (-2, b) := by
        unfold f_6_undo
        rw [gI_eq, h3, if_pos (show nI 0 = (0 : Int32) from rfl)]
      unfold G_undo
      rw [e1]; rfl
  · obtain ⟨u, rfl⟩ : ∃ u, kn = u + 1 := ⟨kn - 1, by omega⟩
    obtain ⟨w2, q1, q2, q3⟩ := h4 u (by omega)
    obtain ⟨z, hz, hzw⟩ := becomeC (sN σ) (sP σ u)
    obtain ⟨b', g1, g2, g3, g4⟩ := un22 (u := u) (by omega) 15 200 0 (pI b 10 (nI u)) (by omega) (by omega) (pI_s _ _ _)
    refine ⟨nI u, (σ.1, σ.2.1, σ.2.2.1, σ.2.2.2.1, σ.2.2.2.2.1, σ.2.2.2.2.2.1, pI (sY σ) 2 (nI u), z, σ.2.2.2.2.2.2.2.2), b', ?_, ?_, ?_⟩
    · have e1 : f_5_undo (sY σ) (sN σ) (sP σ) = some (nI u, pI (sY σ) 2 (nI u), z) := by
        unfold f_5_undo f_3_goBack f_5_undo_22
        rw [gI_eq, h2, if_pos (show (0 : Int32) < nI (u + 1) from nI_lt (a := 0) (by omega) (by omega)), nI_pred, ck_inb (by omega) (by decide), nI_clamp (by omega), hz, Option.bind_some, Option.bind_some]
        show (if (1 : Int32) = 0 then _ else some (gI (pI (sY σ) 2 (nI u)) 2, _)) = _
        rw [if1, gI_eq, pI_s]
      unfold F_undo
      rw [e1]; rfl
    · have e1 : f_6_undo b = some (nI u, b') := by
        unfold f_6_undo
        rw [gI_eq, h3, if_neg (nI_ne0 (by omega) (by omega)), nI_pred]
        exact g1
      unfold G_undo
      rw [e1]; rfl
    · have hB' : SM (b'.2.1 8) 0 w2 := q2.congr (fun k hk => by
        rw [Nat.zero_add, Nat.zero_add, g4 k (by omega) hk]; rfl)
      have f7 : b'.2.1 7 = b.2.1 7 := g2.2.2 7 (by decide)
      have f0 : b'.2.1 0 = b.2.1 0 := g2.2.2 0 (by decide)
      have f9 : b'.2.1 9 = b.2.1 9 := g2.2.2 9 (by decide)
      have f13 : b'.2.1 13 = b.2.1 13 := g2.2.2 13 (by decide)
      have f14 : b'.2.1 14 = b.2.1 14 := g2.2.2 14 (by decide)
      have f16 : b'.2.1 16 = b.2.1 16 := g2.2.2 16 (by decide)
      have i1 : b'.1 1 = b.1 1 := by rw [g2.1]; exact pI_n _ _ (by decide)
      have i12 : b'.1 12 = b.1 12 := by rw [g2.1]; exact pI_n _ _ (by decide)
      have i10 : b'.1 10 = nI u := by rw [g2.1]; exact pI_s _ _ _
      have j2 : b'.2.2 = b.2.2 := g2.2.1
      refine ⟨v, w2, Rel0.mono (B := 1000 * n) ?_ (by omega)⟩
      refine ⟨ok, hL, by rw [f7]; exact hM, hzw w2 q1, hB', q3, by rw [i1, f0]; exact hx, ?_, by rw [i12, f13, f14]; exact ht, hj.trans j2.symm, by rw [f16]; exact hi⟩
      refine ⟨u, by omega, pI_s _ _ _, i10, fun i hi2 => ?_⟩
      rw [f9]
      exact h4 i (by omega)
def pawnW (w : SV) (l : Nat) (row : Int32) (s : Nat) : SV := (va_up w.1 l row, va_up w.2.1 l s, va_up w.2.2.1 l 0, w.2.2.2.1, w.2.2.2.2.1 + s, w.2.2.2.2.2)
theorem pawnC {S : BV} {w : SV} (h : SC S w) {l : Nat} (hl : l < 4) (row : Int32) (s : Nat) : ∃ S', f_2_pawn S (nI l) row (nI s) = some S' ∧ SC S' (pawnW w l row s) := by
  refine ⟨pI (pA (pA (pA S 0 (nI l) row) 1 (nI l) (nI s)) 2 (nI l) 0) 4 (nI (w.2.2.2.2.1 + s)), ?_, ?_⟩
  · unfold f_2_pawn bs
    simp only [ck_inb hl (show 4 < 2147483648 by decide)]
    rw [show gI (pA (pA (pA S 0 (nI l) row) 1 (nI l) (nI s)) 2 (nI l) 0) 4 = nI w.2.2.2.2.1 from h.2.2.1, nI_add]
  · obtain ⟨h1, h2, h3, h4⟩ := h
    refine ⟨fun k hk => ?_, ?_, pI_s _ _ _, ?_⟩
    · have a0 : (pI (pA (pA (pA S 0 (nI l) row) 1 (nI l) (nI s)) 2 (nI l) 0) 4 (nI (w.2.2.2.2.1 + s))).2.1 0 k = upd (S.2.1 0) l row k := by
        rw [pI_2, pA_ne _ _ _ (by decide), pA_ne _ _ _ (by decide), pA_same, nI_clamp (by omega)]
      have a1 : (pI (pA (pA (pA S 0 (nI l) row) 1 (nI l) (nI s)) 2 (nI l) 0) 4 (nI (w.2.2.2.2.1 + s))).2.1 1 k = upd (S.2.1 1) l (nI s) k := by
        rw [pI_2, pA_ne _ _ _ (by decide), pA_same, pA_ne _ _ _ (by decide), nI_clamp (by omega)]
      have a2 : (pI (pA (pA (pA S 0 (nI l) row) 1 (nI l) (nI s)) 2 (nI l) 0) 4 (nI (w.2.2.2.2.1 + s))).2.1 2 k = upd (S.2.1 2) l 0 k := by
        rw [pI_2, pA_same, pA_ne _ _ _ (by decide), pA_ne _ _ _ (by decide), nI_clamp (by omega)]
      rw [a0, a1, a2]
      unfold pawnW
      by_cases hkl : k = l
      · subst hkl
        simp only [upd_s, va_up_self]
        exact ⟨trivial, trivial, rfl⟩
      · simp only [upd_n _ _ hkl, va_up_ne _ _ hkl]
        exact h1 k hk
    · rw [pI_n _ _ (by decide)]; exact h2
    · rw [pI_n _ _ (by decide)]; exact h4
/-- three stores of a loan, in the reference -/
theorem pawnM {b : BV} {w : SV} (h : SM (b.2.1 8) 0 w) {l : Nat} (hl : l < 4) (row : Int32) (s : Nat) : SM ((pA (pA (pA (pA b 8 (nI (3 + 3 * l)) row) 8 (nI (4 + 3 * l)) (nI s)) 8 (nI (5 + 3 * l)) 0) 8 0 (nI (w.2.2.2.2.1 + s))).2.1 8) 0 (pawnW w l row s) := by
  have e : ∀ j, (pA (pA (pA (pA b 8 (nI (3 + 3 * l)) row) 8 (nI (4 + 3 * l)) (nI s)) 8 (nI (5 + 3 * l)) 0) 8 0 (nI (w.2.2.2.2.1 + s))).2.1 8 j = upd (upd (upd (upd (b.2.1 8) (3 + 3 * l) row) (4 + 3 * l) (nI s)) (5 + 3 * l) 0) 0 (nI (w.2.2.2.2.1 + s)) j := fun j => by
    rw [pA_same, pA_same, pA_same, pA_same, nI_clamp (by omega), nI_clamp (by omega), nI_clamp (by omega), show (0 : Int32).toNatClampNeg = 0 by decide]
  obtain ⟨h1, h2, h3, h4⟩ := h
  refine ⟨fun k hk => ?_, ?_, ?_, ?_⟩
  · obtain ⟨g1, g2, g3⟩ := h1 k hk
    rw [e, e, e]
    unfold pawnW
    by_cases hkl : k = l
    · subst hkl
      simp only [va_up_self]
      refine ⟨?_, ?_, ?_⟩
      · rw [upd_n _ _ (by omega), upd_n _ _ (by omega), upd_n _ _ (by omega), show 0 + 3 + 3 * k = 3 + 3 * k by omega, upd_s]
      · rw [upd_n _ _ (by omega), upd_n _ _ (by omega), show 0 + 4 + 3 * k = 4 + 3 * k by omega, upd_s]
      · rw [upd_n _ _ (by omega), show 0 + 5 + 3 * k = 5 + 3 * k by omega, upd_s]; rfl
    · simp only [va_up_ne _ _ hkl]
      refine ⟨?_, ?_, ?_⟩
      · rw [upd_n _ _ (by omega), upd_n _ _ (by omega), upd_n _ _ (by omega), upd_n _ _ (by omega), g1]
      · rw [upd_n _ _ (by omega), upd_n _ _ (by omega), upd_n _ _ (by omega), upd_n _ _ (by omega), g2]
      · rw [upd_n _ _ (by omega), upd_n _ _ (by omega), upd_n _ _ (by omega), upd_n _ _ (by omega), g3]
  · rw [e, upd_n _ _ (by omega), upd_n _ _ (by omega), upd_n _ _ (by omega), upd_n _ _ (by omega)]; exact h2
  · rw [e, upd_s]; rfl
  · rw [e, upd_n _ _ (by omega), upd_n _ _ (by omega), upd_n _ _ (by omega), upd_n _ _ (by omega)]; exact h4
theorem out_bt {w : SV} {d : Nat} (h : bt (outW w) d = false) : ∀ l, l < 4 → bt (w.1 l) d = false := by
  unfold outW at h
  rw [b_or, b_or, b_or] at h
  simp only [Bool.or_eq_false_iff] at h
  intro l hl
  rcases (show l = 0 ∨ l = 1 ∨ l = 2 ∨ l = 3 by omega) with rfl | rfl | rfl | rfl
  · exact h.1.1.1
  · exact h.1.1.2
  · exact h.1.2
  · exact h.2
theorem inD_out {v : LV} {w : SV} {d : Nat} (h : inD v w d = true) : d < v.1 1 ∧ bt (outW w) d = false ∧ bt w.2.2.2.1 d = false := by
  unfold inD at h
  simp only [Bool.and_eq_true, decide_eq_true_eq, Bool.not_eq_true'] at h
  exact ⟨h.1.1, h.1.2, h.2⟩
theorem pawnOk {v : LV} {w : SV} {B C : Nat} (okv : OkL v) (ok : OkT v w B) {l d n : Nat} (hl : l < 4) (hn : n ≤ 9) (hr : rowOk v w d n) (hC : B + 729 ≤ C) : OkT v (pawnW w l (rowI d n) (lentN v d n)) C := by
  have h30 := okv.days
  obtain ⟨⟨o1, o2, o3, o4, o5⟩, p1, p2⟩ := ok
  have hs := lentN_le okv (d := d) hn
  have hrow : ∀ j, bt (rowI d n) j = true → inD v w j = true := fun j hj => by
    by_cases h32 : j < 32
    · rw [row_bt (by have := hr.1; omega) (by omega) h32] at hj
      have := of_decide_eq_true hj
      exact hr.2 j this.1 this.2
    · rw [b_big (by omega)] at hj; cases hj
  have hlap := okv.2.2.2.2.2.1
  refine ⟨⟨fun k hk => ?_, fun k hk j hj => ?_, o3, fun k m hk hm hkm j hj => ?_, fun k hk j hj => ?_⟩, by show w.2.2.2.2.1 + _ ≤ C; omega, p2⟩
  · unfold pawnW
    by_cases hkl : k = l
    · subst hkl
      simp only [va_up_self]
      exact ⟨hs, by omega, fun _ => by omega⟩
    · simp only [va_up_ne _ _ hkl]
      exact o1 k hk
  · unfold pawnW at hj
    by_cases hkl : k = l
    · subst hkl
      simp only [va_up_self] at hj
      exact (inD_out (hrow j hj)).1
    · simp only [va_up_ne _ _ hkl] at hj
      exact o2 k hk j hj
  · unfold pawnW at hj ⊢
    by_cases hkl : k = l
    · subst hkl
      simp only [va_up_self] at hj
      simp only [va_up_ne _ _ (Ne.symm hkm)]
      exact out_bt (inD_out (hrow j hj)).2.1 m hm
    · simp only [va_up_ne _ _ hkl] at hj
      by_cases hml : m = l
      · subst hml
        simp only [va_up_self]
        cases hb : bt (rowI d n) j
        · rfl
        · have := out_bt (inD_out (hrow j hb)).2.1 k hk
          rw [hj] at this; cases this
      · simp only [va_up_ne _ _ hml]
        exact o4 k m hk hm hkm j hj
  · unfold pawnW at hj ⊢
    by_cases hkl : k = l
    · subst hkl
      simp only [va_up_self] at hj
      exact (inD_out (hrow j hj)).2.2
    · simp only [va_up_ne _ _ hkl] at hj
      exact o5 k hk j hj
