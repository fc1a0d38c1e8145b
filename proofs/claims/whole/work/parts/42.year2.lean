-- a year goes by: one loan, all loans, the whole year
abbrev CV : Type := (Nat → Int32) × (Nat → Nat) × (Nat → Nat) × Int32
def mkW (c : CV) (p y : Nat) : SV := (c.1, c.2.1, c.2.2.1, c.2.2.2, p, y)
def takeK (v : LV) (c : CV) (l : Nat) : CV := (va_up c.1 l (takeL v (inD v (mkW c 0 0)) (v.1 1 - bhN (c.1 l) 30) (bhN (c.1 l) 30) 0 (c.1 l)), c.2)
def growK (v : LV) (c : CV) (l : Nat) : CV := if c.2.2.1 l + 1 < v.1 10 then (c.1, c.2.1, va_up c.2.2.1 l (c.2.2.1 l + 1), c.2.2.2) else (va_up c.1 l 0, va_up c.2.1 l 0, va_up (va_up c.2.2.1 l (c.2.2.1 l + 1)) l 0, c.2.2.2 ||| c.1 l)
def stepK (v : LV) (c : CV) (l : Nat) : CV := if c.1 l = 0 then c else growK v (takeK v c l) l
def yearK (v : LV) : Nat → Nat → CV → CV
  | 0, _, c => c
  | k + 1, l, c => yearK v k (l + 1) (stepK v c l)
theorem yearK_s (v : LV) (k l : Nat) (c : CV) : yearK v (k + 1) l c = yearK v k (l + 1) (stepK v c l) := rfl
def coreW (w : SV) : CV := (w.1, w.2.1, w.2.2.1, w.2.2.2.1)
def yearW (v : LV) (w : SV) : SV := mkW (yearK v 4 0 (coreW w)) (w.2.2.2.2.1 + harv v (inD v w)) (w.2.2.2.2.2 + 1)
theorem SC.agx {S : BV} {c : CV} {p y l : Nat} (h : SC S (mkW c p y)) (hl : l < 4) (a : Nat) : SC (pA S 2 (nI l) (nI a)) (mkW (c.1, c.2.1, va_up c.2.2.1 l a, c.2.2.2) p y) := by
  obtain ⟨h1, h2, h3, h4⟩ := h
  refine ⟨fun k hk => ?_, h2, h3, h4⟩
  obtain ⟨g1, g2, g3⟩ := h1 k hk
  rw [pA_ne (j := 0) _ _ _ (by decide), pA_ne (j := 1) _ _ _ (by decide), pA_same, nI_clamp (by omega)]
  refine ⟨g1, g2, ?_⟩
  show _ = nI (va_up c.2.2.1 l a k)
  by_cases hkl : k = l
  · subst hkl
    rw [upd_s, va_up_self]
  · rw [upd_n _ _ hkl, g3, va_up_ne _ _ hkl]
    rfl
theorem SC.lpx {S : BV} {c : CV} {p y : Nat} (h : SC S (mkW c p y)) (z : Int32) : SC (pI S 3 z) (mkW (c.1, c.2.1, c.2.2.1, z) p y) := by
  obtain ⟨h1, h2, h3, h4⟩ := h
  exact ⟨h1, pI_s _ _ _, by rw [pI_n _ _ (by decide)]; exact h3, by rw [pI_n _ _ (by decide)]; exact h4⟩
theorem growC {L S : BV} {v : LV} {c : CV} {p y l : Nat} (hL : LC L v) (ok : OkL v) (hS : SC S (mkW c p y)) (hl : l < 4) (ha : c.2.2.1 l ≤ 9) : ∃ S', f_2_grow L S (nI l) = some S' ∧ SC S' (mkW (growK v c l) p y) := by
  have hlap := ok.2.2.2.2.2.1
  have hg : gI L 10 = nI (v.1 10) := hL.2.2.2.2.2.1
  have hag : gA S 2 (nI l) = nI (c.2.2.1 l) := hS.age hl
  have h1 := hS.agx hl (c.2.2.1 l + 1)
  have hag1 : gA (pA S 2 (nI l) (nI (c.2.2.1 l + 1))) 2 (nI l) = nI (c.2.2.1 l + 1) := by
    rw [h1.age hl]
    show nI (va_up c.2.2.1 l (c.2.2.1 l + 1) l) = _
    rw [va_up_self]
  unfold f_2_grow f_2_grow_43 bs
  rw [ck_inb hl (by decide), ck_inb hl (by decide), hag, nI_1]
  show ∃ S', ck (inb (nI l) 4) (if gA (pA S 2 (nI l) (nI (c.2.2.1 l + 1))) 2 (nI l) < gI L 10 then _ else _) = some S' ∧ _
  rw [ck_inb hl (by decide), hag1, hg]
  unfold growK
  by_cases h : c.2.2.1 l + 1 < v.1 10
  · rw [if_pos (nI_lt h (by omega)), if_pos h]
    exact ⟨_, rfl, h1⟩
  · rw [if_neg (nI_nlt (by omega) (by omega)), if_neg h, ck_inb hl (by decide), h1.days hl, h1.lapsed]
    have h2 := h1.lpx (c.2.2.2 ||| c.1 l)
    obtain ⟨S', q1, q2⟩ := setFreeC h2 hl
    refine ⟨S', ?_, q2⟩
    show (f_2_setFree (pI _ 3 (c.2.2.2 ||| c.1 l)) (nI l)).bind _ = _
    rw [q1]; rfl
theorem SM.agx {b : BV} {c : CV} {p y l : Nat} (h : SM (b.2.1 8) 0 (mkW c p y)) (hl : l < 4) (a : Nat) : SM ((pA b 8 (nI (5 + 3 * l)) (nI a)).2.1 8) 0 (mkW (c.1, c.2.1, va_up c.2.2.1 l a, c.2.2.2) p y) := by
  have e : ∀ j, (pA b 8 (nI (5 + 3 * l)) (nI a)).2.1 8 j = upd (b.2.1 8) (5 + 3 * l) (nI a) j := fun j => by rw [pA_same, nI_clamp (by omega)]
  obtain ⟨h1, h2, h3, h4⟩ := h
  refine ⟨fun k hk => ?_, ?_, ?_, ?_⟩
  · obtain ⟨g1, g2, g3⟩ := h1 k hk
    rw [e, e, e, upd_n _ _ (show 0 + 3 + 3 * k ≠ 5 + 3 * l by omega), upd_n _ _ (show 0 + 4 + 3 * k ≠ 5 + 3 * l by omega)]
    refine ⟨g1, g2, ?_⟩
    show _ = nI (va_up c.2.2.1 l a k)
    by_cases hkl : k = l
    · subst hkl
      rw [show 0 + 5 + 3 * k = 5 + 3 * k by omega, upd_s, va_up_self]
    · rw [upd_n _ _ (by omega), g3, va_up_ne _ _ hkl]
      rfl
  · rw [e, upd_n _ _ (by omega)]; exact h2
  · rw [e, upd_n _ _ (by omega)]; exact h3
  · rw [e, upd_n _ _ (by omega)]; exact h4
theorem SM.lpx {b : BV} {c : CV} {p y : Nat} (h : SM (b.2.1 8) 0 (mkW c p y)) (z : Int32) : SM ((pA b 8 2 z).2.1 8) 0 (mkW (c.1, c.2.1, c.2.2.1, z) p y) := by
  have e : ∀ j, (pA b 8 2 z).2.1 8 j = upd (b.2.1 8) 2 z j := fun j => by rw [pA_same, show (2 : Int32).toNatClampNeg = 2 by decide]
  obtain ⟨h1, h2, h3, h4⟩ := h
  refine ⟨fun k hk => ?_, ?_, ?_, ?_⟩
  · rw [e, e, e, upd_n _ _ (by omega), upd_n _ _ (by omega), upd_n _ _ (by omega)]
    exact h1 k hk
  · rw [e, upd_s]; rfl
  · rw [e, upd_n _ _ (by omega)]; exact h3
  · rw [e, upd_n _ _ (by omega)]; exact h4
theorem growM {b : BV} {v : LV} {c : CV} {p y l : Nat} (hM : LM (b.2.1 7) v) (ok : OkL v) (hB : SM (b.2.1 8) 0 (mkW c p y)) (hl : l < 4) (ha : c.2.2.1 l < v.1 10) : ∃ b', f_6_ages_83 b (nI l) = some b' ∧ FrA 8 b b' ∧ SM (b'.2.1 8) 0 (mkW (growK v c l) p y) := by
  have hlap := ok.2.2.2.2.2.1
  have hag : gA b 8 (nI (5 + 3 * l)) = nI (c.2.2.1 l) := hB.age hl
  have h1 := hB.agx hl (c.2.2.1 l + 1)
  have hag1 : gA (pA b 8 (nI (5 + 3 * l)) (nI (c.2.2.1 l + 1))) 8 (nI (5 + 3 * l)) = nI (c.2.2.1 l + 1) := by
    rw [h1.age hl]
    show nI (va_up c.2.2.1 l (c.2.2.1 l + 1) l) = _
    rw [va_up_self]
  have hg : gA (pA b 8 (nI (5 + 3 * l)) (nI (c.2.2.1 l + 1))) 7 5 = nI (v.1 10) := by
    show (pA b 8 (nI (5 + 3 * l)) (nI (c.2.2.1 l + 1))).2.1 7 5 = _
    rw [pA_ne _ _ _ (by decide)]
    exact hM.2.2.2.2.2.1
  have e5 : ((3 : Int32) + 3 * nI l) + 2 = nI (5 + 3 * l) := by rw [show (3 : Int32) = nI 3 from rfl, ix3, show (2 : Int32) = nI 2 from rfl, nI_add, show 3 + 3 * l + 2 = 5 + 3 * l by omega]
  unfold f_6_ages_83 f_6_ages_139 bs
  rw [e5, ck_inb (by omega) (by decide), ck_inb (by omega) (by decide), hag, nI_1]
  show ∃ b', ck (inb (nI (5 + 3 * l)) 15) (ck (inb 5 79) (if gA (pA b 8 (nI (5 + 3 * l)) (nI (c.2.2.1 l + 1))) 8 (nI (5 + 3 * l)) = gA (pA b 8 (nI (5 + 3 * l)) (nI (c.2.2.1 l + 1))) 7 5 then _ else _)) = some b' ∧ _
  rw [ck_inb (by omega) (by decide), ck_inbL (by decide), hag1, hg]
  unfold growK
  by_cases h : c.2.2.1 l + 1 < v.1 10
  · rw [if_neg (show ¬ nI (c.2.2.1 l + 1) = nI (v.1 10) by rw [nI_eq (by omega) (by omega)]; omega), if_pos h]
    exact ⟨_, rfl, (FrA.rf 8 b).pA _ _, h1⟩
  · rw [if_pos (show nI (c.2.2.1 l + 1) = nI (v.1 10) by rw [show c.2.2.1 l + 1 = v.1 10 by omega]), if_neg h, ck_inbL (by decide), loanDaysM h1 hl, Option.bind_some, ck_inbL (by decide), h1.lapsed]
    have h2 := h1.lpx (c.2.2.2 ||| c.1 l)
    obtain ⟨b', q1, q2, q3⟩ := freesM h2 hl
    refine ⟨b', ?_, (((FrA.rf 8 b).pA _ _).pA _ _).trans q2, q3⟩
    show (f_6_frees (pA _ 8 2 (c.2.2.2 ||| c.1 l)) (nI l)).bind _ = _
    rw [q1]; rfl
theorem takeC {L S : BV} {v : LV} {c : CV} {p y l : Nat} (hL : LC L v) (ok : OkL v) (hS : SC S (mkW c p y)) (hl : l < 4) (hb : bhN (c.1 l) 30 ≤ v.1 1) : ∃ S', f_2_takeInterest L S (nI l) = some S' ∧ SC S' (mkW (takeK v c l) p y) := by
  have h30 := ok.days
  obtain ⟨z, hz, hbz⟩ := daysInC hL ok hS
  have hx : SC S (sxW (mkW c p y) l (c.1 l)) := by
    have : sxW (mkW c p y) l (c.1 l) = mkW c p y := by
      unfold sxW mkW
      have : va_up c.1 l (c.1 l) = c.1 := by
        funext k
        by_cases hk : k = l
        · subst hk; rw [va_up_self]
        · rw [va_up_ne _ _ hk]
      exact congrArg (fun f => ((f, c.2.1, c.2.2.1, c.2.2.2, p, y) : SV)) this
    rw [this]; exact hS
  obtain ⟨S', q1, q2⟩ := tiC hL ok hbz hl (v.1 1 - bhN (c.1 l) 30) 200 (bhN (c.1 l) 30) 0 S (c.1 l) (by omega) (by omega) (by omega) hx
  refine ⟨S', ?_, q2⟩
  unfold f_2_takeInterest
  rw [hz, Option.bind_some, ck_inb hl (by decide), hS.days hl]
  show (f_2_behindLast (c.1 l)).bind _ = _
  rw [behindC, Option.bind_some]
  exact q1
theorem takeM {b : BV} {v : LV} {c : CV} {p y l : Nat} (hM : LM (b.2.1 7) v) (ok : OkL v) (hB : SM (b.2.1 8) 0 (mkW c p y)) (hl : l < 4) (hb : bhN (c.1 l) 30 ≤ v.1 1) (hb1 : 1 ≤ bhN (c.1 l) 30) (hx : ∀ j, 30 ≤ j → bt (c.1 l) j = false) : ∃ b', f_6_ages b (nI l) = f_6_ages_83 b' (nI l) ∧ FrA 8 b b' ∧ SM (b'.2.1 8) 0 (mkW (takeK v c l) p y) := by
  have h30 := ok.days
  have hx' : SM (b.2.1 8) 0 (sxW (mkW c p y) l (c.1 l)) := by
    have : sxW (mkW c p y) l (c.1 l) = mkW c p y := by
      unfold sxW mkW
      have : va_up c.1 l (c.1 l) = c.1 := by
        funext k
        by_cases hk : k = l
        · subst hk; rw [va_up_self]
        · rw [va_up_ne _ _ hk]
      exact congrArg (fun f => ((f, c.2.1, c.2.2.1, c.2.2.2, p, y) : SV)) this
    rw [this]; exact hB
  have h9 := ag9 hB hl (nI (v.1 9)) hx (bhN (c.1 l) 30 - 1) 200 0 (by show 0 + 1 + (bhN (c.1 l) 30 - 1) = bhN (c.1 l) 30; omega) (by have := (bhN_le (c.1 l) 30).1; omega)
  obtain ⟨b', q1, q2, q3⟩ := tiM (w := mkW c p y) ok hl (v.1 1 - bhN (c.1 l) 30) 200 (bhN (c.1 l) 30) 0 b (c.1 l) (by omega) (by omega) (by omega) hM hx' (fun j _ => rfl)
  refine ⟨b', ?_, q2, q3⟩
  unfold f_6_ages
  rw [ck_inbL (by decide), show gA b 7 4 = nI (v.1 9) from hM.2.2.2.2.1]
  exact h9.trans q1
