-- seasons and crops
def addDay (v : LV) (g : Nat) : LV := (va_up v.1 1 (v.1 1 + 1), va_up (va_up v.2 2 (va_up (v.2 2) (v.1 1) (v.1 0))) 3 (va_up (v.2 3) (v.1 1) g))
def endS (v : LV) : LV := (va_up v.1 0 (v.1 0 + 1), v.2)
def addN (g : Nat) : Nat → LV → LV
  | 0, v => v
  | k + 1, v => addN g k (addDay v g)
theorem addN_s (g k : Nat) (v : LV) : addN g (k + 1) v = addN g k (addDay v g) := rfl
theorem ad1 (v : LV) (g : Nat) : (addDay v g).1 1 = v.1 1 + 1 := by
  show va_up v.1 1 (v.1 1 + 1) 1 = _
  rw [va_up_self]
theorem adn (v : LV) (g : Nat) {j : Nat} (h : j ≠ 1) : (addDay v g).1 j = v.1 j := va_up_ne _ _ h
theorem ad2 (v : LV) (g d : Nat) : (addDay v g).2 2 d = if d = v.1 1 then v.1 0 else v.2 2 d := by
  show va_up (va_up v.2 2 (va_up (v.2 2) (v.1 1) (v.1 0))) 3 (va_up (v.2 3) (v.1 1) g) 2 d = _
  rw [va_up_ne _ _ (by decide), va_up_self]
  by_cases h : d = v.1 1
  · rw [if_pos h, h, va_up_self]
  · rw [if_neg h, va_up_ne _ _ h]
theorem ad3 (v : LV) (g d : Nat) : (addDay v g).2 3 d = if d = v.1 1 then g else v.2 3 d := by
  show va_up (va_up v.2 2 (va_up (v.2 2) (v.1 1) (v.1 0))) 3 (va_up (v.2 3) (v.1 1) g) 3 d = _
  rw [va_up_self]
  by_cases h : d = v.1 1
  · rw [if_pos h, h, va_up_self]
  · rw [if_neg h, va_up_ne _ _ h]
theorem adr (v : LV) (g : Nat) {j : Nat} (h2 : j ≠ 2) (h3 : j ≠ 3) : (addDay v g).2 j = v.2 j := by
  show va_up (va_up v.2 2 _) 3 _ j = _
  rw [va_up_ne _ _ h3, va_up_ne _ _ h2]
theorem LC.addDay {G : BV} {v : LV} (h : LC G v) (h30 : v.1 1 < 30) (g : Nat) : LC (pI (pA (pA G 2 (nI (v.1 1)) (nI (v.1 0))) 3 (nI (v.1 1)) (nI g)) 1 (nI (v.1 1 + 1))) (addDay v g) := by
  obtain ⟨c1, c2, c3, c4, c5, c6, c7, c8⟩ := h
  unfold LC
  rw [ad1, adn _ _ (show 0 ≠ 1 by decide), adn _ _ (show 4 ≠ 1 by decide), adn _ _ (show 8 ≠ 1 by decide), adn _ _ (show 9 ≠ 1 by decide), adn _ _ (show 10 ≠ 1 by decide), pI_s, pI_n (j := 0) _ _ (by decide), pI_n (j := 4) _ _ (by decide), pI_n (j := 8) _ _ (by decide), pI_n (j := 9) _ _ (by decide), pI_n (j := 10) _ _ (by decide)]
  refine ⟨c1, rfl, c3, c4, c5, c6, fun d hd => ?_, fun c hc => ?_⟩
  · rw [ad2, ad3, pI_2, pA_ne (j := 2) (k := 3) _ _ _ (by decide), pA_same, pA_same, pA_ne (j := 3) (k := 2) _ _ _ (by decide), nI_clamp (by omega)]
    by_cases hdd : d = v.1 1
    · rw [if_pos hdd, if_pos hdd, hdd, upd_s, upd_s]; exact ⟨rfl, rfl⟩
    · rw [if_neg hdd, if_neg hdd, upd_n _ _ hdd, upd_n _ _ hdd]; exact c7 d (by omega)
  · rw [adr _ _ (by decide) (by decide), adr _ _ (by decide) (by decide), adr _ _ (by decide) (by decide), pI_2, pA_ne (j := 5) (k := 3) _ _ _ (by decide), pA_ne (j := 5) (k := 2) _ _ _ (by decide), pA_ne (j := 6) (k := 3) _ _ _ (by decide), pA_ne (j := 6) (k := 2) _ _ _ (by decide), pA_ne (j := 7) (k := 3) _ _ _ (by decide), pA_ne (j := 7) (k := 2) _ _ _ (by decide)]
    exact c8 c hc
theorem LM.addDay {m : Nat → Int32} {v : LV} (h : LM m v) (h30 : v.1 1 < 30) (g : Nat) : LM (upd (upd (upd m (7 + v.1 1) (nI g)) (37 + v.1 1) (nI (v.1 0))) 0 (nI (v.1 1 + 1))) (addDay v g) := by
  obtain ⟨c1, c2, c3, c4, c5, c6, c7, c8⟩ := h
  unfold LM
  rw [ad1, adn _ _ (show 0 ≠ 1 by decide), adn _ _ (show 4 ≠ 1 by decide), adn _ _ (show 8 ≠ 1 by decide), adn _ _ (show 9 ≠ 1 by decide), adn _ _ (show 10 ≠ 1 by decide), upd_s]
  have up : ∀ j, j ≠ 0 → j ≠ 37 + v.1 1 → j ≠ 7 + v.1 1 → upd (upd (upd m (7 + v.1 1) (nI g)) (37 + v.1 1) (nI (v.1 0))) 0 (nI (v.1 1 + 1)) j = m j := fun j a1 a2 a3 => by
    rw [upd_n _ _ a1, upd_n _ _ a2, upd_n _ _ a3]
  rw [up 1 (by omega) (by omega) (by omega), up 2 (by omega) (by omega) (by omega), up 3 (by omega) (by omega) (by omega), up 4 (by omega) (by omega) (by omega), up 5 (by omega) (by omega) (by omega)]
  refine ⟨rfl, c2, c3, c4, c5, c6, fun d hd => ?_, fun c hc => ?_⟩
  · rw [ad2, ad3]
    by_cases hdd : d = v.1 1
    · rw [if_pos hdd, if_pos hdd, hdd, upd_n _ _ (by omega), upd_s, upd_n _ _ (by omega), upd_n _ _ (by omega), upd_s]; exact ⟨rfl, rfl⟩
    · rw [if_neg hdd, if_neg hdd, up _ (by omega) (by omega) (by omega), up _ (by omega) (by omega) (by omega)]; exact c7 d (by omega)
  · rw [adr _ _ (by decide) (by decide), adr _ _ (by decide) (by decide), adr _ _ (by decide) (by decide), up _ (by omega) (by omega) (by omega), up _ (by omega) (by omega) (by omega), up _ (by omega) (by omega) (by omega)]
    exact c8 c hc
theorem OkL.addDay {v : LV} (h : OkL v) (h30 : v.1 1 < 30) {g : Nat} (hg : g ≤ 9) : OkL (addDay v g) := by
  obtain ⟨o1, o2, o3, o4, o5, o6, o7, o8⟩ := h
  unfold OkL
  rw [ad1, adn _ _ (show 0 ≠ 1 by decide), adn _ _ (show 4 ≠ 1 by decide), adn _ _ (show 8 ≠ 1 by decide), adn _ _ (show 9 ≠ 1 by decide), adn _ _ (show 10 ≠ 1 by decide), adr _ _ (show 5 ≠ 2 by decide) (by decide), adr _ _ (show 6 ≠ 2 by decide) (by decide), adr _ _ (show 7 ≠ 2 by decide) (by decide)]
  refine ⟨o1, by omega, o3, o4, o5, o6, fun d hd => ?_, o8⟩
  rw [ad3]
  by_cases hdd : d = v.1 1
  · rw [if_pos hdd]; exact hg
  · rw [if_neg hdd]; exact o7 d (by omega)
theorem asC {g cnt : Nat} (hc : cnt ≤ 30) : ∀ (k n i : Nat) (G : BV) (v : LV), i + k = cnt → k < n → v.1 1 + k ≤ 30 → LC G v → ∃ G', f_0_addSeason_2 n G (nI cnt) (nI g) (nI i) = some G' ∧ LC G' (endS (addN g k v)) := by
  intro k
  induction k with
  | zero =>
    intro n i G v hi hn h30 hG
    obtain ⟨n, rfl⟩ : ∃ m, n = m + 1 := ⟨n - 1, by omega⟩
    refine ⟨pI G 0 (nI (v.1 0 + 1)), ?_, ?_⟩
    · show f_0_addSeason_2_b (f_0_addSeason_2 n) _ _ _ _ = _
      unfold f_0_addSeason_2_b f_0_addSeason_55
      rw [if_pos (nI_le (by omega) (by omega)), gI_eq, hG.1, nI_1]
    · obtain ⟨c1, c2, c3, c4, c5, c6, c7, c8⟩ := hG
      exact ⟨pI_s _ _ _, c2, c3, c4, c5, c6, c7, c8⟩
  | succ k ih =>
    intro n i G v hi hn h30 hG
    obtain ⟨n, rfl⟩ : ∃ m, n = m + 1 := ⟨n - 1, by omega⟩
    rw [addN_s]
    have e : f_0_addSeason_2 (n + 1) G (nI cnt) (nI g) (nI i) = f_0_addSeason_2 n (pI (pA (pA G 2 (nI (v.1 1)) (nI (v.1 0))) 3 (nI (v.1 1)) (nI g)) 1 (nI (v.1 1 + 1))) (nI cnt) (nI g) (nI (i + 1)) := by
      show f_0_addSeason_2_b (f_0_addSeason_2 n) _ _ _ _ = _
      unfold f_0_addSeason_2_b bs
      rw [if_neg (nI_ge (by omega) (by omega)), hG.days, if_neg (show ¬ (30 : Int32) ≤ nI (v.1 1) from nI_ge (b := 30) (by omega) (by decide)), ck_inb (by omega) (by decide), gI_eq G 0, hG.1]
      have g1 : gI (pA G 2 (nI (v.1 1)) (nI (v.1 0))) 1 = nI (v.1 1) := hG.2.1
      have g2 : gI (pA (pA G 2 (nI (v.1 1)) (nI (v.1 0))) 3 (nI (v.1 1)) (nI g)) 1 = nI (v.1 1) := hG.2.1
      show ck (inb (gI (pA G 2 (nI (v.1 1)) (nI (v.1 0))) 1) 30) (f_0_addSeason_2 n (pI (pA (pA G 2 (nI (v.1 1)) (nI (v.1 0))) 3 (gI (pA G 2 (nI (v.1 1)) (nI (v.1 0))) 1) (nI g)) 1 (gI (pA (pA G 2 (nI (v.1 1)) (nI (v.1 0))) 3 (gI (pA G 2 (nI (v.1 1)) (nI (v.1 0))) 1) (nI g)) 1 + 1)) (nI cnt) (nI g) (nI i + 1)) = _
      rw [g1, ck_inb (by omega) (by decide), g2, nI_1, nI_1]
    rw [e]
    exact ih n (i + 1) _ _ (by omega) (by omega) (by rw [ad1]; omega) (hG.addDay (by omega) g)
theorem asM61 {g cnt : Nat} (hc : cnt ≤ 30) : ∀ (k n i : Nat) (b : BV) (v : LV), i + k = cnt → k < n → v.1 1 + k ≤ 30 → b.1 5 = nI g → LM (b.2.1 6) v → ∃ b', f_6_readSeason_61 n b (nI cnt) (nI i) = wrp (f_6_itemEnds b') ∧ FrA 6 b b' ∧ LM (b'.2.1 6) (endS (addN g k v)) ∧ b'.2.1 6 6 = b.2.1 6 6 := by
  intro k
  induction k with
  | zero =>
    intro n i b v hi hn h30 h5 hM
    obtain ⟨n, rfl⟩ : ∃ m, n = m + 1 := ⟨n - 1, by omega⟩
    have e : (pA b 6 1 (nI (v.1 0 + 1))).2.1 6 = upd (b.2.1 6) 1 (nI (v.1 0 + 1)) := by rw [pA_same, show (1 : Int32).toNatClampNeg = 1 by decide]
    refine ⟨pA b 6 1 (nI (v.1 0 + 1)), ?_, (FrA.rf 6 b).pA _ _, ?_, by rw [e, upd_n _ _ (by decide)]⟩
    · show f_6_readSeason_61_b (f_6_readSeason_61 n) _ _ _ = _
      unfold f_6_readSeason_61_b bs
      rw [if_pos (nI_le (by omega) (by omega)), ck_inbL (by decide), ck_inbL (by decide), show gA b 6 1 = nI (v.1 0) from hM.2.1, nI_1]
      rfl
    · rw [e]
      obtain ⟨c1, c2, c3, c4, c5, c6, c7, c8⟩ := hM
      unfold LM
      rw [upd_s, upd_n _ _ (show 0 ≠ 1 by decide), upd_n _ _ (show 2 ≠ 1 by decide), upd_n _ _ (show 3 ≠ 1 by decide), upd_n _ _ (show 4 ≠ 1 by decide), upd_n _ _ (show 5 ≠ 1 by decide)]
      refine ⟨c1, rfl, c3, c4, c5, c6, fun d hd => ?_, fun c hc => ?_⟩
      · rw [upd_n _ _ (by omega), upd_n _ _ (by omega)]; exact c7 d hd
      · rw [upd_n _ _ (by omega), upd_n _ _ (by omega), upd_n _ _ (by omega)]; exact c8 c hc
  | succ k ih =>
    intro n i b v hi hn h30 h5 hM
    obtain ⟨n, rfl⟩ : ∃ m, n = m + 1 := ⟨n - 1, by omega⟩
    rw [addN_s]
    have e0 : gA b 6 0 = nI (v.1 1) := hM.1
    have s1 : ∀ x y : Nat, x + y < 79 → ∀ z, (pA b 6 (nI (x + y)) z).2.1 6 = upd (b.2.1 6) (x + y) z := fun x y hxy z => by rw [pA_same, nI_clamp (by omega)]
    obtain ⟨b3, hb3⟩ : ∃ b3, b3 = pA b 6 (nI (7 + v.1 1)) (nI g) := ⟨_, rfl⟩
    have m3 : b3.2.1 6 = upd (b.2.1 6) (7 + v.1 1) (nI g) := by rw [hb3]; exact s1 _ _ (by omega) _
    obtain ⟨b4, hb4⟩ : ∃ b4, b4 = pA b3 6 (nI (37 + v.1 1)) (nI (v.1 0)) := ⟨_, rfl⟩
    have m4 : b4.2.1 6 = upd (upd (b.2.1 6) (7 + v.1 1) (nI g)) (37 + v.1 1) (nI (v.1 0)) := by rw [hb4, pA_same, nI_clamp (by omega), m3]
    obtain ⟨b5, hb5⟩ : ∃ b5, b5 = pA b4 6 0 (nI (v.1 1 + 1)) := ⟨_, rfl⟩
    have m5 : b5.2.1 6 = upd (upd (upd (b.2.1 6) (7 + v.1 1) (nI g)) (37 + v.1 1) (nI (v.1 0))) 0 (nI (v.1 1 + 1)) := by rw [hb5, pA_same, m4, show (0 : Int32).toNatClampNeg = 0 by decide]
    have fA : FrA 6 b b5 := by rw [hb5, hb4, hb3]; exact (((FrA.rf 6 b).pA _ _).pA _ _).pA _ _
    have e30 : gA b3 6 0 = nI (v.1 1) := by
      show b3.2.1 6 0 = _
      rw [m3, upd_n _ _ (by omega)]; exact hM.1
    have e31 : gA b3 6 1 = nI (v.1 0) := by
      show b3.2.1 6 1 = _
      rw [m3, upd_n _ _ (by omega)]; exact hM.2.1
    have e40 : gA b4 6 0 = nI (v.1 1) := by
      show b4.2.1 6 0 = _
      rw [m4, upd_n _ _ (by omega), upd_n _ _ (by omega)]; exact hM.1
    have e : f_6_readSeason_61 (n + 1) b (nI cnt) (nI i) = f_6_readSeason_61 n b5 (nI cnt) (nI (i + 1)) := by
      show f_6_readSeason_61_b (f_6_readSeason_61 n) _ _ _ = _
      unfold f_6_readSeason_61_b bs
      rw [if_neg (nI_ge (by omega) (by omega)), ck_inbL (by decide), e0, show (7 : Int32) + nI (v.1 1) = nI (7 + v.1 1) from nI_add 7 _, ck_inb (by omega) (by decide), gI_eq b 5, h5, ← hb3]
      show ck (inb 0 79) (ck (inb 1 79) (ck (inb (37 + gA b3 6 0) 79) (ck (inb 0 79) (ck (inb 0 79) (f_6_readSeason_61 n (pA (pA b3 6 (37 + gA b3 6 0) (gA b3 6 1)) 6 0 (gA (pA b3 6 (37 + gA b3 6 0) (gA b3 6 1)) 6 0 + 1)) (nI cnt) (nI i + 1)))))) = _
      rw [e30, e31, show (37 : Int32) + nI (v.1 1) = nI (37 + v.1 1) from nI_add 37 _, ← hb4, e40, ck_inbL (by decide), ck_inbL (by decide), ck_inb (by omega) (by decide), ck_inbL (by decide), ck_inbL (by decide), nI_1, nI_1, ← hb5]
    obtain ⟨b', r1, r2, r3, r4⟩ := ih n (i + 1) b5 (addDay v g) (by omega) (by omega) (by rw [ad1]; omega) (by rw [fA.1]; exact h5) (by rw [m5]; exact hM.addDay (by omega) g)
    refine ⟨b', by rw [e]; exact r1, fA.trans r2, r3, ?_⟩
    rw [r4, m5, upd_n _ _ (by omega), upd_n _ _ (by omega), upd_n _ _ (by omega)]
theorem asOk {g : Nat} (hg : g ≤ 9) : ∀ (k : Nat) (v : LV), v.1 1 + k ≤ 30 → OkL v → OkL (addN g k v) ∧ (addN g k v).1 0 = v.1 0 := by
  intro k
  induction k with
  | zero => intro v _ h; exact ⟨h, rfl⟩
  | succ k ih =>
    intro v h30 h
    rw [addN_s]
    obtain ⟨h1, h2⟩ := ih (addDay v g) (by rw [ad1]; omega) (h.addDay (by omega) hg)
    exact ⟨h1, by rw [h2, adn _ _ (by decide)]⟩
theorem endSOk {v : LV} (h : OkL v) (h5 : v.1 0 < 5) : OkL (endS v) := by
  obtain ⟨o1, o2, o3, o4, o5, o6, o7, o8⟩ := h
  refine ⟨?_, o2, o3, o4, o5, o6, o7, o8⟩
  show va_up v.1 0 (v.1 0 + 1) 0 ≤ 5
  rw [va_up_self]; omega
theorem seasonOut {sz : Nat} {a : Nat → Int32} {beg p : Nat} {R T G b : BV} {v : LV} (hJ : Jn sz a beg p T b) (hlt : beg < p) (hR : R.1 2 = -9) (hD : Dr R G (b.2.1 6) v) : Out sz a beg T b ((f_1_readSeason R T G).bind (fun z => f_1_readItem_112 z.1 z.2.1 z.2.2)) (f_6_readSeason b) := by
  have h150 := hJ.b150
  obtain ⟨ok, hC, hM, f3, f4, f5⟩ := id hD
  have h05 := ok.1
  have h30 := ok.days
  unfold f_1_readSeason f_6_readSeason f_6_readSeason_40
  rw [gI_eq G 0, hC.1, ck_inbL (by decide), ck_inbL (by decide), show gA b 6 1 = nI (v.1 0) from hM.2.1, show gA b 6 0 = nI (v.1 1) from hM.1]
  by_cases h5 : v.1 0 = 5
  · rw [if_pos (show (5 : Int32) ≤ nI (v.1 0) by rw [h5]; decide), if_pos (show nI (v.1 0) = 5 by rw [h5]; rfl)]
    unfold f_1_readSeason_17 f_1_readSeason_67
    have hb : ¬ (pI R 2 (nI beg)).1 2 = -9 := by rw [pI_s]; exact beg9 h150
    obtain ⟨T1, n1, n2, n3⟩ := letBad hR hJ
    rw [n1, Option.bind_some]
    obtain ⟨T2, l1, l2, l3⟩ := numBad hb n2 1 (if (30 : Int32) - gI G 1 < 9 then (30 : Int32) - gI G 1 else 9)
    obtain ⟨T3, k1, k2, k3⟩ := numBad hb l2 0 9
    rw [l1, Option.bind_some, k1, Option.bind_some, gI_eq, if_neg hb, Option.bind_some]
    exact badOut (bg := beg) (pI_s _ _ _) h150 rfl hJ.2.2.2.2.1 k2 ((n3.trans l3).trans k3) (FrI.rf _)
  · obtain ⟨hi, hhi⟩ : ∃ hi, hi = if 30 - v.1 1 < 9 then 30 - v.1 1 else 9 := ⟨_, rfl⟩
    have hhi9 : hi ≤ 9 ∧ hi ≤ 30 - v.1 1 := by rw [hhi]; split <;> omega
    have es : (30 : Int32) - nI (v.1 1) = nI (30 - v.1 1) := pk_sub (a := 30) h30
    have eC : (if (30 : Int32) - gI G 1 < 9 then (30 : Int32) - gI G 1 else 9) = nI hi := by
      rw [hC.days, es, hhi]
      by_cases h9 : 30 - v.1 1 < 9
      · rw [if_pos (show nI (30 - v.1 1) < 9 from nI_lt (b := 9) h9 (by decide)), if_pos h9]
      · rw [if_neg (show ¬ nI (30 - v.1 1) < 9 from nI_nlt (b := 9) (by omega) (by omega)), if_neg h9]; rfl
    have eM : (if (9 : Int32) ≤ (30 : Int32) - nI (v.1 1) then f_6_readSeason_34 b 9 1 else f_6_readSeason_34 b ((30 : Int32) - nI (v.1 1)) 1) = f_6_readSeason_34 b (nI hi) (nI 1) := by
      rw [es, hhi]
      by_cases h9 : 30 - v.1 1 < 9
      · rw [if_neg (show ¬ (9 : Int32) ≤ nI (30 - v.1 1) from nI_ge (b := 9) h9 (by decide)), if_pos h9]; rfl
      · rw [if_pos (show (9 : Int32) ≤ nI (30 - v.1 1) from nI_le (a := 9) (by omega) (by omega)), if_neg h9]; rfl
    rw [if_neg (show ¬ (5 : Int32) ≤ nI (v.1 0) from nI_ge (b := 5) (by omega) (by decide)), if_neg (show ¬ nI (v.1 0) = 5 by rw [show (5 : Int32) = nI 5 from rfl, nI_eq (by omega) (by decide)]; exact h5), eM]
    obtain ⟨T1, b1, beg1, p1, r0, r1, r2, r3, r4, r5⟩ := numJ hJ (lo := 1) (hi := hi) (by omega) (by omega)
    have h1501 := r2.b150
    unfold f_1_readSeason_17 f_1_readSeason_67 f_6_readSeason_34 f_6_readSeason_40
    rw [letOk r1, Option.bind_some, eC]
    rcases r5 R hR with ⟨x, x1, x2, e1, e2, e3⟩ | ⟨e1, e2, T2, e3, e4, e5⟩
    · have e3 : f_1_readNumber R T1 1 (nI hi) = _ := e3
      obtain ⟨T2, b2, beg2, p2, s0, s1, s2, s3, s4, s5⟩ := numJ r2 (lo := 0) (hi := 9) (by omega) (by omega)
      have h1502 := s2.b150
      rw [e1, Option.bind_some, if1, e3, s1, Option.bind_some, Option.bind_some]
      rcases s5 R hR with ⟨y, y1, y2, g1, g2, g3⟩ | ⟨g1, g2, T3, g3, g4, g5⟩
      · have g1 : f_6_number b1 0 9 = some (1, b2) := g1
        have g3 : f_1_readNumber R T2 0 9 = _ := g3
        obtain ⟨T3, b3', beg3, p3, t0, t1, t2, t3, t4, t5⟩ := nextJ s2
        have hM2 : LM (b2.2.1 6) v := by rw [s4.1, r4.1]; exact hM
        obtain ⟨G', q1, q2⟩ := asC (g := y) (cnt := x) (by omega) x 200 0 G v (by omega) (by omega) (by omega) hC
        obtain ⟨b3, u1, u2, u3, u4⟩ := asM61 (g := y) (cnt := x) (by omega) x 200 0 b2 v (by omega) (by omega) (by omega) g2 hM2
        have q1 : f_0_addSeason G (nI x) (nI y) = some G' := q1
        have u1 : f_6_readSeason_61 200 b2 (nI x) 0 = wrp (f_6_itemEnds b3) := u1
        have okA := asOk y2 x v (by omega) ok
        have hD' : Dr R G' (b3.2.1 6) (endS (addN y x v)) := ⟨endSOk okA.1 (by rw [okA.2]; omega), q2, u3, by rw [u4, s4.1, r4.1]; exact f3, by rw [u4, s4.1, r4.1]; exact f4, by rw [u4, s4.1, r4.1]; exact f5⟩
        rw [g1, Option.bind_some, if1, g3, t1, Option.bind_some, Option.bind_some, gI_eq R 2, hR, if_pos rfl, q1, Option.bind_some, Option.bind_some, gI_eq b1 5, e2, u1]
        exact (endOut (beg0 := beg) (T0 := T) (b0 := b) (s2.fr u2.1 (u2.2.2 0 (by decide))) t1 hR hD' (by have := s2.2.1; have := r2.2.1; omega) (r3.trans s3) ((r4.I.trans s4.I).trans u2.I)).wrap
      · have g1 : f_6_number b1 0 9 = some (0, b2) := g1
        have g3 : f_1_readNumber R T2 0 9 = _ := g3
        have hb : ¬ (pI R 2 (nI beg2)).1 2 = -9 := by rw [pI_s]; exact beg9 h1502
        rw [g1, Option.bind_some, if0, g3, Option.bind_some, gI_eq, if_neg hb, Option.bind_some]
        exact badOut (bg := beg2) (pI_s _ _ _) h1502 rfl g2 g4 ((r3.trans s3).trans g5) (r4.I.trans s4.I)
    · have e3 : f_1_readNumber R T1 1 (nI hi) = _ := e3
      have hb : ¬ (pI R 2 (nI beg1)).1 2 = -9 := by rw [pI_s]; exact beg9 h1501
      obtain ⟨T3, k1, k2, k3⟩ := numBad hb e4 0 9
      rw [e1, Option.bind_some, if0, e3, Option.bind_some, k1, Option.bind_some, gI_eq, if_neg hb, Option.bind_some]
      exact badOut (bg := beg1) (pI_s _ _ _) h1501 rfl e2 k2 ((r3.trans e5).trans k3) r4.I
