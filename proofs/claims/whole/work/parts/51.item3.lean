-- crops, and any item
def addCr (v : LV) (x y z : Nat) : LV := (va_up v.1 4 (v.1 4 + 1), va_up (va_up (va_up v.2 5 (va_up (v.2 5) (v.1 4) x)) 6 (va_up (v.2 6) (v.1 4) y)) 7 (va_up (v.2 7) (v.1 4) z))
theorem ac4 (v : LV) (x y z : Nat) : (addCr v x y z).1 4 = v.1 4 + 1 := by
  show va_up v.1 4 (v.1 4 + 1) 4 = _
  rw [va_up_self]
theorem acn (v : LV) (x y z : Nat) {j : Nat} (h : j ≠ 4) : (addCr v x y z).1 j = v.1 j := by
  show va_up v.1 4 (v.1 4 + 1) j = _
  rw [va_up_ne _ _ h]
theorem acr (v : LV) (x y z : Nat) {j : Nat} (h : j < 5) : (addCr v x y z).2 j = v.2 j := by
  show va_up (va_up (va_up v.2 5 (va_up (v.2 5) (v.1 4) x)) 6 (va_up (v.2 6) (v.1 4) y)) 7 (va_up (v.2 7) (v.1 4) z) j = _
  rw [va_up_ne _ _ (by omega), va_up_ne _ _ (by omega), va_up_ne _ _ (by omega)]
theorem ac5 (v : LV) (x y z c : Nat) : (addCr v x y z).2 5 c = if c = v.1 4 then x else v.2 5 c := by
  show va_up (va_up (va_up v.2 5 (va_up (v.2 5) (v.1 4) x)) 6 (va_up (v.2 6) (v.1 4) y)) 7 (va_up (v.2 7) (v.1 4) z) 5 c = _
  rw [va_up_ne _ _ (by decide), va_up_ne _ _ (by decide), va_up_self]
  by_cases h : c = v.1 4
  · rw [if_pos h, h, va_up_self]
  · rw [if_neg h, va_up_ne _ _ h]
theorem ac6 (v : LV) (x y z c : Nat) : (addCr v x y z).2 6 c = if c = v.1 4 then y else v.2 6 c := by
  show va_up (va_up (va_up v.2 5 (va_up (v.2 5) (v.1 4) x)) 6 (va_up (v.2 6) (v.1 4) y)) 7 (va_up (v.2 7) (v.1 4) z) 6 c = _
  rw [va_up_ne _ _ (by decide), va_up_self]
  by_cases h : c = v.1 4
  · rw [if_pos h, h, va_up_self]
  · rw [if_neg h, va_up_ne _ _ h]
theorem ac7 (v : LV) (x y z c : Nat) : (addCr v x y z).2 7 c = if c = v.1 4 then z else v.2 7 c := by
  show va_up (va_up (va_up v.2 5 (va_up (v.2 5) (v.1 4) x)) 6 (va_up (v.2 6) (v.1 4) y)) 7 (va_up (v.2 7) (v.1 4) z) 7 c = _
  rw [va_up_self]
  by_cases h : c = v.1 4
  · rw [if_pos h, h, va_up_self]
  · rw [if_neg h, va_up_ne _ _ h]
theorem OkL.addCr {v : LV} (h : OkL v) (h4 : v.1 4 < 4) {x y z : Nat} (hx : 1 ≤ x ∧ x ≤ 9) (hy : y ≤ 9) (hz : z ≤ 99) : OkL (addCr v x y z) := by
  obtain ⟨o1, o2, o3, o4, o5, o6, o7, o8⟩ := h
  unfold OkL
  rw [ac4, acn _ _ _ _ (show 0 ≠ 4 by decide), acn _ _ _ _ (show 1 ≠ 4 by decide), acn _ _ _ _ (show 8 ≠ 4 by decide), acn _ _ _ _ (show 9 ≠ 4 by decide), acn _ _ _ _ (show 10 ≠ 4 by decide), acr _ _ _ _ (show 3 < 5 by decide)]
  refine ⟨o1, o2, by omega, o4, o5, o6, o7, fun c hc => ?_⟩
  rw [ac5, ac6, ac7]
  by_cases h : c = v.1 4
  · rw [if_pos h, if_pos h, if_pos h]; exact ⟨hx.1, hx.2, hy, hz⟩
  · rw [if_neg h, if_neg h, if_neg h]; exact o8 c (by omega)
theorem LC.addCr {G : BV} {v : LV} (h : LC G v) (h4 : v.1 4 < 4) (x y z : Nat) : ∃ G', f_0_addCrop G (nI x) (nI y) (nI z) = some G' ∧ LC G' (addCr v x y z) := by
  obtain ⟨c1, c2, c3, c4, c5, c6, c7, c8⟩ := h
  refine ⟨pI (pA (pA (pA G 5 (nI (v.1 4)) (nI x)) 6 (nI (v.1 4)) (nI y)) 7 (nI (v.1 4)) (nI z)) 4 (nI (v.1 4 + 1)), ?_, ?_⟩
  · have g0 : gI G 4 = nI (v.1 4) := c3
    have g1 : ∀ k i x, gI (pA G k i x) 4 = nI (v.1 4) := fun _ _ _ => c3
    have g2 : ∀ k i x k' i' x', gI (pA (pA G k i x) k' i' x') 4 = nI (v.1 4) := fun _ _ _ _ _ _ => c3
    have g3 : ∀ k i x k' i' x' k2 i2 x2, gI (pA (pA (pA G k i x) k' i' x') k2 i2 x2) 4 = nI (v.1 4) := fun _ _ _ _ _ _ _ _ _ => c3
    have i4 : ∀ {α : Type} (k : Option α), ck (inb (nI (v.1 4)) 4) k = k := fun k => ck_inb h4 (by decide) k
    unfold f_0_addCrop f_0_addCrop_48 bs
    rw [g0, if_neg (show ¬ (4 : Int32) ≤ nI (v.1 4) from nI_ge (b := 4) h4 (by decide)), i4]
    simp only [g1, g2, g3, i4, nI_1]
  · unfold LC
    rw [ac4, acn _ _ _ _ (show 0 ≠ 4 by decide), acn _ _ _ _ (show 1 ≠ 4 by decide), acn _ _ _ _ (show 8 ≠ 4 by decide), acn _ _ _ _ (show 9 ≠ 4 by decide), acn _ _ _ _ (show 10 ≠ 4 by decide), acr _ _ _ _ (show 2 < 5 by decide), acr _ _ _ _ (show 3 < 5 by decide), pI_s, pI_n (j := 0) _ _ (by decide), pI_n (j := 1) _ _ (by decide), pI_n (j := 8) _ _ (by decide), pI_n (j := 9) _ _ (by decide), pI_n (j := 10) _ _ (by decide), pI_2]
    rw [pA_ne (j := 2) (k := 7) _ _ _ (by decide), pA_ne (j := 2) (k := 6) _ _ _ (by decide), pA_ne (j := 2) (k := 5) _ _ _ (by decide), pA_ne (j := 3) (k := 7) _ _ _ (by decide), pA_ne (j := 3) (k := 6) _ _ _ (by decide), pA_ne (j := 3) (k := 5) _ _ _ (by decide)]
    refine ⟨c1, c2, rfl, c4, c5, c6, c7, fun c hc => ?_⟩
    rw [ac5, ac6, ac7, pA_ne (j := 5) (k := 7) _ _ _ (by decide), pA_ne (j := 5) (k := 6) _ _ _ (by decide), pA_same, pA_ne (j := 6) (k := 7) _ _ _ (by decide), pA_same, pA_ne (j := 6) (k := 5) _ _ _ (by decide), pA_same, pA_ne (j := 7) (k := 6) _ _ _ (by decide), pA_ne (j := 7) (k := 5) _ _ _ (by decide), nI_clamp (by omega)]
    by_cases h : c = v.1 4
    · rw [if_pos h, if_pos h, if_pos h, h, upd_s, upd_s, upd_s]; exact ⟨rfl, rfl, rfl⟩
    · rw [if_neg h, if_neg h, if_neg h, upd_n _ _ h, upd_n _ _ h, upd_n _ _ h]; exact c8 c (by omega)
theorem LM.addCr {m : Nat → Int32} {v : LV} (h : LM m v) (h30 : v.1 1 ≤ 30) (h4 : v.1 4 < 4) (x y z : Nat) : LM (upd (upd (upd (upd m (67 + 3 * v.1 4) (nI x)) (68 + 3 * v.1 4) (nI y)) (69 + 3 * v.1 4) (nI z)) 2 (nI (v.1 4 + 1))) (addCr v x y z) := by
  obtain ⟨c1, c2, c3, c4, c5, c6, c7, c8⟩ := h
  have up : ∀ j, j < 67 + 3 * v.1 4 → j ≠ 2 → upd (upd (upd (upd m (67 + 3 * v.1 4) (nI x)) (68 + 3 * v.1 4) (nI y)) (69 + 3 * v.1 4) (nI z)) 2 (nI (v.1 4 + 1)) j = m j := fun j a1 a2 => by
    rw [upd_n _ _ a2, upd_n _ _ (by omega), upd_n _ _ (by omega), upd_n _ _ (by omega)]
  unfold LM
  rw [ac4, acn _ _ _ _ (show 0 ≠ 4 by decide), acn _ _ _ _ (show 1 ≠ 4 by decide), acn _ _ _ _ (show 8 ≠ 4 by decide), acn _ _ _ _ (show 9 ≠ 4 by decide), acn _ _ _ _ (show 10 ≠ 4 by decide), acr _ _ _ _ (show 2 < 5 by decide), acr _ _ _ _ (show 3 < 5 by decide), upd_s, up 0 (by omega) (by decide), up 1 (by omega) (by decide), up 3 (by omega) (by decide), up 4 (by omega) (by decide), up 5 (by omega) (by decide)]
  refine ⟨c1, c2, rfl, c4, c5, c6, fun d hd => ?_, fun c hc => ?_⟩
  · rw [up _ (by omega) (by omega), up _ (by omega) (by omega)]; exact c7 d hd
  · rw [ac5, ac6, ac7]
    by_cases h : c = v.1 4
    · rw [if_pos h, if_pos h, if_pos h, h]
      refine ⟨?_, ?_, ?_⟩
      · rw [upd_n _ _ (by omega), upd_n _ _ (by omega), upd_n _ _ (by omega), upd_s]
      · rw [upd_n _ _ (by omega), upd_n _ _ (by omega), upd_s]
      · rw [upd_n _ _ (by omega), upd_s]
    · rw [if_neg h, if_neg h, if_neg h, up _ (by omega) (by omega), up _ (by omega) (by omega), up _ (by omega) (by omega)]; exact c8 c (by omega)
theorem cropOut {sz : Nat} {a : Nat → Int32} {beg p : Nat} {R T G b : BV} {v : LV} (hJ : Jn sz a beg p T b) (hlt : beg < p) (hR : R.1 2 = -9) (hD : Dr R G (b.2.1 6) v) : Out sz a beg T b ((f_1_readCrop R T G).bind (fun z => f_1_readItem_112 z.1 z.2.1 z.2.2)) (f_6_readCrop b) := by
  have h150 := hJ.b150
  obtain ⟨ok, hC, hM, f3, f4, f5⟩ := id hD
  have h04 := ok.crops
  have h30 := ok.days
  have e2 : gA b 6 2 = nI (v.1 4) := hM.2.2.1
  unfold f_1_readCrop f_6_readCrop f_6_readCrop_32 bs
  rw [hC.crops, ck_inbL (by decide), ck_inbL (by decide), e2]
  by_cases h4 : v.1 4 = 4
  · rw [if_pos (show (4 : Int32) ≤ nI (v.1 4) by rw [h4]; decide), if_pos (show nI (v.1 4) = 4 by rw [h4]; rfl)]
    unfold f_1_readCrop_17 f_1_readCrop_63
    have hb : ¬ (pI R 2 (nI beg)).1 2 = -9 := by rw [pI_s]; exact beg9 h150
    obtain ⟨T1, n1, n2, n3⟩ := letBad hR hJ
    obtain ⟨T2, l1, l2, l3⟩ := numBad hb n2 1 9
    obtain ⟨T3, k1, k2, k3⟩ := numBad hb l2 0 9
    obtain ⟨T4, j1, j2, j3⟩ := numBad hb k2 0 99
    rw [n1, Option.bind_some, l1, Option.bind_some, k1, Option.bind_some, j1, Option.bind_some, gI_eq, if_neg hb, Option.bind_some]
    exact badOut (bg := beg) (pI_s _ _ _) h150 rfl hJ.2.2.2.2.1 j2 (((n3.trans l3).trans k3).trans j3) (FrI.rf _)
  · have h44 : v.1 4 < 4 := by omega
    rw [if_neg (show ¬ (4 : Int32) ≤ nI (v.1 4) from nI_ge (b := 4) (by omega) (by decide)), if_neg (show ¬ nI (v.1 4) = 4 by rw [show (4 : Int32) = nI 4 from rfl, nI_eq (by omega) (by decide)]; exact h4)]
    have e67 : (67 : Int32) + 3 * nI (v.1 4) = nI (67 + 3 * v.1 4) := by rw [show (3 : Int32) = nI 3 from rfl, pk_mul]; exact nI_add 67 _
    have e68 : nI (67 + 3 * v.1 4) + 1 = nI (68 + 3 * v.1 4) := by rw [nI_1, show 67 + 3 * v.1 4 + 1 = 68 + 3 * v.1 4 by omega]
    have e69 : nI (67 + 3 * v.1 4) + 2 = nI (69 + 3 * v.1 4) := by rw [show (2 : Int32) = nI 2 from rfl, nI_add, show 67 + 3 * v.1 4 + 2 = 69 + 3 * v.1 4 by omega]
    rw [e67, e68, e69]
    have ix : ∀ {α : Type} {j : Nat} (_ : j < 79) (k : Option α), ck (inb (nI j) 79) k = k := fun hj k => ck_inb hj (by decide) k
    obtain ⟨T1, b1, beg1, p1, r0, r1, r2, r3, r4, r5⟩ := numJ hJ (lo := 1) (hi := 9) (by omega) (by omega)
    have h1501 := r2.b150
    unfold f_1_readCrop_17 f_1_readCrop_63
    rw [letOk r1, Option.bind_some]
    rcases r5 R hR with ⟨x, x1, x2, d1, d2, d3⟩ | ⟨d1, d2, T2, d3, d4, d5⟩
    · have d1 : f_6_number b 1 9 = some (1, b1) := d1
      have d3 : f_1_readNumber R T1 1 9 = _ := d3
      obtain ⟨b1', hb1'⟩ : ∃ b1', b1' = pA b1 6 (nI (67 + 3 * v.1 4)) (nI x) := ⟨_, rfl⟩
      have fa1 : FrA 6 b1 b1' := by rw [hb1']; exact (FrA.rf 6 b1).pA _ _
      have m1 : b1'.2.1 6 = upd (b.2.1 6) (67 + 3 * v.1 4) (nI x) := by rw [hb1', pA_same, nI_clamp (by omega), r4.1]
      obtain ⟨T2, b2, beg2, p2, s0, s1, s2, s3, s4, s5⟩ := numJ (r2.fr fa1.1 (fa1.2.2 0 (by decide))) (lo := 0) (hi := 9) (by omega) (by omega)
      have h1502 := s2.b150
      rw [d1, Option.bind_some, if1, d3, s1, Option.bind_some, Option.bind_some, ix (by omega), gI_eq b1 5, d2, ← hb1']
      show Out sz a beg T b _ ((f_6_number b1' 0 9).bind _)
      rcases s5 R hR with ⟨y, y1, y2, g1, g2, g3⟩ | ⟨g1, g2, T3, g3, g4, g5⟩
      · have g1 : f_6_number b1' 0 9 = some (1, b2) := g1
        have g3 : f_1_readNumber R T2 0 9 = _ := g3
        obtain ⟨b2', hb2'⟩ : ∃ b2', b2' = pA b2 6 (nI (68 + 3 * v.1 4)) (nI y) := ⟨_, rfl⟩
        have fa2 : FrA 6 b2 b2' := by rw [hb2']; exact (FrA.rf 6 b2).pA _ _
        have m2 : b2'.2.1 6 = upd (upd (b.2.1 6) (67 + 3 * v.1 4) (nI x)) (68 + 3 * v.1 4) (nI y) := by rw [hb2', pA_same, nI_clamp (by omega), s4.1, m1]
        obtain ⟨T3, b3, beg3, p3, t0, t1, t2, t3, t4, t5⟩ := numJ (s2.fr fa2.1 (fa2.2.2 0 (by decide))) (lo := 0) (hi := 99) (by omega) (by omega)
        have h1503 := t2.b150
        rw [g1, Option.bind_some, if1, g3, t1, Option.bind_some, Option.bind_some, ix (by omega), gI_eq b2 5, g2, ← hb2']
        show Out sz a beg T b _ ((f_6_number b2' 0 99).bind _)
        rcases t5 R hR with ⟨z, z1, z2, k1, k2, k3⟩ | ⟨k1, k2, T4, k3, k4, k5⟩
        · have k1 : f_6_number b2' 0 99 = some (1, b3) := k1
          have k3 : f_1_readNumber R T3 0 99 = _ := k3
          obtain ⟨T4, b4', beg4, p4, q0, q1, q2, q3, q4, q5⟩ := nextJ t2
          obtain ⟨G', u1, u2⟩ := hC.addCr h44 x y z
          obtain ⟨b6, hb6⟩ : ∃ b6, b6 = pA b3 6 (nI (69 + 3 * v.1 4)) (nI z) := ⟨_, rfl⟩
          have m6 : b6.2.1 6 = upd (upd (upd (b.2.1 6) (67 + 3 * v.1 4) (nI x)) (68 + 3 * v.1 4) (nI y)) (69 + 3 * v.1 4) (nI z) := by rw [hb6, pA_same, nI_clamp (by omega), t4.1, m2]
          obtain ⟨b7, hb7⟩ : ∃ b7, b7 = pA b6 6 2 (nI (v.1 4 + 1)) := ⟨_, rfl⟩
          have m7 : b7.2.1 6 = upd (upd (upd (upd (b.2.1 6) (67 + 3 * v.1 4) (nI x)) (68 + 3 * v.1 4) (nI y)) (69 + 3 * v.1 4) (nI z)) 2 (nI (v.1 4 + 1)) := by rw [hb7, pA_same, m6, show (2 : Int32).toNatClampNeg = 2 by decide]
          have fa3 : FrA 6 b3 b7 := by rw [hb7, hb6]; exact ((FrA.rf 6 b3).pA _ _).pA _ _
          have e62 : gA b6 6 2 = nI (v.1 4) := by
            show b6.2.1 6 2 = _
            rw [m6, upd_n _ _ (by omega), upd_n _ _ (by omega), upd_n _ _ (by omega)]; exact hM.2.2.1
          have s6 : b7.2.1 6 6 = b.2.1 6 6 := by rw [m7, upd_n _ _ (by omega), upd_n _ _ (by omega), upd_n _ _ (by omega), upd_n _ _ (by omega)]
          have hD' : Dr R G' (b7.2.1 6) (addCr v x y z) := ⟨ok.addCr h44 ⟨x1, x2⟩ y2 z2, u2, by rw [m7]; exact hM.addCr h30 h44 x y z, by rw [s6]; exact f3, by rw [s6]; exact f4, by rw [s6]; exact f5⟩
          rw [k1, Option.bind_some, if1, k3, q1, Option.bind_some, Option.bind_some, gI_eq R 2, hR, if_pos rfl, u1, Option.bind_some, Option.bind_some, ix (by omega), gI_eq b3 5, k2, ← hb6]
          show Out sz a beg T b _ (ck (inb 2 79) (ck (inb 2 79) ((f_6_itemEnds (pA b6 6 2 (gA b6 6 2 + 1))).bind _)))
          rw [ck_inbL (by decide), ck_inbL (by decide), e62, nI_1, ← hb7]
          exact (endOut (beg0 := beg) (T0 := T) (b0 := b) (t2.fr fa3.1 (fa3.2.2 0 (by decide))) q1 hR hD' (by have := t2.2.1; have := s2.2.1; have := r2.2.1; omega) ((r3.trans s3).trans t3) (((((r4.I.trans fa1.I).trans s4.I).trans fa2.I).trans t4.I).trans fa3.I)).wrap
        · have k1 : f_6_number b2' 0 99 = some (0, b3) := k1
          have k3 : f_1_readNumber R T3 0 99 = _ := k3
          have hb : ¬ (pI R 2 (nI beg3)).1 2 = -9 := by rw [pI_s]; exact beg9 h1503
          rw [k1, Option.bind_some, if0, k3, Option.bind_some, gI_eq, if_neg hb, Option.bind_some]
          exact badOut (bg := beg3) (pI_s _ _ _) h1503 rfl k2 k4 (((r3.trans s3).trans t3).trans k5) ((((r4.I.trans fa1.I).trans s4.I).trans fa2.I).trans t4.I)
      · have g1 : f_6_number b1' 0 9 = some (0, b2) := g1
        have g3 : f_1_readNumber R T2 0 9 = _ := g3
        have hb : ¬ (pI R 2 (nI beg2)).1 2 = -9 := by rw [pI_s]; exact beg9 h1502
        obtain ⟨T4, k1, k2, k3⟩ := numBad hb g4 0 99
        rw [g1, Option.bind_some, if0, g3, Option.bind_some, k1, Option.bind_some, gI_eq, if_neg hb, Option.bind_some]
        exact badOut (bg := beg2) (pI_s _ _ _) h1502 rfl g2 k2 (((r3.trans s3).trans g5).trans k3) ((r4.I.trans fa1.I).trans s4.I)
    · have d1 : f_6_number b 1 9 = some (0, b1) := d1
      have d3 : f_1_readNumber R T1 1 9 = _ := d3
      have hb : ¬ (pI R 2 (nI beg1)).1 2 = -9 := by rw [pI_s]; exact beg9 h1501
      obtain ⟨T3, l1, l2, l3⟩ := numBad hb d4 0 9
      obtain ⟨T4, k1, k2, k3⟩ := numBad hb l2 0 99
      rw [d1, Option.bind_some, if0, d3, Option.bind_some, l1, Option.bind_some, k1, Option.bind_some, gI_eq, if_neg hb, Option.bind_some]
      exact badOut (bg := beg1) (pI_s _ _ _) h1501 rfl d2 k2 (((r3.trans d5).trans l3).trans k3) r4.I
theorem itemOut {sz : Nat} {a : Nat → Int32} {beg p : Nat} {R T G b : BV} {v : LV} (hJ : Jn sz a beg p T b) (hk : ¬ T.1 3 = 0) (hR : R.1 2 = -9) (hD : Dr R G (b.2.1 6) v) : Out sz a beg T b (f_1_readItem R T G) (f_6_readItem b) := by
  have hlt : beg < p := hJ.2.2.2.2.2.2.2.2 hk
  have h150 := hJ.b150
  have no : ∀ y : Int32, ¬ isL y → ¬ b.1 4 = 1 → f_1_readItem R T G = f_1_readItem_22 R T G y → Out sz a beg T b (f_1_readItem R T G) (f_6_readItem b) := by
    intro y hy h4 e
    rw [e]
    unfold f_1_readItem_22 f_6_readItem
    rw [if_neg (fun h => hy (Or.inl h)), if_neg (fun h => hy (Or.inr (Or.inl h))), if_neg (fun h => hy (Or.inr (Or.inr (Or.inl h)))), if_neg (fun h => hy (Or.inr (Or.inr (Or.inr (Or.inl h))))), if_neg (fun h => hy (Or.inr (Or.inr (Or.inr (Or.inr h))))), ref9 hR, Option.bind_some, gI_eq T 2, hJ.2.2.2.1, gI_eq b 4, if_neg h4]
    exact badOut (bg := beg) (pI_s _ _ _) h150 rfl hJ.2.2.2.2.1 hJ.gd (FrT.rf _) (FrI.rf _)
  have n1 : ¬ T.1 3 = 1 → f_1_readItem R T G = f_1_readItem_22 R T G 0 := fun h => by
    unfold f_1_readItem
    rw [gI_eq T 3, if_neg h]
  have y1 : T.1 3 = 1 → f_1_readItem R T G = f_1_readItem_22 R T G (T.1 4) := fun h => by
    unfold f_1_readItem
    rw [gI_eq T 3, if_pos h]; rfl
  have nL : ¬ isL 0 := by unfold isL; decide
  rcases hJ.2.2.2.2.2.2.2.1 with ⟨k1, k2⟩ | ⟨k1, k2, k3, k4⟩ | ⟨k1, k2, -⟩ | ⟨k1, k2⟩ | ⟨k2, k1⟩
  · exact absurd k1 hk
  · rw [y1 k1]
    unfold f_1_readItem_22 f_6_readItem
    rw [gI_eq b 4, gI_eq b 5, if_pos k2, k3]
    rcases k4 with h | h | h | h | h
    · rw [h, if_pos rfl, if_pos rfl]
      exact (cropOut hJ hlt hR hD).wrap
    · rw [h, if_neg (by decide), if_pos rfl, if_neg (by decide), if_pos rfl]
      exact (onceOut hJ hlt hR hD (k := 4) (lo := 0) (hi := 5) (Or.inr (Or.inl ⟨rfl, rfl, rfl⟩))).wrap
    · rw [h, if_neg (by decide), if_neg (by decide), if_pos rfl, if_neg (by decide), if_neg (by decide), if_neg (by decide), if_neg (by decide)]
      exact (onceOut hJ hlt hR hD (k := 5) (lo := 1) (hi := 9) (Or.inr (Or.inr ⟨rfl, rfl, rfl⟩))).wrap
    · rw [h, if_neg (by decide), if_neg (by decide), if_neg (by decide), if_pos rfl, if_neg (by decide), if_neg (by decide), if_pos rfl]
      exact (onceOut hJ hlt hR hD (k := 3) (lo := 1) (hi := 9) (Or.inl ⟨rfl, rfl, rfl⟩)).wrap
    · rw [h, if_neg (by decide), if_neg (by decide), if_neg (by decide), if_neg (by decide), if_pos rfl, if_neg (by decide), if_neg (by decide), if_neg (by decide), if_pos rfl]
      exact (seasonOut hJ hlt hR hD).wrap
  · exact no 0 nL (by rw [k2]; decide) (n1 (by rw [k1]; decide))
  · exact no 0 nL (by rw [k2]; decide) (n1 (by rw [k1]; decide))
  · rcases k1 with k1 | ⟨k1, k3⟩
    · exact no 0 nL (by rw [k2]; decide) (n1 (by rw [k1]; decide))
    · exact no (T.1 4) k3 (by rw [k2]; decide) (y1 k1)
