-- one item of a valley: what both sides hold, its end, and the items that come once
def FrI (b b' : BV) : Prop := b'.2.2 = b.2.2 ∧ (∀ j, (j < 2 ∨ 5 < j) → b'.1 j = b.1 j) ∧ ∀ j, j ≠ 6 → b'.2.1 j = b.2.1 j
theorem FrI.rf (b : BV) : FrI b b := ⟨rfl, fun _ _ => rfl, fun _ _ => rfl⟩
theorem FrI.trans {b b' b'' : BV} (h : FrI b b') (h2 : FrI b' b'') : FrI b b'' := ⟨h2.1.trans h.1, fun j hj => (h2.2.1 j hj).trans (h.2.1 j hj), fun j hj => (h2.2.2 j hj).trans (h.2.2 j hj)⟩
theorem FrR.I {b b' : BV} (h : FrR b b') : FrI b b' := ⟨by rw [h.1], h.2, fun j _ => by rw [h.1]⟩
theorem FrA.I {b b' : BV} (h : FrA 6 b b') : FrI b b' := ⟨h.2.1, fun j _ => by rw [h.1], h.2.2⟩
def fl (c : Bool) : Int32 := if c = true then 1 else 0
def Dr (R G : BV) (m : Nat → Int32) (v : LV) : Prop := OkL v ∧ LC G v ∧ LM m v ∧ R.1 3 = fl (bt (m 6) 3) ∧ R.1 4 = fl (bt (m 6) 4) ∧ R.1 5 = fl (bt (m 6) 5)
def Out (sz : Nat) (a : Nat → Int32) (beg : Nat) (T b : BV) (oC : Option (BV × BV × BV)) (oM : Option (Int32 × BV)) : Prop :=
  (∃ R' T' G' b1 b' beg' p' v', oC = some (R', T', G') ∧ oM = some (1, b1) ∧ f_6_reads b1 = some b' ∧ R'.1 2 = -9 ∧ Jn sz a beg' p' T' b' ∧ beg < beg' ∧ Dr R' G' (b'.2.1 6) v' ∧ FrT T T' ∧ FrI b b') ∨
  (∃ R' T' G' b' bg, oC = some (R', T', G') ∧ oM = some (0, b') ∧ b'.1 3 = nI bg ∧ R'.1 2 = nI bg ∧ bg ≤ 150 ∧ FrT T T' ∧ FrI b b')
def wrp (oM : Option (Int32 × BV)) : Option (Int32 × BV) := oM.bind (fun z => ck (isb z.1) (some (z.1, z.2)))
theorem Out.wrap {sz : Nat} {a : Nat → Int32} {beg : Nat} {T b : BV} {oC : Option (BV × BV × BV)} {oM : Option (Int32 × BV)} (h : Out sz a beg T b oC oM) : Out sz a beg T b oC (wrp oM) := by
  rcases h with ⟨R', T', G', b1, b', beg', p', v', h1, h2, h3⟩ | ⟨R', T', G', b', bg, h1, h2, h3⟩
  · refine Or.inl ⟨R', T', G', b1, b', beg', p', v', h1, ?_, h3⟩
    unfold wrp
    rw [h2, Option.bind_some, isb1]
  · refine Or.inr ⟨R', T', G', b', bg, h1, ?_, h3⟩
    unfold wrp
    rw [h2, Option.bind_some, isb0]
theorem badOut {sz : Nat} {a : Nat → Int32} {beg : Nat} {T0 b0 R T G b : BV} {bg : Nat} {oM : Option (Int32 × BV)} (hR : R.1 2 = nI bg) (hbg : bg ≤ 150) (hM : oM = some (0, b)) (hb : b.1 3 = nI bg) (g : Gd T) (fT : FrT T0 T) (fb : FrI b0 b) : Out sz a beg T0 b0 (f_1_readItem_112 R T G) oM := by
  obtain ⟨T', n1, n2⟩ := endBad (R := R) (by rw [hR]; exact beg9 hbg) g
  refine Or.inr ⟨R, T', G, b, bg, ?_, hM, hb, hR, hbg, fT.trans n2, fb⟩
  unfold f_1_readItem_112
  rw [n1, Option.bind_some]
theorem endOut {sz : Nat} {a : Nat → Int32} {beg0 beg2 p2 : Nat} {T0 b0 R T2 T3 G b2 : BV} {v : LV} (hJ : Jn sz a beg2 p2 T2 b2) (hT : f_4_toNextToken T2 = some T3) (hR : R.1 2 = -9) (hD : Dr R G (b2.2.1 6) v) (hlt : beg0 < p2) (fT : FrT T0 T2) (fb : FrI b0 b2) : Out sz a beg0 T0 b0 (f_1_readItem_112 R T3 G) (f_6_itemEnds b2) := by
  obtain ⟨T1, b1, beg1, p1, r0, r1, r2, r3, r4, r5⟩ := endJ hJ
  obtain rfl : T3 = T1 := Option.some.inj (hT.symm.trans r1)
  have h150 := r2.b150
  rcases r5 R hR with ⟨e1, e2⟩ | ⟨e1, e2, T4, e3, e4⟩
  · obtain ⟨T', b', beg', p', q0, q1, q2, q3, q4, q5⟩ := nextJ r2
    refine Or.inl ⟨R, T', G, b1, b', beg', p', v, ?_, e1, q2, hR, q3, ?_, ?_, (fT.trans r3).trans q4, (fb.trans r4.I).trans q5.I⟩
    · unfold f_1_readItem_112
      rw [e2, q1]; rfl
    · have := r2.2.1
      omega
    · rw [q5.1, r4.1]; exact hD
  · refine Or.inr ⟨pI R 2 (nI beg1), T4, G, b1, beg1, ?_, e1, e2, pI_s _ _ _, h150, (fT.trans r3).trans e4, fb.trans r4.I⟩
    unfold f_1_readItem_112
    rw [e3, Option.bind_some]
def o13 (k g : Nat) (lo hi : Int32) (R T G : BV) (y : Int32) : Option (BV × BV × BV) := (f_1_readLetter R T y).bind (fun z1 => (f_1_readNumber (pI z1.1 k 1) z1.2 lo hi).bind (fun z2 => some (z2.2.1, z2.2.2, pI G g z2.1)))
def onc (k lo hi : Nat) : Prop := (k = 3 ∧ lo = 1 ∧ hi = 9) ∨ (k = 4 ∧ lo = 0 ∧ hi = 5) ∨ (k = 5 ∧ lo = 1 ∧ hi = 9)
theorem DrOnce {R G : BV} {m : Nat → Int32} {v : LV} (h : Dr R G m v) {k lo hi x : Nat} (hk : onc k lo hi) (h1 : lo ≤ x) (h2 : x ≤ hi) : Dr (pI R k 1) (pI G (k + 5) (nI x)) (upd (upd m 6 (m 6 ||| (1 <<< (nI k &&& 31)))) k (nI x)) (va_up v.1 (k + 5) x, v.2) := by
  obtain ⟨⟨o1, o2, o3, o4, o5, o6, o7, o8⟩, ⟨c1, c2, c3, c4, c5, c6, c7, c8⟩, ⟨m1, m2, m3, m4, m5, m6, m7, m8⟩, f3, f4, f5⟩ := h
  have nb : ∀ j, j < 32 → bt (m 6 ||| (1 <<< (nI k &&& 31))) j = (bt (m 6) j || decide (j = k)) := fun j hj => by
    rw [b_or, one_shl (by rcases hk with h | h | h <;> omega) hj]
  have e6 : upd (upd m 6 (m 6 ||| (1 <<< (nI k &&& 31)))) k (nI x) 6 = m 6 ||| (1 <<< (nI k &&& 31)) := by
    rw [upd_n _ _ (by rcases hk with h | h | h <;> omega), upd_s]
  have up : ∀ j, j ≠ 6 → j ≠ k → upd (upd m 6 (m 6 ||| (1 <<< (nI k &&& 31)))) k (nI x) j = m j := fun j a1 a2 => by rw [upd_n _ _ a2, upd_n _ _ a1]
  have hk5 : k ≤ 5 := by rcases hk with h | h | h <;> omega
  have m7' : ∀ d, d < v.1 1 → upd (upd m 6 (m 6 ||| (1 <<< (nI k &&& 31)))) k (nI x) (37 + d) = nI (v.2 2 d) ∧ upd (upd m 6 (m 6 ||| (1 <<< (nI k &&& 31)))) k (nI x) (7 + d) = nI (v.2 3 d) := fun d hd => by
    rw [up _ (by omega) (by omega), up _ (by omega) (by omega)]; exact m7 d hd
  have m8' : ∀ c, c < v.1 4 → upd (upd m 6 (m 6 ||| (1 <<< (nI k &&& 31)))) k (nI x) (67 + 3 * c) = nI (v.2 5 c) ∧ upd (upd m 6 (m 6 ||| (1 <<< (nI k &&& 31)))) k (nI x) (68 + 3 * c) = nI (v.2 6 c) ∧ upd (upd m 6 (m 6 ||| (1 <<< (nI k &&& 31)))) k (nI x) (69 + 3 * c) = nI (v.2 7 c) := fun c hc => by
    rw [up _ (by omega) (by omega), up _ (by omega) (by omega), up _ (by omega) (by omega)]; exact m8 c hc
  have vn : ∀ j, j ≠ k + 5 → va_up v.1 (k + 5) x j = v.1 j := fun j hj => va_up_ne _ _ hj
  have vs : va_up v.1 (k + 5) x (k + 5) = x := va_up_self _ _ _
  unfold Dr OkL LC LM
  rw [e6, nb 3 (by omega), nb 4 (by omega), nb 5 (by omega)]
  simp only []
  rw [vn 0 (by rcases hk with h | h | h <;> omega), vn 1 (by rcases hk with h | h | h <;> omega), vn 4 (by rcases hk with h | h | h <;> omega), up 0 (by omega) (by rcases hk with h | h | h <;> omega), up 1 (by omega) (by rcases hk with h | h | h <;> omega), up 2 (by omega) (by rcases hk with h | h | h <;> omega), pI_n (j := 0) _ _ (by omega), pI_n (j := 1) _ _ (by omega), pI_n (j := 4) _ _ (by rcases hk with h | h | h <;> omega)]
  rcases hk with ⟨rfl, rfl, rfl⟩ | ⟨rfl, rfl, rfl⟩ | ⟨rfl, rfl, rfl⟩
  · rw [vn 9 (by decide), vn 10 (by decide), show va_up v.1 (3 + 5) x 8 = x from vs, up 4 (by decide) (by decide), up 5 (by decide) (by decide), upd_s, pI_s, pI_n (j := 9) _ _ (by decide), pI_n (j := 10) _ _ (by decide), pI_n (j := 4) _ _ (by decide), pI_n (j := 5) _ _ (by decide)]
    refine ⟨⟨o1, o2, o3, ⟨h1, h2⟩, o5, o6, o7, o8⟩, ⟨c1, c2, c3, rfl, c5, c6, c7, c8⟩, ⟨m1, m2, m3, rfl, m5, m6, m7', m8'⟩, ?_, ?_, ?_⟩
    · rw [pI_s]; simp [fl]
    · rw [f4]; simp
    · rw [f5]; simp
  · rw [vn 8 (by decide), vn 10 (by decide), show va_up v.1 (4 + 5) x 9 = x from vs, up 3 (by decide) (by decide), up 5 (by decide) (by decide), upd_s, pI_s, pI_n (j := 8) _ _ (by decide), pI_n (j := 10) _ _ (by decide), pI_n (j := 3) _ _ (by decide), pI_n (j := 5) _ _ (by decide)]
    refine ⟨⟨o1, o2, o3, o4, h2, o6, o7, o8⟩, ⟨c1, c2, c3, c4, rfl, c6, c7, c8⟩, ⟨m1, m2, m3, m4, rfl, m6, m7', m8'⟩, ?_, ?_, ?_⟩
    · rw [f3]; simp
    · rw [pI_s]; simp [fl]
    · rw [f5]; simp
  · rw [vn 8 (by decide), vn 9 (by decide), show va_up v.1 (5 + 5) x 10 = x from vs, up 3 (by decide) (by decide), up 4 (by decide) (by decide), upd_s, pI_s, pI_n (j := 8) _ _ (by decide), pI_n (j := 9) _ _ (by decide), pI_n (j := 3) _ _ (by decide), pI_n (j := 4) _ _ (by decide)]
    refine ⟨⟨o1, o2, o3, o4, o5, ⟨h1, h2⟩, o7, o8⟩, ⟨c1, c2, c3, c4, c5, rfl, c7, c8⟩, ⟨m1, m2, m3, m4, m5, rfl, m7', m8'⟩, ?_, ?_, ?_⟩
    · rw [f3]; simp
    · rw [f4]; simp
    · rw [pI_s]; simp [fl]
theorem onceOut {sz : Nat} {a : Nat → Int32} {beg p : Nat} {R T G b : BV} {v : LV} (hJ : Jn sz a beg p T b) (hlt : beg < p) (hR : R.1 2 = -9) (hD : Dr R G (b.2.1 6) v) {k lo hi : Nat} (hk : onc k lo hi) : Out sz a beg T b ((if gI R k = 0 then o13 k (k + 5) (nI lo) (nI hi) R T G 1 else o13 k (k + 5) (nI lo) (nI hi) R T G 0).bind (fun z => f_1_readItem_112 z.1 z.2.1 z.2.2)) (f_6_once b (nI k) (nI lo) (nI hi)) := by
  have h150 := hJ.b150
  have hk5 : k ≤ 5 ∧ 3 ≤ k ∧ lo ≤ 99 ∧ hi ≤ 99 := by rcases hk with h | h | h <;> omega
  have hfl : gI R k = fl (bt (b.2.1 6 6) k) := by
    rcases hk with ⟨rfl, -, -⟩ | ⟨rfl, -, -⟩ | ⟨rfl, -, -⟩
    · exact hD.2.2.2.1
    · exact hD.2.2.2.2.1
    · exact hD.2.2.2.2.2
  have g6 : gA b 6 6 = b.2.1 6 6 := rfl
  unfold f_6_once f_6_once_24 bs
  rw [hfl, ck_inbL (by decide), g6]
  by_cases hs : bt (b.2.1 6 6) k = true
  · rw [if_pos ((bit_test1 _ (by omega)).mpr hs), hs, if_neg (show ¬ fl true = 0 by decide)]
    unfold o13
    have hb : ¬ (pI (pI R 2 (nI beg)) k 1).1 2 = -9 := by rw [pI_n _ _ (by omega), pI_s]; exact beg9 h150
    obtain ⟨T1, n1, n2, n3⟩ := letBad hR hJ
    obtain ⟨T2, l1, l2, l3⟩ := numBad hb n2 (nI lo) (nI hi)
    rw [n1, Option.bind_some, l1, Option.bind_some, Option.bind_some]
    exact badOut (bg := beg) (by rw [pI_n _ _ (by omega), pI_s]) h150 rfl hJ.2.2.2.2.1 l2 (n3.trans l3) (FrI.rf _)
  · have hs' : bt (b.2.1 6 6) k = false := by simpa using hs
    rw [if_neg (fun h => hs ((bit_test1 _ (by omega)).mp h)), hs', if_pos (show fl false = 0 by decide)]
    obtain ⟨T1, b1, beg1, p1, r0, r1, r2, r3, r4, r5⟩ := numJ hJ (lo := lo) (hi := hi) (by omega) (by omega)
    have h1501 := r2.b150
    unfold o13
    have hb : (pI R k 1).1 2 = -9 := by rw [pI_n _ _ (by omega)]; exact hR
    rw [letOk r1, Option.bind_some]
    rcases r5 (pI R k 1) hb with ⟨x, x1, x2, e1, e2, e3⟩ | ⟨e1, e2, T2, e3, e4, e5⟩
    · obtain ⟨T2, b2, beg2, p2, s0, s1, s2, s3, s4, s5⟩ := nextJ r2
      rw [e1, Option.bind_some, if1, e3, s1, Option.bind_some, Option.bind_some, Option.bind_some, ck_inbL (by decide), ck_inbL (by decide)]
      have e6 : ∀ j, (pA (pA b1 6 6 (gA b1 6 6 ||| (1 <<< (nI k &&& 31)))) 6 (nI k) (nI x)).2.1 6 j = upd (upd (b.2.1 6) 6 (b.2.1 6 6 ||| (1 <<< (nI k &&& 31)))) k (nI x) j := fun j => by
        rw [pA_same, pA_same, nI_clamp (by omega), show (6 : Int32).toNatClampNeg = 6 by decide, show gA b1 6 6 = b1.2.1 6 6 from rfl, r4.1]
      have fA : FrA 6 b1 (pA (pA b1 6 6 (gA b1 6 6 ||| (1 <<< (nI k &&& 31)))) 6 (nI k) (nI x)) := ((FrA.rf 6 b1).pA _ _).pA _ _
      have J3 := r2.fr (b' := pA (pA b1 6 6 (gA b1 6 6 ||| (1 <<< (nI k &&& 31)))) 6 (nI k) (nI x)) fA.1 (fA.2.2 0 (by decide))
      have hD' : Dr (pI R k 1) (pI G (k + 5) (nI x)) ((pA (pA b1 6 6 (gA b1 6 6 ||| (1 <<< (nI k &&& 31)))) 6 (nI k) (nI x)).2.1 6) (va_up v.1 (k + 5) x, v.2) := by
        rw [funext e6]; exact DrOnce hD hk x1 x2
      have g5 : gI (pA b1 6 6 (gA b1 6 6 ||| (1 <<< (nI k &&& 31)))) 5 = nI x := e2
      have O := endOut (beg0 := beg) (T0 := T) (b0 := b) J3 s1 hb hD' (by have := r2.2.1; omega) r3 (r4.I.trans fA.I)
      have O := O.wrap
      show Out sz a beg T b _ (ck (inb (nI k) 79) ((f_6_itemEnds (pA (pA b1 6 6 (gA b1 6 6 ||| (1 <<< (nI k &&& 31)))) 6 (nI k) (gI (pA b1 6 6 (gA b1 6 6 ||| (1 <<< (nI k &&& 31)))) 5))).bind _))
      rw [ck_inb (by omega) (by decide), g5]
      exact O
    · rw [e1, Option.bind_some, if0, e3, Option.bind_some, Option.bind_some]
      exact badOut (bg := beg1) (pI_s _ _ _) h1501 rfl e2 e4 (r3.trans e5) r4.I
