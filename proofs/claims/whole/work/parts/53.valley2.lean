-- valley
theorem s_valley : Sim0 Rel F_valley G_valley := by
  intro σ b n hn hr
  obtain ⟨v, w, ok, hL, hM, hS, hB, hT, hx, hy, ht, hj, hi⟩ := id hr
  obtain ⟨sz, hsz, x1, x2, x3⟩ := id hx
  obtain ⟨b4, p1, p2, p3, p4⟩ := plainM b
  have fb0 : FrI b (pI b4 2 0) := p2.I.trans (FrR.pI b4 (by omega) 0).I
  have fT0 : FrT (sT σ) (pI (sT σ) 5 0) := FrT.pI _ (by decide) _
  have hJt : Jt sz (b.2.1 0) (pI (sT σ) 5 0) (pI b4 2 0) := by
    refine ⟨hsz, fT0.1.trans x1, (fb0.2.1 1 (by omega)).trans x2, fun i hi => ⟨?_, ?_⟩⟩
    · rw [fT0.2]; exact x3 i hi
    · rw [fb0.2.2 0 (by decide)]
  obtain ⟨T1, b1, beg, q, r0, r1, r2, r3, r4, r5⟩ := nextT hJt (pI_s _ _ _) (pI_s _ _ _) (show 0 ≤ sz by omega)
  obtain ⟨R0, hR0⟩ : ∃ R0, R0 = pI (pI (pI (pI σ.2.1 2 (-9)) 3 0) 4 0) 5 0 := ⟨_, rfl⟩
  obtain ⟨G0, hG0⟩ : ∃ G0, f_0_startAnew σ.2.2.2.1 = some G0 ∧ LC G0 v00 := by
    refine ⟨_, rfl, ?_⟩
    unfold LC
    rw [pI_s, pI_n (k := 10) (j := 0) _ _ (by decide), pI_n (k := 9) (j := 0) _ _ (by decide), pI_n (k := 8) (j := 0) _ _ (by decide), pI_n (k := 4) (j := 0) _ _ (by decide), pI_n (k := 1) (j := 0) _ _ (by decide), pI_s, pI_n (k := 10) (j := 1) _ _ (by decide), pI_n (k := 9) (j := 1) _ _ (by decide), pI_n (k := 8) (j := 1) _ _ (by decide), pI_n (k := 4) (j := 1) _ _ (by decide), pI_s, pI_n (k := 10) (j := 4) _ _ (by decide), pI_n (k := 9) (j := 4) _ _ (by decide), pI_n (k := 8) (j := 4) _ _ (by decide), pI_s, pI_n (k := 10) (j := 8) _ _ (by decide), pI_n (k := 9) (j := 8) _ _ (by decide), pI_s, pI_n (k := 10) (j := 9) _ _ (by decide), pI_s]
    exact ⟨rfl, rfl, rfl, rfl, rfl, rfl, fun d h => absurd h (show ¬ d < 0 by omega), fun c h => absurd h (show ¬ c < 0 by omega)⟩
  have hR9 : R0.1 2 = -9 := by rw [hR0, pI_n _ _ (by decide), pI_n _ _ (by decide), pI_n _ _ (by decide), pI_s]
  have m6 : b1.2.1 6 = b4.2.1 6 := by rw [r5.1, pI_2]
  have hD : Dr R0 G0 (b1.2.1 6) v00 := by
    rw [m6]
    refine ⟨okV00, hG0.2, p3, ?_, ?_, ?_⟩
    · rw [p4, b_0, hR0, pI_n _ _ (by decide), pI_n _ _ (by decide), pI_s]; rfl
    · rw [p4, b_0, hR0, pI_n _ _ (by decide), pI_s]; rfl
    · rw [p4, b_0, hR0, pI_s]; rfl
  have eC : f_1_readItems σ.2.1 (sT σ) σ.2.2.2.1 = f_1_readItems_37 200 R0 T1 G0 0 := by
    unfold f_1_readItems f_4_toFirstToken
    rw [hG0.1, Option.bind_some, r1, Option.bind_some, Option.bind_some, ← hR0]
  have eM : f_6_valley b = f_6_valley_15 200 b1 0 := by
    unfold f_6_valley
    rw [p1, Option.bind_some, r2, Option.bind_some]
  have fT1 : FrT (sT σ) T1 := fT0.trans r4
  have fb1 : FrI b b1 := fb0.trans r5.I
  rcases itemsJ (sz - beg) 200 200 0 beg q R0 T1 G0 b1 v00 (Nat.le_refl _) (by omega) (by omega) (by omega) ⟨hJt.fr r4 r5, r3⟩ hR9 hD with ⟨R', T', G', b', c, v', e1, e2, e3, e4, e5, e6⟩ | ⟨R', T', G', b', bg, e1, e2, e3, e4, e5⟩
  · have e1 : f_1_readItems_37 200 R0 T1 G0 0 = _ := e1
    have e3 : f_6_valley_15 200 b1 0 = _ := e3
    have h0 : (0 : Int32) ≤ nI c := nI_le (a := 0) (by omega) (by omega)
    obtain ⟨b5, t1, t2, t3, t4, t5, t6, t7, t8, t9, t10⟩ := takesM (pI b' 1 0)
    obtain ⟨N', n1, n2⟩ := snC 4 200 0 (sN σ) w (by omega) (by omega) hS (fun j hj => absurd hj (by omega))
    have n1 : f_2_startAnew (sN σ) = some N' := n1
    obtain ⟨ok', c', m', -⟩ := e4
    have fb := fb1.trans e6
    refine ⟨nI c, (pA (pA (pI (sX σ) 8 0) 4 0 0) 4 1 0, R', pI T' 1 0, σ.2.2.2.2.1, G', σ.2.2.2.2.2.1, pI (sY σ) 2 0, N', σ.2.2.2.2.2.2.2.2), b5, ?_, ?_, ?_⟩
    · have e7 : f_5_valley (sX σ) σ.2.1 (sT σ) σ.2.2.2.1 (sY σ) (sN σ) = some (nI c, pA (pA (pI (sX σ) 8 0) 4 0 0) 4 1 0, R', pI T' 1 0, G', pI (sY σ) 2 0, N') := by
        unfold f_5_valley f_4_drop f_3_startAnew
        rw [eC, e1, Option.bind_some, if_pos h0, Option.bind_some, n1, Option.bind_some, Option.bind_some]
      unfold F_valley
      rw [e7, Option.bind_some, if_pos h0]
    · have e7 : f_6_valley b = some (nI c, b5) := by
        rw [eM, e3, t1, Option.bind_some]
      unfold G_valley
      rw [e7]; rfl
    · refine ⟨v', w00, ok', c', ?_, n2, t7, okW00 ok' _, ?_, ?_, ?_, ?_, ?_⟩
      · exact LM.congr m' ok' (fun j hj => t6 j hj)
      · exact ⟨0, by omega, pI_s _ _ _, by rw [t5, pI_s]; rfl, fun i hi => absurd hi (by omega)⟩
      · exact ⟨0, by omega, pI_s _ _ _, t3, fun i hi => absurd hi (by omega)⟩
      · exact ⟨0, by omega, by
          show upd (sX σ).1 8 0 8 = _
          rw [upd_s]; rfl, t4, fun i hi => absurd hi (by omega)⟩
      · exact hj.trans (fb.1.symm.trans t2.symm)
      · intro i hi
        left
        have ex : (pA (pA (pI (sX σ) 8 0) 4 0 0) 4 1 0).2.1 4 = upd (upd ((sX σ).2.1 4) 0 0) 1 0 := by
          rw [pA_same, pA_same, show (0 : Int32).toNatClampNeg = 0 by decide, show (1 : Int32).toNatClampNeg = 1 by decide]; rfl
        show (pA (pA (pI (sX σ) 8 0) 4 0 0) 4 1 0).2.1 4 i = 0 ∧ _
        rw [ex]
        rcases (show i = 0 ∨ i = 1 by omega) with rfl | rfl
        · exact ⟨by rw [upd_n _ _ (by decide), upd_s], t8⟩
        · exact ⟨upd_s _ _ _, t9⟩
  · have e1 : f_1_readItems_37 200 R0 T1 G0 0 = _ := e1
    have e2 : f_6_valley_15 200 b1 0 = _ := e2
    have hneg : ¬ (0 : Int32) ≤ -10 - nI bg := by
      rw [fa_le]
      have : ∀ k, k ≤ 150 → ¬ (0 : Int32).toInt ≤ ((-10 : Int32) - nI k).toInt := by decide +kernel
      exact this bg e3
    have fb := fb1.trans e5
    have fT := fT1.trans e4
    refine ⟨-10 - nI bg, (σ.1, R', T', G', σ.2.2.2.2.1, σ.2.2.2.2.2.1, σ.2.2.2.2.2.2.1, σ.2.2.2.2.2.2.2.1, σ.2.2.2.2.2.2.2.2), b', ?_, ?_, ?_⟩
    · have e7 : f_5_valley (sX σ) σ.2.1 (sT σ) σ.2.2.2.1 (sY σ) (sN σ) = some (-10 - nI bg, sX σ, R', T', G', sY σ, sN σ) := by
        unfold f_5_valley
        rw [eC, e1, Option.bind_some, if_neg hneg]
      unfold F_valley
      rw [e7, Option.bind_some, if_neg hneg]
    · have e7 : f_6_valley b = some (-10 - nI bg, b') := by
        rw [eM, e2]
      unfold G_valley
      rw [e7]; rfl
    · refine ⟨v, w, Rel0.mono (B := 1000 * n) ?_ (by omega)⟩
      refine ⟨ok, hL, ?_, hS, ?_, hT, ?_, ?_, ?_, ?_, ?_⟩
      · rw [fb.2.2 7 (by decide)]; exact hM
      · rw [fb.2.2 8 (by decide)]; exact hB
      · rw [fb.2.1 1 (by omega), fb.2.2 0 (by decide)]
        exact ⟨sz, hsz, fT.1.trans x1, x2, fun i hi => by
          show T'.2.1 0 i = _
          rw [fT.2]; exact x3 i hi⟩
      · rw [fb.2.1 10 (by omega), fb.2.2 9 (by decide)]; exact hy
      · rw [fb.2.1 12 (by omega), fb.2.2 13 (by decide), fb.2.2 14 (by decide)]; exact ht
      · exact hj.trans fb.1.symm
      · rw [fb.2.2 16 (by decide)]; exact hi
theorem all_sim : AllSim Rel := ⟨s_type, s_clear, s_valley, s_day, s_crop, s_loan, s_pawns, s_redeems, s_year, s_undo, s_now, s_lends, s_cheap, s_freeing, s_rich, s_bare, s_tells, s_forget, s_fits, s_odds, s_mark, s_keep, s_back, s_count, s_trace⟩
/-- as both begin -/
theorem rel_start : ∃ zp zt, f_6_plain zz = some zp ∧ f_6_takes zp = some zt ∧ Rel sig0 zt 0 := by
  obtain ⟨zp, p1, p2, p3, p4⟩ := plainM zz
  obtain ⟨zt, t1, t2, t3, t4, t5, t6, t7, t8, t9, t10⟩ := takesM zp
  refine ⟨zp, zt, p1, t1, v00, w00, okV00, ?_, LM.congr p3 okV00 t6, ?_, t7, okW00 okV00 _, ?_, ?_, ?_, ?_, ?_⟩
  · exact ⟨rfl, rfl, rfl, rfl, rfl, rfl, fun d h => absurd h (show ¬ d < 0 by omega), fun c h => absurd h (show ¬ c < 0 by omega)⟩
  · exact ⟨fun l hl => ⟨rfl, rfl, rfl⟩, rfl, rfl, rfl⟩
  · exact ⟨0, by omega, rfl, by rw [t5, p2.1]; rfl, fun i hi => absurd hi (by omega)⟩
  · exact ⟨0, by omega, rfl, t3, fun i hi => absurd hi (by omega)⟩
  · exact ⟨0, by omega, rfl, t4, fun i hi => absurd hi (by omega)⟩
  · rw [t2, p2.2.1]; rfl
  · intro i hi
    left
    rcases (show i = 0 ∨ i = 1 by omega) with rfl | rfl
    · exact ⟨rfl, t8⟩
    · exact ⟨rfl, t9⟩
