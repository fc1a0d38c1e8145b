section LZ
variable {p : Program} {l : Launch} {e : Env} {s : State} {m : MethodId} {below : List Frame} {meth : Method} {c : Code} {D : va_G} {t : ty4}
theorem lt_t1 (k : Nat) {w : Cond} (h : tables_1_1[k]? = some w) : w ∈ lw_tbl := List.mem_append_right _ (List.mem_append_left _ (List.mem_of_getElem? h))
theorem lt_t2 (k : Nat) {w : Cond} (h : tables_1_2[k]? = some w) : w ∈ lw_tbl := List.mem_append_right _ (List.mem_append_right _ (List.mem_append_left _ (List.mem_of_getElem? h)))
theorem lt_t3 (k : Nat) {w : Cond} (h : tables_1_3[k]? = some w) : w ∈ lw_tbl := List.mem_append_right _ (List.mem_append_right _ (List.mem_append_right _ (List.mem_append_left _ (List.mem_of_getElem? h))))
theorem lt_t4 (k : Nat) {w : Cond} (h : tables_1_4[k]? = some w) : w ∈ lw_tbl := List.mem_append_right _ (List.mem_append_right _ (List.mem_append_right _ (List.mem_append_right _ (List.mem_of_getElem? h))))
theorem ao2_in : Cond.arrayOver (.object RX2) ∈ lw_tbl := lt_t1 172 rfl
theorem ao3_in : Cond.arrayOver (.object RX3) ∈ lw_tbl := lt_t1 185 rfl
theorem nl_0 : Cond.methodLinkNest RX5 11 yX1_init RX5 ∈ lw_tbl := lt_t1 19 rfl
theorem nl_1 : Cond.methodLinkNest RX1 11 yX4_init RX5 ∈ lw_tbl := lt_t1 25 rfl
theorem nl_2 : Cond.methodLinkNest RX1 20 yX0_init RX5 ∈ lw_tbl := lt_t1 55 rfl
theorem nl_3 : Cond.methodLinkNest RX5 18 yX0_init RX5 ∈ lw_tbl := lt_t1 134 rfl
theorem nl_4 : Cond.methodLinkNest RX3 11 yX2_init RX5 ∈ lw_tbl := lt_t1 143 rfl
theorem nl_5 : Cond.methodLinkNest RX5 40 yX2_init RX5 ∈ lw_tbl := lt_t1 187 rfl
theorem nl_6 : Cond.methodLinkNest RX1 117 yX5_isWithin RX5 ∈ lw_tbl := lt_t2 58 rfl
theorem nl_7 : Cond.methodLinkNest RX2 39 yX5_has RX5 ∈ lw_tbl := lt_t2 122 rfl
theorem nl_8 : Cond.methodLinkNest RX0 46 yX5_rowBits RX5 ∈ lw_tbl := lt_t2 147 rfl
theorem nl_9 : Cond.methodLinkNest RX0 50 yX5_has RX5 ∈ lw_tbl := lt_t2 162 rfl
theorem law_760 {b : Nat} {lv : List (Nat × Value)} {ws : va_W} (C : CX p s m #[Value.ref b] meth c cL_law 4 ret RL D t) : At p l e room_1 s m #[Value.ref b] below meth c D 4 [] (lw_Z below #[Value.ref b] s) 172 1856 760 lv [] ws := by
  refine A_iconst C (1 : Int32) dL_law_760 (by decide) ?_
  intro H locs ls hP hD hS hl
  refine va_forget (fun q hq => ?_) ?_
  · rcases hS.2.2 q hq with ⟨k, e, h⟩ | h
    · simp at h
    · exact h
  · refine W.widen (k := 600000) (n := 7302250) (by omega) (by omega) ?_
    exact lw_ret C.1.1 C.1.2.1 C.2.1 C.2.2.1 dL_law_761
theorem law_ncmp {L n : Nat} (hL : L ≤ 256) (h : 4 * n + 4 ≤ L) : ¬ (nI L - 4 < nI (4 * n)) := by
  rw [show (4 : Int32) = nI 4 from rfl, pk_sub (by omega)]
  exact nI_nlt (by omega) (by omega)
theorem law_cmp {L n : Nat} (hL : L ≤ 256) (hn : 4 * n ≤ L) (h : L < 4 * n + 4) : nI L - 4 < nI (4 * n) := by
  rw [show (4 : Int32) = nI 4 from rfl]
  by_cases h4 : 4 ≤ L
  · rw [pk_sub h4]
    exact nI_lt (by omega) (by omega)
  · have h1 := pk_sneg (a := L) (b := 4) (by omega) (by omega)
    have h2 := nI_pos' (n := 4 * n) (by omega)
    rw [Int32.lt_iff_toInt_lt] at h1 ⊢
    rw [Int32.le_iff_toInt_le] at h2
    omega
theorem law_18 {b L ox om : Nat} {xs : Nat → Int32} {Rel : XS → BV → Nat → Prop} (C : CX p s m #[Value.ref b] meth c cL_law 4 ret RL D t) (hS : va_X b L xs s s.heap) (hbl : b < s.heap.size) (hL : L ≤ 256) (hsim : AllSim Rel) (hmono : ∀ σ b n, Rel σ b n → Rel σ b (n + 1)) : ∀ (k n : Nat) (σ : XS) (bm : BV) (wx wm : va_W), L < 4 * n + 4 * k + 4 → 4 * n ≤ L → Rel σ bm n → HasX t σ ox wx → HasM t bm om wm → At p l e room_1 s m #[Value.ref b] below meth c D 4 [] (lw_Z below #[Value.ref b] s) 172 1856 18 [(0, .ref b), (1, .ref ox), (2, .ref om), (3, .int (nI (4 * n)))] [] (wx ++ wm) := by
  intro k
  induction k with
  | zero =>
    intro n σ bm wx wm hk hn hr hx hm
    refine A_iload_n C 3 dL_law_18 rfl rfl ?_
    refine A_aload_n C 0 dL_law_19 rfl rfl ?_
    refine A_slen C hS hbl dL_law_20 ?_
    refine A_iconst C (4 : Int32) dL_law_21 (by decide) ?_
    refine A_isub C dL_law_22 ?_
    refine A_icmp_gt (a := some ()) (b := none) (r := ()) C 760 dL_law_23 (by decide) (by rw [if_pos (law_cmp hL hn (by omega))]) (fun _ => ?_) (fun h => by cases h)
    exact law_760 C
  | succ k ih =>
    intro n σ bm wx wm hk hn hr hx hm
    refine A_iload_n C 3 dL_law_18 rfl rfl ?_
    refine A_aload_n C 0 dL_law_19 rfl rfl ?_
    refine A_slen C hS hbl dL_law_20 ?_
    refine A_iconst C (4 : Int32) dL_law_21 (by decide) ?_
    refine A_isub C dL_law_22 ?_
    by_cases h4 : 4 * n + 4 ≤ L
    · refine A_icmp_gt (a := none) (b := some ()) (r := ()) C 760 dL_law_23 (by decide) (by rw [if_neg (law_ncmp hL h4)]) (fun h => by cases h) (fun _ => ?_)
      have K : ∀ (σ2 : XS) (b2 : BV) (w1 w2 : va_W), Rel σ2 b2 (n + 1) → HasX t σ2 ox w1 → HasM t b2 om w2 → At p l e room_1 s m #[Value.ref b] below meth c D 4 [] (lw_Z below #[Value.ref b] s) 172 1856 754 [(0, .ref b), (1, .ref ox), (2, .ref om), (3, .int (nI (4 * n)))] [] (w1 ++ w2) := by
        intro σ2 b2 w1 w2 hr hx hm
        refine A_iinc C 3 (nI (4 * (n + 1))) [(3, .int (nI (4 * (n + 1)))), (0, .ref b), (1, .ref ox), (2, .ref om)] dL_law_754 rfl (nI_add (4 * n) 4) (by decide) rfl ?_
        refine A_goto C 18 dL_law_757 (by decide) ?_
        exact A_loc [1, 2, 3, 0] rfl (ih (n + 1) σ2 b2 w1 w2 (by omega) (by omega) hr hx hm)
      refine A_aload_n C 0 dL_law_26 rfl rfl ?_
      refine A_iload_n C 3 dL_law_27 rfl rfl ?_
      refine A_sld C hS hbl (4 * n) rfl (by omega) hL dL_law_28 ?_
      refine A_bipush C (31 : Int32) dL_law_29 (by decide) ?_
      refine A_iand C dL_law_31 ?_
      generalize xs (4 * n) &&& 31 = v
      obtain ⟨s0, s1, s2, s3, s4, s5, s6, s7, s8, s9, s10, s11, s12, s13, s14, s15, s16, s17, s18, s19, s20, s21, s22, s23, s24⟩ := hsim
      by_cases e0 : v = (0 : Int32)
      · subst e0
        refine A_tabIn C 148 dL_law_32 (by decide) (by decide) (by rfl) (by decide) ?_
        exact law_type C hS hbl hL h4 hx hm hr s0 K
      by_cases e1 : v = (1 : Int32)
      · subst e1
        refine A_tabIn C 171 dL_law_32 (by decide) (by decide) (by rfl) (by decide) ?_
        exact law_clear C hS hbl hL h4 hx hm hr s1 K
      by_cases e2 : v = (2 : Int32)
      · subst e2
        refine A_tabIn C 184 dL_law_32 (by decide) (by decide) (by rfl) (by decide) ?_
        exact law_valley C hS hbl hL h4 hx hm hr s2 K
      by_cases e3 : v = (3 : Int32)
      · subst e3
        refine A_tabIn C 197 dL_law_32 (by decide) (by decide) (by rfl) (by decide) ?_
        exact law_day C hS hbl hL h4 hx hm hr s3 K
      by_cases e4 : v = (4 : Int32)
      · subst e4
        refine A_tabIn C 230 dL_law_32 (by decide) (by decide) (by rfl) (by decide) ?_
        exact law_crop C hS hbl hL h4 hx hm hr s4 K
      by_cases e5 : v = (5 : Int32)
      · subst e5
        refine A_tabIn C 263 dL_law_32 (by decide) (by decide) (by rfl) (by decide) ?_
        exact law_loan C hS hbl hL h4 hx hm hr s5 K
      by_cases e6 : v = (6 : Int32)
      · subst e6
        refine A_tabIn C 296 dL_law_32 (by decide) (by decide) (by rfl) (by decide) ?_
        exact law_pawns C hS hbl hL h4 hx hm hr s6 K
      by_cases e7 : v = (7 : Int32)
      · subst e7
        refine A_tabIn C 329 dL_law_32 (by decide) (by decide) (by rfl) (by decide) ?_
        exact law_redeems C hS hbl hL h4 hx hm hr s7 K
      by_cases e8 : v = (8 : Int32)
      · subst e8
        refine A_tabIn C 352 dL_law_32 (by decide) (by decide) (by rfl) (by decide) ?_
        exact law_year C hS hbl hL h4 hx hm hr s8 K
      by_cases e9 : v = (9 : Int32)
      · subst e9
        refine A_tabIn C 365 dL_law_32 (by decide) (by decide) (by rfl) (by decide) ?_
        exact law_undo C hS hbl hL h4 hx hm hr s9 K
      by_cases e10 : v = (10 : Int32)
      · subst e10
        refine A_tabIn C 378 dL_law_32 (by decide) (by decide) (by rfl) (by decide) ?_
        exact law_now C hS hbl hL h4 hx hm hr s10 K
      by_cases e11 : v = (11 : Int32)
      · subst e11
        refine A_tabIn C 401 dL_law_32 (by decide) (by decide) (by rfl) (by decide) ?_
        exact law_lends C hS hbl hL h4 hx hm hr s11 K
      by_cases e12 : v = (12 : Int32)
      · subst e12
        refine A_tabIn C 434 dL_law_32 (by decide) (by decide) (by rfl) (by decide) ?_
        exact law_cheap C hS hbl hL h4 hx hm hr s12 K
      by_cases e13 : v = (13 : Int32)
      · subst e13
        refine A_tabIn C 467 dL_law_32 (by decide) (by decide) (by rfl) (by decide) ?_
        exact law_freeing C hS hbl hL h4 hx hm hr s13 K
      by_cases e14 : v = (14 : Int32)
      · subst e14
        refine A_tabIn C 490 dL_law_32 (by decide) (by decide) (by rfl) (by decide) ?_
        exact law_rich C hS hbl hL h4 hx hm hr s14 K
      by_cases e15 : v = (15 : Int32)
      · subst e15
        refine A_tabIn C 513 dL_law_32 (by decide) (by decide) (by rfl) (by decide) ?_
        exact law_bare C hS hbl hL h4 hx hm hr s15 K
      by_cases e16 : v = (16 : Int32)
      · subst e16
        refine A_tabIn C 526 dL_law_32 (by decide) (by decide) (by rfl) (by decide) ?_
        exact law_tells C hS hbl hL h4 hx hm hr s16 K
      by_cases e17 : v = (17 : Int32)
      · subst e17
        refine A_tabIn C 559 dL_law_32 (by decide) (by decide) (by rfl) (by decide) ?_
        exact law_forget C hS hbl hL h4 hx hm hr s17 K
      by_cases e18 : v = (18 : Int32)
      · subst e18
        refine A_tabIn C 572 dL_law_32 (by decide) (by decide) (by rfl) (by decide) ?_
        exact law_fits C hS hbl hL h4 hx hm hr s18 K
      by_cases e19 : v = (19 : Int32)
      · subst e19
        refine A_tabIn C 595 dL_law_32 (by decide) (by decide) (by rfl) (by decide) ?_
        exact law_odds C hS hbl hL h4 hx hm hr s19 K
      by_cases e20 : v = (20 : Int32)
      · subst e20
        refine A_tabIn C 638 dL_law_32 (by decide) (by decide) (by rfl) (by decide) ?_
        exact law_mark C hS hbl hL h4 hx hm hr s20 K
      by_cases e21 : v = (21 : Int32)
      · subst e21
        refine A_tabIn C 671 dL_law_32 (by decide) (by decide) (by rfl) (by decide) ?_
        exact law_keep C hS hbl hL h4 hx hm hr s21 K
      by_cases e22 : v = (22 : Int32)
      · subst e22
        refine A_tabIn C 694 dL_law_32 (by decide) (by decide) (by rfl) (by decide) ?_
        exact law_back C hS hbl hL h4 hx hm hr s22 K
      by_cases e23 : v = (23 : Int32)
      · subst e23
        refine A_tabIn C 717 dL_law_32 (by decide) (by decide) (by rfl) (by decide) ?_
        exact law_count C hS hbl hL h4 hx hm hr s23 K
      by_cases e24 : v = (24 : Int32)
      · subst e24
        refine A_tabIn C 740 dL_law_32 (by decide) (by decide) (by rfl) (by decide) ?_
        exact law_trace C hS hbl hL h4 hx hm hr s24 K
      have e0 := lv_neT e0 (k := (0 : Int32)) (a := 0) (by decide)
      have e1 := lv_neT e1 (k := (1 : Int32)) (a := 1) (by decide)
      have e2 := lv_neT e2 (k := (2 : Int32)) (a := 2) (by decide)
      have e3 := lv_neT e3 (k := (3 : Int32)) (a := 3) (by decide)
      have e4 := lv_neT e4 (k := (4 : Int32)) (a := 4) (by decide)
      have e5 := lv_neT e5 (k := (5 : Int32)) (a := 5) (by decide)
      have e6 := lv_neT e6 (k := (6 : Int32)) (a := 6) (by decide)
      have e7 := lv_neT e7 (k := (7 : Int32)) (a := 7) (by decide)
      have e8 := lv_neT e8 (k := (8 : Int32)) (a := 8) (by decide)
      have e9 := lv_neT e9 (k := (9 : Int32)) (a := 9) (by decide)
      have e10 := lv_neT e10 (k := (10 : Int32)) (a := 10) (by decide)
      have e11 := lv_neT e11 (k := (11 : Int32)) (a := 11) (by decide)
      have e12 := lv_neT e12 (k := (12 : Int32)) (a := 12) (by decide)
      have e13 := lv_neT e13 (k := (13 : Int32)) (a := 13) (by decide)
      have e14 := lv_neT e14 (k := (14 : Int32)) (a := 14) (by decide)
      have e15 := lv_neT e15 (k := (15 : Int32)) (a := 15) (by decide)
      have e16 := lv_neT e16 (k := (16 : Int32)) (a := 16) (by decide)
      have e17 := lv_neT e17 (k := (17 : Int32)) (a := 17) (by decide)
      have e18 := lv_neT e18 (k := (18 : Int32)) (a := 18) (by decide)
      have e19 := lv_neT e19 (k := (19 : Int32)) (a := 19) (by decide)
      have e20 := lv_neT e20 (k := (20 : Int32)) (a := 20) (by decide)
      have e21 := lv_neT e21 (k := (21 : Int32)) (a := 21) (by decide)
      have e22 := lv_neT e22 (k := (22 : Int32)) (a := 22) (by decide)
      have e23 := lv_neT e23 (k := (23 : Int32)) (a := 23) (by decide)
      have e24 := lv_neT e24 (k := (24 : Int32)) (a := 24) (by decide)
      refine A_tabOut C 754 dL_law_32 (by omega) (by decide) ?_
      exact K σ bm wx wm (hmono _ _ _ hr) hx hm
    · refine A_icmp_gt (a := some ()) (b := none) (r := ()) C 760 dL_law_23 (by decide) (by rw [if_pos (law_cmp hL hn (by omega))]) (fun _ => ?_) (fun h => by cases h)
      exact law_760 C
theorem kb_start {s : State} {args : Array Value} (hts : ∀ w ∈ lw_tbl, w.before args s = true) : ∃ (D : va_G) (t : ty4), KB D t s := by
  have hg := gw_before hts
  obtain ⟨c0, iS0, hKn0⟩ := u_known (C := RX0) (T := TX0) (N := 11) (n := 11) hg inG0 (hg _ ins_0)
  obtain ⟨c1, iS1, hKn1⟩ := u_known (C := RX1) (T := TX1) (N := 6) (n := 6) hg inG1 (hg _ ins_1)
  obtain ⟨c2, iS2, hKn2⟩ := u_known (C := RX2) (T := TX2) (N := 6) (n := 6) hg inG2 (hg _ ins_2)
  obtain ⟨c3, iS3, hKn3⟩ := u_known (C := RX3) (T := TX3) (N := 3) (n := 3) hg inG3 (hg _ ins_3)
  obtain ⟨c4, iS4, hKn4⟩ := u_known (C := RX4) (T := TX4) (N := 6) (n := 6) hg inG4 (hg _ ins_4)
  obtain ⟨c5, iS5, hKn5⟩ := u_known (C := RX5) (T := TX5) (N := 10) (n := 10) hg inG5 (hg _ ins_5)
  obtain ⟨c6, iS6, hKn6⟩ := u_known (C := RX6) (T := TX6) (N := 17) (n := 17) hg inG6 (hg _ ins_6)
  obtain ⟨cA, kA, comp, f1, f2, f3⟩ := Cond.arrayClass_spec (hg _ ac_int)
  obtain ⟨cB, kB, compB, g1, g2, g3⟩ := Cond.arrayClass_spec (hg _ ac_bool)
  have ao2 : (Cond.arrayOver (.object RX2)).before args s = true := hts _ ao2_in
  have ao3 : (Cond.arrayOver (.object RX3)).before args s = true := hts _ ao3_in
  obtain ⟨comp2, d2, k2, a1, a2, a3, a4, a5⟩ := Cond.arrayOver_spec ao2
  obtain ⟨comp3, d3, k3, b1, b2, b3, b4, b5⟩ := Cond.arrayOver_spec ao3
  refine ⟨(fun k => if k = 0 then c0 else if k = 1 then c1 else if k = 2 then c2 else if k = 3 then c3 else if k = 4 then c4 else if k = 5 then c5 else c6, fun k => if k = 0 then iS0 else if k = 1 then iS1 else if k = 2 then iS2 else if k = 3 then iS3 else if k = 4 then iS4 else if k = 5 then iS5 else iS6), (cA, cB, d2, d3), ⟨?_, ?_⟩, ?_, va_AO.of ao2, va_AO.of ao3⟩
  · intro k q hq
    match k, hq with
    | 0, hq => cases hq; exact hKn0
    | 1, hq => cases hq; exact hKn1
    | 2, hq => cases hq; exact hKn2
    | 3, hq => cases hq; exact hKn3
    | 4, hq => cases hq; exact hKn4
    | 5, hq => cases hq; exact hKn5
    | 6, hq => cases hq; exact hKn6
    | k + 7, hq => simp [classes] at hq
  · intro k q hq
    match k, hq with
    | 0, hq => cases hq; exact ⟨fun n z => ⟨fun k h => (by cases h), kA, f2, comp, f3⟩, f1⟩
    | 1, hq => cases hq; exact ⟨fun n z => ⟨fun k h => (by cases h), kB, g2, compB, g3⟩, g1⟩
    | 2, hq => cases hq; exact ⟨fun n z => ⟨fun k h => (by cases h), k2, a3, comp2, a4⟩, k2, comp2, a3, a4, a1, a5⟩
    | 3, hq => cases hq; exact ⟨fun n z => ⟨fun k h => (by cases h), k3, b3, comp3, b4⟩, k3, comp3, b3, b4, b1, b5⟩
    | k + 4, hq => simp [tysOf] at hq
  · exact ⟨va_any (by rfl) (hts _ nl_0), va_any (by rfl) (hts _ nl_1), va_any (by rfl) (hts _ nl_2), va_any (by rfl) (hts _ nl_3), va_any (by rfl) (hts _ nl_4), va_any (by rfl) (hts _ nl_5), va_any (by rfl) (hts _ nl_6), va_any (by rfl) (hts _ nl_7), va_any (by rfl) (hts _ nl_8), va_any (by rfl) (hts _ nl_9)⟩
def sig0 : XS := (zz, z1, zz, z0, z0, zz, zz, zz, fun _ => zz, fun _ => zz, fun _ => zz, fun _ _ => zz)
theorem whole_open {p : Program} {e : Env} {s : State} {m : MethodId} {below : List Frame} {meth : Method} {c : Code} (l : Launch) {b L : Nat} {xs : Nat → Int32} (hL : L ≤ 256) (C0 : lw_At p s m meth c b L xs) (Rel : XS → BV → Nat → Prop) (hsim : AllSim Rel) (hmono : ∀ σ b n, Rel σ b n → Rel σ b (n + 1)) {zp zt : BV} (hzp : f_6_plain zz = some zp) (hzt : f_6_takes zp = some zt) (h00 : Rel sig0 zt 0) : W p l e room_1 s m #[Value.ref b] below meth c s.heap [] 0 0 (lw_Z below #[Value.ref b] s) (entryFrame m ([Value.ref b] : List Value).toArray 4) := by
  obtain ⟨hx, hb, hr, hml, hown, hts, hX, hbl, hlocks, hgv⟩ := id C0
  obtain ⟨D, t, hKB⟩ := kb_start hts
  have C : CX p s m #[Value.ref b] meth c cL_law 4 ret RL D t := ⟨⟨hx, hb, hml, hown, gw_before hts⟩, hr, hlocks, hKB⟩
  have A : At p l e room_1 s m #[Value.ref b] below meth c D 4 [] (lw_Z below #[Value.ref b] s) 0 0 0 [(0, .ref b)] [] [] := by
    refine A_new C tyX5 [.null, .null, .null, .null, .null, .null, .null, .null, .int 0, .long 0] inG5 tyX5_ok kl_L_7 ins_5 ini_5 (ci := 5) rfl df_5 (Nat.le_of_ble_eq_true rfl) (Nat.le_of_ble_eq_true rfl) dL_law_0 (fun ox => ?_)
    refine A_dup C dL_law_3 rfl ?_
    refine A_iV (As := []) (rest := [.ref ox]) C (c_5_init l D t ox) mw_5_init ml_L_9 im_5_init rfl (⟨by decide, by decide, by decide, by decide⟩) (List.Perm.refl _) rfl rfl (Nat.le_of_ble_eq_true rfl) dL_law_4 (fun wx hwx => ?_)
    refine A_astore_n C [(1, .ref ox), (0, .ref b)] dL_law_7 rfl (by decide) rfl ?_
    refine A_new C tyX6 [.null, .int 0, .int 0, .int 0, .int 0, .int 0, .null, .null, .null, .null, .int 0, .null, .int 0, .null, .null, .long 0, .null] inG6 tyX6_ok kl_L_10 ins_6 ini_6 (ci := 6) rfl df_6 (Nat.le_of_ble_eq_true rfl) (Nat.le_of_ble_eq_true rfl) dL_law_8 (fun om => ?_)
    refine A_dup C dL_law_11 rfl ?_
    refine A_iV (As := []) (rest := [.ref om]) C (c_6_init l D t om zp zt hzp hzt) mw_6_init ml_L_12 im_6_init rfl (⟨by decide, by decide, by decide, by decide⟩) (List.Perm.refl _) rfl rfl (Nat.le_of_ble_eq_true rfl) dL_law_12 (fun wm hwm => ?_)
    refine A_astore_n C [(2, .ref om), (1, .ref ox), (0, .ref b)] dL_law_15 rfl (by decide) rfl ?_
    refine A_iconst C (0 : Int32) dL_law_16 (by decide) ?_
    refine A_istore_n C [(3, .int (0 : Int32)), (2, .ref om), (1, .ref ox), (0, .ref b)] dL_law_17 rfl (by decide) rfl ?_
    have hhx : HasX t sig0 ox wx := hwx
    have hhm : HasM t zt om wm := hwm
    exact A_loc [3, 2, 1, 0] rfl (law_18 (ox := ox) (om := om) C hX hbl hL hsim hmono 64 0 sig0 zt wx wm (by omega) (by omega) h00 hhx hhm)
  have hl := lv_entry ([.ref b]) (n := 4) (Nat.le_of_ble_eq_true rfl)
  rw [lg_entry_eq]
  exact A s.heap [] _ (fun k q h => by simp at h) ⟨fun i j p q h => by simp at h, fun k q h => by simp at h⟩ va_S.rf hl
end LZ
