section
variable {p : Program} {l : Launch} {e : Env} {s : State} {m : MethodId} {args : Array Value} {below : List Frame} {meth : Method} {c : Code} {D : va_G} {w0 : va_W} {t : ty4}
def f_5_clear (bT : BV) : Option (Int32 × BV) :=
  (f_4_drop bT).bind (fun z1 => some (z1.1, z1.2))
theorem c_5_clear (l : Launch) (D : va_G) (t : ty4) (qX : Nat → Nat) (qR : Nat → Nat) (qT : Nat → Nat) (qG : Nat → Nat) (qL : Nat → Nat) (qA : Nat → Nat) (qY : Nat → Nat) (qN : Nat → Nat) (im : Nat → Option Nat) (fa : Nat → Option Nat) (tail : va_W) (bX : BV) (bR : BV) (bT : BV) (bG : BV) (bL : BV) (bA : BV) (bY : BV) (bN : BV) {r : Int32 × BV} (h0 : f_5_clear bT = some r) : MetI l yX5_clear cX5_clear 1 (some .int) (rmD 1) D t [.ref (qX 99)] (wX t qX qR qL qY qA im bX ++ (wRd t qR qT qG bR ++ (wTx t qT bT ++ (wL t qG bG ++ (wL t qL bL ++ (wS t qA bA ++ (wY t qY qN fa bY ++ (wS t qN bN ++ (tail))))))))) (fun x w => r.1 = x ∧ (wX t qX qR qL qY qA im bX ++ (wRd t qR qT qG bR ++ (wTx t qT r.2 ++ (wL t qG bG ++ (wL t qL bL ++ (wS t qA bA ++ (wY t qY qN fa bY ++ (wS t qN bN ++ (tail))))))))) = w) := by
  refine MetI_of (by decide +kernel) (Nat.le_of_ble_eq_true rfl) (fun p e s m below meth c C _ => ?_)
  unfold f_5_clear at h0
  generalize hargs : (List.toArray [.ref (qX 99)] : Array Value) = args at C ⊢
  refine At.start (lv2 := [(0, .ref (qX 99))]) rfl ?_
  refine A_aload_n C 0 dX5_clear_0 rfl rfl ?_
  refine A_get (v := .ref (qR 99)) C 0 0 inG5 (ci := 5) rfl (by decide) fl_5_12 rfl rfl rfl dX5_clear_1 ?_
  refine A_get (v := .ref (qT 99)) C 5 0 inG1 (ci := 1) rfl (by decide) fl_5_64 rfl rfl rfl dX5_clear_4 ?_
  obtain ⟨z1, hz1, h0⟩ := bind_some h0
  refine A_vI (As := []) (rest := []) C 0 (c_4_drop l D t qT bT hz1) mw_4_drop ml_5_77 im_4_drop sl_4_drop (rmok rfl rfl) (cutA (wX t qX qR qL qY qA im bX ++ (wRd t qR qT qG bR)) (wTx t qT bT) (wL t qG bG ++ (wL t qL bL ++ (wS t qA bA ++ (wY t qY qN fa bY ++ (wS t qN bN ++ (tail))))))) rfl (ci := 4) rfl rfl rfl (Nat.le_of_ble_eq_true rfl) dX5_clear_7 (fun x w1 hw1 => ?_)
  obtain ⟨rfl, rfl⟩ := hw1
  refine A_perm (ws' := (wX t qX qR qL qY qA im bX ++ (wRd t qR qT qG bR ++ (wTx t qT z1.2 ++ (wL t qG bG ++ (wL t qL bL ++ (wS t qA bA ++ (wY t qY qN fa bY ++ (wS t qN bN ++ (tail)))))))))) ((cutA (wX t qX qR qL qY qA im bX ++ (wRd t qR qT qG bR)) (wTx t qT z1.2) (wL t qG bG ++ (wL t qL bL ++ (wS t qA bA ++ (wY t qY qN fa bY ++ (wS t qN bN ++ (tail))))))).symm) ?_
  have h0 := Option.some.inj h0
  subst h0
  exact A_iret C dX5_clear_10 ⟨rfl, rfl⟩
def f_5_forget (bX : BV) : Option (Int32 × BV) :=
  some ((gI bX 8), (pI bX 8 (0 : Int32)))
theorem c_5_forget (l : Launch) (D : va_G) (t : ty4) (qX : Nat → Nat) (qR : Nat → Nat) (qT : Nat → Nat) (qG : Nat → Nat) (qL : Nat → Nat) (qA : Nat → Nat) (qY : Nat → Nat) (qN : Nat → Nat) (im : Nat → Option Nat) (fa : Nat → Option Nat) (tail : va_W) (bX : BV) (bR : BV) (bT : BV) (bG : BV) (bL : BV) (bA : BV) (bY : BV) (bN : BV) {r : Int32 × BV} (h0 : f_5_forget bX = some r) : MetI l yX5_forget cX5_forget 2 (some .int) (rmD 0) D t [.ref (qX 99)] (wX t qX qR qL qY qA im bX ++ (wRd t qR qT qG bR ++ (wTx t qT bT ++ (wL t qG bG ++ (wL t qL bL ++ (wS t qA bA ++ (wY t qY qN fa bY ++ (wS t qN bN ++ (tail))))))))) (fun x w => r.1 = x ∧ (wX t qX qR qL qY qA im r.2 ++ (wRd t qR qT qG bR ++ (wTx t qT bT ++ (wL t qG bG ++ (wL t qL bL ++ (wS t qA bA ++ (wY t qY qN fa bY ++ (wS t qN bN ++ (tail))))))))) = w) := by
  refine MetI_of (by decide +kernel) (Nat.le_of_ble_eq_true rfl) (fun p e s m below meth c C _ => ?_)
  unfold f_5_forget at h0
  generalize hargs : (List.toArray [.ref (qX 99)] : Array Value) = args at C ⊢
  refine At.start (lv2 := [(0, .ref (qX 99))]) rfl ?_
  refine A_aload_n C 0 dX5_forget_0 rfl rfl ?_
  refine A_get (v := .int (gI bX 8)) C 0 8 inG5 (ci := 5) rfl (by decide) fl_5_52 rfl rfl rfl dX5_forget_1 ?_
  refine A_istore_n C [(1, .int (gI bX 8)), (0, .ref (qX 99))] dX5_forget_4 rfl (by decide) rfl ?_
  refine A_aload_n C 1 dX5_forget_5 rfl rfl ?_
  refine A_iconst C (0 : Int32) dX5_forget_6 (by decide) ?_
  refine A_put C 0 8 (wX t qX qR qL qY qA im (pI bX 8 (0 : Int32)) ++ (wRd t qR qT qG bR ++ (wTx t qT bT ++ (wL t qG bG ++ (wL t qL bL ++ (wS t qA bA ++ (wY t qY qN fa bY ++ (wS t qN bN ++ (tail))))))))) tyX5 inG5 tyX5_ok nmX5 (ci := 5) rfl (by decide) fl_5_52 rfl rfl rfl rfl rfl (Nat.le_of_ble_eq_true rfl) rfl dX5_forget_7 ?_
  refine A_iload_n C 0 dX5_forget_10 rfl rfl ?_
  have h0 := Option.some.inj h0
  subst h0
  exact A_iret C dX5_forget_11 ⟨rfl, rfl⟩
def f_5_count (bX : BV) (bT : BV) (bL : BV) (bY : BV) (x1 : Int32) : Option (Int32) :=
  if x1 = (0 : Int32) then (some (gI bL 1)) else (if x1 = (1 : Int32) then (some (gI bL 0)) else (if x1 = (2 : Int32) then (some (gI bL 4)) else (if x1 = (3 : Int32) then (some (gI bL 8)) else (if x1 = (4 : Int32) then (some (gI bL 9)) else (if x1 = (5 : Int32) then (some (gI bL 10)) else (if x1 = (6 : Int32) then (some (gI bX 8)) else (if x1 = (7 : Int32) then (some (gI bY 2)) else (if x1 = (8 : Int32) then (some (gI bT 1)) else (some (-1 : Int32))))))))))
theorem c_5_count (l : Launch) (D : va_G) (t : ty4) (qX : Nat → Nat) (qR : Nat → Nat) (qT : Nat → Nat) (qG : Nat → Nat) (qL : Nat → Nat) (qA : Nat → Nat) (qY : Nat → Nat) (qN : Nat → Nat) (im : Nat → Option Nat) (fa : Nat → Option Nat) (tail : va_W) (bX : BV) (bR : BV) (bT : BV) (bG : BV) (bL : BV) (bA : BV) (bY : BV) (bN : BV) (x1 : Int32) {r : Int32} (h0 : f_5_count bX bT bL bY x1 = some r) : MetI l yX5_count cX5_count 2 (some .int) (rmD 0) D t [.ref (qX 99), .int x1] (wX t qX qR qL qY qA im bX ++ (wRd t qR qT qG bR ++ (wTx t qT bT ++ (wL t qG bG ++ (wL t qL bL ++ (wS t qA bA ++ (wY t qY qN fa bY ++ (wS t qN bN ++ (tail))))))))) (fun x w => r = x ∧ (wX t qX qR qL qY qA im bX ++ (wRd t qR qT qG bR ++ (wTx t qT bT ++ (wL t qG bG ++ (wL t qL bL ++ (wS t qA bA ++ (wY t qY qN fa bY ++ (wS t qN bN ++ (tail))))))))) = w) := by
  refine MetI_of (by decide +kernel) (Nat.le_of_ble_eq_true rfl) (fun p e s m below meth c C _ => ?_)
  unfold f_5_count at h0
  generalize hargs : (List.toArray [.ref (qX 99), .int x1] : Array Value) = args at C ⊢
  refine At.start (lv2 := [(0, .ref (qX 99)), (1, .int x1)]) rfl ?_
  refine A_iload_n C 1 dX5_count_0 rfl rfl ?_
  refine sw_split h0 (fun hx h0 => ?_) (fun hn0 h0 => ?_)
  · refine A_tabIn C 52 dX5_count_1 (by rw [hx]; decide) (by rw [hx]; decide) (by rw [hx]; rfl) (by decide) ?_
    refine A_aload_n C 0 dX5_count_52 rfl rfl ?_
    refine A_get (v := .ref (qL 99)) C 0 1 inG5 (ci := 5) rfl (by decide) fl_5_19 rfl rfl rfl dX5_count_53 ?_
    refine A_get (v := .int (gI bL 1)) C 14 1 inG0 (ci := 0) rfl (by decide) fl_5_224 rfl rfl rfl dX5_count_56 ?_
    have h0 := Option.some.inj h0
    subst h0
    exact A_iret C dX5_count_59 ⟨rfl, rfl⟩
  ·
    refine sw_split h0 (fun hx h0 => ?_) (fun hn1 h0 => ?_)
    · refine A_tabIn C 60 dX5_count_1 (by rw [hx]; decide) (by rw [hx]; decide) (by rw [hx]; rfl) (by decide) ?_
      refine A_aload_n C 0 dX5_count_60 rfl rfl ?_
      refine A_get (v := .ref (qL 99)) C 0 1 inG5 (ci := 5) rfl (by decide) fl_5_19 rfl rfl rfl dX5_count_61 ?_
      refine A_get (v := .int (gI bL 0)) C 14 0 inG0 (ci := 0) rfl (by decide) fl_5_262 rfl rfl rfl dX5_count_64 ?_
      have h0 := Option.some.inj h0
      subst h0
      exact A_iret C dX5_count_67 ⟨rfl, rfl⟩
    ·
      refine sw_split h0 (fun hx h0 => ?_) (fun hn2 h0 => ?_)
      · refine A_tabIn C 68 dX5_count_1 (by rw [hx]; decide) (by rw [hx]; decide) (by rw [hx]; rfl) (by decide) ?_
        refine A_aload_n C 0 dX5_count_68 rfl rfl ?_
        refine A_get (v := .ref (qL 99)) C 0 1 inG5 (ci := 5) rfl (by decide) fl_5_19 rfl rfl rfl dX5_count_69 ?_
        refine A_get (v := .int (gI bL 4)) C 14 4 inG0 (ci := 0) rfl (by decide) fl_5_265 rfl rfl rfl dX5_count_72 ?_
        have h0 := Option.some.inj h0
        subst h0
        exact A_iret C dX5_count_75 ⟨rfl, rfl⟩
      ·
        refine sw_split h0 (fun hx h0 => ?_) (fun hn3 h0 => ?_)
        · refine A_tabIn C 76 dX5_count_1 (by rw [hx]; decide) (by rw [hx]; decide) (by rw [hx]; rfl) (by decide) ?_
          refine A_aload_n C 0 dX5_count_76 rfl rfl ?_
          refine A_get (v := .ref (qL 99)) C 0 1 inG5 (ci := 5) rfl (by decide) fl_5_19 rfl rfl rfl dX5_count_77 ?_
          refine A_get (v := .int (gI bL 8)) C 14 8 inG0 (ci := 0) rfl (by decide) fl_5_268 rfl rfl rfl dX5_count_80 ?_
          have h0 := Option.some.inj h0
          subst h0
          exact A_iret C dX5_count_83 ⟨rfl, rfl⟩
        ·
          refine sw_split h0 (fun hx h0 => ?_) (fun hn4 h0 => ?_)
          · refine A_tabIn C 84 dX5_count_1 (by rw [hx]; decide) (by rw [hx]; decide) (by rw [hx]; rfl) (by decide) ?_
            refine A_aload_n C 0 dX5_count_84 rfl rfl ?_
            refine A_get (v := .ref (qL 99)) C 0 1 inG5 (ci := 5) rfl (by decide) fl_5_19 rfl rfl rfl dX5_count_85 ?_
            refine A_get (v := .int (gI bL 9)) C 14 9 inG0 (ci := 0) rfl (by decide) fl_5_271 rfl rfl rfl dX5_count_88 ?_
            have h0 := Option.some.inj h0
            subst h0
            exact A_iret C dX5_count_91 ⟨rfl, rfl⟩
          ·
            refine sw_split h0 (fun hx h0 => ?_) (fun hn5 h0 => ?_)
            · refine A_tabIn C 92 dX5_count_1 (by rw [hx]; decide) (by rw [hx]; decide) (by rw [hx]; rfl) (by decide) ?_
              refine A_aload_n C 0 dX5_count_92 rfl rfl ?_
              refine A_get (v := .ref (qL 99)) C 0 1 inG5 (ci := 5) rfl (by decide) fl_5_19 rfl rfl rfl dX5_count_93 ?_
              refine A_get (v := .int (gI bL 10)) C 14 10 inG0 (ci := 0) rfl (by decide) fl_5_274 rfl rfl rfl dX5_count_96 ?_
              have h0 := Option.some.inj h0
              subst h0
              exact A_iret C dX5_count_99 ⟨rfl, rfl⟩
            ·
              refine sw_split h0 (fun hx h0 => ?_) (fun hn6 h0 => ?_)
              · refine A_tabIn C 100 dX5_count_1 (by rw [hx]; decide) (by rw [hx]; decide) (by rw [hx]; rfl) (by decide) ?_
                refine A_aload_n C 0 dX5_count_100 rfl rfl ?_
                refine A_get (v := .int (gI bX 8)) C 0 8 inG5 (ci := 5) rfl (by decide) fl_5_52 rfl rfl rfl dX5_count_101 ?_
                have h0 := Option.some.inj h0
                subst h0
                exact A_iret C dX5_count_104 ⟨rfl, rfl⟩
              ·
                refine sw_split h0 (fun hx h0 => ?_) (fun hn7 h0 => ?_)
                · refine A_tabIn C 105 dX5_count_1 (by rw [hx]; decide) (by rw [hx]; decide) (by rw [hx]; rfl) (by decide) ?_
                  refine A_aload_n C 0 dX5_count_105 rfl rfl ?_
                  refine A_get (v := .ref (qY 99)) C 0 2 inG5 (ci := 5) rfl (by decide) fl_5_26 rfl rfl rfl dX5_count_106 ?_
                  refine A_get (v := .int (gI bY 2)) C 24 2 inG3 (ci := 3) rfl (by decide) fl_5_185 rfl rfl rfl dX5_count_109 ?_
                  have h0 := Option.some.inj h0
                  subst h0
                  exact A_iret C dX5_count_112 ⟨rfl, rfl⟩
                ·
                  refine sw_split h0 (fun hx h0 => ?_) (fun hn8 h0 => ?_)
                  · refine A_tabIn C 113 dX5_count_1 (by rw [hx]; decide) (by rw [hx]; decide) (by rw [hx]; rfl) (by decide) ?_
                    refine A_aload_n C 0 dX5_count_113 rfl rfl ?_
                    refine A_get (v := .ref (qR 99)) C 0 0 inG5 (ci := 5) rfl (by decide) fl_5_12 rfl rfl rfl dX5_count_114 ?_
                    refine A_get (v := .ref (qT 99)) C 5 0 inG1 (ci := 1) rfl (by decide) fl_5_64 rfl rfl rfl dX5_count_117 ?_
                    refine A_get (v := .int (gI bT 1)) C 6 1 inG4 (ci := 4) rfl (by decide) fl_5_74 rfl rfl rfl dX5_count_120 ?_
                    have h0 := Option.some.inj h0
                    subst h0
                    exact A_iret C dX5_count_123 ⟨rfl, rfl⟩
                  ·
                    have hn0 := lv_neT hn0 (k := (0 : Int32)) (a := 0) (by decide)
                    have hn1 := lv_neT hn1 (k := (1 : Int32)) (a := 1) (by decide)
                    have hn2 := lv_neT hn2 (k := (2 : Int32)) (a := 2) (by decide)
                    have hn3 := lv_neT hn3 (k := (3 : Int32)) (a := 3) (by decide)
                    have hn4 := lv_neT hn4 (k := (4 : Int32)) (a := 4) (by decide)
                    have hn5 := lv_neT hn5 (k := (5 : Int32)) (a := 5) (by decide)
                    have hn6 := lv_neT hn6 (k := (6 : Int32)) (a := 6) (by decide)
                    have hn7 := lv_neT hn7 (k := (7 : Int32)) (a := 7) (by decide)
                    have hn8 := lv_neT hn8 (k := (8 : Int32)) (a := 8) (by decide)
                    refine A_tabOut C 124 dX5_count_1 (by omega) (by decide) ?_
                    refine A_iconst C (-1 : Int32) dX5_count_124 (by decide) ?_
                    have h0 := Option.some.inj h0
                    subst h0
                    exact A_iret C dX5_count_125 ⟨rfl, rfl⟩
def f_5_trace (bX : BV) : Option (Int64) :=
  some (gJ bX)
theorem c_5_trace (l : Launch) (D : va_G) (t : ty4) (qX : Nat → Nat) (qR : Nat → Nat) (qT : Nat → Nat) (qG : Nat → Nat) (qL : Nat → Nat) (qA : Nat → Nat) (qY : Nat → Nat) (qN : Nat → Nat) (im : Nat → Option Nat) (fa : Nat → Option Nat) (tail : va_W) (bX : BV) (bR : BV) (bT : BV) (bG : BV) (bL : BV) (bA : BV) (bY : BV) (bN : BV) {r : Int64} (h0 : f_5_trace bX = some r) : MetL l yX5_trace cX5_trace 1 (some .long) (rmD 0) D t [.ref (qX 99)] (wX t qX qR qL qY qA im bX ++ (wRd t qR qT qG bR ++ (wTx t qT bT ++ (wL t qG bG ++ (wL t qL bL ++ (wS t qA bA ++ (wY t qY qN fa bY ++ (wS t qN bN ++ (tail))))))))) (fun x w => r = x ∧ (wX t qX qR qL qY qA im bX ++ (wRd t qR qT qG bR ++ (wTx t qT bT ++ (wL t qG bG ++ (wL t qL bL ++ (wS t qA bA ++ (wY t qY qN fa bY ++ (wS t qN bN ++ (tail))))))))) = w) := by
  refine MetL_of (by decide +kernel) (Nat.le_of_ble_eq_true rfl) (fun p e s m below meth c C _ => ?_)
  unfold f_5_trace at h0
  generalize hargs : (List.toArray [.ref (qX 99)] : Array Value) = args at C ⊢
  refine At.start (lv2 := [(0, .ref (qX 99))]) rfl ?_
  refine A_aload_n C 0 dX5_trace_0 rfl rfl ?_
  refine A_get (v := .long (gJ bX)) C 0 9 inG5 (ci := 5) rfl (by decide) fl_5_56 rfl rfl rfl dX5_trace_1 ?_
  have h0 := Option.some.inj h0
  subst h0
  exact A_lret C dX5_trace_4 ⟨rfl, rfl⟩
def f_5_isDay (bL : BV) (x1 : Int32) : Option (Int32) :=
  (f_5_isWithin x1 (0 : Int32) ((gI bL 1) - (1 : Int32))).bind (fun z1 => ck (isb z1) (some z1))
theorem c_5_isDay (l : Launch) (D : va_G) (t : ty4) (qX : Nat → Nat) (qR : Nat → Nat) (qT : Nat → Nat) (qG : Nat → Nat) (qL : Nat → Nat) (qA : Nat → Nat) (qY : Nat → Nat) (qN : Nat → Nat) (im : Nat → Option Nat) (fa : Nat → Option Nat) (tail : va_W) (bX : BV) (bR : BV) (bT : BV) (bG : BV) (bL : BV) (bA : BV) (bY : BV) (bN : BV) (x1 : Int32) {r : Int32} (h0 : f_5_isDay bL x1 = some r) : MetI l yX5_isDay cX5_isDay 2 (some .boolean) (rmD 1) D t [.ref (qX 99), .int x1] (wX t qX qR qL qY qA im bX ++ (wRd t qR qT qG bR ++ (wTx t qT bT ++ (wL t qG bG ++ (wL t qL bL ++ (wS t qA bA ++ (wY t qY qN fa bY ++ (wS t qN bN ++ (tail))))))))) (fun x w => r = x ∧ (wX t qX qR qL qY qA im bX ++ (wRd t qR qT qG bR ++ (wTx t qT bT ++ (wL t qG bG ++ (wL t qL bL ++ (wS t qA bA ++ (wY t qY qN fa bY ++ (wS t qN bN ++ (tail))))))))) = w) := by
  refine MetI_of (by decide +kernel) (Nat.le_of_ble_eq_true rfl) (fun p e s m below meth c C _ => ?_)
  unfold f_5_isDay at h0
  generalize hargs : (List.toArray [.ref (qX 99), .int x1] : Array Value) = args at C ⊢
  refine At.start (lv2 := [(0, .ref (qX 99)), (1, .int x1)]) rfl ?_
  refine A_iload_n C 1 dX5_isDay_0 rfl rfl ?_
  refine A_iconst C (0 : Int32) dX5_isDay_1 (by decide) ?_
  refine A_aload_n C 0 dX5_isDay_2 rfl rfl ?_
  refine A_get (v := .ref (qL 99)) C 0 1 inG5 (ci := 5) rfl (by decide) fl_5_19 rfl rfl rfl dX5_isDay_3 ?_
  refine A_get (v := .int (gI bL 1)) C 14 1 inG0 (ci := 0) rfl (by decide) fl_5_224 rfl rfl rfl dX5_isDay_6 ?_
  refine A_iconst C (1 : Int32) dX5_isDay_9 (by decide) ?_
  refine A_isub C dX5_isDay_10 ?_
  obtain ⟨z1, hz1, h0⟩ := bind_some h0
  refine A_sI (As := [.int x1, .int (0 : Int32), .int ((gI bL 1) - (1 : Int32))]) (rest := []) C (c_5_isWithin l D t x1 (0 : Int32) ((gI bL 1) - (1 : Int32)) hz1) mw_5_isWithin ml_5_60 st_5_isWithin (rmok rfl rfl) (cutN (wX t qX qR qL qY qA im bX ++ (wRd t qR qT qG bR ++ (wTx t qT bT ++ (wL t qG bG ++ (wL t qL bL ++ (wS t qA bA ++ (wY t qY qN fa bY ++ (wS t qN bN ++ (tail)))))))))) rfl rfl (Nat.le_of_ble_eq_true rfl) dX5_isDay_11 (fun x w1 hw1 => ?_)
  obtain ⟨rfl, rfl⟩ := hw1
  refine A_perm (ws' := (wX t qX qR qL qY qA im bX ++ (wRd t qR qT qG bR ++ (wTx t qT bT ++ (wL t qG bG ++ (wL t qL bL ++ (wS t qA bA ++ (wY t qY qN fa bY ++ (wS t qN bN ++ (tail)))))))))) ((cutN _).symm) ?_
  obtain ⟨hz, h0⟩ := ck_some h0
  have h0 := Option.some.inj h0
  subst h0
  exact A_zret C dX5_isDay_14 hz ⟨rfl, rfl⟩
def f_5_isCrop (bL : BV) (x1 : Int32) : Option (Int32) :=
  (f_5_isWithin x1 (0 : Int32) ((gI bL 4) - (1 : Int32))).bind (fun z1 => ck (isb z1) (some z1))
theorem c_5_isCrop (l : Launch) (D : va_G) (t : ty4) (qX : Nat → Nat) (qR : Nat → Nat) (qT : Nat → Nat) (qG : Nat → Nat) (qL : Nat → Nat) (qA : Nat → Nat) (qY : Nat → Nat) (qN : Nat → Nat) (im : Nat → Option Nat) (fa : Nat → Option Nat) (tail : va_W) (bX : BV) (bR : BV) (bT : BV) (bG : BV) (bL : BV) (bA : BV) (bY : BV) (bN : BV) (x1 : Int32) {r : Int32} (h0 : f_5_isCrop bL x1 = some r) : MetI l yX5_isCrop cX5_isCrop 2 (some .boolean) (rmD 1) D t [.ref (qX 99), .int x1] (wX t qX qR qL qY qA im bX ++ (wRd t qR qT qG bR ++ (wTx t qT bT ++ (wL t qG bG ++ (wL t qL bL ++ (wS t qA bA ++ (wY t qY qN fa bY ++ (wS t qN bN ++ (tail))))))))) (fun x w => r = x ∧ (wX t qX qR qL qY qA im bX ++ (wRd t qR qT qG bR ++ (wTx t qT bT ++ (wL t qG bG ++ (wL t qL bL ++ (wS t qA bA ++ (wY t qY qN fa bY ++ (wS t qN bN ++ (tail))))))))) = w) := by
  refine MetI_of (by decide +kernel) (Nat.le_of_ble_eq_true rfl) (fun p e s m below meth c C _ => ?_)
  unfold f_5_isCrop at h0
  generalize hargs : (List.toArray [.ref (qX 99), .int x1] : Array Value) = args at C ⊢
  refine At.start (lv2 := [(0, .ref (qX 99)), (1, .int x1)]) rfl ?_
  refine A_iload_n C 1 dX5_isCrop_0 rfl rfl ?_
  refine A_iconst C (0 : Int32) dX5_isCrop_1 (by decide) ?_
  refine A_aload_n C 0 dX5_isCrop_2 rfl rfl ?_
  refine A_get (v := .ref (qL 99)) C 0 1 inG5 (ci := 5) rfl (by decide) fl_5_19 rfl rfl rfl dX5_isCrop_3 ?_
  refine A_get (v := .int (gI bL 4)) C 14 4 inG0 (ci := 0) rfl (by decide) fl_5_265 rfl rfl rfl dX5_isCrop_6 ?_
  refine A_iconst C (1 : Int32) dX5_isCrop_9 (by decide) ?_
  refine A_isub C dX5_isCrop_10 ?_
  obtain ⟨z1, hz1, h0⟩ := bind_some h0
  refine A_sI (As := [.int x1, .int (0 : Int32), .int ((gI bL 4) - (1 : Int32))]) (rest := []) C (c_5_isWithin l D t x1 (0 : Int32) ((gI bL 4) - (1 : Int32)) hz1) mw_5_isWithin ml_5_60 st_5_isWithin (rmok rfl rfl) (cutN (wX t qX qR qL qY qA im bX ++ (wRd t qR qT qG bR ++ (wTx t qT bT ++ (wL t qG bG ++ (wL t qL bL ++ (wS t qA bA ++ (wY t qY qN fa bY ++ (wS t qN bN ++ (tail)))))))))) rfl rfl (Nat.le_of_ble_eq_true rfl) dX5_isCrop_11 (fun x w1 hw1 => ?_)
  obtain ⟨rfl, rfl⟩ := hw1
  refine A_perm (ws' := (wX t qX qR qL qY qA im bX ++ (wRd t qR qT qG bR ++ (wTx t qT bT ++ (wL t qG bG ++ (wL t qL bL ++ (wS t qA bA ++ (wY t qY qN fa bY ++ (wS t qN bN ++ (tail)))))))))) ((cutN _).symm) ?_
  obtain ⟨hz, h0⟩ := ck_some h0
  have h0 := Option.some.inj h0
  subst h0
  exact A_zret C dX5_isCrop_14 hz ⟨rfl, rfl⟩
def f_5_markAsCrop (bX : BV) (bL : BV) (x1 : Int32) : Option (Int32 × BV) :=
  ck (inb x1 4) (some ((gA bL 7 x1), (pJ bX ((gJ bX) + (1 : Int64)))))
theorem c_5_markAsCrop (l : Launch) (D : va_G) (t : ty4) (qX : Nat → Nat) (qR : Nat → Nat) (qT : Nat → Nat) (qG : Nat → Nat) (qL : Nat → Nat) (qA : Nat → Nat) (qY : Nat → Nat) (qN : Nat → Nat) (im : Nat → Option Nat) (fa : Nat → Option Nat) (tail : va_W) (bX : BV) (bR : BV) (bT : BV) (bG : BV) (bL : BV) (bA : BV) (bY : BV) (bN : BV) (x1 : Int32) {r : Int32 × BV} (h0 : f_5_markAsCrop bX bL x1 = some r) : MetI l yX5_markAsCrop cX5_markAsCrop 2 (some .int) (rmD 0) D t [.ref (qX 99), .int x1] (wX t qX qR qL qY qA im bX ++ (wRd t qR qT qG bR ++ (wTx t qT bT ++ (wL t qG bG ++ (wL t qL bL ++ (wS t qA bA ++ (wY t qY qN fa bY ++ (wS t qN bN ++ (tail))))))))) (fun x w => r.1 = x ∧ (wX t qX qR qL qY qA im r.2 ++ (wRd t qR qT qG bR ++ (wTx t qT bT ++ (wL t qG bG ++ (wL t qL bL ++ (wS t qA bA ++ (wY t qY qN fa bY ++ (wS t qN bN ++ (tail))))))))) = w) := by
  refine MetI_of (by decide +kernel) (Nat.le_of_ble_eq_true rfl) (fun p e s m below meth c C _ => ?_)
  unfold f_5_markAsCrop at h0
  generalize hargs : (List.toArray [.ref (qX 99), .int x1] : Array Value) = args at C ⊢
  refine At.start (lv2 := [(0, .ref (qX 99)), (1, .int x1)]) rfl ?_
  refine A_aload_n C 0 dX5_markAsCrop_0 rfl rfl ?_
  refine A_dup C dX5_markAsCrop_1 rfl ?_
  refine A_get (v := .long (gJ bX)) C 0 9 inG5 (ci := 5) rfl (by decide) fl_5_56 rfl rfl rfl dX5_markAsCrop_2 ?_
  refine A_lconst C (1 : Int64) dX5_markAsCrop_5 (by decide) ?_
  refine A_ladd C dX5_markAsCrop_6 ?_
  refine A_put C 0 9 (wX t qX qR qL qY qA im (pJ bX ((gJ bX) + (1 : Int64))) ++ (wRd t qR qT qG bR ++ (wTx t qT bT ++ (wL t qG bG ++ (wL t qL bL ++ (wS t qA bA ++ (wY t qY qN fa bY ++ (wS t qN bN ++ (tail))))))))) tyX5 inG5 tyX5_ok nmX5 (ci := 5) rfl (by decide) fl_5_56 rfl rfl rfl rfl rfl (Nat.le_of_ble_eq_true rfl) rfl dX5_markAsCrop_7 ?_
  refine A_aload_n C 0 dX5_markAsCrop_10 rfl rfl ?_
  refine A_get (v := .ref (qL 99)) C 0 1 inG5 (ci := 5) rfl (by decide) fl_5_19 rfl rfl rfl dX5_markAsCrop_11 ?_
  refine A_get (v := .ref (qL 7)) C 14 7 inG0 (ci := 0) rfl (by decide) fl_5_119 rfl rfl rfl dX5_markAsCrop_14 ?_
  refine A_iload_n C 1 dX5_markAsCrop_17 rfl rfl ?_
  refine A_iald C 19 (gA bL 7 x1) rfl rfl dX5_markAsCrop_18 h0 (fun h0 => ?_)
  have h0 := Option.some.inj h0
  subst h0
  exact A_iret C dX5_markAsCrop_19 ⟨rfl, rfl⟩
def f_5_markAsHay (bX : BV) (bL : BV) (x1 : Int32) : Option (Int32 × BV) :=
  (f_5_markAsCrop (pJ bX ((gJ bX) + (10 : Int64))) bL x1).bind (fun z1 => ck (inb x1 4) (some ((z1.1 + (gA bL 5 x1)), z1.2)))
theorem c_5_markAsHay (l : Launch) (D : va_G) (t : ty4) (qX : Nat → Nat) (qR : Nat → Nat) (qT : Nat → Nat) (qG : Nat → Nat) (qL : Nat → Nat) (qA : Nat → Nat) (qY : Nat → Nat) (qN : Nat → Nat) (im : Nat → Option Nat) (fa : Nat → Option Nat) (tail : va_W) (bX : BV) (bR : BV) (bT : BV) (bG : BV) (bL : BV) (bA : BV) (bY : BV) (bN : BV) (x1 : Int32) {r : Int32 × BV} (h0 : f_5_markAsHay bX bL x1 = some r) : MetI l yX5_markAsHay cX5_markAsHay 2 (some .int) (rmD 1) D t [.ref (qX 99), .int x1] (wX t qX qR qL qY qA im bX ++ (wRd t qR qT qG bR ++ (wTx t qT bT ++ (wL t qG bG ++ (wL t qL bL ++ (wS t qA bA ++ (wY t qY qN fa bY ++ (wS t qN bN ++ (tail))))))))) (fun x w => r.1 = x ∧ (wX t qX qR qL qY qA im r.2 ++ (wRd t qR qT qG bR ++ (wTx t qT bT ++ (wL t qG bG ++ (wL t qL bL ++ (wS t qA bA ++ (wY t qY qN fa bY ++ (wS t qN bN ++ (tail))))))))) = w) := by
  refine MetI_of (by decide +kernel) (Nat.le_of_ble_eq_true rfl) (fun p e s m below meth c C _ => ?_)
  unfold f_5_markAsHay at h0
  generalize hargs : (List.toArray [.ref (qX 99), .int x1] : Array Value) = args at C ⊢
  refine At.start (lv2 := [(0, .ref (qX 99)), (1, .int x1)]) rfl ?_
  refine A_aload_n C 0 dX5_markAsHay_0 rfl rfl ?_
  refine A_dup C dX5_markAsHay_1 rfl ?_
  refine A_get (v := .long (gJ bX)) C 0 9 inG5 (ci := 5) rfl (by decide) fl_5_56 rfl rfl rfl dX5_markAsHay_2 ?_
  refine A_ldc2 (v := (10 : Int64)) C cl_5_286 dX5_markAsHay_5 ?_
  refine A_ladd C dX5_markAsHay_8 ?_
  refine A_put C 0 9 (wX t qX qR qL qY qA im (pJ bX ((gJ bX) + (10 : Int64))) ++ (wRd t qR qT qG bR ++ (wTx t qT bT ++ (wL t qG bG ++ (wL t qL bL ++ (wS t qA bA ++ (wY t qY qN fa bY ++ (wS t qN bN ++ (tail))))))))) tyX5 inG5 tyX5_ok nmX5 (ci := 5) rfl (by decide) fl_5_56 rfl rfl rfl rfl rfl (Nat.le_of_ble_eq_true rfl) rfl dX5_markAsHay_9 ?_
  refine A_aload_n C 0 dX5_markAsHay_12 rfl rfl ?_
  refine A_iload_n C 1 dX5_markAsHay_13 rfl rfl ?_
  obtain ⟨z1, hz1, h0⟩ := bind_some h0
  refine A_vI (As := [.int x1]) (rest := []) C 0 (c_5_markAsCrop l D t qX qR qT qG qL qA qY qN im fa tail (pJ bX ((gJ bX) + (10 : Int64))) bR bT bG bL bA bY bN x1 hz1) mw_5_markAsCrop ml_5_241 im_5_markAsCrop sl_5_markAsCrop (rmok rfl rfl) (cut0 (wX t qX qR qL qY qA im (pJ bX ((gJ bX) + (10 : Int64))) ++ (wRd t qR qT qG bR ++ (wTx t qT bT ++ (wL t qG bG ++ (wL t qL bL ++ (wS t qA bA ++ (wY t qY qN fa bY ++ (wS t qN bN ++ (tail)))))))))) rfl (ci := 5) rfl rfl rfl (Nat.le_of_ble_eq_true rfl) dX5_markAsHay_14 (fun x w1 hw1 => ?_)
  obtain ⟨rfl, rfl⟩ := hw1
  refine A_perm (ws' := (wX t qX qR qL qY qA im z1.2 ++ (wRd t qR qT qG bR ++ (wTx t qT bT ++ (wL t qG bG ++ (wL t qL bL ++ (wS t qA bA ++ (wY t qY qN fa bY ++ (wS t qN bN ++ (tail)))))))))) ((cut0 _).symm) ?_
  refine A_aload_n C 0 dX5_markAsHay_17 rfl rfl ?_
  refine A_get (v := .ref (qL 99)) C 0 1 inG5 (ci := 5) rfl (by decide) fl_5_19 rfl rfl rfl dX5_markAsHay_18 ?_
  refine A_get (v := .ref (qL 5)) C 14 5 inG0 (ci := 0) rfl (by decide) fl_5_113 rfl rfl rfl dX5_markAsHay_21 ?_
  refine A_iload_n C 1 dX5_markAsHay_24 rfl rfl ?_
  refine A_iald C 17 (gA bL 5 x1) rfl rfl dX5_markAsHay_25 h0 (fun h0 => ?_)
  refine A_iadd C dX5_markAsHay_26 ?_
  have h0 := Option.some.inj h0
  subst h0
  exact A_iret C dX5_markAsHay_27 ⟨rfl, rfl⟩
def f_5_markAsPlum (bX : BV) (bL : BV) (x1 : Int32) : Option (Int32 × BV) :=
  (f_5_markAsCrop (pJ bX ((gJ bX) + (100 : Int64))) bL x1).bind (fun z1 => ck (inb x1 4) (some ((z1.1 - (gA bL 6 x1)), z1.2)))
theorem c_5_markAsPlum (l : Launch) (D : va_G) (t : ty4) (qX : Nat → Nat) (qR : Nat → Nat) (qT : Nat → Nat) (qG : Nat → Nat) (qL : Nat → Nat) (qA : Nat → Nat) (qY : Nat → Nat) (qN : Nat → Nat) (im : Nat → Option Nat) (fa : Nat → Option Nat) (tail : va_W) (bX : BV) (bR : BV) (bT : BV) (bG : BV) (bL : BV) (bA : BV) (bY : BV) (bN : BV) (x1 : Int32) {r : Int32 × BV} (h0 : f_5_markAsPlum bX bL x1 = some r) : MetI l yX5_markAsPlum cX5_markAsPlum 2 (some .int) (rmD 1) D t [.ref (qX 99), .int x1] (wX t qX qR qL qY qA im bX ++ (wRd t qR qT qG bR ++ (wTx t qT bT ++ (wL t qG bG ++ (wL t qL bL ++ (wS t qA bA ++ (wY t qY qN fa bY ++ (wS t qN bN ++ (tail))))))))) (fun x w => r.1 = x ∧ (wX t qX qR qL qY qA im r.2 ++ (wRd t qR qT qG bR ++ (wTx t qT bT ++ (wL t qG bG ++ (wL t qL bL ++ (wS t qA bA ++ (wY t qY qN fa bY ++ (wS t qN bN ++ (tail))))))))) = w) := by
  refine MetI_of (by decide +kernel) (Nat.le_of_ble_eq_true rfl) (fun p e s m below meth c C _ => ?_)
  unfold f_5_markAsPlum at h0
  generalize hargs : (List.toArray [.ref (qX 99), .int x1] : Array Value) = args at C ⊢
  refine At.start (lv2 := [(0, .ref (qX 99)), (1, .int x1)]) rfl ?_
  refine A_aload_n C 0 dX5_markAsPlum_0 rfl rfl ?_
  refine A_dup C dX5_markAsPlum_1 rfl ?_
  refine A_get (v := .long (gJ bX)) C 0 9 inG5 (ci := 5) rfl (by decide) fl_5_56 rfl rfl rfl dX5_markAsPlum_2 ?_
  refine A_ldc2 (v := (100 : Int64)) C cl_5_288 dX5_markAsPlum_5 ?_
  refine A_ladd C dX5_markAsPlum_8 ?_
  refine A_put C 0 9 (wX t qX qR qL qY qA im (pJ bX ((gJ bX) + (100 : Int64))) ++ (wRd t qR qT qG bR ++ (wTx t qT bT ++ (wL t qG bG ++ (wL t qL bL ++ (wS t qA bA ++ (wY t qY qN fa bY ++ (wS t qN bN ++ (tail))))))))) tyX5 inG5 tyX5_ok nmX5 (ci := 5) rfl (by decide) fl_5_56 rfl rfl rfl rfl rfl (Nat.le_of_ble_eq_true rfl) rfl dX5_markAsPlum_9 ?_
  refine A_aload_n C 0 dX5_markAsPlum_12 rfl rfl ?_
  refine A_iload_n C 1 dX5_markAsPlum_13 rfl rfl ?_
  obtain ⟨z1, hz1, h0⟩ := bind_some h0
  refine A_vI (As := [.int x1]) (rest := []) C 0 (c_5_markAsCrop l D t qX qR qT qG qL qA qY qN im fa tail (pJ bX ((gJ bX) + (100 : Int64))) bR bT bG bL bA bY bN x1 hz1) mw_5_markAsCrop ml_5_241 im_5_markAsCrop sl_5_markAsCrop (rmok rfl rfl) (cut0 (wX t qX qR qL qY qA im (pJ bX ((gJ bX) + (100 : Int64))) ++ (wRd t qR qT qG bR ++ (wTx t qT bT ++ (wL t qG bG ++ (wL t qL bL ++ (wS t qA bA ++ (wY t qY qN fa bY ++ (wS t qN bN ++ (tail)))))))))) rfl (ci := 5) rfl rfl rfl (Nat.le_of_ble_eq_true rfl) dX5_markAsPlum_14 (fun x w1 hw1 => ?_)
  obtain ⟨rfl, rfl⟩ := hw1
  refine A_perm (ws' := (wX t qX qR qL qY qA im z1.2 ++ (wRd t qR qT qG bR ++ (wTx t qT bT ++ (wL t qG bG ++ (wL t qL bL ++ (wS t qA bA ++ (wY t qY qN fa bY ++ (wS t qN bN ++ (tail)))))))))) ((cut0 _).symm) ?_
  refine A_aload_n C 0 dX5_markAsPlum_17 rfl rfl ?_
  refine A_get (v := .ref (qL 99)) C 0 1 inG5 (ci := 5) rfl (by decide) fl_5_19 rfl rfl rfl dX5_markAsPlum_18 ?_
  refine A_get (v := .ref (qL 6)) C 14 6 inG0 (ci := 0) rfl (by decide) fl_5_116 rfl rfl rfl dX5_markAsPlum_21 ?_
  refine A_iload_n C 1 dX5_markAsPlum_24 rfl rfl ?_
  refine A_iald C 18 (gA bL 6 x1) rfl rfl dX5_markAsPlum_25 h0 (fun h0 => ?_)
  refine A_isub C dX5_markAsPlum_26 ?_
  have h0 := Option.some.inj h0
  subst h0
  exact A_iret C dX5_markAsPlum_27 ⟨rfl, rfl⟩
def f_5_markAsClover (bX : BV) (bL : BV) (x1 : Int32) : Option (Int32 × BV) :=
  (f_5_markAsHay (pJ bX ((gJ bX) + (1000 : Int64))) bL x1).bind (fun z1 => some ((z1.1 * (2 : Int32)), z1.2))
theorem c_5_markAsClover (l : Launch) (D : va_G) (t : ty4) (qX : Nat → Nat) (qR : Nat → Nat) (qT : Nat → Nat) (qG : Nat → Nat) (qL : Nat → Nat) (qA : Nat → Nat) (qY : Nat → Nat) (qN : Nat → Nat) (im : Nat → Option Nat) (fa : Nat → Option Nat) (tail : va_W) (bX : BV) (bR : BV) (bT : BV) (bG : BV) (bL : BV) (bA : BV) (bY : BV) (bN : BV) (x1 : Int32) {r : Int32 × BV} (h0 : f_5_markAsClover bX bL x1 = some r) : MetI l yX5_markAsClover cX5_markAsClover 2 (some .int) (rmD 2) D t [.ref (qX 99), .int x1] (wX t qX qR qL qY qA im bX ++ (wRd t qR qT qG bR ++ (wTx t qT bT ++ (wL t qG bG ++ (wL t qL bL ++ (wS t qA bA ++ (wY t qY qN fa bY ++ (wS t qN bN ++ (tail))))))))) (fun x w => r.1 = x ∧ (wX t qX qR qL qY qA im r.2 ++ (wRd t qR qT qG bR ++ (wTx t qT bT ++ (wL t qG bG ++ (wL t qL bL ++ (wS t qA bA ++ (wY t qY qN fa bY ++ (wS t qN bN ++ (tail))))))))) = w) := by
  refine MetI_of (by decide +kernel) (Nat.le_of_ble_eq_true rfl) (fun p e s m below meth c C _ => ?_)
  unfold f_5_markAsClover at h0
  generalize hargs : (List.toArray [.ref (qX 99), .int x1] : Array Value) = args at C ⊢
  refine At.start (lv2 := [(0, .ref (qX 99)), (1, .int x1)]) rfl ?_
  refine A_aload_n C 0 dX5_markAsClover_0 rfl rfl ?_
  refine A_dup C dX5_markAsClover_1 rfl ?_
  refine A_get (v := .long (gJ bX)) C 0 9 inG5 (ci := 5) rfl (by decide) fl_5_56 rfl rfl rfl dX5_markAsClover_2 ?_
  refine A_ldc2 (v := (1000 : Int64)) C cl_5_290 dX5_markAsClover_5 ?_
  refine A_ladd C dX5_markAsClover_8 ?_
  refine A_put C 0 9 (wX t qX qR qL qY qA im (pJ bX ((gJ bX) + (1000 : Int64))) ++ (wRd t qR qT qG bR ++ (wTx t qT bT ++ (wL t qG bG ++ (wL t qL bL ++ (wS t qA bA ++ (wY t qY qN fa bY ++ (wS t qN bN ++ (tail))))))))) tyX5 inG5 tyX5_ok nmX5 (ci := 5) rfl (by decide) fl_5_56 rfl rfl rfl rfl rfl (Nat.le_of_ble_eq_true rfl) rfl dX5_markAsClover_9 ?_
  refine A_aload_n C 0 dX5_markAsClover_12 rfl rfl ?_
  refine A_iload_n C 1 dX5_markAsClover_13 rfl rfl ?_
  obtain ⟨z1, hz1, h0⟩ := bind_some h0
  refine A_vI (As := [.int x1]) (rest := []) C 0 (c_5_markAsHay l D t qX qR qT qG qL qA qY qN im fa tail (pJ bX ((gJ bX) + (1000 : Int64))) bR bT bG bL bA bY bN x1 hz1) mw_5_markAsHay ml_5_244 im_5_markAsHay sl_5_markAsHay (rmok rfl rfl) (cut0 (wX t qX qR qL qY qA im (pJ bX ((gJ bX) + (1000 : Int64))) ++ (wRd t qR qT qG bR ++ (wTx t qT bT ++ (wL t qG bG ++ (wL t qL bL ++ (wS t qA bA ++ (wY t qY qN fa bY ++ (wS t qN bN ++ (tail)))))))))) rfl (ci := 5) rfl rfl rfl (Nat.le_of_ble_eq_true rfl) dX5_markAsClover_14 (fun x w1 hw1 => ?_)
  obtain ⟨rfl, rfl⟩ := hw1
  refine A_perm (ws' := (wX t qX qR qL qY qA im z1.2 ++ (wRd t qR qT qG bR ++ (wTx t qT bT ++ (wL t qG bG ++ (wL t qL bL ++ (wS t qA bA ++ (wY t qY qN fa bY ++ (wS t qN bN ++ (tail)))))))))) ((cut0 _).symm) ?_
  refine A_iconst C (2 : Int32) dX5_markAsClover_17 (by decide) ?_
  refine A_imul C dX5_markAsClover_18 ?_
  have h0 := Option.some.inj h0
  subst h0
  exact A_iret C dX5_markAsClover_19 ⟨rfl, rfl⟩
def f_5_markAsLamb (bX : BV) (bL : BV) (bN : BV) (x1 : Int32) : Option (Int32 × BV) :=
  (f_5_markAsCrop (pJ bX ((gJ bX) + (100000 : Int64))) bL x1).bind (fun z1 => some ((z1.1 + (gI bN 5)), z1.2))
theorem c_5_markAsLamb (l : Launch) (D : va_G) (t : ty4) (qX : Nat → Nat) (qR : Nat → Nat) (qT : Nat → Nat) (qG : Nat → Nat) (qL : Nat → Nat) (qA : Nat → Nat) (qY : Nat → Nat) (qN : Nat → Nat) (im : Nat → Option Nat) (fa : Nat → Option Nat) (tail : va_W) (bX : BV) (bR : BV) (bT : BV) (bG : BV) (bL : BV) (bA : BV) (bY : BV) (bN : BV) (x1 : Int32) {r : Int32 × BV} (h0 : f_5_markAsLamb bX bL bN x1 = some r) : MetI l yX5_markAsLamb cX5_markAsLamb 2 (some .int) (rmD 1) D t [.ref (qX 99), .int x1] (wX t qX qR qL qY qA im bX ++ (wRd t qR qT qG bR ++ (wTx t qT bT ++ (wL t qG bG ++ (wL t qL bL ++ (wS t qA bA ++ (wY t qY qN fa bY ++ (wS t qN bN ++ (tail))))))))) (fun x w => r.1 = x ∧ (wX t qX qR qL qY qA im r.2 ++ (wRd t qR qT qG bR ++ (wTx t qT bT ++ (wL t qG bG ++ (wL t qL bL ++ (wS t qA bA ++ (wY t qY qN fa bY ++ (wS t qN bN ++ (tail))))))))) = w) := by
  refine MetI_of (by decide +kernel) (Nat.le_of_ble_eq_true rfl) (fun p e s m below meth c C _ => ?_)
  unfold f_5_markAsLamb at h0
  generalize hargs : (List.toArray [.ref (qX 99), .int x1] : Array Value) = args at C ⊢
  refine At.start (lv2 := [(0, .ref (qX 99)), (1, .int x1)]) rfl ?_
  refine A_aload_n C 0 dX5_markAsLamb_0 rfl rfl ?_
  refine A_dup C dX5_markAsLamb_1 rfl ?_
  refine A_get (v := .long (gJ bX)) C 0 9 inG5 (ci := 5) rfl (by decide) fl_5_56 rfl rfl rfl dX5_markAsLamb_2 ?_
  refine A_ldc2 (v := (100000 : Int64)) C cl_5_294 dX5_markAsLamb_5 ?_
  refine A_ladd C dX5_markAsLamb_8 ?_
  refine A_put C 0 9 (wX t qX qR qL qY qA im (pJ bX ((gJ bX) + (100000 : Int64))) ++ (wRd t qR qT qG bR ++ (wTx t qT bT ++ (wL t qG bG ++ (wL t qL bL ++ (wS t qA bA ++ (wY t qY qN fa bY ++ (wS t qN bN ++ (tail))))))))) tyX5 inG5 tyX5_ok nmX5 (ci := 5) rfl (by decide) fl_5_56 rfl rfl rfl rfl rfl (Nat.le_of_ble_eq_true rfl) rfl dX5_markAsLamb_9 ?_
  refine A_aload_n C 0 dX5_markAsLamb_12 rfl rfl ?_
  refine A_iload_n C 1 dX5_markAsLamb_13 rfl rfl ?_
  obtain ⟨z1, hz1, h0⟩ := bind_some h0
  refine A_vI (As := [.int x1]) (rest := []) C 0 (c_5_markAsCrop l D t qX qR qT qG qL qA qY qN im fa tail (pJ bX ((gJ bX) + (100000 : Int64))) bR bT bG bL bA bY bN x1 hz1) mw_5_markAsCrop ml_5_241 im_5_markAsCrop sl_5_markAsCrop (rmok rfl rfl) (cut0 (wX t qX qR qL qY qA im (pJ bX ((gJ bX) + (100000 : Int64))) ++ (wRd t qR qT qG bR ++ (wTx t qT bT ++ (wL t qG bG ++ (wL t qL bL ++ (wS t qA bA ++ (wY t qY qN fa bY ++ (wS t qN bN ++ (tail)))))))))) rfl (ci := 5) rfl rfl rfl (Nat.le_of_ble_eq_true rfl) dX5_markAsLamb_14 (fun x w1 hw1 => ?_)
  obtain ⟨rfl, rfl⟩ := hw1
  refine A_perm (ws' := (wX t qX qR qL qY qA im z1.2 ++ (wRd t qR qT qG bR ++ (wTx t qT bT ++ (wL t qG bG ++ (wL t qL bL ++ (wS t qA bA ++ (wY t qY qN fa bY ++ (wS t qN bN ++ (tail)))))))))) ((cut0 _).symm) ?_
  refine A_aload_n C 0 dX5_markAsLamb_17 rfl rfl ?_
  refine A_get (v := .ref (qY 99)) C 0 2 inG5 (ci := 5) rfl (by decide) fl_5_26 rfl rfl rfl dX5_markAsLamb_18 ?_
  refine A_get (v := .ref (qN 99)) C 24 0 inG3 (ci := 3) rfl (by decide) fl_5_104 rfl rfl rfl dX5_markAsLamb_21 ?_
  refine A_get (v := .int (gI bN 5)) C 26 5 inG2 (ci := 2) rfl (by decide) fl_5_174 rfl rfl rfl dX5_markAsLamb_24 ?_
  refine A_iadd C dX5_markAsLamb_27 ?_
  have h0 := Option.some.inj h0
  subst h0
  exact A_iret C dX5_markAsLamb_28 ⟨rfl, rfl⟩
def f_5_type_42 (bT : BV) (y0 : Int32) : Option (Int32 × BV) :=
  some (y0, bT)
theorem t_5_type_42 (C : CX p s m args meth c cX5_type 2 (some .int) RX5 D t) (qX : Nat → Nat) (qR : Nat → Nat) (qT : Nat → Nat) (qG : Nat → Nat) (qL : Nat → Nat) (qA : Nat → Nat) (qY : Nat → Nat) (qN : Nat → Nat) (im : Nat → Option Nat) (fa : Nat → Option Nat) (tail : va_W) (bX : BV) (bR : BV) (bG : BV) (bL : BV) (bA : BV) (bY : BV) (bN : BV) (r : Int32 × BV) (bT : BV) (y0 : Int32) (h0 : f_5_type_42 bT y0 = some r) : At p l e (rmD 1) s m args below meth c D 2 w0 (QI below args s D w0 (fun x w => r.1 = x ∧ (wX t qX qR qL qY qA im bX ++ (wRd t qR qT qG bR ++ (wTx t qT r.2 ++ (wL t qG bG ++ (wL t qL bL ++ (wS t qA bA ++ (wY t qY qN fa bY ++ (wS t qN bN ++ (tail))))))))) = w) 0 0) 0 0 42 [] [.int y0] (wX t qX qR qL qY qA im bX ++ (wRd t qR qT qG bR ++ (wTx t qT bT ++ (wL t qG bG ++ (wL t qL bL ++ (wS t qA bA ++ (wY t qY qN fa bY ++ (wS t qN bN ++ (tail))))))))) := by
  unfold f_5_type_42 at h0
  have h0 := Option.some.inj h0
  subst h0
  exact A_iret C dX5_type_42 ⟨rfl, rfl⟩
def f_5_type (bT : BV) (x1 : Int32) : Option (Int32 × BV) :=
  (f_5_isWithin x1 (0 : Int32) (255 : Int32)).bind (fun z1 => if z1 = 0 then (some ((-1 : Int32), bT)) else ((f_4_take bT x1).bind (fun z2 => if z2.1 = 0 then (f_5_type_42 z2.2 (-3 : Int32)) else (f_5_type_42 z2.2 (gI z2.2 1)))))
theorem c_5_type (l : Launch) (D : va_G) (t : ty4) (qX : Nat → Nat) (qR : Nat → Nat) (qT : Nat → Nat) (qG : Nat → Nat) (qL : Nat → Nat) (qA : Nat → Nat) (qY : Nat → Nat) (qN : Nat → Nat) (im : Nat → Option Nat) (fa : Nat → Option Nat) (tail : va_W) (bX : BV) (bR : BV) (bT : BV) (bG : BV) (bL : BV) (bA : BV) (bY : BV) (bN : BV) (x1 : Int32) {r : Int32 × BV} (h0 : f_5_type bT x1 = some r) : MetI l yX5_type cX5_type 2 (some .int) (rmD 1) D t [.ref (qX 99), .int x1] (wX t qX qR qL qY qA im bX ++ (wRd t qR qT qG bR ++ (wTx t qT bT ++ (wL t qG bG ++ (wL t qL bL ++ (wS t qA bA ++ (wY t qY qN fa bY ++ (wS t qN bN ++ (tail))))))))) (fun x w => r.1 = x ∧ (wX t qX qR qL qY qA im bX ++ (wRd t qR qT qG bR ++ (wTx t qT r.2 ++ (wL t qG bG ++ (wL t qL bL ++ (wS t qA bA ++ (wY t qY qN fa bY ++ (wS t qN bN ++ (tail))))))))) = w) := by
  refine MetI_of (by decide +kernel) (Nat.le_of_ble_eq_true rfl) (fun p e s m below meth c C _ => ?_)
  unfold f_5_type at h0
  generalize hargs : (List.toArray [.ref (qX 99), .int x1] : Array Value) = args at C ⊢
  refine At.start (lv2 := [(0, .ref (qX 99)), (1, .int x1)]) rfl ?_
  refine A_iload_n C 1 dX5_type_0 rfl rfl ?_
  refine A_iconst C (0 : Int32) dX5_type_1 (by decide) ?_
  refine A_sipush C (255 : Int32) dX5_type_2 (by decide) ?_
  obtain ⟨z1, hz1, h0⟩ := bind_some h0
  refine A_sI (As := [.int x1, .int (0 : Int32), .int (255 : Int32)]) (rest := []) C (c_5_isWithin l D t x1 (0 : Int32) (255 : Int32) hz1) mw_5_isWithin ml_5_60 st_5_isWithin (rmok rfl rfl) (cutN (wX t qX qR qL qY qA im bX ++ (wRd t qR qT qG bR ++ (wTx t qT bT ++ (wL t qG bG ++ (wL t qL bL ++ (wS t qA bA ++ (wY t qY qN fa bY ++ (wS t qN bN ++ (tail)))))))))) rfl rfl (Nat.le_of_ble_eq_true rfl) dX5_type_5 (fun x w1 hw1 => ?_)
  obtain ⟨rfl, rfl⟩ := hw1
  refine A_perm (ws' := (wX t qX qR qL qY qA im bX ++ (wRd t qR qT qG bR ++ (wTx t qT bT ++ (wL t qG bG ++ (wL t qL bL ++ (wS t qA bA ++ (wY t qY qN fa bY ++ (wS t qN bN ++ (tail)))))))))) ((cutN _).symm) ?_
  refine A_if_ne C 13 dX5_type_8 (by decide) h0 (fun h0 => ?_) (fun h0 => ?_)
  · refine A_aload_n C 0 dX5_type_13 rfl rfl ?_
    refine A_get (v := .ref (qR 99)) C 0 0 inG5 (ci := 5) rfl (by decide) fl_5_12 rfl rfl rfl dX5_type_14 ?_
    refine A_get (v := .ref (qT 99)) C 5 0 inG1 (ci := 1) rfl (by decide) fl_5_64 rfl rfl rfl dX5_type_17 ?_
    refine A_iload_n C 1 dX5_type_20 rfl rfl ?_
    obtain ⟨z2, hz2, h0⟩ := bind_some h0
    refine A_vI (As := [.int x1]) (rest := []) C 0 (c_4_take l D t qT bT x1 hz2) mw_4_take ml_5_68 im_4_take sl_4_take (rmok rfl rfl) (cutA (wX t qX qR qL qY qA im bX ++ (wRd t qR qT qG bR)) (wTx t qT bT) (wL t qG bG ++ (wL t qL bL ++ (wS t qA bA ++ (wY t qY qN fa bY ++ (wS t qN bN ++ (tail))))))) rfl (ci := 4) rfl rfl rfl (Nat.le_of_ble_eq_true rfl) dX5_type_21 (fun x w1 hw1 => ?_)
    obtain ⟨rfl, rfl⟩ := hw1
    refine A_perm (ws' := (wX t qX qR qL qY qA im bX ++ (wRd t qR qT qG bR ++ (wTx t qT z2.2 ++ (wL t qG bG ++ (wL t qL bL ++ (wS t qA bA ++ (wY t qY qN fa bY ++ (wS t qN bN ++ (tail)))))))))) ((cutA (wX t qX qR qL qY qA im bX ++ (wRd t qR qT qG bR)) (wTx t qT z2.2) (wL t qG bG ++ (wL t qL bL ++ (wS t qA bA ++ (wY t qY qN fa bY ++ (wS t qN bN ++ (tail))))))).symm) ?_
    refine A_if_eq C 40 dX5_type_24 (by decide) h0 (fun h0 => ?_) (fun h0 => ?_)
    · refine A_bipush C (-3 : Int32) dX5_type_40 (by decide) ?_
      exact A_loc [] rfl (t_5_type_42 C qX qR qT qG qL qA qY qN im fa tail bX bR bG bL bA bY bN r z2.2 (-3 : Int32) h0)
    · refine A_aload_n C 0 dX5_type_27 rfl rfl ?_
      refine A_get (v := .ref (qR 99)) C 0 0 inG5 (ci := 5) rfl (by decide) fl_5_12 rfl rfl rfl dX5_type_28 ?_
      refine A_get (v := .ref (qT 99)) C 5 0 inG1 (ci := 1) rfl (by decide) fl_5_64 rfl rfl rfl dX5_type_31 ?_
      refine A_get (v := .int (gI z2.2 1)) C 6 1 inG4 (ci := 4) rfl (by decide) fl_5_74 rfl rfl rfl dX5_type_34 ?_
      refine A_goto C 42 dX5_type_37 (by decide) ?_
      exact A_loc [] rfl (t_5_type_42 C qX qR qT qG qL qA qY qN im fa tail bX bR bG bL bA bY bN r z2.2 (gI z2.2 1) h0)
  · refine A_iconst C (-1 : Int32) dX5_type_11 (by decide) ?_
    have h0 := Option.some.inj h0
    subst h0
    exact A_iret C dX5_type_12 ⟨rfl, rfl⟩
def f_5_loan_16 (bN : BV) : Option (Int32) :=
  some (-1 : Int32)
theorem t_5_loan_16 (C : CX p s m args meth c cX5_loan 4 (some .int) RX5 D t) (qX : Nat → Nat) (qR : Nat → Nat) (qT : Nat → Nat) (qG : Nat → Nat) (qL : Nat → Nat) (qA : Nat → Nat) (qY : Nat → Nat) (qN : Nat → Nat) (im : Nat → Option Nat) (fa : Nat → Option Nat) (tail : va_W) (bX : BV) (bR : BV) (bT : BV) (bG : BV) (bL : BV) (bA : BV) (bY : BV) (bN : BV) (r : Int32) (h0 : f_5_loan_16 bN = some r) : At p l e (rmD 2) s m args below meth c D 4 w0 (QI below args s D w0 (fun x w => r = x ∧ (wX t qX qR qL qY qA im bX ++ (wRd t qR qT qG bR ++ (wTx t qT bT ++ (wL t qG bG ++ (wL t qL bL ++ (wS t qA bA ++ (wY t qY qN fa bY ++ (wS t qN bN ++ (tail))))))))) = w) 0 0) 0 0 16 [] [] (wX t qX qR qL qY qA im bX ++ (wRd t qR qT qG bR ++ (wTx t qT bT ++ (wL t qG bG ++ (wL t qL bL ++ (wS t qA bA ++ (wY t qY qN fa bY ++ (wS t qN bN ++ (tail))))))))) := by
  unfold f_5_loan_16 at h0
  refine A_iconst C (-1 : Int32) dX5_loan_16 (by decide) ?_
  have h0 := Option.some.inj h0
  subst h0
  exact A_iret C dX5_loan_17 ⟨rfl, rfl⟩
def f_5_loan (bN : BV) (x1 : Int32) (x2 : Int32) : Option (Int32) :=
  (f_5_isLoan x1).bind (fun z1 => if z1 = 0 then (f_5_loan_16 bN) else ((f_5_isWithin x2 (0 : Int32) (2 : Int32)).bind (fun z2 => if z2 = 0 then (f_5_loan_16 bN) else ((f_2_isFree bN x1).bind (fun z3 => if z3 = 0 then (if x2 = (0 : Int32) then (ck (inb x1 4) (some (gA bN 0 x1))) else (if x2 = (1 : Int32) then (ck (inb x1 4) (some (gA bN 1 x1))) else (ck (inb x1 4) (some (gA bN 2 x1))))) else (some (-9 : Int32)))))))
theorem c_5_loan (l : Launch) (D : va_G) (t : ty4) (qX : Nat → Nat) (qR : Nat → Nat) (qT : Nat → Nat) (qG : Nat → Nat) (qL : Nat → Nat) (qA : Nat → Nat) (qY : Nat → Nat) (qN : Nat → Nat) (im : Nat → Option Nat) (fa : Nat → Option Nat) (tail : va_W) (bX : BV) (bR : BV) (bT : BV) (bG : BV) (bL : BV) (bA : BV) (bY : BV) (bN : BV) (x1 : Int32) (x2 : Int32) {r : Int32} (h0 : f_5_loan bN x1 x2 = some r) : MetI l yX5_loan cX5_loan 4 (some .int) (rmD 2) D t [.ref (qX 99), .int x1, .int x2] (wX t qX qR qL qY qA im bX ++ (wRd t qR qT qG bR ++ (wTx t qT bT ++ (wL t qG bG ++ (wL t qL bL ++ (wS t qA bA ++ (wY t qY qN fa bY ++ (wS t qN bN ++ (tail))))))))) (fun x w => r = x ∧ (wX t qX qR qL qY qA im bX ++ (wRd t qR qT qG bR ++ (wTx t qT bT ++ (wL t qG bG ++ (wL t qL bL ++ (wS t qA bA ++ (wY t qY qN fa bY ++ (wS t qN bN ++ (tail))))))))) = w) := by
  refine MetI_of (by decide +kernel) (Nat.le_of_ble_eq_true rfl) (fun p e s m below meth c C _ => ?_)
  unfold f_5_loan at h0
  generalize hargs : (List.toArray [.ref (qX 99), .int x1, .int x2] : Array Value) = args at C ⊢
  refine At.start (lv2 := [(0, .ref (qX 99)), (1, .int x1), (2, .int x2)]) rfl ?_
  refine A_iload_n C 1 dX5_loan_0 rfl rfl ?_
  obtain ⟨z1, hz1, h0⟩ := bind_some h0
  refine A_sI (As := [.int x1]) (rest := []) C (c_5_isLoan l D t x1 hz1) mw_5_isLoan ml_5_132 st_5_isLoan (rmok rfl rfl) (cutN (wX t qX qR qL qY qA im bX ++ (wRd t qR qT qG bR ++ (wTx t qT bT ++ (wL t qG bG ++ (wL t qL bL ++ (wS t qA bA ++ (wY t qY qN fa bY ++ (wS t qN bN ++ (tail)))))))))) rfl rfl (Nat.le_of_ble_eq_true rfl) dX5_loan_1 (fun x w1 hw1 => ?_)
  obtain ⟨rfl, rfl⟩ := hw1
  refine A_perm (ws' := (wX t qX qR qL qY qA im bX ++ (wRd t qR qT qG bR ++ (wTx t qT bT ++ (wL t qG bG ++ (wL t qL bL ++ (wS t qA bA ++ (wY t qY qN fa bY ++ (wS t qN bN ++ (tail)))))))))) ((cutN _).symm) ?_
  refine A_if_eq C 16 dX5_loan_4 (by decide) h0 (fun h0 => ?_) (fun h0 => ?_)
  · exact A_loc [] rfl (t_5_loan_16 C qX qR qT qG qL qA qY qN im fa tail bX bR bT bG bL bA bY bN r h0)
  · refine A_iload_n C 2 dX5_loan_7 rfl rfl ?_
    refine A_iconst C (0 : Int32) dX5_loan_8 (by decide) ?_
    refine A_iconst C (2 : Int32) dX5_loan_9 (by decide) ?_
    obtain ⟨z2, hz2, h0⟩ := bind_some h0
    refine A_sI (As := [.int x2, .int (0 : Int32), .int (2 : Int32)]) (rest := []) C (c_5_isWithin l D t x2 (0 : Int32) (2 : Int32) hz2) mw_5_isWithin ml_5_60 st_5_isWithin (rmok rfl rfl) (cutN (wX t qX qR qL qY qA im bX ++ (wRd t qR qT qG bR ++ (wTx t qT bT ++ (wL t qG bG ++ (wL t qL bL ++ (wS t qA bA ++ (wY t qY qN fa bY ++ (wS t qN bN ++ (tail)))))))))) rfl rfl (Nat.le_of_ble_eq_true rfl) dX5_loan_10 (fun x w1 hw1 => ?_)
    obtain ⟨rfl, rfl⟩ := hw1
    refine A_perm (ws' := (wX t qX qR qL qY qA im bX ++ (wRd t qR qT qG bR ++ (wTx t qT bT ++ (wL t qG bG ++ (wL t qL bL ++ (wS t qA bA ++ (wY t qY qN fa bY ++ (wS t qN bN ++ (tail)))))))))) ((cutN _).symm) ?_
    refine A_if_ne C 18 dX5_loan_13 (by decide) h0 (fun h0 => ?_) (fun h0 => ?_)
    · refine A_aload_n C 0 dX5_loan_18 rfl rfl ?_
      refine A_get (v := .ref (qY 99)) C 0 2 inG5 (ci := 5) rfl (by decide) fl_5_26 rfl rfl rfl dX5_loan_19 ?_
      refine A_get (v := .ref (qN 99)) C 24 0 inG3 (ci := 3) rfl (by decide) fl_5_104 rfl rfl rfl dX5_loan_22 ?_
      refine A_astore_n C [(3, .ref (qN 99)), (0, .ref (qX 99)), (1, .int x1), (2, .int x2)] dX5_loan_25 rfl (by decide) rfl ?_
      refine A_aload_n C 0 dX5_loan_26 rfl rfl ?_
      refine A_iload_n C 2 dX5_loan_27 rfl rfl ?_
      obtain ⟨z3, hz3, h0⟩ := bind_some h0
      refine A_vI (As := [.int x1]) (rest := []) C 0 (c_2_isFree l D t qN bN x1 hz3) mw_2_isFree ml_5_135 im_2_isFree sl_2_isFree (rmok rfl rfl) (cutA (wX t qX qR qL qY qA im bX ++ (wRd t qR qT qG bR ++ (wTx t qT bT ++ (wL t qG bG ++ (wL t qL bL ++ (wS t qA bA ++ (wY t qY qN fa bY))))))) (wS t qN bN) (tail)) rfl (ci := 2) rfl rfl rfl (Nat.le_of_ble_eq_true rfl) dX5_loan_28 (fun x w1 hw1 => ?_)
      obtain ⟨rfl, rfl⟩ := hw1
      refine A_perm (ws' := (wX t qX qR qL qY qA im bX ++ (wRd t qR qT qG bR ++ (wTx t qT bT ++ (wL t qG bG ++ (wL t qL bL ++ (wS t qA bA ++ (wY t qY qN fa bY ++ (wS t qN bN ++ (tail)))))))))) ((cutA (wX t qX qR qL qY qA im bX ++ (wRd t qR qT qG bR ++ (wTx t qT bT ++ (wL t qG bG ++ (wL t qL bL ++ (wS t qA bA ++ (wY t qY qN fa bY))))))) (wS t qN bN) (tail)).symm) ?_
      refine A_if_eq C 37 dX5_loan_31 (by decide) h0 (fun h0 => ?_) (fun h0 => ?_)
      · refine A_iload_n C 3 dX5_loan_37 rfl rfl ?_
        refine sw_split h0 (fun hx h0 => ?_) (fun hn0 h0 => ?_)
        · refine A_look (off := 26) C 64 dX5_loan_38 (by decide) (by first | (rw [hx]; done) | (rw [hx]; rfl)) (by decide) ?_
          refine A_aload_n C 0 dX5_loan_64 rfl rfl ?_
          refine A_get (v := .ref (qN 0)) C 26 0 inG2 (ci := 2) rfl (by decide) fl_5_138 rfl rfl rfl dX5_loan_65 ?_
          refine A_iload_n C 2 dX5_loan_68 rfl rfl ?_
          refine A_iald C 27 (gA bN 0 x1) rfl rfl dX5_loan_69 h0 (fun h0 => ?_)
          have h0 := Option.some.inj h0
          subst h0
          exact A_iret C dX5_loan_70 ⟨rfl, rfl⟩
        ·
          refine sw_split h0 (fun hx h0 => ?_) (fun hn1 h0 => ?_)
          · refine A_look (off := 33) C 71 dX5_loan_38 (by decide) (by first | (rw [hx]; done) | (rw [hx]; rfl)) (by decide) ?_
            refine A_aload_n C 0 dX5_loan_71 rfl rfl ?_
            refine A_get (v := .ref (qN 1)) C 26 1 inG2 (ci := 2) rfl (by decide) fl_5_141 rfl rfl rfl dX5_loan_72 ?_
            refine A_iload_n C 2 dX5_loan_75 rfl rfl ?_
            refine A_iald C 28 (gA bN 1 x1) rfl rfl dX5_loan_76 h0 (fun h0 => ?_)
            have h0 := Option.some.inj h0
            subst h0
            exact A_iret C dX5_loan_77 ⟨rfl, rfl⟩
          ·
            refine A_look (off := 40) C 78 dX5_loan_38 (by decide) (by show Op.lookupswitch.offset [(0, 26), (1, 33)] _ _ = _; first | (rw [lv_osw hn0 (a := 0) (by decide), lv_osw hn1 (a := 1) (by decide)]; done) | (rw [lv_osw hn0 (a := 0) (by decide), lv_osw hn1 (a := 1) (by decide)]; rfl)) (by decide) ?_
            refine A_aload_n C 0 dX5_loan_78 rfl rfl ?_
            refine A_get (v := .ref (qN 2)) C 26 2 inG2 (ci := 2) rfl (by decide) fl_5_144 rfl rfl rfl dX5_loan_79 ?_
            refine A_iload_n C 2 dX5_loan_82 rfl rfl ?_
            refine A_iald C 29 (gA bN 2 x1) rfl rfl dX5_loan_83 h0 (fun h0 => ?_)
            have h0 := Option.some.inj h0
            subst h0
            exact A_iret C dX5_loan_84 ⟨rfl, rfl⟩
      · refine A_bipush C (-9 : Int32) dX5_loan_34 (by decide) ?_
        have h0 := Option.some.inj h0
        subst h0
        exact A_iret C dX5_loan_36 ⟨rfl, rfl⟩
    · exact A_loc [] rfl (t_5_loan_16 C qX qR qT qG qL qA qY qN im fa tail bX bR bT bG bL bA bY bN r h0)
def f_5_lends_18 (bL : BV) : Option (Int32) :=
  some (-1 : Int32)
theorem t_5_lends_18 (C : CX p s m args meth c cX5_lends 3 (some .int) RX5 D t) (qX : Nat → Nat) (qR : Nat → Nat) (qT : Nat → Nat) (qG : Nat → Nat) (qL : Nat → Nat) (qA : Nat → Nat) (qY : Nat → Nat) (qN : Nat → Nat) (im : Nat → Option Nat) (fa : Nat → Option Nat) (tail : va_W) (bX : BV) (bR : BV) (bT : BV) (bG : BV) (bL : BV) (bA : BV) (bY : BV) (bN : BV) (r : Int32) (h0 : f_5_lends_18 bL = some r) : At p l e (rmD 2) s m args below meth c D 3 w0 (QI below args s D w0 (fun x w => r = x ∧ (wX t qX qR qL qY qA im bX ++ (wRd t qR qT qG bR ++ (wTx t qT bT ++ (wL t qG bG ++ (wL t qL bL ++ (wS t qA bA ++ (wY t qY qN fa bY ++ (wS t qN bN ++ (tail))))))))) = w) 0 0) 0 0 18 [] [] (wX t qX qR qL qY qA im bX ++ (wRd t qR qT qG bR ++ (wTx t qT bT ++ (wL t qG bG ++ (wL t qL bL ++ (wS t qA bA ++ (wY t qY qN fa bY ++ (wS t qN bN ++ (tail))))))))) := by
  unfold f_5_lends_18 at h0
  refine A_iconst C (-1 : Int32) dX5_lends_18 (by decide) ?_
  have h0 := Option.some.inj h0
  subst h0
  exact A_iret C dX5_lends_19 ⟨rfl, rfl⟩
def f_5_lends (bL : BV) (x1 : Int32) (x2 : Int32) : Option (Int32) :=
  (f_5_isDay bL x1).bind (fun z1 => if z1 = 0 then (f_5_lends_18 bL) else ((f_5_isWithin x2 (1 : Int32) (9 : Int32)).bind (fun z2 => if z2 = 0 then (f_5_lends_18 bL) else ((f_0_lentFor bL x1 x2).bind (fun z3 => some z3)))))
theorem c_5_lends (l : Launch) (D : va_G) (t : ty4) (qX : Nat → Nat) (qR : Nat → Nat) (qT : Nat → Nat) (qG : Nat → Nat) (qL : Nat → Nat) (qA : Nat → Nat) (qY : Nat → Nat) (qN : Nat → Nat) (im : Nat → Option Nat) (fa : Nat → Option Nat) (tail : va_W) (bX : BV) (bR : BV) (bT : BV) (bG : BV) (bL : BV) (bA : BV) (bY : BV) (bN : BV) (x1 : Int32) (x2 : Int32) {r : Int32} (h0 : f_5_lends bL x1 x2 = some r) : MetI l yX5_lends cX5_lends 3 (some .int) (rmD 2) D t [.ref (qX 99), .int x1, .int x2] (wX t qX qR qL qY qA im bX ++ (wRd t qR qT qG bR ++ (wTx t qT bT ++ (wL t qG bG ++ (wL t qL bL ++ (wS t qA bA ++ (wY t qY qN fa bY ++ (wS t qN bN ++ (tail))))))))) (fun x w => r = x ∧ (wX t qX qR qL qY qA im bX ++ (wRd t qR qT qG bR ++ (wTx t qT bT ++ (wL t qG bG ++ (wL t qL bL ++ (wS t qA bA ++ (wY t qY qN fa bY ++ (wS t qN bN ++ (tail))))))))) = w) := by
  refine MetI_of (by decide +kernel) (Nat.le_of_ble_eq_true rfl) (fun p e s m below meth c C _ => ?_)
  unfold f_5_lends at h0
  generalize hargs : (List.toArray [.ref (qX 99), .int x1, .int x2] : Array Value) = args at C ⊢
  refine At.start (lv2 := [(0, .ref (qX 99)), (1, .int x1), (2, .int x2)]) rfl ?_
  refine A_aload_n C 0 dX5_lends_0 rfl rfl ?_
  refine A_iload_n C 1 dX5_lends_1 rfl rfl ?_
  obtain ⟨z1, hz1, h0⟩ := bind_some h0
  refine A_vI (As := [.int x1]) (rest := []) C 0 (c_5_isDay l D t qX qR qT qG qL qA qY qN im fa tail bX bR bT bG bL bA bY bN x1 hz1) mw_5_isDay ml_5_91 im_5_isDay sl_5_isDay (rmok rfl rfl) (cut0 (wX t qX qR qL qY qA im bX ++ (wRd t qR qT qG bR ++ (wTx t qT bT ++ (wL t qG bG ++ (wL t qL bL ++ (wS t qA bA ++ (wY t qY qN fa bY ++ (wS t qN bN ++ (tail)))))))))) rfl (ci := 5) rfl rfl rfl (Nat.le_of_ble_eq_true rfl) dX5_lends_2 (fun x w1 hw1 => ?_)
  obtain ⟨rfl, rfl⟩ := hw1
  refine A_perm (ws' := (wX t qX qR qL qY qA im bX ++ (wRd t qR qT qG bR ++ (wTx t qT bT ++ (wL t qG bG ++ (wL t qL bL ++ (wS t qA bA ++ (wY t qY qN fa bY ++ (wS t qN bN ++ (tail)))))))))) ((cut0 _).symm) ?_
  refine A_if_eq C 18 dX5_lends_5 (by decide) h0 (fun h0 => ?_) (fun h0 => ?_)
  · exact A_loc [] rfl (t_5_lends_18 C qX qR qT qG qL qA qY qN im fa tail bX bR bT bG bL bA bY bN r h0)
  · refine A_iload_n C 2 dX5_lends_8 rfl rfl ?_
    refine A_iconst C (1 : Int32) dX5_lends_9 (by decide) ?_
    refine A_bipush C (9 : Int32) dX5_lends_10 (by decide) ?_
    obtain ⟨z2, hz2, h0⟩ := bind_some h0
    refine A_sI (As := [.int x2, .int (1 : Int32), .int (9 : Int32)]) (rest := []) C (c_5_isWithin l D t x2 (1 : Int32) (9 : Int32) hz2) mw_5_isWithin ml_5_60 st_5_isWithin (rmok rfl rfl) (cutN (wX t qX qR qL qY qA im bX ++ (wRd t qR qT qG bR ++ (wTx t qT bT ++ (wL t qG bG ++ (wL t qL bL ++ (wS t qA bA ++ (wY t qY qN fa bY ++ (wS t qN bN ++ (tail)))))))))) rfl rfl (Nat.le_of_ble_eq_true rfl) dX5_lends_12 (fun x w1 hw1 => ?_)
    obtain ⟨rfl, rfl⟩ := hw1
    refine A_perm (ws' := (wX t qX qR qL qY qA im bX ++ (wRd t qR qT qG bR ++ (wTx t qT bT ++ (wL t qG bG ++ (wL t qL bL ++ (wS t qA bA ++ (wY t qY qN fa bY ++ (wS t qN bN ++ (tail)))))))))) ((cutN _).symm) ?_
    refine A_if_ne C 20 dX5_lends_15 (by decide) h0 (fun h0 => ?_) (fun h0 => ?_)
    · refine A_aload_n C 0 dX5_lends_20 rfl rfl ?_
      refine A_get (v := .ref (qL 99)) C 0 1 inG5 (ci := 5) rfl (by decide) fl_5_19 rfl rfl rfl dX5_lends_21 ?_
      refine A_iload_n C 1 dX5_lends_24 rfl rfl ?_
      refine A_iload_n C 2 dX5_lends_25 rfl rfl ?_
      obtain ⟨z3, hz3, h0⟩ := bind_some h0
      refine A_vI (As := [.int x1, .int x2]) (rest := []) C 0 (c_0_lentFor l D t qL bL x1 x2 hz3) mw_0_lentFor ml_5_157 im_0_lentFor sl_0_lentFor (rmok rfl rfl) (cutA (wX t qX qR qL qY qA im bX ++ (wRd t qR qT qG bR ++ (wTx t qT bT ++ (wL t qG bG)))) (wL t qL bL) (wS t qA bA ++ (wY t qY qN fa bY ++ (wS t qN bN ++ (tail))))) rfl (ci := 0) rfl rfl rfl (Nat.le_of_ble_eq_true rfl) dX5_lends_26 (fun x w1 hw1 => ?_)
      obtain ⟨rfl, rfl⟩ := hw1
      refine A_perm (ws' := (wX t qX qR qL qY qA im bX ++ (wRd t qR qT qG bR ++ (wTx t qT bT ++ (wL t qG bG ++ (wL t qL bL ++ (wS t qA bA ++ (wY t qY qN fa bY ++ (wS t qN bN ++ (tail)))))))))) ((cutA (wX t qX qR qL qY qA im bX ++ (wRd t qR qT qG bR ++ (wTx t qT bT ++ (wL t qG bG)))) (wL t qL bL) (wS t qA bA ++ (wY t qY qN fa bY ++ (wS t qN bN ++ (tail))))).symm) ?_
      have h0 := Option.some.inj h0
      subst h0
      exact A_iret C dX5_lends_29 ⟨rfl, rfl⟩
    · exact A_loc [] rfl (t_5_lends_18 C qX qR qT qG qL qA qY qN im fa tail bX bR bT bG bL bA bY bN r h0)
def f_5_tells_17 (bL : BV) (bX : BV) : Option (Int32 × BV) :=
  some ((-1 : Int32), bX)
theorem t_5_tells_17 (C : CX p s m args meth c cX5_tells 3 (some .int) RX5 D t) (qX : Nat → Nat) (qR : Nat → Nat) (qT : Nat → Nat) (qG : Nat → Nat) (qL : Nat → Nat) (qA : Nat → Nat) (qY : Nat → Nat) (qN : Nat → Nat) (im : Nat → Option Nat) (fa : Nat → Option Nat) (tail : va_W) (bR : BV) (bT : BV) (bG : BV) (bL : BV) (bA : BV) (bY : BV) (bN : BV) (r : Int32 × BV) (bX : BV) (h0 : f_5_tells_17 bL bX = some r) : At p l e (rmD 2) s m args below meth c D 3 w0 (QI below args s D w0 (fun x w => r.1 = x ∧ (wX t qX qR qL qY qA im r.2 ++ (wRd t qR qT qG bR ++ (wTx t qT bT ++ (wL t qG bG ++ (wL t qL bL ++ (wS t qA bA ++ (wY t qY qN fa bY ++ (wS t qN bN ++ (tail))))))))) = w) 0 0) 0 0 17 [] [] (wX t qX qR qL qY qA im bX ++ (wRd t qR qT qG bR ++ (wTx t qT bT ++ (wL t qG bG ++ (wL t qL bL ++ (wS t qA bA ++ (wY t qY qN fa bY ++ (wS t qN bN ++ (tail))))))))) := by
  unfold f_5_tells_17 at h0
  refine A_iconst C (-1 : Int32) dX5_tells_17 (by decide) ?_
  have h0 := Option.some.inj h0
  subst h0
  exact A_iret C dX5_tells_18 ⟨rfl, rfl⟩
def f_5_tells (bX : BV) (bL : BV) (x1 : Int32) (x2 : Int32) : Option (Int32 × BV) :=
  (f_5_isCrop bL x1).bind (fun z1 => if z1 = 0 then (f_5_tells_17 bL bX) else ((f_5_isWithin x2 (0 : Int32) (1 : Int32)).bind (fun z2 => if z2 = 0 then (f_5_tells_17 bL bX) else (if (gI bX 8) < (6 : Int32) then (ck (inb (gI bX 8) 6) (bs (pA bX 6 (gI bX 8) x1) (fun b3 => ck (inb (gI b3 8) 6) (bs (pA b3 7 (gI b3 8) x2) (fun b4 => some (((gI b4 8) + (1 : Int32)), (pI b4 8 ((gI b4 8) + (1 : Int32))))))))) else (some ((-3 : Int32), bX))))))
theorem c_5_tells (l : Launch) (D : va_G) (t : ty4) (qX : Nat → Nat) (qR : Nat → Nat) (qT : Nat → Nat) (qG : Nat → Nat) (qL : Nat → Nat) (qA : Nat → Nat) (qY : Nat → Nat) (qN : Nat → Nat) (im : Nat → Option Nat) (fa : Nat → Option Nat) (tail : va_W) (bX : BV) (bR : BV) (bT : BV) (bG : BV) (bL : BV) (bA : BV) (bY : BV) (bN : BV) (x1 : Int32) (x2 : Int32) {r : Int32 × BV} (h0 : f_5_tells bX bL x1 x2 = some r) : MetI l yX5_tells cX5_tells 3 (some .int) (rmD 2) D t [.ref (qX 99), .int x1, .int x2] (wX t qX qR qL qY qA im bX ++ (wRd t qR qT qG bR ++ (wTx t qT bT ++ (wL t qG bG ++ (wL t qL bL ++ (wS t qA bA ++ (wY t qY qN fa bY ++ (wS t qN bN ++ (tail))))))))) (fun x w => r.1 = x ∧ (wX t qX qR qL qY qA im r.2 ++ (wRd t qR qT qG bR ++ (wTx t qT bT ++ (wL t qG bG ++ (wL t qL bL ++ (wS t qA bA ++ (wY t qY qN fa bY ++ (wS t qN bN ++ (tail))))))))) = w) := by
  refine MetI_of (by decide +kernel) (Nat.le_of_ble_eq_true rfl) (fun p e s m below meth c C _ => ?_)
  unfold f_5_tells at h0
  generalize hargs : (List.toArray [.ref (qX 99), .int x1, .int x2] : Array Value) = args at C ⊢
  refine At.start (lv2 := [(0, .ref (qX 99)), (1, .int x1), (2, .int x2)]) rfl ?_
  refine A_aload_n C 0 dX5_tells_0 rfl rfl ?_
  refine A_iload_n C 1 dX5_tells_1 rfl rfl ?_
  obtain ⟨z1, hz1, h0⟩ := bind_some h0
  refine A_vI (As := [.int x1]) (rest := []) C 0 (c_5_isCrop l D t qX qR qT qG qL qA qY qN im fa tail bX bR bT bG bL bA bY bN x1 hz1) mw_5_isCrop ml_5_110 im_5_isCrop sl_5_isCrop (rmok rfl rfl) (cut0 (wX t qX qR qL qY qA im bX ++ (wRd t qR qT qG bR ++ (wTx t qT bT ++ (wL t qG bG ++ (wL t qL bL ++ (wS t qA bA ++ (wY t qY qN fa bY ++ (wS t qN bN ++ (tail)))))))))) rfl (ci := 5) rfl rfl rfl (Nat.le_of_ble_eq_true rfl) dX5_tells_2 (fun x w1 hw1 => ?_)
  obtain ⟨rfl, rfl⟩ := hw1
  refine A_perm (ws' := (wX t qX qR qL qY qA im bX ++ (wRd t qR qT qG bR ++ (wTx t qT bT ++ (wL t qG bG ++ (wL t qL bL ++ (wS t qA bA ++ (wY t qY qN fa bY ++ (wS t qN bN ++ (tail)))))))))) ((cut0 _).symm) ?_
  refine A_if_eq C 17 dX5_tells_5 (by decide) h0 (fun h0 => ?_) (fun h0 => ?_)
  · exact A_loc [] rfl (t_5_tells_17 C qX qR qT qG qL qA qY qN im fa tail bR bT bG bL bA bY bN r bX h0)
  · refine A_iload_n C 2 dX5_tells_8 rfl rfl ?_
    refine A_iconst C (0 : Int32) dX5_tells_9 (by decide) ?_
    refine A_iconst C (1 : Int32) dX5_tells_10 (by decide) ?_
    obtain ⟨z2, hz2, h0⟩ := bind_some h0
    refine A_sI (As := [.int x2, .int (0 : Int32), .int (1 : Int32)]) (rest := []) C (c_5_isWithin l D t x2 (0 : Int32) (1 : Int32) hz2) mw_5_isWithin ml_5_60 st_5_isWithin (rmok rfl rfl) (cutN (wX t qX qR qL qY qA im bX ++ (wRd t qR qT qG bR ++ (wTx t qT bT ++ (wL t qG bG ++ (wL t qL bL ++ (wS t qA bA ++ (wY t qY qN fa bY ++ (wS t qN bN ++ (tail)))))))))) rfl rfl (Nat.le_of_ble_eq_true rfl) dX5_tells_11 (fun x w1 hw1 => ?_)
    obtain ⟨rfl, rfl⟩ := hw1
    refine A_perm (ws' := (wX t qX qR qL qY qA im bX ++ (wRd t qR qT qG bR ++ (wTx t qT bT ++ (wL t qG bG ++ (wL t qL bL ++ (wS t qA bA ++ (wY t qY qN fa bY ++ (wS t qN bN ++ (tail)))))))))) ((cutN _).symm) ?_
    refine A_if_ne C 19 dX5_tells_14 (by decide) h0 (fun h0 => ?_) (fun h0 => ?_)
    · refine A_aload_n C 0 dX5_tells_19 rfl rfl ?_
      refine A_get (v := .int (gI bX 8)) C 0 8 inG5 (ci := 5) rfl (by decide) fl_5_52 rfl rfl rfl dX5_tells_20 ?_
      refine A_bipush C (6 : Int32) dX5_tells_23 (by decide) ?_
      refine A_icmp_lt C 31 dX5_tells_25 (by decide) h0 (fun h0 => ?_) (fun h0 => ?_)
      · refine A_aload_n C 0 dX5_tells_31 rfl rfl ?_
        refine A_get (v := .ref (qX 6)) C 0 6 inG5 (ci := 5) rfl (by decide) fl_5_45 rfl rfl rfl dX5_tells_32 ?_
        refine A_aload_n C 0 dX5_tells_35 rfl rfl ?_
        refine A_get (v := .int (gI bX 8)) C 0 8 inG5 (ci := 5) rfl (by decide) fl_5_52 rfl rfl rfl dX5_tells_36 ?_
        refine A_iload_n C 1 dX5_tells_39 rfl rfl ?_
        refine A_iast C 3 (wX t qX qR qL qY qA im (pA bX 6 (gI bX 8) x1) ++ (wRd t qR qT qG bR ++ (wTx t qT bT ++ (wL t qG bG ++ (wL t qL bL ++ (wS t qA bA ++ (wY t qY qN fa bY ++ (wS t qN bN ++ (tail))))))))) rfl rfl dX5_tells_40 h0 (fun h0 => ?_)
        obtain ⟨b3, hb3, h0⟩ := bs_some h0
        refine A_weq (wX t qX qR qL qY qA im b3 ++ (wRd t qR qT qG bR ++ (wTx t qT bT ++ (wL t qG bG ++ (wL t qL bL ++ (wS t qA bA ++ (wY t qY qN fa bY ++ (wS t qN bN ++ (tail))))))))) (by rw [hb3]) ?_
        refine A_aload_n C 0 dX5_tells_41 rfl rfl ?_
        refine A_get (v := .ref (qX 7)) C 0 7 inG5 (ci := 5) rfl (by decide) fl_5_49 rfl rfl rfl dX5_tells_42 ?_
        refine A_aload_n C 0 dX5_tells_45 rfl rfl ?_
        refine A_get (v := .int (gI b3 8)) C 0 8 inG5 (ci := 5) rfl (by decide) fl_5_52 rfl rfl rfl dX5_tells_46 ?_
        refine A_iload_n C 2 dX5_tells_49 rfl rfl ?_
        refine A_iast C 4 (wX t qX qR qL qY qA im (pA b3 7 (gI b3 8) x2) ++ (wRd t qR qT qG bR ++ (wTx t qT bT ++ (wL t qG bG ++ (wL t qL bL ++ (wS t qA bA ++ (wY t qY qN fa bY ++ (wS t qN bN ++ (tail))))))))) rfl rfl dX5_tells_50 h0 (fun h0 => ?_)
        obtain ⟨b4, hb4, h0⟩ := bs_some h0
        refine A_weq (wX t qX qR qL qY qA im b4 ++ (wRd t qR qT qG bR ++ (wTx t qT bT ++ (wL t qG bG ++ (wL t qL bL ++ (wS t qA bA ++ (wY t qY qN fa bY ++ (wS t qN bN ++ (tail))))))))) (by rw [hb4]) ?_
        refine A_aload_n C 0 dX5_tells_51 rfl rfl ?_
        refine A_dup C dX5_tells_52 rfl ?_
        refine A_get (v := .int (gI b4 8)) C 0 8 inG5 (ci := 5) rfl (by decide) fl_5_52 rfl rfl rfl dX5_tells_53 ?_
        refine A_iconst C (1 : Int32) dX5_tells_56 (by decide) ?_
        refine A_iadd C dX5_tells_57 ?_
        refine A_put C 0 8 (wX t qX qR qL qY qA im (pI b4 8 ((gI b4 8) + (1 : Int32))) ++ (wRd t qR qT qG bR ++ (wTx t qT bT ++ (wL t qG bG ++ (wL t qL bL ++ (wS t qA bA ++ (wY t qY qN fa bY ++ (wS t qN bN ++ (tail))))))))) tyX5 inG5 tyX5_ok nmX5 (ci := 5) rfl (by decide) fl_5_52 rfl rfl rfl rfl rfl (Nat.le_of_ble_eq_true rfl) rfl dX5_tells_58 ?_
        refine A_aload_n C 0 dX5_tells_61 rfl rfl ?_
        refine A_get (v := .int ((gI b4 8) + (1 : Int32))) C 0 8 inG5 (ci := 5) rfl (by decide) fl_5_52 rfl rfl rfl dX5_tells_62 ?_
        have h0 := Option.some.inj h0
        subst h0
        exact A_iret C dX5_tells_65 ⟨rfl, rfl⟩
      · refine A_bipush C (-3 : Int32) dX5_tells_28 (by decide) ?_
        have h0 := Option.some.inj h0
        subst h0
        exact A_iret C dX5_tells_30 ⟨rfl, rfl⟩
    · exact A_loc [] rfl (t_5_tells_17 C qX qR qT qG qL qA qY qN im fa tail bR bT bG bL bA bY bN r bX h0)
def f_5_howDayIs_40 (bN : BV) (y0 : Int32) : Option (Int32) :=
  some y0
theorem t_5_howDayIs_40 (C : CX p s m args meth c cX5_howDayIs 2 (some .int) RX5 D t) (qX : Nat → Nat) (qR : Nat → Nat) (qT : Nat → Nat) (qG : Nat → Nat) (qL : Nat → Nat) (qA : Nat → Nat) (qY : Nat → Nat) (qN : Nat → Nat) (im : Nat → Option Nat) (fa : Nat → Option Nat) (tail : va_W) (bX : BV) (bR : BV) (bT : BV) (bG : BV) (bL : BV) (bA : BV) (bY : BV) (bN : BV) (r : Int32) (y0 : Int32) (h0 : f_5_howDayIs_40 bN y0 = some r) : At p l e (rmD 2) s m args below meth c D 2 w0 (QI below args s D w0 (fun x w => r = x ∧ (wX t qX qR qL qY qA im bX ++ (wRd t qR qT qG bR ++ (wTx t qT bT ++ (wL t qG bG ++ (wL t qL bL ++ (wS t qA bA ++ (wY t qY qN fa bY ++ (wS t qN bN ++ (tail))))))))) = w) 0 0) 0 0 40 [] [.int y0] (wX t qX qR qL qY qA im bX ++ (wRd t qR qT qG bR ++ (wTx t qT bT ++ (wL t qG bG ++ (wL t qL bL ++ (wS t qA bA ++ (wY t qY qN fa bY ++ (wS t qN bN ++ (tail))))))))) := by
  unfold f_5_howDayIs_40 at h0
  have h0 := Option.some.inj h0
  subst h0
  exact A_iret C dX5_howDayIs_40 ⟨rfl, rfl⟩
def f_5_howDayIs (bN : BV) (x1 : Int32) : Option (Int32) :=
  (f_5_has (gI bN 3) x1).bind (fun z1 => if z1 = 0 then ((f_2_loanOf bN x1).bind (fun z2 => if z2 = (-9 : Int32) then (f_5_howDayIs_40 bN (0 : Int32)) else (f_5_howDayIs_40 bN (1 : Int32)))) else (some (2 : Int32)))
theorem c_5_howDayIs (l : Launch) (D : va_G) (t : ty4) (qX : Nat → Nat) (qR : Nat → Nat) (qT : Nat → Nat) (qG : Nat → Nat) (qL : Nat → Nat) (qA : Nat → Nat) (qY : Nat → Nat) (qN : Nat → Nat) (im : Nat → Option Nat) (fa : Nat → Option Nat) (tail : va_W) (bX : BV) (bR : BV) (bT : BV) (bG : BV) (bL : BV) (bA : BV) (bY : BV) (bN : BV) (x1 : Int32) {r : Int32} (h0 : f_5_howDayIs bN x1 = some r) : MetI l yX5_howDayIs cX5_howDayIs 2 (some .int) (rmD 2) D t [.ref (qX 99), .int x1] (wX t qX qR qL qY qA im bX ++ (wRd t qR qT qG bR ++ (wTx t qT bT ++ (wL t qG bG ++ (wL t qL bL ++ (wS t qA bA ++ (wY t qY qN fa bY ++ (wS t qN bN ++ (tail))))))))) (fun x w => r = x ∧ (wX t qX qR qL qY qA im bX ++ (wRd t qR qT qG bR ++ (wTx t qT bT ++ (wL t qG bG ++ (wL t qL bL ++ (wS t qA bA ++ (wY t qY qN fa bY ++ (wS t qN bN ++ (tail))))))))) = w) := by
  refine MetI_of (by decide +kernel) (Nat.le_of_ble_eq_true rfl) (fun p e s m below meth c C _ => ?_)
  unfold f_5_howDayIs at h0
  generalize hargs : (List.toArray [.ref (qX 99), .int x1] : Array Value) = args at C ⊢
  refine At.start (lv2 := [(0, .ref (qX 99)), (1, .int x1)]) rfl ?_
  refine A_aload_n C 0 dX5_howDayIs_0 rfl rfl ?_
  refine A_get (v := .ref (qY 99)) C 0 2 inG5 (ci := 5) rfl (by decide) fl_5_26 rfl rfl rfl dX5_howDayIs_1 ?_
  refine A_get (v := .ref (qN 99)) C 24 0 inG3 (ci := 3) rfl (by decide) fl_5_104 rfl rfl rfl dX5_howDayIs_4 ?_
  refine A_get (v := .int (gI bN 3)) C 26 3 inG2 (ci := 2) rfl (by decide) fl_5_191 rfl rfl rfl dX5_howDayIs_7 ?_
  refine A_iload_n C 1 dX5_howDayIs_10 rfl rfl ?_
  obtain ⟨z1, hz1, h0⟩ := bind_some h0
  refine A_sI (As := [.int (gI bN 3), .int x1]) (rest := []) C (c_5_has l D t (gI bN 3) x1 hz1) mw_5_has ml_5_277 st_5_has (rmok rfl rfl) (cutN (wX t qX qR qL qY qA im bX ++ (wRd t qR qT qG bR ++ (wTx t qT bT ++ (wL t qG bG ++ (wL t qL bL ++ (wS t qA bA ++ (wY t qY qN fa bY ++ (wS t qN bN ++ (tail)))))))))) rfl rfl (Nat.le_of_ble_eq_true rfl) dX5_howDayIs_11 (fun x w1 hw1 => ?_)
  obtain ⟨rfl, rfl⟩ := hw1
  refine A_perm (ws' := (wX t qX qR qL qY qA im bX ++ (wRd t qR qT qG bR ++ (wTx t qT bT ++ (wL t qG bG ++ (wL t qL bL ++ (wS t qA bA ++ (wY t qY qN fa bY ++ (wS t qN bN ++ (tail)))))))))) ((cutN _).symm) ?_
  refine A_if_eq C 19 dX5_howDayIs_14 (by decide) h0 (fun h0 => ?_) (fun h0 => ?_)
  · refine A_aload_n C 0 dX5_howDayIs_19 rfl rfl ?_
    refine A_get (v := .ref (qY 99)) C 0 2 inG5 (ci := 5) rfl (by decide) fl_5_26 rfl rfl rfl dX5_howDayIs_20 ?_
    refine A_get (v := .ref (qN 99)) C 24 0 inG3 (ci := 3) rfl (by decide) fl_5_104 rfl rfl rfl dX5_howDayIs_23 ?_
    refine A_iload_n C 1 dX5_howDayIs_26 rfl rfl ?_
    obtain ⟨z2, hz2, h0⟩ := bind_some h0
    refine A_vI (As := [.int x1]) (rest := []) C 0 (c_2_loanOf l D t qN bN x1 hz2) mw_2_loanOf ml_5_107 im_2_loanOf sl_2_loanOf (rmok rfl rfl) (cutA (wX t qX qR qL qY qA im bX ++ (wRd t qR qT qG bR ++ (wTx t qT bT ++ (wL t qG bG ++ (wL t qL bL ++ (wS t qA bA ++ (wY t qY qN fa bY))))))) (wS t qN bN) (tail)) rfl (ci := 2) rfl rfl rfl (Nat.le_of_ble_eq_true rfl) dX5_howDayIs_27 (fun x w1 hw1 => ?_)
    obtain ⟨rfl, rfl⟩ := hw1
    refine A_perm (ws' := (wX t qX qR qL qY qA im bX ++ (wRd t qR qT qG bR ++ (wTx t qT bT ++ (wL t qG bG ++ (wL t qL bL ++ (wS t qA bA ++ (wY t qY qN fa bY ++ (wS t qN bN ++ (tail)))))))))) ((cutA (wX t qX qR qL qY qA im bX ++ (wRd t qR qT qG bR ++ (wTx t qT bT ++ (wL t qG bG ++ (wL t qL bL ++ (wS t qA bA ++ (wY t qY qN fa bY))))))) (wS t qN bN) (tail)).symm) ?_
    refine A_bipush C (-9 : Int32) dX5_howDayIs_30 (by decide) ?_
    refine A_icmp_ne C 39 dX5_howDayIs_32 (by decide) h0 (fun h0 => ?_) (fun h0 => ?_)
    · refine A_iconst C (1 : Int32) dX5_howDayIs_39 (by decide) ?_
      exact A_loc [] rfl (t_5_howDayIs_40 C qX qR qT qG qL qA qY qN im fa tail bX bR bT bG bL bA bY bN r (1 : Int32) h0)
    · refine A_iconst C (0 : Int32) dX5_howDayIs_35 (by decide) ?_
      refine A_goto C 40 dX5_howDayIs_36 (by decide) ?_
      exact A_loc [] rfl (t_5_howDayIs_40 C qX qR qT qG qL qA qY qN im fa tail bX bR bT bG bL bA bY bN r (0 : Int32) h0)
  · refine A_iconst C (2 : Int32) dX5_howDayIs_17 (by decide) ?_
    have h0 := Option.some.inj h0
    subst h0
    exact A_iret C dX5_howDayIs_18 ⟨rfl, rfl⟩
def f_5_agreesWithTold_51 (bX : BV) (bL : BV) (k2 : Int32 → Int32 → Option (Int32)) (x1 : Int32) (x2 : Int32) (y0 : Int32) (y1 : Int32) : Option (Int32) :=
  if y1 = y0 then (k2 x1 (x2 + (1 : Int32))) else (some (0 : Int32))
theorem t_5_agreesWithTold_51 (C : CX p s m args meth c cX5_agreesWithTold 4 (some .boolean) RX5 D t) (qX : Nat → Nat) (qR : Nat → Nat) (qT : Nat → Nat) (qG : Nat → Nat) (qL : Nat → Nat) (qA : Nat → Nat) (qY : Nat → Nat) (qN : Nat → Nat) (im : Nat → Option Nat) (fa : Nat → Option Nat) (tail : va_W) (bX : BV) (bR : BV) (bT : BV) (bG : BV) (bL : BV) (bA : BV) (bY : BV) (bN : BV) (r : Int32) (k2 : Int32 → Int32 → Option (Int32)) (K2 : ∀ (x1 : Int32) (x2 : Int32), k2 x1 x2 = some r → At p l e (rmD 2) s m args below meth c D 4 w0 (QI below args s D w0 (fun x w => r = x ∧ (wX t qX qR qL qY qA im bX ++ (wRd t qR qT qG bR ++ (wTx t qT bT ++ (wL t qG bG ++ (wL t qL bL ++ (wS t qA bA ++ (wY t qY qN fa bY ++ (wS t qN bN ++ (tail))))))))) = w) 0 0) 0 0 2 [(0, .ref (qX 99)), (1, .int x1), (2, .int x2)] [] (wX t qX qR qL qY qA im bX ++ (wRd t qR qT qG bR ++ (wTx t qT bT ++ (wL t qG bG ++ (wL t qL bL ++ (wS t qA bA ++ (wY t qY qN fa bY ++ (wS t qN bN ++ (tail)))))))))) (x1 : Int32) (x2 : Int32) (y0 : Int32) (y1 : Int32) (h0 : f_5_agreesWithTold_51 bX bL k2 x1 x2 y0 y1 = some r) : At p l e (rmD 2) s m args below meth c D 4 w0 (QI below args s D w0 (fun x w => r = x ∧ (wX t qX qR qL qY qA im bX ++ (wRd t qR qT qG bR ++ (wTx t qT bT ++ (wL t qG bG ++ (wL t qL bL ++ (wS t qA bA ++ (wY t qY qN fa bY ++ (wS t qN bN ++ (tail))))))))) = w) 0 0) 0 0 51 [(0, .ref (qX 99)), (1, .int x1), (2, .int x2)] [.int y0, .int y1] (wX t qX qR qL qY qA im bX ++ (wRd t qR qT qG bR ++ (wTx t qT bT ++ (wL t qG bG ++ (wL t qL bL ++ (wS t qA bA ++ (wY t qY qN fa bY ++ (wS t qN bN ++ (tail))))))))) := by
  unfold f_5_agreesWithTold_51 at h0
  refine A_icmp_eq C 56 dX5_agreesWithTold_51 (by decide) h0 (fun h0 => ?_) (fun h0 => ?_)
  · refine A_iinc C 2 (x2 + (1 : Int32)) [(2, .int (x2 + (1 : Int32))), (0, .ref (qX 99)), (1, .int x1)] dX5_agreesWithTold_56 rfl rfl (by decide) rfl ?_
    refine A_goto C 2 dX5_agreesWithTold_59 (by decide) ?_
    exact A_loc [1, 2, 0] rfl (K2 x1 (x2 + (1 : Int32)) h0)
  · refine A_iconst C (0 : Int32) dX5_agreesWithTold_54 (by decide) ?_
    have h0 := Option.some.inj h0
    subst h0
    exact A_zret C dX5_agreesWithTold_55 rfl ⟨rfl, rfl⟩
def f_5_agreesWithTold_34 (bX : BV) (bL : BV) (k2 : Int32 → Int32 → Option (Int32)) (x1 : Int32) (x2 : Int32) (y0 : Int32) : Option (Int32) :=
  ck (inb x2 6) (if (gA bX 7 x2) = (1 : Int32) then (f_5_agreesWithTold_51 bX bL k2 x1 x2 (1 : Int32) y0) else (f_5_agreesWithTold_51 bX bL k2 x1 x2 (0 : Int32) y0))
theorem t_5_agreesWithTold_34 (C : CX p s m args meth c cX5_agreesWithTold 4 (some .boolean) RX5 D t) (qX : Nat → Nat) (qR : Nat → Nat) (qT : Nat → Nat) (qG : Nat → Nat) (qL : Nat → Nat) (qA : Nat → Nat) (qY : Nat → Nat) (qN : Nat → Nat) (im : Nat → Option Nat) (fa : Nat → Option Nat) (tail : va_W) (bX : BV) (bR : BV) (bT : BV) (bG : BV) (bL : BV) (bA : BV) (bY : BV) (bN : BV) (r : Int32) (k2 : Int32 → Int32 → Option (Int32)) (K2 : ∀ (x1 : Int32) (x2 : Int32), k2 x1 x2 = some r → At p l e (rmD 2) s m args below meth c D 4 w0 (QI below args s D w0 (fun x w => r = x ∧ (wX t qX qR qL qY qA im bX ++ (wRd t qR qT qG bR ++ (wTx t qT bT ++ (wL t qG bG ++ (wL t qL bL ++ (wS t qA bA ++ (wY t qY qN fa bY ++ (wS t qN bN ++ (tail))))))))) = w) 0 0) 0 0 2 [(0, .ref (qX 99)), (1, .int x1), (2, .int x2)] [] (wX t qX qR qL qY qA im bX ++ (wRd t qR qT qG bR ++ (wTx t qT bT ++ (wL t qG bG ++ (wL t qL bL ++ (wS t qA bA ++ (wY t qY qN fa bY ++ (wS t qN bN ++ (tail)))))))))) (x1 : Int32) (x2 : Int32) (y0 : Int32) (h0 : f_5_agreesWithTold_34 bX bL k2 x1 x2 y0 = some r) : At p l e (rmD 2) s m args below meth c D 4 w0 (QI below args s D w0 (fun x w => r = x ∧ (wX t qX qR qL qY qA im bX ++ (wRd t qR qT qG bR ++ (wTx t qT bT ++ (wL t qG bG ++ (wL t qL bL ++ (wS t qA bA ++ (wY t qY qN fa bY ++ (wS t qN bN ++ (tail))))))))) = w) 0 0) 0 0 34 [(0, .ref (qX 99)), (1, .int x1), (2, .int x2)] [.int y0] (wX t qX qR qL qY qA im bX ++ (wRd t qR qT qG bR ++ (wTx t qT bT ++ (wL t qG bG ++ (wL t qL bL ++ (wS t qA bA ++ (wY t qY qN fa bY ++ (wS t qN bN ++ (tail))))))))) := by
  unfold f_5_agreesWithTold_34 at h0
  refine A_istore_n C [(3, .int y0), (0, .ref (qX 99)), (1, .int x1), (2, .int x2)] dX5_agreesWithTold_34 rfl (by decide) rfl ?_
  refine A_iload_n C 0 dX5_agreesWithTold_35 rfl rfl ?_
  refine A_aload_n C 1 dX5_agreesWithTold_36 rfl rfl ?_
  refine A_get (v := .ref (qX 7)) C 0 7 inG5 (ci := 5) rfl (by decide) fl_5_49 rfl rfl rfl dX5_agreesWithTold_37 ?_
  refine A_iload_n C 3 dX5_agreesWithTold_40 rfl rfl ?_
  refine A_iald C 4 (gA bX 7 x2) rfl rfl dX5_agreesWithTold_41 h0 (fun h0 => ?_)
  refine A_iconst C (1 : Int32) dX5_agreesWithTold_42 (by decide) ?_
  refine A_icmp_ne C 50 dX5_agreesWithTold_43 (by decide) h0 (fun h0 => ?_) (fun h0 => ?_)
  · refine A_iconst C (0 : Int32) dX5_agreesWithTold_50 (by decide) ?_
    exact A_loc [1, 2, 3] rfl (t_5_agreesWithTold_51 C qX qR qT qG qL qA qY qN im fa tail bX bR bT bG bL bA bY bN r k2 K2 x1 x2 (0 : Int32) y0 h0)
  · refine A_iconst C (1 : Int32) dX5_agreesWithTold_46 (by decide) ?_
    refine A_goto C 51 dX5_agreesWithTold_47 (by decide) ?_
    exact A_loc [1, 2, 3] rfl (t_5_agreesWithTold_51 C qX qR qT qG qL qA qY qN im fa tail bX bR bT bG bL bA bY bN r k2 K2 x1 x2 (1 : Int32) y0 h0)
def f_5_agreesWithTold_2_b (bX : BV) (bL : BV) (k2 : Int32 → Int32 → Option (Int32)) (x1 : Int32) (x2 : Int32) : Option (Int32) :=
  if (gI bX 8) ≤ x2 then (some (1 : Int32)) else (ck (inb x2 6) ((f_0_ripensOn bL (gA bX 6 x2) x1).bind (fun z1 => if z1 = (-9 : Int32) then (f_5_agreesWithTold_34 bX bL k2 x1 x2 (0 : Int32)) else (f_5_agreesWithTold_34 bX bL k2 x1 x2 (1 : Int32)))))
theorem t_5_agreesWithTold_2_b (C : CX p s m args meth c cX5_agreesWithTold 4 (some .boolean) RX5 D t) (qX : Nat → Nat) (qR : Nat → Nat) (qT : Nat → Nat) (qG : Nat → Nat) (qL : Nat → Nat) (qA : Nat → Nat) (qY : Nat → Nat) (qN : Nat → Nat) (im : Nat → Option Nat) (fa : Nat → Option Nat) (tail : va_W) (bX : BV) (bR : BV) (bT : BV) (bG : BV) (bL : BV) (bA : BV) (bY : BV) (bN : BV) (r : Int32) (k2 : Int32 → Int32 → Option (Int32)) (K2 : ∀ (x1 : Int32) (x2 : Int32), k2 x1 x2 = some r → At p l e (rmD 2) s m args below meth c D 4 w0 (QI below args s D w0 (fun x w => r = x ∧ (wX t qX qR qL qY qA im bX ++ (wRd t qR qT qG bR ++ (wTx t qT bT ++ (wL t qG bG ++ (wL t qL bL ++ (wS t qA bA ++ (wY t qY qN fa bY ++ (wS t qN bN ++ (tail))))))))) = w) 0 0) 0 0 2 [(0, .ref (qX 99)), (1, .int x1), (2, .int x2)] [] (wX t qX qR qL qY qA im bX ++ (wRd t qR qT qG bR ++ (wTx t qT bT ++ (wL t qG bG ++ (wL t qL bL ++ (wS t qA bA ++ (wY t qY qN fa bY ++ (wS t qN bN ++ (tail)))))))))) (x1 : Int32) (x2 : Int32) (h0 : f_5_agreesWithTold_2_b bX bL k2 x1 x2 = some r) : At p l e (rmD 2) s m args below meth c D 4 w0 (QI below args s D w0 (fun x w => r = x ∧ (wX t qX qR qL qY qA im bX ++ (wRd t qR qT qG bR ++ (wTx t qT bT ++ (wL t qG bG ++ (wL t qL bL ++ (wS t qA bA ++ (wY t qY qN fa bY ++ (wS t qN bN ++ (tail))))))))) = w) 0 0) 0 0 2 [(0, .ref (qX 99)), (1, .int x1), (2, .int x2)] [] (wX t qX qR qL qY qA im bX ++ (wRd t qR qT qG bR ++ (wTx t qT bT ++ (wL t qG bG ++ (wL t qL bL ++ (wS t qA bA ++ (wY t qY qN fa bY ++ (wS t qN bN ++ (tail))))))))) := by
  unfold f_5_agreesWithTold_2_b at h0
  refine A_iload_n C 2 dX5_agreesWithTold_2 rfl rfl ?_
  refine A_aload_n C 0 dX5_agreesWithTold_3 rfl rfl ?_
  refine A_get (v := .int (gI bX 8)) C 0 8 inG5 (ci := 5) rfl (by decide) fl_5_52 rfl rfl rfl dX5_agreesWithTold_4 ?_
  refine A_icmp_ge C 62 dX5_agreesWithTold_7 (by decide) h0 (fun h0 => ?_) (fun h0 => ?_)
  · refine A_iconst C (1 : Int32) dX5_agreesWithTold_62 (by decide) ?_
    have h0 := Option.some.inj h0
    subst h0
    exact A_zret C dX5_agreesWithTold_63 rfl ⟨rfl, rfl⟩
  · refine A_aload_n C 0 dX5_agreesWithTold_10 rfl rfl ?_
    refine A_get (v := .ref (qL 99)) C 0 1 inG5 (ci := 5) rfl (by decide) fl_5_19 rfl rfl rfl dX5_agreesWithTold_11 ?_
    refine A_aload_n C 0 dX5_agreesWithTold_14 rfl rfl ?_
    refine A_get (v := .ref (qX 6)) C 0 6 inG5 (ci := 5) rfl (by decide) fl_5_45 rfl rfl rfl dX5_agreesWithTold_15 ?_
    refine A_iload_n C 2 dX5_agreesWithTold_18 rfl rfl ?_
    refine A_iald C 3 (gA bX 6 x2) rfl rfl dX5_agreesWithTold_19 h0 (fun h0 => ?_)
    refine A_iload_n C 1 dX5_agreesWithTold_20 rfl rfl ?_
    obtain ⟨z1, hz1, h0⟩ := bind_some h0
    refine A_vI (As := [.int (gA bX 6 x2), .int x1]) (rest := []) C 0 (c_0_ripensOn l D t qL bL (gA bX 6 x2) x1 hz1) mw_0_ripensOn ml_5_128 im_0_ripensOn sl_0_ripensOn (rmok rfl rfl) (cutA (wX t qX qR qL qY qA im bX ++ (wRd t qR qT qG bR ++ (wTx t qT bT ++ (wL t qG bG)))) (wL t qL bL) (wS t qA bA ++ (wY t qY qN fa bY ++ (wS t qN bN ++ (tail))))) rfl (ci := 0) rfl rfl rfl (Nat.le_of_ble_eq_true rfl) dX5_agreesWithTold_21 (fun x w1 hw1 => ?_)
    obtain ⟨rfl, rfl⟩ := hw1
    refine A_perm (ws' := (wX t qX qR qL qY qA im bX ++ (wRd t qR qT qG bR ++ (wTx t qT bT ++ (wL t qG bG ++ (wL t qL bL ++ (wS t qA bA ++ (wY t qY qN fa bY ++ (wS t qN bN ++ (tail)))))))))) ((cutA (wX t qX qR qL qY qA im bX ++ (wRd t qR qT qG bR ++ (wTx t qT bT ++ (wL t qG bG)))) (wL t qL bL) (wS t qA bA ++ (wY t qY qN fa bY ++ (wS t qN bN ++ (tail))))).symm) ?_
    refine A_bipush C (-9 : Int32) dX5_agreesWithTold_24 (by decide) ?_
    refine A_icmp_eq C 33 dX5_agreesWithTold_26 (by decide) h0 (fun h0 => ?_) (fun h0 => ?_)
    · refine A_iconst C (0 : Int32) dX5_agreesWithTold_33 (by decide) ?_
      exact A_loc [0, 1, 2] rfl (t_5_agreesWithTold_34 C qX qR qT qG qL qA qY qN im fa tail bX bR bT bG bL bA bY bN r k2 K2 x1 x2 (0 : Int32) h0)
    · refine A_iconst C (1 : Int32) dX5_agreesWithTold_29 (by decide) ?_
      refine A_goto C 34 dX5_agreesWithTold_30 (by decide) ?_
      exact A_loc [0, 1, 2] rfl (t_5_agreesWithTold_34 C qX qR qT qG qL qA qY qN im fa tail bX bR bT bG bL bA bY bN r k2 K2 x1 x2 (1 : Int32) h0)
def f_5_agreesWithTold_2 (bX : BV) (bL : BV) : Nat → Int32 → Int32 → Option (Int32)
  | 0 => fun _ _ => none
  | n + 1 => f_5_agreesWithTold_2_b bX bL (f_5_agreesWithTold_2 bX bL n)
theorem t_5_agreesWithTold_2 (C : CX p s m args meth c cX5_agreesWithTold 4 (some .boolean) RX5 D t) (qX : Nat → Nat) (qR : Nat → Nat) (qT : Nat → Nat) (qG : Nat → Nat) (qL : Nat → Nat) (qA : Nat → Nat) (qY : Nat → Nat) (qN : Nat → Nat) (im : Nat → Option Nat) (fa : Nat → Option Nat) (tail : va_W) (bX : BV) (bR : BV) (bT : BV) (bG : BV) (bL : BV) (bA : BV) (bY : BV) (bN : BV) (r : Int32) : ∀ (n : Nat), ∀ (x1 : Int32) (x2 : Int32), f_5_agreesWithTold_2 bX bL n x1 x2 = some r → At p l e (rmD 2) s m args below meth c D 4 w0 (QI below args s D w0 (fun x w => r = x ∧ (wX t qX qR qL qY qA im bX ++ (wRd t qR qT qG bR ++ (wTx t qT bT ++ (wL t qG bG ++ (wL t qL bL ++ (wS t qA bA ++ (wY t qY qN fa bY ++ (wS t qN bN ++ (tail))))))))) = w) 0 0) 0 0 2 [(0, .ref (qX 99)), (1, .int x1), (2, .int x2)] [] (wX t qX qR qL qY qA im bX ++ (wRd t qR qT qG bR ++ (wTx t qT bT ++ (wL t qG bG ++ (wL t qL bL ++ (wS t qA bA ++ (wY t qY qN fa bY ++ (wS t qN bN ++ (tail))))))))) := by
  intro n
  induction n with
  | zero =>
    intro x1 x2 h0
    have h0 : none = some r := h0
    cases h0
  | succ n ih =>
    intro x1 x2 h0
    exact t_5_agreesWithTold_2_b C qX qR qT qG qL qA qY qN im fa tail bX bR bT bG bL bA bY bN r _ ih x1 x2 h0
def f_5_agreesWithTold (bX : BV) (bL : BV) (x1 : Int32) : Option (Int32) :=
  f_5_agreesWithTold_2 bX bL 200 x1 (0 : Int32)
theorem c_5_agreesWithTold (l : Launch) (D : va_G) (t : ty4) (qX : Nat → Nat) (qR : Nat → Nat) (qT : Nat → Nat) (qG : Nat → Nat) (qL : Nat → Nat) (qA : Nat → Nat) (qY : Nat → Nat) (qN : Nat → Nat) (im : Nat → Option Nat) (fa : Nat → Option Nat) (tail : va_W) (bX : BV) (bR : BV) (bT : BV) (bG : BV) (bL : BV) (bA : BV) (bY : BV) (bN : BV) (x1 : Int32) {r : Int32} (h0 : f_5_agreesWithTold bX bL x1 = some r) : MetI l yX5_agreesWithTold cX5_agreesWithTold 4 (some .boolean) (rmD 2) D t [.ref (qX 99), .int x1] (wX t qX qR qL qY qA im bX ++ (wRd t qR qT qG bR ++ (wTx t qT bT ++ (wL t qG bG ++ (wL t qL bL ++ (wS t qA bA ++ (wY t qY qN fa bY ++ (wS t qN bN ++ (tail))))))))) (fun x w => r = x ∧ (wX t qX qR qL qY qA im bX ++ (wRd t qR qT qG bR ++ (wTx t qT bT ++ (wL t qG bG ++ (wL t qL bL ++ (wS t qA bA ++ (wY t qY qN fa bY ++ (wS t qN bN ++ (tail))))))))) = w) := by
  refine MetI_of (by decide +kernel) (Nat.le_of_ble_eq_true rfl) (fun p e s m below meth c C _ => ?_)
  unfold f_5_agreesWithTold at h0
  generalize hargs : (List.toArray [.ref (qX 99), .int x1] : Array Value) = args at C ⊢
  refine At.start (lv2 := [(0, .ref (qX 99)), (1, .int x1)]) rfl ?_
  refine A_iconst C (0 : Int32) dX5_agreesWithTold_0 (by decide) ?_
  refine A_istore_n C [(2, .int (0 : Int32)), (0, .ref (qX 99)), (1, .int x1)] dX5_agreesWithTold_1 rfl (by decide) rfl ?_
  exact A_loc [1, 2, 0] rfl (t_5_agreesWithTold_2 C qX qR qT qG qL qA qY qN im fa tail bX bR bT bG bL bA bY bN r 200 x1 (0 : Int32) h0)
def f_5_day (bL : BV) (bN : BV) (x1 : Int32) (x2 : Int32) : Option (Int32) :=
  (f_5_isDay bL x1).bind (fun z1 => if z1 = 0 then (some (-1 : Int32)) else (if x2 = (0 : Int32) then (ck (inb x1 30) (some (gA bL 2 x1))) else (if x2 = (1 : Int32) then (ck (inb x1 30) (some (gA bL 3 x1))) else (if x2 = (2 : Int32) then ((f_5_howDayIs bN x1).bind (fun z2 => some z2)) else (if x2 = (3 : Int32) then ((f_2_loanOf bN x1).bind (fun z3 => some z3)) else (some (-1 : Int32)))))))
theorem c_5_day (l : Launch) (D : va_G) (t : ty4) (qX : Nat → Nat) (qR : Nat → Nat) (qT : Nat → Nat) (qG : Nat → Nat) (qL : Nat → Nat) (qA : Nat → Nat) (qY : Nat → Nat) (qN : Nat → Nat) (im : Nat → Option Nat) (fa : Nat → Option Nat) (tail : va_W) (bX : BV) (bR : BV) (bT : BV) (bG : BV) (bL : BV) (bA : BV) (bY : BV) (bN : BV) (x1 : Int32) (x2 : Int32) {r : Int32} (h0 : f_5_day bL bN x1 x2 = some r) : MetI l yX5_day cX5_day 3 (some .int) (rmD 3) D t [.ref (qX 99), .int x1, .int x2] (wX t qX qR qL qY qA im bX ++ (wRd t qR qT qG bR ++ (wTx t qT bT ++ (wL t qG bG ++ (wL t qL bL ++ (wS t qA bA ++ (wY t qY qN fa bY ++ (wS t qN bN ++ (tail))))))))) (fun x w => r = x ∧ (wX t qX qR qL qY qA im bX ++ (wRd t qR qT qG bR ++ (wTx t qT bT ++ (wL t qG bG ++ (wL t qL bL ++ (wS t qA bA ++ (wY t qY qN fa bY ++ (wS t qN bN ++ (tail))))))))) = w) := by
  refine MetI_of (by decide +kernel) (Nat.le_of_ble_eq_true rfl) (fun p e s m below meth c C _ => ?_)
  unfold f_5_day at h0
  generalize hargs : (List.toArray [.ref (qX 99), .int x1, .int x2] : Array Value) = args at C ⊢
  refine At.start (lv2 := [(0, .ref (qX 99)), (1, .int x1), (2, .int x2)]) rfl ?_
  refine A_aload_n C 0 dX5_day_0 rfl rfl ?_
  refine A_iload_n C 1 dX5_day_1 rfl rfl ?_
  obtain ⟨z1, hz1, h0⟩ := bind_some h0
  refine A_vI (As := [.int x1]) (rest := []) C 0 (c_5_isDay l D t qX qR qT qG qL qA qY qN im fa tail bX bR bT bG bL bA bY bN x1 hz1) mw_5_isDay ml_5_91 im_5_isDay sl_5_isDay (rmok rfl rfl) (cut0 (wX t qX qR qL qY qA im bX ++ (wRd t qR qT qG bR ++ (wTx t qT bT ++ (wL t qG bG ++ (wL t qL bL ++ (wS t qA bA ++ (wY t qY qN fa bY ++ (wS t qN bN ++ (tail)))))))))) rfl (ci := 5) rfl rfl rfl (Nat.le_of_ble_eq_true rfl) dX5_day_2 (fun x w1 hw1 => ?_)
  obtain ⟨rfl, rfl⟩ := hw1
  refine A_perm (ws' := (wX t qX qR qL qY qA im bX ++ (wRd t qR qT qG bR ++ (wTx t qT bT ++ (wL t qG bG ++ (wL t qL bL ++ (wS t qA bA ++ (wY t qY qN fa bY ++ (wS t qN bN ++ (tail)))))))))) ((cut0 _).symm) ?_
  refine A_if_ne C 10 dX5_day_5 (by decide) h0 (fun h0 => ?_) (fun h0 => ?_)
  · refine A_iload_n C 2 dX5_day_10 rfl rfl ?_
    refine sw_split h0 (fun hx h0 => ?_) (fun hn0 h0 => ?_)
    · refine A_tabIn C 40 dX5_day_11 (by rw [hx]; decide) (by rw [hx]; decide) (by rw [hx]; rfl) (by decide) ?_
      refine A_aload_n C 0 dX5_day_40 rfl rfl ?_
      refine A_get (v := .ref (qL 99)) C 0 1 inG5 (ci := 5) rfl (by decide) fl_5_19 rfl rfl rfl dX5_day_41 ?_
      refine A_get (v := .ref (qL 2)) C 14 2 inG0 (ci := 0) rfl (by decide) fl_5_94 rfl rfl rfl dX5_day_44 ?_
      refine A_iload_n C 1 dX5_day_47 rfl rfl ?_
      refine A_iald C 15 (gA bL 2 x1) rfl rfl dX5_day_48 h0 (fun h0 => ?_)
      have h0 := Option.some.inj h0
      subst h0
      exact A_iret C dX5_day_49 ⟨rfl, rfl⟩
    ·
      refine sw_split h0 (fun hx h0 => ?_) (fun hn1 h0 => ?_)
      · refine A_tabIn C 50 dX5_day_11 (by rw [hx]; decide) (by rw [hx]; decide) (by rw [hx]; rfl) (by decide) ?_
        refine A_aload_n C 0 dX5_day_50 rfl rfl ?_
        refine A_get (v := .ref (qL 99)) C 0 1 inG5 (ci := 5) rfl (by decide) fl_5_19 rfl rfl rfl dX5_day_51 ?_
        refine A_get (v := .ref (qL 3)) C 14 3 inG0 (ci := 0) rfl (by decide) fl_5_97 rfl rfl rfl dX5_day_54 ?_
        refine A_iload_n C 1 dX5_day_57 rfl rfl ?_
        refine A_iald C 16 (gA bL 3 x1) rfl rfl dX5_day_58 h0 (fun h0 => ?_)
        have h0 := Option.some.inj h0
        subst h0
        exact A_iret C dX5_day_59 ⟨rfl, rfl⟩
      ·
        refine sw_split h0 (fun hx h0 => ?_) (fun hn2 h0 => ?_)
        · refine A_tabIn C 60 dX5_day_11 (by rw [hx]; decide) (by rw [hx]; decide) (by rw [hx]; rfl) (by decide) ?_
          refine A_aload_n C 0 dX5_day_60 rfl rfl ?_
          refine A_iload_n C 1 dX5_day_61 rfl rfl ?_
          obtain ⟨z2, hz2, h0⟩ := bind_some h0
          refine A_vI (As := [.int x1]) (rest := []) C 0 (c_5_howDayIs l D t qX qR qT qG qL qA qY qN im fa tail bX bR bT bG bL bA bY bN x1 hz2) mw_5_howDayIs ml_5_100 im_5_howDayIs sl_5_howDayIs (rmok rfl rfl) (cut0 (wX t qX qR qL qY qA im bX ++ (wRd t qR qT qG bR ++ (wTx t qT bT ++ (wL t qG bG ++ (wL t qL bL ++ (wS t qA bA ++ (wY t qY qN fa bY ++ (wS t qN bN ++ (tail)))))))))) rfl (ci := 5) rfl rfl rfl (Nat.le_of_ble_eq_true rfl) dX5_day_62 (fun x w1 hw1 => ?_)
          obtain ⟨rfl, rfl⟩ := hw1
          refine A_perm (ws' := (wX t qX qR qL qY qA im bX ++ (wRd t qR qT qG bR ++ (wTx t qT bT ++ (wL t qG bG ++ (wL t qL bL ++ (wS t qA bA ++ (wY t qY qN fa bY ++ (wS t qN bN ++ (tail)))))))))) ((cut0 _).symm) ?_
          have h0 := Option.some.inj h0
          subst h0
          exact A_iret C dX5_day_65 ⟨rfl, rfl⟩
        ·
          refine sw_split h0 (fun hx h0 => ?_) (fun hn3 h0 => ?_)
          · refine A_tabIn C 66 dX5_day_11 (by rw [hx]; decide) (by rw [hx]; decide) (by rw [hx]; rfl) (by decide) ?_
            refine A_aload_n C 0 dX5_day_66 rfl rfl ?_
            refine A_get (v := .ref (qY 99)) C 0 2 inG5 (ci := 5) rfl (by decide) fl_5_26 rfl rfl rfl dX5_day_67 ?_
            refine A_get (v := .ref (qN 99)) C 24 0 inG3 (ci := 3) rfl (by decide) fl_5_104 rfl rfl rfl dX5_day_70 ?_
            refine A_iload_n C 1 dX5_day_73 rfl rfl ?_
            obtain ⟨z3, hz3, h0⟩ := bind_some h0
            refine A_vI (As := [.int x1]) (rest := []) C 0 (c_2_loanOf l D t qN bN x1 hz3) mw_2_loanOf ml_5_107 im_2_loanOf sl_2_loanOf (rmok rfl rfl) (cutA (wX t qX qR qL qY qA im bX ++ (wRd t qR qT qG bR ++ (wTx t qT bT ++ (wL t qG bG ++ (wL t qL bL ++ (wS t qA bA ++ (wY t qY qN fa bY))))))) (wS t qN bN) (tail)) rfl (ci := 2) rfl rfl rfl (Nat.le_of_ble_eq_true rfl) dX5_day_74 (fun x w1 hw1 => ?_)
            obtain ⟨rfl, rfl⟩ := hw1
            refine A_perm (ws' := (wX t qX qR qL qY qA im bX ++ (wRd t qR qT qG bR ++ (wTx t qT bT ++ (wL t qG bG ++ (wL t qL bL ++ (wS t qA bA ++ (wY t qY qN fa bY ++ (wS t qN bN ++ (tail)))))))))) ((cutA (wX t qX qR qL qY qA im bX ++ (wRd t qR qT qG bR ++ (wTx t qT bT ++ (wL t qG bG ++ (wL t qL bL ++ (wS t qA bA ++ (wY t qY qN fa bY))))))) (wS t qN bN) (tail)).symm) ?_
            have h0 := Option.some.inj h0
            subst h0
            exact A_iret C dX5_day_77 ⟨rfl, rfl⟩
          ·
            have hn0 := lv_neT hn0 (k := (0 : Int32)) (a := 0) (by decide)
            have hn1 := lv_neT hn1 (k := (1 : Int32)) (a := 1) (by decide)
            have hn2 := lv_neT hn2 (k := (2 : Int32)) (a := 2) (by decide)
            have hn3 := lv_neT hn3 (k := (3 : Int32)) (a := 3) (by decide)
            refine A_tabOut C 78 dX5_day_11 (by omega) (by decide) ?_
            refine A_iconst C (-1 : Int32) dX5_day_78 (by decide) ?_
            have h0 := Option.some.inj h0
            subst h0
            exact A_iret C dX5_day_79 ⟨rfl, rfl⟩
  · refine A_iconst C (-1 : Int32) dX5_day_8 (by decide) ?_
    have h0 := Option.some.inj h0
    subst h0
    exact A_iret C dX5_day_9 ⟨rfl, rfl⟩
def f_5_fits_156 (bX : BV) (bL : BV) (y0 : Int32) : Option (Int32) :=
  some y0
theorem t_5_fits_156 (C : CX p s m args meth c cX5_fits 8 (some .int) RX5 D t) (qX : Nat → Nat) (qR : Nat → Nat) (qT : Nat → Nat) (qG : Nat → Nat) (qL : Nat → Nat) (qA : Nat → Nat) (qY : Nat → Nat) (qN : Nat → Nat) (im : Nat → Option Nat) (fa : Nat → Option Nat) (tail : va_W) (bX : BV) (bR : BV) (bT : BV) (bG : BV) (bL : BV) (bA : BV) (bY : BV) (bN : BV) (r : Int32) (y0 : Int32) (h0 : f_5_fits_156 bX bL y0 = some r) : At p l e (rmD 3) s m args below meth c D 8 w0 (QI below args s D w0 (fun x w => r = x ∧ (wX t qX qR qL qY qA im bX ++ (wRd t qR qT qG bR ++ (wTx t qT bT ++ (wL t qG bG ++ (wL t qL bL ++ (wS t qA bA ++ (wY t qY qN fa bY ++ (wS t qN bN ++ (tail))))))))) = w) 0 0) 0 0 156 [] [.int y0] (wX t qX qR qL qY qA im bX ++ (wRd t qR qT qG bR ++ (wTx t qT bT ++ (wL t qG bG ++ (wL t qL bL ++ (wS t qA bA ++ (wY t qY qN fa bY ++ (wS t qN bN ++ (tail))))))))) := by
  unfold f_5_fits_156 at h0
  have h0 := Option.some.inj h0
  subst h0
  exact A_iret C dX5_fits_156 ⟨rfl, rfl⟩
def f_5_fits_126 (bX : BV) (bL : BV) (k28 : Int32 → Int32 → Int32 → Int32 → Int32 → Option (Int32)) (x1 : Int32) (x2 : Int32) (x3 : Int32) (x4 : Int32) (x5 : Int32) : Option (Int32) :=
  k28 x1 x2 x3 x4 (x5 + (1 : Int32))
theorem t_5_fits_126 (C : CX p s m args meth c cX5_fits 8 (some .int) RX5 D t) (qX : Nat → Nat) (qR : Nat → Nat) (qT : Nat → Nat) (qG : Nat → Nat) (qL : Nat → Nat) (qA : Nat → Nat) (qY : Nat → Nat) (qN : Nat → Nat) (im : Nat → Option Nat) (fa : Nat → Option Nat) (tail : va_W) (bX : BV) (bR : BV) (bT : BV) (bG : BV) (bL : BV) (bA : BV) (bY : BV) (bN : BV) (r : Int32) (k28 : Int32 → Int32 → Int32 → Int32 → Int32 → Option (Int32)) (K28 : ∀ (x1 : Int32) (x2 : Int32) (x3 : Int32) (x4 : Int32) (x5 : Int32), k28 x1 x2 x3 x4 x5 = some r → At p l e (rmD 3) s m args below meth c D 8 w0 (QI below args s D w0 (fun x w => r = x ∧ (wX t qX qR qL qY qA im bX ++ (wRd t qR qT qG bR ++ (wTx t qT bT ++ (wL t qG bG ++ (wL t qL bL ++ (wS t qA bA ++ (wY t qY qN fa bY ++ (wS t qN bN ++ (tail))))))))) = w) 0 0) 0 0 28 [(0, .ref (qX 99)), (1, .int x1), (2, .int x2), (3, .int x3), (4, .int x4), (5, .int x5)] [] (wX t qX qR qL qY qA im bX ++ (wRd t qR qT qG bR ++ (wTx t qT bT ++ (wL t qG bG ++ (wL t qL bL ++ (wS t qA bA ++ (wY t qY qN fa bY ++ (wS t qN bN ++ (tail)))))))))) (x1 : Int32) (x2 : Int32) (x3 : Int32) (x4 : Int32) (x5 : Int32) (h0 : f_5_fits_126 bX bL k28 x1 x2 x3 x4 x5 = some r) : At p l e (rmD 3) s m args below meth c D 8 w0 (QI below args s D w0 (fun x w => r = x ∧ (wX t qX qR qL qY qA im bX ++ (wRd t qR qT qG bR ++ (wTx t qT bT ++ (wL t qG bG ++ (wL t qL bL ++ (wS t qA bA ++ (wY t qY qN fa bY ++ (wS t qN bN ++ (tail))))))))) = w) 0 0) 0 0 126 [(0, .ref (qX 99)), (1, .int x1), (2, .int x2), (3, .int x3), (4, .int x4), (5, .int x5)] [] (wX t qX qR qL qY qA im bX ++ (wRd t qR qT qG bR ++ (wTx t qT bT ++ (wL t qG bG ++ (wL t qL bL ++ (wS t qA bA ++ (wY t qY qN fa bY ++ (wS t qN bN ++ (tail))))))))) := by
  unfold f_5_fits_126 at h0
  refine A_iinc C 5 (x5 + (1 : Int32)) [(5, .int (x5 + (1 : Int32))), (0, .ref (qX 99)), (1, .int x1), (2, .int x2), (3, .int x3), (4, .int x4)] dX5_fits_126 rfl rfl (by decide) rfl ?_
  refine A_goto C 28 dX5_fits_129 (by decide) ?_
  exact A_loc [1, 2, 3, 4, 5, 0] rfl (K28 x1 x2 x3 x4 (x5 + (1 : Int32)) h0)
def f_5_fits_120 (bX : BV) (bL : BV) (k28 : Int32 → Int32 → Int32 → Int32 → Int32 → Option (Int32)) (k43 : Int32 → Int32 → Int32 → Int32 → Int32 → Int32 → Option (Int32)) (x1 : Int32) (x2 : Int32) (x3 : Int32) (x4 : Int32) (x5 : Int32) (x6 : Int32) : Option (Int32) :=
  k43 x1 x2 x3 x4 x5 (x6 + (1 : Int32))
theorem t_5_fits_120 (C : CX p s m args meth c cX5_fits 8 (some .int) RX5 D t) (qX : Nat → Nat) (qR : Nat → Nat) (qT : Nat → Nat) (qG : Nat → Nat) (qL : Nat → Nat) (qA : Nat → Nat) (qY : Nat → Nat) (qN : Nat → Nat) (im : Nat → Option Nat) (fa : Nat → Option Nat) (tail : va_W) (bX : BV) (bR : BV) (bT : BV) (bG : BV) (bL : BV) (bA : BV) (bY : BV) (bN : BV) (r : Int32) (k28 : Int32 → Int32 → Int32 → Int32 → Int32 → Option (Int32)) (K28 : ∀ (x1 : Int32) (x2 : Int32) (x3 : Int32) (x4 : Int32) (x5 : Int32), k28 x1 x2 x3 x4 x5 = some r → At p l e (rmD 3) s m args below meth c D 8 w0 (QI below args s D w0 (fun x w => r = x ∧ (wX t qX qR qL qY qA im bX ++ (wRd t qR qT qG bR ++ (wTx t qT bT ++ (wL t qG bG ++ (wL t qL bL ++ (wS t qA bA ++ (wY t qY qN fa bY ++ (wS t qN bN ++ (tail))))))))) = w) 0 0) 0 0 28 [(0, .ref (qX 99)), (1, .int x1), (2, .int x2), (3, .int x3), (4, .int x4), (5, .int x5)] [] (wX t qX qR qL qY qA im bX ++ (wRd t qR qT qG bR ++ (wTx t qT bT ++ (wL t qG bG ++ (wL t qL bL ++ (wS t qA bA ++ (wY t qY qN fa bY ++ (wS t qN bN ++ (tail)))))))))) (k43 : Int32 → Int32 → Int32 → Int32 → Int32 → Int32 → Option (Int32)) (K43 : ∀ (x1 : Int32) (x2 : Int32) (x3 : Int32) (x4 : Int32) (x5 : Int32) (x6 : Int32), k43 x1 x2 x3 x4 x5 x6 = some r → At p l e (rmD 3) s m args below meth c D 8 w0 (QI below args s D w0 (fun x w => r = x ∧ (wX t qX qR qL qY qA im bX ++ (wRd t qR qT qG bR ++ (wTx t qT bT ++ (wL t qG bG ++ (wL t qL bL ++ (wS t qA bA ++ (wY t qY qN fa bY ++ (wS t qN bN ++ (tail))))))))) = w) 0 0) 0 0 43 [(0, .ref (qX 99)), (1, .int x1), (2, .int x2), (3, .int x3), (4, .int x4), (5, .int x5), (6, .int x6)] [] (wX t qX qR qL qY qA im bX ++ (wRd t qR qT qG bR ++ (wTx t qT bT ++ (wL t qG bG ++ (wL t qL bL ++ (wS t qA bA ++ (wY t qY qN fa bY ++ (wS t qN bN ++ (tail)))))))))) (x1 : Int32) (x2 : Int32) (x3 : Int32) (x4 : Int32) (x5 : Int32) (x6 : Int32) (h0 : f_5_fits_120 bX bL k28 k43 x1 x2 x3 x4 x5 x6 = some r) : At p l e (rmD 3) s m args below meth c D 8 w0 (QI below args s D w0 (fun x w => r = x ∧ (wX t qX qR qL qY qA im bX ++ (wRd t qR qT qG bR ++ (wTx t qT bT ++ (wL t qG bG ++ (wL t qL bL ++ (wS t qA bA ++ (wY t qY qN fa bY ++ (wS t qN bN ++ (tail))))))))) = w) 0 0) 0 0 120 [(0, .ref (qX 99)), (1, .int x1), (2, .int x2), (3, .int x3), (4, .int x4), (5, .int x5), (6, .int x6)] [] (wX t qX qR qL qY qA im bX ++ (wRd t qR qT qG bR ++ (wTx t qT bT ++ (wL t qG bG ++ (wL t qL bL ++ (wS t qA bA ++ (wY t qY qN fa bY ++ (wS t qN bN ++ (tail))))))))) := by
  unfold f_5_fits_120 at h0
  refine A_iinc C 6 (x6 + (1 : Int32)) [(6, .int (x6 + (1 : Int32))), (0, .ref (qX 99)), (1, .int x1), (2, .int x2), (3, .int x3), (4, .int x4), (5, .int x5)] dX5_fits_120 rfl rfl (by decide) rfl ?_
  refine A_goto C 43 dX5_fits_123 (by decide) ?_
  exact A_loc [1, 2, 3, 4, 5, 6, 0] rfl (K43 x1 x2 x3 x4 x5 (x6 + (1 : Int32)) h0)
def f_5_fits_109 (bX : BV) (bL : BV) (k28 : Int32 → Int32 → Int32 → Int32 → Int32 → Option (Int32)) (k43 : Int32 → Int32 → Int32 → Int32 → Int32 → Int32 → Option (Int32)) (x1 : Int32) (x2 : Int32) (x4 : Int32) (x5 : Int32) (x6 : Int32) (x7 : Int32) (y0 : Int32) : Option (Int32) :=
  f_5_fits_120 bX bL k28 k43 x1 (x2 + (1 : Int32)) y0 (x4 &&& x7) x5 x6
theorem t_5_fits_109 (C : CX p s m args meth c cX5_fits 8 (some .int) RX5 D t) (qX : Nat → Nat) (qR : Nat → Nat) (qT : Nat → Nat) (qG : Nat → Nat) (qL : Nat → Nat) (qA : Nat → Nat) (qY : Nat → Nat) (qN : Nat → Nat) (im : Nat → Option Nat) (fa : Nat → Option Nat) (tail : va_W) (bX : BV) (bR : BV) (bT : BV) (bG : BV) (bL : BV) (bA : BV) (bY : BV) (bN : BV) (r : Int32) (k28 : Int32 → Int32 → Int32 → Int32 → Int32 → Option (Int32)) (K28 : ∀ (x1 : Int32) (x2 : Int32) (x3 : Int32) (x4 : Int32) (x5 : Int32), k28 x1 x2 x3 x4 x5 = some r → At p l e (rmD 3) s m args below meth c D 8 w0 (QI below args s D w0 (fun x w => r = x ∧ (wX t qX qR qL qY qA im bX ++ (wRd t qR qT qG bR ++ (wTx t qT bT ++ (wL t qG bG ++ (wL t qL bL ++ (wS t qA bA ++ (wY t qY qN fa bY ++ (wS t qN bN ++ (tail))))))))) = w) 0 0) 0 0 28 [(0, .ref (qX 99)), (1, .int x1), (2, .int x2), (3, .int x3), (4, .int x4), (5, .int x5)] [] (wX t qX qR qL qY qA im bX ++ (wRd t qR qT qG bR ++ (wTx t qT bT ++ (wL t qG bG ++ (wL t qL bL ++ (wS t qA bA ++ (wY t qY qN fa bY ++ (wS t qN bN ++ (tail)))))))))) (k43 : Int32 → Int32 → Int32 → Int32 → Int32 → Int32 → Option (Int32)) (K43 : ∀ (x1 : Int32) (x2 : Int32) (x3 : Int32) (x4 : Int32) (x5 : Int32) (x6 : Int32), k43 x1 x2 x3 x4 x5 x6 = some r → At p l e (rmD 3) s m args below meth c D 8 w0 (QI below args s D w0 (fun x w => r = x ∧ (wX t qX qR qL qY qA im bX ++ (wRd t qR qT qG bR ++ (wTx t qT bT ++ (wL t qG bG ++ (wL t qL bL ++ (wS t qA bA ++ (wY t qY qN fa bY ++ (wS t qN bN ++ (tail))))))))) = w) 0 0) 0 0 43 [(0, .ref (qX 99)), (1, .int x1), (2, .int x2), (3, .int x3), (4, .int x4), (5, .int x5), (6, .int x6)] [] (wX t qX qR qL qY qA im bX ++ (wRd t qR qT qG bR ++ (wTx t qT bT ++ (wL t qG bG ++ (wL t qL bL ++ (wS t qA bA ++ (wY t qY qN fa bY ++ (wS t qN bN ++ (tail)))))))))) (x1 : Int32) (x2 : Int32) (x4 : Int32) (x5 : Int32) (x6 : Int32) (x7 : Int32) (y0 : Int32) (h0 : f_5_fits_109 bX bL k28 k43 x1 x2 x4 x5 x6 x7 y0 = some r) : At p l e (rmD 3) s m args below meth c D 8 w0 (QI below args s D w0 (fun x w => r = x ∧ (wX t qX qR qL qY qA im bX ++ (wRd t qR qT qG bR ++ (wTx t qT bT ++ (wL t qG bG ++ (wL t qL bL ++ (wS t qA bA ++ (wY t qY qN fa bY ++ (wS t qN bN ++ (tail))))))))) = w) 0 0) 0 0 109 [(0, .ref (qX 99)), (1, .int x1), (2, .int x2), (4, .int x4), (5, .int x5), (6, .int x6), (7, .int x7)] [.int y0] (wX t qX qR qL qY qA im bX ++ (wRd t qR qT qG bR ++ (wTx t qT bT ++ (wL t qG bG ++ (wL t qL bL ++ (wS t qA bA ++ (wY t qY qN fa bY ++ (wS t qN bN ++ (tail))))))))) := by
  unfold f_5_fits_109 at h0
  refine A_istore_n C [(3, .int y0), (0, .ref (qX 99)), (1, .int x1), (2, .int x2), (4, .int x4), (5, .int x5), (6, .int x6), (7, .int x7)] dX5_fits_109 rfl (by decide) rfl ?_
  refine A_iload C 4 dX5_fits_110 rfl ?_
  refine A_iload C 7 dX5_fits_112 rfl ?_
  refine A_iand C dX5_fits_114 ?_
  refine A_istore C [(4, .int (x4 &&& x7)), (3, .int y0), (0, .ref (qX 99)), (1, .int x1), (2, .int x2), (5, .int x5), (6, .int x6), (7, .int x7)] dX5_fits_115 (by decide) rfl ?_
  refine A_iinc C 4 (x2 + (1 : Int32)) [(2, .int (x2 + (1 : Int32))), (4, .int (x4 &&& x7)), (3, .int y0), (0, .ref (qX 99)), (1, .int x1), (5, .int x5), (6, .int x6), (7, .int x7)] dX5_fits_117 rfl rfl (by decide) rfl ?_
  exact A_loc [3, 4, 0, 2, 1, 5, 6] rfl (t_5_fits_120 C qX qR qT qG qL qA qY qN im fa tail bX bR bT bG bL bA bY bN r k28 K28 k43 K43 x1 (x2 + (1 : Int32)) y0 (x4 &&& x7) x5 x6 h0)
def f_5_fits_43_b (bX : BV) (bL : BV) (k28 : Int32 → Int32 → Int32 → Int32 → Int32 → Option (Int32)) (k43 : Int32 → Int32 → Int32 → Int32 → Int32 → Int32 → Option (Int32)) (x1 : Int32) (x2 : Int32) (x3 : Int32) (x4 : Int32) (x5 : Int32) (x6 : Int32) : Option (Int32) :=
  if (9 : Int32) < x6 then (f_5_fits_126 bX bL k28 x1 x2 x3 x4 x5) else (if (gI bL 1) < (x5 + x6) then (f_5_fits_126 bX bL k28 x1 x2 x3 x4 x5) else ((f_5_rowBits x5 x6).bind (fun z1 => (f_0_allDays bL).bind (fun z2 => (f_5_agreesWithTold bX bL (z2 &&& (z1 ^^^ (-1 : Int32)))).bind (fun z3 => if z3 = 0 then (f_5_fits_120 bX bL k28 k43 x1 x2 x3 x4 x5 x6) else (if x2 = 0 then (f_5_fits_109 bX bL k28 k43 x1 x2 x4 x5 x6 z1 ((x5 * (100 : Int32)) + x6)) else (f_5_fits_109 bX bL k28 k43 x1 x2 x4 x5 x6 z1 x3)))))))
theorem t_5_fits_43_b (C : CX p s m args meth c cX5_fits 8 (some .int) RX5 D t) (qX : Nat → Nat) (qR : Nat → Nat) (qT : Nat → Nat) (qG : Nat → Nat) (qL : Nat → Nat) (qA : Nat → Nat) (qY : Nat → Nat) (qN : Nat → Nat) (im : Nat → Option Nat) (fa : Nat → Option Nat) (tail : va_W) (bX : BV) (bR : BV) (bT : BV) (bG : BV) (bL : BV) (bA : BV) (bY : BV) (bN : BV) (r : Int32) (k28 : Int32 → Int32 → Int32 → Int32 → Int32 → Option (Int32)) (K28 : ∀ (x1 : Int32) (x2 : Int32) (x3 : Int32) (x4 : Int32) (x5 : Int32), k28 x1 x2 x3 x4 x5 = some r → At p l e (rmD 3) s m args below meth c D 8 w0 (QI below args s D w0 (fun x w => r = x ∧ (wX t qX qR qL qY qA im bX ++ (wRd t qR qT qG bR ++ (wTx t qT bT ++ (wL t qG bG ++ (wL t qL bL ++ (wS t qA bA ++ (wY t qY qN fa bY ++ (wS t qN bN ++ (tail))))))))) = w) 0 0) 0 0 28 [(0, .ref (qX 99)), (1, .int x1), (2, .int x2), (3, .int x3), (4, .int x4), (5, .int x5)] [] (wX t qX qR qL qY qA im bX ++ (wRd t qR qT qG bR ++ (wTx t qT bT ++ (wL t qG bG ++ (wL t qL bL ++ (wS t qA bA ++ (wY t qY qN fa bY ++ (wS t qN bN ++ (tail)))))))))) (k43 : Int32 → Int32 → Int32 → Int32 → Int32 → Int32 → Option (Int32)) (K43 : ∀ (x1 : Int32) (x2 : Int32) (x3 : Int32) (x4 : Int32) (x5 : Int32) (x6 : Int32), k43 x1 x2 x3 x4 x5 x6 = some r → At p l e (rmD 3) s m args below meth c D 8 w0 (QI below args s D w0 (fun x w => r = x ∧ (wX t qX qR qL qY qA im bX ++ (wRd t qR qT qG bR ++ (wTx t qT bT ++ (wL t qG bG ++ (wL t qL bL ++ (wS t qA bA ++ (wY t qY qN fa bY ++ (wS t qN bN ++ (tail))))))))) = w) 0 0) 0 0 43 [(0, .ref (qX 99)), (1, .int x1), (2, .int x2), (3, .int x3), (4, .int x4), (5, .int x5), (6, .int x6)] [] (wX t qX qR qL qY qA im bX ++ (wRd t qR qT qG bR ++ (wTx t qT bT ++ (wL t qG bG ++ (wL t qL bL ++ (wS t qA bA ++ (wY t qY qN fa bY ++ (wS t qN bN ++ (tail)))))))))) (x1 : Int32) (x2 : Int32) (x3 : Int32) (x4 : Int32) (x5 : Int32) (x6 : Int32) (h0 : f_5_fits_43_b bX bL k28 k43 x1 x2 x3 x4 x5 x6 = some r) : At p l e (rmD 3) s m args below meth c D 8 w0 (QI below args s D w0 (fun x w => r = x ∧ (wX t qX qR qL qY qA im bX ++ (wRd t qR qT qG bR ++ (wTx t qT bT ++ (wL t qG bG ++ (wL t qL bL ++ (wS t qA bA ++ (wY t qY qN fa bY ++ (wS t qN bN ++ (tail))))))))) = w) 0 0) 0 0 43 [(0, .ref (qX 99)), (1, .int x1), (2, .int x2), (3, .int x3), (4, .int x4), (5, .int x5), (6, .int x6)] [] (wX t qX qR qL qY qA im bX ++ (wRd t qR qT qG bR ++ (wTx t qT bT ++ (wL t qG bG ++ (wL t qL bL ++ (wS t qA bA ++ (wY t qY qN fa bY ++ (wS t qN bN ++ (tail))))))))) := by
  unfold f_5_fits_43_b at h0
  refine A_iload C 6 dX5_fits_43 rfl ?_
  refine A_bipush C (9 : Int32) dX5_fits_45 (by decide) ?_
  refine A_icmp_gt C 126 dX5_fits_47 (by decide) h0 (fun h0 => ?_) (fun h0 => ?_)
  · exact A_loc [0, 1, 2, 3, 4, 5] rfl (t_5_fits_126 C qX qR qT qG qL qA qY qN im fa tail bX bR bT bG bL bA bY bN r k28 K28 x1 x2 x3 x4 x5 h0)
  · refine A_iload C 5 dX5_fits_50 rfl ?_
    refine A_iload C 6 dX5_fits_52 rfl ?_
    refine A_iadd C dX5_fits_54 ?_
    refine A_aload_n C 0 dX5_fits_55 rfl rfl ?_
    refine A_get (v := .ref (qL 99)) C 0 1 inG5 (ci := 5) rfl (by decide) fl_5_19 rfl rfl rfl dX5_fits_56 ?_
    refine A_get (v := .int (gI bL 1)) C 14 1 inG0 (ci := 0) rfl (by decide) fl_5_224 rfl rfl rfl dX5_fits_59 ?_
    refine A_icmp_gt C 126 dX5_fits_62 (by decide) h0 (fun h0 => ?_) (fun h0 => ?_)
    · exact A_loc [0, 1, 2, 3, 4, 5] rfl (t_5_fits_126 C qX qR qT qG qL qA qY qN im fa tail bX bR bT bG bL bA bY bN r k28 K28 x1 x2 x3 x4 x5 h0)
    · refine A_iload C 5 dX5_fits_65 rfl ?_
      refine A_iload C 6 dX5_fits_67 rfl ?_
      obtain ⟨z1, hz1, h0⟩ := bind_some h0
      refine A_sI (As := [.int x5, .int x6]) (rest := []) C (c_5_rowBits l D t x5 x6 hz1) mw_5_rowBits ml_5_160 st_5_rowBits (rmok rfl rfl) (cutN (wX t qX qR qL qY qA im bX ++ (wRd t qR qT qG bR ++ (wTx t qT bT ++ (wL t qG bG ++ (wL t qL bL ++ (wS t qA bA ++ (wY t qY qN fa bY ++ (wS t qN bN ++ (tail)))))))))) rfl rfl (Nat.le_of_ble_eq_true rfl) dX5_fits_69 (fun x w1 hw1 => ?_)
      obtain ⟨rfl, rfl⟩ := hw1
      refine A_perm (ws' := (wX t qX qR qL qY qA im bX ++ (wRd t qR qT qG bR ++ (wTx t qT bT ++ (wL t qG bG ++ (wL t qL bL ++ (wS t qA bA ++ (wY t qY qN fa bY ++ (wS t qN bN ++ (tail)))))))))) ((cutN _).symm) ?_
      refine A_istore C [(7, .int z1), (0, .ref (qX 99)), (1, .int x1), (2, .int x2), (3, .int x3), (4, .int x4), (5, .int x5), (6, .int x6)] dX5_fits_72 (by decide) rfl ?_
      refine A_aload_n C 1 dX5_fits_74 rfl rfl ?_
      refine A_aload_n C 1 dX5_fits_75 rfl rfl ?_
      refine A_get (v := .ref (qL 99)) C 0 1 inG5 (ci := 5) rfl (by decide) fl_5_19 rfl rfl rfl dX5_fits_76 ?_
      obtain ⟨z2, hz2, h0⟩ := bind_some h0
      refine A_vI (As := []) (rest := [.ref (qX 99)]) C 0 (c_0_allDays l D t qL bL hz2) mw_0_allDays ml_5_221 im_0_allDays sl_0_allDays (rmok rfl rfl) (cutA (wX t qX qR qL qY qA im bX ++ (wRd t qR qT qG bR ++ (wTx t qT bT ++ (wL t qG bG)))) (wL t qL bL) (wS t qA bA ++ (wY t qY qN fa bY ++ (wS t qN bN ++ (tail))))) rfl (ci := 0) rfl rfl rfl (Nat.le_of_ble_eq_true rfl) dX5_fits_79 (fun x w1 hw1 => ?_)
      obtain ⟨rfl, rfl⟩ := hw1
      refine A_perm (ws' := (wX t qX qR qL qY qA im bX ++ (wRd t qR qT qG bR ++ (wTx t qT bT ++ (wL t qG bG ++ (wL t qL bL ++ (wS t qA bA ++ (wY t qY qN fa bY ++ (wS t qN bN ++ (tail)))))))))) ((cutA (wX t qX qR qL qY qA im bX ++ (wRd t qR qT qG bR ++ (wTx t qT bT ++ (wL t qG bG)))) (wL t qL bL) (wS t qA bA ++ (wY t qY qN fa bY ++ (wS t qN bN ++ (tail))))).symm) ?_
      refine A_iload C 0 dX5_fits_82 rfl ?_
      refine A_iconst C (-1 : Int32) dX5_fits_84 (by decide) ?_
      refine A_ixor C dX5_fits_85 ?_
      refine A_iand C dX5_fits_86 ?_
      obtain ⟨z3, hz3, h0⟩ := bind_some h0
      refine A_vI (As := [.int (z2 &&& (z1 ^^^ (-1 : Int32)))]) (rest := []) C 0 (c_5_agreesWithTold l D t qX qR qT qG qL qA qY qN im fa tail bX bR bT bG bL bA bY bN (z2 &&& (z1 ^^^ (-1 : Int32))) hz3) mw_5_agreesWithTold ml_5_227 im_5_agreesWithTold sl_5_agreesWithTold (rmok rfl rfl) (cut0 (wX t qX qR qL qY qA im bX ++ (wRd t qR qT qG bR ++ (wTx t qT bT ++ (wL t qG bG ++ (wL t qL bL ++ (wS t qA bA ++ (wY t qY qN fa bY ++ (wS t qN bN ++ (tail)))))))))) rfl (ci := 5) rfl rfl rfl (Nat.le_of_ble_eq_true rfl) dX5_fits_87 (fun x w1 hw1 => ?_)
      obtain ⟨rfl, rfl⟩ := hw1
      refine A_perm (ws' := (wX t qX qR qL qY qA im bX ++ (wRd t qR qT qG bR ++ (wTx t qT bT ++ (wL t qG bG ++ (wL t qL bL ++ (wS t qA bA ++ (wY t qY qN fa bY ++ (wS t qN bN ++ (tail)))))))))) ((cut0 _).symm) ?_
      refine A_if_eq C 120 dX5_fits_90 (by decide) h0 (fun h0 => ?_) (fun h0 => ?_)
      · exact A_loc [1, 2, 3, 4, 5, 6, 7] rfl (t_5_fits_120 C qX qR qT qG qL qA qY qN im fa tail bX bR bT bG bL bA bY bN r k28 K28 k43 K43 x1 x2 x3 x4 x5 x6 h0)
      · refine A_iload_n C 3 dX5_fits_93 rfl rfl ?_
        refine A_if_ne C 108 dX5_fits_94 (by decide) h0 (fun h0 => ?_) (fun h0 => ?_)
        · refine A_iload_n C 4 dX5_fits_108 rfl rfl ?_
          exact A_loc [1, 2, 3, 5, 6, 7, 0] rfl (t_5_fits_109 C qX qR qT qG qL qA qY qN im fa tail bX bR bT bG bL bA bY bN r k28 K28 k43 K43 x1 x2 x4 x5 x6 z1 x3 h0)
        · refine A_iload C 6 dX5_fits_97 rfl ?_
          refine A_bipush C (100 : Int32) dX5_fits_99 (by decide) ?_
          refine A_imul C dX5_fits_101 ?_
          refine A_iload C 7 dX5_fits_102 rfl ?_
          refine A_iadd C dX5_fits_104 ?_
          refine A_goto C 109 dX5_fits_105 (by decide) ?_
          exact A_loc [1, 2, 3, 5, 6, 7, 0] rfl (t_5_fits_109 C qX qR qT qG qL qA qY qN im fa tail bX bR bT bG bL bA bY bN r k28 K28 k43 K43 x1 x2 x4 x5 x6 z1 ((x5 * (100 : Int32)) + x6) h0)
def f_5_fits_43 (bX : BV) (bL : BV) (k28 : Int32 → Int32 → Int32 → Int32 → Int32 → Option (Int32)) : Nat → Int32 → Int32 → Int32 → Int32 → Int32 → Int32 → Option (Int32)
  | 0 => fun _ _ _ _ _ _ => none
  | n + 1 => f_5_fits_43_b bX bL k28 (f_5_fits_43 bX bL k28 n)
theorem t_5_fits_43 (C : CX p s m args meth c cX5_fits 8 (some .int) RX5 D t) (qX : Nat → Nat) (qR : Nat → Nat) (qT : Nat → Nat) (qG : Nat → Nat) (qL : Nat → Nat) (qA : Nat → Nat) (qY : Nat → Nat) (qN : Nat → Nat) (im : Nat → Option Nat) (fa : Nat → Option Nat) (tail : va_W) (bX : BV) (bR : BV) (bT : BV) (bG : BV) (bL : BV) (bA : BV) (bY : BV) (bN : BV) (r : Int32) (k28 : Int32 → Int32 → Int32 → Int32 → Int32 → Option (Int32)) (K28 : ∀ (x1 : Int32) (x2 : Int32) (x3 : Int32) (x4 : Int32) (x5 : Int32), k28 x1 x2 x3 x4 x5 = some r → At p l e (rmD 3) s m args below meth c D 8 w0 (QI below args s D w0 (fun x w => r = x ∧ (wX t qX qR qL qY qA im bX ++ (wRd t qR qT qG bR ++ (wTx t qT bT ++ (wL t qG bG ++ (wL t qL bL ++ (wS t qA bA ++ (wY t qY qN fa bY ++ (wS t qN bN ++ (tail))))))))) = w) 0 0) 0 0 28 [(0, .ref (qX 99)), (1, .int x1), (2, .int x2), (3, .int x3), (4, .int x4), (5, .int x5)] [] (wX t qX qR qL qY qA im bX ++ (wRd t qR qT qG bR ++ (wTx t qT bT ++ (wL t qG bG ++ (wL t qL bL ++ (wS t qA bA ++ (wY t qY qN fa bY ++ (wS t qN bN ++ (tail)))))))))) : ∀ (n : Nat), ∀ (x1 : Int32) (x2 : Int32) (x3 : Int32) (x4 : Int32) (x5 : Int32) (x6 : Int32), f_5_fits_43 bX bL k28 n x1 x2 x3 x4 x5 x6 = some r → At p l e (rmD 3) s m args below meth c D 8 w0 (QI below args s D w0 (fun x w => r = x ∧ (wX t qX qR qL qY qA im bX ++ (wRd t qR qT qG bR ++ (wTx t qT bT ++ (wL t qG bG ++ (wL t qL bL ++ (wS t qA bA ++ (wY t qY qN fa bY ++ (wS t qN bN ++ (tail))))))))) = w) 0 0) 0 0 43 [(0, .ref (qX 99)), (1, .int x1), (2, .int x2), (3, .int x3), (4, .int x4), (5, .int x5), (6, .int x6)] [] (wX t qX qR qL qY qA im bX ++ (wRd t qR qT qG bR ++ (wTx t qT bT ++ (wL t qG bG ++ (wL t qL bL ++ (wS t qA bA ++ (wY t qY qN fa bY ++ (wS t qN bN ++ (tail))))))))) := by
  intro n
  induction n with
  | zero =>
    intro x1 x2 x3 x4 x5 x6 h0
    have h0 : none = some r := h0
    cases h0
  | succ n ih =>
    intro x1 x2 x3 x4 x5 x6 h0
    exact t_5_fits_43_b C qX qR qT qG qL qA qY qN im fa tail bX bR bT bG bL bA bY bN r k28 K28 _ ih x1 x2 x3 x4 x5 x6 h0
def f_5_fits_28_b (bX : BV) (bL : BV) (k28 : Int32 → Int32 → Int32 → Int32 → Int32 → Option (Int32)) (x1 : Int32) (x2 : Int32) (x3 : Int32) (x4 : Int32) (x5 : Int32) : Option (Int32) :=
  if (gI bL 1) ≤ x5 then (if x1 = 0 then (some x2) else (if x2 = 0 then (some (-9 : Int32)) else (if x1 = (1 : Int32) then (f_5_fits_156 bX bL x3) else (f_5_fits_156 bX bL x4)))) else (f_5_fits_43 bX bL k28 200 x1 x2 x3 x4 x5 (1 : Int32))
theorem t_5_fits_28_b (C : CX p s m args meth c cX5_fits 8 (some .int) RX5 D t) (qX : Nat → Nat) (qR : Nat → Nat) (qT : Nat → Nat) (qG : Nat → Nat) (qL : Nat → Nat) (qA : Nat → Nat) (qY : Nat → Nat) (qN : Nat → Nat) (im : Nat → Option Nat) (fa : Nat → Option Nat) (tail : va_W) (bX : BV) (bR : BV) (bT : BV) (bG : BV) (bL : BV) (bA : BV) (bY : BV) (bN : BV) (r : Int32) (k28 : Int32 → Int32 → Int32 → Int32 → Int32 → Option (Int32)) (K28 : ∀ (x1 : Int32) (x2 : Int32) (x3 : Int32) (x4 : Int32) (x5 : Int32), k28 x1 x2 x3 x4 x5 = some r → At p l e (rmD 3) s m args below meth c D 8 w0 (QI below args s D w0 (fun x w => r = x ∧ (wX t qX qR qL qY qA im bX ++ (wRd t qR qT qG bR ++ (wTx t qT bT ++ (wL t qG bG ++ (wL t qL bL ++ (wS t qA bA ++ (wY t qY qN fa bY ++ (wS t qN bN ++ (tail))))))))) = w) 0 0) 0 0 28 [(0, .ref (qX 99)), (1, .int x1), (2, .int x2), (3, .int x3), (4, .int x4), (5, .int x5)] [] (wX t qX qR qL qY qA im bX ++ (wRd t qR qT qG bR ++ (wTx t qT bT ++ (wL t qG bG ++ (wL t qL bL ++ (wS t qA bA ++ (wY t qY qN fa bY ++ (wS t qN bN ++ (tail)))))))))) (x1 : Int32) (x2 : Int32) (x3 : Int32) (x4 : Int32) (x5 : Int32) (h0 : f_5_fits_28_b bX bL k28 x1 x2 x3 x4 x5 = some r) : At p l e (rmD 3) s m args below meth c D 8 w0 (QI below args s D w0 (fun x w => r = x ∧ (wX t qX qR qL qY qA im bX ++ (wRd t qR qT qG bR ++ (wTx t qT bT ++ (wL t qG bG ++ (wL t qL bL ++ (wS t qA bA ++ (wY t qY qN fa bY ++ (wS t qN bN ++ (tail))))))))) = w) 0 0) 0 0 28 [(0, .ref (qX 99)), (1, .int x1), (2, .int x2), (3, .int x3), (4, .int x4), (5, .int x5)] [] (wX t qX qR qL qY qA im bX ++ (wRd t qR qT qG bR ++ (wTx t qT bT ++ (wL t qG bG ++ (wL t qL bL ++ (wS t qA bA ++ (wY t qY qN fa bY ++ (wS t qN bN ++ (tail))))))))) := by
  unfold f_5_fits_28_b at h0
  refine A_iload C 5 dX5_fits_28 rfl ?_
  refine A_aload_n C 0 dX5_fits_30 rfl rfl ?_
  refine A_get (v := .ref (qL 99)) C 0 1 inG5 (ci := 5) rfl (by decide) fl_5_19 rfl rfl rfl dX5_fits_31 ?_
  refine A_get (v := .int (gI bL 1)) C 14 1 inG0 (ci := 0) rfl (by decide) fl_5_224 rfl rfl rfl dX5_fits_34 ?_
  refine A_icmp_ge C 132 dX5_fits_37 (by decide) h0 (fun h0 => ?_) (fun h0 => ?_)
  · refine A_iload_n C 1 dX5_fits_132 rfl rfl ?_
    refine A_if_ne C 138 dX5_fits_133 (by decide) h0 (fun h0 => ?_) (fun h0 => ?_)
    · refine A_iload_n C 2 dX5_fits_138 rfl rfl ?_
      refine A_if_ne C 145 dX5_fits_139 (by decide) h0 (fun h0 => ?_) (fun h0 => ?_)
      · refine A_iload_n C 1 dX5_fits_145 rfl rfl ?_
        refine A_iconst C (1 : Int32) dX5_fits_146 (by decide) ?_
        refine A_icmp_ne C 154 dX5_fits_147 (by decide) h0 (fun h0 => ?_) (fun h0 => ?_)
        · refine A_iload C 4 dX5_fits_154 rfl ?_
          exact A_loc [] rfl (t_5_fits_156 C qX qR qT qG qL qA qY qN im fa tail bX bR bT bG bL bA bY bN r x4 h0)
        · refine A_iload_n C 3 dX5_fits_150 rfl rfl ?_
          refine A_goto C 156 dX5_fits_151 (by decide) ?_
          exact A_loc [] rfl (t_5_fits_156 C qX qR qT qG qL qA qY qN im fa tail bX bR bT bG bL bA bY bN r x3 h0)
      · refine A_bipush C (-9 : Int32) dX5_fits_142 (by decide) ?_
        have h0 := Option.some.inj h0
        subst h0
        exact A_iret C dX5_fits_144 ⟨rfl, rfl⟩
    · refine A_iload_n C 2 dX5_fits_136 rfl rfl ?_
      have h0 := Option.some.inj h0
      subst h0
      exact A_iret C dX5_fits_137 ⟨rfl, rfl⟩
  · refine A_iconst C (1 : Int32) dX5_fits_40 (by decide) ?_
    refine A_istore C [(6, .int (1 : Int32)), (0, .ref (qX 99)), (1, .int x1), (2, .int x2), (3, .int x3), (4, .int x4), (5, .int x5)] dX5_fits_41 (by decide) rfl ?_
    exact A_loc [1, 2, 3, 4, 5, 6, 0] rfl (t_5_fits_43 C qX qR qT qG qL qA qY qN im fa tail bX bR bT bG bL bA bY bN r k28 K28 200 x1 x2 x3 x4 x5 (1 : Int32) h0)
def f_5_fits_28 (bX : BV) (bL : BV) : Nat → Int32 → Int32 → Int32 → Int32 → Int32 → Option (Int32)
  | 0 => fun _ _ _ _ _ => none
  | n + 1 => f_5_fits_28_b bX bL (f_5_fits_28 bX bL n)
theorem t_5_fits_28 (C : CX p s m args meth c cX5_fits 8 (some .int) RX5 D t) (qX : Nat → Nat) (qR : Nat → Nat) (qT : Nat → Nat) (qG : Nat → Nat) (qL : Nat → Nat) (qA : Nat → Nat) (qY : Nat → Nat) (qN : Nat → Nat) (im : Nat → Option Nat) (fa : Nat → Option Nat) (tail : va_W) (bX : BV) (bR : BV) (bT : BV) (bG : BV) (bL : BV) (bA : BV) (bY : BV) (bN : BV) (r : Int32) : ∀ (n : Nat), ∀ (x1 : Int32) (x2 : Int32) (x3 : Int32) (x4 : Int32) (x5 : Int32), f_5_fits_28 bX bL n x1 x2 x3 x4 x5 = some r → At p l e (rmD 3) s m args below meth c D 8 w0 (QI below args s D w0 (fun x w => r = x ∧ (wX t qX qR qL qY qA im bX ++ (wRd t qR qT qG bR ++ (wTx t qT bT ++ (wL t qG bG ++ (wL t qL bL ++ (wS t qA bA ++ (wY t qY qN fa bY ++ (wS t qN bN ++ (tail))))))))) = w) 0 0) 0 0 28 [(0, .ref (qX 99)), (1, .int x1), (2, .int x2), (3, .int x3), (4, .int x4), (5, .int x5)] [] (wX t qX qR qL qY qA im bX ++ (wRd t qR qT qG bR ++ (wTx t qT bT ++ (wL t qG bG ++ (wL t qL bL ++ (wS t qA bA ++ (wY t qY qN fa bY ++ (wS t qN bN ++ (tail))))))))) := by
  intro n
  induction n with
  | zero =>
    intro x1 x2 x3 x4 x5 h0
    have h0 : none = some r := h0
    cases h0
  | succ n ih =>
    intro x1 x2 x3 x4 x5 h0
    exact t_5_fits_28_b C qX qR qT qG qL qA qY qN im fa tail bX bR bT bG bL bA bY bN r _ ih x1 x2 x3 x4 x5 h0
def f_5_fits (bX : BV) (bL : BV) (x1 : Int32) : Option (Int32) :=
  (f_5_isWithin x1 (0 : Int32) (2 : Int32)).bind (fun z4 => if z4 = 0 then (some (-1 : Int32)) else ((f_0_allDays bL).bind (fun z5 => f_5_fits_28 bX bL 200 x1 (0 : Int32) (-9 : Int32) z5 (0 : Int32))))
theorem c_5_fits (l : Launch) (D : va_G) (t : ty4) (qX : Nat → Nat) (qR : Nat → Nat) (qT : Nat → Nat) (qG : Nat → Nat) (qL : Nat → Nat) (qA : Nat → Nat) (qY : Nat → Nat) (qN : Nat → Nat) (im : Nat → Option Nat) (fa : Nat → Option Nat) (tail : va_W) (bX : BV) (bR : BV) (bT : BV) (bG : BV) (bL : BV) (bA : BV) (bY : BV) (bN : BV) (x1 : Int32) {r : Int32} (h0 : f_5_fits bX bL x1 = some r) : MetI l yX5_fits cX5_fits 8 (some .int) (rmD 3) D t [.ref (qX 99), .int x1] (wX t qX qR qL qY qA im bX ++ (wRd t qR qT qG bR ++ (wTx t qT bT ++ (wL t qG bG ++ (wL t qL bL ++ (wS t qA bA ++ (wY t qY qN fa bY ++ (wS t qN bN ++ (tail))))))))) (fun x w => r = x ∧ (wX t qX qR qL qY qA im bX ++ (wRd t qR qT qG bR ++ (wTx t qT bT ++ (wL t qG bG ++ (wL t qL bL ++ (wS t qA bA ++ (wY t qY qN fa bY ++ (wS t qN bN ++ (tail))))))))) = w) := by
  refine MetI_of (by decide +kernel) (Nat.le_of_ble_eq_true rfl) (fun p e s m below meth c C _ => ?_)
  unfold f_5_fits at h0
  generalize hargs : (List.toArray [.ref (qX 99), .int x1] : Array Value) = args at C ⊢
  refine At.start (lv2 := [(0, .ref (qX 99)), (1, .int x1)]) rfl ?_
  refine A_iload_n C 1 dX5_fits_0 rfl rfl ?_
  refine A_iconst C (0 : Int32) dX5_fits_1 (by decide) ?_
  refine A_iconst C (2 : Int32) dX5_fits_2 (by decide) ?_
  obtain ⟨z4, hz4, h0⟩ := bind_some h0
  refine A_sI (As := [.int x1, .int (0 : Int32), .int (2 : Int32)]) (rest := []) C (c_5_isWithin l D t x1 (0 : Int32) (2 : Int32) hz4) mw_5_isWithin ml_5_60 st_5_isWithin (rmok rfl rfl) (cutN (wX t qX qR qL qY qA im bX ++ (wRd t qR qT qG bR ++ (wTx t qT bT ++ (wL t qG bG ++ (wL t qL bL ++ (wS t qA bA ++ (wY t qY qN fa bY ++ (wS t qN bN ++ (tail)))))))))) rfl rfl (Nat.le_of_ble_eq_true rfl) dX5_fits_3 (fun x w1 hw1 => ?_)
  obtain ⟨rfl, rfl⟩ := hw1
  refine A_perm (ws' := (wX t qX qR qL qY qA im bX ++ (wRd t qR qT qG bR ++ (wTx t qT bT ++ (wL t qG bG ++ (wL t qL bL ++ (wS t qA bA ++ (wY t qY qN fa bY ++ (wS t qN bN ++ (tail)))))))))) ((cutN _).symm) ?_
  refine A_if_ne C 11 dX5_fits_6 (by decide) h0 (fun h0 => ?_) (fun h0 => ?_)
  · refine A_iconst C (0 : Int32) dX5_fits_11 (by decide) ?_
    refine A_istore_n C [(2, .int (0 : Int32)), (0, .ref (qX 99)), (1, .int x1)] dX5_fits_12 rfl (by decide) rfl ?_
    refine A_bipush C (-9 : Int32) dX5_fits_13 (by decide) ?_
    refine A_istore_n C [(3, .int (-9 : Int32)), (2, .int (0 : Int32)), (0, .ref (qX 99)), (1, .int x1)] dX5_fits_15 rfl (by decide) rfl ?_
    refine A_aload_n C 2 dX5_fits_16 rfl rfl ?_
    refine A_get (v := .ref (qL 99)) C 0 1 inG5 (ci := 5) rfl (by decide) fl_5_19 rfl rfl rfl dX5_fits_17 ?_
    obtain ⟨z5, hz5, h0⟩ := bind_some h0
    refine A_vI (As := []) (rest := []) C 0 (c_0_allDays l D t qL bL hz5) mw_0_allDays ml_5_221 im_0_allDays sl_0_allDays (rmok rfl rfl) (cutA (wX t qX qR qL qY qA im bX ++ (wRd t qR qT qG bR ++ (wTx t qT bT ++ (wL t qG bG)))) (wL t qL bL) (wS t qA bA ++ (wY t qY qN fa bY ++ (wS t qN bN ++ (tail))))) rfl (ci := 0) rfl rfl rfl (Nat.le_of_ble_eq_true rfl) dX5_fits_20 (fun x w1 hw1 => ?_)
    obtain ⟨rfl, rfl⟩ := hw1
    refine A_perm (ws' := (wX t qX qR qL qY qA im bX ++ (wRd t qR qT qG bR ++ (wTx t qT bT ++ (wL t qG bG ++ (wL t qL bL ++ (wS t qA bA ++ (wY t qY qN fa bY ++ (wS t qN bN ++ (tail)))))))))) ((cutA (wX t qX qR qL qY qA im bX ++ (wRd t qR qT qG bR ++ (wTx t qT bT ++ (wL t qG bG)))) (wL t qL bL) (wS t qA bA ++ (wY t qY qN fa bY ++ (wS t qN bN ++ (tail))))).symm) ?_
    refine A_istore C [(4, .int z5), (3, .int (-9 : Int32)), (2, .int (0 : Int32)), (0, .ref (qX 99)), (1, .int x1)] dX5_fits_23 (by decide) rfl ?_
    refine A_iconst C (0 : Int32) dX5_fits_25 (by decide) ?_
    refine A_istore C [(5, .int (0 : Int32)), (4, .int z5), (3, .int (-9 : Int32)), (2, .int (0 : Int32)), (0, .ref (qX 99)), (1, .int x1)] dX5_fits_26 (by decide) rfl ?_
    exact A_loc [4, 5, 3, 2, 1, 0] rfl (t_5_fits_28 C qX qR qT qG qL qA qY qN im fa tail bX bR bT bG bL bA bY bN r 200 x1 (0 : Int32) (-9 : Int32) z5 (0 : Int32) h0)
  · refine A_iconst C (-1 : Int32) dX5_fits_9 (by decide) ?_
    have h0 := Option.some.inj h0
    subst h0
    exact A_iret C dX5_fits_10 ⟨rfl, rfl⟩
def f_5_daysIn (bL : BV) (bN : BV) : Option (Int32) :=
  (f_2_daysIn bL bN).bind (fun z1 => some z1)
theorem c_5_daysIn (l : Launch) (D : va_G) (t : ty4) (qX : Nat → Nat) (qR : Nat → Nat) (qT : Nat → Nat) (qG : Nat → Nat) (qL : Nat → Nat) (qA : Nat → Nat) (qY : Nat → Nat) (qN : Nat → Nat) (im : Nat → Option Nat) (fa : Nat → Option Nat) (tail : va_W) (bX : BV) (bR : BV) (bT : BV) (bG : BV) (bL : BV) (bA : BV) (bY : BV) (bN : BV) {r : Int32} (h0 : f_5_daysIn bL bN = some r) : MetI l yX5_daysIn cX5_daysIn 1 (some .int) (rmD 4) D t [.ref (qX 99)] (wX t qX qR qL qY qA im bX ++ (wRd t qR qT qG bR ++ (wTx t qT bT ++ (wL t qG bG ++ (wL t qL bL ++ (wS t qA bA ++ (wY t qY qN fa bY ++ (wS t qN bN ++ (tail))))))))) (fun x w => r = x ∧ (wX t qX qR qL qY qA im bX ++ (wRd t qR qT qG bR ++ (wTx t qT bT ++ (wL t qG bG ++ (wL t qL bL ++ (wS t qA bA ++ (wY t qY qN fa bY ++ (wS t qN bN ++ (tail))))))))) = w) := by
  refine MetI_of (by decide +kernel) (Nat.le_of_ble_eq_true rfl) (fun p e s m below meth c C _ => ?_)
  unfold f_5_daysIn at h0
  generalize hargs : (List.toArray [.ref (qX 99)] : Array Value) = args at C ⊢
  refine At.start (lv2 := [(0, .ref (qX 99))]) rfl ?_
  refine A_aload_n C 0 dX5_daysIn_0 rfl rfl ?_
  refine A_get (v := .ref (qY 99)) C 0 2 inG5 (ci := 5) rfl (by decide) fl_5_26 rfl rfl rfl dX5_daysIn_1 ?_
  refine A_get (v := .ref (qN 99)) C 24 0 inG3 (ci := 3) rfl (by decide) fl_5_104 rfl rfl rfl dX5_daysIn_4 ?_
  refine A_aload_n C 0 dX5_daysIn_7 rfl rfl ?_
  refine A_get (v := .ref (qL 99)) C 0 1 inG5 (ci := 5) rfl (by decide) fl_5_19 rfl rfl rfl dX5_daysIn_8 ?_
  obtain ⟨z1, hz1, h0⟩ := bind_some h0
  refine A_vI (As := [.ref (qL 99)]) (rest := []) C 6 (c_2_daysIn l D t qL qN bL bN hz1) mw_2_daysIn ml_5_216 im_2_daysIn sl_2_daysIn (rmok rfl rfl) (cutB (wX t qX qR qL qY qA im bX ++ (wRd t qR qT qG bR ++ (wTx t qT bT ++ (wL t qG bG)))) (wL t qL bL) (wS t qA bA ++ (wY t qY qN fa bY)) (wS t qN bN) (tail)) rfl (ci := 2) rfl rfl rfl (Nat.le_of_ble_eq_true rfl) dX5_daysIn_11 (fun x w1 hw1 => ?_)
  obtain ⟨rfl, rfl⟩ := hw1
  refine A_perm (ws' := (wX t qX qR qL qY qA im bX ++ (wRd t qR qT qG bR ++ (wTx t qT bT ++ (wL t qG bG ++ (wL t qL bL ++ (wS t qA bA ++ (wY t qY qN fa bY ++ (wS t qN bN ++ (tail)))))))))) ((cutB (wX t qX qR qL qY qA im bX ++ (wRd t qR qT qG bR ++ (wTx t qT bT ++ (wL t qG bG)))) (wL t qL bL) (wS t qA bA ++ (wY t qY qN fa bY)) (wS t qN bN) (tail)).symm) ?_
  have h0 := Option.some.inj h0
  subst h0
  exact A_iret C dX5_daysIn_14 ⟨rfl, rfl⟩
def f_5_isRowIn_33 (bL : BV) (bN : BV) (y0 : Int32) : Option (Int32) :=
  ck (isb y0) (some y0)
theorem t_5_isRowIn_33 (C : CX p s m args meth c cX5_isRowIn 3 (some .boolean) RX5 D t) (qX : Nat → Nat) (qR : Nat → Nat) (qT : Nat → Nat) (qG : Nat → Nat) (qL : Nat → Nat) (qA : Nat → Nat) (qY : Nat → Nat) (qN : Nat → Nat) (im : Nat → Option Nat) (fa : Nat → Option Nat) (tail : va_W) (bX : BV) (bR : BV) (bT : BV) (bG : BV) (bL : BV) (bA : BV) (bY : BV) (bN : BV) (r : Int32) (y0 : Int32) (h0 : f_5_isRowIn_33 bL bN y0 = some r) : At p l e (rmD 5) s m args below meth c D 3 w0 (QI below args s D w0 (fun x w => r = x ∧ (wX t qX qR qL qY qA im bX ++ (wRd t qR qT qG bR ++ (wTx t qT bT ++ (wL t qG bG ++ (wL t qL bL ++ (wS t qA bA ++ (wY t qY qN fa bY ++ (wS t qN bN ++ (tail))))))))) = w) 0 0) 0 0 33 [] [.int y0] (wX t qX qR qL qY qA im bX ++ (wRd t qR qT qG bR ++ (wTx t qT bT ++ (wL t qG bG ++ (wL t qL bL ++ (wS t qA bA ++ (wY t qY qN fa bY ++ (wS t qN bN ++ (tail))))))))) := by
  unfold f_5_isRowIn_33 at h0
  obtain ⟨hz, h0⟩ := ck_some h0
  have h0 := Option.some.inj h0
  subst h0
  exact A_zret C dX5_isRowIn_33 hz ⟨rfl, rfl⟩
def f_5_isRowIn_32 (bL : BV) (bN : BV) : Option (Int32) :=
  f_5_isRowIn_33 bL bN (0 : Int32)
theorem t_5_isRowIn_32 (C : CX p s m args meth c cX5_isRowIn 3 (some .boolean) RX5 D t) (qX : Nat → Nat) (qR : Nat → Nat) (qT : Nat → Nat) (qG : Nat → Nat) (qL : Nat → Nat) (qA : Nat → Nat) (qY : Nat → Nat) (qN : Nat → Nat) (im : Nat → Option Nat) (fa : Nat → Option Nat) (tail : va_W) (bX : BV) (bR : BV) (bT : BV) (bG : BV) (bL : BV) (bA : BV) (bY : BV) (bN : BV) (r : Int32) (h0 : f_5_isRowIn_32 bL bN = some r) : At p l e (rmD 5) s m args below meth c D 3 w0 (QI below args s D w0 (fun x w => r = x ∧ (wX t qX qR qL qY qA im bX ++ (wRd t qR qT qG bR ++ (wTx t qT bT ++ (wL t qG bG ++ (wL t qL bL ++ (wS t qA bA ++ (wY t qY qN fa bY ++ (wS t qN bN ++ (tail))))))))) = w) 0 0) 0 0 32 [] [] (wX t qX qR qL qY qA im bX ++ (wRd t qR qT qG bR ++ (wTx t qT bT ++ (wL t qG bG ++ (wL t qL bL ++ (wS t qA bA ++ (wY t qY qN fa bY ++ (wS t qN bN ++ (tail))))))))) := by
  unfold f_5_isRowIn_32 at h0
  refine A_iconst C (0 : Int32) dX5_isRowIn_32 (by decide) ?_
  exact A_loc [] rfl (t_5_isRowIn_33 C qX qR qT qG qL qA qY qN im fa tail bX bR bT bG bL bA bY bN r (0 : Int32) h0)
def f_5_isRowIn (bL : BV) (bN : BV) (x1 : Int32) (x2 : Int32) : Option (Int32) :=
  if (gI bL 1) < (x1 + x2) then (f_5_isRowIn_32 bL bN) else ((f_5_rowBits x1 x2).bind (fun z1 => (f_5_daysIn bL bN).bind (fun z2 => if (z1 &&& (z2 ^^^ (-1 : Int32))) = 0 then (f_5_isRowIn_33 bL bN (1 : Int32)) else (f_5_isRowIn_32 bL bN))))
theorem c_5_isRowIn (l : Launch) (D : va_G) (t : ty4) (qX : Nat → Nat) (qR : Nat → Nat) (qT : Nat → Nat) (qG : Nat → Nat) (qL : Nat → Nat) (qA : Nat → Nat) (qY : Nat → Nat) (qN : Nat → Nat) (im : Nat → Option Nat) (fa : Nat → Option Nat) (tail : va_W) (bX : BV) (bR : BV) (bT : BV) (bG : BV) (bL : BV) (bA : BV) (bY : BV) (bN : BV) (x1 : Int32) (x2 : Int32) {r : Int32} (h0 : f_5_isRowIn bL bN x1 x2 = some r) : MetI l yX5_isRowIn cX5_isRowIn 3 (some .boolean) (rmD 5) D t [.ref (qX 99), .int x1, .int x2] (wX t qX qR qL qY qA im bX ++ (wRd t qR qT qG bR ++ (wTx t qT bT ++ (wL t qG bG ++ (wL t qL bL ++ (wS t qA bA ++ (wY t qY qN fa bY ++ (wS t qN bN ++ (tail))))))))) (fun x w => r = x ∧ (wX t qX qR qL qY qA im bX ++ (wRd t qR qT qG bR ++ (wTx t qT bT ++ (wL t qG bG ++ (wL t qL bL ++ (wS t qA bA ++ (wY t qY qN fa bY ++ (wS t qN bN ++ (tail))))))))) = w) := by
  refine MetI_of (by decide +kernel) (Nat.le_of_ble_eq_true rfl) (fun p e s m below meth c C _ => ?_)
  unfold f_5_isRowIn at h0
  generalize hargs : (List.toArray [.ref (qX 99), .int x1, .int x2] : Array Value) = args at C ⊢
  refine At.start (lv2 := [(0, .ref (qX 99)), (1, .int x1), (2, .int x2)]) rfl ?_
  refine A_iload_n C 1 dX5_isRowIn_0 rfl rfl ?_
  refine A_iload_n C 2 dX5_isRowIn_1 rfl rfl ?_
  refine A_iadd C dX5_isRowIn_2 ?_
  refine A_aload_n C 0 dX5_isRowIn_3 rfl rfl ?_
  refine A_get (v := .ref (qL 99)) C 0 1 inG5 (ci := 5) rfl (by decide) fl_5_19 rfl rfl rfl dX5_isRowIn_4 ?_
  refine A_get (v := .int (gI bL 1)) C 14 1 inG0 (ci := 0) rfl (by decide) fl_5_224 rfl rfl rfl dX5_isRowIn_7 ?_
  refine A_icmp_gt C 32 dX5_isRowIn_10 (by decide) h0 (fun h0 => ?_) (fun h0 => ?_)
  · exact A_loc [] rfl (t_5_isRowIn_32 C qX qR qT qG qL qA qY qN im fa tail bX bR bT bG bL bA bY bN r h0)
  · refine A_iload_n C 1 dX5_isRowIn_13 rfl rfl ?_
    refine A_iload_n C 2 dX5_isRowIn_14 rfl rfl ?_
    obtain ⟨z1, hz1, h0⟩ := bind_some h0
    refine A_sI (As := [.int x1, .int x2]) (rest := []) C (c_5_rowBits l D t x1 x2 hz1) mw_5_rowBits ml_5_160 st_5_rowBits (rmok rfl rfl) (cutN (wX t qX qR qL qY qA im bX ++ (wRd t qR qT qG bR ++ (wTx t qT bT ++ (wL t qG bG ++ (wL t qL bL ++ (wS t qA bA ++ (wY t qY qN fa bY ++ (wS t qN bN ++ (tail)))))))))) rfl rfl (Nat.le_of_ble_eq_true rfl) dX5_isRowIn_15 (fun x w1 hw1 => ?_)
    obtain ⟨rfl, rfl⟩ := hw1
    refine A_perm (ws' := (wX t qX qR qL qY qA im bX ++ (wRd t qR qT qG bR ++ (wTx t qT bT ++ (wL t qG bG ++ (wL t qL bL ++ (wS t qA bA ++ (wY t qY qN fa bY ++ (wS t qN bN ++ (tail)))))))))) ((cutN _).symm) ?_
    refine A_aload_n C 0 dX5_isRowIn_18 rfl rfl ?_
    obtain ⟨z2, hz2, h0⟩ := bind_some h0
    refine A_vI (As := []) (rest := [.int z1]) C 0 (c_5_daysIn l D t qX qR qT qG qL qA qY qN im fa tail bX bR bT bG bL bA bY bN hz2) mw_5_daysIn ml_5_125 im_5_daysIn sl_5_daysIn (rmok rfl rfl) (cut0 (wX t qX qR qL qY qA im bX ++ (wRd t qR qT qG bR ++ (wTx t qT bT ++ (wL t qG bG ++ (wL t qL bL ++ (wS t qA bA ++ (wY t qY qN fa bY ++ (wS t qN bN ++ (tail)))))))))) rfl (ci := 5) rfl rfl rfl (Nat.le_of_ble_eq_true rfl) dX5_isRowIn_19 (fun x w1 hw1 => ?_)
    obtain ⟨rfl, rfl⟩ := hw1
    refine A_perm (ws' := (wX t qX qR qL qY qA im bX ++ (wRd t qR qT qG bR ++ (wTx t qT bT ++ (wL t qG bG ++ (wL t qL bL ++ (wS t qA bA ++ (wY t qY qN fa bY ++ (wS t qN bN ++ (tail)))))))))) ((cut0 _).symm) ?_
    refine A_iconst C (-1 : Int32) dX5_isRowIn_22 (by decide) ?_
    refine A_ixor C dX5_isRowIn_23 ?_
    refine A_iand C dX5_isRowIn_24 ?_
    refine A_if_ne C 32 dX5_isRowIn_25 (by decide) h0 (fun h0 => ?_) (fun h0 => ?_)
    · exact A_loc [] rfl (t_5_isRowIn_32 C qX qR qT qG qL qA qY qN im fa tail bX bR bT bG bL bA bY bN r h0)
    · refine A_iconst C (1 : Int32) dX5_isRowIn_28 (by decide) ?_
      refine A_goto C 33 dX5_isRowIn_29 (by decide) ?_
      exact A_loc [] rfl (t_5_isRowIn_33 C qX qR qT qG qL qA qY qN im fa tail bX bR bT bG bL bA bY bN r (1 : Int32) h0)
def f_5_ripensNow_22 (bL : BV) (bN : BV) (y0 : Int32) : Option (Int32) :=
  ck (isb y0) (some y0)
theorem t_5_ripensNow_22 (C : CX p s m args meth c cX5_ripensNow 2 (some .boolean) RX5 D t) (qX : Nat → Nat) (qR : Nat → Nat) (qT : Nat → Nat) (qG : Nat → Nat) (qL : Nat → Nat) (qA : Nat → Nat) (qY : Nat → Nat) (qN : Nat → Nat) (im : Nat → Option Nat) (fa : Nat → Option Nat) (tail : va_W) (bX : BV) (bR : BV) (bT : BV) (bG : BV) (bL : BV) (bA : BV) (bY : BV) (bN : BV) (r : Int32) (y0 : Int32) (h0 : f_5_ripensNow_22 bL bN y0 = some r) : At p l e (rmD 5) s m args below meth c D 2 w0 (QI below args s D w0 (fun x w => r = x ∧ (wX t qX qR qL qY qA im bX ++ (wRd t qR qT qG bR ++ (wTx t qT bT ++ (wL t qG bG ++ (wL t qL bL ++ (wS t qA bA ++ (wY t qY qN fa bY ++ (wS t qN bN ++ (tail))))))))) = w) 0 0) 0 0 22 [] [.int y0] (wX t qX qR qL qY qA im bX ++ (wRd t qR qT qG bR ++ (wTx t qT bT ++ (wL t qG bG ++ (wL t qL bL ++ (wS t qA bA ++ (wY t qY qN fa bY ++ (wS t qN bN ++ (tail))))))))) := by
  unfold f_5_ripensNow_22 at h0
  obtain ⟨hz, h0⟩ := ck_some h0
  have h0 := Option.some.inj h0
  subst h0
  exact A_zret C dX5_ripensNow_22 hz ⟨rfl, rfl⟩
def f_5_ripensNow (bL : BV) (bN : BV) (x1 : Int32) : Option (Int32) :=
  (f_5_daysIn bL bN).bind (fun z1 => (f_0_ripensOn bL x1 z1).bind (fun z2 => if z2 = (-9 : Int32) then (f_5_ripensNow_22 bL bN (0 : Int32)) else (f_5_ripensNow_22 bL bN (1 : Int32))))
theorem c_5_ripensNow (l : Launch) (D : va_G) (t : ty4) (qX : Nat → Nat) (qR : Nat → Nat) (qT : Nat → Nat) (qG : Nat → Nat) (qL : Nat → Nat) (qA : Nat → Nat) (qY : Nat → Nat) (qN : Nat → Nat) (im : Nat → Option Nat) (fa : Nat → Option Nat) (tail : va_W) (bX : BV) (bR : BV) (bT : BV) (bG : BV) (bL : BV) (bA : BV) (bY : BV) (bN : BV) (x1 : Int32) {r : Int32} (h0 : f_5_ripensNow bL bN x1 = some r) : MetI l yX5_ripensNow cX5_ripensNow 2 (some .boolean) (rmD 5) D t [.ref (qX 99), .int x1] (wX t qX qR qL qY qA im bX ++ (wRd t qR qT qG bR ++ (wTx t qT bT ++ (wL t qG bG ++ (wL t qL bL ++ (wS t qA bA ++ (wY t qY qN fa bY ++ (wS t qN bN ++ (tail))))))))) (fun x w => r = x ∧ (wX t qX qR qL qY qA im bX ++ (wRd t qR qT qG bR ++ (wTx t qT bT ++ (wL t qG bG ++ (wL t qL bL ++ (wS t qA bA ++ (wY t qY qN fa bY ++ (wS t qN bN ++ (tail))))))))) = w) := by
  refine MetI_of (by decide +kernel) (Nat.le_of_ble_eq_true rfl) (fun p e s m below meth c C _ => ?_)
  unfold f_5_ripensNow at h0
  generalize hargs : (List.toArray [.ref (qX 99), .int x1] : Array Value) = args at C ⊢
  refine At.start (lv2 := [(0, .ref (qX 99)), (1, .int x1)]) rfl ?_
  refine A_aload_n C 0 dX5_ripensNow_0 rfl rfl ?_
  refine A_get (v := .ref (qL 99)) C 0 1 inG5 (ci := 5) rfl (by decide) fl_5_19 rfl rfl rfl dX5_ripensNow_1 ?_
  refine A_iload_n C 1 dX5_ripensNow_4 rfl rfl ?_
  refine A_aload_n C 0 dX5_ripensNow_5 rfl rfl ?_
  obtain ⟨z1, hz1, h0⟩ := bind_some h0
  refine A_vI (As := []) (rest := [.int x1, .ref (qL 99)]) C 0 (c_5_daysIn l D t qX qR qT qG qL qA qY qN im fa tail bX bR bT bG bL bA bY bN hz1) mw_5_daysIn ml_5_125 im_5_daysIn sl_5_daysIn (rmok rfl rfl) (cut0 (wX t qX qR qL qY qA im bX ++ (wRd t qR qT qG bR ++ (wTx t qT bT ++ (wL t qG bG ++ (wL t qL bL ++ (wS t qA bA ++ (wY t qY qN fa bY ++ (wS t qN bN ++ (tail)))))))))) rfl (ci := 5) rfl rfl rfl (Nat.le_of_ble_eq_true rfl) dX5_ripensNow_6 (fun x w1 hw1 => ?_)
  obtain ⟨rfl, rfl⟩ := hw1
  refine A_perm (ws' := (wX t qX qR qL qY qA im bX ++ (wRd t qR qT qG bR ++ (wTx t qT bT ++ (wL t qG bG ++ (wL t qL bL ++ (wS t qA bA ++ (wY t qY qN fa bY ++ (wS t qN bN ++ (tail)))))))))) ((cut0 _).symm) ?_
  obtain ⟨z2, hz2, h0⟩ := bind_some h0
  refine A_vI (As := [.int x1, .int z1]) (rest := []) C 0 (c_0_ripensOn l D t qL bL x1 z1 hz2) mw_0_ripensOn ml_5_128 im_0_ripensOn sl_0_ripensOn (rmok rfl rfl) (cutA (wX t qX qR qL qY qA im bX ++ (wRd t qR qT qG bR ++ (wTx t qT bT ++ (wL t qG bG)))) (wL t qL bL) (wS t qA bA ++ (wY t qY qN fa bY ++ (wS t qN bN ++ (tail))))) rfl (ci := 0) rfl rfl rfl (Nat.le_of_ble_eq_true rfl) dX5_ripensNow_9 (fun x w1 hw1 => ?_)
  obtain ⟨rfl, rfl⟩ := hw1
  refine A_perm (ws' := (wX t qX qR qL qY qA im bX ++ (wRd t qR qT qG bR ++ (wTx t qT bT ++ (wL t qG bG ++ (wL t qL bL ++ (wS t qA bA ++ (wY t qY qN fa bY ++ (wS t qN bN ++ (tail)))))))))) ((cutA (wX t qX qR qL qY qA im bX ++ (wRd t qR qT qG bR ++ (wTx t qT bT ++ (wL t qG bG)))) (wL t qL bL) (wS t qA bA ++ (wY t qY qN fa bY ++ (wS t qN bN ++ (tail))))).symm) ?_
  refine A_bipush C (-9 : Int32) dX5_ripensNow_12 (by decide) ?_
  refine A_icmp_eq C 21 dX5_ripensNow_14 (by decide) h0 (fun h0 => ?_) (fun h0 => ?_)
  · refine A_iconst C (0 : Int32) dX5_ripensNow_21 (by decide) ?_
    exact A_loc [] rfl (t_5_ripensNow_22 C qX qR qT qG qL qA qY qN im fa tail bX bR bT bG bL bA bY bN r (0 : Int32) h0)
  · refine A_iconst C (1 : Int32) dX5_ripensNow_17 (by decide) ?_
    refine A_goto C 22 dX5_ripensNow_18 (by decide) ?_
    exact A_loc [] rfl (t_5_ripensNow_22 C qX qR qT qG qL qA qY qN im fa tail bX bR bT bG bL bA bY bN r (1 : Int32) h0)
def f_5_cheapestRow_107 (bL : BV) (bN : BV) (k14 : Int32 → Int32 → Int32 → Int32 → Int32 → Option (Int32)) (k24 : Int32 → Int32 → Int32 → Int32 → Int32 → Int32 → Option (Int32)) (x1 : Int32) (x2 : Int32) (x3 : Int32) (x4 : Int32) (x5 : Int32) (x6 : Int32) : Option (Int32) :=
  k24 x1 x2 x3 x4 x5 (x6 + (1 : Int32))
theorem t_5_cheapestRow_107 (C : CX p s m args meth c cX5_cheapestRow 9 (some .int) RX5 D t) (qX : Nat → Nat) (qR : Nat → Nat) (qT : Nat → Nat) (qG : Nat → Nat) (qL : Nat → Nat) (qA : Nat → Nat) (qY : Nat → Nat) (qN : Nat → Nat) (im : Nat → Option Nat) (fa : Nat → Option Nat) (tail : va_W) (bX : BV) (bR : BV) (bT : BV) (bG : BV) (bL : BV) (bA : BV) (bY : BV) (bN : BV) (r : Int32) (k14 : Int32 → Int32 → Int32 → Int32 → Int32 → Option (Int32)) (K14 : ∀ (x1 : Int32) (x2 : Int32) (x3 : Int32) (x4 : Int32) (x5 : Int32), k14 x1 x2 x3 x4 x5 = some r → At p l e (rmD 5) s m args below meth c D 9 w0 (QI below args s D w0 (fun x w => r = x ∧ (wX t qX qR qL qY qA im bX ++ (wRd t qR qT qG bR ++ (wTx t qT bT ++ (wL t qG bG ++ (wL t qL bL ++ (wS t qA bA ++ (wY t qY qN fa bY ++ (wS t qN bN ++ (tail))))))))) = w) 0 0) 0 0 14 [(0, .ref (qX 99)), (1, .int x1), (2, .int x2), (3, .int x3), (4, .int x4), (5, .int x5)] [] (wX t qX qR qL qY qA im bX ++ (wRd t qR qT qG bR ++ (wTx t qT bT ++ (wL t qG bG ++ (wL t qL bL ++ (wS t qA bA ++ (wY t qY qN fa bY ++ (wS t qN bN ++ (tail)))))))))) (k24 : Int32 → Int32 → Int32 → Int32 → Int32 → Int32 → Option (Int32)) (K24 : ∀ (x1 : Int32) (x2 : Int32) (x3 : Int32) (x4 : Int32) (x5 : Int32) (x6 : Int32), k24 x1 x2 x3 x4 x5 x6 = some r → At p l e (rmD 5) s m args below meth c D 9 w0 (QI below args s D w0 (fun x w => r = x ∧ (wX t qX qR qL qY qA im bX ++ (wRd t qR qT qG bR ++ (wTx t qT bT ++ (wL t qG bG ++ (wL t qL bL ++ (wS t qA bA ++ (wY t qY qN fa bY ++ (wS t qN bN ++ (tail))))))))) = w) 0 0) 0 0 24 [(0, .ref (qX 99)), (1, .int x1), (2, .int x2), (3, .int x3), (4, .int x4), (5, .int x5), (6, .int x6)] [] (wX t qX qR qL qY qA im bX ++ (wRd t qR qT qG bR ++ (wTx t qT bT ++ (wL t qG bG ++ (wL t qL bL ++ (wS t qA bA ++ (wY t qY qN fa bY ++ (wS t qN bN ++ (tail)))))))))) (x1 : Int32) (x2 : Int32) (x3 : Int32) (x4 : Int32) (x5 : Int32) (x6 : Int32) (h0 : f_5_cheapestRow_107 bL bN k14 k24 x1 x2 x3 x4 x5 x6 = some r) : At p l e (rmD 5) s m args below meth c D 9 w0 (QI below args s D w0 (fun x w => r = x ∧ (wX t qX qR qL qY qA im bX ++ (wRd t qR qT qG bR ++ (wTx t qT bT ++ (wL t qG bG ++ (wL t qL bL ++ (wS t qA bA ++ (wY t qY qN fa bY ++ (wS t qN bN ++ (tail))))))))) = w) 0 0) 0 0 107 [(0, .ref (qX 99)), (1, .int x1), (2, .int x2), (3, .int x3), (4, .int x4), (5, .int x5), (6, .int x6)] [] (wX t qX qR qL qY qA im bX ++ (wRd t qR qT qG bR ++ (wTx t qT bT ++ (wL t qG bG ++ (wL t qL bL ++ (wS t qA bA ++ (wY t qY qN fa bY ++ (wS t qN bN ++ (tail))))))))) := by
  unfold f_5_cheapestRow_107 at h0
  refine A_iinc C 6 (x6 + (1 : Int32)) [(6, .int (x6 + (1 : Int32))), (0, .ref (qX 99)), (1, .int x1), (2, .int x2), (3, .int x3), (4, .int x4), (5, .int x5)] dX5_cheapestRow_107 rfl rfl (by decide) rfl ?_
  refine A_goto C 24 dX5_cheapestRow_110 (by decide) ?_
  exact A_loc [1, 2, 3, 4, 5, 6, 0] rfl (K24 x1 x2 x3 x4 x5 (x6 + (1 : Int32)) h0)
def f_5_cheapestRow_24_b (bL : BV) (bN : BV) (k14 : Int32 → Int32 → Int32 → Int32 → Int32 → Option (Int32)) (k24 : Int32 → Int32 → Int32 → Int32 → Int32 → Int32 → Option (Int32)) (x1 : Int32) (x2 : Int32) (x3 : Int32) (x4 : Int32) (x5 : Int32) (x6 : Int32) : Option (Int32) :=
  if (gI bL 1) < (x6 + x5) then (k14 x1 x2 x3 x4 (x5 + (1 : Int32))) else ((f_5_rowBits x6 x5).bind (fun z1 => if (z1 &&& (x2 ^^^ (-1 : Int32))) = 0 then ((f_0_lentFor bL x6 x5).bind (fun z2 => if z2 < x1 then (f_5_cheapestRow_107 bL bN k14 k24 x1 x2 x3 x4 x5 x6) else ((f_0_harvest bL (x2 &&& (z1 ^^^ (-1 : Int32)))).bind (fun z3 => if z3 ≤ x4 then (f_5_cheapestRow_107 bL bN k14 k24 x1 x2 x3 x4 x5 x6) else (f_5_cheapestRow_107 bL bN k14 k24 x1 x2 ((x6 * (100 : Int32)) + x5) z3 x5 x6))))) else (f_5_cheapestRow_107 bL bN k14 k24 x1 x2 x3 x4 x5 x6)))
theorem t_5_cheapestRow_24_b (C : CX p s m args meth c cX5_cheapestRow 9 (some .int) RX5 D t) (qX : Nat → Nat) (qR : Nat → Nat) (qT : Nat → Nat) (qG : Nat → Nat) (qL : Nat → Nat) (qA : Nat → Nat) (qY : Nat → Nat) (qN : Nat → Nat) (im : Nat → Option Nat) (fa : Nat → Option Nat) (tail : va_W) (bX : BV) (bR : BV) (bT : BV) (bG : BV) (bL : BV) (bA : BV) (bY : BV) (bN : BV) (r : Int32) (k14 : Int32 → Int32 → Int32 → Int32 → Int32 → Option (Int32)) (K14 : ∀ (x1 : Int32) (x2 : Int32) (x3 : Int32) (x4 : Int32) (x5 : Int32), k14 x1 x2 x3 x4 x5 = some r → At p l e (rmD 5) s m args below meth c D 9 w0 (QI below args s D w0 (fun x w => r = x ∧ (wX t qX qR qL qY qA im bX ++ (wRd t qR qT qG bR ++ (wTx t qT bT ++ (wL t qG bG ++ (wL t qL bL ++ (wS t qA bA ++ (wY t qY qN fa bY ++ (wS t qN bN ++ (tail))))))))) = w) 0 0) 0 0 14 [(0, .ref (qX 99)), (1, .int x1), (2, .int x2), (3, .int x3), (4, .int x4), (5, .int x5)] [] (wX t qX qR qL qY qA im bX ++ (wRd t qR qT qG bR ++ (wTx t qT bT ++ (wL t qG bG ++ (wL t qL bL ++ (wS t qA bA ++ (wY t qY qN fa bY ++ (wS t qN bN ++ (tail)))))))))) (k24 : Int32 → Int32 → Int32 → Int32 → Int32 → Int32 → Option (Int32)) (K24 : ∀ (x1 : Int32) (x2 : Int32) (x3 : Int32) (x4 : Int32) (x5 : Int32) (x6 : Int32), k24 x1 x2 x3 x4 x5 x6 = some r → At p l e (rmD 5) s m args below meth c D 9 w0 (QI below args s D w0 (fun x w => r = x ∧ (wX t qX qR qL qY qA im bX ++ (wRd t qR qT qG bR ++ (wTx t qT bT ++ (wL t qG bG ++ (wL t qL bL ++ (wS t qA bA ++ (wY t qY qN fa bY ++ (wS t qN bN ++ (tail))))))))) = w) 0 0) 0 0 24 [(0, .ref (qX 99)), (1, .int x1), (2, .int x2), (3, .int x3), (4, .int x4), (5, .int x5), (6, .int x6)] [] (wX t qX qR qL qY qA im bX ++ (wRd t qR qT qG bR ++ (wTx t qT bT ++ (wL t qG bG ++ (wL t qL bL ++ (wS t qA bA ++ (wY t qY qN fa bY ++ (wS t qN bN ++ (tail)))))))))) (x1 : Int32) (x2 : Int32) (x3 : Int32) (x4 : Int32) (x5 : Int32) (x6 : Int32) (h0 : f_5_cheapestRow_24_b bL bN k14 k24 x1 x2 x3 x4 x5 x6 = some r) : At p l e (rmD 5) s m args below meth c D 9 w0 (QI below args s D w0 (fun x w => r = x ∧ (wX t qX qR qL qY qA im bX ++ (wRd t qR qT qG bR ++ (wTx t qT bT ++ (wL t qG bG ++ (wL t qL bL ++ (wS t qA bA ++ (wY t qY qN fa bY ++ (wS t qN bN ++ (tail))))))))) = w) 0 0) 0 0 24 [(0, .ref (qX 99)), (1, .int x1), (2, .int x2), (3, .int x3), (4, .int x4), (5, .int x5), (6, .int x6)] [] (wX t qX qR qL qY qA im bX ++ (wRd t qR qT qG bR ++ (wTx t qT bT ++ (wL t qG bG ++ (wL t qL bL ++ (wS t qA bA ++ (wY t qY qN fa bY ++ (wS t qN bN ++ (tail))))))))) := by
  unfold f_5_cheapestRow_24_b at h0
  refine A_iload C 6 dX5_cheapestRow_24 rfl ?_
  refine A_iload C 5 dX5_cheapestRow_26 rfl ?_
  refine A_iadd C dX5_cheapestRow_28 ?_
  refine A_aload_n C 0 dX5_cheapestRow_29 rfl rfl ?_
  refine A_get (v := .ref (qL 99)) C 0 1 inG5 (ci := 5) rfl (by decide) fl_5_19 rfl rfl rfl dX5_cheapestRow_30 ?_
  refine A_get (v := .int (gI bL 1)) C 14 1 inG0 (ci := 0) rfl (by decide) fl_5_224 rfl rfl rfl dX5_cheapestRow_33 ?_
  refine A_icmp_gt C 113 dX5_cheapestRow_36 (by decide) h0 (fun h0 => ?_) (fun h0 => ?_)
  · refine A_iinc C 5 (x5 + (1 : Int32)) [(5, .int (x5 + (1 : Int32))), (0, .ref (qX 99)), (1, .int x1), (2, .int x2), (3, .int x3), (4, .int x4), (6, .int x6)] dX5_cheapestRow_113 rfl rfl (by decide) rfl ?_
    refine A_goto C 14 dX5_cheapestRow_116 (by decide) ?_
    exact A_loc [1, 2, 3, 4, 5, 0] rfl (K14 x1 x2 x3 x4 (x5 + (1 : Int32)) h0)
  · refine A_iload C 6 dX5_cheapestRow_39 rfl ?_
    refine A_iload C 5 dX5_cheapestRow_41 rfl ?_
    obtain ⟨z1, hz1, h0⟩ := bind_some h0
    refine A_sI (As := [.int x6, .int x5]) (rest := []) C (c_5_rowBits l D t x6 x5 hz1) mw_5_rowBits ml_5_160 st_5_rowBits (rmok rfl rfl) (cutN (wX t qX qR qL qY qA im bX ++ (wRd t qR qT qG bR ++ (wTx t qT bT ++ (wL t qG bG ++ (wL t qL bL ++ (wS t qA bA ++ (wY t qY qN fa bY ++ (wS t qN bN ++ (tail)))))))))) rfl rfl (Nat.le_of_ble_eq_true rfl) dX5_cheapestRow_43 (fun x w1 hw1 => ?_)
    obtain ⟨rfl, rfl⟩ := hw1
    refine A_perm (ws' := (wX t qX qR qL qY qA im bX ++ (wRd t qR qT qG bR ++ (wTx t qT bT ++ (wL t qG bG ++ (wL t qL bL ++ (wS t qA bA ++ (wY t qY qN fa bY ++ (wS t qN bN ++ (tail)))))))))) ((cutN _).symm) ?_
    refine A_istore C [(7, .int z1), (0, .ref (qX 99)), (1, .int x1), (2, .int x2), (3, .int x3), (4, .int x4), (5, .int x5), (6, .int x6)] dX5_cheapestRow_46 (by decide) rfl ?_
    refine A_iload C 0 dX5_cheapestRow_48 rfl ?_
    refine A_iload_n C 3 dX5_cheapestRow_50 rfl rfl ?_
    refine A_iconst C (-1 : Int32) dX5_cheapestRow_51 (by decide) ?_
    refine A_ixor C dX5_cheapestRow_52 ?_
    refine A_iand C dX5_cheapestRow_53 ?_
    refine A_if_ne C 107 dX5_cheapestRow_54 (by decide) h0 (fun h0 => ?_) (fun h0 => ?_)
    · exact A_loc [1, 2, 3, 4, 5, 6, 7] rfl (t_5_cheapestRow_107 C qX qR qT qG qL qA qY qN im fa tail bX bR bT bG bL bA bY bN r k14 K14 k24 K24 x1 x2 x3 x4 x5 x6 h0)
    · refine A_aload_n C 1 dX5_cheapestRow_57 rfl rfl ?_
      refine A_get (v := .ref (qL 99)) C 0 1 inG5 (ci := 5) rfl (by decide) fl_5_19 rfl rfl rfl dX5_cheapestRow_58 ?_
      refine A_iload C 7 dX5_cheapestRow_61 rfl ?_
      refine A_iload C 6 dX5_cheapestRow_63 rfl ?_
      obtain ⟨z2, hz2, h0⟩ := bind_some h0
      refine A_vI (As := [.int x6, .int x5]) (rest := []) C 0 (c_0_lentFor l D t qL bL x6 x5 hz2) mw_0_lentFor ml_5_157 im_0_lentFor sl_0_lentFor (rmok rfl rfl) (cutA (wX t qX qR qL qY qA im bX ++ (wRd t qR qT qG bR ++ (wTx t qT bT ++ (wL t qG bG)))) (wL t qL bL) (wS t qA bA ++ (wY t qY qN fa bY ++ (wS t qN bN ++ (tail))))) rfl (ci := 0) rfl rfl rfl (Nat.le_of_ble_eq_true rfl) dX5_cheapestRow_65 (fun x w1 hw1 => ?_)
      obtain ⟨rfl, rfl⟩ := hw1
      refine A_perm (ws' := (wX t qX qR qL qY qA im bX ++ (wRd t qR qT qG bR ++ (wTx t qT bT ++ (wL t qG bG ++ (wL t qL bL ++ (wS t qA bA ++ (wY t qY qN fa bY ++ (wS t qN bN ++ (tail)))))))))) ((cutA (wX t qX qR qL qY qA im bX ++ (wRd t qR qT qG bR ++ (wTx t qT bT ++ (wL t qG bG)))) (wL t qL bL) (wS t qA bA ++ (wY t qY qN fa bY ++ (wS t qN bN ++ (tail))))).symm) ?_
      refine A_iload_n C 2 dX5_cheapestRow_68 rfl rfl ?_
      refine A_icmp_lt C 107 dX5_cheapestRow_69 (by decide) h0 (fun h0 => ?_) (fun h0 => ?_)
      · exact A_loc [1, 2, 3, 4, 5, 6, 7] rfl (t_5_cheapestRow_107 C qX qR qT qG qL qA qY qN im fa tail bX bR bT bG bL bA bY bN r k14 K14 k24 K24 x1 x2 x3 x4 x5 x6 h0)
      · refine A_aload_n C 1 dX5_cheapestRow_72 rfl rfl ?_
        refine A_get (v := .ref (qL 99)) C 0 1 inG5 (ci := 5) rfl (by decide) fl_5_19 rfl rfl rfl dX5_cheapestRow_73 ?_
        refine A_iload_n C 3 dX5_cheapestRow_76 rfl rfl ?_
        refine A_iload C 0 dX5_cheapestRow_77 rfl ?_
        refine A_iconst C (-1 : Int32) dX5_cheapestRow_79 (by decide) ?_
        refine A_ixor C dX5_cheapestRow_80 ?_
        refine A_iand C dX5_cheapestRow_81 ?_
        obtain ⟨z3, hz3, h0⟩ := bind_some h0
        refine A_vI (As := [.int (x2 &&& (z1 ^^^ (-1 : Int32)))]) (rest := []) C 0 (c_0_harvest l D t qL bL (x2 &&& (z1 ^^^ (-1 : Int32))) hz3) mw_0_harvest ml_5_194 im_0_harvest sl_0_harvest (rmok rfl rfl) (cutA (wX t qX qR qL qY qA im bX ++ (wRd t qR qT qG bR ++ (wTx t qT bT ++ (wL t qG bG)))) (wL t qL bL) (wS t qA bA ++ (wY t qY qN fa bY ++ (wS t qN bN ++ (tail))))) rfl (ci := 0) rfl rfl rfl (Nat.le_of_ble_eq_true rfl) dX5_cheapestRow_82 (fun x w1 hw1 => ?_)
        obtain ⟨rfl, rfl⟩ := hw1
        refine A_perm (ws' := (wX t qX qR qL qY qA im bX ++ (wRd t qR qT qG bR ++ (wTx t qT bT ++ (wL t qG bG ++ (wL t qL bL ++ (wS t qA bA ++ (wY t qY qN fa bY ++ (wS t qN bN ++ (tail)))))))))) ((cutA (wX t qX qR qL qY qA im bX ++ (wRd t qR qT qG bR ++ (wTx t qT bT ++ (wL t qG bG)))) (wL t qL bL) (wS t qA bA ++ (wY t qY qN fa bY ++ (wS t qN bN ++ (tail))))).symm) ?_
        refine A_istore C [(8, .int z3), (7, .int z1), (0, .ref (qX 99)), (1, .int x1), (2, .int x2), (3, .int x3), (4, .int x4), (5, .int x5), (6, .int x6)] dX5_cheapestRow_85 (by decide) rfl ?_
        refine A_iload C 0 dX5_cheapestRow_87 rfl ?_
        refine A_iload C 6 dX5_cheapestRow_89 rfl ?_
        refine A_icmp_le C 107 dX5_cheapestRow_91 (by decide) h0 (fun h0 => ?_) (fun h0 => ?_)
        · exact A_loc [2, 3, 4, 5, 6, 7, 8] rfl (t_5_cheapestRow_107 C qX qR qT qG qL qA qY qN im fa tail bX bR bT bG bL bA bY bN r k14 K14 k24 K24 x1 x2 x3 x4 x5 x6 h0)
        · refine A_iload C 8 dX5_cheapestRow_94 rfl ?_
          refine A_bipush C (100 : Int32) dX5_cheapestRow_96 (by decide) ?_
          refine A_imul C dX5_cheapestRow_98 ?_
          refine A_iload C 7 dX5_cheapestRow_99 rfl ?_
          refine A_iadd C dX5_cheapestRow_101 ?_
          refine A_istore_n C [(3, .int ((x6 * (100 : Int32)) + x5)), (8, .int z3), (7, .int z1), (0, .ref (qX 99)), (1, .int x1), (2, .int x2), (4, .int x4), (5, .int x5), (6, .int x6)] dX5_cheapestRow_102 rfl (by decide) rfl ?_
          refine A_iload C 1 dX5_cheapestRow_103 rfl ?_
          refine A_istore C [(4, .int z3), (3, .int ((x6 * (100 : Int32)) + x5)), (8, .int z3), (7, .int z1), (0, .ref (qX 99)), (1, .int x1), (2, .int x2), (5, .int x5), (6, .int x6)] dX5_cheapestRow_105 (by decide) rfl ?_
          exact A_loc [4, 5, 6, 1, 0, 7, 8] rfl (t_5_cheapestRow_107 C qX qR qT qG qL qA qY qN im fa tail bX bR bT bG bL bA bY bN r k14 K14 k24 K24 x1 x2 ((x6 * (100 : Int32)) + x5) z3 x5 x6 h0)
def f_5_cheapestRow_24 (bL : BV) (bN : BV) (k14 : Int32 → Int32 → Int32 → Int32 → Int32 → Option (Int32)) : Nat → Int32 → Int32 → Int32 → Int32 → Int32 → Int32 → Option (Int32)
  | 0 => fun _ _ _ _ _ _ => none
  | n + 1 => f_5_cheapestRow_24_b bL bN k14 (f_5_cheapestRow_24 bL bN k14 n)
theorem t_5_cheapestRow_24 (C : CX p s m args meth c cX5_cheapestRow 9 (some .int) RX5 D t) (qX : Nat → Nat) (qR : Nat → Nat) (qT : Nat → Nat) (qG : Nat → Nat) (qL : Nat → Nat) (qA : Nat → Nat) (qY : Nat → Nat) (qN : Nat → Nat) (im : Nat → Option Nat) (fa : Nat → Option Nat) (tail : va_W) (bX : BV) (bR : BV) (bT : BV) (bG : BV) (bL : BV) (bA : BV) (bY : BV) (bN : BV) (r : Int32) (k14 : Int32 → Int32 → Int32 → Int32 → Int32 → Option (Int32)) (K14 : ∀ (x1 : Int32) (x2 : Int32) (x3 : Int32) (x4 : Int32) (x5 : Int32), k14 x1 x2 x3 x4 x5 = some r → At p l e (rmD 5) s m args below meth c D 9 w0 (QI below args s D w0 (fun x w => r = x ∧ (wX t qX qR qL qY qA im bX ++ (wRd t qR qT qG bR ++ (wTx t qT bT ++ (wL t qG bG ++ (wL t qL bL ++ (wS t qA bA ++ (wY t qY qN fa bY ++ (wS t qN bN ++ (tail))))))))) = w) 0 0) 0 0 14 [(0, .ref (qX 99)), (1, .int x1), (2, .int x2), (3, .int x3), (4, .int x4), (5, .int x5)] [] (wX t qX qR qL qY qA im bX ++ (wRd t qR qT qG bR ++ (wTx t qT bT ++ (wL t qG bG ++ (wL t qL bL ++ (wS t qA bA ++ (wY t qY qN fa bY ++ (wS t qN bN ++ (tail)))))))))) : ∀ (n : Nat), ∀ (x1 : Int32) (x2 : Int32) (x3 : Int32) (x4 : Int32) (x5 : Int32) (x6 : Int32), f_5_cheapestRow_24 bL bN k14 n x1 x2 x3 x4 x5 x6 = some r → At p l e (rmD 5) s m args below meth c D 9 w0 (QI below args s D w0 (fun x w => r = x ∧ (wX t qX qR qL qY qA im bX ++ (wRd t qR qT qG bR ++ (wTx t qT bT ++ (wL t qG bG ++ (wL t qL bL ++ (wS t qA bA ++ (wY t qY qN fa bY ++ (wS t qN bN ++ (tail))))))))) = w) 0 0) 0 0 24 [(0, .ref (qX 99)), (1, .int x1), (2, .int x2), (3, .int x3), (4, .int x4), (5, .int x5), (6, .int x6)] [] (wX t qX qR qL qY qA im bX ++ (wRd t qR qT qG bR ++ (wTx t qT bT ++ (wL t qG bG ++ (wL t qL bL ++ (wS t qA bA ++ (wY t qY qN fa bY ++ (wS t qN bN ++ (tail))))))))) := by
  intro n
  induction n with
  | zero =>
    intro x1 x2 x3 x4 x5 x6 h0
    have h0 : none = some r := h0
    cases h0
  | succ n ih =>
    intro x1 x2 x3 x4 x5 x6 h0
    exact t_5_cheapestRow_24_b C qX qR qT qG qL qA qY qN im fa tail bX bR bT bG bL bA bY bN r k14 K14 _ ih x1 x2 x3 x4 x5 x6 h0
def f_5_cheapestRow_14_b (bL : BV) (bN : BV) (k14 : Int32 → Int32 → Int32 → Int32 → Int32 → Option (Int32)) (x1 : Int32) (x2 : Int32) (x3 : Int32) (x4 : Int32) (x5 : Int32) : Option (Int32) :=
  if (9 : Int32) < x5 then (some x3) else (f_5_cheapestRow_24 bL bN k14 200 x1 x2 x3 x4 x5 (0 : Int32))
theorem t_5_cheapestRow_14_b (C : CX p s m args meth c cX5_cheapestRow 9 (some .int) RX5 D t) (qX : Nat → Nat) (qR : Nat → Nat) (qT : Nat → Nat) (qG : Nat → Nat) (qL : Nat → Nat) (qA : Nat → Nat) (qY : Nat → Nat) (qN : Nat → Nat) (im : Nat → Option Nat) (fa : Nat → Option Nat) (tail : va_W) (bX : BV) (bR : BV) (bT : BV) (bG : BV) (bL : BV) (bA : BV) (bY : BV) (bN : BV) (r : Int32) (k14 : Int32 → Int32 → Int32 → Int32 → Int32 → Option (Int32)) (K14 : ∀ (x1 : Int32) (x2 : Int32) (x3 : Int32) (x4 : Int32) (x5 : Int32), k14 x1 x2 x3 x4 x5 = some r → At p l e (rmD 5) s m args below meth c D 9 w0 (QI below args s D w0 (fun x w => r = x ∧ (wX t qX qR qL qY qA im bX ++ (wRd t qR qT qG bR ++ (wTx t qT bT ++ (wL t qG bG ++ (wL t qL bL ++ (wS t qA bA ++ (wY t qY qN fa bY ++ (wS t qN bN ++ (tail))))))))) = w) 0 0) 0 0 14 [(0, .ref (qX 99)), (1, .int x1), (2, .int x2), (3, .int x3), (4, .int x4), (5, .int x5)] [] (wX t qX qR qL qY qA im bX ++ (wRd t qR qT qG bR ++ (wTx t qT bT ++ (wL t qG bG ++ (wL t qL bL ++ (wS t qA bA ++ (wY t qY qN fa bY ++ (wS t qN bN ++ (tail)))))))))) (x1 : Int32) (x2 : Int32) (x3 : Int32) (x4 : Int32) (x5 : Int32) (h0 : f_5_cheapestRow_14_b bL bN k14 x1 x2 x3 x4 x5 = some r) : At p l e (rmD 5) s m args below meth c D 9 w0 (QI below args s D w0 (fun x w => r = x ∧ (wX t qX qR qL qY qA im bX ++ (wRd t qR qT qG bR ++ (wTx t qT bT ++ (wL t qG bG ++ (wL t qL bL ++ (wS t qA bA ++ (wY t qY qN fa bY ++ (wS t qN bN ++ (tail))))))))) = w) 0 0) 0 0 14 [(0, .ref (qX 99)), (1, .int x1), (2, .int x2), (3, .int x3), (4, .int x4), (5, .int x5)] [] (wX t qX qR qL qY qA im bX ++ (wRd t qR qT qG bR ++ (wTx t qT bT ++ (wL t qG bG ++ (wL t qL bL ++ (wS t qA bA ++ (wY t qY qN fa bY ++ (wS t qN bN ++ (tail))))))))) := by
  unfold f_5_cheapestRow_14_b at h0
  refine A_iload C 5 dX5_cheapestRow_14 rfl ?_
  refine A_bipush C (9 : Int32) dX5_cheapestRow_16 (by decide) ?_
  refine A_icmp_gt C 119 dX5_cheapestRow_18 (by decide) h0 (fun h0 => ?_) (fun h0 => ?_)
  · refine A_iload_n C 3 dX5_cheapestRow_119 rfl rfl ?_
    have h0 := Option.some.inj h0
    subst h0
    exact A_iret C dX5_cheapestRow_120 ⟨rfl, rfl⟩
  · refine A_iconst C (0 : Int32) dX5_cheapestRow_21 (by decide) ?_
    refine A_istore C [(6, .int (0 : Int32)), (0, .ref (qX 99)), (1, .int x1), (2, .int x2), (3, .int x3), (4, .int x4), (5, .int x5)] dX5_cheapestRow_22 (by decide) rfl ?_
    exact A_loc [1, 2, 3, 4, 5, 6, 0] rfl (t_5_cheapestRow_24 C qX qR qT qG qL qA qY qN im fa tail bX bR bT bG bL bA bY bN r k14 K14 200 x1 x2 x3 x4 x5 (0 : Int32) h0)
def f_5_cheapestRow_14 (bL : BV) (bN : BV) : Nat → Int32 → Int32 → Int32 → Int32 → Int32 → Option (Int32)
  | 0 => fun _ _ _ _ _ => none
  | n + 1 => f_5_cheapestRow_14_b bL bN (f_5_cheapestRow_14 bL bN n)
theorem t_5_cheapestRow_14 (C : CX p s m args meth c cX5_cheapestRow 9 (some .int) RX5 D t) (qX : Nat → Nat) (qR : Nat → Nat) (qT : Nat → Nat) (qG : Nat → Nat) (qL : Nat → Nat) (qA : Nat → Nat) (qY : Nat → Nat) (qN : Nat → Nat) (im : Nat → Option Nat) (fa : Nat → Option Nat) (tail : va_W) (bX : BV) (bR : BV) (bT : BV) (bG : BV) (bL : BV) (bA : BV) (bY : BV) (bN : BV) (r : Int32) : ∀ (n : Nat), ∀ (x1 : Int32) (x2 : Int32) (x3 : Int32) (x4 : Int32) (x5 : Int32), f_5_cheapestRow_14 bL bN n x1 x2 x3 x4 x5 = some r → At p l e (rmD 5) s m args below meth c D 9 w0 (QI below args s D w0 (fun x w => r = x ∧ (wX t qX qR qL qY qA im bX ++ (wRd t qR qT qG bR ++ (wTx t qT bT ++ (wL t qG bG ++ (wL t qL bL ++ (wS t qA bA ++ (wY t qY qN fa bY ++ (wS t qN bN ++ (tail))))))))) = w) 0 0) 0 0 14 [(0, .ref (qX 99)), (1, .int x1), (2, .int x2), (3, .int x3), (4, .int x4), (5, .int x5)] [] (wX t qX qR qL qY qA im bX ++ (wRd t qR qT qG bR ++ (wTx t qT bT ++ (wL t qG bG ++ (wL t qL bL ++ (wS t qA bA ++ (wY t qY qN fa bY ++ (wS t qN bN ++ (tail))))))))) := by
  intro n
  induction n with
  | zero =>
    intro x1 x2 x3 x4 x5 h0
    have h0 : none = some r := h0
    cases h0
  | succ n ih =>
    intro x1 x2 x3 x4 x5 h0
    exact t_5_cheapestRow_14_b C qX qR qT qG qL qA qY qN im fa tail bX bR bT bG bL bA bY bN r _ ih x1 x2 x3 x4 x5 h0
def f_5_cheapestRow (bL : BV) (bN : BV) (x1 : Int32) : Option (Int32) :=
  (f_5_daysIn bL bN).bind (fun z4 => f_5_cheapestRow_14 bL bN 200 x1 z4 (-9 : Int32) (-1 : Int32) (1 : Int32))
theorem c_5_cheapestRow (l : Launch) (D : va_G) (t : ty4) (qX : Nat → Nat) (qR : Nat → Nat) (qT : Nat → Nat) (qG : Nat → Nat) (qL : Nat → Nat) (qA : Nat → Nat) (qY : Nat → Nat) (qN : Nat → Nat) (im : Nat → Option Nat) (fa : Nat → Option Nat) (tail : va_W) (bX : BV) (bR : BV) (bT : BV) (bG : BV) (bL : BV) (bA : BV) (bY : BV) (bN : BV) (x1 : Int32) {r : Int32} (h0 : f_5_cheapestRow bL bN x1 = some r) : MetI l yX5_cheapestRow cX5_cheapestRow 9 (some .int) (rmD 5) D t [.ref (qX 99), .int x1] (wX t qX qR qL qY qA im bX ++ (wRd t qR qT qG bR ++ (wTx t qT bT ++ (wL t qG bG ++ (wL t qL bL ++ (wS t qA bA ++ (wY t qY qN fa bY ++ (wS t qN bN ++ (tail))))))))) (fun x w => r = x ∧ (wX t qX qR qL qY qA im bX ++ (wRd t qR qT qG bR ++ (wTx t qT bT ++ (wL t qG bG ++ (wL t qL bL ++ (wS t qA bA ++ (wY t qY qN fa bY ++ (wS t qN bN ++ (tail))))))))) = w) := by
  refine MetI_of (by decide +kernel) (Nat.le_of_ble_eq_true rfl) (fun p e s m below meth c C _ => ?_)
  unfold f_5_cheapestRow at h0
  generalize hargs : (List.toArray [.ref (qX 99), .int x1] : Array Value) = args at C ⊢
  refine At.start (lv2 := [(0, .ref (qX 99)), (1, .int x1)]) rfl ?_
  refine A_aload_n C 0 dX5_cheapestRow_0 rfl rfl ?_
  obtain ⟨z4, hz4, h0⟩ := bind_some h0
  refine A_vI (As := []) (rest := []) C 0 (c_5_daysIn l D t qX qR qT qG qL qA qY qN im fa tail bX bR bT bG bL bA bY bN hz4) mw_5_daysIn ml_5_125 im_5_daysIn sl_5_daysIn (rmok rfl rfl) (cut0 (wX t qX qR qL qY qA im bX ++ (wRd t qR qT qG bR ++ (wTx t qT bT ++ (wL t qG bG ++ (wL t qL bL ++ (wS t qA bA ++ (wY t qY qN fa bY ++ (wS t qN bN ++ (tail)))))))))) rfl (ci := 5) rfl rfl rfl (Nat.le_of_ble_eq_true rfl) dX5_cheapestRow_1 (fun x w1 hw1 => ?_)
  obtain ⟨rfl, rfl⟩ := hw1
  refine A_perm (ws' := (wX t qX qR qL qY qA im bX ++ (wRd t qR qT qG bR ++ (wTx t qT bT ++ (wL t qG bG ++ (wL t qL bL ++ (wS t qA bA ++ (wY t qY qN fa bY ++ (wS t qN bN ++ (tail)))))))))) ((cut0 _).symm) ?_
  refine A_istore_n C [(2, .int z4), (0, .ref (qX 99)), (1, .int x1)] dX5_cheapestRow_4 rfl (by decide) rfl ?_
  refine A_bipush C (-9 : Int32) dX5_cheapestRow_5 (by decide) ?_
  refine A_istore_n C [(3, .int (-9 : Int32)), (2, .int z4), (0, .ref (qX 99)), (1, .int x1)] dX5_cheapestRow_7 rfl (by decide) rfl ?_
  refine A_iconst C (-1 : Int32) dX5_cheapestRow_8 (by decide) ?_
  refine A_istore C [(4, .int (-1 : Int32)), (3, .int (-9 : Int32)), (2, .int z4), (0, .ref (qX 99)), (1, .int x1)] dX5_cheapestRow_9 (by decide) rfl ?_
  refine A_iconst C (1 : Int32) dX5_cheapestRow_11 (by decide) ?_
  refine A_istore C [(5, .int (1 : Int32)), (4, .int (-1 : Int32)), (3, .int (-9 : Int32)), (2, .int z4), (0, .ref (qX 99)), (1, .int x1)] dX5_cheapestRow_12 (by decide) rfl ?_
  exact A_loc [4, 5, 3, 2, 1, 0] rfl (t_5_cheapestRow_14 C qX qR qT qG qL qA qY qN im fa tail bX bR bT bG bL bA bY bN r 200 x1 z4 (-9 : Int32) (-1 : Int32) (1 : Int32) h0)
def f_5_bestFreeing_113 (bL : BV) (bN : BV) (k31 : Int32 → Int32 → Int32 → Int32 → Int32 → Option (Int32)) (x2 : Int32) (x3 : Int32) (x4 : Int32) (x5 : Int32) (x6 : Int32) : Option (Int32) :=
  k31 x2 x3 x4 x5 (x6 + (1 : Int32))
theorem t_5_bestFreeing_113 (C : CX p s m args meth c cX5_bestFreeing 9 (some .int) RX5 D t) (qX : Nat → Nat) (qR : Nat → Nat) (qT : Nat → Nat) (qG : Nat → Nat) (qL : Nat → Nat) (qA : Nat → Nat) (qY : Nat → Nat) (qN : Nat → Nat) (im : Nat → Option Nat) (fa : Nat → Option Nat) (tail : va_W) (bX : BV) (bR : BV) (bT : BV) (bG : BV) (bL : BV) (bA : BV) (bY : BV) (bN : BV) (r : Int32) (k31 : Int32 → Int32 → Int32 → Int32 → Int32 → Option (Int32)) (K31 : ∀ (x2 : Int32) (x3 : Int32) (x4 : Int32) (x5 : Int32) (x6 : Int32), k31 x2 x3 x4 x5 x6 = some r → At p l e (rmD 5) s m args below meth c D 9 w0 (QI below args s D w0 (fun x w => r = x ∧ (wX t qX qR qL qY qA im bX ++ (wRd t qR qT qG bR ++ (wTx t qT bT ++ (wL t qG bG ++ (wL t qL bL ++ (wS t qA bA ++ (wY t qY qN fa bY ++ (wS t qN bN ++ (tail))))))))) = w) 0 0) 0 0 31 [(0, .ref (qX 99)), (1, .ref (qN 99)), (2, .int x2), (3, .int x3), (4, .int x4), (5, .int x5), (6, .int x6)] [] (wX t qX qR qL qY qA im bX ++ (wRd t qR qT qG bR ++ (wTx t qT bT ++ (wL t qG bG ++ (wL t qL bL ++ (wS t qA bA ++ (wY t qY qN fa bY ++ (wS t qN bN ++ (tail)))))))))) (x2 : Int32) (x3 : Int32) (x4 : Int32) (x5 : Int32) (x6 : Int32) (h0 : f_5_bestFreeing_113 bL bN k31 x2 x3 x4 x5 x6 = some r) : At p l e (rmD 5) s m args below meth c D 9 w0 (QI below args s D w0 (fun x w => r = x ∧ (wX t qX qR qL qY qA im bX ++ (wRd t qR qT qG bR ++ (wTx t qT bT ++ (wL t qG bG ++ (wL t qL bL ++ (wS t qA bA ++ (wY t qY qN fa bY ++ (wS t qN bN ++ (tail))))))))) = w) 0 0) 0 0 113 [(0, .ref (qX 99)), (1, .ref (qN 99)), (2, .int x2), (3, .int x3), (4, .int x4), (5, .int x5), (6, .int x6)] [] (wX t qX qR qL qY qA im bX ++ (wRd t qR qT qG bR ++ (wTx t qT bT ++ (wL t qG bG ++ (wL t qL bL ++ (wS t qA bA ++ (wY t qY qN fa bY ++ (wS t qN bN ++ (tail))))))))) := by
  unfold f_5_bestFreeing_113 at h0
  refine A_iinc C 6 (x6 + (1 : Int32)) [(6, .int (x6 + (1 : Int32))), (0, .ref (qX 99)), (1, .ref (qN 99)), (2, .int x2), (3, .int x3), (4, .int x4), (5, .int x5)] dX5_bestFreeing_113 rfl rfl (by decide) rfl ?_
  refine A_goto C 31 dX5_bestFreeing_116 (by decide) ?_
  exact A_loc [1, 2, 3, 4, 5, 6, 0] rfl (K31 x2 x3 x4 x5 (x6 + (1 : Int32)) h0)
def f_5_bestFreeing_102 (bL : BV) (bN : BV) (k31 : Int32 → Int32 → Int32 → Int32 → Int32 → Option (Int32)) (x2 : Int32) (x6 : Int32) (x7 : Int32) (x8 : Int32) : Option (Int32) :=
  f_5_bestFreeing_113 bL bN k31 x2 x6 x7 x8 x6
theorem t_5_bestFreeing_102 (C : CX p s m args meth c cX5_bestFreeing 9 (some .int) RX5 D t) (qX : Nat → Nat) (qR : Nat → Nat) (qT : Nat → Nat) (qG : Nat → Nat) (qL : Nat → Nat) (qA : Nat → Nat) (qY : Nat → Nat) (qN : Nat → Nat) (im : Nat → Option Nat) (fa : Nat → Option Nat) (tail : va_W) (bX : BV) (bR : BV) (bT : BV) (bG : BV) (bL : BV) (bA : BV) (bY : BV) (bN : BV) (r : Int32) (k31 : Int32 → Int32 → Int32 → Int32 → Int32 → Option (Int32)) (K31 : ∀ (x2 : Int32) (x3 : Int32) (x4 : Int32) (x5 : Int32) (x6 : Int32), k31 x2 x3 x4 x5 x6 = some r → At p l e (rmD 5) s m args below meth c D 9 w0 (QI below args s D w0 (fun x w => r = x ∧ (wX t qX qR qL qY qA im bX ++ (wRd t qR qT qG bR ++ (wTx t qT bT ++ (wL t qG bG ++ (wL t qL bL ++ (wS t qA bA ++ (wY t qY qN fa bY ++ (wS t qN bN ++ (tail))))))))) = w) 0 0) 0 0 31 [(0, .ref (qX 99)), (1, .ref (qN 99)), (2, .int x2), (3, .int x3), (4, .int x4), (5, .int x5), (6, .int x6)] [] (wX t qX qR qL qY qA im bX ++ (wRd t qR qT qG bR ++ (wTx t qT bT ++ (wL t qG bG ++ (wL t qL bL ++ (wS t qA bA ++ (wY t qY qN fa bY ++ (wS t qN bN ++ (tail)))))))))) (x2 : Int32) (x6 : Int32) (x7 : Int32) (x8 : Int32) (h0 : f_5_bestFreeing_102 bL bN k31 x2 x6 x7 x8 = some r) : At p l e (rmD 5) s m args below meth c D 9 w0 (QI below args s D w0 (fun x w => r = x ∧ (wX t qX qR qL qY qA im bX ++ (wRd t qR qT qG bR ++ (wTx t qT bT ++ (wL t qG bG ++ (wL t qL bL ++ (wS t qA bA ++ (wY t qY qN fa bY ++ (wS t qN bN ++ (tail))))))))) = w) 0 0) 0 0 102 [(0, .ref (qX 99)), (1, .ref (qN 99)), (2, .int x2), (6, .int x6), (7, .int x7), (8, .int x8)] [] (wX t qX qR qL qY qA im bX ++ (wRd t qR qT qG bR ++ (wTx t qT bT ++ (wL t qG bG ++ (wL t qL bL ++ (wS t qA bA ++ (wY t qY qN fa bY ++ (wS t qN bN ++ (tail))))))))) := by
  unfold f_5_bestFreeing_102 at h0
  refine A_iload C 3 dX5_bestFreeing_102 rfl ?_
  refine A_istore_n C [(3, .int x6), (0, .ref (qX 99)), (1, .ref (qN 99)), (2, .int x2), (6, .int x6), (7, .int x7), (8, .int x8)] dX5_bestFreeing_104 rfl (by decide) rfl ?_
  refine A_iload C 5 dX5_bestFreeing_105 rfl ?_
  refine A_istore C [(4, .int x7), (3, .int x6), (0, .ref (qX 99)), (1, .ref (qN 99)), (2, .int x2), (6, .int x6), (7, .int x7), (8, .int x8)] dX5_bestFreeing_107 (by decide) rfl ?_
  refine A_iload C 7 dX5_bestFreeing_109 rfl ?_
  refine A_istore C [(5, .int x8), (4, .int x7), (3, .int x6), (0, .ref (qX 99)), (1, .ref (qN 99)), (2, .int x2), (6, .int x6), (7, .int x7), (8, .int x8)] dX5_bestFreeing_111 (by decide) rfl ?_
  exact A_loc [3, 4, 5, 2, 1, 0, 6] rfl (t_5_bestFreeing_113 C qX qR qT qG qL qA qY qN im fa tail bX bR bT bG bL bA bY bN r k31 K31 x2 x6 x7 x8 x6 h0)
def f_5_bestFreeing_31_b (bL : BV) (bN : BV) (k31 : Int32 → Int32 → Int32 → Int32 → Int32 → Option (Int32)) (x2 : Int32) (x3 : Int32) (x4 : Int32) (x5 : Int32) (x6 : Int32) : Option (Int32) :=
  if (16 : Int32) ≤ x6 then (some x3) else ((f_2_costOfSet bN x6).bind (fun z1 => (f_2_isSetOfLoans bN x6).bind (fun z2 => if z2 = 0 then (f_5_bestFreeing_113 bL bN k31 x2 x3 x4 x5 x6) else (if (gI bN 4) < z1 then (f_5_bestFreeing_113 bL bN k31 x2 x3 x4 x5 x6) else ((f_2_daysOfSet bN x6).bind (fun z3 => (f_0_harvest bL (x2 ||| z3)).bind (fun z4 => if x5 < z4 then (f_5_bestFreeing_102 bL bN k31 x2 x6 z1 z4) else (if z4 = x5 then (if x4 ≤ z1 then (f_5_bestFreeing_113 bL bN k31 x2 x3 x4 x5 x6) else (f_5_bestFreeing_102 bL bN k31 x2 x6 z1 z4)) else (f_5_bestFreeing_113 bL bN k31 x2 x3 x4 x5 x6)))))))))
theorem t_5_bestFreeing_31_b (C : CX p s m args meth c cX5_bestFreeing 9 (some .int) RX5 D t) (qX : Nat → Nat) (qR : Nat → Nat) (qT : Nat → Nat) (qG : Nat → Nat) (qL : Nat → Nat) (qA : Nat → Nat) (qY : Nat → Nat) (qN : Nat → Nat) (im : Nat → Option Nat) (fa : Nat → Option Nat) (tail : va_W) (bX : BV) (bR : BV) (bT : BV) (bG : BV) (bL : BV) (bA : BV) (bY : BV) (bN : BV) (r : Int32) (k31 : Int32 → Int32 → Int32 → Int32 → Int32 → Option (Int32)) (K31 : ∀ (x2 : Int32) (x3 : Int32) (x4 : Int32) (x5 : Int32) (x6 : Int32), k31 x2 x3 x4 x5 x6 = some r → At p l e (rmD 5) s m args below meth c D 9 w0 (QI below args s D w0 (fun x w => r = x ∧ (wX t qX qR qL qY qA im bX ++ (wRd t qR qT qG bR ++ (wTx t qT bT ++ (wL t qG bG ++ (wL t qL bL ++ (wS t qA bA ++ (wY t qY qN fa bY ++ (wS t qN bN ++ (tail))))))))) = w) 0 0) 0 0 31 [(0, .ref (qX 99)), (1, .ref (qN 99)), (2, .int x2), (3, .int x3), (4, .int x4), (5, .int x5), (6, .int x6)] [] (wX t qX qR qL qY qA im bX ++ (wRd t qR qT qG bR ++ (wTx t qT bT ++ (wL t qG bG ++ (wL t qL bL ++ (wS t qA bA ++ (wY t qY qN fa bY ++ (wS t qN bN ++ (tail)))))))))) (x2 : Int32) (x3 : Int32) (x4 : Int32) (x5 : Int32) (x6 : Int32) (h0 : f_5_bestFreeing_31_b bL bN k31 x2 x3 x4 x5 x6 = some r) : At p l e (rmD 5) s m args below meth c D 9 w0 (QI below args s D w0 (fun x w => r = x ∧ (wX t qX qR qL qY qA im bX ++ (wRd t qR qT qG bR ++ (wTx t qT bT ++ (wL t qG bG ++ (wL t qL bL ++ (wS t qA bA ++ (wY t qY qN fa bY ++ (wS t qN bN ++ (tail))))))))) = w) 0 0) 0 0 31 [(0, .ref (qX 99)), (1, .ref (qN 99)), (2, .int x2), (3, .int x3), (4, .int x4), (5, .int x5), (6, .int x6)] [] (wX t qX qR qL qY qA im bX ++ (wRd t qR qT qG bR ++ (wTx t qT bT ++ (wL t qG bG ++ (wL t qL bL ++ (wS t qA bA ++ (wY t qY qN fa bY ++ (wS t qN bN ++ (tail))))))))) := by
  unfold f_5_bestFreeing_31_b at h0
  refine A_iload C 6 dX5_bestFreeing_31 rfl ?_
  refine A_bipush C (16 : Int32) dX5_bestFreeing_33 (by decide) ?_
  refine A_icmp_ge C 119 dX5_bestFreeing_35 (by decide) h0 (fun h0 => ?_) (fun h0 => ?_)
  · refine A_iload_n C 3 dX5_bestFreeing_119 rfl rfl ?_
    have h0 := Option.some.inj h0
    subst h0
    exact A_iret C dX5_bestFreeing_120 ⟨rfl, rfl⟩
  · refine A_aload_n C 1 dX5_bestFreeing_38 rfl rfl ?_
    refine A_iload C 6 dX5_bestFreeing_39 rfl ?_
    obtain ⟨z1, hz1, h0⟩ := bind_some h0
    refine A_vI (As := [.int x6]) (rest := []) C 0 (c_2_costOfSet l D t qN bN x6 hz1) mw_2_costOfSet ml_5_280 im_2_costOfSet sl_2_costOfSet (rmok rfl rfl) (cutA (wX t qX qR qL qY qA im bX ++ (wRd t qR qT qG bR ++ (wTx t qT bT ++ (wL t qG bG ++ (wL t qL bL ++ (wS t qA bA ++ (wY t qY qN fa bY))))))) (wS t qN bN) (tail)) rfl (ci := 2) rfl rfl rfl (Nat.le_of_ble_eq_true rfl) dX5_bestFreeing_41 (fun x w1 hw1 => ?_)
    obtain ⟨rfl, rfl⟩ := hw1
    refine A_perm (ws' := (wX t qX qR qL qY qA im bX ++ (wRd t qR qT qG bR ++ (wTx t qT bT ++ (wL t qG bG ++ (wL t qL bL ++ (wS t qA bA ++ (wY t qY qN fa bY ++ (wS t qN bN ++ (tail)))))))))) ((cutA (wX t qX qR qL qY qA im bX ++ (wRd t qR qT qG bR ++ (wTx t qT bT ++ (wL t qG bG ++ (wL t qL bL ++ (wS t qA bA ++ (wY t qY qN fa bY))))))) (wS t qN bN) (tail)).symm) ?_
    refine A_istore C [(7, .int z1), (0, .ref (qX 99)), (1, .ref (qN 99)), (2, .int x2), (3, .int x3), (4, .int x4), (5, .int x5), (6, .int x6)] dX5_bestFreeing_44 (by decide) rfl ?_
    refine A_aload_n C 2 dX5_bestFreeing_46 rfl rfl ?_
    refine A_iload C 7 dX5_bestFreeing_47 rfl ?_
    obtain ⟨z2, hz2, h0⟩ := bind_some h0
    refine A_vI (As := [.int x6]) (rest := []) C 0 (c_2_isSetOfLoans l D t qN bN x6 hz2) mw_2_isSetOfLoans ml_5_283 im_2_isSetOfLoans sl_2_isSetOfLoans (rmok rfl rfl) (cutA (wX t qX qR qL qY qA im bX ++ (wRd t qR qT qG bR ++ (wTx t qT bT ++ (wL t qG bG ++ (wL t qL bL ++ (wS t qA bA ++ (wY t qY qN fa bY))))))) (wS t qN bN) (tail)) rfl (ci := 2) rfl rfl rfl (Nat.le_of_ble_eq_true rfl) dX5_bestFreeing_49 (fun x w1 hw1 => ?_)
    obtain ⟨rfl, rfl⟩ := hw1
    refine A_perm (ws' := (wX t qX qR qL qY qA im bX ++ (wRd t qR qT qG bR ++ (wTx t qT bT ++ (wL t qG bG ++ (wL t qL bL ++ (wS t qA bA ++ (wY t qY qN fa bY ++ (wS t qN bN ++ (tail)))))))))) ((cutA (wX t qX qR qL qY qA im bX ++ (wRd t qR qT qG bR ++ (wTx t qT bT ++ (wL t qG bG ++ (wL t qL bL ++ (wS t qA bA ++ (wY t qY qN fa bY))))))) (wS t qN bN) (tail)).symm) ?_
    refine A_if_eq C 113 dX5_bestFreeing_52 (by decide) h0 (fun h0 => ?_) (fun h0 => ?_)
    · exact A_loc [1, 2, 3, 4, 5, 6, 7] rfl (t_5_bestFreeing_113 C qX qR qT qG qL qA qY qN im fa tail bX bR bT bG bL bA bY bN r k31 K31 x2 x3 x4 x5 x6 h0)
    · refine A_iload C 0 dX5_bestFreeing_55 rfl ?_
      refine A_aload_n C 2 dX5_bestFreeing_57 rfl rfl ?_
      refine A_get (v := .int (gI bN 4)) C 26 4 inG2 (ci := 2) rfl (by decide) fl_5_167 rfl rfl rfl dX5_bestFreeing_58 ?_
      refine A_icmp_gt C 113 dX5_bestFreeing_61 (by decide) h0 (fun h0 => ?_) (fun h0 => ?_)
      · exact A_loc [1, 2, 3, 4, 5, 6, 7] rfl (t_5_bestFreeing_113 C qX qR qT qG qL qA qY qN im fa tail bX bR bT bG bL bA bY bN r k31 K31 x2 x3 x4 x5 x6 h0)
      · refine A_aload_n C 1 dX5_bestFreeing_64 rfl rfl ?_
        refine A_get (v := .ref (qL 99)) C 0 1 inG5 (ci := 5) rfl (by decide) fl_5_19 rfl rfl rfl dX5_bestFreeing_65 ?_
        refine A_iload_n C 3 dX5_bestFreeing_68 rfl rfl ?_
        refine A_aload_n C 2 dX5_bestFreeing_69 rfl rfl ?_
        refine A_iload C 7 dX5_bestFreeing_70 rfl ?_
        obtain ⟨z3, hz3, h0⟩ := bind_some h0
        refine A_vI (As := [.int x6]) (rest := [.int x2, .ref (qL 99)]) C 0 (c_2_daysOfSet l D t qN bN x6 hz3) mw_2_daysOfSet ml_5_209 im_2_daysOfSet sl_2_daysOfSet (rmok rfl rfl) (cutA (wX t qX qR qL qY qA im bX ++ (wRd t qR qT qG bR ++ (wTx t qT bT ++ (wL t qG bG ++ (wL t qL bL ++ (wS t qA bA ++ (wY t qY qN fa bY))))))) (wS t qN bN) (tail)) rfl (ci := 2) rfl rfl rfl (Nat.le_of_ble_eq_true rfl) dX5_bestFreeing_72 (fun x w1 hw1 => ?_)
        obtain ⟨rfl, rfl⟩ := hw1
        refine A_perm (ws' := (wX t qX qR qL qY qA im bX ++ (wRd t qR qT qG bR ++ (wTx t qT bT ++ (wL t qG bG ++ (wL t qL bL ++ (wS t qA bA ++ (wY t qY qN fa bY ++ (wS t qN bN ++ (tail)))))))))) ((cutA (wX t qX qR qL qY qA im bX ++ (wRd t qR qT qG bR ++ (wTx t qT bT ++ (wL t qG bG ++ (wL t qL bL ++ (wS t qA bA ++ (wY t qY qN fa bY))))))) (wS t qN bN) (tail)).symm) ?_
        refine A_ior C dX5_bestFreeing_75 ?_
        obtain ⟨z4, hz4, h0⟩ := bind_some h0
        refine A_vI (As := [.int (x2 ||| z3)]) (rest := []) C 0 (c_0_harvest l D t qL bL (x2 ||| z3) hz4) mw_0_harvest ml_5_194 im_0_harvest sl_0_harvest (rmok rfl rfl) (cutA (wX t qX qR qL qY qA im bX ++ (wRd t qR qT qG bR ++ (wTx t qT bT ++ (wL t qG bG)))) (wL t qL bL) (wS t qA bA ++ (wY t qY qN fa bY ++ (wS t qN bN ++ (tail))))) rfl (ci := 0) rfl rfl rfl (Nat.le_of_ble_eq_true rfl) dX5_bestFreeing_76 (fun x w1 hw1 => ?_)
        obtain ⟨rfl, rfl⟩ := hw1
        refine A_perm (ws' := (wX t qX qR qL qY qA im bX ++ (wRd t qR qT qG bR ++ (wTx t qT bT ++ (wL t qG bG ++ (wL t qL bL ++ (wS t qA bA ++ (wY t qY qN fa bY ++ (wS t qN bN ++ (tail)))))))))) ((cutA (wX t qX qR qL qY qA im bX ++ (wRd t qR qT qG bR ++ (wTx t qT bT ++ (wL t qG bG)))) (wL t qL bL) (wS t qA bA ++ (wY t qY qN fa bY ++ (wS t qN bN ++ (tail))))).symm) ?_
        refine A_istore C [(8, .int z4), (7, .int z1), (0, .ref (qX 99)), (1, .ref (qN 99)), (2, .int x2), (3, .int x3), (4, .int x4), (5, .int x5), (6, .int x6)] dX5_bestFreeing_79 (by decide) rfl ?_
        refine A_iload C 0 dX5_bestFreeing_81 rfl ?_
        refine A_iload C 7 dX5_bestFreeing_83 rfl ?_
        refine A_icmp_gt C 102 dX5_bestFreeing_85 (by decide) h0 (fun h0 => ?_) (fun h0 => ?_)
        · exact A_loc [2, 3, 4, 8, 1, 0] rfl (t_5_bestFreeing_102 C qX qR qT qG qL qA qY qN im fa tail bX bR bT bG bL bA bY bN r k31 K31 x2 x6 z1 z4 h0)
        · refine A_iload C 0 dX5_bestFreeing_88 rfl ?_
          refine A_iload C 7 dX5_bestFreeing_90 rfl ?_
          refine A_icmp_ne C 113 dX5_bestFreeing_92 (by decide) h0 (fun h0 => ?_) (fun h0 => ?_)
          · exact A_loc [2, 3, 4, 5, 6, 7, 8] rfl (t_5_bestFreeing_113 C qX qR qT qG qL qA qY qN im fa tail bX bR bT bG bL bA bY bN r k31 K31 x2 x3 x4 x5 x6 h0)
          · refine A_iload C 1 dX5_bestFreeing_95 rfl ?_
            refine A_iload C 6 dX5_bestFreeing_97 rfl ?_
            refine A_icmp_ge C 113 dX5_bestFreeing_99 (by decide) h0 (fun h0 => ?_) (fun h0 => ?_)
            · exact A_loc [2, 3, 4, 5, 6, 7, 8] rfl (t_5_bestFreeing_113 C qX qR qT qG qL qA qY qN im fa tail bX bR bT bG bL bA bY bN r k31 K31 x2 x3 x4 x5 x6 h0)
            · exact A_loc [2, 3, 4, 8, 1, 0] rfl (t_5_bestFreeing_102 C qX qR qT qG qL qA qY qN im fa tail bX bR bT bG bL bA bY bN r k31 K31 x2 x6 z1 z4 h0)
def f_5_bestFreeing_31 (bL : BV) (bN : BV) : Nat → Int32 → Int32 → Int32 → Int32 → Int32 → Option (Int32)
  | 0 => fun _ _ _ _ _ => none
  | n + 1 => f_5_bestFreeing_31_b bL bN (f_5_bestFreeing_31 bL bN n)
theorem t_5_bestFreeing_31 (C : CX p s m args meth c cX5_bestFreeing 9 (some .int) RX5 D t) (qX : Nat → Nat) (qR : Nat → Nat) (qT : Nat → Nat) (qG : Nat → Nat) (qL : Nat → Nat) (qA : Nat → Nat) (qY : Nat → Nat) (qN : Nat → Nat) (im : Nat → Option Nat) (fa : Nat → Option Nat) (tail : va_W) (bX : BV) (bR : BV) (bT : BV) (bG : BV) (bL : BV) (bA : BV) (bY : BV) (bN : BV) (r : Int32) : ∀ (n : Nat), ∀ (x2 : Int32) (x3 : Int32) (x4 : Int32) (x5 : Int32) (x6 : Int32), f_5_bestFreeing_31 bL bN n x2 x3 x4 x5 x6 = some r → At p l e (rmD 5) s m args below meth c D 9 w0 (QI below args s D w0 (fun x w => r = x ∧ (wX t qX qR qL qY qA im bX ++ (wRd t qR qT qG bR ++ (wTx t qT bT ++ (wL t qG bG ++ (wL t qL bL ++ (wS t qA bA ++ (wY t qY qN fa bY ++ (wS t qN bN ++ (tail))))))))) = w) 0 0) 0 0 31 [(0, .ref (qX 99)), (1, .ref (qN 99)), (2, .int x2), (3, .int x3), (4, .int x4), (5, .int x5), (6, .int x6)] [] (wX t qX qR qL qY qA im bX ++ (wRd t qR qT qG bR ++ (wTx t qT bT ++ (wL t qG bG ++ (wL t qL bL ++ (wS t qA bA ++ (wY t qY qN fa bY ++ (wS t qN bN ++ (tail))))))))) := by
  intro n
  induction n with
  | zero =>
    intro x2 x3 x4 x5 x6 h0
    have h0 : none = some r := h0
    cases h0
  | succ n ih =>
    intro x2 x3 x4 x5 x6 h0
    exact t_5_bestFreeing_31_b C qX qR qT qG qL qA qY qN im fa tail bX bR bT bG bL bA bY bN r _ ih x2 x3 x4 x5 x6 h0
def f_5_bestFreeing (bL : BV) (bN : BV) : Option (Int32) :=
  (f_5_daysIn bL bN).bind (fun z5 => (f_0_harvest bL z5).bind (fun z6 => f_5_bestFreeing_31 bL bN 200 z5 (0 : Int32) (0 : Int32) z6 (1 : Int32)))
theorem c_5_bestFreeing (l : Launch) (D : va_G) (t : ty4) (qX : Nat → Nat) (qR : Nat → Nat) (qT : Nat → Nat) (qG : Nat → Nat) (qL : Nat → Nat) (qA : Nat → Nat) (qY : Nat → Nat) (qN : Nat → Nat) (im : Nat → Option Nat) (fa : Nat → Option Nat) (tail : va_W) (bX : BV) (bR : BV) (bT : BV) (bG : BV) (bL : BV) (bA : BV) (bY : BV) (bN : BV) {r : Int32} (h0 : f_5_bestFreeing bL bN = some r) : MetI l yX5_bestFreeing cX5_bestFreeing 9 (some .int) (rmD 5) D t [.ref (qX 99)] (wX t qX qR qL qY qA im bX ++ (wRd t qR qT qG bR ++ (wTx t qT bT ++ (wL t qG bG ++ (wL t qL bL ++ (wS t qA bA ++ (wY t qY qN fa bY ++ (wS t qN bN ++ (tail))))))))) (fun x w => r = x ∧ (wX t qX qR qL qY qA im bX ++ (wRd t qR qT qG bR ++ (wTx t qT bT ++ (wL t qG bG ++ (wL t qL bL ++ (wS t qA bA ++ (wY t qY qN fa bY ++ (wS t qN bN ++ (tail))))))))) = w) := by
  refine MetI_of (by decide +kernel) (Nat.le_of_ble_eq_true rfl) (fun p e s m below meth c C _ => ?_)
  unfold f_5_bestFreeing at h0
  generalize hargs : (List.toArray [.ref (qX 99)] : Array Value) = args at C ⊢
  refine At.start (lv2 := [(0, .ref (qX 99))]) rfl ?_
  refine A_aload_n C 0 dX5_bestFreeing_0 rfl rfl ?_
  refine A_get (v := .ref (qY 99)) C 0 2 inG5 (ci := 5) rfl (by decide) fl_5_26 rfl rfl rfl dX5_bestFreeing_1 ?_
  refine A_get (v := .ref (qN 99)) C 24 0 inG3 (ci := 3) rfl (by decide) fl_5_104 rfl rfl rfl dX5_bestFreeing_4 ?_
  refine A_astore_n C [(1, .ref (qN 99)), (0, .ref (qX 99))] dX5_bestFreeing_7 rfl (by decide) rfl ?_
  refine A_aload_n C 1 dX5_bestFreeing_8 rfl rfl ?_
  obtain ⟨z5, hz5, h0⟩ := bind_some h0
  refine A_vI (As := []) (rest := []) C 0 (c_5_daysIn l D t qX qR qT qG qL qA qY qN im fa tail bX bR bT bG bL bA bY bN hz5) mw_5_daysIn ml_5_125 im_5_daysIn sl_5_daysIn (rmok rfl rfl) (cut0 (wX t qX qR qL qY qA im bX ++ (wRd t qR qT qG bR ++ (wTx t qT bT ++ (wL t qG bG ++ (wL t qL bL ++ (wS t qA bA ++ (wY t qY qN fa bY ++ (wS t qN bN ++ (tail)))))))))) rfl (ci := 5) rfl rfl rfl (Nat.le_of_ble_eq_true rfl) dX5_bestFreeing_9 (fun x w1 hw1 => ?_)
  obtain ⟨rfl, rfl⟩ := hw1
  refine A_perm (ws' := (wX t qX qR qL qY qA im bX ++ (wRd t qR qT qG bR ++ (wTx t qT bT ++ (wL t qG bG ++ (wL t qL bL ++ (wS t qA bA ++ (wY t qY qN fa bY ++ (wS t qN bN ++ (tail)))))))))) ((cut0 _).symm) ?_
  refine A_istore_n C [(2, .int z5), (1, .ref (qN 99)), (0, .ref (qX 99))] dX5_bestFreeing_12 rfl (by decide) rfl ?_
  refine A_iconst C (0 : Int32) dX5_bestFreeing_13 (by decide) ?_
  refine A_istore_n C [(3, .int (0 : Int32)), (2, .int z5), (1, .ref (qN 99)), (0, .ref (qX 99))] dX5_bestFreeing_14 rfl (by decide) rfl ?_
  refine A_iconst C (0 : Int32) dX5_bestFreeing_15 (by decide) ?_
  refine A_istore C [(4, .int (0 : Int32)), (3, .int (0 : Int32)), (2, .int z5), (1, .ref (qN 99)), (0, .ref (qX 99))] dX5_bestFreeing_16 (by decide) rfl ?_
  refine A_aload_n C 4 dX5_bestFreeing_18 rfl rfl ?_
  refine A_get (v := .ref (qL 99)) C 0 1 inG5 (ci := 5) rfl (by decide) fl_5_19 rfl rfl rfl dX5_bestFreeing_19 ?_
  refine A_iload_n C 2 dX5_bestFreeing_22 rfl rfl ?_
  obtain ⟨z6, hz6, h0⟩ := bind_some h0
  refine A_vI (As := [.int z5]) (rest := []) C 0 (c_0_harvest l D t qL bL z5 hz6) mw_0_harvest ml_5_194 im_0_harvest sl_0_harvest (rmok rfl rfl) (cutA (wX t qX qR qL qY qA im bX ++ (wRd t qR qT qG bR ++ (wTx t qT bT ++ (wL t qG bG)))) (wL t qL bL) (wS t qA bA ++ (wY t qY qN fa bY ++ (wS t qN bN ++ (tail))))) rfl (ci := 0) rfl rfl rfl (Nat.le_of_ble_eq_true rfl) dX5_bestFreeing_23 (fun x w1 hw1 => ?_)
  obtain ⟨rfl, rfl⟩ := hw1
  refine A_perm (ws' := (wX t qX qR qL qY qA im bX ++ (wRd t qR qT qG bR ++ (wTx t qT bT ++ (wL t qG bG ++ (wL t qL bL ++ (wS t qA bA ++ (wY t qY qN fa bY ++ (wS t qN bN ++ (tail)))))))))) ((cutA (wX t qX qR qL qY qA im bX ++ (wRd t qR qT qG bR ++ (wTx t qT bT ++ (wL t qG bG)))) (wL t qL bL) (wS t qA bA ++ (wY t qY qN fa bY ++ (wS t qN bN ++ (tail))))).symm) ?_
  refine A_istore C [(5, .int z6), (4, .int (0 : Int32)), (3, .int (0 : Int32)), (2, .int z5), (1, .ref (qN 99)), (0, .ref (qX 99))] dX5_bestFreeing_26 (by decide) rfl ?_
  refine A_iconst C (1 : Int32) dX5_bestFreeing_28 (by decide) ?_
  refine A_istore C [(6, .int (1 : Int32)), (5, .int z6), (4, .int (0 : Int32)), (3, .int (0 : Int32)), (2, .int z5), (1, .ref (qN 99)), (0, .ref (qX 99))] dX5_bestFreeing_29 (by decide) rfl ?_
  exact A_loc [6, 5, 4, 3, 2, 1, 0] rfl (t_5_bestFreeing_31 C qX qR qT qG qL qA qY qN im fa tail bX bR bT bG bL bA bY bN r 200 z5 (0 : Int32) (0 : Int32) z6 (1 : Int32) h0)
def f_5_markAsSloe_31 (bL : BV) (bN : BV) (bX : BV) (y0 : Int32) (y1 : Int32) : Option (Int32 × BV) :=
  some ((y1 + y0), bX)
theorem t_5_markAsSloe_31 (C : CX p s m args meth c cX5_markAsSloe 2 (some .int) RX5 D t) (qX : Nat → Nat) (qR : Nat → Nat) (qT : Nat → Nat) (qG : Nat → Nat) (qL : Nat → Nat) (qA : Nat → Nat) (qY : Nat → Nat) (qN : Nat → Nat) (im : Nat → Option Nat) (fa : Nat → Option Nat) (tail : va_W) (bR : BV) (bT : BV) (bG : BV) (bL : BV) (bA : BV) (bY : BV) (bN : BV) (r : Int32 × BV) (bX : BV) (y0 : Int32) (y1 : Int32) (h0 : f_5_markAsSloe_31 bL bN bX y0 y1 = some r) : At p l e (rmD 6) s m args below meth c D 2 w0 (QI below args s D w0 (fun x w => r.1 = x ∧ (wX t qX qR qL qY qA im r.2 ++ (wRd t qR qT qG bR ++ (wTx t qT bT ++ (wL t qG bG ++ (wL t qL bL ++ (wS t qA bA ++ (wY t qY qN fa bY ++ (wS t qN bN ++ (tail))))))))) = w) 0 0) 0 0 31 [] [.int y0, .int y1] (wX t qX qR qL qY qA im bX ++ (wRd t qR qT qG bR ++ (wTx t qT bT ++ (wL t qG bG ++ (wL t qL bL ++ (wS t qA bA ++ (wY t qY qN fa bY ++ (wS t qN bN ++ (tail))))))))) := by
  unfold f_5_markAsSloe_31 at h0
  refine A_iadd C dX5_markAsSloe_31 ?_
  have h0 := Option.some.inj h0
  subst h0
  exact A_iret C dX5_markAsSloe_32 ⟨rfl, rfl⟩
def f_5_markAsSloe (bX : BV) (bL : BV) (bN : BV) (x1 : Int32) : Option (Int32 × BV) :=
  (f_5_markAsPlum (pJ bX ((gJ bX) + (10000 : Int64))) bL x1).bind (fun z1 => (f_5_ripensNow bL bN x1).bind (fun z2 => if z2 = 0 then (f_5_markAsSloe_31 bL bN z1.2 (0 : Int32) z1.1) else (f_5_markAsSloe_31 bL bN z1.2 (9 : Int32) z1.1)))
theorem c_5_markAsSloe (l : Launch) (D : va_G) (t : ty4) (qX : Nat → Nat) (qR : Nat → Nat) (qT : Nat → Nat) (qG : Nat → Nat) (qL : Nat → Nat) (qA : Nat → Nat) (qY : Nat → Nat) (qN : Nat → Nat) (im : Nat → Option Nat) (fa : Nat → Option Nat) (tail : va_W) (bX : BV) (bR : BV) (bT : BV) (bG : BV) (bL : BV) (bA : BV) (bY : BV) (bN : BV) (x1 : Int32) {r : Int32 × BV} (h0 : f_5_markAsSloe bX bL bN x1 = some r) : MetI l yX5_markAsSloe cX5_markAsSloe 2 (some .int) (rmD 6) D t [.ref (qX 99), .int x1] (wX t qX qR qL qY qA im bX ++ (wRd t qR qT qG bR ++ (wTx t qT bT ++ (wL t qG bG ++ (wL t qL bL ++ (wS t qA bA ++ (wY t qY qN fa bY ++ (wS t qN bN ++ (tail))))))))) (fun x w => r.1 = x ∧ (wX t qX qR qL qY qA im r.2 ++ (wRd t qR qT qG bR ++ (wTx t qT bT ++ (wL t qG bG ++ (wL t qL bL ++ (wS t qA bA ++ (wY t qY qN fa bY ++ (wS t qN bN ++ (tail))))))))) = w) := by
  refine MetI_of (by decide +kernel) (Nat.le_of_ble_eq_true rfl) (fun p e s m below meth c C _ => ?_)
  unfold f_5_markAsSloe at h0
  generalize hargs : (List.toArray [.ref (qX 99), .int x1] : Array Value) = args at C ⊢
  refine At.start (lv2 := [(0, .ref (qX 99)), (1, .int x1)]) rfl ?_
  refine A_aload_n C 0 dX5_markAsSloe_0 rfl rfl ?_
  refine A_dup C dX5_markAsSloe_1 rfl ?_
  refine A_get (v := .long (gJ bX)) C 0 9 inG5 (ci := 5) rfl (by decide) fl_5_56 rfl rfl rfl dX5_markAsSloe_2 ?_
  refine A_ldc2 (v := (10000 : Int64)) C cl_5_292 dX5_markAsSloe_5 ?_
  refine A_ladd C dX5_markAsSloe_8 ?_
  refine A_put C 0 9 (wX t qX qR qL qY qA im (pJ bX ((gJ bX) + (10000 : Int64))) ++ (wRd t qR qT qG bR ++ (wTx t qT bT ++ (wL t qG bG ++ (wL t qL bL ++ (wS t qA bA ++ (wY t qY qN fa bY ++ (wS t qN bN ++ (tail))))))))) tyX5 inG5 tyX5_ok nmX5 (ci := 5) rfl (by decide) fl_5_56 rfl rfl rfl rfl rfl (Nat.le_of_ble_eq_true rfl) rfl dX5_markAsSloe_9 ?_
  refine A_aload_n C 0 dX5_markAsSloe_12 rfl rfl ?_
  refine A_iload_n C 1 dX5_markAsSloe_13 rfl rfl ?_
  obtain ⟨z1, hz1, h0⟩ := bind_some h0
  refine A_vI (As := [.int x1]) (rest := []) C 0 (c_5_markAsPlum l D t qX qR qT qG qL qA qY qN im fa tail (pJ bX ((gJ bX) + (10000 : Int64))) bR bT bG bL bA bY bN x1 hz1) mw_5_markAsPlum ml_5_247 im_5_markAsPlum sl_5_markAsPlum (rmok rfl rfl) (cut0 (wX t qX qR qL qY qA im (pJ bX ((gJ bX) + (10000 : Int64))) ++ (wRd t qR qT qG bR ++ (wTx t qT bT ++ (wL t qG bG ++ (wL t qL bL ++ (wS t qA bA ++ (wY t qY qN fa bY ++ (wS t qN bN ++ (tail)))))))))) rfl (ci := 5) rfl rfl rfl (Nat.le_of_ble_eq_true rfl) dX5_markAsSloe_14 (fun x w1 hw1 => ?_)
  obtain ⟨rfl, rfl⟩ := hw1
  refine A_perm (ws' := (wX t qX qR qL qY qA im z1.2 ++ (wRd t qR qT qG bR ++ (wTx t qT bT ++ (wL t qG bG ++ (wL t qL bL ++ (wS t qA bA ++ (wY t qY qN fa bY ++ (wS t qN bN ++ (tail)))))))))) ((cut0 _).symm) ?_
  refine A_aload_n C 0 dX5_markAsSloe_17 rfl rfl ?_
  refine A_iload_n C 1 dX5_markAsSloe_18 rfl rfl ?_
  obtain ⟨z2, hz2, h0⟩ := bind_some h0
  refine A_vI (As := [.int x1]) (rest := [.int z1.1]) C 0 (c_5_ripensNow l D t qX qR qT qG qL qA qY qN im fa tail z1.2 bR bT bG bL bA bY bN x1 hz2) mw_5_ripensNow ml_5_122 im_5_ripensNow sl_5_ripensNow (rmok rfl rfl) (cut0 (wX t qX qR qL qY qA im z1.2 ++ (wRd t qR qT qG bR ++ (wTx t qT bT ++ (wL t qG bG ++ (wL t qL bL ++ (wS t qA bA ++ (wY t qY qN fa bY ++ (wS t qN bN ++ (tail)))))))))) rfl (ci := 5) rfl rfl rfl (Nat.le_of_ble_eq_true rfl) dX5_markAsSloe_19 (fun x w1 hw1 => ?_)
  obtain ⟨rfl, rfl⟩ := hw1
  refine A_perm (ws' := (wX t qX qR qL qY qA im z1.2 ++ (wRd t qR qT qG bR ++ (wTx t qT bT ++ (wL t qG bG ++ (wL t qL bL ++ (wS t qA bA ++ (wY t qY qN fa bY ++ (wS t qN bN ++ (tail)))))))))) ((cut0 _).symm) ?_
  refine A_if_eq C 30 dX5_markAsSloe_22 (by decide) h0 (fun h0 => ?_) (fun h0 => ?_)
  · refine A_iconst C (0 : Int32) dX5_markAsSloe_30 (by decide) ?_
    exact A_loc [] rfl (t_5_markAsSloe_31 C qX qR qT qG qL qA qY qN im fa tail bR bT bG bL bA bY bN r z1.2 (0 : Int32) z1.1 h0)
  · refine A_bipush C (9 : Int32) dX5_markAsSloe_25 (by decide) ?_
    refine A_goto C 31 dX5_markAsSloe_27 (by decide) ?_
    exact A_loc [] rfl (t_5_markAsSloe_31 C qX qR qT qG qL qA qY qN im fa tail bR bT bG bL bA bY bN r z1.2 (9 : Int32) z1.1 h0)
def f_5_crop_87 (bL : BV) (bN : BV) (y0 : Int32) : Option (Int32) :=
  some y0
theorem t_5_crop_87 (C : CX p s m args meth c cX5_crop 3 (some .int) RX5 D t) (qX : Nat → Nat) (qR : Nat → Nat) (qT : Nat → Nat) (qG : Nat → Nat) (qL : Nat → Nat) (qA : Nat → Nat) (qY : Nat → Nat) (qN : Nat → Nat) (im : Nat → Option Nat) (fa : Nat → Option Nat) (tail : va_W) (bX : BV) (bR : BV) (bT : BV) (bG : BV) (bL : BV) (bA : BV) (bY : BV) (bN : BV) (r : Int32) (y0 : Int32) (h0 : f_5_crop_87 bL bN y0 = some r) : At p l e (rmD 6) s m args below meth c D 3 w0 (QI below args s D w0 (fun x w => r = x ∧ (wX t qX qR qL qY qA im bX ++ (wRd t qR qT qG bR ++ (wTx t qT bT ++ (wL t qG bG ++ (wL t qL bL ++ (wS t qA bA ++ (wY t qY qN fa bY ++ (wS t qN bN ++ (tail))))))))) = w) 0 0) 0 0 87 [] [.int y0] (wX t qX qR qL qY qA im bX ++ (wRd t qR qT qG bR ++ (wTx t qT bT ++ (wL t qG bG ++ (wL t qL bL ++ (wS t qA bA ++ (wY t qY qN fa bY ++ (wS t qN bN ++ (tail))))))))) := by
  unfold f_5_crop_87 at h0
  have h0 := Option.some.inj h0
  subst h0
  exact A_iret C dX5_crop_87 ⟨rfl, rfl⟩
def f_5_crop (bL : BV) (bN : BV) (x1 : Int32) (x2 : Int32) : Option (Int32) :=
  (f_5_isCrop bL x1).bind (fun z1 => if z1 = 0 then (some (-1 : Int32)) else (if x2 = (0 : Int32) then (ck (inb x1 4) (some (gA bL 5 x1))) else (if x2 = (1 : Int32) then (ck (inb x1 4) (some (gA bL 6 x1))) else (if x2 = (2 : Int32) then (ck (inb x1 4) (some (gA bL 7 x1))) else (if x2 = (3 : Int32) then ((f_5_ripensNow bL bN x1).bind (fun z2 => if z2 = 0 then (f_5_crop_87 bL bN (0 : Int32)) else (f_5_crop_87 bL bN (1 : Int32)))) else (if x2 = (4 : Int32) then ((f_5_daysIn bL bN).bind (fun z3 => (f_0_ripensOn bL x1 z3).bind (fun z4 => some z4))) else (some (-1 : Int32))))))))
theorem c_5_crop (l : Launch) (D : va_G) (t : ty4) (qX : Nat → Nat) (qR : Nat → Nat) (qT : Nat → Nat) (qG : Nat → Nat) (qL : Nat → Nat) (qA : Nat → Nat) (qY : Nat → Nat) (qN : Nat → Nat) (im : Nat → Option Nat) (fa : Nat → Option Nat) (tail : va_W) (bX : BV) (bR : BV) (bT : BV) (bG : BV) (bL : BV) (bA : BV) (bY : BV) (bN : BV) (x1 : Int32) (x2 : Int32) {r : Int32} (h0 : f_5_crop bL bN x1 x2 = some r) : MetI l yX5_crop cX5_crop 3 (some .int) (rmD 6) D t [.ref (qX 99), .int x1, .int x2] (wX t qX qR qL qY qA im bX ++ (wRd t qR qT qG bR ++ (wTx t qT bT ++ (wL t qG bG ++ (wL t qL bL ++ (wS t qA bA ++ (wY t qY qN fa bY ++ (wS t qN bN ++ (tail))))))))) (fun x w => r = x ∧ (wX t qX qR qL qY qA im bX ++ (wRd t qR qT qG bR ++ (wTx t qT bT ++ (wL t qG bG ++ (wL t qL bL ++ (wS t qA bA ++ (wY t qY qN fa bY ++ (wS t qN bN ++ (tail))))))))) = w) := by
  refine MetI_of (by decide +kernel) (Nat.le_of_ble_eq_true rfl) (fun p e s m below meth c C _ => ?_)
  unfold f_5_crop at h0
  generalize hargs : (List.toArray [.ref (qX 99), .int x1, .int x2] : Array Value) = args at C ⊢
  refine At.start (lv2 := [(0, .ref (qX 99)), (1, .int x1), (2, .int x2)]) rfl ?_
  refine A_aload_n C 0 dX5_crop_0 rfl rfl ?_
  refine A_iload_n C 1 dX5_crop_1 rfl rfl ?_
  obtain ⟨z1, hz1, h0⟩ := bind_some h0
  refine A_vI (As := [.int x1]) (rest := []) C 0 (c_5_isCrop l D t qX qR qT qG qL qA qY qN im fa tail bX bR bT bG bL bA bY bN x1 hz1) mw_5_isCrop ml_5_110 im_5_isCrop sl_5_isCrop (rmok rfl rfl) (cut0 (wX t qX qR qL qY qA im bX ++ (wRd t qR qT qG bR ++ (wTx t qT bT ++ (wL t qG bG ++ (wL t qL bL ++ (wS t qA bA ++ (wY t qY qN fa bY ++ (wS t qN bN ++ (tail)))))))))) rfl (ci := 5) rfl rfl rfl (Nat.le_of_ble_eq_true rfl) dX5_crop_2 (fun x w1 hw1 => ?_)
  obtain ⟨rfl, rfl⟩ := hw1
  refine A_perm (ws' := (wX t qX qR qL qY qA im bX ++ (wRd t qR qT qG bR ++ (wTx t qT bT ++ (wL t qG bG ++ (wL t qL bL ++ (wS t qA bA ++ (wY t qY qN fa bY ++ (wS t qN bN ++ (tail)))))))))) ((cut0 _).symm) ?_
  refine A_if_ne C 10 dX5_crop_5 (by decide) h0 (fun h0 => ?_) (fun h0 => ?_)
  · refine A_iload_n C 2 dX5_crop_10 rfl rfl ?_
    refine sw_split h0 (fun hx h0 => ?_) (fun hn0 h0 => ?_)
    · refine A_tabIn C 44 dX5_crop_11 (by rw [hx]; decide) (by rw [hx]; decide) (by rw [hx]; rfl) (by decide) ?_
      refine A_aload_n C 0 dX5_crop_44 rfl rfl ?_
      refine A_get (v := .ref (qL 99)) C 0 1 inG5 (ci := 5) rfl (by decide) fl_5_19 rfl rfl rfl dX5_crop_45 ?_
      refine A_get (v := .ref (qL 5)) C 14 5 inG0 (ci := 0) rfl (by decide) fl_5_113 rfl rfl rfl dX5_crop_48 ?_
      refine A_iload_n C 1 dX5_crop_51 rfl rfl ?_
      refine A_iald C 17 (gA bL 5 x1) rfl rfl dX5_crop_52 h0 (fun h0 => ?_)
      have h0 := Option.some.inj h0
      subst h0
      exact A_iret C dX5_crop_53 ⟨rfl, rfl⟩
    ·
      refine sw_split h0 (fun hx h0 => ?_) (fun hn1 h0 => ?_)
      · refine A_tabIn C 54 dX5_crop_11 (by rw [hx]; decide) (by rw [hx]; decide) (by rw [hx]; rfl) (by decide) ?_
        refine A_aload_n C 0 dX5_crop_54 rfl rfl ?_
        refine A_get (v := .ref (qL 99)) C 0 1 inG5 (ci := 5) rfl (by decide) fl_5_19 rfl rfl rfl dX5_crop_55 ?_
        refine A_get (v := .ref (qL 6)) C 14 6 inG0 (ci := 0) rfl (by decide) fl_5_116 rfl rfl rfl dX5_crop_58 ?_
        refine A_iload_n C 1 dX5_crop_61 rfl rfl ?_
        refine A_iald C 18 (gA bL 6 x1) rfl rfl dX5_crop_62 h0 (fun h0 => ?_)
        have h0 := Option.some.inj h0
        subst h0
        exact A_iret C dX5_crop_63 ⟨rfl, rfl⟩
      ·
        refine sw_split h0 (fun hx h0 => ?_) (fun hn2 h0 => ?_)
        · refine A_tabIn C 64 dX5_crop_11 (by rw [hx]; decide) (by rw [hx]; decide) (by rw [hx]; rfl) (by decide) ?_
          refine A_aload_n C 0 dX5_crop_64 rfl rfl ?_
          refine A_get (v := .ref (qL 99)) C 0 1 inG5 (ci := 5) rfl (by decide) fl_5_19 rfl rfl rfl dX5_crop_65 ?_
          refine A_get (v := .ref (qL 7)) C 14 7 inG0 (ci := 0) rfl (by decide) fl_5_119 rfl rfl rfl dX5_crop_68 ?_
          refine A_iload_n C 1 dX5_crop_71 rfl rfl ?_
          refine A_iald C 19 (gA bL 7 x1) rfl rfl dX5_crop_72 h0 (fun h0 => ?_)
          have h0 := Option.some.inj h0
          subst h0
          exact A_iret C dX5_crop_73 ⟨rfl, rfl⟩
        ·
          refine sw_split h0 (fun hx h0 => ?_) (fun hn3 h0 => ?_)
          · refine A_tabIn C 74 dX5_crop_11 (by rw [hx]; decide) (by rw [hx]; decide) (by rw [hx]; rfl) (by decide) ?_
            refine A_aload_n C 0 dX5_crop_74 rfl rfl ?_
            refine A_iload_n C 1 dX5_crop_75 rfl rfl ?_
            obtain ⟨z2, hz2, h0⟩ := bind_some h0
            refine A_vI (As := [.int x1]) (rest := []) C 0 (c_5_ripensNow l D t qX qR qT qG qL qA qY qN im fa tail bX bR bT bG bL bA bY bN x1 hz2) mw_5_ripensNow ml_5_122 im_5_ripensNow sl_5_ripensNow (rmok rfl rfl) (cut0 (wX t qX qR qL qY qA im bX ++ (wRd t qR qT qG bR ++ (wTx t qT bT ++ (wL t qG bG ++ (wL t qL bL ++ (wS t qA bA ++ (wY t qY qN fa bY ++ (wS t qN bN ++ (tail)))))))))) rfl (ci := 5) rfl rfl rfl (Nat.le_of_ble_eq_true rfl) dX5_crop_76 (fun x w1 hw1 => ?_)
            obtain ⟨rfl, rfl⟩ := hw1
            refine A_perm (ws' := (wX t qX qR qL qY qA im bX ++ (wRd t qR qT qG bR ++ (wTx t qT bT ++ (wL t qG bG ++ (wL t qL bL ++ (wS t qA bA ++ (wY t qY qN fa bY ++ (wS t qN bN ++ (tail)))))))))) ((cut0 _).symm) ?_
            refine A_if_eq C 86 dX5_crop_79 (by decide) h0 (fun h0 => ?_) (fun h0 => ?_)
            · refine A_iconst C (0 : Int32) dX5_crop_86 (by decide) ?_
              exact A_loc [] rfl (t_5_crop_87 C qX qR qT qG qL qA qY qN im fa tail bX bR bT bG bL bA bY bN r (0 : Int32) h0)
            · refine A_iconst C (1 : Int32) dX5_crop_82 (by decide) ?_
              refine A_goto C 87 dX5_crop_83 (by decide) ?_
              exact A_loc [] rfl (t_5_crop_87 C qX qR qT qG qL qA qY qN im fa tail bX bR bT bG bL bA bY bN r (1 : Int32) h0)
          ·
            refine sw_split h0 (fun hx h0 => ?_) (fun hn4 h0 => ?_)
            · refine A_tabIn C 88 dX5_crop_11 (by rw [hx]; decide) (by rw [hx]; decide) (by rw [hx]; rfl) (by decide) ?_
              refine A_aload_n C 0 dX5_crop_88 rfl rfl ?_
              refine A_get (v := .ref (qL 99)) C 0 1 inG5 (ci := 5) rfl (by decide) fl_5_19 rfl rfl rfl dX5_crop_89 ?_
              refine A_iload_n C 1 dX5_crop_92 rfl rfl ?_
              refine A_aload_n C 0 dX5_crop_93 rfl rfl ?_
              obtain ⟨z3, hz3, h0⟩ := bind_some h0
              refine A_vI (As := []) (rest := [.int x1, .ref (qL 99)]) C 0 (c_5_daysIn l D t qX qR qT qG qL qA qY qN im fa tail bX bR bT bG bL bA bY bN hz3) mw_5_daysIn ml_5_125 im_5_daysIn sl_5_daysIn (rmok rfl rfl) (cut0 (wX t qX qR qL qY qA im bX ++ (wRd t qR qT qG bR ++ (wTx t qT bT ++ (wL t qG bG ++ (wL t qL bL ++ (wS t qA bA ++ (wY t qY qN fa bY ++ (wS t qN bN ++ (tail)))))))))) rfl (ci := 5) rfl rfl rfl (Nat.le_of_ble_eq_true rfl) dX5_crop_94 (fun x w1 hw1 => ?_)
              obtain ⟨rfl, rfl⟩ := hw1
              refine A_perm (ws' := (wX t qX qR qL qY qA im bX ++ (wRd t qR qT qG bR ++ (wTx t qT bT ++ (wL t qG bG ++ (wL t qL bL ++ (wS t qA bA ++ (wY t qY qN fa bY ++ (wS t qN bN ++ (tail)))))))))) ((cut0 _).symm) ?_
              obtain ⟨z4, hz4, h0⟩ := bind_some h0
              refine A_vI (As := [.int x1, .int z3]) (rest := []) C 0 (c_0_ripensOn l D t qL bL x1 z3 hz4) mw_0_ripensOn ml_5_128 im_0_ripensOn sl_0_ripensOn (rmok rfl rfl) (cutA (wX t qX qR qL qY qA im bX ++ (wRd t qR qT qG bR ++ (wTx t qT bT ++ (wL t qG bG)))) (wL t qL bL) (wS t qA bA ++ (wY t qY qN fa bY ++ (wS t qN bN ++ (tail))))) rfl (ci := 0) rfl rfl rfl (Nat.le_of_ble_eq_true rfl) dX5_crop_97 (fun x w1 hw1 => ?_)
              obtain ⟨rfl, rfl⟩ := hw1
              refine A_perm (ws' := (wX t qX qR qL qY qA im bX ++ (wRd t qR qT qG bR ++ (wTx t qT bT ++ (wL t qG bG ++ (wL t qL bL ++ (wS t qA bA ++ (wY t qY qN fa bY ++ (wS t qN bN ++ (tail)))))))))) ((cutA (wX t qX qR qL qY qA im bX ++ (wRd t qR qT qG bR ++ (wTx t qT bT ++ (wL t qG bG)))) (wL t qL bL) (wS t qA bA ++ (wY t qY qN fa bY ++ (wS t qN bN ++ (tail))))).symm) ?_
              have h0 := Option.some.inj h0
              subst h0
              exact A_iret C dX5_crop_100 ⟨rfl, rfl⟩
            ·
              have hn0 := lv_neT hn0 (k := (0 : Int32)) (a := 0) (by decide)
              have hn1 := lv_neT hn1 (k := (1 : Int32)) (a := 1) (by decide)
              have hn2 := lv_neT hn2 (k := (2 : Int32)) (a := 2) (by decide)
              have hn3 := lv_neT hn3 (k := (3 : Int32)) (a := 3) (by decide)
              have hn4 := lv_neT hn4 (k := (4 : Int32)) (a := 4) (by decide)
              refine A_tabOut C 101 dX5_crop_11 (by omega) (by decide) ?_
              refine A_iconst C (-1 : Int32) dX5_crop_101 (by decide) ?_
              have h0 := Option.some.inj h0
              subst h0
              exact A_iret C dX5_crop_102 ⟨rfl, rfl⟩
  · refine A_iconst C (-1 : Int32) dX5_crop_8 (by decide) ?_
    have h0 := Option.some.inj h0
    subst h0
    exact A_iret C dX5_crop_9 ⟨rfl, rfl⟩
def f_5_now (bL : BV) (bN : BV) (x1 : Int32) : Option (Int32) :=
  if x1 = (0 : Int32) then (some (gI bN 4)) else (if x1 = (1 : Int32) then (some (gI bN 5)) else (if x1 = (2 : Int32) then ((f_2_daysOut bN).bind (fun z1 => some z1)) else (if x1 = (3 : Int32) then (some (gI bN 3)) else (if x1 = (4 : Int32) then ((f_5_daysIn bL bN).bind (fun z2 => (f_0_harvest bL z2).bind (fun z3 => some z3))) else (if x1 = (5 : Int32) then ((f_5_daysIn bL bN).bind (fun z4 => (f_0_gap bL z4).bind (fun z5 => some z5))) else (if x1 = (6 : Int32) then ((f_2_owed bN).bind (fun z6 => some z6)) else (some (-1 : Int32))))))))
theorem c_5_now (l : Launch) (D : va_G) (t : ty4) (qX : Nat → Nat) (qR : Nat → Nat) (qT : Nat → Nat) (qG : Nat → Nat) (qL : Nat → Nat) (qA : Nat → Nat) (qY : Nat → Nat) (qN : Nat → Nat) (im : Nat → Option Nat) (fa : Nat → Option Nat) (tail : va_W) (bX : BV) (bR : BV) (bT : BV) (bG : BV) (bL : BV) (bA : BV) (bY : BV) (bN : BV) (x1 : Int32) {r : Int32} (h0 : f_5_now bL bN x1 = some r) : MetI l yX5_now cX5_now 3 (some .int) (rmD 5) D t [.ref (qX 99), .int x1] (wX t qX qR qL qY qA im bX ++ (wRd t qR qT qG bR ++ (wTx t qT bT ++ (wL t qG bG ++ (wL t qL bL ++ (wS t qA bA ++ (wY t qY qN fa bY ++ (wS t qN bN ++ (tail))))))))) (fun x w => r = x ∧ (wX t qX qR qL qY qA im bX ++ (wRd t qR qT qG bR ++ (wTx t qT bT ++ (wL t qG bG ++ (wL t qL bL ++ (wS t qA bA ++ (wY t qY qN fa bY ++ (wS t qN bN ++ (tail))))))))) = w) := by
  refine MetI_of (by decide +kernel) (Nat.le_of_ble_eq_true rfl) (fun p e s m below meth c C _ => ?_)
  unfold f_5_now at h0
  generalize hargs : (List.toArray [.ref (qX 99), .int x1] : Array Value) = args at C ⊢
  refine At.start (lv2 := [(0, .ref (qX 99)), (1, .int x1)]) rfl ?_
  refine A_aload_n C 0 dX5_now_0 rfl rfl ?_
  refine A_get (v := .ref (qY 99)) C 0 2 inG5 (ci := 5) rfl (by decide) fl_5_26 rfl rfl rfl dX5_now_1 ?_
  refine A_get (v := .ref (qN 99)) C 24 0 inG3 (ci := 3) rfl (by decide) fl_5_104 rfl rfl rfl dX5_now_4 ?_
  refine A_astore_n C [(2, .ref (qN 99)), (0, .ref (qX 99)), (1, .int x1)] dX5_now_7 rfl (by decide) rfl ?_
  refine A_iload_n C 2 dX5_now_8 rfl rfl ?_
  refine sw_split h0 (fun hx h0 => ?_) (fun hn0 h0 => ?_)
  · refine A_tabIn C 52 dX5_now_9 (by rw [hx]; decide) (by rw [hx]; decide) (by rw [hx]; rfl) (by decide) ?_
    refine A_aload_n C 0 dX5_now_52 rfl rfl ?_
    refine A_get (v := .int (gI bN 4)) C 26 4 inG2 (ci := 2) rfl (by decide) fl_5_167 rfl rfl rfl dX5_now_53 ?_
    have h0 := Option.some.inj h0
    subst h0
    exact A_iret C dX5_now_56 ⟨rfl, rfl⟩
  ·
    refine sw_split h0 (fun hx h0 => ?_) (fun hn1 h0 => ?_)
    · refine A_tabIn C 57 dX5_now_9 (by rw [hx]; decide) (by rw [hx]; decide) (by rw [hx]; rfl) (by decide) ?_
      refine A_aload_n C 0 dX5_now_57 rfl rfl ?_
      refine A_get (v := .int (gI bN 5)) C 26 5 inG2 (ci := 2) rfl (by decide) fl_5_174 rfl rfl rfl dX5_now_58 ?_
      have h0 := Option.some.inj h0
      subst h0
      exact A_iret C dX5_now_61 ⟨rfl, rfl⟩
    ·
      refine sw_split h0 (fun hx h0 => ?_) (fun hn2 h0 => ?_)
      · refine A_tabIn C 62 dX5_now_9 (by rw [hx]; decide) (by rw [hx]; decide) (by rw [hx]; rfl) (by decide) ?_
        refine A_aload_n C 0 dX5_now_62 rfl rfl ?_
        obtain ⟨z1, hz1, h0⟩ := bind_some h0
        refine A_vI (As := []) (rest := []) C 0 (c_2_daysOut l D t qN bN hz1) mw_2_daysOut ml_5_188 im_2_daysOut sl_2_daysOut (rmok rfl rfl) (cutA (wX t qX qR qL qY qA im bX ++ (wRd t qR qT qG bR ++ (wTx t qT bT ++ (wL t qG bG ++ (wL t qL bL ++ (wS t qA bA ++ (wY t qY qN fa bY))))))) (wS t qN bN) (tail)) rfl (ci := 2) rfl rfl rfl (Nat.le_of_ble_eq_true rfl) dX5_now_63 (fun x w1 hw1 => ?_)
        obtain ⟨rfl, rfl⟩ := hw1
        refine A_perm (ws' := (wX t qX qR qL qY qA im bX ++ (wRd t qR qT qG bR ++ (wTx t qT bT ++ (wL t qG bG ++ (wL t qL bL ++ (wS t qA bA ++ (wY t qY qN fa bY ++ (wS t qN bN ++ (tail)))))))))) ((cutA (wX t qX qR qL qY qA im bX ++ (wRd t qR qT qG bR ++ (wTx t qT bT ++ (wL t qG bG ++ (wL t qL bL ++ (wS t qA bA ++ (wY t qY qN fa bY))))))) (wS t qN bN) (tail)).symm) ?_
        have h0 := Option.some.inj h0
        subst h0
        exact A_iret C dX5_now_66 ⟨rfl, rfl⟩
      ·
        refine sw_split h0 (fun hx h0 => ?_) (fun hn3 h0 => ?_)
        · refine A_tabIn C 67 dX5_now_9 (by rw [hx]; decide) (by rw [hx]; decide) (by rw [hx]; rfl) (by decide) ?_
          refine A_aload_n C 0 dX5_now_67 rfl rfl ?_
          refine A_get (v := .int (gI bN 3)) C 26 3 inG2 (ci := 2) rfl (by decide) fl_5_191 rfl rfl rfl dX5_now_68 ?_
          have h0 := Option.some.inj h0
          subst h0
          exact A_iret C dX5_now_71 ⟨rfl, rfl⟩
        ·
          refine sw_split h0 (fun hx h0 => ?_) (fun hn4 h0 => ?_)
          · refine A_tabIn C 72 dX5_now_9 (by rw [hx]; decide) (by rw [hx]; decide) (by rw [hx]; rfl) (by decide) ?_
            refine A_aload_n C 1 dX5_now_72 rfl rfl ?_
            refine A_get (v := .ref (qL 99)) C 0 1 inG5 (ci := 5) rfl (by decide) fl_5_19 rfl rfl rfl dX5_now_73 ?_
            refine A_aload_n C 1 dX5_now_76 rfl rfl ?_
            obtain ⟨z2, hz2, h0⟩ := bind_some h0
            refine A_vI (As := []) (rest := [.ref (qL 99)]) C 0 (c_5_daysIn l D t qX qR qT qG qL qA qY qN im fa tail bX bR bT bG bL bA bY bN hz2) mw_5_daysIn ml_5_125 im_5_daysIn sl_5_daysIn (rmok rfl rfl) (cut0 (wX t qX qR qL qY qA im bX ++ (wRd t qR qT qG bR ++ (wTx t qT bT ++ (wL t qG bG ++ (wL t qL bL ++ (wS t qA bA ++ (wY t qY qN fa bY ++ (wS t qN bN ++ (tail)))))))))) rfl (ci := 5) rfl rfl rfl (Nat.le_of_ble_eq_true rfl) dX5_now_77 (fun x w1 hw1 => ?_)
            obtain ⟨rfl, rfl⟩ := hw1
            refine A_perm (ws' := (wX t qX qR qL qY qA im bX ++ (wRd t qR qT qG bR ++ (wTx t qT bT ++ (wL t qG bG ++ (wL t qL bL ++ (wS t qA bA ++ (wY t qY qN fa bY ++ (wS t qN bN ++ (tail)))))))))) ((cut0 _).symm) ?_
            obtain ⟨z3, hz3, h0⟩ := bind_some h0
            refine A_vI (As := [.int z2]) (rest := []) C 0 (c_0_harvest l D t qL bL z2 hz3) mw_0_harvest ml_5_194 im_0_harvest sl_0_harvest (rmok rfl rfl) (cutA (wX t qX qR qL qY qA im bX ++ (wRd t qR qT qG bR ++ (wTx t qT bT ++ (wL t qG bG)))) (wL t qL bL) (wS t qA bA ++ (wY t qY qN fa bY ++ (wS t qN bN ++ (tail))))) rfl (ci := 0) rfl rfl rfl (Nat.le_of_ble_eq_true rfl) dX5_now_80 (fun x w1 hw1 => ?_)
            obtain ⟨rfl, rfl⟩ := hw1
            refine A_perm (ws' := (wX t qX qR qL qY qA im bX ++ (wRd t qR qT qG bR ++ (wTx t qT bT ++ (wL t qG bG ++ (wL t qL bL ++ (wS t qA bA ++ (wY t qY qN fa bY ++ (wS t qN bN ++ (tail)))))))))) ((cutA (wX t qX qR qL qY qA im bX ++ (wRd t qR qT qG bR ++ (wTx t qT bT ++ (wL t qG bG)))) (wL t qL bL) (wS t qA bA ++ (wY t qY qN fa bY ++ (wS t qN bN ++ (tail))))).symm) ?_
            have h0 := Option.some.inj h0
            subst h0
            exact A_iret C dX5_now_83 ⟨rfl, rfl⟩
          ·
            refine sw_split h0 (fun hx h0 => ?_) (fun hn5 h0 => ?_)
            · refine A_tabIn C 84 dX5_now_9 (by rw [hx]; decide) (by rw [hx]; decide) (by rw [hx]; rfl) (by decide) ?_
              refine A_aload_n C 1 dX5_now_84 rfl rfl ?_
              refine A_get (v := .ref (qL 99)) C 0 1 inG5 (ci := 5) rfl (by decide) fl_5_19 rfl rfl rfl dX5_now_85 ?_
              refine A_aload_n C 1 dX5_now_88 rfl rfl ?_
              obtain ⟨z4, hz4, h0⟩ := bind_some h0
              refine A_vI (As := []) (rest := [.ref (qL 99)]) C 0 (c_5_daysIn l D t qX qR qT qG qL qA qY qN im fa tail bX bR bT bG bL bA bY bN hz4) mw_5_daysIn ml_5_125 im_5_daysIn sl_5_daysIn (rmok rfl rfl) (cut0 (wX t qX qR qL qY qA im bX ++ (wRd t qR qT qG bR ++ (wTx t qT bT ++ (wL t qG bG ++ (wL t qL bL ++ (wS t qA bA ++ (wY t qY qN fa bY ++ (wS t qN bN ++ (tail)))))))))) rfl (ci := 5) rfl rfl rfl (Nat.le_of_ble_eq_true rfl) dX5_now_89 (fun x w1 hw1 => ?_)
              obtain ⟨rfl, rfl⟩ := hw1
              refine A_perm (ws' := (wX t qX qR qL qY qA im bX ++ (wRd t qR qT qG bR ++ (wTx t qT bT ++ (wL t qG bG ++ (wL t qL bL ++ (wS t qA bA ++ (wY t qY qN fa bY ++ (wS t qN bN ++ (tail)))))))))) ((cut0 _).symm) ?_
              obtain ⟨z5, hz5, h0⟩ := bind_some h0
              refine A_vI (As := [.int z4]) (rest := []) C 0 (c_0_gap l D t qL bL z4 hz5) mw_0_gap ml_5_197 im_0_gap sl_0_gap (rmok rfl rfl) (cutA (wX t qX qR qL qY qA im bX ++ (wRd t qR qT qG bR ++ (wTx t qT bT ++ (wL t qG bG)))) (wL t qL bL) (wS t qA bA ++ (wY t qY qN fa bY ++ (wS t qN bN ++ (tail))))) rfl (ci := 0) rfl rfl rfl (Nat.le_of_ble_eq_true rfl) dX5_now_92 (fun x w1 hw1 => ?_)
              obtain ⟨rfl, rfl⟩ := hw1
              refine A_perm (ws' := (wX t qX qR qL qY qA im bX ++ (wRd t qR qT qG bR ++ (wTx t qT bT ++ (wL t qG bG ++ (wL t qL bL ++ (wS t qA bA ++ (wY t qY qN fa bY ++ (wS t qN bN ++ (tail)))))))))) ((cutA (wX t qX qR qL qY qA im bX ++ (wRd t qR qT qG bR ++ (wTx t qT bT ++ (wL t qG bG)))) (wL t qL bL) (wS t qA bA ++ (wY t qY qN fa bY ++ (wS t qN bN ++ (tail))))).symm) ?_
              have h0 := Option.some.inj h0
              subst h0
              exact A_iret C dX5_now_95 ⟨rfl, rfl⟩
            ·
              refine sw_split h0 (fun hx h0 => ?_) (fun hn6 h0 => ?_)
              · refine A_tabIn C 96 dX5_now_9 (by rw [hx]; decide) (by rw [hx]; decide) (by rw [hx]; rfl) (by decide) ?_
                refine A_aload_n C 0 dX5_now_96 rfl rfl ?_
                obtain ⟨z6, hz6, h0⟩ := bind_some h0
                refine A_vI (As := []) (rest := []) C 0 (c_2_owed l D t qN bN hz6) mw_2_owed ml_5_200 im_2_owed sl_2_owed (rmok rfl rfl) (cutA (wX t qX qR qL qY qA im bX ++ (wRd t qR qT qG bR ++ (wTx t qT bT ++ (wL t qG bG ++ (wL t qL bL ++ (wS t qA bA ++ (wY t qY qN fa bY))))))) (wS t qN bN) (tail)) rfl (ci := 2) rfl rfl rfl (Nat.le_of_ble_eq_true rfl) dX5_now_97 (fun x w1 hw1 => ?_)
                obtain ⟨rfl, rfl⟩ := hw1
                refine A_perm (ws' := (wX t qX qR qL qY qA im bX ++ (wRd t qR qT qG bR ++ (wTx t qT bT ++ (wL t qG bG ++ (wL t qL bL ++ (wS t qA bA ++ (wY t qY qN fa bY ++ (wS t qN bN ++ (tail)))))))))) ((cutA (wX t qX qR qL qY qA im bX ++ (wRd t qR qT qG bR ++ (wTx t qT bT ++ (wL t qG bG ++ (wL t qL bL ++ (wS t qA bA ++ (wY t qY qN fa bY))))))) (wS t qN bN) (tail)).symm) ?_
                have h0 := Option.some.inj h0
                subst h0
                exact A_iret C dX5_now_100 ⟨rfl, rfl⟩
              ·
                have hn0 := lv_neT hn0 (k := (0 : Int32)) (a := 0) (by decide)
                have hn1 := lv_neT hn1 (k := (1 : Int32)) (a := 1) (by decide)
                have hn2 := lv_neT hn2 (k := (2 : Int32)) (a := 2) (by decide)
                have hn3 := lv_neT hn3 (k := (3 : Int32)) (a := 3) (by decide)
                have hn4 := lv_neT hn4 (k := (4 : Int32)) (a := 4) (by decide)
                have hn5 := lv_neT hn5 (k := (5 : Int32)) (a := 5) (by decide)
                have hn6 := lv_neT hn6 (k := (6 : Int32)) (a := 6) (by decide)
                refine A_tabOut C 101 dX5_now_9 (by omega) (by decide) ?_
                refine A_iconst C (-1 : Int32) dX5_now_101 (by decide) ?_
                have h0 := Option.some.inj h0
                subst h0
                exact A_iret C dX5_now_102 ⟨rfl, rfl⟩
def f_5_cheap_20 (bL : BV) (bN : BV) : Option (Int32) :=
  some (-1 : Int32)
theorem t_5_cheap_20 (C : CX p s m args meth c cX5_cheap 6 (some .int) RX5 D t) (qX : Nat → Nat) (qR : Nat → Nat) (qT : Nat → Nat) (qG : Nat → Nat) (qL : Nat → Nat) (qA : Nat → Nat) (qY : Nat → Nat) (qN : Nat → Nat) (im : Nat → Option Nat) (fa : Nat → Option Nat) (tail : va_W) (bX : BV) (bR : BV) (bT : BV) (bG : BV) (bL : BV) (bA : BV) (bY : BV) (bN : BV) (r : Int32) (h0 : f_5_cheap_20 bL bN = some r) : At p l e (rmD 6) s m args below meth c D 6 w0 (QI below args s D w0 (fun x w => r = x ∧ (wX t qX qR qL qY qA im bX ++ (wRd t qR qT qG bR ++ (wTx t qT bT ++ (wL t qG bG ++ (wL t qL bL ++ (wS t qA bA ++ (wY t qY qN fa bY ++ (wS t qN bN ++ (tail))))))))) = w) 0 0) 0 0 20 [] [] (wX t qX qR qL qY qA im bX ++ (wRd t qR qT qG bR ++ (wTx t qT bT ++ (wL t qG bG ++ (wL t qL bL ++ (wS t qA bA ++ (wY t qY qN fa bY ++ (wS t qN bN ++ (tail))))))))) := by
  unfold f_5_cheap_20 at h0
  refine A_iconst C (-1 : Int32) dX5_cheap_20 (by decide) ?_
  have h0 := Option.some.inj h0
  subst h0
  exact A_iret C dX5_cheap_21 ⟨rfl, rfl⟩
def f_5_cheap (bL : BV) (bN : BV) (x1 : Int32) (x2 : Int32) : Option (Int32) :=
  (f_5_isWithin x1 (1 : Int32) (999 : Int32)).bind (fun z1 => if z1 = 0 then (f_5_cheap_20 bL bN) else ((f_5_isWithin x2 (0 : Int32) (2 : Int32)).bind (fun z2 => if z2 = 0 then (f_5_cheap_20 bL bN) else ((f_5_cheapestRow bL bN x1).bind (fun z3 => if z3 = (-9 : Int32) then (some (-9 : Int32)) else (ck (nz (100 : Int32)) (ck (nz (100 : Int32)) (if x2 = (0 : Int32) then (some (z3 / (100 : Int32))) else (if x2 = (1 : Int32) then (some (z3 - z3 / (100 : Int32) * (100 : Int32))) else ((f_5_daysIn bL bN).bind (fun z4 => (f_5_rowBits (z3 / (100 : Int32)) (z3 - z3 / (100 : Int32) * (100 : Int32))).bind (fun z5 => (f_0_harvest bL (z4 &&& (z5 ^^^ (-1 : Int32)))).bind (fun z6 => some z6)))))))))))))
theorem c_5_cheap (l : Launch) (D : va_G) (t : ty4) (qX : Nat → Nat) (qR : Nat → Nat) (qT : Nat → Nat) (qG : Nat → Nat) (qL : Nat → Nat) (qA : Nat → Nat) (qY : Nat → Nat) (qN : Nat → Nat) (im : Nat → Option Nat) (fa : Nat → Option Nat) (tail : va_W) (bX : BV) (bR : BV) (bT : BV) (bG : BV) (bL : BV) (bA : BV) (bY : BV) (bN : BV) (x1 : Int32) (x2 : Int32) {r : Int32} (h0 : f_5_cheap bL bN x1 x2 = some r) : MetI l yX5_cheap cX5_cheap 6 (some .int) (rmD 6) D t [.ref (qX 99), .int x1, .int x2] (wX t qX qR qL qY qA im bX ++ (wRd t qR qT qG bR ++ (wTx t qT bT ++ (wL t qG bG ++ (wL t qL bL ++ (wS t qA bA ++ (wY t qY qN fa bY ++ (wS t qN bN ++ (tail))))))))) (fun x w => r = x ∧ (wX t qX qR qL qY qA im bX ++ (wRd t qR qT qG bR ++ (wTx t qT bT ++ (wL t qG bG ++ (wL t qL bL ++ (wS t qA bA ++ (wY t qY qN fa bY ++ (wS t qN bN ++ (tail))))))))) = w) := by
  refine MetI_of (by decide +kernel) (Nat.le_of_ble_eq_true rfl) (fun p e s m below meth c C _ => ?_)
  unfold f_5_cheap at h0
  generalize hargs : (List.toArray [.ref (qX 99), .int x1, .int x2] : Array Value) = args at C ⊢
  refine At.start (lv2 := [(0, .ref (qX 99)), (1, .int x1), (2, .int x2)]) rfl ?_
  refine A_iload_n C 1 dX5_cheap_0 rfl rfl ?_
  refine A_iconst C (1 : Int32) dX5_cheap_1 (by decide) ?_
  refine A_sipush C (999 : Int32) dX5_cheap_2 (by decide) ?_
  obtain ⟨z1, hz1, h0⟩ := bind_some h0
  refine A_sI (As := [.int x1, .int (1 : Int32), .int (999 : Int32)]) (rest := []) C (c_5_isWithin l D t x1 (1 : Int32) (999 : Int32) hz1) mw_5_isWithin ml_5_60 st_5_isWithin (rmok rfl rfl) (cutN (wX t qX qR qL qY qA im bX ++ (wRd t qR qT qG bR ++ (wTx t qT bT ++ (wL t qG bG ++ (wL t qL bL ++ (wS t qA bA ++ (wY t qY qN fa bY ++ (wS t qN bN ++ (tail)))))))))) rfl rfl (Nat.le_of_ble_eq_true rfl) dX5_cheap_5 (fun x w1 hw1 => ?_)
  obtain ⟨rfl, rfl⟩ := hw1
  refine A_perm (ws' := (wX t qX qR qL qY qA im bX ++ (wRd t qR qT qG bR ++ (wTx t qT bT ++ (wL t qG bG ++ (wL t qL bL ++ (wS t qA bA ++ (wY t qY qN fa bY ++ (wS t qN bN ++ (tail)))))))))) ((cutN _).symm) ?_
  refine A_if_eq C 20 dX5_cheap_8 (by decide) h0 (fun h0 => ?_) (fun h0 => ?_)
  · exact A_loc [] rfl (t_5_cheap_20 C qX qR qT qG qL qA qY qN im fa tail bX bR bT bG bL bA bY bN r h0)
  · refine A_iload_n C 2 dX5_cheap_11 rfl rfl ?_
    refine A_iconst C (0 : Int32) dX5_cheap_12 (by decide) ?_
    refine A_iconst C (2 : Int32) dX5_cheap_13 (by decide) ?_
    obtain ⟨z2, hz2, h0⟩ := bind_some h0
    refine A_sI (As := [.int x2, .int (0 : Int32), .int (2 : Int32)]) (rest := []) C (c_5_isWithin l D t x2 (0 : Int32) (2 : Int32) hz2) mw_5_isWithin ml_5_60 st_5_isWithin (rmok rfl rfl) (cutN (wX t qX qR qL qY qA im bX ++ (wRd t qR qT qG bR ++ (wTx t qT bT ++ (wL t qG bG ++ (wL t qL bL ++ (wS t qA bA ++ (wY t qY qN fa bY ++ (wS t qN bN ++ (tail)))))))))) rfl rfl (Nat.le_of_ble_eq_true rfl) dX5_cheap_14 (fun x w1 hw1 => ?_)
    obtain ⟨rfl, rfl⟩ := hw1
    refine A_perm (ws' := (wX t qX qR qL qY qA im bX ++ (wRd t qR qT qG bR ++ (wTx t qT bT ++ (wL t qG bG ++ (wL t qL bL ++ (wS t qA bA ++ (wY t qY qN fa bY ++ (wS t qN bN ++ (tail)))))))))) ((cutN _).symm) ?_
    refine A_if_ne C 22 dX5_cheap_17 (by decide) h0 (fun h0 => ?_) (fun h0 => ?_)
    · refine A_aload_n C 0 dX5_cheap_22 rfl rfl ?_
      refine A_iload_n C 1 dX5_cheap_23 rfl rfl ?_
      obtain ⟨z3, hz3, h0⟩ := bind_some h0
      refine A_vI (As := [.int x1]) (rest := []) C 0 (c_5_cheapestRow l D t qX qR qT qG qL qA qY qN im fa tail bX bR bT bG bL bA bY bN x1 hz3) mw_5_cheapestRow ml_5_203 im_5_cheapestRow sl_5_cheapestRow (rmok rfl rfl) (cut0 (wX t qX qR qL qY qA im bX ++ (wRd t qR qT qG bR ++ (wTx t qT bT ++ (wL t qG bG ++ (wL t qL bL ++ (wS t qA bA ++ (wY t qY qN fa bY ++ (wS t qN bN ++ (tail)))))))))) rfl (ci := 5) rfl rfl rfl (Nat.le_of_ble_eq_true rfl) dX5_cheap_24 (fun x w1 hw1 => ?_)
      obtain ⟨rfl, rfl⟩ := hw1
      refine A_perm (ws' := (wX t qX qR qL qY qA im bX ++ (wRd t qR qT qG bR ++ (wTx t qT bT ++ (wL t qG bG ++ (wL t qL bL ++ (wS t qA bA ++ (wY t qY qN fa bY ++ (wS t qN bN ++ (tail)))))))))) ((cut0 _).symm) ?_
      refine A_istore_n C [(3, .int z3), (0, .ref (qX 99)), (1, .int x1), (2, .int x2)] dX5_cheap_27 rfl (by decide) rfl ?_
      refine A_iload_n C 0 dX5_cheap_28 rfl rfl ?_
      refine A_bipush C (-9 : Int32) dX5_cheap_29 (by decide) ?_
      refine A_icmp_ne C 37 dX5_cheap_31 (by decide) h0 (fun h0 => ?_) (fun h0 => ?_)
      · refine A_iload_n C 0 dX5_cheap_37 rfl rfl ?_
        refine A_bipush C (100 : Int32) dX5_cheap_38 (by decide) ?_
        refine A_idiv C dX5_cheap_40 h0 (fun h0 => ?_)
        refine A_istore C [(4, .int (z3 / (100 : Int32))), (3, .int z3), (0, .ref (qX 99)), (1, .int x1), (2, .int x2)] dX5_cheap_41 (by decide) rfl ?_
        refine A_iload_n C 1 dX5_cheap_43 rfl rfl ?_
        refine A_bipush C (100 : Int32) dX5_cheap_44 (by decide) ?_
        refine A_irem C dX5_cheap_46 h0 (fun h0 => ?_)
        refine A_istore C [(5, .int (z3 - z3 / (100 : Int32) * (100 : Int32))), (4, .int (z3 / (100 : Int32))), (3, .int z3), (0, .ref (qX 99)), (1, .int x1), (2, .int x2)] dX5_cheap_47 (by decide) rfl ?_
        refine A_iload_n C 5 dX5_cheap_49 rfl rfl ?_
        refine sw_split h0 (fun hx h0 => ?_) (fun hn0 h0 => ?_)
        · refine A_look (off := 26) C 76 dX5_cheap_50 (by decide) (by first | (rw [hx]; done) | (rw [hx]; rfl)) (by decide) ?_
          refine A_iload C 1 dX5_cheap_76 rfl ?_
          have h0 := Option.some.inj h0
          subst h0
          exact A_iret C dX5_cheap_78 ⟨rfl, rfl⟩
        ·
          refine sw_split h0 (fun hx h0 => ?_) (fun hn1 h0 => ?_)
          · refine A_look (off := 29) C 79 dX5_cheap_50 (by decide) (by first | (rw [hx]; done) | (rw [hx]; rfl)) (by decide) ?_
            refine A_iload C 0 dX5_cheap_79 rfl ?_
            have h0 := Option.some.inj h0
            subst h0
            exact A_iret C dX5_cheap_81 ⟨rfl, rfl⟩
          ·
            refine A_look (off := 32) C 82 dX5_cheap_50 (by decide) (by show Op.lookupswitch.offset [(0, 26), (1, 29)] _ _ = _; first | (rw [lv_osw hn0 (a := 0) (by decide), lv_osw hn1 (a := 1) (by decide)]; done) | (rw [lv_osw hn0 (a := 0) (by decide), lv_osw hn1 (a := 1) (by decide)]; rfl)) (by decide) ?_
            refine A_aload_n C 3 dX5_cheap_82 rfl rfl ?_
            refine A_get (v := .ref (qL 99)) C 0 1 inG5 (ci := 5) rfl (by decide) fl_5_19 rfl rfl rfl dX5_cheap_83 ?_
            refine A_aload_n C 3 dX5_cheap_86 rfl rfl ?_
            obtain ⟨z4, hz4, h0⟩ := bind_some h0
            refine A_vI (As := []) (rest := [.ref (qL 99)]) C 0 (c_5_daysIn l D t qX qR qT qG qL qA qY qN im fa tail bX bR bT bG bL bA bY bN hz4) mw_5_daysIn ml_5_125 im_5_daysIn sl_5_daysIn (rmok rfl rfl) (cut0 (wX t qX qR qL qY qA im bX ++ (wRd t qR qT qG bR ++ (wTx t qT bT ++ (wL t qG bG ++ (wL t qL bL ++ (wS t qA bA ++ (wY t qY qN fa bY ++ (wS t qN bN ++ (tail)))))))))) rfl (ci := 5) rfl rfl rfl (Nat.le_of_ble_eq_true rfl) dX5_cheap_87 (fun x w1 hw1 => ?_)
            obtain ⟨rfl, rfl⟩ := hw1
            refine A_perm (ws' := (wX t qX qR qL qY qA im bX ++ (wRd t qR qT qG bR ++ (wTx t qT bT ++ (wL t qG bG ++ (wL t qL bL ++ (wS t qA bA ++ (wY t qY qN fa bY ++ (wS t qN bN ++ (tail)))))))))) ((cut0 _).symm) ?_
            refine A_iload C 1 dX5_cheap_90 rfl ?_
            refine A_iload C 0 dX5_cheap_92 rfl ?_
            obtain ⟨z5, hz5, h0⟩ := bind_some h0
            refine A_sI (As := [.int (z3 / (100 : Int32)), .int (z3 - z3 / (100 : Int32) * (100 : Int32))]) (rest := [.int z4, .ref (qL 99)]) C (c_5_rowBits l D t (z3 / (100 : Int32)) (z3 - z3 / (100 : Int32) * (100 : Int32)) hz5) mw_5_rowBits ml_5_160 st_5_rowBits (rmok rfl rfl) (cutN (wX t qX qR qL qY qA im bX ++ (wRd t qR qT qG bR ++ (wTx t qT bT ++ (wL t qG bG ++ (wL t qL bL ++ (wS t qA bA ++ (wY t qY qN fa bY ++ (wS t qN bN ++ (tail)))))))))) rfl rfl (Nat.le_of_ble_eq_true rfl) dX5_cheap_94 (fun x w1 hw1 => ?_)
            obtain ⟨rfl, rfl⟩ := hw1
            refine A_perm (ws' := (wX t qX qR qL qY qA im bX ++ (wRd t qR qT qG bR ++ (wTx t qT bT ++ (wL t qG bG ++ (wL t qL bL ++ (wS t qA bA ++ (wY t qY qN fa bY ++ (wS t qN bN ++ (tail)))))))))) ((cutN _).symm) ?_
            refine A_iconst C (-1 : Int32) dX5_cheap_97 (by decide) ?_
            refine A_ixor C dX5_cheap_98 ?_
            refine A_iand C dX5_cheap_99 ?_
            obtain ⟨z6, hz6, h0⟩ := bind_some h0
            refine A_vI (As := [.int (z4 &&& (z5 ^^^ (-1 : Int32)))]) (rest := []) C 0 (c_0_harvest l D t qL bL (z4 &&& (z5 ^^^ (-1 : Int32))) hz6) mw_0_harvest ml_5_194 im_0_harvest sl_0_harvest (rmok rfl rfl) (cutA (wX t qX qR qL qY qA im bX ++ (wRd t qR qT qG bR ++ (wTx t qT bT ++ (wL t qG bG)))) (wL t qL bL) (wS t qA bA ++ (wY t qY qN fa bY ++ (wS t qN bN ++ (tail))))) rfl (ci := 0) rfl rfl rfl (Nat.le_of_ble_eq_true rfl) dX5_cheap_100 (fun x w1 hw1 => ?_)
            obtain ⟨rfl, rfl⟩ := hw1
            refine A_perm (ws' := (wX t qX qR qL qY qA im bX ++ (wRd t qR qT qG bR ++ (wTx t qT bT ++ (wL t qG bG ++ (wL t qL bL ++ (wS t qA bA ++ (wY t qY qN fa bY ++ (wS t qN bN ++ (tail)))))))))) ((cutA (wX t qX qR qL qY qA im bX ++ (wRd t qR qT qG bR ++ (wTx t qT bT ++ (wL t qG bG)))) (wL t qL bL) (wS t qA bA ++ (wY t qY qN fa bY ++ (wS t qN bN ++ (tail))))).symm) ?_
            have h0 := Option.some.inj h0
            subst h0
            exact A_iret C dX5_cheap_103 ⟨rfl, rfl⟩
      · refine A_bipush C (-9 : Int32) dX5_cheap_34 (by decide) ?_
        have h0 := Option.some.inj h0
        subst h0
        exact A_iret C dX5_cheap_36 ⟨rfl, rfl⟩
    · exact A_loc [] rfl (t_5_cheap_20 C qX qR qT qG qL qA qY qN im fa tail bX bR bT bG bL bA bY bN r h0)
def f_5_freeing_47 (bL : BV) (bN : BV) (y0 : Int32) : Option (Int32) :=
  some y0
theorem t_5_freeing_47 (C : CX p s m args meth c cX5_freeing 3 (some .int) RX5 D t) (qX : Nat → Nat) (qR : Nat → Nat) (qT : Nat → Nat) (qG : Nat → Nat) (qL : Nat → Nat) (qA : Nat → Nat) (qY : Nat → Nat) (qN : Nat → Nat) (im : Nat → Option Nat) (fa : Nat → Option Nat) (tail : va_W) (bX : BV) (bR : BV) (bT : BV) (bG : BV) (bL : BV) (bA : BV) (bY : BV) (bN : BV) (r : Int32) (y0 : Int32) (h0 : f_5_freeing_47 bL bN y0 = some r) : At p l e (rmD 6) s m args below meth c D 3 w0 (QI below args s D w0 (fun x w => r = x ∧ (wX t qX qR qL qY qA im bX ++ (wRd t qR qT qG bR ++ (wTx t qT bT ++ (wL t qG bG ++ (wL t qL bL ++ (wS t qA bA ++ (wY t qY qN fa bY ++ (wS t qN bN ++ (tail))))))))) = w) 0 0) 0 0 47 [] [.int y0] (wX t qX qR qL qY qA im bX ++ (wRd t qR qT qG bR ++ (wTx t qT bT ++ (wL t qG bG ++ (wL t qL bL ++ (wS t qA bA ++ (wY t qY qN fa bY ++ (wS t qN bN ++ (tail))))))))) := by
  unfold f_5_freeing_47 at h0
  have h0 := Option.some.inj h0
  subst h0
  exact A_iret C dX5_freeing_47 ⟨rfl, rfl⟩
def f_5_freeing (bL : BV) (bN : BV) (x1 : Int32) : Option (Int32) :=
  (f_5_isWithin x1 (0 : Int32) (1 : Int32)).bind (fun z1 => if z1 = 0 then (some (-1 : Int32)) else ((f_5_bestFreeing bL bN).bind (fun z2 => if x1 = 0 then (f_5_freeing_47 bL bN z2) else ((f_5_daysIn bL bN).bind (fun z3 => (f_2_daysOfSet bN z2).bind (fun z4 => (f_0_harvest bL (z3 ||| z4)).bind (fun z5 => f_5_freeing_47 bL bN z5)))))))
theorem c_5_freeing (l : Launch) (D : va_G) (t : ty4) (qX : Nat → Nat) (qR : Nat → Nat) (qT : Nat → Nat) (qG : Nat → Nat) (qL : Nat → Nat) (qA : Nat → Nat) (qY : Nat → Nat) (qN : Nat → Nat) (im : Nat → Option Nat) (fa : Nat → Option Nat) (tail : va_W) (bX : BV) (bR : BV) (bT : BV) (bG : BV) (bL : BV) (bA : BV) (bY : BV) (bN : BV) (x1 : Int32) {r : Int32} (h0 : f_5_freeing bL bN x1 = some r) : MetI l yX5_freeing cX5_freeing 3 (some .int) (rmD 6) D t [.ref (qX 99), .int x1] (wX t qX qR qL qY qA im bX ++ (wRd t qR qT qG bR ++ (wTx t qT bT ++ (wL t qG bG ++ (wL t qL bL ++ (wS t qA bA ++ (wY t qY qN fa bY ++ (wS t qN bN ++ (tail))))))))) (fun x w => r = x ∧ (wX t qX qR qL qY qA im bX ++ (wRd t qR qT qG bR ++ (wTx t qT bT ++ (wL t qG bG ++ (wL t qL bL ++ (wS t qA bA ++ (wY t qY qN fa bY ++ (wS t qN bN ++ (tail))))))))) = w) := by
  refine MetI_of (by decide +kernel) (Nat.le_of_ble_eq_true rfl) (fun p e s m below meth c C _ => ?_)
  unfold f_5_freeing at h0
  generalize hargs : (List.toArray [.ref (qX 99), .int x1] : Array Value) = args at C ⊢
  refine At.start (lv2 := [(0, .ref (qX 99)), (1, .int x1)]) rfl ?_
  refine A_iload_n C 1 dX5_freeing_0 rfl rfl ?_
  refine A_iconst C (0 : Int32) dX5_freeing_1 (by decide) ?_
  refine A_iconst C (1 : Int32) dX5_freeing_2 (by decide) ?_
  obtain ⟨z1, hz1, h0⟩ := bind_some h0
  refine A_sI (As := [.int x1, .int (0 : Int32), .int (1 : Int32)]) (rest := []) C (c_5_isWithin l D t x1 (0 : Int32) (1 : Int32) hz1) mw_5_isWithin ml_5_60 st_5_isWithin (rmok rfl rfl) (cutN (wX t qX qR qL qY qA im bX ++ (wRd t qR qT qG bR ++ (wTx t qT bT ++ (wL t qG bG ++ (wL t qL bL ++ (wS t qA bA ++ (wY t qY qN fa bY ++ (wS t qN bN ++ (tail)))))))))) rfl rfl (Nat.le_of_ble_eq_true rfl) dX5_freeing_3 (fun x w1 hw1 => ?_)
  obtain ⟨rfl, rfl⟩ := hw1
  refine A_perm (ws' := (wX t qX qR qL qY qA im bX ++ (wRd t qR qT qG bR ++ (wTx t qT bT ++ (wL t qG bG ++ (wL t qL bL ++ (wS t qA bA ++ (wY t qY qN fa bY ++ (wS t qN bN ++ (tail)))))))))) ((cutN _).symm) ?_
  refine A_if_ne C 11 dX5_freeing_6 (by decide) h0 (fun h0 => ?_) (fun h0 => ?_)
  · refine A_aload_n C 0 dX5_freeing_11 rfl rfl ?_
    obtain ⟨z2, hz2, h0⟩ := bind_some h0
    refine A_vI (As := []) (rest := []) C 0 (c_5_bestFreeing l D t qX qR qT qG qL qA qY qN im fa tail bX bR bT bG bL bA bY bN hz2) mw_5_bestFreeing ml_5_206 im_5_bestFreeing sl_5_bestFreeing (rmok rfl rfl) (cut0 (wX t qX qR qL qY qA im bX ++ (wRd t qR qT qG bR ++ (wTx t qT bT ++ (wL t qG bG ++ (wL t qL bL ++ (wS t qA bA ++ (wY t qY qN fa bY ++ (wS t qN bN ++ (tail)))))))))) rfl (ci := 5) rfl rfl rfl (Nat.le_of_ble_eq_true rfl) dX5_freeing_12 (fun x w1 hw1 => ?_)
    obtain ⟨rfl, rfl⟩ := hw1
    refine A_perm (ws' := (wX t qX qR qL qY qA im bX ++ (wRd t qR qT qG bR ++ (wTx t qT bT ++ (wL t qG bG ++ (wL t qL bL ++ (wS t qA bA ++ (wY t qY qN fa bY ++ (wS t qN bN ++ (tail)))))))))) ((cut0 _).symm) ?_
    refine A_istore_n C [(2, .int z2), (0, .ref (qX 99)), (1, .int x1)] dX5_freeing_15 rfl (by decide) rfl ?_
    refine A_iload_n C 2 dX5_freeing_16 rfl rfl ?_
    refine A_if_ne C 24 dX5_freeing_17 (by decide) h0 (fun h0 => ?_) (fun h0 => ?_)
    · refine A_aload_n C 1 dX5_freeing_24 rfl rfl ?_
      refine A_get (v := .ref (qL 99)) C 0 1 inG5 (ci := 5) rfl (by decide) fl_5_19 rfl rfl rfl dX5_freeing_25 ?_
      refine A_aload_n C 1 dX5_freeing_28 rfl rfl ?_
      obtain ⟨z3, hz3, h0⟩ := bind_some h0
      refine A_vI (As := []) (rest := [.ref (qL 99)]) C 0 (c_5_daysIn l D t qX qR qT qG qL qA qY qN im fa tail bX bR bT bG bL bA bY bN hz3) mw_5_daysIn ml_5_125 im_5_daysIn sl_5_daysIn (rmok rfl rfl) (cut0 (wX t qX qR qL qY qA im bX ++ (wRd t qR qT qG bR ++ (wTx t qT bT ++ (wL t qG bG ++ (wL t qL bL ++ (wS t qA bA ++ (wY t qY qN fa bY ++ (wS t qN bN ++ (tail)))))))))) rfl (ci := 5) rfl rfl rfl (Nat.le_of_ble_eq_true rfl) dX5_freeing_29 (fun x w1 hw1 => ?_)
      obtain ⟨rfl, rfl⟩ := hw1
      refine A_perm (ws' := (wX t qX qR qL qY qA im bX ++ (wRd t qR qT qG bR ++ (wTx t qT bT ++ (wL t qG bG ++ (wL t qL bL ++ (wS t qA bA ++ (wY t qY qN fa bY ++ (wS t qN bN ++ (tail)))))))))) ((cut0 _).symm) ?_
      refine A_aload_n C 1 dX5_freeing_32 rfl rfl ?_
      refine A_get (v := .ref (qY 99)) C 0 2 inG5 (ci := 5) rfl (by decide) fl_5_26 rfl rfl rfl dX5_freeing_33 ?_
      refine A_get (v := .ref (qN 99)) C 24 0 inG3 (ci := 3) rfl (by decide) fl_5_104 rfl rfl rfl dX5_freeing_36 ?_
      refine A_iload_n C 0 dX5_freeing_39 rfl rfl ?_
      obtain ⟨z4, hz4, h0⟩ := bind_some h0
      refine A_vI (As := [.int z2]) (rest := [.int z3, .ref (qL 99)]) C 0 (c_2_daysOfSet l D t qN bN z2 hz4) mw_2_daysOfSet ml_5_209 im_2_daysOfSet sl_2_daysOfSet (rmok rfl rfl) (cutA (wX t qX qR qL qY qA im bX ++ (wRd t qR qT qG bR ++ (wTx t qT bT ++ (wL t qG bG ++ (wL t qL bL ++ (wS t qA bA ++ (wY t qY qN fa bY))))))) (wS t qN bN) (tail)) rfl (ci := 2) rfl rfl rfl (Nat.le_of_ble_eq_true rfl) dX5_freeing_40 (fun x w1 hw1 => ?_)
      obtain ⟨rfl, rfl⟩ := hw1
      refine A_perm (ws' := (wX t qX qR qL qY qA im bX ++ (wRd t qR qT qG bR ++ (wTx t qT bT ++ (wL t qG bG ++ (wL t qL bL ++ (wS t qA bA ++ (wY t qY qN fa bY ++ (wS t qN bN ++ (tail)))))))))) ((cutA (wX t qX qR qL qY qA im bX ++ (wRd t qR qT qG bR ++ (wTx t qT bT ++ (wL t qG bG ++ (wL t qL bL ++ (wS t qA bA ++ (wY t qY qN fa bY))))))) (wS t qN bN) (tail)).symm) ?_
      refine A_ior C dX5_freeing_43 ?_
      obtain ⟨z5, hz5, h0⟩ := bind_some h0
      refine A_vI (As := [.int (z3 ||| z4)]) (rest := []) C 0 (c_0_harvest l D t qL bL (z3 ||| z4) hz5) mw_0_harvest ml_5_194 im_0_harvest sl_0_harvest (rmok rfl rfl) (cutA (wX t qX qR qL qY qA im bX ++ (wRd t qR qT qG bR ++ (wTx t qT bT ++ (wL t qG bG)))) (wL t qL bL) (wS t qA bA ++ (wY t qY qN fa bY ++ (wS t qN bN ++ (tail))))) rfl (ci := 0) rfl rfl rfl (Nat.le_of_ble_eq_true rfl) dX5_freeing_44 (fun x w1 hw1 => ?_)
      obtain ⟨rfl, rfl⟩ := hw1
      refine A_perm (ws' := (wX t qX qR qL qY qA im bX ++ (wRd t qR qT qG bR ++ (wTx t qT bT ++ (wL t qG bG ++ (wL t qL bL ++ (wS t qA bA ++ (wY t qY qN fa bY ++ (wS t qN bN ++ (tail)))))))))) ((cutA (wX t qX qR qL qY qA im bX ++ (wRd t qR qT qG bR ++ (wTx t qT bT ++ (wL t qG bG)))) (wL t qL bL) (wS t qA bA ++ (wY t qY qN fa bY ++ (wS t qN bN ++ (tail))))).symm) ?_
      exact A_loc [] rfl (t_5_freeing_47 C qX qR qT qG qL qA qY qN im fa tail bX bR bT bG bL bA bY bN r z5 h0)
    · refine A_iload_n C 0 dX5_freeing_20 rfl rfl ?_
      refine A_goto C 47 dX5_freeing_21 (by decide) ?_
      exact A_loc [] rfl (t_5_freeing_47 C qX qR qT qG qL qA qY qN im fa tail bX bR bT bG bL bA bY bN r z2 h0)
  · refine A_iconst C (-1 : Int32) dX5_freeing_9 (by decide) ?_
    have h0 := Option.some.inj h0
    subst h0
    exact A_iret C dX5_freeing_10 ⟨rfl, rfl⟩
def f_5_rich_29_b (bL : BV) (bN : BV) (k29 : BV → Int32 → Int32 → Option (Int32 × BV)) (bA : BV) (x1 : Int32) (x2 : Int32) : Option (Int32 × BV) :=
  if (60 : Int32) < x2 then (some ((-9 : Int32), bA)) else (if (gI bA 4) < x1 then ((f_2_passYear bL bA).bind (fun z1 => k29 z1.2 x1 (x2 + (1 : Int32)))) else (some (x2, bA)))
theorem t_5_rich_29_b (C : CX p s m args meth c cX5_rich 3 (some .int) RX5 D t) (qX : Nat → Nat) (qR : Nat → Nat) (qT : Nat → Nat) (qG : Nat → Nat) (qL : Nat → Nat) (qA : Nat → Nat) (qY : Nat → Nat) (qN : Nat → Nat) (im : Nat → Option Nat) (fa : Nat → Option Nat) (tail : va_W) (bX : BV) (bR : BV) (bT : BV) (bG : BV) (bL : BV) (bY : BV) (bN : BV) (r : Int32 × BV) (k29 : BV → Int32 → Int32 → Option (Int32 × BV)) (K29 : ∀ (bA : BV) (x1 : Int32) (x2 : Int32), k29 bA x1 x2 = some r → At p l e (rmD 6) s m args below meth c D 3 w0 (QI below args s D w0 (fun x w => r.1 = x ∧ (wX t qX qR qL qY qA im bX ++ (wRd t qR qT qG bR ++ (wTx t qT bT ++ (wL t qG bG ++ (wL t qL bL ++ (wS t qA r.2 ++ (wY t qY qN fa bY ++ (wS t qN bN ++ (tail))))))))) = w) 0 0) 0 0 29 [(0, .ref (qX 99)), (1, .int x1), (2, .int x2)] [] (wX t qX qR qL qY qA im bX ++ (wRd t qR qT qG bR ++ (wTx t qT bT ++ (wL t qG bG ++ (wL t qL bL ++ (wS t qA bA ++ (wY t qY qN fa bY ++ (wS t qN bN ++ (tail)))))))))) (bA : BV) (x1 : Int32) (x2 : Int32) (h0 : f_5_rich_29_b bL bN k29 bA x1 x2 = some r) : At p l e (rmD 6) s m args below meth c D 3 w0 (QI below args s D w0 (fun x w => r.1 = x ∧ (wX t qX qR qL qY qA im bX ++ (wRd t qR qT qG bR ++ (wTx t qT bT ++ (wL t qG bG ++ (wL t qL bL ++ (wS t qA r.2 ++ (wY t qY qN fa bY ++ (wS t qN bN ++ (tail))))))))) = w) 0 0) 0 0 29 [(0, .ref (qX 99)), (1, .int x1), (2, .int x2)] [] (wX t qX qR qL qY qA im bX ++ (wRd t qR qT qG bR ++ (wTx t qT bT ++ (wL t qG bG ++ (wL t qL bL ++ (wS t qA bA ++ (wY t qY qN fa bY ++ (wS t qN bN ++ (tail))))))))) := by
  unfold f_5_rich_29_b at h0
  refine A_iload_n C 2 dX5_rich_29 rfl rfl ?_
  refine A_bipush C (60 : Int32) dX5_rich_30 (by decide) ?_
  refine A_icmp_gt C 66 dX5_rich_32 (by decide) h0 (fun h0 => ?_) (fun h0 => ?_)
  · refine A_bipush C (-9 : Int32) dX5_rich_66 (by decide) ?_
    have h0 := Option.some.inj h0
    subst h0
    exact A_iret C dX5_rich_68 ⟨rfl, rfl⟩
  · refine A_aload_n C 0 dX5_rich_35 rfl rfl ?_
    refine A_get (v := .ref (qA 99)) C 0 5 inG5 (ci := 5) rfl (by decide) fl_5_41 rfl rfl rfl dX5_rich_36 ?_
    refine A_get (v := .int (gI bA 4)) C 20 4 inG2 (ci := 2) rfl (by decide) fl_5_167 rfl rfl rfl dX5_rich_39 ?_
    refine A_iload_n C 1 dX5_rich_42 rfl rfl ?_
    refine A_icmp_lt C 48 dX5_rich_43 (by decide) h0 (fun h0 => ?_) (fun h0 => ?_)
    · refine A_aload_n C 0 dX5_rich_48 rfl rfl ?_
      refine A_get (v := .ref (qA 99)) C 0 5 inG5 (ci := 5) rfl (by decide) fl_5_41 rfl rfl rfl dX5_rich_49 ?_
      refine A_aload_n C 0 dX5_rich_52 rfl rfl ?_
      refine A_get (v := .ref (qL 99)) C 0 1 inG5 (ci := 5) rfl (by decide) fl_5_19 rfl rfl rfl dX5_rich_53 ?_
      obtain ⟨z1, hz1, h0⟩ := bind_some h0
      refine A_vI (As := [.ref (qL 99)]) (rest := []) C 6 (c_2_passYear l D t qL qA bL bA hz1) mw_2_passYear ml_5_177 im_2_passYear sl_2_passYear (rmok rfl rfl) (cutA (wX t qX qR qL qY qA im bX ++ (wRd t qR qT qG bR ++ (wTx t qT bT ++ (wL t qG bG)))) (wL t qL bL ++ (wS t qA bA)) (wY t qY qN fa bY ++ (wS t qN bN ++ (tail)))) rfl (ci := 2) rfl rfl rfl (Nat.le_of_ble_eq_true rfl) dX5_rich_56 (fun x w1 hw1 => ?_)
      obtain ⟨rfl, rfl⟩ := hw1
      refine A_perm (ws' := (wX t qX qR qL qY qA im bX ++ (wRd t qR qT qG bR ++ (wTx t qT bT ++ (wL t qG bG ++ (wL t qL bL ++ (wS t qA z1.2 ++ (wY t qY qN fa bY ++ (wS t qN bN ++ (tail)))))))))) ((cutA (wX t qX qR qL qY qA im bX ++ (wRd t qR qT qG bR ++ (wTx t qT bT ++ (wL t qG bG)))) (wL t qL bL ++ (wS t qA z1.2)) (wY t qY qN fa bY ++ (wS t qN bN ++ (tail)))).symm) ?_
      refine A_pop C dX5_rich_59 rfl ?_
      refine A_iinc C 2 (x2 + (1 : Int32)) [(2, .int (x2 + (1 : Int32))), (0, .ref (qX 99)), (1, .int x1)] dX5_rich_60 rfl rfl (by decide) rfl ?_
      refine A_goto C 29 dX5_rich_63 (by decide) ?_
      exact A_loc [1, 2, 0] rfl (K29 z1.2 x1 (x2 + (1 : Int32)) h0)
    · refine A_iload_n C 2 dX5_rich_46 rfl rfl ?_
      have h0 := Option.some.inj h0
      subst h0
      exact A_iret C dX5_rich_47 ⟨rfl, rfl⟩
def f_5_rich_29 (bL : BV) (bN : BV) : Nat → BV → Int32 → Int32 → Option (Int32 × BV)
  | 0 => fun _ _ _ => none
  | n + 1 => f_5_rich_29_b bL bN (f_5_rich_29 bL bN n)
theorem t_5_rich_29 (C : CX p s m args meth c cX5_rich 3 (some .int) RX5 D t) (qX : Nat → Nat) (qR : Nat → Nat) (qT : Nat → Nat) (qG : Nat → Nat) (qL : Nat → Nat) (qA : Nat → Nat) (qY : Nat → Nat) (qN : Nat → Nat) (im : Nat → Option Nat) (fa : Nat → Option Nat) (tail : va_W) (bX : BV) (bR : BV) (bT : BV) (bG : BV) (bL : BV) (bY : BV) (bN : BV) (r : Int32 × BV) : ∀ (n : Nat), ∀ (bA : BV) (x1 : Int32) (x2 : Int32), f_5_rich_29 bL bN n bA x1 x2 = some r → At p l e (rmD 6) s m args below meth c D 3 w0 (QI below args s D w0 (fun x w => r.1 = x ∧ (wX t qX qR qL qY qA im bX ++ (wRd t qR qT qG bR ++ (wTx t qT bT ++ (wL t qG bG ++ (wL t qL bL ++ (wS t qA r.2 ++ (wY t qY qN fa bY ++ (wS t qN bN ++ (tail))))))))) = w) 0 0) 0 0 29 [(0, .ref (qX 99)), (1, .int x1), (2, .int x2)] [] (wX t qX qR qL qY qA im bX ++ (wRd t qR qT qG bR ++ (wTx t qT bT ++ (wL t qG bG ++ (wL t qL bL ++ (wS t qA bA ++ (wY t qY qN fa bY ++ (wS t qN bN ++ (tail))))))))) := by
  intro n
  induction n with
  | zero =>
    intro bA x1 x2 h0
    have h0 : none = some r := h0
    cases h0
  | succ n ih =>
    intro bA x1 x2 h0
    exact t_5_rich_29_b C qX qR qT qG qL qA qY qN im fa tail bX bR bT bG bL bY bN r _ ih bA x1 x2 h0
def f_5_rich (bL : BV) (bA : BV) (bN : BV) (x1 : Int32) : Option (Int32 × BV) :=
  (f_5_isWithin x1 (0 : Int32) (9999 : Int32)).bind (fun z2 => if z2 = 0 then (some ((-1 : Int32), bA)) else ((f_2_become bA bN).bind (fun z3 => f_5_rich_29 bL bN 200 z3 x1 (0 : Int32))))
theorem c_5_rich (l : Launch) (D : va_G) (t : ty4) (qX : Nat → Nat) (qR : Nat → Nat) (qT : Nat → Nat) (qG : Nat → Nat) (qL : Nat → Nat) (qA : Nat → Nat) (qY : Nat → Nat) (qN : Nat → Nat) (im : Nat → Option Nat) (fa : Nat → Option Nat) (tail : va_W) (bX : BV) (bR : BV) (bT : BV) (bG : BV) (bL : BV) (bA : BV) (bY : BV) (bN : BV) (x1 : Int32) {r : Int32 × BV} (h0 : f_5_rich bL bA bN x1 = some r) : MetI l yX5_rich cX5_rich 3 (some .int) (rmD 6) D t [.ref (qX 99), .int x1] (wX t qX qR qL qY qA im bX ++ (wRd t qR qT qG bR ++ (wTx t qT bT ++ (wL t qG bG ++ (wL t qL bL ++ (wS t qA bA ++ (wY t qY qN fa bY ++ (wS t qN bN ++ (tail))))))))) (fun x w => r.1 = x ∧ (wX t qX qR qL qY qA im bX ++ (wRd t qR qT qG bR ++ (wTx t qT bT ++ (wL t qG bG ++ (wL t qL bL ++ (wS t qA r.2 ++ (wY t qY qN fa bY ++ (wS t qN bN ++ (tail))))))))) = w) := by
  refine MetI_of (by decide +kernel) (Nat.le_of_ble_eq_true rfl) (fun p e s m below meth c C _ => ?_)
  unfold f_5_rich at h0
  generalize hargs : (List.toArray [.ref (qX 99), .int x1] : Array Value) = args at C ⊢
  refine At.start (lv2 := [(0, .ref (qX 99)), (1, .int x1)]) rfl ?_
  refine A_iload_n C 1 dX5_rich_0 rfl rfl ?_
  refine A_iconst C (0 : Int32) dX5_rich_1 (by decide) ?_
  refine A_sipush C (9999 : Int32) dX5_rich_2 (by decide) ?_
  obtain ⟨z2, hz2, h0⟩ := bind_some h0
  refine A_sI (As := [.int x1, .int (0 : Int32), .int (9999 : Int32)]) (rest := []) C (c_5_isWithin l D t x1 (0 : Int32) (9999 : Int32) hz2) mw_5_isWithin ml_5_60 st_5_isWithin (rmok rfl rfl) (cutN (wX t qX qR qL qY qA im bX ++ (wRd t qR qT qG bR ++ (wTx t qT bT ++ (wL t qG bG ++ (wL t qL bL ++ (wS t qA bA ++ (wY t qY qN fa bY ++ (wS t qN bN ++ (tail)))))))))) rfl rfl (Nat.le_of_ble_eq_true rfl) dX5_rich_5 (fun x w1 hw1 => ?_)
  obtain ⟨rfl, rfl⟩ := hw1
  refine A_perm (ws' := (wX t qX qR qL qY qA im bX ++ (wRd t qR qT qG bR ++ (wTx t qT bT ++ (wL t qG bG ++ (wL t qL bL ++ (wS t qA bA ++ (wY t qY qN fa bY ++ (wS t qN bN ++ (tail)))))))))) ((cutN _).symm) ?_
  refine A_if_ne C 13 dX5_rich_8 (by decide) h0 (fun h0 => ?_) (fun h0 => ?_)
  · refine A_aload_n C 0 dX5_rich_13 rfl rfl ?_
    refine A_get (v := .ref (qA 99)) C 0 5 inG5 (ci := 5) rfl (by decide) fl_5_41 rfl rfl rfl dX5_rich_14 ?_
    refine A_aload_n C 0 dX5_rich_17 rfl rfl ?_
    refine A_get (v := .ref (qY 99)) C 0 2 inG5 (ci := 5) rfl (by decide) fl_5_26 rfl rfl rfl dX5_rich_18 ?_
    refine A_get (v := .ref (qN 99)) C 24 0 inG3 (ci := 3) rfl (by decide) fl_5_104 rfl rfl rfl dX5_rich_21 ?_
    obtain ⟨z3, hz3, h0⟩ := bind_some h0
    refine A_vV (As := [.ref (qN 99)]) (rest := []) C 0 (c_2_become l D t qA qN bA bN hz3) mw_2_become ml_5_212 im_2_become sl_2_become (rmok rfl rfl) (cutB (wX t qX qR qL qY qA im bX ++ (wRd t qR qT qG bR ++ (wTx t qT bT ++ (wL t qG bG ++ (wL t qL bL))))) (wS t qA bA) (wY t qY qN fa bY) (wS t qN bN) (tail)) rfl (ci := 2) rfl rfl rfl (Nat.le_of_ble_eq_true rfl) dX5_rich_24 (fun w1 hw1 => ?_)
    subst hw1
    refine A_perm (ws' := (wX t qX qR qL qY qA im bX ++ (wRd t qR qT qG bR ++ (wTx t qT bT ++ (wL t qG bG ++ (wL t qL bL ++ (wS t qA z3 ++ (wY t qY qN fa bY ++ (wS t qN bN ++ (tail)))))))))) ((cutB (wX t qX qR qL qY qA im bX ++ (wRd t qR qT qG bR ++ (wTx t qT bT ++ (wL t qG bG ++ (wL t qL bL))))) (wS t qA z3) (wY t qY qN fa bY) (wS t qN bN) (tail)).symm) ?_
    refine A_iconst C (0 : Int32) dX5_rich_27 (by decide) ?_
    refine A_istore_n C [(2, .int (0 : Int32)), (0, .ref (qX 99)), (1, .int x1)] dX5_rich_28 rfl (by decide) rfl ?_
    exact A_loc [1, 2, 0] rfl (t_5_rich_29 C qX qR qT qG qL qA qY qN im fa tail bX bR bT bG bL bY bN r 200 z3 x1 (0 : Int32) h0)
  · refine A_iconst C (-1 : Int32) dX5_rich_11 (by decide) ?_
    have h0 := Option.some.inj h0
    subst h0
    exact A_iret C dX5_rich_12 ⟨rfl, rfl⟩
def f_5_bare_16_b (bL : BV) (bN : BV) (k16 : BV → Int32 → Option (Int32 × BV)) (bA : BV) (x1 : Int32) : Option (Int32 × BV) :=
  if (60 : Int32) < x1 then (some ((-9 : Int32), bA)) else ((f_2_daysIn bL bA).bind (fun z1 => (f_0_ripening bL z1).bind (fun z2 => if z2 = 0 then (some (x1, bA)) else ((f_2_passYear bL bA).bind (fun z3 => k16 z3.2 (x1 + (1 : Int32)))))))
theorem t_5_bare_16_b (C : CX p s m args meth c cX5_bare 2 (some .int) RX5 D t) (qX : Nat → Nat) (qR : Nat → Nat) (qT : Nat → Nat) (qG : Nat → Nat) (qL : Nat → Nat) (qA : Nat → Nat) (qY : Nat → Nat) (qN : Nat → Nat) (im : Nat → Option Nat) (fa : Nat → Option Nat) (tail : va_W) (bX : BV) (bR : BV) (bT : BV) (bG : BV) (bL : BV) (bY : BV) (bN : BV) (r : Int32 × BV) (k16 : BV → Int32 → Option (Int32 × BV)) (K16 : ∀ (bA : BV) (x1 : Int32), k16 bA x1 = some r → At p l e (rmD 6) s m args below meth c D 2 w0 (QI below args s D w0 (fun x w => r.1 = x ∧ (wX t qX qR qL qY qA im bX ++ (wRd t qR qT qG bR ++ (wTx t qT bT ++ (wL t qG bG ++ (wL t qL bL ++ (wS t qA r.2 ++ (wY t qY qN fa bY ++ (wS t qN bN ++ (tail))))))))) = w) 0 0) 0 0 16 [(0, .ref (qX 99)), (1, .int x1)] [] (wX t qX qR qL qY qA im bX ++ (wRd t qR qT qG bR ++ (wTx t qT bT ++ (wL t qG bG ++ (wL t qL bL ++ (wS t qA bA ++ (wY t qY qN fa bY ++ (wS t qN bN ++ (tail)))))))))) (bA : BV) (x1 : Int32) (h0 : f_5_bare_16_b bL bN k16 bA x1 = some r) : At p l e (rmD 6) s m args below meth c D 2 w0 (QI below args s D w0 (fun x w => r.1 = x ∧ (wX t qX qR qL qY qA im bX ++ (wRd t qR qT qG bR ++ (wTx t qT bT ++ (wL t qG bG ++ (wL t qL bL ++ (wS t qA r.2 ++ (wY t qY qN fa bY ++ (wS t qN bN ++ (tail))))))))) = w) 0 0) 0 0 16 [(0, .ref (qX 99)), (1, .int x1)] [] (wX t qX qR qL qY qA im bX ++ (wRd t qR qT qG bR ++ (wTx t qT bT ++ (wL t qG bG ++ (wL t qL bL ++ (wS t qA bA ++ (wY t qY qN fa bY ++ (wS t qN bN ++ (tail))))))))) := by
  unfold f_5_bare_16_b at h0
  refine A_iload_n C 1 dX5_bare_16 rfl rfl ?_
  refine A_bipush C (60 : Int32) dX5_bare_17 (by decide) ?_
  refine A_icmp_gt C 63 dX5_bare_19 (by decide) h0 (fun h0 => ?_) (fun h0 => ?_)
  · refine A_bipush C (-9 : Int32) dX5_bare_63 (by decide) ?_
    have h0 := Option.some.inj h0
    subst h0
    exact A_iret C dX5_bare_65 ⟨rfl, rfl⟩
  · refine A_aload_n C 0 dX5_bare_22 rfl rfl ?_
    refine A_get (v := .ref (qL 99)) C 0 1 inG5 (ci := 5) rfl (by decide) fl_5_19 rfl rfl rfl dX5_bare_23 ?_
    refine A_aload_n C 0 dX5_bare_26 rfl rfl ?_
    refine A_get (v := .ref (qA 99)) C 0 5 inG5 (ci := 5) rfl (by decide) fl_5_41 rfl rfl rfl dX5_bare_27 ?_
    refine A_aload_n C 0 dX5_bare_30 rfl rfl ?_
    refine A_get (v := .ref (qL 99)) C 0 1 inG5 (ci := 5) rfl (by decide) fl_5_19 rfl rfl rfl dX5_bare_31 ?_
    obtain ⟨z1, hz1, h0⟩ := bind_some h0
    refine A_vI (As := [.ref (qL 99)]) (rest := [.ref (qL 99)]) C 6 (c_2_daysIn l D t qL qA bL bA hz1) mw_2_daysIn ml_5_216 im_2_daysIn sl_2_daysIn (rmok rfl rfl) (cutA (wX t qX qR qL qY qA im bX ++ (wRd t qR qT qG bR ++ (wTx t qT bT ++ (wL t qG bG)))) (wL t qL bL ++ (wS t qA bA)) (wY t qY qN fa bY ++ (wS t qN bN ++ (tail)))) rfl (ci := 2) rfl rfl rfl (Nat.le_of_ble_eq_true rfl) dX5_bare_34 (fun x w1 hw1 => ?_)
    obtain ⟨rfl, rfl⟩ := hw1
    refine A_perm (ws' := (wX t qX qR qL qY qA im bX ++ (wRd t qR qT qG bR ++ (wTx t qT bT ++ (wL t qG bG ++ (wL t qL bL ++ (wS t qA bA ++ (wY t qY qN fa bY ++ (wS t qN bN ++ (tail)))))))))) ((cutA (wX t qX qR qL qY qA im bX ++ (wRd t qR qT qG bR ++ (wTx t qT bT ++ (wL t qG bG)))) (wL t qL bL ++ (wS t qA bA)) (wY t qY qN fa bY ++ (wS t qN bN ++ (tail)))).symm) ?_
    obtain ⟨z2, hz2, h0⟩ := bind_some h0
    refine A_vI (As := [.int z1]) (rest := []) C 0 (c_0_ripening l D t qL bL z1 hz2) mw_0_ripening ml_5_218 im_0_ripening sl_0_ripening (rmok rfl rfl) (cutA (wX t qX qR qL qY qA im bX ++ (wRd t qR qT qG bR ++ (wTx t qT bT ++ (wL t qG bG)))) (wL t qL bL) (wS t qA bA ++ (wY t qY qN fa bY ++ (wS t qN bN ++ (tail))))) rfl (ci := 0) rfl rfl rfl (Nat.le_of_ble_eq_true rfl) dX5_bare_37 (fun x w1 hw1 => ?_)
    obtain ⟨rfl, rfl⟩ := hw1
    refine A_perm (ws' := (wX t qX qR qL qY qA im bX ++ (wRd t qR qT qG bR ++ (wTx t qT bT ++ (wL t qG bG ++ (wL t qL bL ++ (wS t qA bA ++ (wY t qY qN fa bY ++ (wS t qN bN ++ (tail)))))))))) ((cutA (wX t qX qR qL qY qA im bX ++ (wRd t qR qT qG bR ++ (wTx t qT bT ++ (wL t qG bG)))) (wL t qL bL) (wS t qA bA ++ (wY t qY qN fa bY ++ (wS t qN bN ++ (tail))))).symm) ?_
    refine A_if_ne C 45 dX5_bare_40 (by decide) h0 (fun h0 => ?_) (fun h0 => ?_)
    · refine A_aload_n C 0 dX5_bare_45 rfl rfl ?_
      refine A_get (v := .ref (qA 99)) C 0 5 inG5 (ci := 5) rfl (by decide) fl_5_41 rfl rfl rfl dX5_bare_46 ?_
      refine A_aload_n C 0 dX5_bare_49 rfl rfl ?_
      refine A_get (v := .ref (qL 99)) C 0 1 inG5 (ci := 5) rfl (by decide) fl_5_19 rfl rfl rfl dX5_bare_50 ?_
      obtain ⟨z3, hz3, h0⟩ := bind_some h0
      refine A_vI (As := [.ref (qL 99)]) (rest := []) C 6 (c_2_passYear l D t qL qA bL bA hz3) mw_2_passYear ml_5_177 im_2_passYear sl_2_passYear (rmok rfl rfl) (cutA (wX t qX qR qL qY qA im bX ++ (wRd t qR qT qG bR ++ (wTx t qT bT ++ (wL t qG bG)))) (wL t qL bL ++ (wS t qA bA)) (wY t qY qN fa bY ++ (wS t qN bN ++ (tail)))) rfl (ci := 2) rfl rfl rfl (Nat.le_of_ble_eq_true rfl) dX5_bare_53 (fun x w1 hw1 => ?_)
      obtain ⟨rfl, rfl⟩ := hw1
      refine A_perm (ws' := (wX t qX qR qL qY qA im bX ++ (wRd t qR qT qG bR ++ (wTx t qT bT ++ (wL t qG bG ++ (wL t qL bL ++ (wS t qA z3.2 ++ (wY t qY qN fa bY ++ (wS t qN bN ++ (tail)))))))))) ((cutA (wX t qX qR qL qY qA im bX ++ (wRd t qR qT qG bR ++ (wTx t qT bT ++ (wL t qG bG)))) (wL t qL bL ++ (wS t qA z3.2)) (wY t qY qN fa bY ++ (wS t qN bN ++ (tail)))).symm) ?_
      refine A_pop C dX5_bare_56 rfl ?_
      refine A_iinc C 1 (x1 + (1 : Int32)) [(1, .int (x1 + (1 : Int32))), (0, .ref (qX 99))] dX5_bare_57 rfl rfl (by decide) rfl ?_
      refine A_goto C 16 dX5_bare_60 (by decide) ?_
      exact A_loc [1, 0] rfl (K16 z3.2 (x1 + (1 : Int32)) h0)
    · refine A_iload_n C 1 dX5_bare_43 rfl rfl ?_
      have h0 := Option.some.inj h0
      subst h0
      exact A_iret C dX5_bare_44 ⟨rfl, rfl⟩
def f_5_bare_16 (bL : BV) (bN : BV) : Nat → BV → Int32 → Option (Int32 × BV)
  | 0 => fun _ _ => none
  | n + 1 => f_5_bare_16_b bL bN (f_5_bare_16 bL bN n)
theorem t_5_bare_16 (C : CX p s m args meth c cX5_bare 2 (some .int) RX5 D t) (qX : Nat → Nat) (qR : Nat → Nat) (qT : Nat → Nat) (qG : Nat → Nat) (qL : Nat → Nat) (qA : Nat → Nat) (qY : Nat → Nat) (qN : Nat → Nat) (im : Nat → Option Nat) (fa : Nat → Option Nat) (tail : va_W) (bX : BV) (bR : BV) (bT : BV) (bG : BV) (bL : BV) (bY : BV) (bN : BV) (r : Int32 × BV) : ∀ (n : Nat), ∀ (bA : BV) (x1 : Int32), f_5_bare_16 bL bN n bA x1 = some r → At p l e (rmD 6) s m args below meth c D 2 w0 (QI below args s D w0 (fun x w => r.1 = x ∧ (wX t qX qR qL qY qA im bX ++ (wRd t qR qT qG bR ++ (wTx t qT bT ++ (wL t qG bG ++ (wL t qL bL ++ (wS t qA r.2 ++ (wY t qY qN fa bY ++ (wS t qN bN ++ (tail))))))))) = w) 0 0) 0 0 16 [(0, .ref (qX 99)), (1, .int x1)] [] (wX t qX qR qL qY qA im bX ++ (wRd t qR qT qG bR ++ (wTx t qT bT ++ (wL t qG bG ++ (wL t qL bL ++ (wS t qA bA ++ (wY t qY qN fa bY ++ (wS t qN bN ++ (tail))))))))) := by
  intro n
  induction n with
  | zero =>
    intro bA x1 h0
    have h0 : none = some r := h0
    cases h0
  | succ n ih =>
    intro bA x1 h0
    exact t_5_bare_16_b C qX qR qT qG qL qA qY qN im fa tail bX bR bT bG bL bY bN r _ ih bA x1 h0
def f_5_bare (bL : BV) (bA : BV) (bN : BV) : Option (Int32 × BV) :=
  (f_2_become bA bN).bind (fun z4 => f_5_bare_16 bL bN 200 z4 (0 : Int32))
theorem c_5_bare (l : Launch) (D : va_G) (t : ty4) (qX : Nat → Nat) (qR : Nat → Nat) (qT : Nat → Nat) (qG : Nat → Nat) (qL : Nat → Nat) (qA : Nat → Nat) (qY : Nat → Nat) (qN : Nat → Nat) (im : Nat → Option Nat) (fa : Nat → Option Nat) (tail : va_W) (bX : BV) (bR : BV) (bT : BV) (bG : BV) (bL : BV) (bA : BV) (bY : BV) (bN : BV) {r : Int32 × BV} (h0 : f_5_bare bL bA bN = some r) : MetI l yX5_bare cX5_bare 2 (some .int) (rmD 6) D t [.ref (qX 99)] (wX t qX qR qL qY qA im bX ++ (wRd t qR qT qG bR ++ (wTx t qT bT ++ (wL t qG bG ++ (wL t qL bL ++ (wS t qA bA ++ (wY t qY qN fa bY ++ (wS t qN bN ++ (tail))))))))) (fun x w => r.1 = x ∧ (wX t qX qR qL qY qA im bX ++ (wRd t qR qT qG bR ++ (wTx t qT bT ++ (wL t qG bG ++ (wL t qL bL ++ (wS t qA r.2 ++ (wY t qY qN fa bY ++ (wS t qN bN ++ (tail))))))))) = w) := by
  refine MetI_of (by decide +kernel) (Nat.le_of_ble_eq_true rfl) (fun p e s m below meth c C _ => ?_)
  unfold f_5_bare at h0
  generalize hargs : (List.toArray [.ref (qX 99)] : Array Value) = args at C ⊢
  refine At.start (lv2 := [(0, .ref (qX 99))]) rfl ?_
  refine A_aload_n C 0 dX5_bare_0 rfl rfl ?_
  refine A_get (v := .ref (qA 99)) C 0 5 inG5 (ci := 5) rfl (by decide) fl_5_41 rfl rfl rfl dX5_bare_1 ?_
  refine A_aload_n C 0 dX5_bare_4 rfl rfl ?_
  refine A_get (v := .ref (qY 99)) C 0 2 inG5 (ci := 5) rfl (by decide) fl_5_26 rfl rfl rfl dX5_bare_5 ?_
  refine A_get (v := .ref (qN 99)) C 24 0 inG3 (ci := 3) rfl (by decide) fl_5_104 rfl rfl rfl dX5_bare_8 ?_
  obtain ⟨z4, hz4, h0⟩ := bind_some h0
  refine A_vV (As := [.ref (qN 99)]) (rest := []) C 0 (c_2_become l D t qA qN bA bN hz4) mw_2_become ml_5_212 im_2_become sl_2_become (rmok rfl rfl) (cutB (wX t qX qR qL qY qA im bX ++ (wRd t qR qT qG bR ++ (wTx t qT bT ++ (wL t qG bG ++ (wL t qL bL))))) (wS t qA bA) (wY t qY qN fa bY) (wS t qN bN) (tail)) rfl (ci := 2) rfl rfl rfl (Nat.le_of_ble_eq_true rfl) dX5_bare_11 (fun w1 hw1 => ?_)
  subst hw1
  refine A_perm (ws' := (wX t qX qR qL qY qA im bX ++ (wRd t qR qT qG bR ++ (wTx t qT bT ++ (wL t qG bG ++ (wL t qL bL ++ (wS t qA z4 ++ (wY t qY qN fa bY ++ (wS t qN bN ++ (tail)))))))))) ((cutB (wX t qX qR qL qY qA im bX ++ (wRd t qR qT qG bR ++ (wTx t qT bT ++ (wL t qG bG ++ (wL t qL bL))))) (wS t qA z4) (wY t qY qN fa bY) (wS t qN bN) (tail)).symm) ?_
  refine A_iconst C (0 : Int32) dX5_bare_14 (by decide) ?_
  refine A_istore_n C [(1, .int (0 : Int32)), (0, .ref (qX 99))] dX5_bare_15 rfl (by decide) rfl ?_
  exact A_loc [1, 0] rfl (t_5_bare_16 C qX qR qT qG qL qA qY qN im fa tail bX bR bT bG bL bY bN r 200 z4 (0 : Int32) h0)
def f_5_odds_146 (bL : BV) (bN : BV) (x7 : Int32) (y0 : Int32) : Option (Int32) :=
  ck (nz x7) (some (y0 / x7))
theorem t_5_odds_146 (C : CX p s m args meth c cX5_odds 9 (some .int) RX5 D t) (qX : Nat → Nat) (qR : Nat → Nat) (qT : Nat → Nat) (qG : Nat → Nat) (qL : Nat → Nat) (qA : Nat → Nat) (qY : Nat → Nat) (qN : Nat → Nat) (im : Nat → Option Nat) (fa : Nat → Option Nat) (tail : va_W) (bX : BV) (bR : BV) (bT : BV) (bG : BV) (bL : BV) (bA : BV) (bY : BV) (bN : BV) (r : Int32) (x7 : Int32) (y0 : Int32) (h0 : f_5_odds_146 bL bN x7 y0 = some r) : At p l e (rmD 5) s m args below meth c D 9 w0 (QI below args s D w0 (fun x w => r = x ∧ (wX t qX qR qL qY qA im bX ++ (wRd t qR qT qG bR ++ (wTx t qT bT ++ (wL t qG bG ++ (wL t qL bL ++ (wS t qA bA ++ (wY t qY qN fa bY ++ (wS t qN bN ++ (tail))))))))) = w) 0 0) 0 0 146 [(7, .int x7)] [.int y0] (wX t qX qR qL qY qA im bX ++ (wRd t qR qT qG bR ++ (wTx t qT bT ++ (wL t qG bG ++ (wL t qL bL ++ (wS t qA bA ++ (wY t qY qN fa bY ++ (wS t qN bN ++ (tail))))))))) := by
  unfold f_5_odds_146 at h0
  refine A_iload C 0 dX5_odds_146 rfl ?_
  refine A_idiv C dX5_odds_148 h0 (fun h0 => ?_)
  have h0 := Option.some.inj h0
  subst h0
  exact A_iret C dX5_odds_149 ⟨rfl, rfl⟩
def f_5_odds_112 (bL : BV) (bN : BV) (k54 : Int32 → Int32 → Int32 → Int32 → Int32 → Int32 → Int32 → Option (Int32)) (x1 : Int32) (x2 : Int32) (x3 : Int32) (x4 : Int32) (x5 : Int32) (x6 : Int32) (x7 : Int32) : Option (Int32) :=
  k54 x1 x2 x3 x4 x5 x6 (x7 + (1 : Int32))
theorem t_5_odds_112 (C : CX p s m args meth c cX5_odds 9 (some .int) RX5 D t) (qX : Nat → Nat) (qR : Nat → Nat) (qT : Nat → Nat) (qG : Nat → Nat) (qL : Nat → Nat) (qA : Nat → Nat) (qY : Nat → Nat) (qN : Nat → Nat) (im : Nat → Option Nat) (fa : Nat → Option Nat) (tail : va_W) (bX : BV) (bR : BV) (bT : BV) (bG : BV) (bL : BV) (bA : BV) (bY : BV) (bN : BV) (r : Int32) (k54 : Int32 → Int32 → Int32 → Int32 → Int32 → Int32 → Int32 → Option (Int32)) (K54 : ∀ (x1 : Int32) (x2 : Int32) (x3 : Int32) (x4 : Int32) (x5 : Int32) (x6 : Int32) (x7 : Int32), k54 x1 x2 x3 x4 x5 x6 x7 = some r → At p l e (rmD 5) s m args below meth c D 9 w0 (QI below args s D w0 (fun x w => r = x ∧ (wX t qX qR qL qY qA im bX ++ (wRd t qR qT qG bR ++ (wTx t qT bT ++ (wL t qG bG ++ (wL t qL bL ++ (wS t qA bA ++ (wY t qY qN fa bY ++ (wS t qN bN ++ (tail))))))))) = w) 0 0) 0 0 54 [(0, .ref (qX 99)), (1, .int x1), (2, .int x2), (3, .int x3), (4, .int x4), (5, .int x5), (6, .int x6), (7, .int x7)] [] (wX t qX qR qL qY qA im bX ++ (wRd t qR qT qG bR ++ (wTx t qT bT ++ (wL t qG bG ++ (wL t qL bL ++ (wS t qA bA ++ (wY t qY qN fa bY ++ (wS t qN bN ++ (tail)))))))))) (x1 : Int32) (x2 : Int32) (x3 : Int32) (x4 : Int32) (x5 : Int32) (x6 : Int32) (x7 : Int32) (h0 : f_5_odds_112 bL bN k54 x1 x2 x3 x4 x5 x6 x7 = some r) : At p l e (rmD 5) s m args below meth c D 9 w0 (QI below args s D w0 (fun x w => r = x ∧ (wX t qX qR qL qY qA im bX ++ (wRd t qR qT qG bR ++ (wTx t qT bT ++ (wL t qG bG ++ (wL t qL bL ++ (wS t qA bA ++ (wY t qY qN fa bY ++ (wS t qN bN ++ (tail))))))))) = w) 0 0) 0 0 112 [(0, .ref (qX 99)), (1, .int x1), (2, .int x2), (3, .int x3), (4, .int x4), (5, .int x5), (6, .int x6), (7, .int x7)] [] (wX t qX qR qL qY qA im bX ++ (wRd t qR qT qG bR ++ (wTx t qT bT ++ (wL t qG bG ++ (wL t qL bL ++ (wS t qA bA ++ (wY t qY qN fa bY ++ (wS t qN bN ++ (tail))))))))) := by
  unfold f_5_odds_112 at h0
  refine A_iinc C 7 (x7 + (1 : Int32)) [(7, .int (x7 + (1 : Int32))), (0, .ref (qX 99)), (1, .int x1), (2, .int x2), (3, .int x3), (4, .int x4), (5, .int x5), (6, .int x6)] dX5_odds_112 rfl rfl (by decide) rfl ?_
  refine A_goto C 54 dX5_odds_115 (by decide) ?_
  exact A_loc [1, 2, 3, 4, 5, 6, 7, 0] rfl (K54 x1 x2 x3 x4 x5 x6 (x7 + (1 : Int32)) h0)
def f_5_odds_109 (bL : BV) (bN : BV) (k54 : Int32 → Int32 → Int32 → Int32 → Int32 → Int32 → Int32 → Option (Int32)) (x1 : Int32) (x2 : Int32) (x3 : Int32) (x4 : Int32) (x6 : Int32) (x7 : Int32) (y0 : Int32) (y1 : Int32) : Option (Int32) :=
  f_5_odds_112 bL bN k54 x1 x2 x3 x4 (y1 + y0) x6 x7
theorem t_5_odds_109 (C : CX p s m args meth c cX5_odds 9 (some .int) RX5 D t) (qX : Nat → Nat) (qR : Nat → Nat) (qT : Nat → Nat) (qG : Nat → Nat) (qL : Nat → Nat) (qA : Nat → Nat) (qY : Nat → Nat) (qN : Nat → Nat) (im : Nat → Option Nat) (fa : Nat → Option Nat) (tail : va_W) (bX : BV) (bR : BV) (bT : BV) (bG : BV) (bL : BV) (bA : BV) (bY : BV) (bN : BV) (r : Int32) (k54 : Int32 → Int32 → Int32 → Int32 → Int32 → Int32 → Int32 → Option (Int32)) (K54 : ∀ (x1 : Int32) (x2 : Int32) (x3 : Int32) (x4 : Int32) (x5 : Int32) (x6 : Int32) (x7 : Int32), k54 x1 x2 x3 x4 x5 x6 x7 = some r → At p l e (rmD 5) s m args below meth c D 9 w0 (QI below args s D w0 (fun x w => r = x ∧ (wX t qX qR qL qY qA im bX ++ (wRd t qR qT qG bR ++ (wTx t qT bT ++ (wL t qG bG ++ (wL t qL bL ++ (wS t qA bA ++ (wY t qY qN fa bY ++ (wS t qN bN ++ (tail))))))))) = w) 0 0) 0 0 54 [(0, .ref (qX 99)), (1, .int x1), (2, .int x2), (3, .int x3), (4, .int x4), (5, .int x5), (6, .int x6), (7, .int x7)] [] (wX t qX qR qL qY qA im bX ++ (wRd t qR qT qG bR ++ (wTx t qT bT ++ (wL t qG bG ++ (wL t qL bL ++ (wS t qA bA ++ (wY t qY qN fa bY ++ (wS t qN bN ++ (tail)))))))))) (x1 : Int32) (x2 : Int32) (x3 : Int32) (x4 : Int32) (x6 : Int32) (x7 : Int32) (y0 : Int32) (y1 : Int32) (h0 : f_5_odds_109 bL bN k54 x1 x2 x3 x4 x6 x7 y0 y1 = some r) : At p l e (rmD 5) s m args below meth c D 9 w0 (QI below args s D w0 (fun x w => r = x ∧ (wX t qX qR qL qY qA im bX ++ (wRd t qR qT qG bR ++ (wTx t qT bT ++ (wL t qG bG ++ (wL t qL bL ++ (wS t qA bA ++ (wY t qY qN fa bY ++ (wS t qN bN ++ (tail))))))))) = w) 0 0) 0 0 109 [(0, .ref (qX 99)), (1, .int x1), (2, .int x2), (3, .int x3), (4, .int x4), (6, .int x6), (7, .int x7)] [.int y0, .int y1] (wX t qX qR qL qY qA im bX ++ (wRd t qR qT qG bR ++ (wTx t qT bT ++ (wL t qG bG ++ (wL t qL bL ++ (wS t qA bA ++ (wY t qY qN fa bY ++ (wS t qN bN ++ (tail))))))))) := by
  unfold f_5_odds_109 at h0
  refine A_iadd C dX5_odds_109 ?_
  refine A_istore C [(5, .int (y1 + y0)), (0, .ref (qX 99)), (1, .int x1), (2, .int x2), (3, .int x3), (4, .int x4), (6, .int x6), (7, .int x7)] dX5_odds_110 (by decide) rfl ?_
  exact A_loc [1, 2, 3, 4, 5, 0, 6, 7] rfl (t_5_odds_112 C qX qR qT qG qL qA qY qN im fa tail bX bR bT bG bL bA bY bN r k54 K54 x1 x2 x3 x4 (y1 + y0) x6 x7 h0)
def f_5_odds_54_b (bL : BV) (bN : BV) (k54 : Int32 → Int32 → Int32 → Int32 → Int32 → Int32 → Int32 → Option (Int32)) (x1 : Int32) (x2 : Int32) (x3 : Int32) (x4 : Int32) (x5 : Int32) (x6 : Int32) (x7 : Int32) : Option (Int32) :=
  if (16 : Int32) ≤ x7 then ((f_5_greatestDivisor x6 x5).bind (fun z1 => if z1 = 0 then (some (-9 : Int32)) else (if x3 = 0 then (f_5_odds_146 bL bN z1 x5) else (f_5_odds_146 bL bN z1 x6)))) else (if (x7 &&& (x4 ^^^ (-1 : Int32))) = 0 then ((f_5_chancesOf x7 x4 x1).bind (fun z2 => (f_0_worthOf bL x7).bind (fun z3 => if z3 < x2 then (f_5_odds_109 bL bN k54 x1 x2 x3 x4 (x6 + z2) x7 (0 : Int32) x5) else (f_5_odds_109 bL bN k54 x1 x2 x3 x4 (x6 + z2) x7 z2 x5)))) else (f_5_odds_112 bL bN k54 x1 x2 x3 x4 x5 x6 x7))
theorem t_5_odds_54_b (C : CX p s m args meth c cX5_odds 9 (some .int) RX5 D t) (qX : Nat → Nat) (qR : Nat → Nat) (qT : Nat → Nat) (qG : Nat → Nat) (qL : Nat → Nat) (qA : Nat → Nat) (qY : Nat → Nat) (qN : Nat → Nat) (im : Nat → Option Nat) (fa : Nat → Option Nat) (tail : va_W) (bX : BV) (bR : BV) (bT : BV) (bG : BV) (bL : BV) (bA : BV) (bY : BV) (bN : BV) (r : Int32) (k54 : Int32 → Int32 → Int32 → Int32 → Int32 → Int32 → Int32 → Option (Int32)) (K54 : ∀ (x1 : Int32) (x2 : Int32) (x3 : Int32) (x4 : Int32) (x5 : Int32) (x6 : Int32) (x7 : Int32), k54 x1 x2 x3 x4 x5 x6 x7 = some r → At p l e (rmD 5) s m args below meth c D 9 w0 (QI below args s D w0 (fun x w => r = x ∧ (wX t qX qR qL qY qA im bX ++ (wRd t qR qT qG bR ++ (wTx t qT bT ++ (wL t qG bG ++ (wL t qL bL ++ (wS t qA bA ++ (wY t qY qN fa bY ++ (wS t qN bN ++ (tail))))))))) = w) 0 0) 0 0 54 [(0, .ref (qX 99)), (1, .int x1), (2, .int x2), (3, .int x3), (4, .int x4), (5, .int x5), (6, .int x6), (7, .int x7)] [] (wX t qX qR qL qY qA im bX ++ (wRd t qR qT qG bR ++ (wTx t qT bT ++ (wL t qG bG ++ (wL t qL bL ++ (wS t qA bA ++ (wY t qY qN fa bY ++ (wS t qN bN ++ (tail)))))))))) (x1 : Int32) (x2 : Int32) (x3 : Int32) (x4 : Int32) (x5 : Int32) (x6 : Int32) (x7 : Int32) (h0 : f_5_odds_54_b bL bN k54 x1 x2 x3 x4 x5 x6 x7 = some r) : At p l e (rmD 5) s m args below meth c D 9 w0 (QI below args s D w0 (fun x w => r = x ∧ (wX t qX qR qL qY qA im bX ++ (wRd t qR qT qG bR ++ (wTx t qT bT ++ (wL t qG bG ++ (wL t qL bL ++ (wS t qA bA ++ (wY t qY qN fa bY ++ (wS t qN bN ++ (tail))))))))) = w) 0 0) 0 0 54 [(0, .ref (qX 99)), (1, .int x1), (2, .int x2), (3, .int x3), (4, .int x4), (5, .int x5), (6, .int x6), (7, .int x7)] [] (wX t qX qR qL qY qA im bX ++ (wRd t qR qT qG bR ++ (wTx t qT bT ++ (wL t qG bG ++ (wL t qL bL ++ (wS t qA bA ++ (wY t qY qN fa bY ++ (wS t qN bN ++ (tail))))))))) := by
  unfold f_5_odds_54_b at h0
  refine A_iload C 7 dX5_odds_54 rfl ?_
  refine A_bipush C (16 : Int32) dX5_odds_56 (by decide) ?_
  refine A_icmp_ge C 118 dX5_odds_58 (by decide) h0 (fun h0 => ?_) (fun h0 => ?_)
  · refine A_iload C 6 dX5_odds_118 rfl ?_
    refine A_iload C 5 dX5_odds_120 rfl ?_
    obtain ⟨z1, hz1, h0⟩ := bind_some h0
    refine A_sI (As := [.int x6, .int x5]) (rest := []) C (c_5_greatestDivisor l D t x6 x5 hz1) mw_5_greatestDivisor ml_5_237 st_5_greatestDivisor (rmok rfl rfl) (cutN (wX t qX qR qL qY qA im bX ++ (wRd t qR qT qG bR ++ (wTx t qT bT ++ (wL t qG bG ++ (wL t qL bL ++ (wS t qA bA ++ (wY t qY qN fa bY ++ (wS t qN bN ++ (tail)))))))))) rfl rfl (Nat.le_of_ble_eq_true rfl) dX5_odds_122 (fun x w1 hw1 => ?_)
    obtain ⟨rfl, rfl⟩ := hw1
    refine A_perm (ws' := (wX t qX qR qL qY qA im bX ++ (wRd t qR qT qG bR ++ (wTx t qT bT ++ (wL t qG bG ++ (wL t qL bL ++ (wS t qA bA ++ (wY t qY qN fa bY ++ (wS t qN bN ++ (tail)))))))))) ((cutN _).symm) ?_
    refine A_istore C [(7, .int z1), (0, .ref (qX 99)), (1, .int x1), (2, .int x2), (3, .int x3), (4, .int x4), (5, .int x5), (6, .int x6)] dX5_odds_125 (by decide) rfl ?_
    refine A_iload C 0 dX5_odds_127 rfl ?_
    refine A_if_ne C 135 dX5_odds_129 (by decide) h0 (fun h0 => ?_) (fun h0 => ?_)
    · refine A_iload_n C 4 dX5_odds_135 rfl rfl ?_
      refine A_if_ne C 144 dX5_odds_136 (by decide) h0 (fun h0 => ?_) (fun h0 => ?_)
      · refine A_iload C 7 dX5_odds_144 rfl ?_
        exact A_loc [0] rfl (t_5_odds_146 C qX qR qT qG qL qA qY qN im fa tail bX bR bT bG bL bA bY bN r z1 x6 h0)
      · refine A_iload C 6 dX5_odds_139 rfl ?_
        refine A_goto C 146 dX5_odds_141 (by decide) ?_
        exact A_loc [0] rfl (t_5_odds_146 C qX qR qT qG qL qA qY qN im fa tail bX bR bT bG bL bA bY bN r z1 x5 h0)
    · refine A_bipush C (-9 : Int32) dX5_odds_132 (by decide) ?_
      have h0 := Option.some.inj h0
      subst h0
      exact A_iret C dX5_odds_134 ⟨rfl, rfl⟩
  · refine A_iload C 7 dX5_odds_61 rfl ?_
    refine A_iload C 4 dX5_odds_63 rfl ?_
    refine A_iconst C (-1 : Int32) dX5_odds_65 (by decide) ?_
    refine A_ixor C dX5_odds_66 ?_
    refine A_iand C dX5_odds_67 ?_
    refine A_if_ne C 112 dX5_odds_68 (by decide) h0 (fun h0 => ?_) (fun h0 => ?_)
    · exact A_loc [0, 1, 2, 3, 4, 5, 6, 7] rfl (t_5_odds_112 C qX qR qT qG qL qA qY qN im fa tail bX bR bT bG bL bA bY bN r k54 K54 x1 x2 x3 x4 x5 x6 x7 h0)
    · refine A_iload C 7 dX5_odds_71 rfl ?_
      refine A_iload C 4 dX5_odds_73 rfl ?_
      refine A_iload_n C 1 dX5_odds_75 rfl rfl ?_
      obtain ⟨z2, hz2, h0⟩ := bind_some h0
      refine A_sI (As := [.int x7, .int x4, .int x1]) (rest := []) C (c_5_chancesOf l D t x7 x4 x1 hz2) mw_5_chancesOf ml_5_230 st_5_chancesOf (rmok rfl rfl) (cutN (wX t qX qR qL qY qA im bX ++ (wRd t qR qT qG bR ++ (wTx t qT bT ++ (wL t qG bG ++ (wL t qL bL ++ (wS t qA bA ++ (wY t qY qN fa bY ++ (wS t qN bN ++ (tail)))))))))) rfl rfl (Nat.le_of_ble_eq_true rfl) dX5_odds_76 (fun x w1 hw1 => ?_)
      obtain ⟨rfl, rfl⟩ := hw1
      refine A_perm (ws' := (wX t qX qR qL qY qA im bX ++ (wRd t qR qT qG bR ++ (wTx t qT bT ++ (wL t qG bG ++ (wL t qL bL ++ (wS t qA bA ++ (wY t qY qN fa bY ++ (wS t qN bN ++ (tail)))))))))) ((cutN _).symm) ?_
      refine A_istore C [(8, .int z2), (0, .ref (qX 99)), (1, .int x1), (2, .int x2), (3, .int x3), (4, .int x4), (5, .int x5), (6, .int x6), (7, .int x7)] dX5_odds_79 (by decide) rfl ?_
      refine A_iload C 7 dX5_odds_81 rfl ?_
      refine A_iload C 0 dX5_odds_83 rfl ?_
      refine A_iadd C dX5_odds_85 ?_
      refine A_istore C [(6, .int (x6 + z2)), (8, .int z2), (0, .ref (qX 99)), (1, .int x1), (2, .int x2), (3, .int x3), (4, .int x4), (5, .int x5), (7, .int x7)] dX5_odds_86 (by decide) rfl ?_
      refine A_iload C 7 dX5_odds_88 rfl ?_
      refine A_aload_n C 2 dX5_odds_90 rfl rfl ?_
      refine A_get (v := .ref (qL 99)) C 0 1 inG5 (ci := 5) rfl (by decide) fl_5_19 rfl rfl rfl dX5_odds_91 ?_
      refine A_iload C 8 dX5_odds_94 rfl ?_
      obtain ⟨z3, hz3, h0⟩ := bind_some h0
      refine A_vI (As := [.int x7]) (rest := [.int x5]) C 0 (c_0_worthOf l D t qL bL x7 hz3) mw_0_worthOf ml_5_234 im_0_worthOf sl_0_worthOf (rmok rfl rfl) (cutA (wX t qX qR qL qY qA im bX ++ (wRd t qR qT qG bR ++ (wTx t qT bT ++ (wL t qG bG)))) (wL t qL bL) (wS t qA bA ++ (wY t qY qN fa bY ++ (wS t qN bN ++ (tail))))) rfl (ci := 0) rfl rfl rfl (Nat.le_of_ble_eq_true rfl) dX5_odds_96 (fun x w1 hw1 => ?_)
      obtain ⟨rfl, rfl⟩ := hw1
      refine A_perm (ws' := (wX t qX qR qL qY qA im bX ++ (wRd t qR qT qG bR ++ (wTx t qT bT ++ (wL t qG bG ++ (wL t qL bL ++ (wS t qA bA ++ (wY t qY qN fa bY ++ (wS t qN bN ++ (tail)))))))))) ((cutA (wX t qX qR qL qY qA im bX ++ (wRd t qR qT qG bR ++ (wTx t qT bT ++ (wL t qG bG)))) (wL t qL bL) (wS t qA bA ++ (wY t qY qN fa bY ++ (wS t qN bN ++ (tail))))).symm) ?_
      refine A_iload_n C 4 dX5_odds_99 rfl rfl ?_
      refine A_icmp_lt C 108 dX5_odds_100 (by decide) h0 (fun h0 => ?_) (fun h0 => ?_)
      · refine A_iconst C (0 : Int32) dX5_odds_108 (by decide) ?_
        exact A_loc [2, 3, 4, 5, 6, 0, 8] rfl (t_5_odds_109 C qX qR qT qG qL qA qY qN im fa tail bX bR bT bG bL bA bY bN r k54 K54 x1 x2 x3 x4 (x6 + z2) x7 (0 : Int32) x5 h0)
      · refine A_iload C 1 dX5_odds_103 rfl ?_
        refine A_goto C 109 dX5_odds_105 (by decide) ?_
        exact A_loc [2, 3, 4, 5, 6, 0, 8] rfl (t_5_odds_109 C qX qR qT qG qL qA qY qN im fa tail bX bR bT bG bL bA bY bN r k54 K54 x1 x2 x3 x4 (x6 + z2) x7 z2 x5 h0)
def f_5_odds_54 (bL : BV) (bN : BV) : Nat → Int32 → Int32 → Int32 → Int32 → Int32 → Int32 → Int32 → Option (Int32)
  | 0 => fun _ _ _ _ _ _ _ => none
  | n + 1 => f_5_odds_54_b bL bN (f_5_odds_54 bL bN n)
theorem t_5_odds_54 (C : CX p s m args meth c cX5_odds 9 (some .int) RX5 D t) (qX : Nat → Nat) (qR : Nat → Nat) (qT : Nat → Nat) (qG : Nat → Nat) (qL : Nat → Nat) (qA : Nat → Nat) (qY : Nat → Nat) (qN : Nat → Nat) (im : Nat → Option Nat) (fa : Nat → Option Nat) (tail : va_W) (bX : BV) (bR : BV) (bT : BV) (bG : BV) (bL : BV) (bA : BV) (bY : BV) (bN : BV) (r : Int32) : ∀ (n : Nat), ∀ (x1 : Int32) (x2 : Int32) (x3 : Int32) (x4 : Int32) (x5 : Int32) (x6 : Int32) (x7 : Int32), f_5_odds_54 bL bN n x1 x2 x3 x4 x5 x6 x7 = some r → At p l e (rmD 5) s m args below meth c D 9 w0 (QI below args s D w0 (fun x w => r = x ∧ (wX t qX qR qL qY qA im bX ++ (wRd t qR qT qG bR ++ (wTx t qT bT ++ (wL t qG bG ++ (wL t qL bL ++ (wS t qA bA ++ (wY t qY qN fa bY ++ (wS t qN bN ++ (tail))))))))) = w) 0 0) 0 0 54 [(0, .ref (qX 99)), (1, .int x1), (2, .int x2), (3, .int x3), (4, .int x4), (5, .int x5), (6, .int x6), (7, .int x7)] [] (wX t qX qR qL qY qA im bX ++ (wRd t qR qT qG bR ++ (wTx t qT bT ++ (wL t qG bG ++ (wL t qL bL ++ (wS t qA bA ++ (wY t qY qN fa bY ++ (wS t qN bN ++ (tail))))))))) := by
  intro n
  induction n with
  | zero =>
    intro x1 x2 x3 x4 x5 x6 x7 h0
    have h0 : none = some r := h0
    cases h0
  | succ n ih =>
    intro x1 x2 x3 x4 x5 x6 x7 h0
    exact t_5_odds_54_b C qX qR qT qG qL qA qY qN im fa tail bX bR bT bG bL bA bY bN r _ ih x1 x2 x3 x4 x5 x6 x7 h0
def f_5_odds_30 (bL : BV) (bN : BV) : Option (Int32) :=
  some (-1 : Int32)
theorem t_5_odds_30 (C : CX p s m args meth c cX5_odds 9 (some .int) RX5 D t) (qX : Nat → Nat) (qR : Nat → Nat) (qT : Nat → Nat) (qG : Nat → Nat) (qL : Nat → Nat) (qA : Nat → Nat) (qY : Nat → Nat) (qN : Nat → Nat) (im : Nat → Option Nat) (fa : Nat → Option Nat) (tail : va_W) (bX : BV) (bR : BV) (bT : BV) (bG : BV) (bL : BV) (bA : BV) (bY : BV) (bN : BV) (r : Int32) (h0 : f_5_odds_30 bL bN = some r) : At p l e (rmD 5) s m args below meth c D 9 w0 (QI below args s D w0 (fun x w => r = x ∧ (wX t qX qR qL qY qA im bX ++ (wRd t qR qT qG bR ++ (wTx t qT bT ++ (wL t qG bG ++ (wL t qL bL ++ (wS t qA bA ++ (wY t qY qN fa bY ++ (wS t qN bN ++ (tail))))))))) = w) 0 0) 0 0 30 [] [] (wX t qX qR qL qY qA im bX ++ (wRd t qR qT qG bR ++ (wTx t qT bT ++ (wL t qG bG ++ (wL t qL bL ++ (wS t qA bA ++ (wY t qY qN fa bY ++ (wS t qN bN ++ (tail))))))))) := by
  unfold f_5_odds_30 at h0
  refine A_iconst C (-1 : Int32) dX5_odds_30 (by decide) ?_
  have h0 := Option.some.inj h0
  subst h0
  exact A_iret C dX5_odds_31 ⟨rfl, rfl⟩
def f_5_odds (bL : BV) (bN : BV) (x1 : Int32) (x2 : Int32) (x3 : Int32) : Option (Int32) :=
  (f_5_isWithin x1 (0 : Int32) (10 : Int32)).bind (fun z4 => if z4 = 0 then (f_5_odds_30 bL bN) else ((f_5_isWithin x2 (0 : Int32) (999 : Int32)).bind (fun z5 => if z5 = 0 then (f_5_odds_30 bL bN) else ((f_5_isWithin x3 (0 : Int32) (1 : Int32)).bind (fun z6 => if z6 = 0 then (f_5_odds_30 bL bN) else ((f_5_daysIn bL bN).bind (fun z7 => (f_0_ripening bL z7).bind (fun z8 => f_5_odds_54 bL bN 200 x1 x2 x3 z8 (0 : Int32) (0 : Int32) (0 : Int32)))))))))
theorem c_5_odds (l : Launch) (D : va_G) (t : ty4) (qX : Nat → Nat) (qR : Nat → Nat) (qT : Nat → Nat) (qG : Nat → Nat) (qL : Nat → Nat) (qA : Nat → Nat) (qY : Nat → Nat) (qN : Nat → Nat) (im : Nat → Option Nat) (fa : Nat → Option Nat) (tail : va_W) (bX : BV) (bR : BV) (bT : BV) (bG : BV) (bL : BV) (bA : BV) (bY : BV) (bN : BV) (x1 : Int32) (x2 : Int32) (x3 : Int32) {r : Int32} (h0 : f_5_odds bL bN x1 x2 x3 = some r) : MetI l yX5_odds cX5_odds 9 (some .int) (rmD 5) D t [.ref (qX 99), .int x1, .int x2, .int x3] (wX t qX qR qL qY qA im bX ++ (wRd t qR qT qG bR ++ (wTx t qT bT ++ (wL t qG bG ++ (wL t qL bL ++ (wS t qA bA ++ (wY t qY qN fa bY ++ (wS t qN bN ++ (tail))))))))) (fun x w => r = x ∧ (wX t qX qR qL qY qA im bX ++ (wRd t qR qT qG bR ++ (wTx t qT bT ++ (wL t qG bG ++ (wL t qL bL ++ (wS t qA bA ++ (wY t qY qN fa bY ++ (wS t qN bN ++ (tail))))))))) = w) := by
  refine MetI_of (by decide +kernel) (Nat.le_of_ble_eq_true rfl) (fun p e s m below meth c C _ => ?_)
  unfold f_5_odds at h0
  generalize hargs : (List.toArray [.ref (qX 99), .int x1, .int x2, .int x3] : Array Value) = args at C ⊢
  refine At.start (lv2 := [(0, .ref (qX 99)), (1, .int x1), (2, .int x2), (3, .int x3)]) rfl ?_
  refine A_iload_n C 1 dX5_odds_0 rfl rfl ?_
  refine A_iconst C (0 : Int32) dX5_odds_1 (by decide) ?_
  refine A_bipush C (10 : Int32) dX5_odds_2 (by decide) ?_
  obtain ⟨z4, hz4, h0⟩ := bind_some h0
  refine A_sI (As := [.int x1, .int (0 : Int32), .int (10 : Int32)]) (rest := []) C (c_5_isWithin l D t x1 (0 : Int32) (10 : Int32) hz4) mw_5_isWithin ml_5_60 st_5_isWithin (rmok rfl rfl) (cutN (wX t qX qR qL qY qA im bX ++ (wRd t qR qT qG bR ++ (wTx t qT bT ++ (wL t qG bG ++ (wL t qL bL ++ (wS t qA bA ++ (wY t qY qN fa bY ++ (wS t qN bN ++ (tail)))))))))) rfl rfl (Nat.le_of_ble_eq_true rfl) dX5_odds_4 (fun x w1 hw1 => ?_)
  obtain ⟨rfl, rfl⟩ := hw1
  refine A_perm (ws' := (wX t qX qR qL qY qA im bX ++ (wRd t qR qT qG bR ++ (wTx t qT bT ++ (wL t qG bG ++ (wL t qL bL ++ (wS t qA bA ++ (wY t qY qN fa bY ++ (wS t qN bN ++ (tail)))))))))) ((cutN _).symm) ?_
  refine A_if_eq C 30 dX5_odds_7 (by decide) h0 (fun h0 => ?_) (fun h0 => ?_)
  · exact A_loc [] rfl (t_5_odds_30 C qX qR qT qG qL qA qY qN im fa tail bX bR bT bG bL bA bY bN r h0)
  · refine A_iload_n C 2 dX5_odds_10 rfl rfl ?_
    refine A_iconst C (0 : Int32) dX5_odds_11 (by decide) ?_
    refine A_sipush C (999 : Int32) dX5_odds_12 (by decide) ?_
    obtain ⟨z5, hz5, h0⟩ := bind_some h0
    refine A_sI (As := [.int x2, .int (0 : Int32), .int (999 : Int32)]) (rest := []) C (c_5_isWithin l D t x2 (0 : Int32) (999 : Int32) hz5) mw_5_isWithin ml_5_60 st_5_isWithin (rmok rfl rfl) (cutN (wX t qX qR qL qY qA im bX ++ (wRd t qR qT qG bR ++ (wTx t qT bT ++ (wL t qG bG ++ (wL t qL bL ++ (wS t qA bA ++ (wY t qY qN fa bY ++ (wS t qN bN ++ (tail)))))))))) rfl rfl (Nat.le_of_ble_eq_true rfl) dX5_odds_15 (fun x w1 hw1 => ?_)
    obtain ⟨rfl, rfl⟩ := hw1
    refine A_perm (ws' := (wX t qX qR qL qY qA im bX ++ (wRd t qR qT qG bR ++ (wTx t qT bT ++ (wL t qG bG ++ (wL t qL bL ++ (wS t qA bA ++ (wY t qY qN fa bY ++ (wS t qN bN ++ (tail)))))))))) ((cutN _).symm) ?_
    refine A_if_eq C 30 dX5_odds_18 (by decide) h0 (fun h0 => ?_) (fun h0 => ?_)
    · exact A_loc [] rfl (t_5_odds_30 C qX qR qT qG qL qA qY qN im fa tail bX bR bT bG bL bA bY bN r h0)
    · refine A_iload_n C 3 dX5_odds_21 rfl rfl ?_
      refine A_iconst C (0 : Int32) dX5_odds_22 (by decide) ?_
      refine A_iconst C (1 : Int32) dX5_odds_23 (by decide) ?_
      obtain ⟨z6, hz6, h0⟩ := bind_some h0
      refine A_sI (As := [.int x3, .int (0 : Int32), .int (1 : Int32)]) (rest := []) C (c_5_isWithin l D t x3 (0 : Int32) (1 : Int32) hz6) mw_5_isWithin ml_5_60 st_5_isWithin (rmok rfl rfl) (cutN (wX t qX qR qL qY qA im bX ++ (wRd t qR qT qG bR ++ (wTx t qT bT ++ (wL t qG bG ++ (wL t qL bL ++ (wS t qA bA ++ (wY t qY qN fa bY ++ (wS t qN bN ++ (tail)))))))))) rfl rfl (Nat.le_of_ble_eq_true rfl) dX5_odds_24 (fun x w1 hw1 => ?_)
      obtain ⟨rfl, rfl⟩ := hw1
      refine A_perm (ws' := (wX t qX qR qL qY qA im bX ++ (wRd t qR qT qG bR ++ (wTx t qT bT ++ (wL t qG bG ++ (wL t qL bL ++ (wS t qA bA ++ (wY t qY qN fa bY ++ (wS t qN bN ++ (tail)))))))))) ((cutN _).symm) ?_
      refine A_if_ne C 32 dX5_odds_27 (by decide) h0 (fun h0 => ?_) (fun h0 => ?_)
      · refine A_aload_n C 0 dX5_odds_32 rfl rfl ?_
        refine A_get (v := .ref (qL 99)) C 0 1 inG5 (ci := 5) rfl (by decide) fl_5_19 rfl rfl rfl dX5_odds_33 ?_
        refine A_aload_n C 0 dX5_odds_36 rfl rfl ?_
        obtain ⟨z7, hz7, h0⟩ := bind_some h0
        refine A_vI (As := []) (rest := [.ref (qL 99)]) C 0 (c_5_daysIn l D t qX qR qT qG qL qA qY qN im fa tail bX bR bT bG bL bA bY bN hz7) mw_5_daysIn ml_5_125 im_5_daysIn sl_5_daysIn (rmok rfl rfl) (cut0 (wX t qX qR qL qY qA im bX ++ (wRd t qR qT qG bR ++ (wTx t qT bT ++ (wL t qG bG ++ (wL t qL bL ++ (wS t qA bA ++ (wY t qY qN fa bY ++ (wS t qN bN ++ (tail)))))))))) rfl (ci := 5) rfl rfl rfl (Nat.le_of_ble_eq_true rfl) dX5_odds_37 (fun x w1 hw1 => ?_)
        obtain ⟨rfl, rfl⟩ := hw1
        refine A_perm (ws' := (wX t qX qR qL qY qA im bX ++ (wRd t qR qT qG bR ++ (wTx t qT bT ++ (wL t qG bG ++ (wL t qL bL ++ (wS t qA bA ++ (wY t qY qN fa bY ++ (wS t qN bN ++ (tail)))))))))) ((cut0 _).symm) ?_
        obtain ⟨z8, hz8, h0⟩ := bind_some h0
        refine A_vI (As := [.int z7]) (rest := []) C 0 (c_0_ripening l D t qL bL z7 hz8) mw_0_ripening ml_5_218 im_0_ripening sl_0_ripening (rmok rfl rfl) (cutA (wX t qX qR qL qY qA im bX ++ (wRd t qR qT qG bR ++ (wTx t qT bT ++ (wL t qG bG)))) (wL t qL bL) (wS t qA bA ++ (wY t qY qN fa bY ++ (wS t qN bN ++ (tail))))) rfl (ci := 0) rfl rfl rfl (Nat.le_of_ble_eq_true rfl) dX5_odds_40 (fun x w1 hw1 => ?_)
        obtain ⟨rfl, rfl⟩ := hw1
        refine A_perm (ws' := (wX t qX qR qL qY qA im bX ++ (wRd t qR qT qG bR ++ (wTx t qT bT ++ (wL t qG bG ++ (wL t qL bL ++ (wS t qA bA ++ (wY t qY qN fa bY ++ (wS t qN bN ++ (tail)))))))))) ((cutA (wX t qX qR qL qY qA im bX ++ (wRd t qR qT qG bR ++ (wTx t qT bT ++ (wL t qG bG)))) (wL t qL bL) (wS t qA bA ++ (wY t qY qN fa bY ++ (wS t qN bN ++ (tail))))).symm) ?_
        refine A_istore C [(4, .int z8), (0, .ref (qX 99)), (1, .int x1), (2, .int x2), (3, .int x3)] dX5_odds_43 (by decide) rfl ?_
        refine A_iconst C (0 : Int32) dX5_odds_45 (by decide) ?_
        refine A_istore C [(5, .int (0 : Int32)), (4, .int z8), (0, .ref (qX 99)), (1, .int x1), (2, .int x2), (3, .int x3)] dX5_odds_46 (by decide) rfl ?_
        refine A_iconst C (0 : Int32) dX5_odds_48 (by decide) ?_
        refine A_istore C [(6, .int (0 : Int32)), (5, .int (0 : Int32)), (4, .int z8), (0, .ref (qX 99)), (1, .int x1), (2, .int x2), (3, .int x3)] dX5_odds_49 (by decide) rfl ?_
        refine A_iconst C (0 : Int32) dX5_odds_51 (by decide) ?_
        refine A_istore C [(7, .int (0 : Int32)), (6, .int (0 : Int32)), (5, .int (0 : Int32)), (4, .int z8), (0, .ref (qX 99)), (1, .int x1), (2, .int x2), (3, .int x3)] dX5_odds_52 (by decide) rfl ?_
        exact A_loc [4, 5, 6, 7, 3, 2, 1, 0] rfl (t_5_odds_54 C qX qR qT qG qL qA qY qN im fa tail bX bR bT bG bL bA bY bN r 200 x1 x2 x3 z8 (0 : Int32) (0 : Int32) (0 : Int32) h0)
      · exact A_loc [] rfl (t_5_odds_30 C qX qR qT qG qL qA qY qN im fa tail bX bR bT bG bL bA bY bN r h0)
def f_5_mark (bX : BV) (bL : BV) (bN : BV) (x1 : Int32) (x2 : Int32) : Option (Int32 × BV) :=
  (f_5_isCrop bL x2).bind (fun z1 => if z1 = 0 then (some ((-1000000 : Int32), bX)) else (if x1 = (0 : Int32) then ((f_5_markAsCrop bX bL x2).bind (fun z2 => some (z2.1, z2.2))) else (if x1 = (1 : Int32) then ((f_5_markAsHay bX bL x2).bind (fun z3 => some (z3.1, z3.2))) else (if x1 = (2 : Int32) then ((f_5_markAsPlum bX bL x2).bind (fun z4 => some (z4.1, z4.2))) else (if x1 = (3 : Int32) then ((f_5_markAsClover bX bL x2).bind (fun z5 => some (z5.1, z5.2))) else (if x1 = (4 : Int32) then ((f_5_markAsSloe bX bL bN x2).bind (fun z6 => some (z6.1, z6.2))) else (if x1 = (5 : Int32) then ((f_5_markAsLamb bX bL bN x2).bind (fun z7 => some (z7.1, z7.2))) else (some ((-1000000 : Int32), bX)))))))))
theorem c_5_mark (l : Launch) (D : va_G) (t : ty4) (qX : Nat → Nat) (qR : Nat → Nat) (qT : Nat → Nat) (qG : Nat → Nat) (qL : Nat → Nat) (qA : Nat → Nat) (qY : Nat → Nat) (qN : Nat → Nat) (im : Nat → Option Nat) (fa : Nat → Option Nat) (tail : va_W) (bX : BV) (bR : BV) (bT : BV) (bG : BV) (bL : BV) (bA : BV) (bY : BV) (bN : BV) (x1 : Int32) (x2 : Int32) {r : Int32 × BV} (h0 : f_5_mark bX bL bN x1 x2 = some r) : MetI l yX5_mark cX5_mark 3 (some .int) (rmD 7) D t [.ref (qX 99), .int x1, .int x2] (wX t qX qR qL qY qA im bX ++ (wRd t qR qT qG bR ++ (wTx t qT bT ++ (wL t qG bG ++ (wL t qL bL ++ (wS t qA bA ++ (wY t qY qN fa bY ++ (wS t qN bN ++ (tail))))))))) (fun x w => r.1 = x ∧ (wX t qX qR qL qY qA im r.2 ++ (wRd t qR qT qG bR ++ (wTx t qT bT ++ (wL t qG bG ++ (wL t qL bL ++ (wS t qA bA ++ (wY t qY qN fa bY ++ (wS t qN bN ++ (tail))))))))) = w) := by
  refine MetI_of (by decide +kernel) (Nat.le_of_ble_eq_true rfl) (fun p e s m below meth c C _ => ?_)
  unfold f_5_mark at h0
  generalize hargs : (List.toArray [.ref (qX 99), .int x1, .int x2] : Array Value) = args at C ⊢
  refine At.start (lv2 := [(0, .ref (qX 99)), (1, .int x1), (2, .int x2)]) rfl ?_
  refine A_aload_n C 0 dX5_mark_0 rfl rfl ?_
  refine A_iload_n C 2 dX5_mark_1 rfl rfl ?_
  obtain ⟨z1, hz1, h0⟩ := bind_some h0
  refine A_vI (As := [.int x2]) (rest := []) C 0 (c_5_isCrop l D t qX qR qT qG qL qA qY qN im fa tail bX bR bT bG bL bA bY bN x2 hz1) mw_5_isCrop ml_5_110 im_5_isCrop sl_5_isCrop (rmok rfl rfl) (cut0 (wX t qX qR qL qY qA im bX ++ (wRd t qR qT qG bR ++ (wTx t qT bT ++ (wL t qG bG ++ (wL t qL bL ++ (wS t qA bA ++ (wY t qY qN fa bY ++ (wS t qN bN ++ (tail)))))))))) rfl (ci := 5) rfl rfl rfl (Nat.le_of_ble_eq_true rfl) dX5_mark_2 (fun x w1 hw1 => ?_)
  obtain ⟨rfl, rfl⟩ := hw1
  refine A_perm (ws' := (wX t qX qR qL qY qA im bX ++ (wRd t qR qT qG bR ++ (wTx t qT bT ++ (wL t qG bG ++ (wL t qL bL ++ (wS t qA bA ++ (wY t qY qN fa bY ++ (wS t qN bN ++ (tail)))))))))) ((cut0 _).symm) ?_
  refine A_if_ne C 11 dX5_mark_5 (by decide) h0 (fun h0 => ?_) (fun h0 => ?_)
  · refine A_iload_n C 1 dX5_mark_11 rfl rfl ?_
    refine sw_split h0 (fun hx h0 => ?_) (fun hn0 h0 => ?_)
    · refine A_tabIn C 52 dX5_mark_12 (by rw [hx]; decide) (by rw [hx]; decide) (by rw [hx]; rfl) (by decide) ?_
      refine A_aload_n C 0 dX5_mark_52 rfl rfl ?_
      refine A_iload_n C 2 dX5_mark_53 rfl rfl ?_
      obtain ⟨z2, hz2, h0⟩ := bind_some h0
      refine A_vI (As := [.int x2]) (rest := []) C 0 (c_5_markAsCrop l D t qX qR qT qG qL qA qY qN im fa tail bX bR bT bG bL bA bY bN x2 hz2) mw_5_markAsCrop ml_5_241 im_5_markAsCrop sl_5_markAsCrop (rmok rfl rfl) (cut0 (wX t qX qR qL qY qA im bX ++ (wRd t qR qT qG bR ++ (wTx t qT bT ++ (wL t qG bG ++ (wL t qL bL ++ (wS t qA bA ++ (wY t qY qN fa bY ++ (wS t qN bN ++ (tail)))))))))) rfl (ci := 5) rfl rfl rfl (Nat.le_of_ble_eq_true rfl) dX5_mark_54 (fun x w1 hw1 => ?_)
      obtain ⟨rfl, rfl⟩ := hw1
      refine A_perm (ws' := (wX t qX qR qL qY qA im z2.2 ++ (wRd t qR qT qG bR ++ (wTx t qT bT ++ (wL t qG bG ++ (wL t qL bL ++ (wS t qA bA ++ (wY t qY qN fa bY ++ (wS t qN bN ++ (tail)))))))))) ((cut0 _).symm) ?_
      have h0 := Option.some.inj h0
      subst h0
      exact A_iret C dX5_mark_57 ⟨rfl, rfl⟩
    ·
      refine sw_split h0 (fun hx h0 => ?_) (fun hn1 h0 => ?_)
      · refine A_tabIn C 58 dX5_mark_12 (by rw [hx]; decide) (by rw [hx]; decide) (by rw [hx]; rfl) (by decide) ?_
        refine A_aload_n C 0 dX5_mark_58 rfl rfl ?_
        refine A_iload_n C 2 dX5_mark_59 rfl rfl ?_
        obtain ⟨z3, hz3, h0⟩ := bind_some h0
        refine A_vI (As := [.int x2]) (rest := []) C 0 (c_5_markAsHay l D t qX qR qT qG qL qA qY qN im fa tail bX bR bT bG bL bA bY bN x2 hz3) mw_5_markAsHay ml_5_244 im_5_markAsHay sl_5_markAsHay (rmok rfl rfl) (cut0 (wX t qX qR qL qY qA im bX ++ (wRd t qR qT qG bR ++ (wTx t qT bT ++ (wL t qG bG ++ (wL t qL bL ++ (wS t qA bA ++ (wY t qY qN fa bY ++ (wS t qN bN ++ (tail)))))))))) rfl (ci := 5) rfl rfl rfl (Nat.le_of_ble_eq_true rfl) dX5_mark_60 (fun x w1 hw1 => ?_)
        obtain ⟨rfl, rfl⟩ := hw1
        refine A_perm (ws' := (wX t qX qR qL qY qA im z3.2 ++ (wRd t qR qT qG bR ++ (wTx t qT bT ++ (wL t qG bG ++ (wL t qL bL ++ (wS t qA bA ++ (wY t qY qN fa bY ++ (wS t qN bN ++ (tail)))))))))) ((cut0 _).symm) ?_
        have h0 := Option.some.inj h0
        subst h0
        exact A_iret C dX5_mark_63 ⟨rfl, rfl⟩
      ·
        refine sw_split h0 (fun hx h0 => ?_) (fun hn2 h0 => ?_)
        · refine A_tabIn C 64 dX5_mark_12 (by rw [hx]; decide) (by rw [hx]; decide) (by rw [hx]; rfl) (by decide) ?_
          refine A_aload_n C 0 dX5_mark_64 rfl rfl ?_
          refine A_iload_n C 2 dX5_mark_65 rfl rfl ?_
          obtain ⟨z4, hz4, h0⟩ := bind_some h0
          refine A_vI (As := [.int x2]) (rest := []) C 0 (c_5_markAsPlum l D t qX qR qT qG qL qA qY qN im fa tail bX bR bT bG bL bA bY bN x2 hz4) mw_5_markAsPlum ml_5_247 im_5_markAsPlum sl_5_markAsPlum (rmok rfl rfl) (cut0 (wX t qX qR qL qY qA im bX ++ (wRd t qR qT qG bR ++ (wTx t qT bT ++ (wL t qG bG ++ (wL t qL bL ++ (wS t qA bA ++ (wY t qY qN fa bY ++ (wS t qN bN ++ (tail)))))))))) rfl (ci := 5) rfl rfl rfl (Nat.le_of_ble_eq_true rfl) dX5_mark_66 (fun x w1 hw1 => ?_)
          obtain ⟨rfl, rfl⟩ := hw1
          refine A_perm (ws' := (wX t qX qR qL qY qA im z4.2 ++ (wRd t qR qT qG bR ++ (wTx t qT bT ++ (wL t qG bG ++ (wL t qL bL ++ (wS t qA bA ++ (wY t qY qN fa bY ++ (wS t qN bN ++ (tail)))))))))) ((cut0 _).symm) ?_
          have h0 := Option.some.inj h0
          subst h0
          exact A_iret C dX5_mark_69 ⟨rfl, rfl⟩
        ·
          refine sw_split h0 (fun hx h0 => ?_) (fun hn3 h0 => ?_)
          · refine A_tabIn C 70 dX5_mark_12 (by rw [hx]; decide) (by rw [hx]; decide) (by rw [hx]; rfl) (by decide) ?_
            refine A_aload_n C 0 dX5_mark_70 rfl rfl ?_
            refine A_iload_n C 2 dX5_mark_71 rfl rfl ?_
            obtain ⟨z5, hz5, h0⟩ := bind_some h0
            refine A_vI (As := [.int x2]) (rest := []) C 0 (c_5_markAsClover l D t qX qR qT qG qL qA qY qN im fa tail bX bR bT bG bL bA bY bN x2 hz5) mw_5_markAsClover ml_5_250 im_5_markAsClover sl_5_markAsClover (rmok rfl rfl) (cut0 (wX t qX qR qL qY qA im bX ++ (wRd t qR qT qG bR ++ (wTx t qT bT ++ (wL t qG bG ++ (wL t qL bL ++ (wS t qA bA ++ (wY t qY qN fa bY ++ (wS t qN bN ++ (tail)))))))))) rfl (ci := 5) rfl rfl rfl (Nat.le_of_ble_eq_true rfl) dX5_mark_72 (fun x w1 hw1 => ?_)
            obtain ⟨rfl, rfl⟩ := hw1
            refine A_perm (ws' := (wX t qX qR qL qY qA im z5.2 ++ (wRd t qR qT qG bR ++ (wTx t qT bT ++ (wL t qG bG ++ (wL t qL bL ++ (wS t qA bA ++ (wY t qY qN fa bY ++ (wS t qN bN ++ (tail)))))))))) ((cut0 _).symm) ?_
            have h0 := Option.some.inj h0
            subst h0
            exact A_iret C dX5_mark_75 ⟨rfl, rfl⟩
          ·
            refine sw_split h0 (fun hx h0 => ?_) (fun hn4 h0 => ?_)
            · refine A_tabIn C 76 dX5_mark_12 (by rw [hx]; decide) (by rw [hx]; decide) (by rw [hx]; rfl) (by decide) ?_
              refine A_aload_n C 0 dX5_mark_76 rfl rfl ?_
              refine A_iload_n C 2 dX5_mark_77 rfl rfl ?_
              obtain ⟨z6, hz6, h0⟩ := bind_some h0
              refine A_vI (As := [.int x2]) (rest := []) C 0 (c_5_markAsSloe l D t qX qR qT qG qL qA qY qN im fa tail bX bR bT bG bL bA bY bN x2 hz6) mw_5_markAsSloe ml_5_253 im_5_markAsSloe sl_5_markAsSloe (rmok rfl rfl) (cut0 (wX t qX qR qL qY qA im bX ++ (wRd t qR qT qG bR ++ (wTx t qT bT ++ (wL t qG bG ++ (wL t qL bL ++ (wS t qA bA ++ (wY t qY qN fa bY ++ (wS t qN bN ++ (tail)))))))))) rfl (ci := 5) rfl rfl rfl (Nat.le_of_ble_eq_true rfl) dX5_mark_78 (fun x w1 hw1 => ?_)
              obtain ⟨rfl, rfl⟩ := hw1
              refine A_perm (ws' := (wX t qX qR qL qY qA im z6.2 ++ (wRd t qR qT qG bR ++ (wTx t qT bT ++ (wL t qG bG ++ (wL t qL bL ++ (wS t qA bA ++ (wY t qY qN fa bY ++ (wS t qN bN ++ (tail)))))))))) ((cut0 _).symm) ?_
              have h0 := Option.some.inj h0
              subst h0
              exact A_iret C dX5_mark_81 ⟨rfl, rfl⟩
            ·
              refine sw_split h0 (fun hx h0 => ?_) (fun hn5 h0 => ?_)
              · refine A_tabIn C 82 dX5_mark_12 (by rw [hx]; decide) (by rw [hx]; decide) (by rw [hx]; rfl) (by decide) ?_
                refine A_aload_n C 0 dX5_mark_82 rfl rfl ?_
                refine A_iload_n C 2 dX5_mark_83 rfl rfl ?_
                obtain ⟨z7, hz7, h0⟩ := bind_some h0
                refine A_vI (As := [.int x2]) (rest := []) C 0 (c_5_markAsLamb l D t qX qR qT qG qL qA qY qN im fa tail bX bR bT bG bL bA bY bN x2 hz7) mw_5_markAsLamb ml_5_256 im_5_markAsLamb sl_5_markAsLamb (rmok rfl rfl) (cut0 (wX t qX qR qL qY qA im bX ++ (wRd t qR qT qG bR ++ (wTx t qT bT ++ (wL t qG bG ++ (wL t qL bL ++ (wS t qA bA ++ (wY t qY qN fa bY ++ (wS t qN bN ++ (tail)))))))))) rfl (ci := 5) rfl rfl rfl (Nat.le_of_ble_eq_true rfl) dX5_mark_84 (fun x w1 hw1 => ?_)
                obtain ⟨rfl, rfl⟩ := hw1
                refine A_perm (ws' := (wX t qX qR qL qY qA im z7.2 ++ (wRd t qR qT qG bR ++ (wTx t qT bT ++ (wL t qG bG ++ (wL t qL bL ++ (wS t qA bA ++ (wY t qY qN fa bY ++ (wS t qN bN ++ (tail)))))))))) ((cut0 _).symm) ?_
                have h0 := Option.some.inj h0
                subst h0
                exact A_iret C dX5_mark_87 ⟨rfl, rfl⟩
              ·
                have hn0 := lv_neT hn0 (k := (0 : Int32)) (a := 0) (by decide)
                have hn1 := lv_neT hn1 (k := (1 : Int32)) (a := 1) (by decide)
                have hn2 := lv_neT hn2 (k := (2 : Int32)) (a := 2) (by decide)
                have hn3 := lv_neT hn3 (k := (3 : Int32)) (a := 3) (by decide)
                have hn4 := lv_neT hn4 (k := (4 : Int32)) (a := 4) (by decide)
                have hn5 := lv_neT hn5 (k := (5 : Int32)) (a := 5) (by decide)
                refine A_tabOut C 88 dX5_mark_12 (by omega) (by decide) ?_
                refine A_ldc (v := (-1000000 : Int32)) C cs_5_240 dX5_mark_88 ?_
                have h0 := Option.some.inj h0
                subst h0
                exact A_iret C dX5_mark_90 ⟨rfl, rfl⟩
  · refine A_ldc (v := (-1000000 : Int32)) C cs_5_240 dX5_mark_8 ?_
    have h0 := Option.some.inj h0
    subst h0
    exact A_iret C dX5_mark_10 ⟨rfl, rfl⟩
end
