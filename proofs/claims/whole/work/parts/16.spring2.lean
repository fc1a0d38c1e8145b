section
variable {p : Program} {l : Launch} {e : Env} {s : State} {m : MethodId} {args : Array Value} {below : List Frame} {meth : Method} {c : Code} {D : va_G} {w0 : va_W} {t : ty4}
def f_5_undo_22 (bP : (Nat → BV)) (bY : BV) (bN : BV) (y0 : Int32) : Option (Int32 × BV × BV) :=
  some (y0, bY, bN)
theorem t_5_undo_22 (C : CX p s m args meth c cX5_undo 1 (some .int) RX5 D t) (qX : Nat → Nat) (qR : Nat → Nat) (qT : Nat → Nat) (qG : Nat → Nat) (qL : Nat → Nat) (qA : Nat → Nat) (qY : Nat → Nat) (qN : Nat → Nat) (im : Nat → Option Nat) (fa : Nat → Option Nat) (qp : Nat → Nat → Nat) (hfa : Fa fa qp) (tail : va_W) (bX : BV) (bR : BV) (bT : BV) (bG : BV) (bL : BV) (bA : BV) (bP : (Nat → BV)) (r : Int32 × BV × BV) (bY : BV) (bN : BV) (y0 : Int32) (h0 : f_5_undo_22 bP bY bN y0 = some r) : At p l e (rmD 2) s m args below meth c D 1 w0 (QI below args s D w0 (fun x w => ∃ fa qp, Fa fa qp ∧ r.1 = x ∧ (wX t qX qR qL qY qA im bX ++ (wRd t qR qT qG bR ++ (wTx t qT bT ++ (wL t qG bG ++ (wL t qL bL ++ (wS t qA bA ++ (wY t qY qN fa r.2.1 ++ (wS t qN r.2.2 ++ (wPs t qp bP r10 ++ (tail)))))))))) = w) 0 0) 0 0 22 [] [.int y0] (wX t qX qR qL qY qA im bX ++ (wRd t qR qT qG bR ++ (wTx t qT bT ++ (wL t qG bG ++ (wL t qL bL ++ (wS t qA bA ++ (wY t qY qN fa bY ++ (wS t qN bN ++ (wPs t qp bP r10 ++ (tail)))))))))) := by
  unfold f_5_undo_22 at h0
  have h0 := Option.some.inj h0
  subst h0
  exact A_iret C dX5_undo_22 ⟨fa, qp, hfa, rfl, rfl⟩
def f_5_undo (bY : BV) (bN : BV) (bP : (Nat → BV)) : Option (Int32 × BV × BV) :=
  (f_3_goBack bY bN bP).bind (fun z1 => if z1.1 = 0 then (f_5_undo_22 bP z1.2.1 z1.2.2 (-2 : Int32)) else (f_5_undo_22 bP z1.2.1 z1.2.2 (gI z1.2.1 2)))
theorem c_5_undo (l : Launch) (D : va_G) (t : ty4) (qX : Nat → Nat) (qR : Nat → Nat) (qT : Nat → Nat) (qG : Nat → Nat) (qL : Nat → Nat) (qA : Nat → Nat) (qY : Nat → Nat) (qN : Nat → Nat) (im : Nat → Option Nat) (fa : Nat → Option Nat) (qp : Nat → Nat → Nat) (hfa : Fa fa qp) (tail : va_W) (bX : BV) (bR : BV) (bT : BV) (bG : BV) (bL : BV) (bA : BV) (bY : BV) (bN : BV) (bP : (Nat → BV)) {r : Int32 × BV × BV} (h0 : f_5_undo bY bN bP = some r) : MetI l yX5_undo cX5_undo 1 (some .int) (rmD 2) D t [.ref (qX 99)] (wX t qX qR qL qY qA im bX ++ (wRd t qR qT qG bR ++ (wTx t qT bT ++ (wL t qG bG ++ (wL t qL bL ++ (wS t qA bA ++ (wY t qY qN fa bY ++ (wS t qN bN ++ (wPs t qp bP r10 ++ (tail)))))))))) (fun x w => ∃ fa qp, Fa fa qp ∧ r.1 = x ∧ (wX t qX qR qL qY qA im bX ++ (wRd t qR qT qG bR ++ (wTx t qT bT ++ (wL t qG bG ++ (wL t qL bL ++ (wS t qA bA ++ (wY t qY qN fa r.2.1 ++ (wS t qN r.2.2 ++ (wPs t qp bP r10 ++ (tail)))))))))) = w) := by
  refine MetI_of (by decide +kernel) (Nat.le_of_ble_eq_true rfl) (fun p e s m below meth c C _ => ?_)
  unfold f_5_undo at h0
  generalize hargs : (List.toArray [.ref (qX 99)] : Array Value) = args at C ⊢
  refine At.start (lv2 := [(0, .ref (qX 99))]) rfl ?_
  refine A_aload_n C 0 dX5_undo_0 rfl rfl ?_
  refine A_get (v := .ref (qY 99)) C 0 2 inG5 (ci := 5) rfl (by decide) fl_5_26 rfl rfl rfl dX5_undo_1 ?_
  obtain ⟨z1, hz1, h0⟩ := bind_some h0
  refine A_vI (As := []) (rest := []) C 0 (c_3_goBack l D t qY qN fa qp bY bN bP hfa hz1) mw_3_goBack ml_5_181 im_3_goBack sl_3_goBack (rmok rfl rfl) (cutA (wX t qX qR qL qY qA im bX ++ (wRd t qR qT qG bR ++ (wTx t qT bT ++ (wL t qG bG ++ (wL t qL bL ++ (wS t qA bA)))))) (wY t qY qN fa bY ++ (wS t qN bN ++ (wPs t qp bP r10))) (tail)) rfl (ci := 3) rfl rfl rfl (Nat.le_of_ble_eq_true rfl) dX5_undo_4 (fun x w1 hw1 => ?_)
  obtain ⟨rfl, rfl⟩ := hw1
  refine A_perm (ws' := (wX t qX qR qL qY qA im bX ++ (wRd t qR qT qG bR ++ (wTx t qT bT ++ (wL t qG bG ++ (wL t qL bL ++ (wS t qA bA ++ (wY t qY qN fa z1.2.1 ++ (wS t qN z1.2.2 ++ (wPs t qp bP r10 ++ (tail))))))))))) ((cutA (wX t qX qR qL qY qA im bX ++ (wRd t qR qT qG bR ++ (wTx t qT bT ++ (wL t qG bG ++ (wL t qL bL ++ (wS t qA bA)))))) (wY t qY qN fa z1.2.1 ++ (wS t qN z1.2.2 ++ (wPs t qp bP r10))) (tail)).symm) ?_
  refine A_if_eq C 20 dX5_undo_7 (by decide) h0 (fun h0 => ?_) (fun h0 => ?_)
  · refine A_bipush C (-2 : Int32) dX5_undo_20 (by decide) ?_
    exact A_loc [] rfl (t_5_undo_22 C qX qR qT qG qL qA qY qN im fa qp hfa tail bX bR bT bG bL bA bP r z1.2.1 z1.2.2 (-2 : Int32) h0)
  · refine A_aload_n C 0 dX5_undo_10 rfl rfl ?_
    refine A_get (v := .ref (qY 99)) C 0 2 inG5 (ci := 5) rfl (by decide) fl_5_26 rfl rfl rfl dX5_undo_11 ?_
    refine A_get (v := .int (gI z1.2.1 2)) C 24 2 inG3 (ci := 3) rfl (by decide) fl_5_185 rfl rfl rfl dX5_undo_14 ?_
    refine A_goto C 22 dX5_undo_17 (by decide) ?_
    exact A_loc [] rfl (t_5_undo_22 C qX qR qT qG qL qA qY qN im fa qp hfa tail bX bR bT bG bL bA bP r z1.2.1 z1.2.2 (gI z1.2.1 2) h0)
def f_5_redeems_38 (bY : BV) (bN : BV) (bP : (Nat → BV)) : Option (Int32 × BV × BV × (Nat → BV)) :=
  some ((-2 : Int32), bY, bN, bP)
theorem t_5_redeems_38 (C : CX p s m args meth c cX5_redeems 3 (some .int) RX5 D t) (qX : Nat → Nat) (qR : Nat → Nat) (qT : Nat → Nat) (qG : Nat → Nat) (qL : Nat → Nat) (qA : Nat → Nat) (qY : Nat → Nat) (qN : Nat → Nat) (im : Nat → Option Nat) (fa : Nat → Option Nat) (qp : Nat → Nat → Nat) (hfa : Fa fa qp) (tail : va_W) (bX : BV) (bR : BV) (bT : BV) (bG : BV) (bL : BV) (bA : BV) (r : Int32 × BV × BV × (Nat → BV)) (bY : BV) (bN : BV) (bP : (Nat → BV)) (h0 : f_5_redeems_38 bY bN bP = some r) : At p l e (rmD 2) s m args below meth c D 3 w0 (QI below args s D w0 (fun x w => ∃ fa qp, Fa fa qp ∧ r.1 = x ∧ (wX t qX qR qL qY qA im bX ++ (wRd t qR qT qG bR ++ (wTx t qT bT ++ (wL t qG bG ++ (wL t qL bL ++ (wS t qA bA ++ (wY t qY qN fa r.2.1 ++ (wS t qN r.2.2.1 ++ (wPs t qp r.2.2.2 r10 ++ (tail)))))))))) = w) 0 0) 0 0 38 [] [] (wX t qX qR qL qY qA im bX ++ (wRd t qR qT qG bR ++ (wTx t qT bT ++ (wL t qG bG ++ (wL t qL bL ++ (wS t qA bA ++ (wY t qY qN fa bY ++ (wS t qN bN ++ (wPs t qp bP r10 ++ (tail)))))))))) := by
  unfold f_5_redeems_38 at h0
  refine A_bipush C (-2 : Int32) dX5_redeems_38 (by decide) ?_
  have h0 := Option.some.inj h0
  subst h0
  exact A_iret C dX5_redeems_40 ⟨fa, qp, hfa, rfl, rfl⟩
def f_5_redeems (bY : BV) (bN : BV) (bP : (Nat → BV)) (x1 : Int32) : Option (Int32 × BV × BV × (Nat → BV)) :=
  (f_5_isLoan x1).bind (fun z1 => if z1 = 0 then (some ((-1 : Int32), bY, bN, bP)) else ((f_2_isFree bN x1).bind (fun z2 => if z2 = 0 then (ck (inb x1 4) (if (gA bN 1 x1) ≤ (gI bN 4) then ((f_3_remember bY bN bP).bind (fun z3 => (f_2_redeem bN x1).bind (fun z4 => some ((gI z4 4), z3.1, z4, z3.2)))) else (f_5_redeems_38 bY bN bP))) else (f_5_redeems_38 bY bN bP))))
theorem c_5_redeems (l : Launch) (D : va_G) (t : ty4) (qX : Nat → Nat) (qR : Nat → Nat) (qT : Nat → Nat) (qG : Nat → Nat) (qL : Nat → Nat) (qA : Nat → Nat) (qY : Nat → Nat) (qN : Nat → Nat) (im : Nat → Option Nat) (fa : Nat → Option Nat) (qp : Nat → Nat → Nat) (hfa : Fa fa qp) (tail : va_W) (bX : BV) (bR : BV) (bT : BV) (bG : BV) (bL : BV) (bA : BV) (bY : BV) (bN : BV) (bP : (Nat → BV)) (x1 : Int32) {r : Int32 × BV × BV × (Nat → BV)} (h0 : f_5_redeems bY bN bP x1 = some r) : MetI l yX5_redeems cX5_redeems 3 (some .int) (rmD 2) D t [.ref (qX 99), .int x1] (wX t qX qR qL qY qA im bX ++ (wRd t qR qT qG bR ++ (wTx t qT bT ++ (wL t qG bG ++ (wL t qL bL ++ (wS t qA bA ++ (wY t qY qN fa bY ++ (wS t qN bN ++ (wPs t qp bP r10 ++ (tail)))))))))) (fun x w => ∃ fa qp, Fa fa qp ∧ r.1 = x ∧ (wX t qX qR qL qY qA im bX ++ (wRd t qR qT qG bR ++ (wTx t qT bT ++ (wL t qG bG ++ (wL t qL bL ++ (wS t qA bA ++ (wY t qY qN fa r.2.1 ++ (wS t qN r.2.2.1 ++ (wPs t qp r.2.2.2 r10 ++ (tail)))))))))) = w) := by
  refine MetI_of (by decide +kernel) (Nat.le_of_ble_eq_true rfl) (fun p e s m below meth c C _ => ?_)
  unfold f_5_redeems at h0
  generalize hargs : (List.toArray [.ref (qX 99), .int x1] : Array Value) = args at C ⊢
  refine At.start (lv2 := [(0, .ref (qX 99)), (1, .int x1)]) rfl ?_
  refine A_iload_n C 1 dX5_redeems_0 rfl rfl ?_
  obtain ⟨z1, hz1, h0⟩ := bind_some h0
  refine A_sI (As := [.int x1]) (rest := []) C (c_5_isLoan l D t x1 hz1) mw_5_isLoan ml_5_132 st_5_isLoan (rmok rfl rfl) (cutN (wX t qX qR qL qY qA im bX ++ (wRd t qR qT qG bR ++ (wTx t qT bT ++ (wL t qG bG ++ (wL t qL bL ++ (wS t qA bA ++ (wY t qY qN fa bY ++ (wS t qN bN ++ (wPs t qp bP r10 ++ (tail))))))))))) rfl rfl (Nat.le_of_ble_eq_true rfl) dX5_redeems_1 (fun x w1 hw1 => ?_)
  obtain ⟨rfl, rfl⟩ := hw1
  refine A_perm (ws' := (wX t qX qR qL qY qA im bX ++ (wRd t qR qT qG bR ++ (wTx t qT bT ++ (wL t qG bG ++ (wL t qL bL ++ (wS t qA bA ++ (wY t qY qN fa bY ++ (wS t qN bN ++ (wPs t qp bP r10 ++ (tail))))))))))) ((cutN _).symm) ?_
  refine A_if_ne C 9 dX5_redeems_4 (by decide) h0 (fun h0 => ?_) (fun h0 => ?_)
  · refine A_aload_n C 0 dX5_redeems_9 rfl rfl ?_
    refine A_get (v := .ref (qY 99)) C 0 2 inG5 (ci := 5) rfl (by decide) fl_5_26 rfl rfl rfl dX5_redeems_10 ?_
    refine A_get (v := .ref (qN 99)) C 24 0 inG3 (ci := 3) rfl (by decide) fl_5_104 rfl rfl rfl dX5_redeems_13 ?_
    refine A_astore_n C [(2, .ref (qN 99)), (0, .ref (qX 99)), (1, .int x1)] dX5_redeems_16 rfl (by decide) rfl ?_
    refine A_aload_n C 0 dX5_redeems_17 rfl rfl ?_
    refine A_iload_n C 2 dX5_redeems_18 rfl rfl ?_
    obtain ⟨z2, hz2, h0⟩ := bind_some h0
    refine A_vI (As := [.int x1]) (rest := []) C 0 (c_2_isFree l D t qN bN x1 hz2) mw_2_isFree ml_5_135 im_2_isFree sl_2_isFree (rmok rfl rfl) (cutA (wX t qX qR qL qY qA im bX ++ (wRd t qR qT qG bR ++ (wTx t qT bT ++ (wL t qG bG ++ (wL t qL bL ++ (wS t qA bA ++ (wY t qY qN fa bY))))))) (wS t qN bN) (wPs t qp bP r10 ++ (tail))) rfl (ci := 2) rfl rfl rfl (Nat.le_of_ble_eq_true rfl) dX5_redeems_19 (fun x w1 hw1 => ?_)
    obtain ⟨rfl, rfl⟩ := hw1
    refine A_perm (ws' := (wX t qX qR qL qY qA im bX ++ (wRd t qR qT qG bR ++ (wTx t qT bT ++ (wL t qG bG ++ (wL t qL bL ++ (wS t qA bA ++ (wY t qY qN fa bY ++ (wS t qN bN ++ (wPs t qp bP r10 ++ (tail))))))))))) ((cutA (wX t qX qR qL qY qA im bX ++ (wRd t qR qT qG bR ++ (wTx t qT bT ++ (wL t qG bG ++ (wL t qL bL ++ (wS t qA bA ++ (wY t qY qN fa bY))))))) (wS t qN bN) (wPs t qp bP r10 ++ (tail))).symm) ?_
    refine A_if_ne C 38 dX5_redeems_22 (by decide) h0 (fun h0 => ?_) (fun h0 => ?_)
    · exact A_loc [] rfl (t_5_redeems_38 C qX qR qT qG qL qA qY qN im fa qp hfa tail bX bR bT bG bL bA r bY bN bP h0)
    · refine A_aload_n C 0 dX5_redeems_25 rfl rfl ?_
      refine A_get (v := .int (gI bN 4)) C 26 4 inG2 (ci := 2) rfl (by decide) fl_5_167 rfl rfl rfl dX5_redeems_26 ?_
      refine A_aload_n C 0 dX5_redeems_29 rfl rfl ?_
      refine A_get (v := .ref (qN 1)) C 26 1 inG2 (ci := 2) rfl (by decide) fl_5_141 rfl rfl rfl dX5_redeems_30 ?_
      refine A_iload_n C 2 dX5_redeems_33 rfl rfl ?_
      refine A_iald C 28 (gA bN 1 x1) rfl rfl dX5_redeems_34 h0 (fun h0 => ?_)
      refine A_icmp_ge C 41 dX5_redeems_35 (by decide) h0 (fun h0 => ?_) (fun h0 => ?_)
      · refine A_aload_n C 1 dX5_redeems_41 rfl rfl ?_
        refine A_get (v := .ref (qY 99)) C 0 2 inG5 (ci := 5) rfl (by decide) fl_5_26 rfl rfl rfl dX5_redeems_42 ?_
        obtain ⟨z3, hz3, h0⟩ := bind_some h0
        refine A_vV (As := []) (rest := []) C 0 (c_3_remember l D t qY qN fa qp bY bN bP hfa hz3) mw_3_remember ml_5_154 im_3_remember sl_3_remember (rmok rfl rfl) (cutA (wX t qX qR qL qY qA im bX ++ (wRd t qR qT qG bR ++ (wTx t qT bT ++ (wL t qG bG ++ (wL t qL bL ++ (wS t qA bA)))))) (wY t qY qN fa bY ++ (wS t qN bN ++ (wPs t qp bP r10))) (tail)) rfl (ci := 3) rfl rfl rfl (Nat.le_of_ble_eq_true rfl) dX5_redeems_45 (fun w1 hw1 => ?_)
        obtain ⟨fa, qp, hfa, rfl⟩ := hw1
        refine A_perm (ws' := (wX t qX qR qL qY qA im bX ++ (wRd t qR qT qG bR ++ (wTx t qT bT ++ (wL t qG bG ++ (wL t qL bL ++ (wS t qA bA ++ (wY t qY qN fa z3.1 ++ (wS t qN bN ++ (wPs t qp z3.2 r10 ++ (tail))))))))))) ((cutA (wX t qX qR qL qY qA im bX ++ (wRd t qR qT qG bR ++ (wTx t qT bT ++ (wL t qG bG ++ (wL t qL bL ++ (wS t qA bA)))))) (wY t qY qN fa z3.1 ++ (wS t qN bN ++ (wPs t qp z3.2 r10))) (tail)).symm) ?_
        refine A_aload_n C 0 dX5_redeems_48 rfl rfl ?_
        refine A_iload_n C 2 dX5_redeems_49 rfl rfl ?_
        obtain ⟨z4, hz4, h0⟩ := bind_some h0
        refine A_vV (As := [.int x1]) (rest := []) C 0 (c_2_redeem l D t qN bN x1 hz4) mw_2_redeem ml_5_170 im_2_redeem sl_2_redeem (rmok rfl rfl) (cutA (wX t qX qR qL qY qA im bX ++ (wRd t qR qT qG bR ++ (wTx t qT bT ++ (wL t qG bG ++ (wL t qL bL ++ (wS t qA bA ++ (wY t qY qN fa z3.1))))))) (wS t qN bN) (wPs t qp z3.2 r10 ++ (tail))) rfl (ci := 2) rfl rfl rfl (Nat.le_of_ble_eq_true rfl) dX5_redeems_50 (fun w1 hw1 => ?_)
        subst hw1
        refine A_perm (ws' := (wX t qX qR qL qY qA im bX ++ (wRd t qR qT qG bR ++ (wTx t qT bT ++ (wL t qG bG ++ (wL t qL bL ++ (wS t qA bA ++ (wY t qY qN fa z3.1 ++ (wS t qN z4 ++ (wPs t qp z3.2 r10 ++ (tail))))))))))) ((cutA (wX t qX qR qL qY qA im bX ++ (wRd t qR qT qG bR ++ (wTx t qT bT ++ (wL t qG bG ++ (wL t qL bL ++ (wS t qA bA ++ (wY t qY qN fa z3.1))))))) (wS t qN z4) (wPs t qp z3.2 r10 ++ (tail))).symm) ?_
        refine A_aload_n C 0 dX5_redeems_53 rfl rfl ?_
        refine A_get (v := .int (gI z4 4)) C 26 4 inG2 (ci := 2) rfl (by decide) fl_5_167 rfl rfl rfl dX5_redeems_54 ?_
        have h0 := Option.some.inj h0
        subst h0
        exact A_iret C dX5_redeems_57 ⟨fa, qp, hfa, rfl, rfl⟩
      · exact A_loc [] rfl (t_5_redeems_38 C qX qR qT qG qL qA qY qN im fa qp hfa tail bX bR bT bG bL bA r bY bN bP h0)
  · refine A_iconst C (-1 : Int32) dX5_redeems_7 (by decide) ?_
    have h0 := Option.some.inj h0
    subst h0
    exact A_iret C dX5_redeems_8 ⟨fa, qp, hfa, rfl, rfl⟩
def f_5_pawns_46 (bL : BV) (bY : BV) (bN : BV) (bP : (Nat → BV)) : Option (Int32 × BV × BV × (Nat → BV)) :=
  some ((-2 : Int32), bY, bN, bP)
theorem t_5_pawns_46 (C : CX p s m args meth c cX5_pawns 5 (some .int) RX5 D t) (qX : Nat → Nat) (qR : Nat → Nat) (qT : Nat → Nat) (qG : Nat → Nat) (qL : Nat → Nat) (qA : Nat → Nat) (qY : Nat → Nat) (qN : Nat → Nat) (im : Nat → Option Nat) (fa : Nat → Option Nat) (qp : Nat → Nat → Nat) (hfa : Fa fa qp) (tail : va_W) (bX : BV) (bR : BV) (bT : BV) (bG : BV) (bL : BV) (bA : BV) (r : Int32 × BV × BV × (Nat → BV)) (bY : BV) (bN : BV) (bP : (Nat → BV)) (h0 : f_5_pawns_46 bL bY bN bP = some r) : At p l e (rmD 6) s m args below meth c D 5 w0 (QI below args s D w0 (fun x w => ∃ fa qp, Fa fa qp ∧ r.1 = x ∧ (wX t qX qR qL qY qA im bX ++ (wRd t qR qT qG bR ++ (wTx t qT bT ++ (wL t qG bG ++ (wL t qL bL ++ (wS t qA bA ++ (wY t qY qN fa r.2.1 ++ (wS t qN r.2.2.1 ++ (wPs t qp r.2.2.2 r10 ++ (tail)))))))))) = w) 0 0) 0 0 46 [] [] (wX t qX qR qL qY qA im bX ++ (wRd t qR qT qG bR ++ (wTx t qT bT ++ (wL t qG bG ++ (wL t qL bL ++ (wS t qA bA ++ (wY t qY qN fa bY ++ (wS t qN bN ++ (wPs t qp bP r10 ++ (tail)))))))))) := by
  unfold f_5_pawns_46 at h0
  refine A_bipush C (-2 : Int32) dX5_pawns_46 (by decide) ?_
  have h0 := Option.some.inj h0
  subst h0
  exact A_iret C dX5_pawns_48 ⟨fa, qp, hfa, rfl, rfl⟩
def f_5_pawns_18 (bL : BV) (bY : BV) (bN : BV) (bP : (Nat → BV)) : Option (Int32 × BV × BV × (Nat → BV)) :=
  some ((-1 : Int32), bY, bN, bP)
theorem t_5_pawns_18 (C : CX p s m args meth c cX5_pawns 5 (some .int) RX5 D t) (qX : Nat → Nat) (qR : Nat → Nat) (qT : Nat → Nat) (qG : Nat → Nat) (qL : Nat → Nat) (qA : Nat → Nat) (qY : Nat → Nat) (qN : Nat → Nat) (im : Nat → Option Nat) (fa : Nat → Option Nat) (qp : Nat → Nat → Nat) (hfa : Fa fa qp) (tail : va_W) (bX : BV) (bR : BV) (bT : BV) (bG : BV) (bL : BV) (bA : BV) (r : Int32 × BV × BV × (Nat → BV)) (bY : BV) (bN : BV) (bP : (Nat → BV)) (h0 : f_5_pawns_18 bL bY bN bP = some r) : At p l e (rmD 6) s m args below meth c D 5 w0 (QI below args s D w0 (fun x w => ∃ fa qp, Fa fa qp ∧ r.1 = x ∧ (wX t qX qR qL qY qA im bX ++ (wRd t qR qT qG bR ++ (wTx t qT bT ++ (wL t qG bG ++ (wL t qL bL ++ (wS t qA bA ++ (wY t qY qN fa r.2.1 ++ (wS t qN r.2.2.1 ++ (wPs t qp r.2.2.2 r10 ++ (tail)))))))))) = w) 0 0) 0 0 18 [] [] (wX t qX qR qL qY qA im bX ++ (wRd t qR qT qG bR ++ (wTx t qT bT ++ (wL t qG bG ++ (wL t qL bL ++ (wS t qA bA ++ (wY t qY qN fa bY ++ (wS t qN bN ++ (wPs t qp bP r10 ++ (tail)))))))))) := by
  unfold f_5_pawns_18 at h0
  refine A_iconst C (-1 : Int32) dX5_pawns_18 (by decide) ?_
  have h0 := Option.some.inj h0
  subst h0
  exact A_iret C dX5_pawns_19 ⟨fa, qp, hfa, rfl, rfl⟩
def f_5_pawns (bL : BV) (bY : BV) (bN : BV) (bP : (Nat → BV)) (x1 : Int32) (x2 : Int32) : Option (Int32 × BV × BV × (Nat → BV)) :=
  (f_5_isDay bL x1).bind (fun z1 => if z1 = 0 then (f_5_pawns_18 bL bY bN bP) else ((f_5_isWithin x2 (1 : Int32) (9 : Int32)).bind (fun z2 => if z2 = 0 then (f_5_pawns_18 bL bY bN bP) else ((f_2_lowestFree bN).bind (fun z3 => (f_5_isRowIn bL bN x1 x2).bind (fun z4 => if z4 = 0 then (f_5_pawns_46 bL bY bN bP) else (if z3 = (-9 : Int32) then (f_5_pawns_46 bL bY bN bP) else ((f_3_remember bY bN bP).bind (fun z5 => (f_0_lentFor bL x1 x2).bind (fun z6 => (f_5_rowBits x1 x2).bind (fun z7 => (f_2_pawn bN z3 z7 z6).bind (fun z8 => some (z6, z5.1, z8, z5.2)))))))))))))
theorem c_5_pawns (l : Launch) (D : va_G) (t : ty4) (qX : Nat → Nat) (qR : Nat → Nat) (qT : Nat → Nat) (qG : Nat → Nat) (qL : Nat → Nat) (qA : Nat → Nat) (qY : Nat → Nat) (qN : Nat → Nat) (im : Nat → Option Nat) (fa : Nat → Option Nat) (qp : Nat → Nat → Nat) (hfa : Fa fa qp) (tail : va_W) (bX : BV) (bR : BV) (bT : BV) (bG : BV) (bL : BV) (bA : BV) (bY : BV) (bN : BV) (bP : (Nat → BV)) (x1 : Int32) (x2 : Int32) {r : Int32 × BV × BV × (Nat → BV)} (h0 : f_5_pawns bL bY bN bP x1 x2 = some r) : MetI l yX5_pawns cX5_pawns 5 (some .int) (rmD 6) D t [.ref (qX 99), .int x1, .int x2] (wX t qX qR qL qY qA im bX ++ (wRd t qR qT qG bR ++ (wTx t qT bT ++ (wL t qG bG ++ (wL t qL bL ++ (wS t qA bA ++ (wY t qY qN fa bY ++ (wS t qN bN ++ (wPs t qp bP r10 ++ (tail)))))))))) (fun x w => ∃ fa qp, Fa fa qp ∧ r.1 = x ∧ (wX t qX qR qL qY qA im bX ++ (wRd t qR qT qG bR ++ (wTx t qT bT ++ (wL t qG bG ++ (wL t qL bL ++ (wS t qA bA ++ (wY t qY qN fa r.2.1 ++ (wS t qN r.2.2.1 ++ (wPs t qp r.2.2.2 r10 ++ (tail)))))))))) = w) := by
  refine MetI_of (by decide +kernel) (Nat.le_of_ble_eq_true rfl) (fun p e s m below meth c C _ => ?_)
  unfold f_5_pawns at h0
  generalize hargs : (List.toArray [.ref (qX 99), .int x1, .int x2] : Array Value) = args at C ⊢
  refine At.start (lv2 := [(0, .ref (qX 99)), (1, .int x1), (2, .int x2)]) rfl ?_
  refine A_aload_n C 0 dX5_pawns_0 rfl rfl ?_
  refine A_iload_n C 1 dX5_pawns_1 rfl rfl ?_
  obtain ⟨z1, hz1, h0⟩ := bind_some h0
  refine A_vI (As := [.int x1]) (rest := []) C 0 (c_5_isDay l D t qX qR qT qG qL qA qY qN im fa (wPs t qp bP r10 ++ tail) bX bR bT bG bL bA bY bN x1 hz1) mw_5_isDay ml_5_91 im_5_isDay sl_5_isDay (rmok rfl rfl) (cut0 (wX t qX qR qL qY qA im bX ++ (wRd t qR qT qG bR ++ (wTx t qT bT ++ (wL t qG bG ++ (wL t qL bL ++ (wS t qA bA ++ (wY t qY qN fa bY ++ (wS t qN bN ++ (wPs t qp bP r10 ++ (tail))))))))))) rfl (ci := 5) rfl rfl rfl (Nat.le_of_ble_eq_true rfl) dX5_pawns_2 (fun x w1 hw1 => ?_)
  obtain ⟨rfl, rfl⟩ := hw1
  refine A_perm (ws' := (wX t qX qR qL qY qA im bX ++ (wRd t qR qT qG bR ++ (wTx t qT bT ++ (wL t qG bG ++ (wL t qL bL ++ (wS t qA bA ++ (wY t qY qN fa bY ++ (wS t qN bN ++ (wPs t qp bP r10 ++ (tail))))))))))) ((cut0 _).symm) ?_
  refine A_if_eq C 18 dX5_pawns_5 (by decide) h0 (fun h0 => ?_) (fun h0 => ?_)
  · exact A_loc [] rfl (t_5_pawns_18 C qX qR qT qG qL qA qY qN im fa qp hfa tail bX bR bT bG bL bA r bY bN bP h0)
  · refine A_iload_n C 2 dX5_pawns_8 rfl rfl ?_
    refine A_iconst C (1 : Int32) dX5_pawns_9 (by decide) ?_
    refine A_bipush C (9 : Int32) dX5_pawns_10 (by decide) ?_
    obtain ⟨z2, hz2, h0⟩ := bind_some h0
    refine A_sI (As := [.int x2, .int (1 : Int32), .int (9 : Int32)]) (rest := []) C (c_5_isWithin l D t x2 (1 : Int32) (9 : Int32) hz2) mw_5_isWithin ml_5_60 st_5_isWithin (rmok rfl rfl) (cutN (wX t qX qR qL qY qA im bX ++ (wRd t qR qT qG bR ++ (wTx t qT bT ++ (wL t qG bG ++ (wL t qL bL ++ (wS t qA bA ++ (wY t qY qN fa bY ++ (wS t qN bN ++ (wPs t qp bP r10 ++ (tail))))))))))) rfl rfl (Nat.le_of_ble_eq_true rfl) dX5_pawns_12 (fun x w1 hw1 => ?_)
    obtain ⟨rfl, rfl⟩ := hw1
    refine A_perm (ws' := (wX t qX qR qL qY qA im bX ++ (wRd t qR qT qG bR ++ (wTx t qT bT ++ (wL t qG bG ++ (wL t qL bL ++ (wS t qA bA ++ (wY t qY qN fa bY ++ (wS t qN bN ++ (wPs t qp bP r10 ++ (tail))))))))))) ((cutN _).symm) ?_
    refine A_if_ne C 20 dX5_pawns_15 (by decide) h0 (fun h0 => ?_) (fun h0 => ?_)
    · refine A_aload_n C 0 dX5_pawns_20 rfl rfl ?_
      refine A_get (v := .ref (qY 99)) C 0 2 inG5 (ci := 5) rfl (by decide) fl_5_26 rfl rfl rfl dX5_pawns_21 ?_
      refine A_get (v := .ref (qN 99)) C 24 0 inG3 (ci := 3) rfl (by decide) fl_5_104 rfl rfl rfl dX5_pawns_24 ?_
      obtain ⟨z3, hz3, h0⟩ := bind_some h0
      refine A_vI (As := []) (rest := []) C 0 (c_2_lowestFree l D t qN bN hz3) mw_2_lowestFree ml_5_147 im_2_lowestFree sl_2_lowestFree (rmok rfl rfl) (cutA (wX t qX qR qL qY qA im bX ++ (wRd t qR qT qG bR ++ (wTx t qT bT ++ (wL t qG bG ++ (wL t qL bL ++ (wS t qA bA ++ (wY t qY qN fa bY))))))) (wS t qN bN) (wPs t qp bP r10 ++ (tail))) rfl (ci := 2) rfl rfl rfl (Nat.le_of_ble_eq_true rfl) dX5_pawns_27 (fun x w1 hw1 => ?_)
      obtain ⟨rfl, rfl⟩ := hw1
      refine A_perm (ws' := (wX t qX qR qL qY qA im bX ++ (wRd t qR qT qG bR ++ (wTx t qT bT ++ (wL t qG bG ++ (wL t qL bL ++ (wS t qA bA ++ (wY t qY qN fa bY ++ (wS t qN bN ++ (wPs t qp bP r10 ++ (tail))))))))))) ((cutA (wX t qX qR qL qY qA im bX ++ (wRd t qR qT qG bR ++ (wTx t qT bT ++ (wL t qG bG ++ (wL t qL bL ++ (wS t qA bA ++ (wY t qY qN fa bY))))))) (wS t qN bN) (wPs t qp bP r10 ++ (tail))).symm) ?_
      refine A_istore_n C [(3, .int z3), (0, .ref (qX 99)), (1, .int x1), (2, .int x2)] dX5_pawns_30 rfl (by decide) rfl ?_
      refine A_aload_n C 1 dX5_pawns_31 rfl rfl ?_
      refine A_iload_n C 2 dX5_pawns_32 rfl rfl ?_
      refine A_iload_n C 3 dX5_pawns_33 rfl rfl ?_
      obtain ⟨z4, hz4, h0⟩ := bind_some h0
      refine A_vI (As := [.int x1, .int x2]) (rest := []) C 0 (c_5_isRowIn l D t qX qR qT qG qL qA qY qN im fa (wPs t qp bP r10 ++ tail) bX bR bT bG bL bA bY bN x1 x2 hz4) mw_5_isRowIn ml_5_150 im_5_isRowIn sl_5_isRowIn (rmok rfl rfl) (cut0 (wX t qX qR qL qY qA im bX ++ (wRd t qR qT qG bR ++ (wTx t qT bT ++ (wL t qG bG ++ (wL t qL bL ++ (wS t qA bA ++ (wY t qY qN fa bY ++ (wS t qN bN ++ (wPs t qp bP r10 ++ (tail))))))))))) rfl (ci := 5) rfl rfl rfl (Nat.le_of_ble_eq_true rfl) dX5_pawns_34 (fun x w1 hw1 => ?_)
      obtain ⟨rfl, rfl⟩ := hw1
      refine A_perm (ws' := (wX t qX qR qL qY qA im bX ++ (wRd t qR qT qG bR ++ (wTx t qT bT ++ (wL t qG bG ++ (wL t qL bL ++ (wS t qA bA ++ (wY t qY qN fa bY ++ (wS t qN bN ++ (wPs t qp bP r10 ++ (tail))))))))))) ((cut0 _).symm) ?_
      refine A_if_eq C 46 dX5_pawns_37 (by decide) h0 (fun h0 => ?_) (fun h0 => ?_)
      · exact A_loc [] rfl (t_5_pawns_46 C qX qR qT qG qL qA qY qN im fa qp hfa tail bX bR bT bG bL bA r bY bN bP h0)
      · refine A_iload_n C 0 dX5_pawns_40 rfl rfl ?_
        refine A_bipush C (-9 : Int32) dX5_pawns_41 (by decide) ?_
        refine A_icmp_ne C 49 dX5_pawns_43 (by decide) h0 (fun h0 => ?_) (fun h0 => ?_)
        · refine A_aload_n C 1 dX5_pawns_49 rfl rfl ?_
          refine A_get (v := .ref (qY 99)) C 0 2 inG5 (ci := 5) rfl (by decide) fl_5_26 rfl rfl rfl dX5_pawns_50 ?_
          obtain ⟨z5, hz5, h0⟩ := bind_some h0
          refine A_vV (As := []) (rest := []) C 0 (c_3_remember l D t qY qN fa qp bY bN bP hfa hz5) mw_3_remember ml_5_154 im_3_remember sl_3_remember (rmok rfl rfl) (cutA (wX t qX qR qL qY qA im bX ++ (wRd t qR qT qG bR ++ (wTx t qT bT ++ (wL t qG bG ++ (wL t qL bL ++ (wS t qA bA)))))) (wY t qY qN fa bY ++ (wS t qN bN ++ (wPs t qp bP r10))) (tail)) rfl (ci := 3) rfl rfl rfl (Nat.le_of_ble_eq_true rfl) dX5_pawns_53 (fun w1 hw1 => ?_)
          obtain ⟨fa, qp, hfa, rfl⟩ := hw1
          refine A_perm (ws' := (wX t qX qR qL qY qA im bX ++ (wRd t qR qT qG bR ++ (wTx t qT bT ++ (wL t qG bG ++ (wL t qL bL ++ (wS t qA bA ++ (wY t qY qN fa z5.1 ++ (wS t qN bN ++ (wPs t qp z5.2 r10 ++ (tail))))))))))) ((cutA (wX t qX qR qL qY qA im bX ++ (wRd t qR qT qG bR ++ (wTx t qT bT ++ (wL t qG bG ++ (wL t qL bL ++ (wS t qA bA)))))) (wY t qY qN fa z5.1 ++ (wS t qN bN ++ (wPs t qp z5.2 r10))) (tail)).symm) ?_
          refine A_aload_n C 1 dX5_pawns_56 rfl rfl ?_
          refine A_get (v := .ref (qL 99)) C 0 1 inG5 (ci := 5) rfl (by decide) fl_5_19 rfl rfl rfl dX5_pawns_57 ?_
          refine A_iload_n C 2 dX5_pawns_60 rfl rfl ?_
          refine A_iload_n C 3 dX5_pawns_61 rfl rfl ?_
          obtain ⟨z6, hz6, h0⟩ := bind_some h0
          refine A_vI (As := [.int x1, .int x2]) (rest := []) C 0 (c_0_lentFor l D t qL bL x1 x2 hz6) mw_0_lentFor ml_5_157 im_0_lentFor sl_0_lentFor (rmok rfl rfl) (cutA (wX t qX qR qL qY qA im bX ++ (wRd t qR qT qG bR ++ (wTx t qT bT ++ (wL t qG bG)))) (wL t qL bL) (wS t qA bA ++ (wY t qY qN fa z5.1 ++ (wS t qN bN ++ (wPs t qp z5.2 r10 ++ (tail)))))) rfl (ci := 0) rfl rfl rfl (Nat.le_of_ble_eq_true rfl) dX5_pawns_62 (fun x w1 hw1 => ?_)
          obtain ⟨rfl, rfl⟩ := hw1
          refine A_perm (ws' := (wX t qX qR qL qY qA im bX ++ (wRd t qR qT qG bR ++ (wTx t qT bT ++ (wL t qG bG ++ (wL t qL bL ++ (wS t qA bA ++ (wY t qY qN fa z5.1 ++ (wS t qN bN ++ (wPs t qp z5.2 r10 ++ (tail))))))))))) ((cutA (wX t qX qR qL qY qA im bX ++ (wRd t qR qT qG bR ++ (wTx t qT bT ++ (wL t qG bG)))) (wL t qL bL) (wS t qA bA ++ (wY t qY qN fa z5.1 ++ (wS t qN bN ++ (wPs t qp z5.2 r10 ++ (tail)))))).symm) ?_
          refine A_istore C [(4, .int z6), (3, .int z3), (0, .ref (qX 99)), (1, .int x1), (2, .int x2)] dX5_pawns_65 (by decide) rfl ?_
          refine A_aload_n C 2 dX5_pawns_67 rfl rfl ?_
          refine A_get (v := .ref (qY 99)) C 0 2 inG5 (ci := 5) rfl (by decide) fl_5_26 rfl rfl rfl dX5_pawns_68 ?_
          refine A_get (v := .ref (qN 99)) C 24 0 inG3 (ci := 3) rfl (by decide) fl_5_104 rfl rfl rfl dX5_pawns_71 ?_
          refine A_iload_n C 1 dX5_pawns_74 rfl rfl ?_
          refine A_iload_n C 3 dX5_pawns_75 rfl rfl ?_
          refine A_iload_n C 4 dX5_pawns_76 rfl rfl ?_
          obtain ⟨z7, hz7, h0⟩ := bind_some h0
          refine A_sI (As := [.int x1, .int x2]) (rest := [.int z3, .ref (qN 99)]) C (c_5_rowBits l D t x1 x2 hz7) mw_5_rowBits ml_5_160 st_5_rowBits (rmok rfl rfl) (cutN (wX t qX qR qL qY qA im bX ++ (wRd t qR qT qG bR ++ (wTx t qT bT ++ (wL t qG bG ++ (wL t qL bL ++ (wS t qA bA ++ (wY t qY qN fa z5.1 ++ (wS t qN bN ++ (wPs t qp z5.2 r10 ++ (tail))))))))))) rfl rfl (Nat.le_of_ble_eq_true rfl) dX5_pawns_77 (fun x w1 hw1 => ?_)
          obtain ⟨rfl, rfl⟩ := hw1
          refine A_perm (ws' := (wX t qX qR qL qY qA im bX ++ (wRd t qR qT qG bR ++ (wTx t qT bT ++ (wL t qG bG ++ (wL t qL bL ++ (wS t qA bA ++ (wY t qY qN fa z5.1 ++ (wS t qN bN ++ (wPs t qp z5.2 r10 ++ (tail))))))))))) ((cutN _).symm) ?_
          refine A_iload C 0 dX5_pawns_80 rfl ?_
          obtain ⟨z8, hz8, h0⟩ := bind_some h0
          refine A_vV (As := [.int z3, .int z7, .int z6]) (rest := []) C 0 (c_2_pawn l D t qN bN z3 z7 z6 hz8) mw_2_pawn ml_5_163 im_2_pawn sl_2_pawn (rmok rfl rfl) (cutA (wX t qX qR qL qY qA im bX ++ (wRd t qR qT qG bR ++ (wTx t qT bT ++ (wL t qG bG ++ (wL t qL bL ++ (wS t qA bA ++ (wY t qY qN fa z5.1))))))) (wS t qN bN) (wPs t qp z5.2 r10 ++ (tail))) rfl (ci := 2) rfl rfl rfl (Nat.le_of_ble_eq_true rfl) dX5_pawns_82 (fun w1 hw1 => ?_)
          subst hw1
          refine A_perm (ws' := (wX t qX qR qL qY qA im bX ++ (wRd t qR qT qG bR ++ (wTx t qT bT ++ (wL t qG bG ++ (wL t qL bL ++ (wS t qA bA ++ (wY t qY qN fa z5.1 ++ (wS t qN z8 ++ (wPs t qp z5.2 r10 ++ (tail))))))))))) ((cutA (wX t qX qR qL qY qA im bX ++ (wRd t qR qT qG bR ++ (wTx t qT bT ++ (wL t qG bG ++ (wL t qL bL ++ (wS t qA bA ++ (wY t qY qN fa z5.1))))))) (wS t qN z8) (wPs t qp z5.2 r10 ++ (tail))).symm) ?_
          refine A_iload C 0 dX5_pawns_85 rfl ?_
          have h0 := Option.some.inj h0
          subst h0
          exact A_iret C dX5_pawns_87 ⟨fa, qp, hfa, rfl, rfl⟩
        · exact A_loc [] rfl (t_5_pawns_46 C qX qR qT qG qL qA qY qN im fa qp hfa tail bX bR bT bG bL bA r bY bN bP h0)
    · exact A_loc [] rfl (t_5_pawns_18 C qX qR qT qG qL qA qY qN im fa qp hfa tail bX bR bT bG bL bA r bY bN bP h0)
def f_5_year (bL : BV) (bY : BV) (bN : BV) (bP : (Nat → BV)) : Option (Int32 × BV × BV × (Nat → BV)) :=
  if (gI bN 5) < (99 : Int32) then ((f_3_remember bY bN bP).bind (fun z1 => (f_2_passYear bL bN).bind (fun z2 => some (z2.1, z1.1, z2.2, z1.2)))) else (some ((-2 : Int32), bY, bN, bP))
theorem c_5_year (l : Launch) (D : va_G) (t : ty4) (qX : Nat → Nat) (qR : Nat → Nat) (qT : Nat → Nat) (qG : Nat → Nat) (qL : Nat → Nat) (qA : Nat → Nat) (qY : Nat → Nat) (qN : Nat → Nat) (im : Nat → Option Nat) (fa : Nat → Option Nat) (qp : Nat → Nat → Nat) (hfa : Fa fa qp) (tail : va_W) (bX : BV) (bR : BV) (bT : BV) (bG : BV) (bL : BV) (bA : BV) (bY : BV) (bN : BV) (bP : (Nat → BV)) {r : Int32 × BV × BV × (Nat → BV)} (h0 : f_5_year bL bY bN bP = some r) : MetI l yX5_year cX5_year 1 (some .int) (rmD 6) D t [.ref (qX 99)] (wX t qX qR qL qY qA im bX ++ (wRd t qR qT qG bR ++ (wTx t qT bT ++ (wL t qG bG ++ (wL t qL bL ++ (wS t qA bA ++ (wY t qY qN fa bY ++ (wS t qN bN ++ (wPs t qp bP r10 ++ (tail)))))))))) (fun x w => ∃ fa qp, Fa fa qp ∧ r.1 = x ∧ (wX t qX qR qL qY qA im bX ++ (wRd t qR qT qG bR ++ (wTx t qT bT ++ (wL t qG bG ++ (wL t qL bL ++ (wS t qA bA ++ (wY t qY qN fa r.2.1 ++ (wS t qN r.2.2.1 ++ (wPs t qp r.2.2.2 r10 ++ (tail)))))))))) = w) := by
  refine MetI_of (by decide +kernel) (Nat.le_of_ble_eq_true rfl) (fun p e s m below meth c C _ => ?_)
  unfold f_5_year at h0
  generalize hargs : (List.toArray [.ref (qX 99)] : Array Value) = args at C ⊢
  refine At.start (lv2 := [(0, .ref (qX 99))]) rfl ?_
  refine A_aload_n C 0 dX5_year_0 rfl rfl ?_
  refine A_get (v := .ref (qY 99)) C 0 2 inG5 (ci := 5) rfl (by decide) fl_5_26 rfl rfl rfl dX5_year_1 ?_
  refine A_get (v := .ref (qN 99)) C 24 0 inG3 (ci := 3) rfl (by decide) fl_5_104 rfl rfl rfl dX5_year_4 ?_
  refine A_get (v := .int (gI bN 5)) C 26 5 inG2 (ci := 2) rfl (by decide) fl_5_174 rfl rfl rfl dX5_year_7 ?_
  refine A_bipush C (99 : Int32) dX5_year_10 (by decide) ?_
  refine A_icmp_lt C 18 dX5_year_12 (by decide) h0 (fun h0 => ?_) (fun h0 => ?_)
  · refine A_aload_n C 0 dX5_year_18 rfl rfl ?_
    refine A_get (v := .ref (qY 99)) C 0 2 inG5 (ci := 5) rfl (by decide) fl_5_26 rfl rfl rfl dX5_year_19 ?_
    obtain ⟨z1, hz1, h0⟩ := bind_some h0
    refine A_vV (As := []) (rest := []) C 0 (c_3_remember l D t qY qN fa qp bY bN bP hfa hz1) mw_3_remember ml_5_154 im_3_remember sl_3_remember (rmok rfl rfl) (cutA (wX t qX qR qL qY qA im bX ++ (wRd t qR qT qG bR ++ (wTx t qT bT ++ (wL t qG bG ++ (wL t qL bL ++ (wS t qA bA)))))) (wY t qY qN fa bY ++ (wS t qN bN ++ (wPs t qp bP r10))) (tail)) rfl (ci := 3) rfl rfl rfl (Nat.le_of_ble_eq_true rfl) dX5_year_22 (fun w1 hw1 => ?_)
    obtain ⟨fa, qp, hfa, rfl⟩ := hw1
    refine A_perm (ws' := (wX t qX qR qL qY qA im bX ++ (wRd t qR qT qG bR ++ (wTx t qT bT ++ (wL t qG bG ++ (wL t qL bL ++ (wS t qA bA ++ (wY t qY qN fa z1.1 ++ (wS t qN bN ++ (wPs t qp z1.2 r10 ++ (tail))))))))))) ((cutA (wX t qX qR qL qY qA im bX ++ (wRd t qR qT qG bR ++ (wTx t qT bT ++ (wL t qG bG ++ (wL t qL bL ++ (wS t qA bA)))))) (wY t qY qN fa z1.1 ++ (wS t qN bN ++ (wPs t qp z1.2 r10))) (tail)).symm) ?_
    refine A_aload_n C 0 dX5_year_25 rfl rfl ?_
    refine A_get (v := .ref (qY 99)) C 0 2 inG5 (ci := 5) rfl (by decide) fl_5_26 rfl rfl rfl dX5_year_26 ?_
    refine A_get (v := .ref (qN 99)) C 24 0 inG3 (ci := 3) rfl (by decide) fl_5_104 rfl rfl rfl dX5_year_29 ?_
    refine A_aload_n C 0 dX5_year_32 rfl rfl ?_
    refine A_get (v := .ref (qL 99)) C 0 1 inG5 (ci := 5) rfl (by decide) fl_5_19 rfl rfl rfl dX5_year_33 ?_
    obtain ⟨z2, hz2, h0⟩ := bind_some h0
    refine A_vI (As := [.ref (qL 99)]) (rest := []) C 6 (c_2_passYear l D t qL qN bL bN hz2) mw_2_passYear ml_5_177 im_2_passYear sl_2_passYear (rmok rfl rfl) (cutB (wX t qX qR qL qY qA im bX ++ (wRd t qR qT qG bR ++ (wTx t qT bT ++ (wL t qG bG)))) (wL t qL bL) (wS t qA bA ++ (wY t qY qN fa z1.1)) (wS t qN bN) (wPs t qp z1.2 r10 ++ (tail))) rfl (ci := 2) rfl rfl rfl (Nat.le_of_ble_eq_true rfl) dX5_year_36 (fun x w1 hw1 => ?_)
    obtain ⟨rfl, rfl⟩ := hw1
    refine A_perm (ws' := (wX t qX qR qL qY qA im bX ++ (wRd t qR qT qG bR ++ (wTx t qT bT ++ (wL t qG bG ++ (wL t qL bL ++ (wS t qA bA ++ (wY t qY qN fa z1.1 ++ (wS t qN z2.2 ++ (wPs t qp z1.2 r10 ++ (tail))))))))))) ((cutB (wX t qX qR qL qY qA im bX ++ (wRd t qR qT qG bR ++ (wTx t qT bT ++ (wL t qG bG)))) (wL t qL bL) (wS t qA bA ++ (wY t qY qN fa z1.1)) (wS t qN z2.2) (wPs t qp z1.2 r10 ++ (tail))).symm) ?_
    have h0 := Option.some.inj h0
    subst h0
    exact A_iret C dX5_year_39 ⟨fa, qp, hfa, rfl, rfl⟩
  · refine A_bipush C (-2 : Int32) dX5_year_15 (by decide) ?_
    have h0 := Option.some.inj h0
    subst h0
    exact A_iret C dX5_year_17 ⟨fa, qp, hfa, rfl, rfl⟩
end
