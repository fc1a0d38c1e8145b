-- constructors of Reader, Story, SpringPawn
theorem permX (own im kp tc ti rd tx g ld ah y n ps i0 i1 : va_W) : ((((((((((own ++ (rd ++ (tx ++ g))) ++ ld) ++ (y ++ (n ++ ps))) ++ im) ++ kp) ++ ah) ++ tc) ++ ti) ++ i0) ++ i1).Perm ((own ++ (im ++ (kp ++ (tc ++ ti)))) ++ (rd ++ (tx ++ (g ++ (ld ++ (ah ++ (y ++ (n ++ (ps ++ (i0 ++ (i1 ++ [])))))))))))  := by
  have : DecidableEq (Nat × va_E) := fun a b => Classical.propDecidable (a = b)
  rw [List.perm_iff_count]
  intro x
  simp only [List.count_append, List.append_nil]
  omega
theorem c_1_init (l : Launch) (D : va_G) (t : ty4) (o : Nat) : MetV l yX1_init cX1_init 1 none (rmC 2 8 239) D t [.ref o] [(o, .inr (1, [.null, .null, .int 0, .int 0, .int 0, .int 0]))] (fun w => ∃ qR qT qG : Nat → Nat, qR 99 = o ∧ wRd t qR qT qG z1 ++ (wTx t qT zz ++ wL t qG z0) = w) := by
  refine MetV_of (by decide +kernel) (Nat.le_of_ble_eq_true rfl) (fun p e s m below meth c C hinit => ?_)
  refine At.start (lv2 := [(0, .ref o)]) rfl ?_
  refine A_aload_n C 0 dX1_init_0 rfl rfl ?_
  refine A_objInit C ml_1_3 (Nat.le_of_ble_eq_true rfl) (Nat.le_of_ble_eq_true rfl) dX1_init_1 ?_
  refine A_aload_n C 0 dX1_init_4 rfl rfl ?_
  refine A_new C tyX4 [.null, .int 0, .int 0, .int 0, .int 0, .int 0] inG4 tyX4_ok kl_1_9 ins_4 ini_4 (ci := 4) rfl df_4 (Nat.le_of_ble_eq_true rfl) (Nat.le_of_ble_eq_true rfl) dX1_init_5 (fun o1 => ?_)
  refine A_dup C dX1_init_8 rfl ?_
  refine A_inV (As := []) (rest := [.ref o1, .ref o]) C (c_4_init l D t o1) mw_4_init C.2.2.2.2.1.2.1 im_4_init rfl (rmokC rfl rfl rfl rfl) (List.Perm.refl _) rfl rfl (Nat.le_of_ble_eq_true rfl) dX1_init_9 (fun w1 hw1 => ?_)
  obtain ⟨q2, rfl, rfl⟩ := hw1
  refine A_putF C 0 0 ([(o, .inr (1, [.ref (q2 99), .null, .int 0, .int 0, .int 0, .int 0]))] ++ (wTx t q2 zz)) tyX1 inG1 tyX1_ok nmX1 (ci := 1) rfl (by decide) fl_1_12 rfl rfl (hinit rfl) rfl rfl rfl rfl (Nat.le_of_ble_eq_true rfl) rfl dX1_init_12 ?_
  refine A_aload_n C 0 dX1_init_15 rfl rfl ?_
  refine A_new C tyX0 [.int 0, .int 0, .null, .null, .int 0, .null, .null, .null, .int 0, .int 0, .int 0] inG0 tyX0_ok kl_1_18 ins_0 ini_0 (ci := 0) rfl df_0 (Nat.le_of_ble_eq_true rfl) (Nat.le_of_ble_eq_true rfl) dX1_init_16 (fun o3 => ?_)
  refine A_dup C dX1_init_19 rfl ?_
  refine A_inV (As := []) (rest := [.ref o3, .ref o]) C (c_0_init l D t o3) mw_0_init C.2.2.2.2.1.2.2.1 im_0_init rfl (rmokC rfl rfl rfl rfl) (List.Perm.refl _) rfl rfl (Nat.le_of_ble_eq_true rfl) dX1_init_20 (fun w1 hw1 => ?_)
  obtain ⟨q4, rfl, rfl⟩ := hw1
  refine A_put C 0 1 (([(o, .inr (1, [.ref (q2 99), .ref (q4 99), .int 0, .int 0, .int 0, .int 0]))] ++ (wTx t q2 zz)) ++ (wL t q4 z0)) tyX1 inG1 tyX1_ok nmX1 (ci := 1) rfl (by decide) fl_1_21 rfl rfl rfl rfl rfl (Nat.le_of_ble_eq_true rfl) rfl dX1_init_23 ?_
  refine A_aload_n C 0 dX1_init_26 rfl rfl ?_
  refine A_bipush C (-9 : Int32) dX1_init_27 (by decide) ?_
  refine A_put C 0 2 (([(o, .inr (1, [.ref (q2 99), .ref (q4 99), .int (-9 : Int32), .int 0, .int 0, .int 0]))] ++ (wTx t q2 zz)) ++ (wL t q4 z0)) tyX1 inG1 tyX1_ok nmX1 (ci := 1) rfl (by decide) fl_1_25 rfl rfl rfl rfl rfl (Nat.le_of_ble_eq_true rfl) rfl dX1_init_29 ?_
  refine A_aload_n C 0 dX1_init_32 rfl rfl ?_
  refine A_iconst C (0 : Int32) dX1_init_33 (by decide) ?_
  refine A_put C 0 3 (([(o, .inr (1, [.ref (q2 99), .ref (q4 99), .int (-9 : Int32), .int (0 : Int32), .int 0, .int 0]))] ++ (wTx t q2 zz)) ++ (wL t q4 z0)) tyX1 inG1 tyX1_ok nmX1 (ci := 1) rfl (by decide) fl_1_29 rfl rfl rfl rfl rfl (Nat.le_of_ble_eq_true rfl) rfl dX1_init_34 ?_
  refine A_aload_n C 0 dX1_init_37 rfl rfl ?_
  refine A_iconst C (0 : Int32) dX1_init_38 (by decide) ?_
  refine A_put C 0 4 (([(o, .inr (1, [.ref (q2 99), .ref (q4 99), .int (-9 : Int32), .int (0 : Int32), .int (0 : Int32), .int 0]))] ++ (wTx t q2 zz)) ++ (wL t q4 z0)) tyX1 inG1 tyX1_ok nmX1 (ci := 1) rfl (by decide) fl_1_33 rfl rfl rfl rfl rfl (Nat.le_of_ble_eq_true rfl) rfl dX1_init_39 ?_
  refine A_aload_n C 0 dX1_init_42 rfl rfl ?_
  refine A_iconst C (0 : Int32) dX1_init_43 (by decide) ?_
  refine A_put C 0 5 (([(o, .inr (1, [.ref (q2 99), .ref (q4 99), .int (-9 : Int32), .int (0 : Int32), .int (0 : Int32), .int (0 : Int32)]))] ++ (wTx t q2 zz)) ++ (wL t q4 z0)) tyX1 inG1 tyX1_ok nmX1 (ci := 1) rfl (by decide) fl_1_36 rfl rfl rfl rfl rfl (Nat.le_of_ble_eq_true rfl) rfl dX1_init_44 ?_
  exact A_vret C dX1_init_47 ⟨(fun k => if k = 99 then o else 0), q2, q4, rfl, rfl⟩
theorem c_3_init (l : Launch) (D : va_G) (t : ty4) (o : Nat) : MetV l yX3_init cX3_init 2 none (rmC 2 45 208) D t [.ref o] [(o, .inr (3, [.null, .null, .int 0]))] (fun w => ∃ (qY qN : Nat → Nat) (fa : Nat → Option Nat) (qp : Nat → Nat → Nat), Fa fa qp ∧ qY 99 = o ∧ wSt t qY qN fa qp zz zz (fun _ => zz) = w) := by
  refine MetV_of (by decide +kernel) (Nat.le_of_ble_eq_true rfl) (fun p e s m below meth c C hinit => ?_)
  refine At.start (lv2 := [(0, .ref o)]) rfl ?_
  refine A_aload_n C 0 dX3_init_0 rfl rfl ?_
  refine A_objInit C ml_3_3 (Nat.le_of_ble_eq_true rfl) (Nat.le_of_ble_eq_true rfl) dX3_init_1 ?_
  refine A_aload_n C 0 dX3_init_4 rfl rfl ?_
  refine A_new C tyX2 [.null, .null, .null, .int 0, .int 0, .int 0] inG2 tyX2_ok kl_3_9 ins_2 ini_2 (ci := 2) rfl df_2 (Nat.le_of_ble_eq_true rfl) (Nat.le_of_ble_eq_true rfl) dX3_init_5 (fun o1 => ?_)
  refine A_dup C dX3_init_8 rfl ?_
  refine A_inV (As := []) (rest := [.ref o1, .ref o]) C (c_2_init l D t o1) mw_2_init C.2.2.2.2.1.2.2.2.2.1 im_2_init rfl (rmokC rfl rfl rfl rfl) (List.Perm.refl _) rfl rfl (Nat.le_of_ble_eq_true rfl) dX3_init_9 (fun w1 hw1 => ?_)
  obtain ⟨q2, rfl, rfl⟩ := hw1
  refine A_putF C 0 0 ([(o, .inr (3, [.ref (q2 99), .null, .int 0]))] ++ (wS t q2 zz)) tyX3 inG3 tyX3_ok nmX3 (ci := 3) rfl (by decide) fl_3_12 rfl rfl (hinit rfl) rfl rfl rfl rfl (Nat.le_of_ble_eq_true rfl) rfl dX3_init_12 ?_
  refine A_aload_n C 0 dX3_init_15 rfl rfl ?_
  refine A_bipush C (10 : Int32) dX3_init_16 (by decide) ?_
  refine A_newQ2 C 10 (by decide) (by decide) (by decide) kl_3_9 (Nat.le_of_ble_eq_true rfl) (Nat.le_of_ble_eq_true rfl) dX3_init_18 (fun a3 => ?_)
  refine A_putF C 0 1 (([(o, .inr (3, [.ref (q2 99), .ref a3, .int 0]))] ++ (wS t q2 zz)) ++ [(a3, .inl (t.2.2.1, 10, .inr (.inr (.inr (.inr (fun _ => none))))))]) tyX3 inG3 tyX3_ok nmX3 (ci := 3) rfl (by decide) fl_3_18 rfl rfl (hinit rfl) rfl rfl rfl rfl (Nat.le_of_ble_eq_true rfl) rfl dX3_init_21 ?_
  refine A_aload_n C 0 dX3_init_24 rfl rfl ?_
  refine A_iconst C (0 : Int32) dX3_init_25 (by decide) ?_
  refine A_put C 0 2 (([(o, .inr (3, [.ref (q2 99), .ref a3, .int (0 : Int32)]))] ++ (wS t q2 zz)) ++ [(a3, .inl (t.2.2.1, 10, .inr (.inr (.inr (.inr (fun _ => none))))))]) tyX3 inG3 tyX3_ok nmX3 (ci := 3) rfl (by decide) fl_3_22 rfl rfl rfl rfl rfl (Nat.le_of_ble_eq_true rfl) rfl dX3_init_26 ?_
  refine A_iconst C (0 : Int32) dX3_init_29 (by decide) ?_
  refine A_istore_n C [(1, .int (0 : Int32)), (0, .ref o)] dX3_init_30 rfl (by decide) rfl ?_
  refine A_iload_n C 0 dX3_init_31 rfl rfl ?_
  refine A_bipush C (10 : Int32) dX3_init_32 (by decide) ?_
  refine A_icmp_ge (a := none) (b := some ()) (r := ()) C 56 dX3_init_34 (by decide) (by decide) (fun h => by cases h) (fun _ => ?_)
  refine A_aload_n C 1 dX3_init_37 rfl rfl ?_
  refine A_get (v := .ref a3) C 0 1 inG3 (ci := 3) rfl (by decide) fl_3_18 rfl rfl rfl dX3_init_38 ?_
  refine A_iload_n C 0 dX3_init_41 rfl rfl ?_
  refine A_new C tyX2 [.null, .null, .null, .int 0, .int 0, .int 0] inG2 tyX2_ok kl_3_9 ins_2 ini_2 (ci := 2) rfl df_2 (Nat.le_of_ble_eq_true rfl) (Nat.le_of_ble_eq_true rfl) dX3_init_42 (fun o4 => ?_)
  refine A_dup C dX3_init_45 rfl ?_
  refine A_inV (As := []) (rest := [.ref o4, .int (0 : Int32), .ref a3]) C (c_2_init l D t o4) mw_2_init C.2.2.2.2.1.2.2.2.2.1 im_2_init rfl (rmokC rfl rfl rfl rfl) (List.Perm.refl _) rfl rfl (Nat.le_of_ble_eq_true rfl) dX3_init_46 (fun w1 hw1 => ?_)
  obtain ⟨q5, rfl, rfl⟩ := hw1
  refine A_aast C 5 2 2 ((([(o, .inr (3, [.ref (q2 99), .ref a3, .int (0 : Int32)]))] ++ (wS t q2 zz)) ++ [(a3, .inl (t.2.2.1, 10, .inr (.inr (.inr (.inr (va_up (fun _ => none) (0 : Int32).toNatClampNeg (some (q5 99))))))))]) ++ (wS t q5 zz)) rfl rfl (List.mem_append_right _ (List.Mem.head _)) rfl (by decide) rfl dX3_init_49 ?_
  refine A_iinc C 0 (1 : Int32) [(1, .int (1 : Int32)), (0, .ref o)] dX3_init_50 rfl (by decide) (by decide) rfl ?_
  refine A_goto C 31 dX3_init_53 (by decide) ?_
  refine A_iload_n C 0 dX3_init_31 rfl rfl ?_
  refine A_bipush C (10 : Int32) dX3_init_32 (by decide) ?_
  refine A_icmp_ge (a := none) (b := some ()) (r := ()) C 56 dX3_init_34 (by decide) (by decide) (fun h => by cases h) (fun _ => ?_)
  refine A_aload_n C 1 dX3_init_37 rfl rfl ?_
  refine A_get (v := .ref a3) C 0 1 inG3 (ci := 3) rfl (by decide) fl_3_18 rfl rfl rfl dX3_init_38 ?_
  refine A_iload_n C 0 dX3_init_41 rfl rfl ?_
  refine A_new C tyX2 [.null, .null, .null, .int 0, .int 0, .int 0] inG2 tyX2_ok kl_3_9 ins_2 ini_2 (ci := 2) rfl df_2 (Nat.le_of_ble_eq_true rfl) (Nat.le_of_ble_eq_true rfl) dX3_init_42 (fun o6 => ?_)
  refine A_dup C dX3_init_45 rfl ?_
  refine A_inV (As := []) (rest := [.ref o6, .int (1 : Int32), .ref a3]) C (c_2_init l D t o6) mw_2_init C.2.2.2.2.1.2.2.2.2.1 im_2_init rfl (rmokC rfl rfl rfl rfl) (List.Perm.refl _) rfl rfl (Nat.le_of_ble_eq_true rfl) dX3_init_46 (fun w1 hw1 => ?_)
  obtain ⟨q7, rfl, rfl⟩ := hw1
  refine A_aast C 5 2 2 (((([(o, .inr (3, [.ref (q2 99), .ref a3, .int (0 : Int32)]))] ++ (wS t q2 zz)) ++ [(a3, .inl (t.2.2.1, 10, .inr (.inr (.inr (.inr (va_up (va_up (fun _ => none) (0 : Int32).toNatClampNeg (some (q5 99))) (1 : Int32).toNatClampNeg (some (q7 99))))))))]) ++ (wS t q5 zz)) ++ (wS t q7 zz)) rfl rfl (List.mem_append_right _ (List.Mem.head _)) rfl (by decide) rfl dX3_init_49 ?_
  refine A_iinc C 0 (2 : Int32) [(1, .int (2 : Int32)), (0, .ref o)] dX3_init_50 rfl (by decide) (by decide) rfl ?_
  refine A_goto C 31 dX3_init_53 (by decide) ?_
  refine A_iload_n C 0 dX3_init_31 rfl rfl ?_
  refine A_bipush C (10 : Int32) dX3_init_32 (by decide) ?_
  refine A_icmp_ge (a := none) (b := some ()) (r := ()) C 56 dX3_init_34 (by decide) (by decide) (fun h => by cases h) (fun _ => ?_)
  refine A_aload_n C 1 dX3_init_37 rfl rfl ?_
  refine A_get (v := .ref a3) C 0 1 inG3 (ci := 3) rfl (by decide) fl_3_18 rfl rfl rfl dX3_init_38 ?_
  refine A_iload_n C 0 dX3_init_41 rfl rfl ?_
  refine A_new C tyX2 [.null, .null, .null, .int 0, .int 0, .int 0] inG2 tyX2_ok kl_3_9 ins_2 ini_2 (ci := 2) rfl df_2 (Nat.le_of_ble_eq_true rfl) (Nat.le_of_ble_eq_true rfl) dX3_init_42 (fun o8 => ?_)
  refine A_dup C dX3_init_45 rfl ?_
  refine A_inV (As := []) (rest := [.ref o8, .int (2 : Int32), .ref a3]) C (c_2_init l D t o8) mw_2_init C.2.2.2.2.1.2.2.2.2.1 im_2_init rfl (rmokC rfl rfl rfl rfl) (List.Perm.refl _) rfl rfl (Nat.le_of_ble_eq_true rfl) dX3_init_46 (fun w1 hw1 => ?_)
  obtain ⟨q9, rfl, rfl⟩ := hw1
  refine A_aast C 5 2 2 ((((([(o, .inr (3, [.ref (q2 99), .ref a3, .int (0 : Int32)]))] ++ (wS t q2 zz)) ++ [(a3, .inl (t.2.2.1, 10, .inr (.inr (.inr (.inr (va_up (va_up (va_up (fun _ => none) (0 : Int32).toNatClampNeg (some (q5 99))) (1 : Int32).toNatClampNeg (some (q7 99))) (2 : Int32).toNatClampNeg (some (q9 99))))))))]) ++ (wS t q5 zz)) ++ (wS t q7 zz)) ++ (wS t q9 zz)) rfl rfl (List.mem_append_right _ (List.Mem.head _)) rfl (by decide) rfl dX3_init_49 ?_
  refine A_iinc C 0 (3 : Int32) [(1, .int (3 : Int32)), (0, .ref o)] dX3_init_50 rfl (by decide) (by decide) rfl ?_
  refine A_goto C 31 dX3_init_53 (by decide) ?_
  refine A_iload_n C 0 dX3_init_31 rfl rfl ?_
  refine A_bipush C (10 : Int32) dX3_init_32 (by decide) ?_
  refine A_icmp_ge (a := none) (b := some ()) (r := ()) C 56 dX3_init_34 (by decide) (by decide) (fun h => by cases h) (fun _ => ?_)
  refine A_aload_n C 1 dX3_init_37 rfl rfl ?_
  refine A_get (v := .ref a3) C 0 1 inG3 (ci := 3) rfl (by decide) fl_3_18 rfl rfl rfl dX3_init_38 ?_
  refine A_iload_n C 0 dX3_init_41 rfl rfl ?_
  refine A_new C tyX2 [.null, .null, .null, .int 0, .int 0, .int 0] inG2 tyX2_ok kl_3_9 ins_2 ini_2 (ci := 2) rfl df_2 (Nat.le_of_ble_eq_true rfl) (Nat.le_of_ble_eq_true rfl) dX3_init_42 (fun o10 => ?_)
  refine A_dup C dX3_init_45 rfl ?_
  refine A_inV (As := []) (rest := [.ref o10, .int (3 : Int32), .ref a3]) C (c_2_init l D t o10) mw_2_init C.2.2.2.2.1.2.2.2.2.1 im_2_init rfl (rmokC rfl rfl rfl rfl) (List.Perm.refl _) rfl rfl (Nat.le_of_ble_eq_true rfl) dX3_init_46 (fun w1 hw1 => ?_)
  obtain ⟨q11, rfl, rfl⟩ := hw1
  refine A_aast C 5 2 2 (((((([(o, .inr (3, [.ref (q2 99), .ref a3, .int (0 : Int32)]))] ++ (wS t q2 zz)) ++ [(a3, .inl (t.2.2.1, 10, .inr (.inr (.inr (.inr (va_up (va_up (va_up (va_up (fun _ => none) (0 : Int32).toNatClampNeg (some (q5 99))) (1 : Int32).toNatClampNeg (some (q7 99))) (2 : Int32).toNatClampNeg (some (q9 99))) (3 : Int32).toNatClampNeg (some (q11 99))))))))]) ++ (wS t q5 zz)) ++ (wS t q7 zz)) ++ (wS t q9 zz)) ++ (wS t q11 zz)) rfl rfl (List.mem_append_right _ (List.Mem.head _)) rfl (by decide) rfl dX3_init_49 ?_
  refine A_iinc C 0 (4 : Int32) [(1, .int (4 : Int32)), (0, .ref o)] dX3_init_50 rfl (by decide) (by decide) rfl ?_
  refine A_goto C 31 dX3_init_53 (by decide) ?_
  refine A_iload_n C 0 dX3_init_31 rfl rfl ?_
  refine A_bipush C (10 : Int32) dX3_init_32 (by decide) ?_
  refine A_icmp_ge (a := none) (b := some ()) (r := ()) C 56 dX3_init_34 (by decide) (by decide) (fun h => by cases h) (fun _ => ?_)
  refine A_aload_n C 1 dX3_init_37 rfl rfl ?_
  refine A_get (v := .ref a3) C 0 1 inG3 (ci := 3) rfl (by decide) fl_3_18 rfl rfl rfl dX3_init_38 ?_
  refine A_iload_n C 0 dX3_init_41 rfl rfl ?_
  refine A_new C tyX2 [.null, .null, .null, .int 0, .int 0, .int 0] inG2 tyX2_ok kl_3_9 ins_2 ini_2 (ci := 2) rfl df_2 (Nat.le_of_ble_eq_true rfl) (Nat.le_of_ble_eq_true rfl) dX3_init_42 (fun o12 => ?_)
  refine A_dup C dX3_init_45 rfl ?_
  refine A_inV (As := []) (rest := [.ref o12, .int (4 : Int32), .ref a3]) C (c_2_init l D t o12) mw_2_init C.2.2.2.2.1.2.2.2.2.1 im_2_init rfl (rmokC rfl rfl rfl rfl) (List.Perm.refl _) rfl rfl (Nat.le_of_ble_eq_true rfl) dX3_init_46 (fun w1 hw1 => ?_)
  obtain ⟨q13, rfl, rfl⟩ := hw1
  refine A_aast C 5 2 2 ((((((([(o, .inr (3, [.ref (q2 99), .ref a3, .int (0 : Int32)]))] ++ (wS t q2 zz)) ++ [(a3, .inl (t.2.2.1, 10, .inr (.inr (.inr (.inr (va_up (va_up (va_up (va_up (va_up (fun _ => none) (0 : Int32).toNatClampNeg (some (q5 99))) (1 : Int32).toNatClampNeg (some (q7 99))) (2 : Int32).toNatClampNeg (some (q9 99))) (3 : Int32).toNatClampNeg (some (q11 99))) (4 : Int32).toNatClampNeg (some (q13 99))))))))]) ++ (wS t q5 zz)) ++ (wS t q7 zz)) ++ (wS t q9 zz)) ++ (wS t q11 zz)) ++ (wS t q13 zz)) rfl rfl (List.mem_append_right _ (List.Mem.head _)) rfl (by decide) rfl dX3_init_49 ?_
  refine A_iinc C 0 (5 : Int32) [(1, .int (5 : Int32)), (0, .ref o)] dX3_init_50 rfl (by decide) (by decide) rfl ?_
  refine A_goto C 31 dX3_init_53 (by decide) ?_
  refine A_iload_n C 0 dX3_init_31 rfl rfl ?_
  refine A_bipush C (10 : Int32) dX3_init_32 (by decide) ?_
  refine A_icmp_ge (a := none) (b := some ()) (r := ()) C 56 dX3_init_34 (by decide) (by decide) (fun h => by cases h) (fun _ => ?_)
  refine A_aload_n C 1 dX3_init_37 rfl rfl ?_
  refine A_get (v := .ref a3) C 0 1 inG3 (ci := 3) rfl (by decide) fl_3_18 rfl rfl rfl dX3_init_38 ?_
  refine A_iload_n C 0 dX3_init_41 rfl rfl ?_
  refine A_new C tyX2 [.null, .null, .null, .int 0, .int 0, .int 0] inG2 tyX2_ok kl_3_9 ins_2 ini_2 (ci := 2) rfl df_2 (Nat.le_of_ble_eq_true rfl) (Nat.le_of_ble_eq_true rfl) dX3_init_42 (fun o14 => ?_)
  refine A_dup C dX3_init_45 rfl ?_
  refine A_inV (As := []) (rest := [.ref o14, .int (5 : Int32), .ref a3]) C (c_2_init l D t o14) mw_2_init C.2.2.2.2.1.2.2.2.2.1 im_2_init rfl (rmokC rfl rfl rfl rfl) (List.Perm.refl _) rfl rfl (Nat.le_of_ble_eq_true rfl) dX3_init_46 (fun w1 hw1 => ?_)
  obtain ⟨q15, rfl, rfl⟩ := hw1
  refine A_aast C 5 2 2 (((((((([(o, .inr (3, [.ref (q2 99), .ref a3, .int (0 : Int32)]))] ++ (wS t q2 zz)) ++ [(a3, .inl (t.2.2.1, 10, .inr (.inr (.inr (.inr (va_up (va_up (va_up (va_up (va_up (va_up (fun _ => none) (0 : Int32).toNatClampNeg (some (q5 99))) (1 : Int32).toNatClampNeg (some (q7 99))) (2 : Int32).toNatClampNeg (some (q9 99))) (3 : Int32).toNatClampNeg (some (q11 99))) (4 : Int32).toNatClampNeg (some (q13 99))) (5 : Int32).toNatClampNeg (some (q15 99))))))))]) ++ (wS t q5 zz)) ++ (wS t q7 zz)) ++ (wS t q9 zz)) ++ (wS t q11 zz)) ++ (wS t q13 zz)) ++ (wS t q15 zz)) rfl rfl (List.mem_append_right _ (List.Mem.head _)) rfl (by decide) rfl dX3_init_49 ?_
  refine A_iinc C 0 (6 : Int32) [(1, .int (6 : Int32)), (0, .ref o)] dX3_init_50 rfl (by decide) (by decide) rfl ?_
  refine A_goto C 31 dX3_init_53 (by decide) ?_
  refine A_iload_n C 0 dX3_init_31 rfl rfl ?_
  refine A_bipush C (10 : Int32) dX3_init_32 (by decide) ?_
  refine A_icmp_ge (a := none) (b := some ()) (r := ()) C 56 dX3_init_34 (by decide) (by decide) (fun h => by cases h) (fun _ => ?_)
  refine A_aload_n C 1 dX3_init_37 rfl rfl ?_
  refine A_get (v := .ref a3) C 0 1 inG3 (ci := 3) rfl (by decide) fl_3_18 rfl rfl rfl dX3_init_38 ?_
  refine A_iload_n C 0 dX3_init_41 rfl rfl ?_
  refine A_new C tyX2 [.null, .null, .null, .int 0, .int 0, .int 0] inG2 tyX2_ok kl_3_9 ins_2 ini_2 (ci := 2) rfl df_2 (Nat.le_of_ble_eq_true rfl) (Nat.le_of_ble_eq_true rfl) dX3_init_42 (fun o16 => ?_)
  refine A_dup C dX3_init_45 rfl ?_
  refine A_inV (As := []) (rest := [.ref o16, .int (6 : Int32), .ref a3]) C (c_2_init l D t o16) mw_2_init C.2.2.2.2.1.2.2.2.2.1 im_2_init rfl (rmokC rfl rfl rfl rfl) (List.Perm.refl _) rfl rfl (Nat.le_of_ble_eq_true rfl) dX3_init_46 (fun w1 hw1 => ?_)
  obtain ⟨q17, rfl, rfl⟩ := hw1
  refine A_aast C 5 2 2 ((((((((([(o, .inr (3, [.ref (q2 99), .ref a3, .int (0 : Int32)]))] ++ (wS t q2 zz)) ++ [(a3, .inl (t.2.2.1, 10, .inr (.inr (.inr (.inr (va_up (va_up (va_up (va_up (va_up (va_up (va_up (fun _ => none) (0 : Int32).toNatClampNeg (some (q5 99))) (1 : Int32).toNatClampNeg (some (q7 99))) (2 : Int32).toNatClampNeg (some (q9 99))) (3 : Int32).toNatClampNeg (some (q11 99))) (4 : Int32).toNatClampNeg (some (q13 99))) (5 : Int32).toNatClampNeg (some (q15 99))) (6 : Int32).toNatClampNeg (some (q17 99))))))))]) ++ (wS t q5 zz)) ++ (wS t q7 zz)) ++ (wS t q9 zz)) ++ (wS t q11 zz)) ++ (wS t q13 zz)) ++ (wS t q15 zz)) ++ (wS t q17 zz)) rfl rfl (List.mem_append_right _ (List.Mem.head _)) rfl (by decide) rfl dX3_init_49 ?_
  refine A_iinc C 0 (7 : Int32) [(1, .int (7 : Int32)), (0, .ref o)] dX3_init_50 rfl (by decide) (by decide) rfl ?_
  refine A_goto C 31 dX3_init_53 (by decide) ?_
  refine A_iload_n C 0 dX3_init_31 rfl rfl ?_
  refine A_bipush C (10 : Int32) dX3_init_32 (by decide) ?_
  refine A_icmp_ge (a := none) (b := some ()) (r := ()) C 56 dX3_init_34 (by decide) (by decide) (fun h => by cases h) (fun _ => ?_)
  refine A_aload_n C 1 dX3_init_37 rfl rfl ?_
  refine A_get (v := .ref a3) C 0 1 inG3 (ci := 3) rfl (by decide) fl_3_18 rfl rfl rfl dX3_init_38 ?_
  refine A_iload_n C 0 dX3_init_41 rfl rfl ?_
  refine A_new C tyX2 [.null, .null, .null, .int 0, .int 0, .int 0] inG2 tyX2_ok kl_3_9 ins_2 ini_2 (ci := 2) rfl df_2 (Nat.le_of_ble_eq_true rfl) (Nat.le_of_ble_eq_true rfl) dX3_init_42 (fun o18 => ?_)
  refine A_dup C dX3_init_45 rfl ?_
  refine A_inV (As := []) (rest := [.ref o18, .int (7 : Int32), .ref a3]) C (c_2_init l D t o18) mw_2_init C.2.2.2.2.1.2.2.2.2.1 im_2_init rfl (rmokC rfl rfl rfl rfl) (List.Perm.refl _) rfl rfl (Nat.le_of_ble_eq_true rfl) dX3_init_46 (fun w1 hw1 => ?_)
  obtain ⟨q19, rfl, rfl⟩ := hw1
  refine A_aast C 5 2 2 (((((((((([(o, .inr (3, [.ref (q2 99), .ref a3, .int (0 : Int32)]))] ++ (wS t q2 zz)) ++ [(a3, .inl (t.2.2.1, 10, .inr (.inr (.inr (.inr (va_up (va_up (va_up (va_up (va_up (va_up (va_up (va_up (fun _ => none) (0 : Int32).toNatClampNeg (some (q5 99))) (1 : Int32).toNatClampNeg (some (q7 99))) (2 : Int32).toNatClampNeg (some (q9 99))) (3 : Int32).toNatClampNeg (some (q11 99))) (4 : Int32).toNatClampNeg (some (q13 99))) (5 : Int32).toNatClampNeg (some (q15 99))) (6 : Int32).toNatClampNeg (some (q17 99))) (7 : Int32).toNatClampNeg (some (q19 99))))))))]) ++ (wS t q5 zz)) ++ (wS t q7 zz)) ++ (wS t q9 zz)) ++ (wS t q11 zz)) ++ (wS t q13 zz)) ++ (wS t q15 zz)) ++ (wS t q17 zz)) ++ (wS t q19 zz)) rfl rfl (List.mem_append_right _ (List.Mem.head _)) rfl (by decide) rfl dX3_init_49 ?_
  refine A_iinc C 0 (8 : Int32) [(1, .int (8 : Int32)), (0, .ref o)] dX3_init_50 rfl (by decide) (by decide) rfl ?_
  refine A_goto C 31 dX3_init_53 (by decide) ?_
  refine A_iload_n C 0 dX3_init_31 rfl rfl ?_
  refine A_bipush C (10 : Int32) dX3_init_32 (by decide) ?_
  refine A_icmp_ge (a := none) (b := some ()) (r := ()) C 56 dX3_init_34 (by decide) (by decide) (fun h => by cases h) (fun _ => ?_)
  refine A_aload_n C 1 dX3_init_37 rfl rfl ?_
  refine A_get (v := .ref a3) C 0 1 inG3 (ci := 3) rfl (by decide) fl_3_18 rfl rfl rfl dX3_init_38 ?_
  refine A_iload_n C 0 dX3_init_41 rfl rfl ?_
  refine A_new C tyX2 [.null, .null, .null, .int 0, .int 0, .int 0] inG2 tyX2_ok kl_3_9 ins_2 ini_2 (ci := 2) rfl df_2 (Nat.le_of_ble_eq_true rfl) (Nat.le_of_ble_eq_true rfl) dX3_init_42 (fun o20 => ?_)
  refine A_dup C dX3_init_45 rfl ?_
  refine A_inV (As := []) (rest := [.ref o20, .int (8 : Int32), .ref a3]) C (c_2_init l D t o20) mw_2_init C.2.2.2.2.1.2.2.2.2.1 im_2_init rfl (rmokC rfl rfl rfl rfl) (List.Perm.refl _) rfl rfl (Nat.le_of_ble_eq_true rfl) dX3_init_46 (fun w1 hw1 => ?_)
  obtain ⟨q21, rfl, rfl⟩ := hw1
  refine A_aast C 5 2 2 ((((((((((([(o, .inr (3, [.ref (q2 99), .ref a3, .int (0 : Int32)]))] ++ (wS t q2 zz)) ++ [(a3, .inl (t.2.2.1, 10, .inr (.inr (.inr (.inr (va_up (va_up (va_up (va_up (va_up (va_up (va_up (va_up (va_up (fun _ => none) (0 : Int32).toNatClampNeg (some (q5 99))) (1 : Int32).toNatClampNeg (some (q7 99))) (2 : Int32).toNatClampNeg (some (q9 99))) (3 : Int32).toNatClampNeg (some (q11 99))) (4 : Int32).toNatClampNeg (some (q13 99))) (5 : Int32).toNatClampNeg (some (q15 99))) (6 : Int32).toNatClampNeg (some (q17 99))) (7 : Int32).toNatClampNeg (some (q19 99))) (8 : Int32).toNatClampNeg (some (q21 99))))))))]) ++ (wS t q5 zz)) ++ (wS t q7 zz)) ++ (wS t q9 zz)) ++ (wS t q11 zz)) ++ (wS t q13 zz)) ++ (wS t q15 zz)) ++ (wS t q17 zz)) ++ (wS t q19 zz)) ++ (wS t q21 zz)) rfl rfl (List.mem_append_right _ (List.Mem.head _)) rfl (by decide) rfl dX3_init_49 ?_
  refine A_iinc C 0 (9 : Int32) [(1, .int (9 : Int32)), (0, .ref o)] dX3_init_50 rfl (by decide) (by decide) rfl ?_
  refine A_goto C 31 dX3_init_53 (by decide) ?_
  refine A_iload_n C 0 dX3_init_31 rfl rfl ?_
  refine A_bipush C (10 : Int32) dX3_init_32 (by decide) ?_
  refine A_icmp_ge (a := none) (b := some ()) (r := ()) C 56 dX3_init_34 (by decide) (by decide) (fun h => by cases h) (fun _ => ?_)
  refine A_aload_n C 1 dX3_init_37 rfl rfl ?_
  refine A_get (v := .ref a3) C 0 1 inG3 (ci := 3) rfl (by decide) fl_3_18 rfl rfl rfl dX3_init_38 ?_
  refine A_iload_n C 0 dX3_init_41 rfl rfl ?_
  refine A_new C tyX2 [.null, .null, .null, .int 0, .int 0, .int 0] inG2 tyX2_ok kl_3_9 ins_2 ini_2 (ci := 2) rfl df_2 (Nat.le_of_ble_eq_true rfl) (Nat.le_of_ble_eq_true rfl) dX3_init_42 (fun o22 => ?_)
  refine A_dup C dX3_init_45 rfl ?_
  refine A_inV (As := []) (rest := [.ref o22, .int (9 : Int32), .ref a3]) C (c_2_init l D t o22) mw_2_init C.2.2.2.2.1.2.2.2.2.1 im_2_init rfl (rmokC rfl rfl rfl rfl) (List.Perm.refl _) rfl rfl (Nat.le_of_ble_eq_true rfl) dX3_init_46 (fun w1 hw1 => ?_)
  obtain ⟨q23, rfl, rfl⟩ := hw1
  refine A_aast C 5 2 2 (((((((((((([(o, .inr (3, [.ref (q2 99), .ref a3, .int (0 : Int32)]))] ++ (wS t q2 zz)) ++ [(a3, .inl (t.2.2.1, 10, .inr (.inr (.inr (.inr (va_up (va_up (va_up (va_up (va_up (va_up (va_up (va_up (va_up (va_up (fun _ => none) (0 : Int32).toNatClampNeg (some (q5 99))) (1 : Int32).toNatClampNeg (some (q7 99))) (2 : Int32).toNatClampNeg (some (q9 99))) (3 : Int32).toNatClampNeg (some (q11 99))) (4 : Int32).toNatClampNeg (some (q13 99))) (5 : Int32).toNatClampNeg (some (q15 99))) (6 : Int32).toNatClampNeg (some (q17 99))) (7 : Int32).toNatClampNeg (some (q19 99))) (8 : Int32).toNatClampNeg (some (q21 99))) (9 : Int32).toNatClampNeg (some (q23 99))))))))]) ++ (wS t q5 zz)) ++ (wS t q7 zz)) ++ (wS t q9 zz)) ++ (wS t q11 zz)) ++ (wS t q13 zz)) ++ (wS t q15 zz)) ++ (wS t q17 zz)) ++ (wS t q19 zz)) ++ (wS t q21 zz)) ++ (wS t q23 zz)) rfl rfl (List.mem_append_right _ (List.Mem.head _)) rfl (by decide) rfl dX3_init_49 ?_
  refine A_iinc C 0 (10 : Int32) [(1, .int (10 : Int32)), (0, .ref o)] dX3_init_50 rfl (by decide) (by decide) rfl ?_
  refine A_goto C 31 dX3_init_53 (by decide) ?_
  refine A_iload_n C 0 dX3_init_31 rfl rfl ?_
  refine A_bipush C (10 : Int32) dX3_init_32 (by decide) ?_
  refine A_icmp_ge (a := some ()) (b := none) (r := ()) C 56 dX3_init_34 (by decide) (by decide) (fun _ => ?_) (fun h => by cases h)
  refine A_perm (ws' := wSt t (fun k => if k = 99 then o else a3) q2 (va_up (va_up (va_up (va_up (va_up (va_up (va_up (va_up (va_up (va_up (fun _ => none) (0 : Int32).toNatClampNeg (some (q5 99))) (1 : Int32).toNatClampNeg (some (q7 99))) (2 : Int32).toNatClampNeg (some (q9 99))) (3 : Int32).toNatClampNeg (some (q11 99))) (4 : Int32).toNatClampNeg (some (q13 99))) (5 : Int32).toNatClampNeg (some (q15 99))) (6 : Int32).toNatClampNeg (some (q17 99))) (7 : Int32).toNatClampNeg (some (q19 99))) (8 : Int32).toNatClampNeg (some (q21 99))) (9 : Int32).toNatClampNeg (some (q23 99))) (fun i => if i = 0 then q5 else if i = 1 then q7 else if i = 2 then q9 else if i = 3 then q11 else if i = 4 then q13 else if i = 5 then q15 else if i = 6 then q17 else if i = 7 then q19 else if i = 8 then q21 else if i = 9 then q23 else fun _ => 0) zz zz (fun _ => zz)) (permS [(o, .inr (3, [.ref (q2 99), .ref a3, .int 0]))] (wS t q2 zz) [(a3, .inl (t.2.2.1, 10, .inr (.inr (.inr (.inr (va_up (va_up (va_up (va_up (va_up (va_up (va_up (va_up (va_up (va_up (fun _ => none) (0 : Int32).toNatClampNeg (some (q5 99))) (1 : Int32).toNatClampNeg (some (q7 99))) (2 : Int32).toNatClampNeg (some (q9 99))) (3 : Int32).toNatClampNeg (some (q11 99))) (4 : Int32).toNatClampNeg (some (q13 99))) (5 : Int32).toNatClampNeg (some (q15 99))) (6 : Int32).toNatClampNeg (some (q17 99))) (7 : Int32).toNatClampNeg (some (q19 99))) (8 : Int32).toNatClampNeg (some (q21 99))) (9 : Int32).toNatClampNeg (some (q23 99))))))))] (wS t q5 zz ++ (wS t q7 zz ++ (wS t q9 zz ++ (wS t q11 zz ++ (wS t q13 zz ++ (wS t q15 zz ++ (wS t q17 zz ++ (wS t q19 zz ++ (wS t q21 zz ++ (wS t q23 zz))))))))))) ?_
  refine A_vret C dX3_init_56 ⟨(fun k => if k = 99 then o else a3), q2, (va_up (va_up (va_up (va_up (va_up (va_up (va_up (va_up (va_up (va_up (fun _ => none) (0 : Int32).toNatClampNeg (some (q5 99))) (1 : Int32).toNatClampNeg (some (q7 99))) (2 : Int32).toNatClampNeg (some (q9 99))) (3 : Int32).toNatClampNeg (some (q11 99))) (4 : Int32).toNatClampNeg (some (q13 99))) (5 : Int32).toNatClampNeg (some (q15 99))) (6 : Int32).toNatClampNeg (some (q17 99))) (7 : Int32).toNatClampNeg (some (q19 99))) (8 : Int32).toNatClampNeg (some (q21 99))) (9 : Int32).toNatClampNeg (some (q23 99))), (fun i => if i = 0 then q5 else if i = 1 then q7 else if i = 2 then q9 else if i = 3 then q11 else if i = 4 then q13 else if i = 5 then q15 else if i = 6 then q17 else if i = 7 then q19 else if i = 8 then q21 else if i = 9 then q23 else fun _ => 0), fun j hj => ?_, rfl, rfl⟩
  rcases (show j = 0 ∨ j = 1 ∨ j = 2 ∨ j = 3 ∨ j = 4 ∨ j = 5 ∨ j = 6 ∨ j = 7 ∨ j = 8 ∨ j = 9 by omega) with rfl | rfl | rfl | rfl | rfl | rfl | rfl | rfl | rfl | rfl <;> rfl
theorem c_5_init (l : Launch) (D : va_G) (t : ty4) (o : Nat) : MetV l yX5_init cX5_init 2 none (rmC 3 161 995) D t [.ref o] [(o, .inr (5, [.null, .null, .null, .null, .null, .null, .null, .null, .int 0, .long 0]))] (fun w => ∃ (qX qR qT qG qL qA qY qN : Nat → Nat) (im fa : Nat → Option Nat) (qp : Nat → Nat → Nat) (qZ qM : Nat → Nat → Nat) (fb : Nat → Nat → Option Nat) (qo : Nat → Nat → Nat → Nat), Fa fa qp ∧ Im im qZ fb qo ∧ qX 99 = o ∧ wX t qX qR qL qY qA im zz ++ (wRd t qR qT qG z1 ++ (wTx t qT zz ++ (wL t qG z0 ++ (wL t qL z0 ++ (wS t qA zz ++ (wY t qY qN fa zz ++ (wS t qN zz ++ (wPs t qp (fun _ => zz) r10 ++ wIm t qZ qM fb qo (fun _ => zz) (fun _ => zz) (fun _ _ => zz) r2)))))))) = w) := by
  refine MetV_of (by decide +kernel) (Nat.le_of_ble_eq_true rfl) (fun p e s m below meth c C hinit => ?_)
  refine At.start (lv2 := [(0, .ref o)]) rfl ?_
  refine A_aload_n C 0 dX5_init_0 rfl rfl ?_
  refine A_objInit C ml_5_3 (Nat.le_of_ble_eq_true rfl) (Nat.le_of_ble_eq_true rfl) dX5_init_1 ?_
  refine A_aload_n C 0 dX5_init_4 rfl rfl ?_
  refine A_new C tyX1 [.null, .null, .int 0, .int 0, .int 0, .int 0] inG1 tyX1_ok kl_5_9 ins_1 ini_1 (ci := 1) rfl df_1 (Nat.le_of_ble_eq_true rfl) (Nat.le_of_ble_eq_true rfl) dX5_init_5 (fun o1 => ?_)
  refine A_dup C dX5_init_8 rfl ?_
  refine A_inV (As := []) (rest := [.ref o1, .ref o]) C (c_1_init l D t o1) mw_1_init C.2.2.2.2.1.1 im_1_init rfl (rmokC rfl rfl rfl rfl) (List.Perm.refl _) rfl rfl (Nat.le_of_ble_eq_true rfl) dX5_init_9 (fun w1 hw1 => ?_)
  obtain ⟨q2, q3, q4, rfl, rfl⟩ := hw1
  refine A_putF C 0 0 ([(o, .inr (5, [.ref (q2 99), .null, .null, .null, .null, .null, .null, .null, .int 0, .long 0]))] ++ (wRd t q2 q3 q4 z1 ++ (wTx t q3 zz ++ wL t q4 z0))) tyX5 inG5 tyX5_ok nmX5 (ci := 5) rfl (by decide) fl_5_12 rfl rfl (hinit rfl) rfl rfl rfl rfl (Nat.le_of_ble_eq_true rfl) rfl dX5_init_12 ?_
  refine A_aload_n C 0 dX5_init_15 rfl rfl ?_
  refine A_new C tyX0 [.int 0, .int 0, .null, .null, .int 0, .null, .null, .null, .int 0, .int 0, .int 0] inG0 tyX0_ok kl_5_16 ins_0 ini_0 (ci := 0) rfl df_0 (Nat.le_of_ble_eq_true rfl) (Nat.le_of_ble_eq_true rfl) dX5_init_16 (fun o5 => ?_)
  refine A_dup C dX5_init_19 rfl ?_
  refine A_inV (As := []) (rest := [.ref o5, .ref o]) C (c_0_init l D t o5) mw_0_init C.2.2.2.2.1.2.2.2.1 im_0_init rfl (rmokC rfl rfl rfl rfl) (List.Perm.refl _) rfl rfl (Nat.le_of_ble_eq_true rfl) dX5_init_20 (fun w1 hw1 => ?_)
  obtain ⟨q6, rfl, rfl⟩ := hw1
  refine A_put C 0 1 (([(o, .inr (5, [.ref (q2 99), .ref (q6 99), .null, .null, .null, .null, .null, .null, .int 0, .long 0]))] ++ (wRd t q2 q3 q4 z1 ++ (wTx t q3 zz ++ wL t q4 z0))) ++ (wL t q6 z0)) tyX5 inG5 tyX5_ok nmX5 (ci := 5) rfl (by decide) fl_5_19 rfl rfl rfl rfl rfl (Nat.le_of_ble_eq_true rfl) rfl dX5_init_23 ?_
  refine A_aload_n C 0 dX5_init_26 rfl rfl ?_
  refine A_new C tyX3 [.null, .null, .int 0] inG3 tyX3_ok kl_5_23 ins_3 ini_3 (ci := 3) rfl df_3 (Nat.le_of_ble_eq_true rfl) (Nat.le_of_ble_eq_true rfl) dX5_init_27 (fun o7 => ?_)
  refine A_dup C dX5_init_30 rfl ?_
  refine A_iV (As := []) (rest := [.ref o7, .ref o]) C (c_3_init l D t o7) mw_3_init ml_5_25 im_3_init rfl (rmokC rfl rfl rfl rfl) (List.Perm.refl _) rfl rfl (Nat.le_of_ble_eq_true rfl) dX5_init_31 (fun w1 hw1 => ?_)
  obtain ⟨q8, q9, f10, p11, hf12, rfl, rfl⟩ := hw1
  refine A_putF C 0 2 ((([(o, .inr (5, [.ref (q2 99), .ref (q6 99), .ref (q8 99), .null, .null, .null, .null, .null, .int 0, .long 0]))] ++ (wRd t q2 q3 q4 z1 ++ (wTx t q3 zz ++ wL t q4 z0))) ++ (wL t q6 z0)) ++ (wSt t q8 q9 f10 p11 zz zz (fun _ => zz))) tyX5 inG5 tyX5_ok nmX5 (ci := 5) rfl (by decide) fl_5_26 rfl rfl (hinit rfl) rfl rfl rfl rfl (Nat.le_of_ble_eq_true rfl) rfl dX5_init_34 ?_
  refine A_aload_n C 0 dX5_init_37 rfl rfl ?_
  refine A_iconst C (2 : Int32) dX5_init_38 (by decide) ?_
  refine A_newQ3 C 2 (by decide) (by decide) (by decide) kl_5_23 (Nat.le_of_ble_eq_true rfl) (Nat.le_of_ble_eq_true rfl) dX5_init_39 (fun a13 => ?_)
  refine A_putF C 0 3 (((([(o, .inr (5, [.ref (q2 99), .ref (q6 99), .ref (q8 99), .ref a13, .null, .null, .null, .null, .int 0, .long 0]))] ++ (wRd t q2 q3 q4 z1 ++ (wTx t q3 zz ++ wL t q4 z0))) ++ (wL t q6 z0)) ++ (wSt t q8 q9 f10 p11 zz zz (fun _ => zz))) ++ [(a13, .inl (t.2.2.2, 2, .inr (.inr (.inr (.inr (fun _ => none))))))]) tyX5 inG5 tyX5_ok nmX5 (ci := 5) rfl (by decide) fl_5_30 rfl rfl (hinit rfl) rfl rfl rfl rfl (Nat.le_of_ble_eq_true rfl) rfl dX5_init_42 ?_
  refine A_aload_n C 0 dX5_init_45 rfl rfl ?_
  refine A_iconst C (2 : Int32) dX5_init_46 (by decide) ?_
  refine A_newZ C 2 (by decide) (by decide) (by decide) (Nat.le_of_ble_eq_true rfl) (Nat.le_of_ble_eq_true rfl) dX5_init_47 (fun a14 => ?_)
  refine A_putF C 0 4 ((((([(o, .inr (5, [.ref (q2 99), .ref (q6 99), .ref (q8 99), .ref a13, .ref a14, .null, .null, .null, .int 0, .long 0]))] ++ (wRd t q2 q3 q4 z1 ++ (wTx t q3 zz ++ wL t q4 z0))) ++ (wL t q6 z0)) ++ (wSt t q8 q9 f10 p11 zz zz (fun _ => zz))) ++ [(a13, .inl (t.2.2.2, 2, .inr (.inr (.inr (.inr (fun _ => none))))))]) ++ [(a14, .inl (t.2.1, 2, .inl (fun _ => 0)))]) tyX5 inG5 tyX5_ok nmX5 (ci := 5) rfl (by decide) fl_5_34 rfl rfl (hinit rfl) rfl rfl rfl rfl (Nat.le_of_ble_eq_true rfl) rfl dX5_init_49 ?_
  refine A_aload_n C 0 dX5_init_52 rfl rfl ?_
  refine A_new C tyX2 [.null, .null, .null, .int 0, .int 0, .int 0] inG2 tyX2_ok kl_5_38 ins_2 ini_2 (ci := 2) rfl df_2 (Nat.le_of_ble_eq_true rfl) (Nat.le_of_ble_eq_true rfl) dX5_init_53 (fun o15 => ?_)
  refine A_dup C dX5_init_56 rfl ?_
  refine A_inV (As := []) (rest := [.ref o15, .ref o]) C (c_2_init l D t o15) mw_2_init C.2.2.2.2.1.2.2.2.2.2.1 im_2_init rfl (rmokC rfl rfl rfl rfl) (List.Perm.refl _) rfl rfl (Nat.le_of_ble_eq_true rfl) dX5_init_57 (fun w1 hw1 => ?_)
  obtain ⟨q16, rfl, rfl⟩ := hw1
  refine A_putF C 0 5 (((((([(o, .inr (5, [.ref (q2 99), .ref (q6 99), .ref (q8 99), .ref a13, .ref a14, .ref (q16 99), .null, .null, .int 0, .long 0]))] ++ (wRd t q2 q3 q4 z1 ++ (wTx t q3 zz ++ wL t q4 z0))) ++ (wL t q6 z0)) ++ (wSt t q8 q9 f10 p11 zz zz (fun _ => zz))) ++ [(a13, .inl (t.2.2.2, 2, .inr (.inr (.inr (.inr (fun _ => none))))))]) ++ [(a14, .inl (t.2.1, 2, .inl (fun _ => 0)))]) ++ (wS t q16 zz)) tyX5 inG5 tyX5_ok nmX5 (ci := 5) rfl (by decide) fl_5_41 rfl rfl (hinit rfl) rfl rfl rfl rfl (Nat.le_of_ble_eq_true rfl) rfl dX5_init_60 ?_
  refine A_aload_n C 0 dX5_init_63 rfl rfl ?_
  refine A_bipush C (6 : Int32) dX5_init_64 (by decide) ?_
  refine A_newI C 6 (by decide) (by decide) (by decide) (Nat.le_of_ble_eq_true rfl) (Nat.le_of_ble_eq_true rfl) dX5_init_66 (fun a17 => ?_)
  refine A_putF C 0 6 ((((((([(o, .inr (5, [.ref (q2 99), .ref (q6 99), .ref (q8 99), .ref a13, .ref a14, .ref (q16 99), .ref a17, .null, .int 0, .long 0]))] ++ (wRd t q2 q3 q4 z1 ++ (wTx t q3 zz ++ wL t q4 z0))) ++ (wL t q6 z0)) ++ (wSt t q8 q9 f10 p11 zz zz (fun _ => zz))) ++ [(a13, .inl (t.2.2.2, 2, .inr (.inr (.inr (.inr (fun _ => none))))))]) ++ [(a14, .inl (t.2.1, 2, .inl (fun _ => 0)))]) ++ (wS t q16 zz)) ++ [(a17, .inl (t.1, 6, .inl (fun _ => 0)))]) tyX5 inG5 tyX5_ok nmX5 (ci := 5) rfl (by decide) fl_5_45 rfl rfl (hinit rfl) rfl rfl rfl rfl (Nat.le_of_ble_eq_true rfl) rfl dX5_init_68 ?_
  refine A_aload_n C 0 dX5_init_71 rfl rfl ?_
  refine A_bipush C (6 : Int32) dX5_init_72 (by decide) ?_
  refine A_newI C 6 (by decide) (by decide) (by decide) (Nat.le_of_ble_eq_true rfl) (Nat.le_of_ble_eq_true rfl) dX5_init_74 (fun a18 => ?_)
  refine A_putF C 0 7 (((((((([(o, .inr (5, [.ref (q2 99), .ref (q6 99), .ref (q8 99), .ref a13, .ref a14, .ref (q16 99), .ref a17, .ref a18, .int 0, .long 0]))] ++ (wRd t q2 q3 q4 z1 ++ (wTx t q3 zz ++ wL t q4 z0))) ++ (wL t q6 z0)) ++ (wSt t q8 q9 f10 p11 zz zz (fun _ => zz))) ++ [(a13, .inl (t.2.2.2, 2, .inr (.inr (.inr (.inr (fun _ => none))))))]) ++ [(a14, .inl (t.2.1, 2, .inl (fun _ => 0)))]) ++ (wS t q16 zz)) ++ [(a17, .inl (t.1, 6, .inl (fun _ => 0)))]) ++ [(a18, .inl (t.1, 6, .inl (fun _ => 0)))]) tyX5 inG5 tyX5_ok nmX5 (ci := 5) rfl (by decide) fl_5_49 rfl rfl (hinit rfl) rfl rfl rfl rfl (Nat.le_of_ble_eq_true rfl) rfl dX5_init_76 ?_
  refine A_aload_n C 0 dX5_init_79 rfl rfl ?_
  refine A_iconst C (0 : Int32) dX5_init_80 (by decide) ?_
  refine A_put C 0 8 (((((((([(o, .inr (5, [.ref (q2 99), .ref (q6 99), .ref (q8 99), .ref a13, .ref a14, .ref (q16 99), .ref a17, .ref a18, .int (0 : Int32), .long 0]))] ++ (wRd t q2 q3 q4 z1 ++ (wTx t q3 zz ++ wL t q4 z0))) ++ (wL t q6 z0)) ++ (wSt t q8 q9 f10 p11 zz zz (fun _ => zz))) ++ [(a13, .inl (t.2.2.2, 2, .inr (.inr (.inr (.inr (fun _ => none))))))]) ++ [(a14, .inl (t.2.1, 2, .inl (fun _ => 0)))]) ++ (wS t q16 zz)) ++ [(a17, .inl (t.1, 6, .inl (fun _ => 0)))]) ++ [(a18, .inl (t.1, 6, .inl (fun _ => 0)))]) tyX5 inG5 tyX5_ok nmX5 (ci := 5) rfl (by decide) fl_5_52 rfl rfl rfl rfl rfl (Nat.le_of_ble_eq_true rfl) rfl dX5_init_81 ?_
  refine A_aload_n C 0 dX5_init_84 rfl rfl ?_
  refine A_lconst C (0 : Int64) dX5_init_85 (by decide) ?_
  refine A_put C 0 9 (((((((([(o, .inr (5, [.ref (q2 99), .ref (q6 99), .ref (q8 99), .ref a13, .ref a14, .ref (q16 99), .ref a17, .ref a18, .int (0 : Int32), .long (0 : Int64)]))] ++ (wRd t q2 q3 q4 z1 ++ (wTx t q3 zz ++ wL t q4 z0))) ++ (wL t q6 z0)) ++ (wSt t q8 q9 f10 p11 zz zz (fun _ => zz))) ++ [(a13, .inl (t.2.2.2, 2, .inr (.inr (.inr (.inr (fun _ => none))))))]) ++ [(a14, .inl (t.2.1, 2, .inl (fun _ => 0)))]) ++ (wS t q16 zz)) ++ [(a17, .inl (t.1, 6, .inl (fun _ => 0)))]) ++ [(a18, .inl (t.1, 6, .inl (fun _ => 0)))]) tyX5 inG5 tyX5_ok nmX5 (ci := 5) rfl (by decide) fl_5_56 rfl rfl rfl rfl rfl (Nat.le_of_ble_eq_true rfl) rfl dX5_init_86 ?_
  refine A_iconst C (0 : Int32) dX5_init_89 (by decide) ?_
  refine A_istore_n C [(1, .int (0 : Int32)), (0, .ref o)] dX5_init_90 rfl (by decide) rfl ?_
  refine A_iload_n C 0 dX5_init_91 rfl rfl ?_
  refine A_iconst C (2 : Int32) dX5_init_92 (by decide) ?_
  refine A_icmp_ge (a := none) (b := some ()) (r := ()) C 115 dX5_init_93 (by decide) (by decide) (fun h => by cases h) (fun _ => ?_)
  refine A_aload_n C 1 dX5_init_96 rfl rfl ?_
  refine A_get (v := .ref a13) C 0 3 inG5 (ci := 5) rfl (by decide) fl_5_30 rfl rfl rfl dX5_init_97 ?_
  refine A_iload_n C 0 dX5_init_100 rfl rfl ?_
  refine A_new C tyX3 [.null, .null, .int 0] inG3 tyX3_ok kl_5_23 ins_3 ini_3 (ci := 3) rfl df_3 (Nat.le_of_ble_eq_true rfl) (Nat.le_of_ble_eq_true rfl) dX5_init_101 (fun o19 => ?_)
  refine A_dup C dX5_init_104 rfl ?_
  refine A_iV (As := []) (rest := [.ref o19, .int (0 : Int32), .ref a13]) C (c_3_init l D t o19) mw_3_init ml_5_25 im_3_init rfl (rmokC rfl rfl rfl rfl) (List.Perm.refl _) rfl rfl (Nat.le_of_ble_eq_true rfl) dX5_init_105 (fun w1 hw1 => ?_)
  obtain ⟨q20, q21, f22, p23, hf24, rfl, rfl⟩ := hw1
  refine A_aast C 62 3 3 ((((((((([(o, .inr (5, [.ref (q2 99), .ref (q6 99), .ref (q8 99), .ref a13, .ref a14, .ref (q16 99), .ref a17, .ref a18, .int (0 : Int32), .long (0 : Int64)]))] ++ (wRd t q2 q3 q4 z1 ++ (wTx t q3 zz ++ wL t q4 z0))) ++ (wL t q6 z0)) ++ (wSt t q8 q9 f10 p11 zz zz (fun _ => zz))) ++ [(a13, .inl (t.2.2.2, 2, .inr (.inr (.inr (.inr (va_up (fun _ => none) (0 : Int32).toNatClampNeg (some (q20 99))))))))]) ++ [(a14, .inl (t.2.1, 2, .inl (fun _ => 0)))]) ++ (wS t q16 zz)) ++ [(a17, .inl (t.1, 6, .inl (fun _ => 0)))]) ++ [(a18, .inl (t.1, 6, .inl (fun _ => 0)))]) ++ (wSt t q20 q21 f22 p23 zz zz (fun _ => zz))) rfl rfl (List.mem_append_right _ (List.Mem.head _)) rfl (by decide) rfl dX5_init_108 ?_
  refine A_iinc C 0 (1 : Int32) [(1, .int (1 : Int32)), (0, .ref o)] dX5_init_109 rfl (by decide) (by decide) rfl ?_
  refine A_goto C 91 dX5_init_112 (by decide) ?_
  refine A_iload_n C 0 dX5_init_91 rfl rfl ?_
  refine A_iconst C (2 : Int32) dX5_init_92 (by decide) ?_
  refine A_icmp_ge (a := none) (b := some ()) (r := ()) C 115 dX5_init_93 (by decide) (by decide) (fun h => by cases h) (fun _ => ?_)
  refine A_aload_n C 1 dX5_init_96 rfl rfl ?_
  refine A_get (v := .ref a13) C 0 3 inG5 (ci := 5) rfl (by decide) fl_5_30 rfl rfl rfl dX5_init_97 ?_
  refine A_iload_n C 0 dX5_init_100 rfl rfl ?_
  refine A_new C tyX3 [.null, .null, .int 0] inG3 tyX3_ok kl_5_23 ins_3 ini_3 (ci := 3) rfl df_3 (Nat.le_of_ble_eq_true rfl) (Nat.le_of_ble_eq_true rfl) dX5_init_101 (fun o25 => ?_)
  refine A_dup C dX5_init_104 rfl ?_
  refine A_iV (As := []) (rest := [.ref o25, .int (1 : Int32), .ref a13]) C (c_3_init l D t o25) mw_3_init ml_5_25 im_3_init rfl (rmokC rfl rfl rfl rfl) (List.Perm.refl _) rfl rfl (Nat.le_of_ble_eq_true rfl) dX5_init_105 (fun w1 hw1 => ?_)
  obtain ⟨q26, q27, f28, p29, hf30, rfl, rfl⟩ := hw1
  refine A_aast C 62 3 3 (((((((((([(o, .inr (5, [.ref (q2 99), .ref (q6 99), .ref (q8 99), .ref a13, .ref a14, .ref (q16 99), .ref a17, .ref a18, .int (0 : Int32), .long (0 : Int64)]))] ++ (wRd t q2 q3 q4 z1 ++ (wTx t q3 zz ++ wL t q4 z0))) ++ (wL t q6 z0)) ++ (wSt t q8 q9 f10 p11 zz zz (fun _ => zz))) ++ [(a13, .inl (t.2.2.2, 2, .inr (.inr (.inr (.inr (va_up (va_up (fun _ => none) (0 : Int32).toNatClampNeg (some (q20 99))) (1 : Int32).toNatClampNeg (some (q26 99))))))))]) ++ [(a14, .inl (t.2.1, 2, .inl (fun _ => 0)))]) ++ (wS t q16 zz)) ++ [(a17, .inl (t.1, 6, .inl (fun _ => 0)))]) ++ [(a18, .inl (t.1, 6, .inl (fun _ => 0)))]) ++ (wSt t q20 q21 f22 p23 zz zz (fun _ => zz))) ++ (wSt t q26 q27 f28 p29 zz zz (fun _ => zz))) rfl rfl (List.mem_append_right _ (List.Mem.head _)) rfl (by decide) rfl dX5_init_108 ?_
  refine A_iinc C 0 (2 : Int32) [(1, .int (2 : Int32)), (0, .ref o)] dX5_init_109 rfl (by decide) (by decide) rfl ?_
  refine A_goto C 91 dX5_init_112 (by decide) ?_
  refine A_iload_n C 0 dX5_init_91 rfl rfl ?_
  refine A_iconst C (2 : Int32) dX5_init_92 (by decide) ?_
  refine A_icmp_ge (a := some ()) (b := none) (r := ()) C 115 dX5_init_93 (by decide) (by decide) (fun _ => ?_) (fun h => by cases h)
  refine A_perm (ws' := wX t (fun k => if k = 99 then o else if k = 3 then a13 else if k = 4 then a14 else if k = 6 then a17 else if k = 7 then a18 else 0) q2 q6 q8 q16 (va_up (va_up (fun _ => none) (0 : Int32).toNatClampNeg (some (q20 99))) (1 : Int32).toNatClampNeg (some (q26 99))) zz ++ (wRd t q2 q3 q4 z1 ++ (wTx t q3 zz ++ (wL t q4 z0 ++ (wL t q6 z0 ++ (wS t q16 zz ++ (wY t q8 q9 f10 zz ++ (wS t q9 zz ++ (wPs t p11 (fun _ => zz) r10 ++ wIm t (fun i => if i = 0 then q20 else q26) (fun i => if i = 0 then q21 else q27) (fun i => if i = 0 then f22 else f28) (fun i => if i = 0 then p23 else p29) (fun _ => zz) (fun _ => zz) (fun _ _ => zz) r2))))))))) (permX [(o, .inr (5, [.ref (q2 99), .ref (q6 99), .ref (q8 99), .ref a13, .ref a14, .ref (q16 99), .ref a17, .ref a18, .int (0 : Int32), .long (0 : Int64)]))] [(a13, .inl (t.2.2.2, 2, .inr (.inr (.inr (.inr (va_up (va_up (fun _ => none) (0 : Int32).toNatClampNeg (some (q20 99))) (1 : Int32).toNatClampNeg (some (q26 99))))))))] [(a14, .inl (t.2.1, 2, .inl (fun _ => 0)))] [(a17, .inl (t.1, 6, .inl (fun _ => 0)))] [(a18, .inl (t.1, 6, .inl (fun _ => 0)))] (wRd t q2 q3 q4 z1) (wTx t q3 zz) (wL t q4 z0) (wL t q6 z0) (wS t q16 zz) (wY t q8 q9 f10 zz) (wS t q9 zz) (wPs t p11 (fun _ => zz) r10) (wSt t q20 q21 f22 p23 zz zz (fun _ => zz)) (wSt t q26 q27 f28 p29 zz zz (fun _ => zz)) ) ?_
  refine A_vret C dX5_init_115 ⟨(fun k => if k = 99 then o else if k = 3 then a13 else if k = 4 then a14 else if k = 6 then a17 else if k = 7 then a18 else 0), q2, q3, q4, q6, q16, q8, q9, (va_up (va_up (fun _ => none) (0 : Int32).toNatClampNeg (some (q20 99))) (1 : Int32).toNatClampNeg (some (q26 99))), f10, p11, (fun i => if i = 0 then q20 else q26), (fun i => if i = 0 then q21 else q27), (fun i => if i = 0 then f22 else f28), (fun i => if i = 0 then p23 else p29), hf12, fun j hj => ?_, rfl, rfl⟩
  rcases (show j = 0 ∨ j = 1 by omega) with rfl | rfl
  · exact ⟨rfl, hf24⟩
  · exact ⟨rfl, hf30⟩
