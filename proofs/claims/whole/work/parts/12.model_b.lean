section
variable {p : Program} {l : Launch} {e : Env} {s : State} {m : MethodId} {args : Array Value} {below : List Frame} {meth : Method} {c : Code} {D : va_G} {w0 : va_W} {t : ty4}
def f_6_lendsOf_41 (bM : BV) (x3 : Int32) : Option (Int32) :=
  ck (inb (3 : Int32) 79) (some ((gA bM 7 (3 : Int32)) * x3))
theorem t_6_lendsOf_41 (C : CX p s m args meth c cX6_lendsOf 5 (some .int) RX6 D t) (qM : Nat → Nat) (bM : BV) (r : Int32) (x3 : Int32) (h0 : f_6_lendsOf_41 bM x3 = some r) : At p l e (rmD 1) s m args below meth c D 5 w0 (QI below args s D w0 (fun x w => r = x ∧ (wM t qM bM) = w) 0 0) 0 0 41 [(0, .ref (qM 99)), (3, .int x3)] [] (wM t qM bM) := by
  unfold f_6_lendsOf_41 at h0
  refine A_aload_n C 0 dX6_lendsOf_41 rfl rfl ?_
  refine A_get (v := .ref (qM 7)) C 0 7 inG6 (ci := 6) rfl (by decide) fl_6_16 rfl rfl rfl dX6_lendsOf_42 ?_
  refine A_iconst C (3 : Int32) dX6_lendsOf_45 (by decide) ?_
  refine A_iald C 3 (gA bM 7 (3 : Int32)) rfl rfl dX6_lendsOf_46 h0 (fun h0 => ?_)
  refine A_iload_n C 1 dX6_lendsOf_47 rfl rfl ?_
  refine A_imul C dX6_lendsOf_48 ?_
  have h0 := Option.some.inj h0
  subst h0
  exact A_iret C dX6_lendsOf_49 ⟨rfl, rfl⟩
def f_6_lendsOf_5_b (bM : BV) (k5 : Int32 → Int32 → Int32 → Int32 → Option (Int32)) (x1 : Int32) (x2 : Int32) (x3 : Int32) (x4 : Int32) : Option (Int32) :=
  if (x1 + x2) ≤ x4 then (f_6_lendsOf_41 bM x3) else ((f_6_days bM).bind (fun z1 => if z1 ≤ x4 then (f_6_lendsOf_41 bM x3) else (ck (inb ((7 : Int32) + x4) 79) (k5 x1 x2 (x3 + (gA bM 7 ((7 : Int32) + x4))) (x4 + (1 : Int32))))))
theorem t_6_lendsOf_5_b (C : CX p s m args meth c cX6_lendsOf 5 (some .int) RX6 D t) (qM : Nat → Nat) (bM : BV) (r : Int32) (k5 : Int32 → Int32 → Int32 → Int32 → Option (Int32)) (K5 : ∀ (x1 : Int32) (x2 : Int32) (x3 : Int32) (x4 : Int32), k5 x1 x2 x3 x4 = some r → At p l e (rmD 1) s m args below meth c D 5 w0 (QI below args s D w0 (fun x w => r = x ∧ (wM t qM bM) = w) 0 0) 0 0 5 [(0, .ref (qM 99)), (1, .int x1), (2, .int x2), (3, .int x3), (4, .int x4)] [] (wM t qM bM)) (x1 : Int32) (x2 : Int32) (x3 : Int32) (x4 : Int32) (h0 : f_6_lendsOf_5_b bM k5 x1 x2 x3 x4 = some r) : At p l e (rmD 1) s m args below meth c D 5 w0 (QI below args s D w0 (fun x w => r = x ∧ (wM t qM bM) = w) 0 0) 0 0 5 [(0, .ref (qM 99)), (1, .int x1), (2, .int x2), (3, .int x3), (4, .int x4)] [] (wM t qM bM) := by
  unfold f_6_lendsOf_5_b at h0
  refine A_iload C 4 dX6_lendsOf_5 rfl ?_
  refine A_iload_n C 1 dX6_lendsOf_7 rfl rfl ?_
  refine A_iload_n C 2 dX6_lendsOf_8 rfl rfl ?_
  refine A_iadd C dX6_lendsOf_9 ?_
  refine A_icmp_ge C 41 dX6_lendsOf_10 (by decide) h0 (fun h0 => ?_) (fun h0 => ?_)
  · exact A_loc [0, 3] rfl (t_6_lendsOf_41 C qM bM r x3 h0)
  · refine A_iload C 4 dX6_lendsOf_13 rfl ?_
    refine A_aload_n C 0 dX6_lendsOf_15 rfl rfl ?_
    obtain ⟨z1, hz1, h0⟩ := bind_some h0
    refine A_vI (As := []) (rest := [.int x4]) C 0 (c_6_days l D t qM bM hz1) mw_6_days ml_6_116 im_6_days sl_6_days (rmok rfl rfl) (cut0 (wM t qM bM)) rfl (ci := 6) rfl rfl rfl (Nat.le_of_ble_eq_true rfl) dX6_lendsOf_16 (fun x w1 hw1 => ?_)
    obtain ⟨rfl, rfl⟩ := hw1
    refine A_perm (ws' := (wM t qM bM)) ((cut0 _).symm) ?_
    refine A_icmp_ge C 41 dX6_lendsOf_19 (by decide) h0 (fun h0 => ?_) (fun h0 => ?_)
    · exact A_loc [0, 3] rfl (t_6_lendsOf_41 C qM bM r x3 h0)
    · refine A_iload_n C 3 dX6_lendsOf_22 rfl rfl ?_
      refine A_aload_n C 0 dX6_lendsOf_23 rfl rfl ?_
      refine A_get (v := .ref (qM 7)) C 0 7 inG6 (ci := 6) rfl (by decide) fl_6_16 rfl rfl rfl dX6_lendsOf_24 ?_
      refine A_bipush C (7 : Int32) dX6_lendsOf_27 (by decide) ?_
      refine A_iload C 4 dX6_lendsOf_29 rfl ?_
      refine A_iadd C dX6_lendsOf_31 ?_
      refine A_iald C 3 (gA bM 7 ((7 : Int32) + x4)) rfl rfl dX6_lendsOf_32 h0 (fun h0 => ?_)
      refine A_iadd C dX6_lendsOf_33 ?_
      refine A_istore_n C [(3, .int (x3 + (gA bM 7 ((7 : Int32) + x4)))), (0, .ref (qM 99)), (1, .int x1), (2, .int x2), (4, .int x4)] dX6_lendsOf_34 rfl (by decide) rfl ?_
      refine A_iinc C 4 (x4 + (1 : Int32)) [(4, .int (x4 + (1 : Int32))), (3, .int (x3 + (gA bM 7 ((7 : Int32) + x4)))), (0, .ref (qM 99)), (1, .int x1), (2, .int x2)] dX6_lendsOf_35 rfl rfl (by decide) rfl ?_
      refine A_goto C 5 dX6_lendsOf_38 (by decide) ?_
      exact A_loc [2, 3, 4, 1, 0] rfl (K5 x1 x2 (x3 + (gA bM 7 ((7 : Int32) + x4))) (x4 + (1 : Int32)) h0)
def f_6_lendsOf_5 (bM : BV) : Nat → Int32 → Int32 → Int32 → Int32 → Option (Int32)
  | 0 => fun _ _ _ _ => none
  | n + 1 => f_6_lendsOf_5_b bM (f_6_lendsOf_5 bM n)
theorem t_6_lendsOf_5 (C : CX p s m args meth c cX6_lendsOf 5 (some .int) RX6 D t) (qM : Nat → Nat) (bM : BV) (r : Int32) : ∀ (n : Nat), ∀ (x1 : Int32) (x2 : Int32) (x3 : Int32) (x4 : Int32), f_6_lendsOf_5 bM n x1 x2 x3 x4 = some r → At p l e (rmD 1) s m args below meth c D 5 w0 (QI below args s D w0 (fun x w => r = x ∧ (wM t qM bM) = w) 0 0) 0 0 5 [(0, .ref (qM 99)), (1, .int x1), (2, .int x2), (3, .int x3), (4, .int x4)] [] (wM t qM bM) := by
  intro n
  induction n with
  | zero =>
    intro x1 x2 x3 x4 h0
    have h0 : none = some r := h0
    cases h0
  | succ n ih =>
    intro x1 x2 x3 x4 h0
    exact t_6_lendsOf_5_b C qM bM r _ ih x1 x2 x3 x4 h0
def f_6_lendsOf (bM : BV) (x1 : Int32) (x2 : Int32) : Option (Int32) :=
  f_6_lendsOf_5 bM 200 x1 x2 (0 : Int32) x1
theorem c_6_lendsOf (l : Launch) (D : va_G) (t : ty4) (qM : Nat → Nat) (bM : BV) (x1 : Int32) (x2 : Int32) {r : Int32} (h0 : f_6_lendsOf bM x1 x2 = some r) : MetI l yX6_lendsOf cX6_lendsOf 5 (some .int) (rmD 1) D t [.ref (qM 99), .int x1, .int x2] (wM t qM bM) (fun x w => r = x ∧ (wM t qM bM) = w) := by
  refine MetI_of (by decide +kernel) (Nat.le_of_ble_eq_true rfl) (fun p e s m below meth c C _ => ?_)
  unfold f_6_lendsOf at h0
  generalize hargs : (List.toArray [.ref (qM 99), .int x1, .int x2] : Array Value) = args at C ⊢
  refine At.start (lv2 := [(0, .ref (qM 99)), (1, .int x1), (2, .int x2)]) rfl ?_
  refine A_iconst C (0 : Int32) dX6_lendsOf_0 (by decide) ?_
  refine A_istore_n C [(3, .int (0 : Int32)), (0, .ref (qM 99)), (1, .int x1), (2, .int x2)] dX6_lendsOf_1 rfl (by decide) rfl ?_
  refine A_iload_n C 2 dX6_lendsOf_2 rfl rfl ?_
  refine A_istore C [(4, .int x1), (3, .int (0 : Int32)), (0, .ref (qM 99)), (1, .int x1), (2, .int x2)] dX6_lendsOf_3 (by decide) rfl ?_
  exact A_loc [2, 3, 4, 1, 0] rfl (t_6_lendsOf_5 C qM bM r 200 x1 x2 (0 : Int32) x1 h0)
def f_6_isFree_28 (bM : BV) (y0 : Int32) : Option (Int32) :=
  ck (isb y0) (some y0)
theorem t_6_isFree_28 (C : CX p s m args meth c cX6_isFree 3 (some .boolean) RX6 D t) (qM : Nat → Nat) (bM : BV) (r : Int32) (y0 : Int32) (h0 : f_6_isFree_28 bM y0 = some r) : At p l e (rmD 3) s m args below meth c D 3 w0 (QI below args s D w0 (fun x w => r = x ∧ (wM t qM bM) = w) 0 0) 0 0 28 [] [.int y0] (wM t qM bM) := by
  unfold f_6_isFree_28 at h0
  obtain ⟨hz, h0⟩ := ck_some h0
  have h0 := Option.some.inj h0
  subst h0
  exact A_zret C dX6_isFree_28 hz ⟨rfl, rfl⟩
def f_6_isFree_27 (bM : BV) : Option (Int32) :=
  f_6_isFree_28 bM (0 : Int32)
theorem t_6_isFree_27 (C : CX p s m args meth c cX6_isFree 3 (some .boolean) RX6 D t) (qM : Nat → Nat) (bM : BV) (r : Int32) (h0 : f_6_isFree_27 bM = some r) : At p l e (rmD 3) s m args below meth c D 3 w0 (QI below args s D w0 (fun x w => r = x ∧ (wM t qM bM) = w) 0 0) 0 0 27 [] [] (wM t qM bM) := by
  unfold f_6_isFree_27 at h0
  refine A_iconst C (0 : Int32) dX6_isFree_27 (by decide) ?_
  exact A_loc [] rfl (t_6_isFree_28 C qM bM r (0 : Int32) h0)
def f_6_isFree (bM : BV) (x1 : Int32) (x2 : Int32) : Option (Int32) :=
  (f_6_days bM).bind (fun z1 => if z1 < (x1 + x2) then (f_6_isFree_27 bM) else ((f_6_row x1 x2).bind (fun z2 => (f_6_notIn bM).bind (fun z3 => if (z2 &&& z3) = 0 then (f_6_isFree_28 bM (1 : Int32)) else (f_6_isFree_27 bM)))))
theorem c_6_isFree (l : Launch) (D : va_G) (t : ty4) (qM : Nat → Nat) (bM : BV) (x1 : Int32) (x2 : Int32) {r : Int32} (h0 : f_6_isFree bM x1 x2 = some r) : MetI l yX6_isFree cX6_isFree 3 (some .boolean) (rmD 3) D t [.ref (qM 99), .int x1, .int x2] (wM t qM bM) (fun x w => r = x ∧ (wM t qM bM) = w) := by
  refine MetI_of (by decide +kernel) (Nat.le_of_ble_eq_true rfl) (fun p e s m below meth c C _ => ?_)
  unfold f_6_isFree at h0
  generalize hargs : (List.toArray [.ref (qM 99), .int x1, .int x2] : Array Value) = args at C ⊢
  refine At.start (lv2 := [(0, .ref (qM 99)), (1, .int x1), (2, .int x2)]) rfl ?_
  refine A_iload_n C 1 dX6_isFree_0 rfl rfl ?_
  refine A_iload_n C 2 dX6_isFree_1 rfl rfl ?_
  refine A_iadd C dX6_isFree_2 ?_
  refine A_aload_n C 0 dX6_isFree_3 rfl rfl ?_
  obtain ⟨z1, hz1, h0⟩ := bind_some h0
  refine A_vI (As := []) (rest := [.int (x1 + x2)]) C 0 (c_6_days l D t qM bM hz1) mw_6_days ml_6_116 im_6_days sl_6_days (rmok rfl rfl) (cut0 (wM t qM bM)) rfl (ci := 6) rfl rfl rfl (Nat.le_of_ble_eq_true rfl) dX6_isFree_4 (fun x w1 hw1 => ?_)
  obtain ⟨rfl, rfl⟩ := hw1
  refine A_perm (ws' := (wM t qM bM)) ((cut0 _).symm) ?_
  refine A_icmp_gt C 27 dX6_isFree_7 (by decide) h0 (fun h0 => ?_) (fun h0 => ?_)
  · exact A_loc [] rfl (t_6_isFree_27 C qM bM r h0)
  · refine A_iload_n C 1 dX6_isFree_10 rfl rfl ?_
    refine A_iload_n C 2 dX6_isFree_11 rfl rfl ?_
    obtain ⟨z2, hz2, h0⟩ := bind_some h0
    refine A_sI (As := [.int x1, .int x2]) (rest := []) C (c_6_row l D t x1 x2 hz2) mw_6_row ml_6_152 st_6_row (rmok rfl rfl) (cutN (wM t qM bM)) rfl rfl (Nat.le_of_ble_eq_true rfl) dX6_isFree_12 (fun x w1 hw1 => ?_)
    obtain ⟨rfl, rfl⟩ := hw1
    refine A_perm (ws' := (wM t qM bM)) ((cutN _).symm) ?_
    refine A_aload_n C 0 dX6_isFree_15 rfl rfl ?_
    obtain ⟨z3, hz3, h0⟩ := bind_some h0
    refine A_vI (As := []) (rest := [.int z2]) C 0 (c_6_notIn l D t qM bM hz3) mw_6_notIn ml_6_144 im_6_notIn sl_6_notIn (rmok rfl rfl) (cut0 (wM t qM bM)) rfl (ci := 6) rfl rfl rfl (Nat.le_of_ble_eq_true rfl) dX6_isFree_16 (fun x w1 hw1 => ?_)
    obtain ⟨rfl, rfl⟩ := hw1
    refine A_perm (ws' := (wM t qM bM)) ((cut0 _).symm) ?_
    refine A_iand C dX6_isFree_19 ?_
    refine A_if_ne C 27 dX6_isFree_20 (by decide) h0 (fun h0 => ?_) (fun h0 => ?_)
    · exact A_loc [] rfl (t_6_isFree_27 C qM bM r h0)
    · refine A_iconst C (1 : Int32) dX6_isFree_23 (by decide) ?_
      refine A_goto C 28 dX6_isFree_24 (by decide) ?_
      exact A_loc [] rfl (t_6_isFree_28 C qM bM r (1 : Int32) h0)
def f_6_pawns_57 (bM : BV) : Option (Int32 × BV) :=
  some ((-2 : Int32), bM)
theorem t_6_pawns_57 (C : CX p s m args meth c cX6_pawns 5 (some .int) RX6 D t) (qM : Nat → Nat) (r : Int32 × BV) (bM : BV) (h0 : f_6_pawns_57 bM = some r) : At p l e (rmD 4) s m args below meth c D 5 w0 (QI below args s D w0 (fun x w => r.1 = x ∧ (wM t qM r.2) = w) 0 0) 0 0 57 [] [] (wM t qM bM) := by
  unfold f_6_pawns_57 at h0
  refine A_bipush C (-2 : Int32) dX6_pawns_57 (by decide) ?_
  have h0 := Option.some.inj h0
  subst h0
  exact A_iret C dX6_pawns_59 ⟨rfl, rfl⟩
def f_6_pawns_43 (bM : BV) (x1 : Int32) (x2 : Int32) (x3 : Int32) : Option (Int32 × BV) :=
  (f_6_isFree bM x1 x2).bind (fun z1 => if z1 = 0 then (f_6_pawns_57 bM) else (if x3 = (4 : Int32) then (f_6_pawns_57 bM) else ((f_6_notes bM).bind (fun z2 => (f_6_lendsOf z2 x1 x2).bind (fun z3 => (f_6_row x1 x2).bind (fun z4 => ck (inb ((3 : Int32) + ((3 : Int32) * x3)) 15) (bs (pA z2 8 ((3 : Int32) + ((3 : Int32) * x3)) z4) (fun b5 => ck (inb (((3 : Int32) + ((3 : Int32) * x3)) + (1 : Int32)) 15) (bs (pA b5 8 (((3 : Int32) + ((3 : Int32) * x3)) + (1 : Int32)) z3) (fun b6 => ck (inb (((3 : Int32) + ((3 : Int32) * x3)) + (2 : Int32)) 15) (bs (pA b6 8 (((3 : Int32) + ((3 : Int32) * x3)) + (2 : Int32)) (0 : Int32)) (fun b7 => ck (inb (0 : Int32) 15) (ck (inb (0 : Int32) 15) (bs (pA b7 8 (0 : Int32) ((gA b7 8 (0 : Int32)) + z3)) (fun b8 => some (z3, b8))))))))))))))))
theorem t_6_pawns_43 (C : CX p s m args meth c cX6_pawns 5 (some .int) RX6 D t) (qM : Nat → Nat) (r : Int32 × BV) (bM : BV) (x1 : Int32) (x2 : Int32) (x3 : Int32) (h0 : f_6_pawns_43 bM x1 x2 x3 = some r) : At p l e (rmD 4) s m args below meth c D 5 w0 (QI below args s D w0 (fun x w => r.1 = x ∧ (wM t qM r.2) = w) 0 0) 0 0 43 [(0, .ref (qM 99)), (1, .int x1), (2, .int x2), (3, .int x3)] [] (wM t qM bM) := by
  unfold f_6_pawns_43 at h0
  refine A_aload_n C 0 dX6_pawns_43 rfl rfl ?_
  refine A_iload_n C 1 dX6_pawns_44 rfl rfl ?_
  refine A_iload_n C 2 dX6_pawns_45 rfl rfl ?_
  obtain ⟨z1, hz1, h0⟩ := bind_some h0
  refine A_vI (As := [.int x1, .int x2]) (rest := []) C 0 (c_6_isFree l D t qM bM x1 x2 hz1) mw_6_isFree ml_6_157 im_6_isFree sl_6_isFree (rmok rfl rfl) (cut0 (wM t qM bM)) rfl (ci := 6) rfl rfl rfl (Nat.le_of_ble_eq_true rfl) dX6_pawns_46 (fun x w1 hw1 => ?_)
  obtain ⟨rfl, rfl⟩ := hw1
  refine A_perm (ws' := (wM t qM bM)) ((cut0 _).symm) ?_
  refine A_if_eq C 57 dX6_pawns_49 (by decide) h0 (fun h0 => ?_) (fun h0 => ?_)
  · exact A_loc [] rfl (t_6_pawns_57 C qM r bM h0)
  · refine A_iload_n C 3 dX6_pawns_52 rfl rfl ?_
    refine A_iconst C (4 : Int32) dX6_pawns_53 (by decide) ?_
    refine A_icmp_ne C 60 dX6_pawns_54 (by decide) h0 (fun h0 => ?_) (fun h0 => ?_)
    · refine A_aload_n C 0 dX6_pawns_60 rfl rfl ?_
      obtain ⟨z2, hz2, h0⟩ := bind_some h0
      refine A_vV (As := []) (rest := []) C 0 (c_6_notes l D t qM bM hz2) mw_6_notes ml_6_160 im_6_notes sl_6_notes (rmok rfl rfl) (cut0 (wM t qM bM)) rfl (ci := 6) rfl rfl rfl (Nat.le_of_ble_eq_true rfl) dX6_pawns_61 (fun w1 hw1 => ?_)
      subst hw1
      refine A_perm (ws' := (wM t qM z2)) ((cut0 _).symm) ?_
      refine A_aload_n C 0 dX6_pawns_64 rfl rfl ?_
      refine A_iload_n C 1 dX6_pawns_65 rfl rfl ?_
      refine A_iload_n C 2 dX6_pawns_66 rfl rfl ?_
      obtain ⟨z3, hz3, h0⟩ := bind_some h0
      refine A_vI (As := [.int x1, .int x2]) (rest := []) C 0 (c_6_lendsOf l D t qM z2 x1 x2 hz3) mw_6_lendsOf ml_6_163 im_6_lendsOf sl_6_lendsOf (rmok rfl rfl) (cut0 (wM t qM z2)) rfl (ci := 6) rfl rfl rfl (Nat.le_of_ble_eq_true rfl) dX6_pawns_67 (fun x w1 hw1 => ?_)
      obtain ⟨rfl, rfl⟩ := hw1
      refine A_perm (ws' := (wM t qM z2)) ((cut0 _).symm) ?_
      refine A_istore C [(4, .int z3), (0, .ref (qM 99)), (1, .int x1), (2, .int x2), (3, .int x3)] dX6_pawns_70 (by decide) rfl ?_
      refine A_aload_n C 1 dX6_pawns_72 rfl rfl ?_
      refine A_get (v := .ref (qM 8)) C 0 8 inG6 (ci := 6) rfl (by decide) fl_6_19 rfl rfl rfl dX6_pawns_73 ?_
      refine A_iconst C (3 : Int32) dX6_pawns_76 (by decide) ?_
      refine A_iconst C (3 : Int32) dX6_pawns_77 (by decide) ?_
      refine A_iload_n C 4 dX6_pawns_78 rfl rfl ?_
      refine A_imul C dX6_pawns_79 ?_
      refine A_iadd C dX6_pawns_80 ?_
      refine A_iload_n C 2 dX6_pawns_81 rfl rfl ?_
      refine A_iload_n C 3 dX6_pawns_82 rfl rfl ?_
      obtain ⟨z4, hz4, h0⟩ := bind_some h0
      refine A_sI (As := [.int x1, .int x2]) (rest := [.int ((3 : Int32) + ((3 : Int32) * x3)), .ref (qM 8)]) C (c_6_row l D t x1 x2 hz4) mw_6_row ml_6_152 st_6_row (rmok rfl rfl) (cutN (wM t qM z2)) rfl rfl (Nat.le_of_ble_eq_true rfl) dX6_pawns_83 (fun x w1 hw1 => ?_)
      obtain ⟨rfl, rfl⟩ := hw1
      refine A_perm (ws' := (wM t qM z2)) ((cutN _).symm) ?_
      refine A_iast C 4 (wM t qM (pA z2 8 ((3 : Int32) + ((3 : Int32) * x3)) z4)) rfl rfl dX6_pawns_86 h0 (fun h0 => ?_)
      obtain ⟨b5, hb5, h0⟩ := bs_some h0
      refine A_weq (wM t qM b5) (by rw [hb5]) ?_
      refine A_aload_n C 1 dX6_pawns_87 rfl rfl ?_
      refine A_get (v := .ref (qM 8)) C 0 8 inG6 (ci := 6) rfl (by decide) fl_6_19 rfl rfl rfl dX6_pawns_88 ?_
      refine A_iconst C (3 : Int32) dX6_pawns_91 (by decide) ?_
      refine A_iconst C (3 : Int32) dX6_pawns_92 (by decide) ?_
      refine A_iload_n C 4 dX6_pawns_93 rfl rfl ?_
      refine A_imul C dX6_pawns_94 ?_
      refine A_iadd C dX6_pawns_95 ?_
      refine A_iconst C (1 : Int32) dX6_pawns_96 (by decide) ?_
      refine A_iadd C dX6_pawns_97 ?_
      refine A_iload C 0 dX6_pawns_98 rfl ?_
      refine A_iast C 4 (wM t qM (pA b5 8 (((3 : Int32) + ((3 : Int32) * x3)) + (1 : Int32)) z3)) rfl rfl dX6_pawns_100 h0 (fun h0 => ?_)
      obtain ⟨b6, hb6, h0⟩ := bs_some h0
      refine A_weq (wM t qM b6) (by rw [hb6]) ?_
      refine A_aload_n C 1 dX6_pawns_101 rfl rfl ?_
      refine A_get (v := .ref (qM 8)) C 0 8 inG6 (ci := 6) rfl (by decide) fl_6_19 rfl rfl rfl dX6_pawns_102 ?_
      refine A_iconst C (3 : Int32) dX6_pawns_105 (by decide) ?_
      refine A_iconst C (3 : Int32) dX6_pawns_106 (by decide) ?_
      refine A_iload_n C 4 dX6_pawns_107 rfl rfl ?_
      refine A_imul C dX6_pawns_108 ?_
      refine A_iadd C dX6_pawns_109 ?_
      refine A_iconst C (2 : Int32) dX6_pawns_110 (by decide) ?_
      refine A_iadd C dX6_pawns_111 ?_
      refine A_iconst C (0 : Int32) dX6_pawns_112 (by decide) ?_
      refine A_iast C 4 (wM t qM (pA b6 8 (((3 : Int32) + ((3 : Int32) * x3)) + (2 : Int32)) (0 : Int32))) rfl rfl dX6_pawns_113 h0 (fun h0 => ?_)
      obtain ⟨b7, hb7, h0⟩ := bs_some h0
      refine A_weq (wM t qM b7) (by rw [hb7]) ?_
      refine A_aload_n C 1 dX6_pawns_114 rfl rfl ?_
      refine A_get (v := .ref (qM 8)) C 0 8 inG6 (ci := 6) rfl (by decide) fl_6_19 rfl rfl rfl dX6_pawns_115 ?_
      refine A_iconst C (0 : Int32) dX6_pawns_118 (by decide) ?_
      refine A_dup2 C dX6_pawns_119 rfl rfl ?_
      refine A_iald C 4 (gA b7 8 (0 : Int32)) rfl rfl dX6_pawns_120 h0 (fun h0 => ?_)
      refine A_iload C 0 dX6_pawns_121 rfl ?_
      refine A_iadd C dX6_pawns_123 ?_
      refine A_iast C 4 (wM t qM (pA b7 8 (0 : Int32) ((gA b7 8 (0 : Int32)) + z3))) rfl rfl dX6_pawns_124 h0 (fun h0 => ?_)
      obtain ⟨b8, hb8, h0⟩ := bs_some h0
      refine A_weq (wM t qM b8) (by rw [hb8]) ?_
      refine A_iload C 0 dX6_pawns_125 rfl ?_
      have h0 := Option.some.inj h0
      subst h0
      exact A_iret C dX6_pawns_127 ⟨rfl, rfl⟩
    · exact A_loc [] rfl (t_6_pawns_57 C qM r bM h0)
def f_6_pawns_24_b (k24 : BV → Int32 → Int32 → Int32 → Option (Int32 × BV)) (bM : BV) (x1 : Int32) (x2 : Int32) (x3 : Int32) : Option (Int32 × BV) :=
  if (4 : Int32) ≤ x3 then (f_6_pawns_43 bM x1 x2 x3) else ((f_6_loanDays bM x3).bind (fun z9 => if z9 = 0 then (f_6_pawns_43 bM x1 x2 x3) else (k24 bM x1 x2 (x3 + (1 : Int32)))))
theorem t_6_pawns_24_b (C : CX p s m args meth c cX6_pawns 5 (some .int) RX6 D t) (qM : Nat → Nat) (r : Int32 × BV) (k24 : BV → Int32 → Int32 → Int32 → Option (Int32 × BV)) (K24 : ∀ (bM : BV) (x1 : Int32) (x2 : Int32) (x3 : Int32), k24 bM x1 x2 x3 = some r → At p l e (rmD 4) s m args below meth c D 5 w0 (QI below args s D w0 (fun x w => r.1 = x ∧ (wM t qM r.2) = w) 0 0) 0 0 24 [(0, .ref (qM 99)), (1, .int x1), (2, .int x2), (3, .int x3)] [] (wM t qM bM)) (bM : BV) (x1 : Int32) (x2 : Int32) (x3 : Int32) (h0 : f_6_pawns_24_b k24 bM x1 x2 x3 = some r) : At p l e (rmD 4) s m args below meth c D 5 w0 (QI below args s D w0 (fun x w => r.1 = x ∧ (wM t qM r.2) = w) 0 0) 0 0 24 [(0, .ref (qM 99)), (1, .int x1), (2, .int x2), (3, .int x3)] [] (wM t qM bM) := by
  unfold f_6_pawns_24_b at h0
  refine A_iload_n C 3 dX6_pawns_24 rfl rfl ?_
  refine A_iconst C (4 : Int32) dX6_pawns_25 (by decide) ?_
  refine A_icmp_ge C 43 dX6_pawns_26 (by decide) h0 (fun h0 => ?_) (fun h0 => ?_)
  · exact A_loc [0, 1, 2, 3] rfl (t_6_pawns_43 C qM r bM x1 x2 x3 h0)
  · refine A_aload_n C 0 dX6_pawns_29 rfl rfl ?_
    refine A_iload_n C 3 dX6_pawns_30 rfl rfl ?_
    obtain ⟨z9, hz9, h0⟩ := bind_some h0
    refine A_vI (As := [.int x3]) (rest := []) C 0 (c_6_loanDays l D t qM bM x3 hz9) mw_6_loanDays ml_6_122 im_6_loanDays sl_6_loanDays (rmok rfl rfl) (cut0 (wM t qM bM)) rfl (ci := 6) rfl rfl rfl (Nat.le_of_ble_eq_true rfl) dX6_pawns_31 (fun x w1 hw1 => ?_)
    obtain ⟨rfl, rfl⟩ := hw1
    refine A_perm (ws' := (wM t qM bM)) ((cut0 _).symm) ?_
    refine A_if_eq C 43 dX6_pawns_34 (by decide) h0 (fun h0 => ?_) (fun h0 => ?_)
    · exact A_loc [0, 1, 2, 3] rfl (t_6_pawns_43 C qM r bM x1 x2 x3 h0)
    · refine A_iinc C 3 (x3 + (1 : Int32)) [(3, .int (x3 + (1 : Int32))), (0, .ref (qM 99)), (1, .int x1), (2, .int x2)] dX6_pawns_37 rfl rfl (by decide) rfl ?_
      refine A_goto C 24 dX6_pawns_40 (by decide) ?_
      exact A_loc [1, 2, 3, 0] rfl (K24 bM x1 x2 (x3 + (1 : Int32)) h0)
def f_6_pawns_24 : Nat → BV → Int32 → Int32 → Int32 → Option (Int32 × BV)
  | 0 => fun _ _ _ _ => none
  | n + 1 => f_6_pawns_24_b (f_6_pawns_24 n)
theorem t_6_pawns_24 (C : CX p s m args meth c cX6_pawns 5 (some .int) RX6 D t) (qM : Nat → Nat) (r : Int32 × BV) : ∀ (n : Nat), ∀ (bM : BV) (x1 : Int32) (x2 : Int32) (x3 : Int32), f_6_pawns_24 n bM x1 x2 x3 = some r → At p l e (rmD 4) s m args below meth c D 5 w0 (QI below args s D w0 (fun x w => r.1 = x ∧ (wM t qM r.2) = w) 0 0) 0 0 24 [(0, .ref (qM 99)), (1, .int x1), (2, .int x2), (3, .int x3)] [] (wM t qM bM) := by
  intro n
  induction n with
  | zero =>
    intro bM x1 x2 x3 h0
    have h0 : none = some r := h0
    cases h0
  | succ n ih =>
    intro bM x1 x2 x3 h0
    exact t_6_pawns_24_b C qM r _ ih bM x1 x2 x3 h0
def f_6_pawns_20 (bM : BV) : Option (Int32 × BV) :=
  some ((-1 : Int32), bM)
theorem t_6_pawns_20 (C : CX p s m args meth c cX6_pawns 5 (some .int) RX6 D t) (qM : Nat → Nat) (r : Int32 × BV) (bM : BV) (h0 : f_6_pawns_20 bM = some r) : At p l e (rmD 4) s m args below meth c D 5 w0 (QI below args s D w0 (fun x w => r.1 = x ∧ (wM t qM r.2) = w) 0 0) 0 0 20 [] [] (wM t qM bM) := by
  unfold f_6_pawns_20 at h0
  refine A_iconst C (-1 : Int32) dX6_pawns_20 (by decide) ?_
  have h0 := Option.some.inj h0
  subst h0
  exact A_iret C dX6_pawns_21 ⟨rfl, rfl⟩
def f_6_pawns (bM : BV) (x1 : Int32) (x2 : Int32) : Option (Int32 × BV) :=
  (f_6_isDay bM x1).bind (fun z10 => if z10 = 0 then (f_6_pawns_20 bM) else ((f_6_in (x2).toInt64 (1 : Int64) (9 : Int64)).bind (fun z11 => if z11 = 0 then (f_6_pawns_20 bM) else (f_6_pawns_24 200 bM x1 x2 (0 : Int32)))))
theorem c_6_pawns (l : Launch) (D : va_G) (t : ty4) (qM : Nat → Nat) (bM : BV) (x1 : Int32) (x2 : Int32) {r : Int32 × BV} (h0 : f_6_pawns bM x1 x2 = some r) : MetI l yX6_pawns cX6_pawns 5 (some .int) (rmD 4) D t [.ref (qM 99), .int x1, .int x2] (wM t qM bM) (fun x w => r.1 = x ∧ (wM t qM r.2) = w) := by
  refine MetI_of (by decide +kernel) (Nat.le_of_ble_eq_true rfl) (fun p e s m below meth c C _ => ?_)
  unfold f_6_pawns at h0
  generalize hargs : (List.toArray [.ref (qM 99), .int x1, .int x2] : Array Value) = args at C ⊢
  refine At.start (lv2 := [(0, .ref (qM 99)), (1, .int x1), (2, .int x2)]) rfl ?_
  refine A_aload_n C 0 dX6_pawns_0 rfl rfl ?_
  refine A_iload_n C 1 dX6_pawns_1 rfl rfl ?_
  obtain ⟨z10, hz10, h0⟩ := bind_some h0
  refine A_vI (As := [.int x1]) (rest := []) C 0 (c_6_isDay l D t qM bM x1 hz10) mw_6_isDay ml_6_136 im_6_isDay sl_6_isDay (rmok rfl rfl) (cut0 (wM t qM bM)) rfl (ci := 6) rfl rfl rfl (Nat.le_of_ble_eq_true rfl) dX6_pawns_2 (fun x w1 hw1 => ?_)
  obtain ⟨rfl, rfl⟩ := hw1
  refine A_perm (ws' := (wM t qM bM)) ((cut0 _).symm) ?_
  refine A_if_eq C 20 dX6_pawns_5 (by decide) h0 (fun h0 => ?_) (fun h0 => ?_)
  · exact A_loc [] rfl (t_6_pawns_20 C qM r bM h0)
  · refine A_iload_n C 2 dX6_pawns_8 rfl rfl ?_
    refine A_i2l C dX6_pawns_9 ?_
    refine A_lconst C (1 : Int64) dX6_pawns_10 (by decide) ?_
    refine A_ldc2 (v := (9 : Int64)) C cl_6_155 dX6_pawns_11 ?_
    obtain ⟨z11, hz11, h0⟩ := bind_some h0
    refine A_sI (As := [.long (x2).toInt64, .long (1 : Int64), .long (9 : Int64)]) (rest := []) C (c_6_in l D t (x2).toInt64 (1 : Int64) (9 : Int64) hz11) mw_6_in ml_6_45 st_6_in (rmok rfl rfl) (cutN (wM t qM bM)) rfl rfl (Nat.le_of_ble_eq_true rfl) dX6_pawns_14 (fun x w1 hw1 => ?_)
    obtain ⟨rfl, rfl⟩ := hw1
    refine A_perm (ws' := (wM t qM bM)) ((cutN _).symm) ?_
    refine A_if_ne C 22 dX6_pawns_17 (by decide) h0 (fun h0 => ?_) (fun h0 => ?_)
    · refine A_iconst C (0 : Int32) dX6_pawns_22 (by decide) ?_
      refine A_istore_n C [(3, .int (0 : Int32)), (0, .ref (qM 99)), (1, .int x1), (2, .int x2)] dX6_pawns_23 rfl (by decide) rfl ?_
      exact A_loc [1, 2, 3, 0] rfl (t_6_pawns_24 C qM r 200 bM x1 x2 (0 : Int32) h0)
    · exact A_loc [] rfl (t_6_pawns_20 C qM r bM h0)
def f_6_frees_2_b (k2 : BV → Int32 → Int32 → Option (BV)) (bM : BV) (x1 : Int32) (x2 : Int32) : Option (BV) :=
  if (3 : Int32) ≤ x2 then (some bM) else (ck (inb (((3 : Int32) + ((3 : Int32) * x1)) + x2) 15) (bs (pA bM 8 (((3 : Int32) + ((3 : Int32) * x1)) + x2) (0 : Int32)) (fun b1 => k2 b1 x1 (x2 + (1 : Int32)))))
theorem t_6_frees_2_b (C : CX p s m args meth c cX6_frees 3 none RX6 D t) (qM : Nat → Nat) (r : BV) (k2 : BV → Int32 → Int32 → Option (BV)) (K2 : ∀ (bM : BV) (x1 : Int32) (x2 : Int32), k2 bM x1 x2 = some r → At p l e (rmD 0) s m args below meth c D 3 w0 (QV below args s D w0 (fun w => (wM t qM r) = w) 0 0) 0 0 2 [(0, .ref (qM 99)), (1, .int x1), (2, .int x2)] [] (wM t qM bM)) (bM : BV) (x1 : Int32) (x2 : Int32) (h0 : f_6_frees_2_b k2 bM x1 x2 = some r) : At p l e (rmD 0) s m args below meth c D 3 w0 (QV below args s D w0 (fun w => (wM t qM r) = w) 0 0) 0 0 2 [(0, .ref (qM 99)), (1, .int x1), (2, .int x2)] [] (wM t qM bM) := by
  unfold f_6_frees_2_b at h0
  refine A_iload_n C 2 dX6_frees_2 rfl rfl ?_
  refine A_iconst C (3 : Int32) dX6_frees_3 (by decide) ?_
  refine A_icmp_ge C 26 dX6_frees_4 (by decide) h0 (fun h0 => ?_) (fun h0 => ?_)
  · have h0 := Option.some.inj h0
    subst h0
    exact A_vret C dX6_frees_26 rfl
  · refine A_aload_n C 0 dX6_frees_7 rfl rfl ?_
    refine A_get (v := .ref (qM 8)) C 0 8 inG6 (ci := 6) rfl (by decide) fl_6_19 rfl rfl rfl dX6_frees_8 ?_
    refine A_iconst C (3 : Int32) dX6_frees_11 (by decide) ?_
    refine A_iconst C (3 : Int32) dX6_frees_12 (by decide) ?_
    refine A_iload_n C 1 dX6_frees_13 rfl rfl ?_
    refine A_imul C dX6_frees_14 ?_
    refine A_iadd C dX6_frees_15 ?_
    refine A_iload_n C 2 dX6_frees_16 rfl rfl ?_
    refine A_iadd C dX6_frees_17 ?_
    refine A_iconst C (0 : Int32) dX6_frees_18 (by decide) ?_
    refine A_iast C 4 (wM t qM (pA bM 8 (((3 : Int32) + ((3 : Int32) * x1)) + x2) (0 : Int32))) rfl rfl dX6_frees_19 h0 (fun h0 => ?_)
    obtain ⟨b1, hb1, h0⟩ := bs_some h0
    refine A_weq (wM t qM b1) (by rw [hb1]) ?_
    refine A_iinc C 2 (x2 + (1 : Int32)) [(2, .int (x2 + (1 : Int32))), (0, .ref (qM 99)), (1, .int x1)] dX6_frees_20 rfl rfl (by decide) rfl ?_
    refine A_goto C 2 dX6_frees_23 (by decide) ?_
    exact A_loc [1, 2, 0] rfl (K2 b1 x1 (x2 + (1 : Int32)) h0)
def f_6_frees_2 : Nat → BV → Int32 → Int32 → Option (BV)
  | 0 => fun _ _ _ => none
  | n + 1 => f_6_frees_2_b (f_6_frees_2 n)
theorem t_6_frees_2 (C : CX p s m args meth c cX6_frees 3 none RX6 D t) (qM : Nat → Nat) (r : BV) : ∀ (n : Nat), ∀ (bM : BV) (x1 : Int32) (x2 : Int32), f_6_frees_2 n bM x1 x2 = some r → At p l e (rmD 0) s m args below meth c D 3 w0 (QV below args s D w0 (fun w => (wM t qM r) = w) 0 0) 0 0 2 [(0, .ref (qM 99)), (1, .int x1), (2, .int x2)] [] (wM t qM bM) := by
  intro n
  induction n with
  | zero =>
    intro bM x1 x2 h0
    have h0 : none = some r := h0
    cases h0
  | succ n ih =>
    intro bM x1 x2 h0
    exact t_6_frees_2_b C qM r _ ih bM x1 x2 h0
def f_6_frees (bM : BV) (x1 : Int32) : Option (BV) :=
  f_6_frees_2 200 bM x1 (0 : Int32)
theorem c_6_frees (l : Launch) (D : va_G) (t : ty4) (qM : Nat → Nat) (bM : BV) (x1 : Int32) {r : BV} (h0 : f_6_frees bM x1 = some r) : MetV l yX6_frees cX6_frees 3 none (rmD 0) D t [.ref (qM 99), .int x1] (wM t qM bM) (fun w => (wM t qM r) = w) := by
  refine MetV_of (by decide +kernel) (Nat.le_of_ble_eq_true rfl) (fun p e s m below meth c C _ => ?_)
  unfold f_6_frees at h0
  generalize hargs : (List.toArray [.ref (qM 99), .int x1] : Array Value) = args at C ⊢
  refine At.start (lv2 := [(0, .ref (qM 99)), (1, .int x1)]) rfl ?_
  refine A_iconst C (0 : Int32) dX6_frees_0 (by decide) ?_
  refine A_istore_n C [(2, .int (0 : Int32)), (0, .ref (qM 99)), (1, .int x1)] dX6_frees_1 rfl (by decide) rfl ?_
  exact A_loc [1, 2, 0] rfl (t_6_frees_2 C qM r 200 bM x1 (0 : Int32) h0)
def f_6_redeems_31 (bM : BV) : Option (Int32 × BV) :=
  some ((-2 : Int32), bM)
theorem t_6_redeems_31 (C : CX p s m args meth c cX6_redeems 2 (some .int) RX6 D t) (qM : Nat → Nat) (r : Int32 × BV) (bM : BV) (h0 : f_6_redeems_31 bM = some r) : At p l e (rmD 2) s m args below meth c D 2 w0 (QI below args s D w0 (fun x w => r.1 = x ∧ (wM t qM r.2) = w) 0 0) 0 0 31 [] [] (wM t qM bM) := by
  unfold f_6_redeems_31 at h0
  refine A_bipush C (-2 : Int32) dX6_redeems_31 (by decide) ?_
  have h0 := Option.some.inj h0
  subst h0
  exact A_iret C dX6_redeems_33 ⟨rfl, rfl⟩
def f_6_redeems (bM : BV) (x1 : Int32) : Option (Int32 × BV) :=
  (f_6_isLoan x1).bind (fun z1 => if z1 = 0 then (some ((-1 : Int32), bM)) else ((f_6_loanDays bM x1).bind (fun z2 => if z2 = 0 then (f_6_redeems_31 bM) else ((f_6_lent bM x1).bind (fun z3 => ck (inb (0 : Int32) 15) (if z3 ≤ (gA bM 8 (0 : Int32)) then ((f_6_notes bM).bind (fun z4 => ck (inb (0 : Int32) 15) ((f_6_lent z4 x1).bind (fun z5 => ck (inb (0 : Int32) 15) (bs (pA z4 8 (0 : Int32) ((gA z4 8 (0 : Int32)) - z5)) (fun b6 => (f_6_frees b6 x1).bind (fun z7 => ck (inb (0 : Int32) 15) (some ((gA z7 8 (0 : Int32)), z7))))))))) else (f_6_redeems_31 bM)))))))
theorem c_6_redeems (l : Launch) (D : va_G) (t : ty4) (qM : Nat → Nat) (bM : BV) (x1 : Int32) {r : Int32 × BV} (h0 : f_6_redeems bM x1 = some r) : MetI l yX6_redeems cX6_redeems 2 (some .int) (rmD 2) D t [.ref (qM 99), .int x1] (wM t qM bM) (fun x w => r.1 = x ∧ (wM t qM r.2) = w) := by
  refine MetI_of (by decide +kernel) (Nat.le_of_ble_eq_true rfl) (fun p e s m below meth c C _ => ?_)
  unfold f_6_redeems at h0
  generalize hargs : (List.toArray [.ref (qM 99), .int x1] : Array Value) = args at C ⊢
  refine At.start (lv2 := [(0, .ref (qM 99)), (1, .int x1)]) rfl ?_
  refine A_iload_n C 1 dX6_redeems_0 rfl rfl ?_
  obtain ⟨z1, hz1, h0⟩ := bind_some h0
  refine A_sI (As := [.int x1]) (rest := []) C (c_6_isLoan l D t x1 hz1) mw_6_isLoan ml_6_147 st_6_isLoan (rmok rfl rfl) (cutN (wM t qM bM)) rfl rfl (Nat.le_of_ble_eq_true rfl) dX6_redeems_1 (fun x w1 hw1 => ?_)
  obtain ⟨rfl, rfl⟩ := hw1
  refine A_perm (ws' := (wM t qM bM)) ((cutN _).symm) ?_
  refine A_if_ne C 9 dX6_redeems_4 (by decide) h0 (fun h0 => ?_) (fun h0 => ?_)
  · refine A_aload_n C 0 dX6_redeems_9 rfl rfl ?_
    refine A_iload_n C 1 dX6_redeems_10 rfl rfl ?_
    obtain ⟨z2, hz2, h0⟩ := bind_some h0
    refine A_vI (As := [.int x1]) (rest := []) C 0 (c_6_loanDays l D t qM bM x1 hz2) mw_6_loanDays ml_6_122 im_6_loanDays sl_6_loanDays (rmok rfl rfl) (cut0 (wM t qM bM)) rfl (ci := 6) rfl rfl rfl (Nat.le_of_ble_eq_true rfl) dX6_redeems_11 (fun x w1 hw1 => ?_)
    obtain ⟨rfl, rfl⟩ := hw1
    refine A_perm (ws' := (wM t qM bM)) ((cut0 _).symm) ?_
    refine A_if_eq C 31 dX6_redeems_14 (by decide) h0 (fun h0 => ?_) (fun h0 => ?_)
    · exact A_loc [] rfl (t_6_redeems_31 C qM r bM h0)
    · refine A_aload_n C 0 dX6_redeems_17 rfl rfl ?_
      refine A_iload_n C 1 dX6_redeems_18 rfl rfl ?_
      obtain ⟨z3, hz3, h0⟩ := bind_some h0
      refine A_vI (As := [.int x1]) (rest := []) C 0 (c_6_lent l D t qM bM x1 hz3) mw_6_lent ml_6_166 im_6_lent sl_6_lent (rmok rfl rfl) (cut0 (wM t qM bM)) rfl (ci := 6) rfl rfl rfl (Nat.le_of_ble_eq_true rfl) dX6_redeems_19 (fun x w1 hw1 => ?_)
      obtain ⟨rfl, rfl⟩ := hw1
      refine A_perm (ws' := (wM t qM bM)) ((cut0 _).symm) ?_
      refine A_aload_n C 0 dX6_redeems_22 rfl rfl ?_
      refine A_get (v := .ref (qM 8)) C 0 8 inG6 (ci := 6) rfl (by decide) fl_6_19 rfl rfl rfl dX6_redeems_23 ?_
      refine A_iconst C (0 : Int32) dX6_redeems_26 (by decide) ?_
      refine A_iald C 4 (gA bM 8 (0 : Int32)) rfl rfl dX6_redeems_27 h0 (fun h0 => ?_)
      refine A_icmp_le C 34 dX6_redeems_28 (by decide) h0 (fun h0 => ?_) (fun h0 => ?_)
      · refine A_aload_n C 0 dX6_redeems_34 rfl rfl ?_
        obtain ⟨z4, hz4, h0⟩ := bind_some h0
        refine A_vV (As := []) (rest := []) C 0 (c_6_notes l D t qM bM hz4) mw_6_notes ml_6_160 im_6_notes sl_6_notes (rmok rfl rfl) (cut0 (wM t qM bM)) rfl (ci := 6) rfl rfl rfl (Nat.le_of_ble_eq_true rfl) dX6_redeems_35 (fun w1 hw1 => ?_)
        subst hw1
        refine A_perm (ws' := (wM t qM z4)) ((cut0 _).symm) ?_
        refine A_aload_n C 0 dX6_redeems_38 rfl rfl ?_
        refine A_get (v := .ref (qM 8)) C 0 8 inG6 (ci := 6) rfl (by decide) fl_6_19 rfl rfl rfl dX6_redeems_39 ?_
        refine A_iconst C (0 : Int32) dX6_redeems_42 (by decide) ?_
        refine A_dup2 C dX6_redeems_43 rfl rfl ?_
        refine A_iald C 4 (gA z4 8 (0 : Int32)) rfl rfl dX6_redeems_44 h0 (fun h0 => ?_)
        refine A_aload_n C 0 dX6_redeems_45 rfl rfl ?_
        refine A_iload_n C 1 dX6_redeems_46 rfl rfl ?_
        obtain ⟨z5, hz5, h0⟩ := bind_some h0
        refine A_vI (As := [.int x1]) (rest := [.int (gA z4 8 (0 : Int32)), .int (0 : Int32), .ref (qM 8)]) C 0 (c_6_lent l D t qM z4 x1 hz5) mw_6_lent ml_6_166 im_6_lent sl_6_lent (rmok rfl rfl) (cut0 (wM t qM z4)) rfl (ci := 6) rfl rfl rfl (Nat.le_of_ble_eq_true rfl) dX6_redeems_47 (fun x w1 hw1 => ?_)
        obtain ⟨rfl, rfl⟩ := hw1
        refine A_perm (ws' := (wM t qM z4)) ((cut0 _).symm) ?_
        refine A_isub C dX6_redeems_50 ?_
        refine A_iast C 4 (wM t qM (pA z4 8 (0 : Int32) ((gA z4 8 (0 : Int32)) - z5))) rfl rfl dX6_redeems_51 h0 (fun h0 => ?_)
        obtain ⟨b6, hb6, h0⟩ := bs_some h0
        refine A_weq (wM t qM b6) (by rw [hb6]) ?_
        refine A_aload_n C 0 dX6_redeems_52 rfl rfl ?_
        refine A_iload_n C 1 dX6_redeems_53 rfl rfl ?_
        obtain ⟨z7, hz7, h0⟩ := bind_some h0
        refine A_vV (As := [.int x1]) (rest := []) C 0 (c_6_frees l D t qM b6 x1 hz7) mw_6_frees ml_6_169 im_6_frees sl_6_frees (rmok rfl rfl) (cut0 (wM t qM b6)) rfl (ci := 6) rfl rfl rfl (Nat.le_of_ble_eq_true rfl) dX6_redeems_54 (fun w1 hw1 => ?_)
        subst hw1
        refine A_perm (ws' := (wM t qM z7)) ((cut0 _).symm) ?_
        refine A_aload_n C 0 dX6_redeems_57 rfl rfl ?_
        refine A_get (v := .ref (qM 8)) C 0 8 inG6 (ci := 6) rfl (by decide) fl_6_19 rfl rfl rfl dX6_redeems_58 ?_
        refine A_iconst C (0 : Int32) dX6_redeems_61 (by decide) ?_
        refine A_iald C 4 (gA z7 8 (0 : Int32)) rfl rfl dX6_redeems_62 h0 (fun h0 => ?_)
        have h0 := Option.some.inj h0
        subst h0
        exact A_iret C dX6_redeems_63 ⟨rfl, rfl⟩
      · exact A_loc [] rfl (t_6_redeems_31 C qM r bM h0)
  · refine A_iconst C (-1 : Int32) dX6_redeems_7 (by decide) ?_
    have h0 := Option.some.inj h0
    subst h0
    exact A_iret C dX6_redeems_8 ⟨rfl, rfl⟩
def f_6_ages_139 (bM : BV) : Option (BV) :=
  some bM
theorem t_6_ages_139 (C : CX p s m args meth c cX6_ages 5 none RX6 D t) (qM : Nat → Nat) (r : BV) (bM : BV) (h0 : f_6_ages_139 bM = some r) : At p l e (rmD 3) s m args below meth c D 5 w0 (QV below args s D w0 (fun w => (wM t qM r) = w) 0 0) 0 0 139 [] [] (wM t qM bM) := by
  unfold f_6_ages_139 at h0
  have h0 := Option.some.inj h0
  subst h0
  exact A_vret C dX6_ages_139 rfl
def f_6_ages_83 (bM : BV) (x1 : Int32) : Option (BV) :=
  ck (inb (((3 : Int32) + ((3 : Int32) * x1)) + (2 : Int32)) 15) (ck (inb (((3 : Int32) + ((3 : Int32) * x1)) + (2 : Int32)) 15) (bs (pA bM 8 (((3 : Int32) + ((3 : Int32) * x1)) + (2 : Int32)) ((gA bM 8 (((3 : Int32) + ((3 : Int32) * x1)) + (2 : Int32))) + (1 : Int32))) (fun b1 => ck (inb (((3 : Int32) + ((3 : Int32) * x1)) + (2 : Int32)) 15) (ck (inb (5 : Int32) 79) (if (gA b1 8 (((3 : Int32) + ((3 : Int32) * x1)) + (2 : Int32))) = (gA b1 7 (5 : Int32)) then (ck (inb (2 : Int32) 15) ((f_6_loanDays b1 x1).bind (fun z2 => ck (inb (2 : Int32) 15) (bs (pA b1 8 (2 : Int32) ((gA b1 8 (2 : Int32)) ||| z2)) (fun b3 => (f_6_frees b3 x1).bind (fun z4 => f_6_ages_139 z4)))))) else (f_6_ages_139 b1))))))
theorem t_6_ages_83 (C : CX p s m args meth c cX6_ages 5 none RX6 D t) (qM : Nat → Nat) (r : BV) (bM : BV) (x1 : Int32) (h0 : f_6_ages_83 bM x1 = some r) : At p l e (rmD 3) s m args below meth c D 5 w0 (QV below args s D w0 (fun w => (wM t qM r) = w) 0 0) 0 0 83 [(0, .ref (qM 99)), (1, .int x1)] [] (wM t qM bM) := by
  unfold f_6_ages_83 at h0
  refine A_aload_n C 0 dX6_ages_83 rfl rfl ?_
  refine A_get (v := .ref (qM 8)) C 0 8 inG6 (ci := 6) rfl (by decide) fl_6_19 rfl rfl rfl dX6_ages_84 ?_
  refine A_iconst C (3 : Int32) dX6_ages_87 (by decide) ?_
  refine A_iconst C (3 : Int32) dX6_ages_88 (by decide) ?_
  refine A_iload_n C 1 dX6_ages_89 rfl rfl ?_
  refine A_imul C dX6_ages_90 ?_
  refine A_iadd C dX6_ages_91 ?_
  refine A_iconst C (2 : Int32) dX6_ages_92 (by decide) ?_
  refine A_iadd C dX6_ages_93 ?_
  refine A_dup2 C dX6_ages_94 rfl rfl ?_
  refine A_iald C 4 (gA bM 8 (((3 : Int32) + ((3 : Int32) * x1)) + (2 : Int32))) rfl rfl dX6_ages_95 h0 (fun h0 => ?_)
  refine A_iconst C (1 : Int32) dX6_ages_96 (by decide) ?_
  refine A_iadd C dX6_ages_97 ?_
  refine A_iast C 4 (wM t qM (pA bM 8 (((3 : Int32) + ((3 : Int32) * x1)) + (2 : Int32)) ((gA bM 8 (((3 : Int32) + ((3 : Int32) * x1)) + (2 : Int32))) + (1 : Int32)))) rfl rfl dX6_ages_98 h0 (fun h0 => ?_)
  obtain ⟨b1, hb1, h0⟩ := bs_some h0
  refine A_weq (wM t qM b1) (by rw [hb1]) ?_
  refine A_aload_n C 0 dX6_ages_99 rfl rfl ?_
  refine A_get (v := .ref (qM 8)) C 0 8 inG6 (ci := 6) rfl (by decide) fl_6_19 rfl rfl rfl dX6_ages_100 ?_
  refine A_iconst C (3 : Int32) dX6_ages_103 (by decide) ?_
  refine A_iconst C (3 : Int32) dX6_ages_104 (by decide) ?_
  refine A_iload_n C 1 dX6_ages_105 rfl rfl ?_
  refine A_imul C dX6_ages_106 ?_
  refine A_iadd C dX6_ages_107 ?_
  refine A_iconst C (2 : Int32) dX6_ages_108 (by decide) ?_
  refine A_iadd C dX6_ages_109 ?_
  refine A_iald C 4 (gA b1 8 (((3 : Int32) + ((3 : Int32) * x1)) + (2 : Int32))) rfl rfl dX6_ages_110 h0 (fun h0 => ?_)
  refine A_aload_n C 0 dX6_ages_111 rfl rfl ?_
  refine A_get (v := .ref (qM 7)) C 0 7 inG6 (ci := 6) rfl (by decide) fl_6_16 rfl rfl rfl dX6_ages_112 ?_
  refine A_iconst C (5 : Int32) dX6_ages_115 (by decide) ?_
  refine A_iald C 3 (gA b1 7 (5 : Int32)) rfl rfl dX6_ages_116 h0 (fun h0 => ?_)
  refine A_icmp_ne C 139 dX6_ages_117 (by decide) h0 (fun h0 => ?_) (fun h0 => ?_)
  · exact A_loc [] rfl (t_6_ages_139 C qM r b1 h0)
  · refine A_aload_n C 0 dX6_ages_120 rfl rfl ?_
    refine A_get (v := .ref (qM 8)) C 0 8 inG6 (ci := 6) rfl (by decide) fl_6_19 rfl rfl rfl dX6_ages_121 ?_
    refine A_iconst C (2 : Int32) dX6_ages_124 (by decide) ?_
    refine A_dup2 C dX6_ages_125 rfl rfl ?_
    refine A_iald C 4 (gA b1 8 (2 : Int32)) rfl rfl dX6_ages_126 h0 (fun h0 => ?_)
    refine A_aload_n C 0 dX6_ages_127 rfl rfl ?_
    refine A_iload_n C 1 dX6_ages_128 rfl rfl ?_
    obtain ⟨z2, hz2, h0⟩ := bind_some h0
    refine A_vI (As := [.int x1]) (rest := [.int (gA b1 8 (2 : Int32)), .int (2 : Int32), .ref (qM 8)]) C 0 (c_6_loanDays l D t qM b1 x1 hz2) mw_6_loanDays ml_6_122 im_6_loanDays sl_6_loanDays (rmok rfl rfl) (cut0 (wM t qM b1)) rfl (ci := 6) rfl rfl rfl (Nat.le_of_ble_eq_true rfl) dX6_ages_129 (fun x w1 hw1 => ?_)
    obtain ⟨rfl, rfl⟩ := hw1
    refine A_perm (ws' := (wM t qM b1)) ((cut0 _).symm) ?_
    refine A_ior C dX6_ages_132 ?_
    refine A_iast C 4 (wM t qM (pA b1 8 (2 : Int32) ((gA b1 8 (2 : Int32)) ||| z2))) rfl rfl dX6_ages_133 h0 (fun h0 => ?_)
    obtain ⟨b3, hb3, h0⟩ := bs_some h0
    refine A_weq (wM t qM b3) (by rw [hb3]) ?_
    refine A_aload_n C 0 dX6_ages_134 rfl rfl ?_
    refine A_iload_n C 1 dX6_ages_135 rfl rfl ?_
    obtain ⟨z4, hz4, h0⟩ := bind_some h0
    refine A_vV (As := [.int x1]) (rest := []) C 0 (c_6_frees l D t qM b3 x1 hz4) mw_6_frees ml_6_169 im_6_frees sl_6_frees (rmok rfl rfl) (cut0 (wM t qM b3)) rfl (ci := 6) rfl rfl rfl (Nat.le_of_ble_eq_true rfl) dX6_ages_136 (fun w1 hw1 => ?_)
    subst hw1
    refine A_perm (ws' := (wM t qM z4)) ((cut0 _).symm) ?_
    exact A_loc [] rfl (t_6_ages_139 C qM r z4 h0)
def f_6_ages_77 (k32 : BV → Int32 → Int32 → Int32 → Option (BV)) (bM : BV) (x1 : Int32) (x2 : Int32) (x4 : Int32) : Option (BV) :=
  k32 bM x1 x2 (x4 + (1 : Int32))
theorem t_6_ages_77 (C : CX p s m args meth c cX6_ages 5 none RX6 D t) (qM : Nat → Nat) (r : BV) (k32 : BV → Int32 → Int32 → Int32 → Option (BV)) (K32 : ∀ (bM : BV) (x1 : Int32) (x2 : Int32) (x4 : Int32), k32 bM x1 x2 x4 = some r → At p l e (rmD 3) s m args below meth c D 5 w0 (QV below args s D w0 (fun w => (wM t qM r) = w) 0 0) 0 0 32 [(0, .ref (qM 99)), (1, .int x1), (2, .int x2), (4, .int x4)] [] (wM t qM bM)) (bM : BV) (x1 : Int32) (x2 : Int32) (x4 : Int32) (h0 : f_6_ages_77 k32 bM x1 x2 x4 = some r) : At p l e (rmD 3) s m args below meth c D 5 w0 (QV below args s D w0 (fun w => (wM t qM r) = w) 0 0) 0 0 77 [(0, .ref (qM 99)), (1, .int x1), (2, .int x2), (4, .int x4)] [] (wM t qM bM) := by
  unfold f_6_ages_77 at h0
  refine A_iinc C 3 (x4 + (1 : Int32)) [(4, .int (x4 + (1 : Int32))), (0, .ref (qM 99)), (1, .int x1), (2, .int x2)] dX6_ages_77 rfl rfl (by decide) rfl ?_
  refine A_goto C 32 dX6_ages_80 (by decide) ?_
  exact A_loc [1, 2, 3, 0] rfl (K32 bM x1 x2 (x4 + (1 : Int32)) h0)
def f_6_ages_32_b (k32 : BV → Int32 → Int32 → Int32 → Option (BV)) (bM : BV) (x1 : Int32) (x2 : Int32) (x4 : Int32) : Option (BV) :=
  (f_6_days bM).bind (fun z5 => if z5 ≤ x4 then (f_6_ages_83 bM x1) else (if x2 ≤ 0 then (f_6_ages_83 bM x1) else ((f_6_notIn bM).bind (fun z6 => if ((z6 >>> (x4 &&& 31)) &&& (1 : Int32)) = 0 then (ck (inb ((3 : Int32) + ((3 : Int32) * x1)) 15) (ck (inb ((3 : Int32) + ((3 : Int32) * x1)) 15) (bs (pA bM 8 ((3 : Int32) + ((3 : Int32) * x1)) ((gA bM 8 ((3 : Int32) + ((3 : Int32) * x1))) ||| ((1 : Int32) <<< (x4 &&& 31)))) (fun b7 => f_6_ages_77 k32 b7 x1 (x2 + (-1 : Int32)) x4)))) else (f_6_ages_77 k32 bM x1 x2 x4)))))
theorem t_6_ages_32_b (C : CX p s m args meth c cX6_ages 5 none RX6 D t) (qM : Nat → Nat) (r : BV) (k32 : BV → Int32 → Int32 → Int32 → Option (BV)) (K32 : ∀ (bM : BV) (x1 : Int32) (x2 : Int32) (x4 : Int32), k32 bM x1 x2 x4 = some r → At p l e (rmD 3) s m args below meth c D 5 w0 (QV below args s D w0 (fun w => (wM t qM r) = w) 0 0) 0 0 32 [(0, .ref (qM 99)), (1, .int x1), (2, .int x2), (4, .int x4)] [] (wM t qM bM)) (bM : BV) (x1 : Int32) (x2 : Int32) (x4 : Int32) (h0 : f_6_ages_32_b k32 bM x1 x2 x4 = some r) : At p l e (rmD 3) s m args below meth c D 5 w0 (QV below args s D w0 (fun w => (wM t qM r) = w) 0 0) 0 0 32 [(0, .ref (qM 99)), (1, .int x1), (2, .int x2), (4, .int x4)] [] (wM t qM bM) := by
  unfold f_6_ages_32_b at h0
  refine A_iload C 3 dX6_ages_32 rfl ?_
  refine A_aload_n C 0 dX6_ages_34 rfl rfl ?_
  obtain ⟨z5, hz5, h0⟩ := bind_some h0
  refine A_vI (As := []) (rest := [.int x4]) C 0 (c_6_days l D t qM bM hz5) mw_6_days ml_6_116 im_6_days sl_6_days (rmok rfl rfl) (cut0 (wM t qM bM)) rfl (ci := 6) rfl rfl rfl (Nat.le_of_ble_eq_true rfl) dX6_ages_35 (fun x w1 hw1 => ?_)
  obtain ⟨rfl, rfl⟩ := hw1
  refine A_perm (ws' := (wM t qM bM)) ((cut0 _).symm) ?_
  refine A_icmp_ge C 83 dX6_ages_38 (by decide) h0 (fun h0 => ?_) (fun h0 => ?_)
  · exact A_loc [0, 1] rfl (t_6_ages_83 C qM r bM x1 h0)
  · refine A_iload_n C 2 dX6_ages_41 rfl rfl ?_
    refine A_if_le C 83 dX6_ages_42 (by decide) h0 (fun h0 => ?_) (fun h0 => ?_)
    · exact A_loc [0, 1] rfl (t_6_ages_83 C qM r bM x1 h0)
    · refine A_aload_n C 0 dX6_ages_45 rfl rfl ?_
      obtain ⟨z6, hz6, h0⟩ := bind_some h0
      refine A_vI (As := []) (rest := []) C 0 (c_6_notIn l D t qM bM hz6) mw_6_notIn ml_6_144 im_6_notIn sl_6_notIn (rmok rfl rfl) (cut0 (wM t qM bM)) rfl (ci := 6) rfl rfl rfl (Nat.le_of_ble_eq_true rfl) dX6_ages_46 (fun x w1 hw1 => ?_)
      obtain ⟨rfl, rfl⟩ := hw1
      refine A_perm (ws' := (wM t qM bM)) ((cut0 _).symm) ?_
      refine A_iload C 3 dX6_ages_49 rfl ?_
      refine A_ishr C dX6_ages_51 ?_
      refine A_iconst C (1 : Int32) dX6_ages_52 (by decide) ?_
      refine A_iand C dX6_ages_53 ?_
      refine A_if_ne C 77 dX6_ages_54 (by decide) h0 (fun h0 => ?_) (fun h0 => ?_)
      · exact A_loc [0, 1, 2, 3] rfl (t_6_ages_77 C qM r k32 K32 bM x1 x2 x4 h0)
      · refine A_aload_n C 0 dX6_ages_57 rfl rfl ?_
        refine A_get (v := .ref (qM 8)) C 0 8 inG6 (ci := 6) rfl (by decide) fl_6_19 rfl rfl rfl dX6_ages_58 ?_
        refine A_iconst C (3 : Int32) dX6_ages_61 (by decide) ?_
        refine A_iconst C (3 : Int32) dX6_ages_62 (by decide) ?_
        refine A_iload_n C 1 dX6_ages_63 rfl rfl ?_
        refine A_imul C dX6_ages_64 ?_
        refine A_iadd C dX6_ages_65 ?_
        refine A_dup2 C dX6_ages_66 rfl rfl ?_
        refine A_iald C 4 (gA bM 8 ((3 : Int32) + ((3 : Int32) * x1))) rfl rfl dX6_ages_67 h0 (fun h0 => ?_)
        refine A_iconst C (1 : Int32) dX6_ages_68 (by decide) ?_
        refine A_iload C 3 dX6_ages_69 rfl ?_
        refine A_ishl C dX6_ages_71 ?_
        refine A_ior C dX6_ages_72 ?_
        refine A_iast C 4 (wM t qM (pA bM 8 ((3 : Int32) + ((3 : Int32) * x1)) ((gA bM 8 ((3 : Int32) + ((3 : Int32) * x1))) ||| ((1 : Int32) <<< (x4 &&& 31))))) rfl rfl dX6_ages_73 h0 (fun h0 => ?_)
        obtain ⟨b7, hb7, h0⟩ := bs_some h0
        refine A_weq (wM t qM b7) (by rw [hb7]) ?_
        refine A_iinc C 2 (x2 + (-1 : Int32)) [(2, .int (x2 + (-1 : Int32))), (0, .ref (qM 99)), (1, .int x1), (4, .int x4)] dX6_ages_74 rfl rfl (by decide) rfl ?_
        exact A_loc [1, 2, 0, 3] rfl (t_6_ages_77 C qM r k32 K32 b7 x1 (x2 + (-1 : Int32)) x4 h0)
def f_6_ages_32 : Nat → BV → Int32 → Int32 → Int32 → Option (BV)
  | 0 => fun _ _ _ _ => none
  | n + 1 => f_6_ages_32_b (f_6_ages_32 n)
theorem t_6_ages_32 (C : CX p s m args meth c cX6_ages 5 none RX6 D t) (qM : Nat → Nat) (r : BV) : ∀ (n : Nat), ∀ (bM : BV) (x1 : Int32) (x2 : Int32) (x4 : Int32), f_6_ages_32 n bM x1 x2 x4 = some r → At p l e (rmD 3) s m args below meth c D 5 w0 (QV below args s D w0 (fun w => (wM t qM r) = w) 0 0) 0 0 32 [(0, .ref (qM 99)), (1, .int x1), (2, .int x2), (4, .int x4)] [] (wM t qM bM) := by
  intro n
  induction n with
  | zero =>
    intro bM x1 x2 x4 h0
    have h0 : none = some r := h0
    cases h0
  | succ n ih =>
    intro bM x1 x2 x4 h0
    exact t_6_ages_32_b C qM r _ ih bM x1 x2 x4 h0
def f_6_ages_9_b (k9 : BV → Int32 → Int32 → Int32 → Option (BV)) (bM : BV) (x1 : Int32) (x2 : Int32) (x3 : Int32) : Option (BV) :=
  (f_6_loanDays bM x1).bind (fun z8 => if (z8 >>> ((x3 + (1 : Int32)) &&& 31)) = 0 then (f_6_ages_32 200 bM x1 x2 (x3 + (1 : Int32))) else (k9 bM x1 x2 (x3 + (1 : Int32))))
theorem t_6_ages_9_b (C : CX p s m args meth c cX6_ages 5 none RX6 D t) (qM : Nat → Nat) (r : BV) (k9 : BV → Int32 → Int32 → Int32 → Option (BV)) (K9 : ∀ (bM : BV) (x1 : Int32) (x2 : Int32) (x3 : Int32), k9 bM x1 x2 x3 = some r → At p l e (rmD 3) s m args below meth c D 5 w0 (QV below args s D w0 (fun w => (wM t qM r) = w) 0 0) 0 0 9 [(0, .ref (qM 99)), (1, .int x1), (2, .int x2), (3, .int x3)] [] (wM t qM bM)) (bM : BV) (x1 : Int32) (x2 : Int32) (x3 : Int32) (h0 : f_6_ages_9_b k9 bM x1 x2 x3 = some r) : At p l e (rmD 3) s m args below meth c D 5 w0 (QV below args s D w0 (fun w => (wM t qM r) = w) 0 0) 0 0 9 [(0, .ref (qM 99)), (1, .int x1), (2, .int x2), (3, .int x3)] [] (wM t qM bM) := by
  unfold f_6_ages_9_b at h0
  refine A_aload_n C 0 dX6_ages_9 rfl rfl ?_
  refine A_iload_n C 1 dX6_ages_10 rfl rfl ?_
  obtain ⟨z8, hz8, h0⟩ := bind_some h0
  refine A_vI (As := [.int x1]) (rest := []) C 0 (c_6_loanDays l D t qM bM x1 hz8) mw_6_loanDays ml_6_122 im_6_loanDays sl_6_loanDays (rmok rfl rfl) (cut0 (wM t qM bM)) rfl (ci := 6) rfl rfl rfl (Nat.le_of_ble_eq_true rfl) dX6_ages_11 (fun x w1 hw1 => ?_)
  obtain ⟨rfl, rfl⟩ := hw1
  refine A_perm (ws' := (wM t qM bM)) ((cut0 _).symm) ?_
  refine A_iload_n C 3 dX6_ages_14 rfl rfl ?_
  refine A_iconst C (1 : Int32) dX6_ages_15 (by decide) ?_
  refine A_iadd C dX6_ages_16 ?_
  refine A_ishr C dX6_ages_17 ?_
  refine A_if_eq C 27 dX6_ages_18 (by decide) h0 (fun h0 => ?_) (fun h0 => ?_)
  · refine A_iload_n C 3 dX6_ages_27 rfl rfl ?_
    refine A_iconst C (1 : Int32) dX6_ages_28 (by decide) ?_
    refine A_iadd C dX6_ages_29 ?_
    refine A_istore C [(4, .int (x3 + (1 : Int32))), (0, .ref (qM 99)), (1, .int x1), (2, .int x2), (3, .int x3)] dX6_ages_30 (by decide) rfl ?_
    exact A_loc [1, 2, 3, 0] rfl (t_6_ages_32 C qM r 200 bM x1 x2 (x3 + (1 : Int32)) h0)
  · refine A_iinc C 3 (x3 + (1 : Int32)) [(3, .int (x3 + (1 : Int32))), (0, .ref (qM 99)), (1, .int x1), (2, .int x2)] dX6_ages_21 rfl rfl (by decide) rfl ?_
    refine A_goto C 9 dX6_ages_24 (by decide) ?_
    exact A_loc [1, 2, 3, 0] rfl (K9 bM x1 x2 (x3 + (1 : Int32)) h0)
def f_6_ages_9 : Nat → BV → Int32 → Int32 → Int32 → Option (BV)
  | 0 => fun _ _ _ _ => none
  | n + 1 => f_6_ages_9_b (f_6_ages_9 n)
theorem t_6_ages_9 (C : CX p s m args meth c cX6_ages 5 none RX6 D t) (qM : Nat → Nat) (r : BV) : ∀ (n : Nat), ∀ (bM : BV) (x1 : Int32) (x2 : Int32) (x3 : Int32), f_6_ages_9 n bM x1 x2 x3 = some r → At p l e (rmD 3) s m args below meth c D 5 w0 (QV below args s D w0 (fun w => (wM t qM r) = w) 0 0) 0 0 9 [(0, .ref (qM 99)), (1, .int x1), (2, .int x2), (3, .int x3)] [] (wM t qM bM) := by
  intro n
  induction n with
  | zero =>
    intro bM x1 x2 x3 h0
    have h0 : none = some r := h0
    cases h0
  | succ n ih =>
    intro bM x1 x2 x3 h0
    exact t_6_ages_9_b C qM r _ ih bM x1 x2 x3 h0
def f_6_ages (bM : BV) (x1 : Int32) : Option (BV) :=
  ck (inb (4 : Int32) 79) (f_6_ages_9 200 bM x1 (gA bM 7 (4 : Int32)) (0 : Int32))
theorem c_6_ages (l : Launch) (D : va_G) (t : ty4) (qM : Nat → Nat) (bM : BV) (x1 : Int32) {r : BV} (h0 : f_6_ages bM x1 = some r) : MetV l yX6_ages cX6_ages 5 none (rmD 3) D t [.ref (qM 99), .int x1] (wM t qM bM) (fun w => (wM t qM r) = w) := by
  refine MetV_of (by decide +kernel) (Nat.le_of_ble_eq_true rfl) (fun p e s m below meth c C _ => ?_)
  unfold f_6_ages at h0
  generalize hargs : (List.toArray [.ref (qM 99), .int x1] : Array Value) = args at C ⊢
  refine At.start (lv2 := [(0, .ref (qM 99)), (1, .int x1)]) rfl ?_
  refine A_aload_n C 0 dX6_ages_0 rfl rfl ?_
  refine A_get (v := .ref (qM 7)) C 0 7 inG6 (ci := 6) rfl (by decide) fl_6_16 rfl rfl rfl dX6_ages_1 ?_
  refine A_iconst C (4 : Int32) dX6_ages_4 (by decide) ?_
  refine A_iald C 3 (gA bM 7 (4 : Int32)) rfl rfl dX6_ages_5 h0 (fun h0 => ?_)
  refine A_istore_n C [(2, .int (gA bM 7 (4 : Int32))), (0, .ref (qM 99)), (1, .int x1)] dX6_ages_6 rfl (by decide) rfl ?_
  refine A_iconst C (0 : Int32) dX6_ages_7 (by decide) ?_
  refine A_istore_n C [(3, .int (0 : Int32)), (2, .int (gA bM 7 (4 : Int32))), (0, .ref (qM 99)), (1, .int x1)] dX6_ages_8 rfl (by decide) rfl ?_
  exact A_loc [2, 3, 1, 0] rfl (t_6_ages_9 C qM r 200 bM x1 (gA bM 7 (4 : Int32)) (0 : Int32) h0)
def f_6_undo_22_b (k22 : BV → Int32 → Option (Int32 × BV)) (bM : BV) (x1 : Int32) : Option (Int32 × BV) :=
  if (15 : Int32) ≤ x1 then (some ((gI bM 10), bM)) else (ck (inb (((15 : Int32) * (gI bM 10)) + x1) 150) (ck (inb x1 15) (bs (pA bM 8 x1 (gA bM 9 (((15 : Int32) * (gI bM 10)) + x1))) (fun b1 => k22 b1 (x1 + (1 : Int32))))))
theorem t_6_undo_22_b (C : CX p s m args meth c cX6_undo 2 (some .int) RX6 D t) (qM : Nat → Nat) (r : Int32 × BV) (k22 : BV → Int32 → Option (Int32 × BV)) (K22 : ∀ (bM : BV) (x1 : Int32), k22 bM x1 = some r → At p l e (rmD 0) s m args below meth c D 2 w0 (QI below args s D w0 (fun x w => r.1 = x ∧ (wM t qM r.2) = w) 0 0) 0 0 22 [(0, .ref (qM 99)), (1, .int x1)] [] (wM t qM bM)) (bM : BV) (x1 : Int32) (h0 : f_6_undo_22_b k22 bM x1 = some r) : At p l e (rmD 0) s m args below meth c D 2 w0 (QI below args s D w0 (fun x w => r.1 = x ∧ (wM t qM r.2) = w) 0 0) 0 0 22 [(0, .ref (qM 99)), (1, .int x1)] [] (wM t qM bM) := by
  unfold f_6_undo_22_b at h0
  refine A_iload_n C 1 dX6_undo_22 rfl rfl ?_
  refine A_bipush C (15 : Int32) dX6_undo_23 (by decide) ?_
  refine A_icmp_ge C 54 dX6_undo_25 (by decide) h0 (fun h0 => ?_) (fun h0 => ?_)
  · refine A_aload_n C 0 dX6_undo_54 rfl rfl ?_
    refine A_get (v := .int (gI bM 10)) C 0 10 inG6 (ci := 6) rfl (by decide) fl_6_113 rfl rfl rfl dX6_undo_55 ?_
    have h0 := Option.some.inj h0
    subst h0
    exact A_iret C dX6_undo_58 ⟨rfl, rfl⟩
  · refine A_aload_n C 0 dX6_undo_28 rfl rfl ?_
    refine A_get (v := .ref (qM 8)) C 0 8 inG6 (ci := 6) rfl (by decide) fl_6_19 rfl rfl rfl dX6_undo_29 ?_
    refine A_iload_n C 1 dX6_undo_32 rfl rfl ?_
    refine A_aload_n C 0 dX6_undo_33 rfl rfl ?_
    refine A_get (v := .ref (qM 9)) C 0 9 inG6 (ci := 6) rfl (by decide) fl_6_22 rfl rfl rfl dX6_undo_34 ?_
    refine A_bipush C (15 : Int32) dX6_undo_37 (by decide) ?_
    refine A_aload_n C 0 dX6_undo_39 rfl rfl ?_
    refine A_get (v := .int (gI bM 10)) C 0 10 inG6 (ci := 6) rfl (by decide) fl_6_113 rfl rfl rfl dX6_undo_40 ?_
    refine A_imul C dX6_undo_43 ?_
    refine A_iload_n C 1 dX6_undo_44 rfl rfl ?_
    refine A_iadd C dX6_undo_45 ?_
    refine A_iald C 5 (gA bM 9 (((15 : Int32) * (gI bM 10)) + x1)) rfl rfl dX6_undo_46 h0 (fun h0 => ?_)
    refine A_iast C 4 (wM t qM (pA bM 8 x1 (gA bM 9 (((15 : Int32) * (gI bM 10)) + x1)))) rfl rfl dX6_undo_47 h0 (fun h0 => ?_)
    obtain ⟨b1, hb1, h0⟩ := bs_some h0
    refine A_weq (wM t qM b1) (by rw [hb1]) ?_
    refine A_iinc C 1 (x1 + (1 : Int32)) [(1, .int (x1 + (1 : Int32))), (0, .ref (qM 99))] dX6_undo_48 rfl rfl (by decide) rfl ?_
    refine A_goto C 22 dX6_undo_51 (by decide) ?_
    exact A_loc [1, 0] rfl (K22 b1 (x1 + (1 : Int32)) h0)
def f_6_undo_22 : Nat → BV → Int32 → Option (Int32 × BV)
  | 0 => fun _ _ => none
  | n + 1 => f_6_undo_22_b (f_6_undo_22 n)
theorem t_6_undo_22 (C : CX p s m args meth c cX6_undo 2 (some .int) RX6 D t) (qM : Nat → Nat) (r : Int32 × BV) : ∀ (n : Nat), ∀ (bM : BV) (x1 : Int32), f_6_undo_22 n bM x1 = some r → At p l e (rmD 0) s m args below meth c D 2 w0 (QI below args s D w0 (fun x w => r.1 = x ∧ (wM t qM r.2) = w) 0 0) 0 0 22 [(0, .ref (qM 99)), (1, .int x1)] [] (wM t qM bM) := by
  intro n
  induction n with
  | zero =>
    intro bM x1 h0
    have h0 : none = some r := h0
    cases h0
  | succ n ih =>
    intro bM x1 h0
    exact t_6_undo_22_b C qM r _ ih bM x1 h0
def f_6_undo (bM : BV) : Option (Int32 × BV) :=
  if (gI bM 10) = 0 then (some ((-2 : Int32), bM)) else (f_6_undo_22 200 (pI bM 10 ((gI bM 10) - (1 : Int32))) (0 : Int32))
theorem c_6_undo (l : Launch) (D : va_G) (t : ty4) (qM : Nat → Nat) (bM : BV) {r : Int32 × BV} (h0 : f_6_undo bM = some r) : MetI l yX6_undo cX6_undo 2 (some .int) (rmD 0) D t [.ref (qM 99)] (wM t qM bM) (fun x w => r.1 = x ∧ (wM t qM r.2) = w) := by
  refine MetI_of (by decide +kernel) (Nat.le_of_ble_eq_true rfl) (fun p e s m below meth c C _ => ?_)
  unfold f_6_undo at h0
  generalize hargs : (List.toArray [.ref (qM 99)] : Array Value) = args at C ⊢
  refine At.start (lv2 := [(0, .ref (qM 99))]) rfl ?_
  refine A_aload_n C 0 dX6_undo_0 rfl rfl ?_
  refine A_get (v := .int (gI bM 10)) C 0 10 inG6 (ci := 6) rfl (by decide) fl_6_113 rfl rfl rfl dX6_undo_1 ?_
  refine A_if_ne C 10 dX6_undo_4 (by decide) h0 (fun h0 => ?_) (fun h0 => ?_)
  · refine A_aload_n C 0 dX6_undo_10 rfl rfl ?_
    refine A_dup C dX6_undo_11 rfl ?_
    refine A_get (v := .int (gI bM 10)) C 0 10 inG6 (ci := 6) rfl (by decide) fl_6_113 rfl rfl rfl dX6_undo_12 ?_
    refine A_iconst C (1 : Int32) dX6_undo_15 (by decide) ?_
    refine A_isub C dX6_undo_16 ?_
    refine A_put C 0 10 (wM t qM (pI bM 10 ((gI bM 10) - (1 : Int32)))) tyX6 inG6 tyX6_ok nmX6 (ci := 6) rfl (by decide) fl_6_113 rfl rfl rfl rfl rfl (Nat.le_of_ble_eq_true rfl) rfl dX6_undo_17 ?_
    refine A_iconst C (0 : Int32) dX6_undo_20 (by decide) ?_
    refine A_istore_n C [(1, .int (0 : Int32)), (0, .ref (qM 99))] dX6_undo_21 rfl (by decide) rfl ?_
    exact A_loc [1, 0] rfl (t_6_undo_22 C qM r 200 (pI bM 10 ((gI bM 10) - (1 : Int32))) (0 : Int32) h0)
  · refine A_bipush C (-2 : Int32) dX6_undo_7 (by decide) ?_
    have h0 := Option.some.inj h0
    subst h0
    exact A_iret C dX6_undo_9 ⟨rfl, rfl⟩
def f_6_gap_44 (bM : BV) (k6 : Int32 → Int32 → Int32 → Option (Int32)) (x2 : Int32) (x3 : Int32) (y0 : Int32) : Option (Int32) :=
  k6 y0 x2 (x3 + (1 : Int32))
theorem t_6_gap_44 (C : CX p s m args meth c cX6_gap 4 (some .int) RX6 D t) (qM : Nat → Nat) (bM : BV) (r : Int32) (k6 : Int32 → Int32 → Int32 → Option (Int32)) (K6 : ∀ (x1 : Int32) (x2 : Int32) (x3 : Int32), k6 x1 x2 x3 = some r → At p l e (rmD 3) s m args below meth c D 4 w0 (QI below args s D w0 (fun x w => r = x ∧ (wM t qM bM) = w) 0 0) 0 0 6 [(0, .ref (qM 99)), (1, .int x1), (2, .int x2), (3, .int x3)] [] (wM t qM bM)) (x2 : Int32) (x3 : Int32) (y0 : Int32) (h0 : f_6_gap_44 bM k6 x2 x3 y0 = some r) : At p l e (rmD 3) s m args below meth c D 4 w0 (QI below args s D w0 (fun x w => r = x ∧ (wM t qM bM) = w) 0 0) 0 0 44 [(0, .ref (qM 99)), (2, .int x2), (3, .int x3)] [.int y0] (wM t qM bM) := by
  unfold f_6_gap_44 at h0
  refine A_istore_n C [(1, .int y0), (0, .ref (qM 99)), (2, .int x2), (3, .int x3)] dX6_gap_44 rfl (by decide) rfl ?_
  refine A_iinc C 3 (x3 + (1 : Int32)) [(3, .int (x3 + (1 : Int32))), (1, .int y0), (0, .ref (qM 99)), (2, .int x2)] dX6_gap_45 rfl rfl (by decide) rfl ?_
  refine A_goto C 6 dX6_gap_48 (by decide) ?_
  exact A_loc [2, 1, 3, 0] rfl (K6 y0 x2 (x3 + (1 : Int32)) h0)
def f_6_gap_33 (bM : BV) (k6 : Int32 → Int32 → Int32 → Option (Int32)) (x1 : Int32) (x3 : Int32) (y0 : Int32) : Option (Int32) :=
  if y0 ≤ x1 then (f_6_gap_44 bM k6 y0 x3 x1) else (f_6_gap_44 bM k6 y0 x3 y0)
theorem t_6_gap_33 (C : CX p s m args meth c cX6_gap 4 (some .int) RX6 D t) (qM : Nat → Nat) (bM : BV) (r : Int32) (k6 : Int32 → Int32 → Int32 → Option (Int32)) (K6 : ∀ (x1 : Int32) (x2 : Int32) (x3 : Int32), k6 x1 x2 x3 = some r → At p l e (rmD 3) s m args below meth c D 4 w0 (QI below args s D w0 (fun x w => r = x ∧ (wM t qM bM) = w) 0 0) 0 0 6 [(0, .ref (qM 99)), (1, .int x1), (2, .int x2), (3, .int x3)] [] (wM t qM bM)) (x1 : Int32) (x3 : Int32) (y0 : Int32) (h0 : f_6_gap_33 bM k6 x1 x3 y0 = some r) : At p l e (rmD 3) s m args below meth c D 4 w0 (QI below args s D w0 (fun x w => r = x ∧ (wM t qM bM) = w) 0 0) 0 0 33 [(0, .ref (qM 99)), (1, .int x1), (3, .int x3)] [.int y0] (wM t qM bM) := by
  unfold f_6_gap_33 at h0
  refine A_istore_n C [(2, .int y0), (0, .ref (qM 99)), (1, .int x1), (3, .int x3)] dX6_gap_33 rfl (by decide) rfl ?_
  refine A_iload_n C 0 dX6_gap_34 rfl rfl ?_
  refine A_iload_n C 2 dX6_gap_35 rfl rfl ?_
  refine A_icmp_le C 43 dX6_gap_36 (by decide) h0 (fun h0 => ?_) (fun h0 => ?_)
  · refine A_iload_n C 2 dX6_gap_43 rfl rfl ?_
    exact A_loc [1, 0, 3] rfl (t_6_gap_44 C qM bM r k6 K6 y0 x3 x1 h0)
  · refine A_iload_n C 0 dX6_gap_39 rfl rfl ?_
    refine A_goto C 44 dX6_gap_40 (by decide) ?_
    exact A_loc [1, 0, 3] rfl (t_6_gap_44 C qM bM r k6 K6 y0 x3 y0 h0)
def f_6_gap_6_b (bM : BV) (k6 : Int32 → Int32 → Int32 → Option (Int32)) (x1 : Int32) (x2 : Int32) (x3 : Int32) : Option (Int32) :=
  (f_6_days bM).bind (fun z1 => if z1 ≤ x3 then (some x1) else ((f_6_notIn bM).bind (fun z2 => if ((z2 >>> (x3 &&& 31)) &&& (1 : Int32)) = (1 : Int32) then (f_6_gap_33 bM k6 x1 x3 (x2 + (1 : Int32))) else (f_6_gap_33 bM k6 x1 x3 (0 : Int32)))))
theorem t_6_gap_6_b (C : CX p s m args meth c cX6_gap 4 (some .int) RX6 D t) (qM : Nat → Nat) (bM : BV) (r : Int32) (k6 : Int32 → Int32 → Int32 → Option (Int32)) (K6 : ∀ (x1 : Int32) (x2 : Int32) (x3 : Int32), k6 x1 x2 x3 = some r → At p l e (rmD 3) s m args below meth c D 4 w0 (QI below args s D w0 (fun x w => r = x ∧ (wM t qM bM) = w) 0 0) 0 0 6 [(0, .ref (qM 99)), (1, .int x1), (2, .int x2), (3, .int x3)] [] (wM t qM bM)) (x1 : Int32) (x2 : Int32) (x3 : Int32) (h0 : f_6_gap_6_b bM k6 x1 x2 x3 = some r) : At p l e (rmD 3) s m args below meth c D 4 w0 (QI below args s D w0 (fun x w => r = x ∧ (wM t qM bM) = w) 0 0) 0 0 6 [(0, .ref (qM 99)), (1, .int x1), (2, .int x2), (3, .int x3)] [] (wM t qM bM) := by
  unfold f_6_gap_6_b at h0
  refine A_iload_n C 3 dX6_gap_6 rfl rfl ?_
  refine A_aload_n C 0 dX6_gap_7 rfl rfl ?_
  obtain ⟨z1, hz1, h0⟩ := bind_some h0
  refine A_vI (As := []) (rest := [.int x3]) C 0 (c_6_days l D t qM bM hz1) mw_6_days ml_6_116 im_6_days sl_6_days (rmok rfl rfl) (cut0 (wM t qM bM)) rfl (ci := 6) rfl rfl rfl (Nat.le_of_ble_eq_true rfl) dX6_gap_8 (fun x w1 hw1 => ?_)
  obtain ⟨rfl, rfl⟩ := hw1
  refine A_perm (ws' := (wM t qM bM)) ((cut0 _).symm) ?_
  refine A_icmp_ge C 51 dX6_gap_11 (by decide) h0 (fun h0 => ?_) (fun h0 => ?_)
  · refine A_iload_n C 1 dX6_gap_51 rfl rfl ?_
    have h0 := Option.some.inj h0
    subst h0
    exact A_iret C dX6_gap_52 ⟨rfl, rfl⟩
  · refine A_aload_n C 0 dX6_gap_14 rfl rfl ?_
    obtain ⟨z2, hz2, h0⟩ := bind_some h0
    refine A_vI (As := []) (rest := []) C 0 (c_6_notIn l D t qM bM hz2) mw_6_notIn ml_6_144 im_6_notIn sl_6_notIn (rmok rfl rfl) (cut0 (wM t qM bM)) rfl (ci := 6) rfl rfl rfl (Nat.le_of_ble_eq_true rfl) dX6_gap_15 (fun x w1 hw1 => ?_)
    obtain ⟨rfl, rfl⟩ := hw1
    refine A_perm (ws' := (wM t qM bM)) ((cut0 _).symm) ?_
    refine A_iload_n C 3 dX6_gap_18 rfl rfl ?_
    refine A_ishr C dX6_gap_19 ?_
    refine A_iconst C (1 : Int32) dX6_gap_20 (by decide) ?_
    refine A_iand C dX6_gap_21 ?_
    refine A_iconst C (1 : Int32) dX6_gap_22 (by decide) ?_
    refine A_icmp_ne C 32 dX6_gap_23 (by decide) h0 (fun h0 => ?_) (fun h0 => ?_)
    · refine A_iconst C (0 : Int32) dX6_gap_32 (by decide) ?_
      exact A_loc [0, 1, 3] rfl (t_6_gap_33 C qM bM r k6 K6 x1 x3 (0 : Int32) h0)
    · refine A_iload_n C 2 dX6_gap_26 rfl rfl ?_
      refine A_iconst C (1 : Int32) dX6_gap_27 (by decide) ?_
      refine A_iadd C dX6_gap_28 ?_
      refine A_goto C 33 dX6_gap_29 (by decide) ?_
      exact A_loc [0, 1, 3] rfl (t_6_gap_33 C qM bM r k6 K6 x1 x3 (x2 + (1 : Int32)) h0)
def f_6_gap_6 (bM : BV) : Nat → Int32 → Int32 → Int32 → Option (Int32)
  | 0 => fun _ _ _ => none
  | n + 1 => f_6_gap_6_b bM (f_6_gap_6 bM n)
theorem t_6_gap_6 (C : CX p s m args meth c cX6_gap 4 (some .int) RX6 D t) (qM : Nat → Nat) (bM : BV) (r : Int32) : ∀ (n : Nat), ∀ (x1 : Int32) (x2 : Int32) (x3 : Int32), f_6_gap_6 bM n x1 x2 x3 = some r → At p l e (rmD 3) s m args below meth c D 4 w0 (QI below args s D w0 (fun x w => r = x ∧ (wM t qM bM) = w) 0 0) 0 0 6 [(0, .ref (qM 99)), (1, .int x1), (2, .int x2), (3, .int x3)] [] (wM t qM bM) := by
  intro n
  induction n with
  | zero =>
    intro x1 x2 x3 h0
    have h0 : none = some r := h0
    cases h0
  | succ n ih =>
    intro x1 x2 x3 h0
    exact t_6_gap_6_b C qM bM r _ ih x1 x2 x3 h0
def f_6_gap (bM : BV) : Option (Int32) :=
  f_6_gap_6 bM 200 (0 : Int32) (0 : Int32) (0 : Int32)
theorem c_6_gap (l : Launch) (D : va_G) (t : ty4) (qM : Nat → Nat) (bM : BV) {r : Int32} (h0 : f_6_gap bM = some r) : MetI l yX6_gap cX6_gap 4 (some .int) (rmD 3) D t [.ref (qM 99)] (wM t qM bM) (fun x w => r = x ∧ (wM t qM bM) = w) := by
  refine MetI_of (by decide +kernel) (Nat.le_of_ble_eq_true rfl) (fun p e s m below meth c C _ => ?_)
  unfold f_6_gap at h0
  generalize hargs : (List.toArray [.ref (qM 99)] : Array Value) = args at C ⊢
  refine At.start (lv2 := [(0, .ref (qM 99))]) rfl ?_
  refine A_iconst C (0 : Int32) dX6_gap_0 (by decide) ?_
  refine A_istore_n C [(1, .int (0 : Int32)), (0, .ref (qM 99))] dX6_gap_1 rfl (by decide) rfl ?_
  refine A_iconst C (0 : Int32) dX6_gap_2 (by decide) ?_
  refine A_istore_n C [(2, .int (0 : Int32)), (1, .int (0 : Int32)), (0, .ref (qM 99))] dX6_gap_3 rfl (by decide) rfl ?_
  refine A_iconst C (0 : Int32) dX6_gap_4 (by decide) ?_
  refine A_istore_n C [(3, .int (0 : Int32)), (2, .int (0 : Int32)), (1, .int (0 : Int32)), (0, .ref (qM 99))] dX6_gap_5 rfl (by decide) rfl ?_
  exact A_loc [3, 2, 1, 0] rfl (t_6_gap_6 C qM bM r 200 (0 : Int32) (0 : Int32) (0 : Int32) h0)
def f_6_now (bM : BV) (x1 : Int32) : Option (Int32) :=
  if x1 = (0 : Int32) then (ck (inb x1 15) (some (gA bM 8 x1))) else (if x1 = (1 : Int32) then (ck (inb x1 15) (some (gA bM 8 x1))) else (if x1 = (2 : Int32) then ((f_6_out bM).bind (fun z1 => some z1)) else (if x1 = (3 : Int32) then (ck (inb (2 : Int32) 15) (some (gA bM 8 (2 : Int32)))) else (if x1 = (4 : Int32) then ((f_6_notIn bM).bind (fun z2 => (f_6_harvest bM z2).bind (fun z3 => some z3))) else (if x1 = (5 : Int32) then ((f_6_gap bM).bind (fun z4 => some z4)) else (if x1 = (6 : Int32) then ((f_6_lent bM (0 : Int32)).bind (fun z5 => (f_6_lent bM (1 : Int32)).bind (fun z6 => (f_6_lent bM (2 : Int32)).bind (fun z7 => (f_6_lent bM (3 : Int32)).bind (fun z8 => some (((z5 + z6) + z7) + z8)))))) else (some (-1 : Int32))))))))
theorem c_6_now (l : Launch) (D : va_G) (t : ty4) (qM : Nat → Nat) (bM : BV) (x1 : Int32) {r : Int32} (h0 : f_6_now bM x1 = some r) : MetI l yX6_now cX6_now 2 (some .int) (rmD 4) D t [.ref (qM 99), .int x1] (wM t qM bM) (fun x w => r = x ∧ (wM t qM bM) = w) := by
  refine MetI_of (by decide +kernel) (Nat.le_of_ble_eq_true rfl) (fun p e s m below meth c C _ => ?_)
  unfold f_6_now at h0
  generalize hargs : (List.toArray [.ref (qM 99), .int x1] : Array Value) = args at C ⊢
  refine At.start (lv2 := [(0, .ref (qM 99)), (1, .int x1)]) rfl ?_
  refine A_iload_n C 1 dX6_now_0 rfl rfl ?_
  refine sw_split h0 (fun hx h0 => ?_) (fun hn0 h0 => ?_)
  · refine A_tabIn C 44 dX6_now_1 (by rw [hx]; decide) (by rw [hx]; decide) (by rw [hx]; rfl) (by decide) ?_
    refine A_aload_n C 0 dX6_now_44 rfl rfl ?_
    refine A_get (v := .ref (qM 8)) C 0 8 inG6 (ci := 6) rfl (by decide) fl_6_19 rfl rfl rfl dX6_now_45 ?_
    refine A_iload_n C 1 dX6_now_48 rfl rfl ?_
    refine A_iald C 4 (gA bM 8 x1) rfl rfl dX6_now_49 h0 (fun h0 => ?_)
    have h0 := Option.some.inj h0
    subst h0
    exact A_iret C dX6_now_50 ⟨rfl, rfl⟩
  ·
    refine sw_split h0 (fun hx h0 => ?_) (fun hn1 h0 => ?_)
    · refine A_tabIn C 44 dX6_now_1 (by rw [hx]; decide) (by rw [hx]; decide) (by rw [hx]; rfl) (by decide) ?_
      refine A_aload_n C 0 dX6_now_44 rfl rfl ?_
      refine A_get (v := .ref (qM 8)) C 0 8 inG6 (ci := 6) rfl (by decide) fl_6_19 rfl rfl rfl dX6_now_45 ?_
      refine A_iload_n C 1 dX6_now_48 rfl rfl ?_
      refine A_iald C 4 (gA bM 8 x1) rfl rfl dX6_now_49 h0 (fun h0 => ?_)
      have h0 := Option.some.inj h0
      subst h0
      exact A_iret C dX6_now_50 ⟨rfl, rfl⟩
    ·
      refine sw_split h0 (fun hx h0 => ?_) (fun hn2 h0 => ?_)
      · refine A_tabIn C 51 dX6_now_1 (by rw [hx]; decide) (by rw [hx]; decide) (by rw [hx]; rfl) (by decide) ?_
        refine A_aload_n C 0 dX6_now_51 rfl rfl ?_
        obtain ⟨z1, hz1, h0⟩ := bind_some h0
        refine A_vI (As := []) (rest := []) C 0 (c_6_out l D t qM bM hz1) mw_6_out ml_6_126 im_6_out sl_6_out (rmok rfl rfl) (cut0 (wM t qM bM)) rfl (ci := 6) rfl rfl rfl (Nat.le_of_ble_eq_true rfl) dX6_now_52 (fun x w1 hw1 => ?_)
        obtain ⟨rfl, rfl⟩ := hw1
        refine A_perm (ws' := (wM t qM bM)) ((cut0 _).symm) ?_
        have h0 := Option.some.inj h0
        subst h0
        exact A_iret C dX6_now_55 ⟨rfl, rfl⟩
      ·
        refine sw_split h0 (fun hx h0 => ?_) (fun hn3 h0 => ?_)
        · refine A_tabIn C 56 dX6_now_1 (by rw [hx]; decide) (by rw [hx]; decide) (by rw [hx]; rfl) (by decide) ?_
          refine A_aload_n C 0 dX6_now_56 rfl rfl ?_
          refine A_get (v := .ref (qM 8)) C 0 8 inG6 (ci := 6) rfl (by decide) fl_6_19 rfl rfl rfl dX6_now_57 ?_
          refine A_iconst C (2 : Int32) dX6_now_60 (by decide) ?_
          refine A_iald C 4 (gA bM 8 (2 : Int32)) rfl rfl dX6_now_61 h0 (fun h0 => ?_)
          have h0 := Option.some.inj h0
          subst h0
          exact A_iret C dX6_now_62 ⟨rfl, rfl⟩
        ·
          refine sw_split h0 (fun hx h0 => ?_) (fun hn4 h0 => ?_)
          · refine A_tabIn C 63 dX6_now_1 (by rw [hx]; decide) (by rw [hx]; decide) (by rw [hx]; rfl) (by decide) ?_
            refine A_aload_n C 0 dX6_now_63 rfl rfl ?_
            refine A_aload_n C 0 dX6_now_64 rfl rfl ?_
            obtain ⟨z2, hz2, h0⟩ := bind_some h0
            refine A_vI (As := []) (rest := [.ref (qM 99)]) C 0 (c_6_notIn l D t qM bM hz2) mw_6_notIn ml_6_144 im_6_notIn sl_6_notIn (rmok rfl rfl) (cut0 (wM t qM bM)) rfl (ci := 6) rfl rfl rfl (Nat.le_of_ble_eq_true rfl) dX6_now_65 (fun x w1 hw1 => ?_)
            obtain ⟨rfl, rfl⟩ := hw1
            refine A_perm (ws' := (wM t qM bM)) ((cut0 _).symm) ?_
            obtain ⟨z3, hz3, h0⟩ := bind_some h0
            refine A_vI (As := [.int z2]) (rest := []) C 0 (c_6_harvest l D t qM bM z2 hz3) mw_6_harvest ml_6_173 im_6_harvest sl_6_harvest (rmok rfl rfl) (cut0 (wM t qM bM)) rfl (ci := 6) rfl rfl rfl (Nat.le_of_ble_eq_true rfl) dX6_now_68 (fun x w1 hw1 => ?_)
            obtain ⟨rfl, rfl⟩ := hw1
            refine A_perm (ws' := (wM t qM bM)) ((cut0 _).symm) ?_
            have h0 := Option.some.inj h0
            subst h0
            exact A_iret C dX6_now_71 ⟨rfl, rfl⟩
          ·
            refine sw_split h0 (fun hx h0 => ?_) (fun hn5 h0 => ?_)
            · refine A_tabIn C 72 dX6_now_1 (by rw [hx]; decide) (by rw [hx]; decide) (by rw [hx]; rfl) (by decide) ?_
              refine A_aload_n C 0 dX6_now_72 rfl rfl ?_
              obtain ⟨z4, hz4, h0⟩ := bind_some h0
              refine A_vI (As := []) (rest := []) C 0 (c_6_gap l D t qM bM hz4) mw_6_gap ml_6_182 im_6_gap sl_6_gap (rmok rfl rfl) (cut0 (wM t qM bM)) rfl (ci := 6) rfl rfl rfl (Nat.le_of_ble_eq_true rfl) dX6_now_73 (fun x w1 hw1 => ?_)
              obtain ⟨rfl, rfl⟩ := hw1
              refine A_perm (ws' := (wM t qM bM)) ((cut0 _).symm) ?_
              have h0 := Option.some.inj h0
              subst h0
              exact A_iret C dX6_now_76 ⟨rfl, rfl⟩
            ·
              refine sw_split h0 (fun hx h0 => ?_) (fun hn6 h0 => ?_)
              · refine A_tabIn C 77 dX6_now_1 (by rw [hx]; decide) (by rw [hx]; decide) (by rw [hx]; rfl) (by decide) ?_
                refine A_aload_n C 0 dX6_now_77 rfl rfl ?_
                refine A_iconst C (0 : Int32) dX6_now_78 (by decide) ?_
                obtain ⟨z5, hz5, h0⟩ := bind_some h0
                refine A_vI (As := [.int (0 : Int32)]) (rest := []) C 0 (c_6_lent l D t qM bM (0 : Int32) hz5) mw_6_lent ml_6_166 im_6_lent sl_6_lent (rmok rfl rfl) (cut0 (wM t qM bM)) rfl (ci := 6) rfl rfl rfl (Nat.le_of_ble_eq_true rfl) dX6_now_79 (fun x w1 hw1 => ?_)
                obtain ⟨rfl, rfl⟩ := hw1
                refine A_perm (ws' := (wM t qM bM)) ((cut0 _).symm) ?_
                refine A_aload_n C 0 dX6_now_82 rfl rfl ?_
                refine A_iconst C (1 : Int32) dX6_now_83 (by decide) ?_
                obtain ⟨z6, hz6, h0⟩ := bind_some h0
                refine A_vI (As := [.int (1 : Int32)]) (rest := [.int z5]) C 0 (c_6_lent l D t qM bM (1 : Int32) hz6) mw_6_lent ml_6_166 im_6_lent sl_6_lent (rmok rfl rfl) (cut0 (wM t qM bM)) rfl (ci := 6) rfl rfl rfl (Nat.le_of_ble_eq_true rfl) dX6_now_84 (fun x w1 hw1 => ?_)
                obtain ⟨rfl, rfl⟩ := hw1
                refine A_perm (ws' := (wM t qM bM)) ((cut0 _).symm) ?_
                refine A_iadd C dX6_now_87 ?_
                refine A_aload_n C 0 dX6_now_88 rfl rfl ?_
                refine A_iconst C (2 : Int32) dX6_now_89 (by decide) ?_
                obtain ⟨z7, hz7, h0⟩ := bind_some h0
                refine A_vI (As := [.int (2 : Int32)]) (rest := [.int (z5 + z6)]) C 0 (c_6_lent l D t qM bM (2 : Int32) hz7) mw_6_lent ml_6_166 im_6_lent sl_6_lent (rmok rfl rfl) (cut0 (wM t qM bM)) rfl (ci := 6) rfl rfl rfl (Nat.le_of_ble_eq_true rfl) dX6_now_90 (fun x w1 hw1 => ?_)
                obtain ⟨rfl, rfl⟩ := hw1
                refine A_perm (ws' := (wM t qM bM)) ((cut0 _).symm) ?_
                refine A_iadd C dX6_now_93 ?_
                refine A_aload_n C 0 dX6_now_94 rfl rfl ?_
                refine A_iconst C (3 : Int32) dX6_now_95 (by decide) ?_
                obtain ⟨z8, hz8, h0⟩ := bind_some h0
                refine A_vI (As := [.int (3 : Int32)]) (rest := [.int ((z5 + z6) + z7)]) C 0 (c_6_lent l D t qM bM (3 : Int32) hz8) mw_6_lent ml_6_166 im_6_lent sl_6_lent (rmok rfl rfl) (cut0 (wM t qM bM)) rfl (ci := 6) rfl rfl rfl (Nat.le_of_ble_eq_true rfl) dX6_now_96 (fun x w1 hw1 => ?_)
                obtain ⟨rfl, rfl⟩ := hw1
                refine A_perm (ws' := (wM t qM bM)) ((cut0 _).symm) ?_
                refine A_iadd C dX6_now_99 ?_
                have h0 := Option.some.inj h0
                subst h0
                exact A_iret C dX6_now_100 ⟨rfl, rfl⟩
              ·
                have hn0 := lv_neT hn0 (k := (0 : Int32)) (a := 0) (by decide)
                have hn1 := lv_neT hn1 (k := (1 : Int32)) (a := 1) (by decide)
                have hn2 := lv_neT hn2 (k := (2 : Int32)) (a := 2) (by decide)
                have hn3 := lv_neT hn3 (k := (3 : Int32)) (a := 3) (by decide)
                have hn4 := lv_neT hn4 (k := (4 : Int32)) (a := 4) (by decide)
                have hn5 := lv_neT hn5 (k := (5 : Int32)) (a := 5) (by decide)
                have hn6 := lv_neT hn6 (k := (6 : Int32)) (a := 6) (by decide)
                refine A_tabOut C 101 dX6_now_1 (by omega) (by decide) ?_
                refine A_iconst C (-1 : Int32) dX6_now_101 (by decide) ?_
                have h0 := Option.some.inj h0
                subst h0
                exact A_iret C dX6_now_102 ⟨rfl, rfl⟩
def f_6_lends_30 (bM : BV) (y0 : Int32) : Option (Int32) :=
  some y0
theorem t_6_lends_30 (C : CX p s m args meth c cX6_lends 3 (some .int) RX6 D t) (qM : Nat → Nat) (bM : BV) (r : Int32) (y0 : Int32) (h0 : f_6_lends_30 bM y0 = some r) : At p l e (rmD 2) s m args below meth c D 3 w0 (QI below args s D w0 (fun x w => r = x ∧ (wM t qM bM) = w) 0 0) 0 0 30 [] [.int y0] (wM t qM bM) := by
  unfold f_6_lends_30 at h0
  have h0 := Option.some.inj h0
  subst h0
  exact A_iret C dX6_lends_30 ⟨rfl, rfl⟩
def f_6_lends_29 (bM : BV) : Option (Int32) :=
  f_6_lends_30 bM (-1 : Int32)
theorem t_6_lends_29 (C : CX p s m args meth c cX6_lends 3 (some .int) RX6 D t) (qM : Nat → Nat) (bM : BV) (r : Int32) (h0 : f_6_lends_29 bM = some r) : At p l e (rmD 2) s m args below meth c D 3 w0 (QI below args s D w0 (fun x w => r = x ∧ (wM t qM bM) = w) 0 0) 0 0 29 [] [] (wM t qM bM) := by
  unfold f_6_lends_29 at h0
  refine A_iconst C (-1 : Int32) dX6_lends_29 (by decide) ?_
  exact A_loc [] rfl (t_6_lends_30 C qM bM r (-1 : Int32) h0)
def f_6_lends (bM : BV) (x1 : Int32) (x2 : Int32) : Option (Int32) :=
  (f_6_isDay bM x1).bind (fun z1 => if z1 = 0 then (f_6_lends_29 bM) else ((f_6_in (x2).toInt64 (1 : Int64) (9 : Int64)).bind (fun z2 => if z2 = 0 then (f_6_lends_29 bM) else ((f_6_lendsOf bM x1 x2).bind (fun z3 => f_6_lends_30 bM z3)))))
theorem c_6_lends (l : Launch) (D : va_G) (t : ty4) (qM : Nat → Nat) (bM : BV) (x1 : Int32) (x2 : Int32) {r : Int32} (h0 : f_6_lends bM x1 x2 = some r) : MetI l yX6_lends cX6_lends 3 (some .int) (rmD 2) D t [.ref (qM 99), .int x1, .int x2] (wM t qM bM) (fun x w => r = x ∧ (wM t qM bM) = w) := by
  refine MetI_of (by decide +kernel) (Nat.le_of_ble_eq_true rfl) (fun p e s m below meth c C _ => ?_)
  unfold f_6_lends at h0
  generalize hargs : (List.toArray [.ref (qM 99), .int x1, .int x2] : Array Value) = args at C ⊢
  refine At.start (lv2 := [(0, .ref (qM 99)), (1, .int x1), (2, .int x2)]) rfl ?_
  refine A_aload_n C 0 dX6_lends_0 rfl rfl ?_
  refine A_iload_n C 1 dX6_lends_1 rfl rfl ?_
  obtain ⟨z1, hz1, h0⟩ := bind_some h0
  refine A_vI (As := [.int x1]) (rest := []) C 0 (c_6_isDay l D t qM bM x1 hz1) mw_6_isDay ml_6_136 im_6_isDay sl_6_isDay (rmok rfl rfl) (cut0 (wM t qM bM)) rfl (ci := 6) rfl rfl rfl (Nat.le_of_ble_eq_true rfl) dX6_lends_2 (fun x w1 hw1 => ?_)
  obtain ⟨rfl, rfl⟩ := hw1
  refine A_perm (ws' := (wM t qM bM)) ((cut0 _).symm) ?_
  refine A_if_eq C 29 dX6_lends_5 (by decide) h0 (fun h0 => ?_) (fun h0 => ?_)
  · exact A_loc [] rfl (t_6_lends_29 C qM bM r h0)
  · refine A_iload_n C 2 dX6_lends_8 rfl rfl ?_
    refine A_i2l C dX6_lends_9 ?_
    refine A_lconst C (1 : Int64) dX6_lends_10 (by decide) ?_
    refine A_ldc2 (v := (9 : Int64)) C cl_6_155 dX6_lends_11 ?_
    obtain ⟨z2, hz2, h0⟩ := bind_some h0
    refine A_sI (As := [.long (x2).toInt64, .long (1 : Int64), .long (9 : Int64)]) (rest := []) C (c_6_in l D t (x2).toInt64 (1 : Int64) (9 : Int64) hz2) mw_6_in ml_6_45 st_6_in (rmok rfl rfl) (cutN (wM t qM bM)) rfl rfl (Nat.le_of_ble_eq_true rfl) dX6_lends_14 (fun x w1 hw1 => ?_)
    obtain ⟨rfl, rfl⟩ := hw1
    refine A_perm (ws' := (wM t qM bM)) ((cutN _).symm) ?_
    refine A_if_eq C 29 dX6_lends_17 (by decide) h0 (fun h0 => ?_) (fun h0 => ?_)
    · exact A_loc [] rfl (t_6_lends_29 C qM bM r h0)
    · refine A_aload_n C 0 dX6_lends_20 rfl rfl ?_
      refine A_iload_n C 1 dX6_lends_21 rfl rfl ?_
      refine A_iload_n C 2 dX6_lends_22 rfl rfl ?_
      obtain ⟨z3, hz3, h0⟩ := bind_some h0
      refine A_vI (As := [.int x1, .int x2]) (rest := []) C 0 (c_6_lendsOf l D t qM bM x1 x2 hz3) mw_6_lendsOf ml_6_163 im_6_lendsOf sl_6_lendsOf (rmok rfl rfl) (cut0 (wM t qM bM)) rfl (ci := 6) rfl rfl rfl (Nat.le_of_ble_eq_true rfl) dX6_lends_23 (fun x w1 hw1 => ?_)
      obtain ⟨rfl, rfl⟩ := hw1
      refine A_perm (ws' := (wM t qM bM)) ((cut0 _).symm) ?_
      refine A_goto C 30 dX6_lends_26 (by decide) ?_
      exact A_loc [] rfl (t_6_lends_30 C qM bM r z3 h0)
def f_6_cheap_192 (bM : BV) (y0 : Int32) : Option (Int32) :=
  some y0
theorem t_6_cheap_192 (C : CX p s m args meth c cX6_cheap 10 (some .int) RX6 D t) (qM : Nat → Nat) (bM : BV) (r : Int32) (y0 : Int32) (h0 : f_6_cheap_192 bM y0 = some r) : At p l e (rmD 4) s m args below meth c D 10 w0 (QI below args s D w0 (fun x w => r = x ∧ (wM t qM bM) = w) 0 0) 0 0 192 [] [.int y0] (wM t qM bM) := by
  unfold f_6_cheap_192 at h0
  have h0 := Option.some.inj h0
  subst h0
  exact A_iret C dX6_cheap_192 ⟨rfl, rfl⟩
def f_6_cheap_160 (bM : BV) (k40 : Int32 → Int32 → Int32 → Int32 → Int32 → Int32 → Option (Int32)) (k50 : Int32 → Int32 → Int32 → Int32 → Int32 → Int32 → Int32 → Option (Int32)) (x1 : Int32) (x2 : Int32) (x3 : Int32) (x4 : Int32) (x5 : Int32) (x6 : Int32) (x7 : Int32) : Option (Int32) :=
  k50 x1 x2 x3 x4 x5 x6 (x7 + (1 : Int32))
theorem t_6_cheap_160 (C : CX p s m args meth c cX6_cheap 10 (some .int) RX6 D t) (qM : Nat → Nat) (bM : BV) (r : Int32) (k40 : Int32 → Int32 → Int32 → Int32 → Int32 → Int32 → Option (Int32)) (K40 : ∀ (x1 : Int32) (x2 : Int32) (x3 : Int32) (x4 : Int32) (x5 : Int32) (x6 : Int32), k40 x1 x2 x3 x4 x5 x6 = some r → At p l e (rmD 4) s m args below meth c D 10 w0 (QI below args s D w0 (fun x w => r = x ∧ (wM t qM bM) = w) 0 0) 0 0 40 [(0, .ref (qM 99)), (1, .int x1), (2, .int x2), (3, .int x3), (4, .int x4), (5, .int x5), (6, .int x6)] [] (wM t qM bM)) (k50 : Int32 → Int32 → Int32 → Int32 → Int32 → Int32 → Int32 → Option (Int32)) (K50 : ∀ (x1 : Int32) (x2 : Int32) (x3 : Int32) (x4 : Int32) (x5 : Int32) (x6 : Int32) (x7 : Int32), k50 x1 x2 x3 x4 x5 x6 x7 = some r → At p l e (rmD 4) s m args below meth c D 10 w0 (QI below args s D w0 (fun x w => r = x ∧ (wM t qM bM) = w) 0 0) 0 0 50 [(0, .ref (qM 99)), (1, .int x1), (2, .int x2), (3, .int x3), (4, .int x4), (5, .int x5), (6, .int x6), (7, .int x7)] [] (wM t qM bM)) (x1 : Int32) (x2 : Int32) (x3 : Int32) (x4 : Int32) (x5 : Int32) (x6 : Int32) (x7 : Int32) (h0 : f_6_cheap_160 bM k40 k50 x1 x2 x3 x4 x5 x6 x7 = some r) : At p l e (rmD 4) s m args below meth c D 10 w0 (QI below args s D w0 (fun x w => r = x ∧ (wM t qM bM) = w) 0 0) 0 0 160 [(0, .ref (qM 99)), (1, .int x1), (2, .int x2), (3, .int x3), (4, .int x4), (5, .int x5), (6, .int x6), (7, .int x7)] [] (wM t qM bM) := by
  unfold f_6_cheap_160 at h0
  refine A_iinc C 7 (x7 + (1 : Int32)) [(7, .int (x7 + (1 : Int32))), (0, .ref (qM 99)), (1, .int x1), (2, .int x2), (3, .int x3), (4, .int x4), (5, .int x5), (6, .int x6)] dX6_cheap_160 rfl rfl (by decide) rfl ?_
  refine A_goto C 50 dX6_cheap_163 (by decide) ?_
  exact A_loc [1, 2, 3, 4, 5, 6, 7, 0] rfl (K50 x1 x2 x3 x4 x5 x6 (x7 + (1 : Int32)) h0)
def f_6_cheap_158 (bM : BV) (k40 : Int32 → Int32 → Int32 → Int32 → Int32 → Int32 → Option (Int32)) (k50 : Int32 → Int32 → Int32 → Int32 → Int32 → Int32 → Int32 → Option (Int32)) (x1 : Int32) (x2 : Int32) (x3 : Int32) (x4 : Int32) (x6 : Int32) (x7 : Int32) (y0 : Int32) : Option (Int32) :=
  f_6_cheap_160 bM k40 k50 x1 x2 x3 x4 y0 x6 x7
theorem t_6_cheap_158 (C : CX p s m args meth c cX6_cheap 10 (some .int) RX6 D t) (qM : Nat → Nat) (bM : BV) (r : Int32) (k40 : Int32 → Int32 → Int32 → Int32 → Int32 → Int32 → Option (Int32)) (K40 : ∀ (x1 : Int32) (x2 : Int32) (x3 : Int32) (x4 : Int32) (x5 : Int32) (x6 : Int32), k40 x1 x2 x3 x4 x5 x6 = some r → At p l e (rmD 4) s m args below meth c D 10 w0 (QI below args s D w0 (fun x w => r = x ∧ (wM t qM bM) = w) 0 0) 0 0 40 [(0, .ref (qM 99)), (1, .int x1), (2, .int x2), (3, .int x3), (4, .int x4), (5, .int x5), (6, .int x6)] [] (wM t qM bM)) (k50 : Int32 → Int32 → Int32 → Int32 → Int32 → Int32 → Int32 → Option (Int32)) (K50 : ∀ (x1 : Int32) (x2 : Int32) (x3 : Int32) (x4 : Int32) (x5 : Int32) (x6 : Int32) (x7 : Int32), k50 x1 x2 x3 x4 x5 x6 x7 = some r → At p l e (rmD 4) s m args below meth c D 10 w0 (QI below args s D w0 (fun x w => r = x ∧ (wM t qM bM) = w) 0 0) 0 0 50 [(0, .ref (qM 99)), (1, .int x1), (2, .int x2), (3, .int x3), (4, .int x4), (5, .int x5), (6, .int x6), (7, .int x7)] [] (wM t qM bM)) (x1 : Int32) (x2 : Int32) (x3 : Int32) (x4 : Int32) (x6 : Int32) (x7 : Int32) (y0 : Int32) (h0 : f_6_cheap_158 bM k40 k50 x1 x2 x3 x4 x6 x7 y0 = some r) : At p l e (rmD 4) s m args below meth c D 10 w0 (QI below args s D w0 (fun x w => r = x ∧ (wM t qM bM) = w) 0 0) 0 0 158 [(0, .ref (qM 99)), (1, .int x1), (2, .int x2), (3, .int x3), (4, .int x4), (6, .int x6), (7, .int x7)] [.int y0] (wM t qM bM) := by
  unfold f_6_cheap_158 at h0
  refine A_istore C [(5, .int y0), (0, .ref (qM 99)), (1, .int x1), (2, .int x2), (3, .int x3), (4, .int x4), (6, .int x6), (7, .int x7)] dX6_cheap_158 (by decide) rfl ?_
  exact A_loc [1, 2, 3, 4, 5, 0, 6, 7] rfl (t_6_cheap_160 C qM bM r k40 K40 k50 K50 x1 x2 x3 x4 y0 x6 x7 h0)
def f_6_cheap_144 (bM : BV) (k40 : Int32 → Int32 → Int32 → Int32 → Int32 → Int32 → Option (Int32)) (k50 : Int32 → Int32 → Int32 → Int32 → Int32 → Int32 → Int32 → Option (Int32)) (x1 : Int32) (x2 : Int32) (x3 : Int32) (x5 : Int32) (x6 : Int32) (x7 : Int32) (x8 : Int32) (x9 : Int32) (y0 : Int32) : Option (Int32) :=
  if x9 = 0 then (f_6_cheap_158 bM k40 k50 x1 x2 x3 y0 x6 x7 x5) else (f_6_cheap_158 bM k40 k50 x1 x2 x3 y0 x6 x7 x8)
theorem t_6_cheap_144 (C : CX p s m args meth c cX6_cheap 10 (some .int) RX6 D t) (qM : Nat → Nat) (bM : BV) (r : Int32) (k40 : Int32 → Int32 → Int32 → Int32 → Int32 → Int32 → Option (Int32)) (K40 : ∀ (x1 : Int32) (x2 : Int32) (x3 : Int32) (x4 : Int32) (x5 : Int32) (x6 : Int32), k40 x1 x2 x3 x4 x5 x6 = some r → At p l e (rmD 4) s m args below meth c D 10 w0 (QI below args s D w0 (fun x w => r = x ∧ (wM t qM bM) = w) 0 0) 0 0 40 [(0, .ref (qM 99)), (1, .int x1), (2, .int x2), (3, .int x3), (4, .int x4), (5, .int x5), (6, .int x6)] [] (wM t qM bM)) (k50 : Int32 → Int32 → Int32 → Int32 → Int32 → Int32 → Int32 → Option (Int32)) (K50 : ∀ (x1 : Int32) (x2 : Int32) (x3 : Int32) (x4 : Int32) (x5 : Int32) (x6 : Int32) (x7 : Int32), k50 x1 x2 x3 x4 x5 x6 x7 = some r → At p l e (rmD 4) s m args below meth c D 10 w0 (QI below args s D w0 (fun x w => r = x ∧ (wM t qM bM) = w) 0 0) 0 0 50 [(0, .ref (qM 99)), (1, .int x1), (2, .int x2), (3, .int x3), (4, .int x4), (5, .int x5), (6, .int x6), (7, .int x7)] [] (wM t qM bM)) (x1 : Int32) (x2 : Int32) (x3 : Int32) (x5 : Int32) (x6 : Int32) (x7 : Int32) (x8 : Int32) (x9 : Int32) (y0 : Int32) (h0 : f_6_cheap_144 bM k40 k50 x1 x2 x3 x5 x6 x7 x8 x9 y0 = some r) : At p l e (rmD 4) s m args below meth c D 10 w0 (QI below args s D w0 (fun x w => r = x ∧ (wM t qM bM) = w) 0 0) 0 0 144 [(0, .ref (qM 99)), (1, .int x1), (2, .int x2), (3, .int x3), (5, .int x5), (6, .int x6), (7, .int x7), (8, .int x8), (9, .int x9)] [.int y0] (wM t qM bM) := by
  unfold f_6_cheap_144 at h0
  refine A_istore C [(4, .int y0), (0, .ref (qM 99)), (1, .int x1), (2, .int x2), (3, .int x3), (5, .int x5), (6, .int x6), (7, .int x7), (8, .int x8), (9, .int x9)] dX6_cheap_144 (by decide) rfl ?_
  refine A_iload C 9 dX6_cheap_146 rfl ?_
  refine A_if_eq C 156 dX6_cheap_148 (by decide) h0 (fun h0 => ?_) (fun h0 => ?_)
  · refine A_iload C 5 dX6_cheap_156 rfl ?_
    exact A_loc [1, 2, 3, 4, 0, 6, 7] rfl (t_6_cheap_158 C qM bM r k40 K40 k50 K50 x1 x2 x3 y0 x6 x7 x5 h0)
  · refine A_iload C 8 dX6_cheap_151 rfl ?_
    refine A_goto C 158 dX6_cheap_153 (by decide) ?_
    exact A_loc [1, 2, 3, 4, 0, 6, 7] rfl (t_6_cheap_158 C qM bM r k40 K40 k50 K50 x1 x2 x3 y0 x6 x7 x8 h0)
def f_6_cheap_131 (bM : BV) (k40 : Int32 → Int32 → Int32 → Int32 → Int32 → Int32 → Option (Int32)) (k50 : Int32 → Int32 → Int32 → Int32 → Int32 → Int32 → Int32 → Option (Int32)) (x1 : Int32) (x2 : Int32) (x4 : Int32) (x5 : Int32) (x6 : Int32) (x7 : Int32) (x8 : Int32) (x9 : Int32) (y0 : Int32) : Option (Int32) :=
  if x9 = 0 then (f_6_cheap_144 bM k40 k50 x1 x2 y0 x5 x6 x7 x8 x9 x4) else (f_6_cheap_144 bM k40 k50 x1 x2 y0 x5 x6 x7 x8 x9 x6)
theorem t_6_cheap_131 (C : CX p s m args meth c cX6_cheap 10 (some .int) RX6 D t) (qM : Nat → Nat) (bM : BV) (r : Int32) (k40 : Int32 → Int32 → Int32 → Int32 → Int32 → Int32 → Option (Int32)) (K40 : ∀ (x1 : Int32) (x2 : Int32) (x3 : Int32) (x4 : Int32) (x5 : Int32) (x6 : Int32), k40 x1 x2 x3 x4 x5 x6 = some r → At p l e (rmD 4) s m args below meth c D 10 w0 (QI below args s D w0 (fun x w => r = x ∧ (wM t qM bM) = w) 0 0) 0 0 40 [(0, .ref (qM 99)), (1, .int x1), (2, .int x2), (3, .int x3), (4, .int x4), (5, .int x5), (6, .int x6)] [] (wM t qM bM)) (k50 : Int32 → Int32 → Int32 → Int32 → Int32 → Int32 → Int32 → Option (Int32)) (K50 : ∀ (x1 : Int32) (x2 : Int32) (x3 : Int32) (x4 : Int32) (x5 : Int32) (x6 : Int32) (x7 : Int32), k50 x1 x2 x3 x4 x5 x6 x7 = some r → At p l e (rmD 4) s m args below meth c D 10 w0 (QI below args s D w0 (fun x w => r = x ∧ (wM t qM bM) = w) 0 0) 0 0 50 [(0, .ref (qM 99)), (1, .int x1), (2, .int x2), (3, .int x3), (4, .int x4), (5, .int x5), (6, .int x6), (7, .int x7)] [] (wM t qM bM)) (x1 : Int32) (x2 : Int32) (x4 : Int32) (x5 : Int32) (x6 : Int32) (x7 : Int32) (x8 : Int32) (x9 : Int32) (y0 : Int32) (h0 : f_6_cheap_131 bM k40 k50 x1 x2 x4 x5 x6 x7 x8 x9 y0 = some r) : At p l e (rmD 4) s m args below meth c D 10 w0 (QI below args s D w0 (fun x w => r = x ∧ (wM t qM bM) = w) 0 0) 0 0 131 [(0, .ref (qM 99)), (1, .int x1), (2, .int x2), (4, .int x4), (5, .int x5), (6, .int x6), (7, .int x7), (8, .int x8), (9, .int x9)] [.int y0] (wM t qM bM) := by
  unfold f_6_cheap_131 at h0
  refine A_istore_n C [(3, .int y0), (0, .ref (qM 99)), (1, .int x1), (2, .int x2), (4, .int x4), (5, .int x5), (6, .int x6), (7, .int x7), (8, .int x8), (9, .int x9)] dX6_cheap_131 rfl (by decide) rfl ?_
  refine A_iload C 9 dX6_cheap_132 rfl ?_
  refine A_if_eq C 142 dX6_cheap_134 (by decide) h0 (fun h0 => ?_) (fun h0 => ?_)
  · refine A_iload C 4 dX6_cheap_142 rfl ?_
    exact A_loc [1, 2, 3, 0, 5, 6, 7, 8, 9] rfl (t_6_cheap_144 C qM bM r k40 K40 k50 K50 x1 x2 y0 x5 x6 x7 x8 x9 x4 h0)
  · refine A_iload C 6 dX6_cheap_137 rfl ?_
    refine A_goto C 144 dX6_cheap_139 (by decide) ?_
    exact A_loc [1, 2, 3, 0, 5, 6, 7, 8, 9] rfl (t_6_cheap_144 C qM bM r k40 K40 k50 K50 x1 x2 y0 x5 x6 x7 x8 x9 x6 h0)
def f_6_cheap_118 (bM : BV) (k40 : Int32 → Int32 → Int32 → Int32 → Int32 → Int32 → Option (Int32)) (k50 : Int32 → Int32 → Int32 → Int32 → Int32 → Int32 → Int32 → Option (Int32)) (x1 : Int32) (x2 : Int32) (x3 : Int32) (x4 : Int32) (x5 : Int32) (x6 : Int32) (x7 : Int32) (x8 : Int32) (y0 : Int32) : Option (Int32) :=
  if y0 = 0 then (f_6_cheap_131 bM k40 k50 x1 x2 x4 x5 x6 x7 x8 y0 x3) else (f_6_cheap_131 bM k40 k50 x1 x2 x4 x5 x6 x7 x8 y0 x7)
theorem t_6_cheap_118 (C : CX p s m args meth c cX6_cheap 10 (some .int) RX6 D t) (qM : Nat → Nat) (bM : BV) (r : Int32) (k40 : Int32 → Int32 → Int32 → Int32 → Int32 → Int32 → Option (Int32)) (K40 : ∀ (x1 : Int32) (x2 : Int32) (x3 : Int32) (x4 : Int32) (x5 : Int32) (x6 : Int32), k40 x1 x2 x3 x4 x5 x6 = some r → At p l e (rmD 4) s m args below meth c D 10 w0 (QI below args s D w0 (fun x w => r = x ∧ (wM t qM bM) = w) 0 0) 0 0 40 [(0, .ref (qM 99)), (1, .int x1), (2, .int x2), (3, .int x3), (4, .int x4), (5, .int x5), (6, .int x6)] [] (wM t qM bM)) (k50 : Int32 → Int32 → Int32 → Int32 → Int32 → Int32 → Int32 → Option (Int32)) (K50 : ∀ (x1 : Int32) (x2 : Int32) (x3 : Int32) (x4 : Int32) (x5 : Int32) (x6 : Int32) (x7 : Int32), k50 x1 x2 x3 x4 x5 x6 x7 = some r → At p l e (rmD 4) s m args below meth c D 10 w0 (QI below args s D w0 (fun x w => r = x ∧ (wM t qM bM) = w) 0 0) 0 0 50 [(0, .ref (qM 99)), (1, .int x1), (2, .int x2), (3, .int x3), (4, .int x4), (5, .int x5), (6, .int x6), (7, .int x7)] [] (wM t qM bM)) (x1 : Int32) (x2 : Int32) (x3 : Int32) (x4 : Int32) (x5 : Int32) (x6 : Int32) (x7 : Int32) (x8 : Int32) (y0 : Int32) (h0 : f_6_cheap_118 bM k40 k50 x1 x2 x3 x4 x5 x6 x7 x8 y0 = some r) : At p l e (rmD 4) s m args below meth c D 10 w0 (QI below args s D w0 (fun x w => r = x ∧ (wM t qM bM) = w) 0 0) 0 0 118 [(0, .ref (qM 99)), (1, .int x1), (2, .int x2), (3, .int x3), (4, .int x4), (5, .int x5), (6, .int x6), (7, .int x7), (8, .int x8)] [.int y0] (wM t qM bM) := by
  unfold f_6_cheap_118 at h0
  refine A_istore C [(9, .int y0), (0, .ref (qM 99)), (1, .int x1), (2, .int x2), (3, .int x3), (4, .int x4), (5, .int x5), (6, .int x6), (7, .int x7), (8, .int x8)] dX6_cheap_118 (by decide) rfl ?_
  refine A_iload C 0 dX6_cheap_120 rfl ?_
  refine A_if_eq C 130 dX6_cheap_122 (by decide) h0 (fun h0 => ?_) (fun h0 => ?_)
  · refine A_iload_n C 4 dX6_cheap_130 rfl rfl ?_
    exact A_loc [1, 2, 3, 5, 6, 7, 8, 9, 0] rfl (t_6_cheap_131 C qM bM r k40 K40 k50 K50 x1 x2 x4 x5 x6 x7 x8 y0 x3 h0)
  · refine A_iload C 8 dX6_cheap_125 rfl ?_
    refine A_goto C 131 dX6_cheap_127 (by decide) ?_
    exact A_loc [1, 2, 3, 5, 6, 7, 8, 9, 0] rfl (t_6_cheap_131 C qM bM r k40 K40 k50 K50 x1 x2 x4 x5 x6 x7 x8 y0 x7 h0)
def f_6_cheap_113 (bM : BV) (k40 : Int32 → Int32 → Int32 → Int32 → Int32 → Int32 → Option (Int32)) (k50 : Int32 → Int32 → Int32 → Int32 → Int32 → Int32 → Int32 → Option (Int32)) (x1 : Int32) (x2 : Int32) (x3 : Int32) (x4 : Int32) (x5 : Int32) (x6 : Int32) (x7 : Int32) (x8 : Int32) : Option (Int32) :=
  f_6_cheap_118 bM k40 k50 x1 x2 x3 x4 x5 x6 x7 x8 (1 : Int32)
theorem t_6_cheap_113 (C : CX p s m args meth c cX6_cheap 10 (some .int) RX6 D t) (qM : Nat → Nat) (bM : BV) (r : Int32) (k40 : Int32 → Int32 → Int32 → Int32 → Int32 → Int32 → Option (Int32)) (K40 : ∀ (x1 : Int32) (x2 : Int32) (x3 : Int32) (x4 : Int32) (x5 : Int32) (x6 : Int32), k40 x1 x2 x3 x4 x5 x6 = some r → At p l e (rmD 4) s m args below meth c D 10 w0 (QI below args s D w0 (fun x w => r = x ∧ (wM t qM bM) = w) 0 0) 0 0 40 [(0, .ref (qM 99)), (1, .int x1), (2, .int x2), (3, .int x3), (4, .int x4), (5, .int x5), (6, .int x6)] [] (wM t qM bM)) (k50 : Int32 → Int32 → Int32 → Int32 → Int32 → Int32 → Int32 → Option (Int32)) (K50 : ∀ (x1 : Int32) (x2 : Int32) (x3 : Int32) (x4 : Int32) (x5 : Int32) (x6 : Int32) (x7 : Int32), k50 x1 x2 x3 x4 x5 x6 x7 = some r → At p l e (rmD 4) s m args below meth c D 10 w0 (QI below args s D w0 (fun x w => r = x ∧ (wM t qM bM) = w) 0 0) 0 0 50 [(0, .ref (qM 99)), (1, .int x1), (2, .int x2), (3, .int x3), (4, .int x4), (5, .int x5), (6, .int x6), (7, .int x7)] [] (wM t qM bM)) (x1 : Int32) (x2 : Int32) (x3 : Int32) (x4 : Int32) (x5 : Int32) (x6 : Int32) (x7 : Int32) (x8 : Int32) (h0 : f_6_cheap_113 bM k40 k50 x1 x2 x3 x4 x5 x6 x7 x8 = some r) : At p l e (rmD 4) s m args below meth c D 10 w0 (QI below args s D w0 (fun x w => r = x ∧ (wM t qM bM) = w) 0 0) 0 0 113 [(0, .ref (qM 99)), (1, .int x1), (2, .int x2), (3, .int x3), (4, .int x4), (5, .int x5), (6, .int x6), (7, .int x7), (8, .int x8)] [] (wM t qM bM) := by
  unfold f_6_cheap_113 at h0
  refine A_iconst C (1 : Int32) dX6_cheap_113 (by decide) ?_
  refine A_goto C 118 dX6_cheap_114 (by decide) ?_
  exact A_loc [0, 1, 2, 3, 4, 5, 6, 7, 8] rfl (t_6_cheap_118 C qM bM r k40 K40 k50 K50 x1 x2 x3 x4 x5 x6 x7 x8 (1 : Int32) h0)
def f_6_cheap_50_b (bM : BV) (k40 : Int32 → Int32 → Int32 → Int32 → Int32 → Int32 → Option (Int32)) (k50 : Int32 → Int32 → Int32 → Int32 → Int32 → Int32 → Int32 → Option (Int32)) (x1 : Int32) (x2 : Int32) (x3 : Int32) (x4 : Int32) (x5 : Int32) (x6 : Int32) (x7 : Int32) : Option (Int32) :=
  (f_6_days bM).bind (fun z1 => if z1 ≤ x7 then (k40 x1 x2 x3 x4 x5 (x6 + (1 : Int32))) else ((f_6_isFree bM x7 x6).bind (fun z2 => if z2 = 0 then (f_6_cheap_160 bM k40 k50 x1 x2 x3 x4 x5 x6 x7) else ((f_6_lendsOf bM x7 x6).bind (fun z3 => if z3 < x1 then (f_6_cheap_160 bM k40 k50 x1 x2 x3 x4 x5 x6 x7) else ((f_6_notIn bM).bind (fun z4 => (f_6_row x7 x6).bind (fun z5 => (f_6_harvest bM (z4 ||| z5)).bind (fun z6 => if x3 = (-9 : Int32) then (f_6_cheap_113 bM k40 k50 x1 x2 x3 x4 x5 x6 x7 z6) else (if z6 ≤ x5 then (f_6_cheap_118 bM k40 k50 x1 x2 x3 x4 x5 x6 x7 z6 (0 : Int32)) else (f_6_cheap_113 bM k40 k50 x1 x2 x3 x4 x5 x6 x7 z6)))))))))))
theorem t_6_cheap_50_b (C : CX p s m args meth c cX6_cheap 10 (some .int) RX6 D t) (qM : Nat → Nat) (bM : BV) (r : Int32) (k40 : Int32 → Int32 → Int32 → Int32 → Int32 → Int32 → Option (Int32)) (K40 : ∀ (x1 : Int32) (x2 : Int32) (x3 : Int32) (x4 : Int32) (x5 : Int32) (x6 : Int32), k40 x1 x2 x3 x4 x5 x6 = some r → At p l e (rmD 4) s m args below meth c D 10 w0 (QI below args s D w0 (fun x w => r = x ∧ (wM t qM bM) = w) 0 0) 0 0 40 [(0, .ref (qM 99)), (1, .int x1), (2, .int x2), (3, .int x3), (4, .int x4), (5, .int x5), (6, .int x6)] [] (wM t qM bM)) (k50 : Int32 → Int32 → Int32 → Int32 → Int32 → Int32 → Int32 → Option (Int32)) (K50 : ∀ (x1 : Int32) (x2 : Int32) (x3 : Int32) (x4 : Int32) (x5 : Int32) (x6 : Int32) (x7 : Int32), k50 x1 x2 x3 x4 x5 x6 x7 = some r → At p l e (rmD 4) s m args below meth c D 10 w0 (QI below args s D w0 (fun x w => r = x ∧ (wM t qM bM) = w) 0 0) 0 0 50 [(0, .ref (qM 99)), (1, .int x1), (2, .int x2), (3, .int x3), (4, .int x4), (5, .int x5), (6, .int x6), (7, .int x7)] [] (wM t qM bM)) (x1 : Int32) (x2 : Int32) (x3 : Int32) (x4 : Int32) (x5 : Int32) (x6 : Int32) (x7 : Int32) (h0 : f_6_cheap_50_b bM k40 k50 x1 x2 x3 x4 x5 x6 x7 = some r) : At p l e (rmD 4) s m args below meth c D 10 w0 (QI below args s D w0 (fun x w => r = x ∧ (wM t qM bM) = w) 0 0) 0 0 50 [(0, .ref (qM 99)), (1, .int x1), (2, .int x2), (3, .int x3), (4, .int x4), (5, .int x5), (6, .int x6), (7, .int x7)] [] (wM t qM bM) := by
  unfold f_6_cheap_50_b at h0
  refine A_iload C 7 dX6_cheap_50 rfl ?_
  refine A_aload_n C 0 dX6_cheap_52 rfl rfl ?_
  obtain ⟨z1, hz1, h0⟩ := bind_some h0
  refine A_vI (As := []) (rest := [.int x7]) C 0 (c_6_days l D t qM bM hz1) mw_6_days ml_6_116 im_6_days sl_6_days (rmok rfl rfl) (cut0 (wM t qM bM)) rfl (ci := 6) rfl rfl rfl (Nat.le_of_ble_eq_true rfl) dX6_cheap_53 (fun x w1 hw1 => ?_)
  obtain ⟨rfl, rfl⟩ := hw1
  refine A_perm (ws' := (wM t qM bM)) ((cut0 _).symm) ?_
  refine A_icmp_ge C 166 dX6_cheap_56 (by decide) h0 (fun h0 => ?_) (fun h0 => ?_)
  · refine A_iinc C 6 (x6 + (1 : Int32)) [(6, .int (x6 + (1 : Int32))), (0, .ref (qM 99)), (1, .int x1), (2, .int x2), (3, .int x3), (4, .int x4), (5, .int x5), (7, .int x7)] dX6_cheap_166 rfl rfl (by decide) rfl ?_
    refine A_goto C 40 dX6_cheap_169 (by decide) ?_
    exact A_loc [1, 2, 3, 4, 5, 6, 0] rfl (K40 x1 x2 x3 x4 x5 (x6 + (1 : Int32)) h0)
  · refine A_aload_n C 0 dX6_cheap_59 rfl rfl ?_
    refine A_iload C 7 dX6_cheap_60 rfl ?_
    refine A_iload C 6 dX6_cheap_62 rfl ?_
    obtain ⟨z2, hz2, h0⟩ := bind_some h0
    refine A_vI (As := [.int x7, .int x6]) (rest := []) C 0 (c_6_isFree l D t qM bM x7 x6 hz2) mw_6_isFree ml_6_157 im_6_isFree sl_6_isFree (rmok rfl rfl) (cut0 (wM t qM bM)) rfl (ci := 6) rfl rfl rfl (Nat.le_of_ble_eq_true rfl) dX6_cheap_64 (fun x w1 hw1 => ?_)
    obtain ⟨rfl, rfl⟩ := hw1
    refine A_perm (ws' := (wM t qM bM)) ((cut0 _).symm) ?_
    refine A_if_eq C 160 dX6_cheap_67 (by decide) h0 (fun h0 => ?_) (fun h0 => ?_)
    · exact A_loc [0, 1, 2, 3, 4, 5, 6, 7] rfl (t_6_cheap_160 C qM bM r k40 K40 k50 K50 x1 x2 x3 x4 x5 x6 x7 h0)
    · refine A_aload_n C 0 dX6_cheap_70 rfl rfl ?_
      refine A_iload C 7 dX6_cheap_71 rfl ?_
      refine A_iload C 6 dX6_cheap_73 rfl ?_
      obtain ⟨z3, hz3, h0⟩ := bind_some h0
      refine A_vI (As := [.int x7, .int x6]) (rest := []) C 0 (c_6_lendsOf l D t qM bM x7 x6 hz3) mw_6_lendsOf ml_6_163 im_6_lendsOf sl_6_lendsOf (rmok rfl rfl) (cut0 (wM t qM bM)) rfl (ci := 6) rfl rfl rfl (Nat.le_of_ble_eq_true rfl) dX6_cheap_75 (fun x w1 hw1 => ?_)
      obtain ⟨rfl, rfl⟩ := hw1
      refine A_perm (ws' := (wM t qM bM)) ((cut0 _).symm) ?_
      refine A_iload_n C 1 dX6_cheap_78 rfl rfl ?_
      refine A_icmp_lt C 160 dX6_cheap_79 (by decide) h0 (fun h0 => ?_) (fun h0 => ?_)
      · exact A_loc [0, 1, 2, 3, 4, 5, 6, 7] rfl (t_6_cheap_160 C qM bM r k40 K40 k50 K50 x1 x2 x3 x4 x5 x6 x7 h0)
      · refine A_aload_n C 0 dX6_cheap_82 rfl rfl ?_
        refine A_aload_n C 0 dX6_cheap_83 rfl rfl ?_
        obtain ⟨z4, hz4, h0⟩ := bind_some h0
        refine A_vI (As := []) (rest := [.ref (qM 99)]) C 0 (c_6_notIn l D t qM bM hz4) mw_6_notIn ml_6_144 im_6_notIn sl_6_notIn (rmok rfl rfl) (cut0 (wM t qM bM)) rfl (ci := 6) rfl rfl rfl (Nat.le_of_ble_eq_true rfl) dX6_cheap_84 (fun x w1 hw1 => ?_)
        obtain ⟨rfl, rfl⟩ := hw1
        refine A_perm (ws' := (wM t qM bM)) ((cut0 _).symm) ?_
        refine A_iload C 7 dX6_cheap_87 rfl ?_
        refine A_iload C 6 dX6_cheap_89 rfl ?_
        obtain ⟨z5, hz5, h0⟩ := bind_some h0
        refine A_sI (As := [.int x7, .int x6]) (rest := [.int z4, .ref (qM 99)]) C (c_6_row l D t x7 x6 hz5) mw_6_row ml_6_152 st_6_row (rmok rfl rfl) (cutN (wM t qM bM)) rfl rfl (Nat.le_of_ble_eq_true rfl) dX6_cheap_91 (fun x w1 hw1 => ?_)
        obtain ⟨rfl, rfl⟩ := hw1
        refine A_perm (ws' := (wM t qM bM)) ((cutN _).symm) ?_
        refine A_ior C dX6_cheap_94 ?_
        obtain ⟨z6, hz6, h0⟩ := bind_some h0
        refine A_vI (As := [.int (z4 ||| z5)]) (rest := []) C 0 (c_6_harvest l D t qM bM (z4 ||| z5) hz6) mw_6_harvest ml_6_173 im_6_harvest sl_6_harvest (rmok rfl rfl) (cut0 (wM t qM bM)) rfl (ci := 6) rfl rfl rfl (Nat.le_of_ble_eq_true rfl) dX6_cheap_95 (fun x w1 hw1 => ?_)
        obtain ⟨rfl, rfl⟩ := hw1
        refine A_perm (ws' := (wM t qM bM)) ((cut0 _).symm) ?_
        refine A_istore C [(8, .int z6), (0, .ref (qM 99)), (1, .int x1), (2, .int x2), (3, .int x3), (4, .int x4), (5, .int x5), (6, .int x6), (7, .int x7)] dX6_cheap_98 (by decide) rfl ?_
        refine A_iload_n C 4 dX6_cheap_100 rfl rfl ?_
        refine A_bipush C (-9 : Int32) dX6_cheap_101 (by decide) ?_
        refine A_icmp_eq C 113 dX6_cheap_103 (by decide) h0 (fun h0 => ?_) (fun h0 => ?_)
        · exact A_loc [1, 2, 3, 4, 5, 6, 7, 8, 0] rfl (t_6_cheap_113 C qM bM r k40 K40 k50 K50 x1 x2 x3 x4 x5 x6 x7 z6 h0)
        · refine A_iload C 0 dX6_cheap_106 rfl ?_
          refine A_iload C 6 dX6_cheap_108 rfl ?_
          refine A_icmp_le C 117 dX6_cheap_110 (by decide) h0 (fun h0 => ?_) (fun h0 => ?_)
          · refine A_iconst C (0 : Int32) dX6_cheap_117 (by decide) ?_
            exact A_loc [1, 2, 3, 4, 5, 6, 7, 8, 0] rfl (t_6_cheap_118 C qM bM r k40 K40 k50 K50 x1 x2 x3 x4 x5 x6 x7 z6 (0 : Int32) h0)
          · exact A_loc [1, 2, 3, 4, 5, 6, 7, 8, 0] rfl (t_6_cheap_113 C qM bM r k40 K40 k50 K50 x1 x2 x3 x4 x5 x6 x7 z6 h0)
def f_6_cheap_50 (bM : BV) (k40 : Int32 → Int32 → Int32 → Int32 → Int32 → Int32 → Option (Int32)) : Nat → Int32 → Int32 → Int32 → Int32 → Int32 → Int32 → Int32 → Option (Int32)
  | 0 => fun _ _ _ _ _ _ _ => none
  | n + 1 => f_6_cheap_50_b bM k40 (f_6_cheap_50 bM k40 n)
theorem t_6_cheap_50 (C : CX p s m args meth c cX6_cheap 10 (some .int) RX6 D t) (qM : Nat → Nat) (bM : BV) (r : Int32) (k40 : Int32 → Int32 → Int32 → Int32 → Int32 → Int32 → Option (Int32)) (K40 : ∀ (x1 : Int32) (x2 : Int32) (x3 : Int32) (x4 : Int32) (x5 : Int32) (x6 : Int32), k40 x1 x2 x3 x4 x5 x6 = some r → At p l e (rmD 4) s m args below meth c D 10 w0 (QI below args s D w0 (fun x w => r = x ∧ (wM t qM bM) = w) 0 0) 0 0 40 [(0, .ref (qM 99)), (1, .int x1), (2, .int x2), (3, .int x3), (4, .int x4), (5, .int x5), (6, .int x6)] [] (wM t qM bM)) : ∀ (n : Nat), ∀ (x1 : Int32) (x2 : Int32) (x3 : Int32) (x4 : Int32) (x5 : Int32) (x6 : Int32) (x7 : Int32), f_6_cheap_50 bM k40 n x1 x2 x3 x4 x5 x6 x7 = some r → At p l e (rmD 4) s m args below meth c D 10 w0 (QI below args s D w0 (fun x w => r = x ∧ (wM t qM bM) = w) 0 0) 0 0 50 [(0, .ref (qM 99)), (1, .int x1), (2, .int x2), (3, .int x3), (4, .int x4), (5, .int x5), (6, .int x6), (7, .int x7)] [] (wM t qM bM) := by
  intro n
  induction n with
  | zero =>
    intro x1 x2 x3 x4 x5 x6 x7 h0
    have h0 : none = some r := h0
    cases h0
  | succ n ih =>
    intro x1 x2 x3 x4 x5 x6 x7 h0
    exact t_6_cheap_50_b C qM bM r k40 K40 _ ih x1 x2 x3 x4 x5 x6 x7 h0
def f_6_cheap_40_b (bM : BV) (k40 : Int32 → Int32 → Int32 → Int32 → Int32 → Int32 → Option (Int32)) (x1 : Int32) (x2 : Int32) (x3 : Int32) (x4 : Int32) (x5 : Int32) (x6 : Int32) : Option (Int32) :=
  if (10 : Int32) ≤ x6 then (if x2 = 0 then (f_6_cheap_192 bM x3) else (if x2 = (1 : Int32) then (f_6_cheap_192 bM x4) else (f_6_cheap_192 bM x5))) else (f_6_cheap_50 bM k40 200 x1 x2 x3 x4 x5 x6 (0 : Int32))
theorem t_6_cheap_40_b (C : CX p s m args meth c cX6_cheap 10 (some .int) RX6 D t) (qM : Nat → Nat) (bM : BV) (r : Int32) (k40 : Int32 → Int32 → Int32 → Int32 → Int32 → Int32 → Option (Int32)) (K40 : ∀ (x1 : Int32) (x2 : Int32) (x3 : Int32) (x4 : Int32) (x5 : Int32) (x6 : Int32), k40 x1 x2 x3 x4 x5 x6 = some r → At p l e (rmD 4) s m args below meth c D 10 w0 (QI below args s D w0 (fun x w => r = x ∧ (wM t qM bM) = w) 0 0) 0 0 40 [(0, .ref (qM 99)), (1, .int x1), (2, .int x2), (3, .int x3), (4, .int x4), (5, .int x5), (6, .int x6)] [] (wM t qM bM)) (x1 : Int32) (x2 : Int32) (x3 : Int32) (x4 : Int32) (x5 : Int32) (x6 : Int32) (h0 : f_6_cheap_40_b bM k40 x1 x2 x3 x4 x5 x6 = some r) : At p l e (rmD 4) s m args below meth c D 10 w0 (QI below args s D w0 (fun x w => r = x ∧ (wM t qM bM) = w) 0 0) 0 0 40 [(0, .ref (qM 99)), (1, .int x1), (2, .int x2), (3, .int x3), (4, .int x4), (5, .int x5), (6, .int x6)] [] (wM t qM bM) := by
  unfold f_6_cheap_40_b at h0
  refine A_iload C 6 dX6_cheap_40 rfl ?_
  refine A_bipush C (10 : Int32) dX6_cheap_42 (by decide) ?_
  refine A_icmp_ge C 172 dX6_cheap_44 (by decide) h0 (fun h0 => ?_) (fun h0 => ?_)
  · refine A_iload_n C 2 dX6_cheap_172 rfl rfl ?_
    refine A_if_ne C 180 dX6_cheap_173 (by decide) h0 (fun h0 => ?_) (fun h0 => ?_)
    · refine A_iload_n C 2 dX6_cheap_180 rfl rfl ?_
      refine A_iconst C (1 : Int32) dX6_cheap_181 (by decide) ?_
      refine A_icmp_ne C 190 dX6_cheap_182 (by decide) h0 (fun h0 => ?_) (fun h0 => ?_)
      · refine A_iload C 5 dX6_cheap_190 rfl ?_
        exact A_loc [] rfl (t_6_cheap_192 C qM bM r x5 h0)
      · refine A_iload C 4 dX6_cheap_185 rfl ?_
        refine A_goto C 192 dX6_cheap_187 (by decide) ?_
        exact A_loc [] rfl (t_6_cheap_192 C qM bM r x4 h0)
    · refine A_iload_n C 3 dX6_cheap_176 rfl rfl ?_
      refine A_goto C 192 dX6_cheap_177 (by decide) ?_
      exact A_loc [] rfl (t_6_cheap_192 C qM bM r x3 h0)
  · refine A_iconst C (0 : Int32) dX6_cheap_47 (by decide) ?_
    refine A_istore C [(7, .int (0 : Int32)), (0, .ref (qM 99)), (1, .int x1), (2, .int x2), (3, .int x3), (4, .int x4), (5, .int x5), (6, .int x6)] dX6_cheap_48 (by decide) rfl ?_
    exact A_loc [1, 2, 3, 4, 5, 6, 7, 0] rfl (t_6_cheap_50 C qM bM r k40 K40 200 x1 x2 x3 x4 x5 x6 (0 : Int32) h0)
def f_6_cheap_40 (bM : BV) : Nat → Int32 → Int32 → Int32 → Int32 → Int32 → Int32 → Option (Int32)
  | 0 => fun _ _ _ _ _ _ => none
  | n + 1 => f_6_cheap_40_b bM (f_6_cheap_40 bM n)
theorem t_6_cheap_40 (C : CX p s m args meth c cX6_cheap 10 (some .int) RX6 D t) (qM : Nat → Nat) (bM : BV) (r : Int32) : ∀ (n : Nat), ∀ (x1 : Int32) (x2 : Int32) (x3 : Int32) (x4 : Int32) (x5 : Int32) (x6 : Int32), f_6_cheap_40 bM n x1 x2 x3 x4 x5 x6 = some r → At p l e (rmD 4) s m args below meth c D 10 w0 (QI below args s D w0 (fun x w => r = x ∧ (wM t qM bM) = w) 0 0) 0 0 40 [(0, .ref (qM 99)), (1, .int x1), (2, .int x2), (3, .int x3), (4, .int x4), (5, .int x5), (6, .int x6)] [] (wM t qM bM) := by
  intro n
  induction n with
  | zero =>
    intro x1 x2 x3 x4 x5 x6 h0
    have h0 : none = some r := h0
    cases h0
  | succ n ih =>
    intro x1 x2 x3 x4 x5 x6 h0
    exact t_6_cheap_40_b C qM bM r _ ih x1 x2 x3 x4 x5 x6 h0
def f_6_cheap_24 (bM : BV) : Option (Int32) :=
  some (-1 : Int32)
theorem t_6_cheap_24 (C : CX p s m args meth c cX6_cheap 10 (some .int) RX6 D t) (qM : Nat → Nat) (bM : BV) (r : Int32) (h0 : f_6_cheap_24 bM = some r) : At p l e (rmD 4) s m args below meth c D 10 w0 (QI below args s D w0 (fun x w => r = x ∧ (wM t qM bM) = w) 0 0) 0 0 24 [] [] (wM t qM bM) := by
  unfold f_6_cheap_24 at h0
  refine A_iconst C (-1 : Int32) dX6_cheap_24 (by decide) ?_
  have h0 := Option.some.inj h0
  subst h0
  exact A_iret C dX6_cheap_25 ⟨rfl, rfl⟩
def f_6_cheap (bM : BV) (x1 : Int32) (x2 : Int32) : Option (Int32) :=
  (f_6_in (x1).toInt64 (1 : Int64) (999 : Int64)).bind (fun z7 => if z7 = 0 then (f_6_cheap_24 bM) else ((f_6_in (x2).toInt64 (0 : Int64) (2 : Int64)).bind (fun z8 => if z8 = 0 then (f_6_cheap_24 bM) else (f_6_cheap_40 bM 200 x1 x2 (-9 : Int32) (-9 : Int32) (-9 : Int32) (1 : Int32)))))
theorem c_6_cheap (l : Launch) (D : va_G) (t : ty4) (qM : Nat → Nat) (bM : BV) (x1 : Int32) (x2 : Int32) {r : Int32} (h0 : f_6_cheap bM x1 x2 = some r) : MetI l yX6_cheap cX6_cheap 10 (some .int) (rmD 4) D t [.ref (qM 99), .int x1, .int x2] (wM t qM bM) (fun x w => r = x ∧ (wM t qM bM) = w) := by
  refine MetI_of (by decide +kernel) (Nat.le_of_ble_eq_true rfl) (fun p e s m below meth c C _ => ?_)
  unfold f_6_cheap at h0
  generalize hargs : (List.toArray [.ref (qM 99), .int x1, .int x2] : Array Value) = args at C ⊢
  refine At.start (lv2 := [(0, .ref (qM 99)), (1, .int x1), (2, .int x2)]) rfl ?_
  refine A_iload_n C 1 dX6_cheap_0 rfl rfl ?_
  refine A_i2l C dX6_cheap_1 ?_
  refine A_lconst C (1 : Int64) dX6_cheap_2 (by decide) ?_
  refine A_ldc2 (v := (999 : Int64)) C cl_6_185 dX6_cheap_3 ?_
  obtain ⟨z7, hz7, h0⟩ := bind_some h0
  refine A_sI (As := [.long (x1).toInt64, .long (1 : Int64), .long (999 : Int64)]) (rest := []) C (c_6_in l D t (x1).toInt64 (1 : Int64) (999 : Int64) hz7) mw_6_in ml_6_45 st_6_in (rmok rfl rfl) (cutN (wM t qM bM)) rfl rfl (Nat.le_of_ble_eq_true rfl) dX6_cheap_6 (fun x w1 hw1 => ?_)
  obtain ⟨rfl, rfl⟩ := hw1
  refine A_perm (ws' := (wM t qM bM)) ((cutN _).symm) ?_
  refine A_if_eq C 24 dX6_cheap_9 (by decide) h0 (fun h0 => ?_) (fun h0 => ?_)
  · exact A_loc [] rfl (t_6_cheap_24 C qM bM r h0)
  · refine A_iload_n C 2 dX6_cheap_12 rfl rfl ?_
    refine A_i2l C dX6_cheap_13 ?_
    refine A_lconst C (0 : Int64) dX6_cheap_14 (by decide) ?_
    refine A_ldc2 (v := (2 : Int64)) C cl_6_150 dX6_cheap_15 ?_
    obtain ⟨z8, hz8, h0⟩ := bind_some h0
    refine A_sI (As := [.long (x2).toInt64, .long (0 : Int64), .long (2 : Int64)]) (rest := []) C (c_6_in l D t (x2).toInt64 (0 : Int64) (2 : Int64) hz8) mw_6_in ml_6_45 st_6_in (rmok rfl rfl) (cutN (wM t qM bM)) rfl rfl (Nat.le_of_ble_eq_true rfl) dX6_cheap_18 (fun x w1 hw1 => ?_)
    obtain ⟨rfl, rfl⟩ := hw1
    refine A_perm (ws' := (wM t qM bM)) ((cutN _).symm) ?_
    refine A_if_ne C 26 dX6_cheap_21 (by decide) h0 (fun h0 => ?_) (fun h0 => ?_)
    · refine A_bipush C (-9 : Int32) dX6_cheap_26 (by decide) ?_
      refine A_istore_n C [(3, .int (-9 : Int32)), (0, .ref (qM 99)), (1, .int x1), (2, .int x2)] dX6_cheap_28 rfl (by decide) rfl ?_
      refine A_bipush C (-9 : Int32) dX6_cheap_29 (by decide) ?_
      refine A_istore C [(4, .int (-9 : Int32)), (3, .int (-9 : Int32)), (0, .ref (qM 99)), (1, .int x1), (2, .int x2)] dX6_cheap_31 (by decide) rfl ?_
      refine A_bipush C (-9 : Int32) dX6_cheap_33 (by decide) ?_
      refine A_istore C [(5, .int (-9 : Int32)), (4, .int (-9 : Int32)), (3, .int (-9 : Int32)), (0, .ref (qM 99)), (1, .int x1), (2, .int x2)] dX6_cheap_35 (by decide) rfl ?_
      refine A_iconst C (1 : Int32) dX6_cheap_37 (by decide) ?_
      refine A_istore C [(6, .int (1 : Int32)), (5, .int (-9 : Int32)), (4, .int (-9 : Int32)), (3, .int (-9 : Int32)), (0, .ref (qM 99)), (1, .int x1), (2, .int x2)] dX6_cheap_38 (by decide) rfl ?_
      exact A_loc [4, 5, 6, 3, 2, 1, 0] rfl (t_6_cheap_40 C qM bM r 200 x1 x2 (-9 : Int32) (-9 : Int32) (-9 : Int32) (1 : Int32) h0)
    · exact A_loc [] rfl (t_6_cheap_24 C qM bM r h0)
def f_6_freeing_245 (bM : BV) (y0 : Int32) : Option (Int32) :=
  some y0
theorem t_6_freeing_245 (C : CX p s m args meth c cX6_freeing 11 (some .int) RX6 D t) (qM : Nat → Nat) (bM : BV) (r : Int32) (y0 : Int32) (h0 : f_6_freeing_245 bM y0 = some r) : At p l e (rmD 3) s m args below meth c D 11 w0 (QI below args s D w0 (fun x w => r = x ∧ (wM t qM bM) = w) 0 0) 0 0 245 [] [.int y0] (wM t qM bM) := by
  unfold f_6_freeing_245 at h0
  have h0 := Option.some.inj h0
  subst h0
  exact A_iret C dX6_freeing_245 ⟨rfl, rfl⟩
def f_6_freeing_230 (bM : BV) (k22 : Int32 → Int32 → Int32 → Int32 → Int32 → Option (Int32)) (x1 : Int32) (x2 : Int32) (x3 : Int32) (x4 : Int32) (x5 : Int32) : Option (Int32) :=
  k22 x1 x2 x3 x4 (x5 + (1 : Int32))
theorem t_6_freeing_230 (C : CX p s m args meth c cX6_freeing 11 (some .int) RX6 D t) (qM : Nat → Nat) (bM : BV) (r : Int32) (k22 : Int32 → Int32 → Int32 → Int32 → Int32 → Option (Int32)) (K22 : ∀ (x1 : Int32) (x2 : Int32) (x3 : Int32) (x4 : Int32) (x5 : Int32), k22 x1 x2 x3 x4 x5 = some r → At p l e (rmD 3) s m args below meth c D 11 w0 (QI below args s D w0 (fun x w => r = x ∧ (wM t qM bM) = w) 0 0) 0 0 22 [(0, .ref (qM 99)), (1, .int x1), (2, .int x2), (3, .int x3), (4, .int x4), (5, .int x5)] [] (wM t qM bM)) (x1 : Int32) (x2 : Int32) (x3 : Int32) (x4 : Int32) (x5 : Int32) (h0 : f_6_freeing_230 bM k22 x1 x2 x3 x4 x5 = some r) : At p l e (rmD 3) s m args below meth c D 11 w0 (QI below args s D w0 (fun x w => r = x ∧ (wM t qM bM) = w) 0 0) 0 0 230 [(0, .ref (qM 99)), (1, .int x1), (2, .int x2), (3, .int x3), (4, .int x4), (5, .int x5)] [] (wM t qM bM) := by
  unfold f_6_freeing_230 at h0
  refine A_iinc C 5 (x5 + (1 : Int32)) [(5, .int (x5 + (1 : Int32))), (0, .ref (qM 99)), (1, .int x1), (2, .int x2), (3, .int x3), (4, .int x4)] dX6_freeing_230 rfl rfl (by decide) rfl ?_
  refine A_goto C 22 dX6_freeing_233 (by decide) ?_
  exact A_loc [1, 2, 3, 4, 5, 0] rfl (K22 x1 x2 x3 x4 (x5 + (1 : Int32)) h0)
def f_6_freeing_228 (bM : BV) (k22 : Int32 → Int32 → Int32 → Int32 → Int32 → Option (Int32)) (x1 : Int32) (x2 : Int32) (x3 : Int32) (x5 : Int32) (y0 : Int32) : Option (Int32) :=
  f_6_freeing_230 bM k22 x1 x2 x3 y0 x5
theorem t_6_freeing_228 (C : CX p s m args meth c cX6_freeing 11 (some .int) RX6 D t) (qM : Nat → Nat) (bM : BV) (r : Int32) (k22 : Int32 → Int32 → Int32 → Int32 → Int32 → Option (Int32)) (K22 : ∀ (x1 : Int32) (x2 : Int32) (x3 : Int32) (x4 : Int32) (x5 : Int32), k22 x1 x2 x3 x4 x5 = some r → At p l e (rmD 3) s m args below meth c D 11 w0 (QI below args s D w0 (fun x w => r = x ∧ (wM t qM bM) = w) 0 0) 0 0 22 [(0, .ref (qM 99)), (1, .int x1), (2, .int x2), (3, .int x3), (4, .int x4), (5, .int x5)] [] (wM t qM bM)) (x1 : Int32) (x2 : Int32) (x3 : Int32) (x5 : Int32) (y0 : Int32) (h0 : f_6_freeing_228 bM k22 x1 x2 x3 x5 y0 = some r) : At p l e (rmD 3) s m args below meth c D 11 w0 (QI below args s D w0 (fun x w => r = x ∧ (wM t qM bM) = w) 0 0) 0 0 228 [(0, .ref (qM 99)), (1, .int x1), (2, .int x2), (3, .int x3), (5, .int x5)] [.int y0] (wM t qM bM) := by
  unfold f_6_freeing_228 at h0
  refine A_istore C [(4, .int y0), (0, .ref (qM 99)), (1, .int x1), (2, .int x2), (3, .int x3), (5, .int x5)] dX6_freeing_228 (by decide) rfl ?_
  exact A_loc [1, 2, 3, 4, 0, 5] rfl (t_6_freeing_230 C qM bM r k22 K22 x1 x2 x3 y0 x5 h0)
def f_6_freeing_215 (bM : BV) (k22 : Int32 → Int32 → Int32 → Int32 → Int32 → Option (Int32)) (x1 : Int32) (x2 : Int32) (x4 : Int32) (x5 : Int32) (x6 : Int32) (x10 : Int32) (y0 : Int32) : Option (Int32) :=
  if x10 = 0 then (f_6_freeing_228 bM k22 x1 x2 y0 x5 x4) else (f_6_freeing_228 bM k22 x1 x2 y0 x5 x6)
theorem t_6_freeing_215 (C : CX p s m args meth c cX6_freeing 11 (some .int) RX6 D t) (qM : Nat → Nat) (bM : BV) (r : Int32) (k22 : Int32 → Int32 → Int32 → Int32 → Int32 → Option (Int32)) (K22 : ∀ (x1 : Int32) (x2 : Int32) (x3 : Int32) (x4 : Int32) (x5 : Int32), k22 x1 x2 x3 x4 x5 = some r → At p l e (rmD 3) s m args below meth c D 11 w0 (QI below args s D w0 (fun x w => r = x ∧ (wM t qM bM) = w) 0 0) 0 0 22 [(0, .ref (qM 99)), (1, .int x1), (2, .int x2), (3, .int x3), (4, .int x4), (5, .int x5)] [] (wM t qM bM)) (x1 : Int32) (x2 : Int32) (x4 : Int32) (x5 : Int32) (x6 : Int32) (x10 : Int32) (y0 : Int32) (h0 : f_6_freeing_215 bM k22 x1 x2 x4 x5 x6 x10 y0 = some r) : At p l e (rmD 3) s m args below meth c D 11 w0 (QI below args s D w0 (fun x w => r = x ∧ (wM t qM bM) = w) 0 0) 0 0 215 [(0, .ref (qM 99)), (1, .int x1), (2, .int x2), (4, .int x4), (5, .int x5), (6, .int x6), (10, .int x10)] [.int y0] (wM t qM bM) := by
  unfold f_6_freeing_215 at h0
  refine A_istore_n C [(3, .int y0), (0, .ref (qM 99)), (1, .int x1), (2, .int x2), (4, .int x4), (5, .int x5), (6, .int x6), (10, .int x10)] dX6_freeing_215 rfl (by decide) rfl ?_
  refine A_iload C 7 dX6_freeing_216 rfl ?_
  refine A_if_eq C 226 dX6_freeing_218 (by decide) h0 (fun h0 => ?_) (fun h0 => ?_)
  · refine A_iload C 4 dX6_freeing_226 rfl ?_
    exact A_loc [1, 2, 3, 0, 5] rfl (t_6_freeing_228 C qM bM r k22 K22 x1 x2 y0 x5 x4 h0)
  · refine A_iload C 6 dX6_freeing_221 rfl ?_
    refine A_goto C 228 dX6_freeing_223 (by decide) ?_
    exact A_loc [1, 2, 3, 0, 5] rfl (t_6_freeing_228 C qM bM r k22 K22 x1 x2 y0 x5 x6 h0)
def f_6_freeing_203 (bM : BV) (k22 : Int32 → Int32 → Int32 → Int32 → Int32 → Option (Int32)) (x1 : Int32) (x3 : Int32) (x4 : Int32) (x5 : Int32) (x6 : Int32) (x9 : Int32) (x10 : Int32) (y0 : Int32) : Option (Int32) :=
  if x10 = 0 then (f_6_freeing_215 bM k22 x1 y0 x4 x5 x6 x10 x3) else (f_6_freeing_215 bM k22 x1 y0 x4 x5 x6 x10 x9)
theorem t_6_freeing_203 (C : CX p s m args meth c cX6_freeing 11 (some .int) RX6 D t) (qM : Nat → Nat) (bM : BV) (r : Int32) (k22 : Int32 → Int32 → Int32 → Int32 → Int32 → Option (Int32)) (K22 : ∀ (x1 : Int32) (x2 : Int32) (x3 : Int32) (x4 : Int32) (x5 : Int32), k22 x1 x2 x3 x4 x5 = some r → At p l e (rmD 3) s m args below meth c D 11 w0 (QI below args s D w0 (fun x w => r = x ∧ (wM t qM bM) = w) 0 0) 0 0 22 [(0, .ref (qM 99)), (1, .int x1), (2, .int x2), (3, .int x3), (4, .int x4), (5, .int x5)] [] (wM t qM bM)) (x1 : Int32) (x3 : Int32) (x4 : Int32) (x5 : Int32) (x6 : Int32) (x9 : Int32) (x10 : Int32) (y0 : Int32) (h0 : f_6_freeing_203 bM k22 x1 x3 x4 x5 x6 x9 x10 y0 = some r) : At p l e (rmD 3) s m args below meth c D 11 w0 (QI below args s D w0 (fun x w => r = x ∧ (wM t qM bM) = w) 0 0) 0 0 203 [(0, .ref (qM 99)), (1, .int x1), (3, .int x3), (4, .int x4), (5, .int x5), (6, .int x6), (9, .int x9), (10, .int x10)] [.int y0] (wM t qM bM) := by
  unfold f_6_freeing_203 at h0
  refine A_istore_n C [(2, .int y0), (0, .ref (qM 99)), (1, .int x1), (3, .int x3), (4, .int x4), (5, .int x5), (6, .int x6), (9, .int x9), (10, .int x10)] dX6_freeing_203 rfl (by decide) rfl ?_
  refine A_iload C 8 dX6_freeing_204 rfl ?_
  refine A_if_eq C 214 dX6_freeing_206 (by decide) h0 (fun h0 => ?_) (fun h0 => ?_)
  · refine A_iload_n C 3 dX6_freeing_214 rfl rfl ?_
    exact A_loc [1, 2, 0, 4, 5, 6, 8] rfl (t_6_freeing_215 C qM bM r k22 K22 x1 y0 x4 x5 x6 x10 x3 h0)
  · refine A_iload C 7 dX6_freeing_209 rfl ?_
    refine A_goto C 215 dX6_freeing_211 (by decide) ?_
    exact A_loc [1, 2, 0, 4, 5, 6, 8] rfl (t_6_freeing_215 C qM bM r k22 K22 x1 y0 x4 x5 x6 x10 x9 h0)
def f_6_freeing_190 (bM : BV) (k22 : Int32 → Int32 → Int32 → Int32 → Int32 → Option (Int32)) (x1 : Int32) (x2 : Int32) (x3 : Int32) (x4 : Int32) (x5 : Int32) (x6 : Int32) (x9 : Int32) (y0 : Int32) : Option (Int32) :=
  if y0 = 0 then (f_6_freeing_203 bM k22 x1 x3 x4 x5 x6 x9 y0 x2) else (f_6_freeing_203 bM k22 x1 x3 x4 x5 x6 x9 y0 x5)
theorem t_6_freeing_190 (C : CX p s m args meth c cX6_freeing 11 (some .int) RX6 D t) (qM : Nat → Nat) (bM : BV) (r : Int32) (k22 : Int32 → Int32 → Int32 → Int32 → Int32 → Option (Int32)) (K22 : ∀ (x1 : Int32) (x2 : Int32) (x3 : Int32) (x4 : Int32) (x5 : Int32), k22 x1 x2 x3 x4 x5 = some r → At p l e (rmD 3) s m args below meth c D 11 w0 (QI below args s D w0 (fun x w => r = x ∧ (wM t qM bM) = w) 0 0) 0 0 22 [(0, .ref (qM 99)), (1, .int x1), (2, .int x2), (3, .int x3), (4, .int x4), (5, .int x5)] [] (wM t qM bM)) (x1 : Int32) (x2 : Int32) (x3 : Int32) (x4 : Int32) (x5 : Int32) (x6 : Int32) (x9 : Int32) (y0 : Int32) (h0 : f_6_freeing_190 bM k22 x1 x2 x3 x4 x5 x6 x9 y0 = some r) : At p l e (rmD 3) s m args below meth c D 11 w0 (QI below args s D w0 (fun x w => r = x ∧ (wM t qM bM) = w) 0 0) 0 0 190 [(0, .ref (qM 99)), (1, .int x1), (2, .int x2), (3, .int x3), (4, .int x4), (5, .int x5), (6, .int x6), (9, .int x9)] [.int y0] (wM t qM bM) := by
  unfold f_6_freeing_190 at h0
  refine A_istore C [(10, .int y0), (0, .ref (qM 99)), (1, .int x1), (2, .int x2), (3, .int x3), (4, .int x4), (5, .int x5), (6, .int x6), (9, .int x9)] dX6_freeing_190 (by decide) rfl ?_
  refine A_iload C 0 dX6_freeing_192 rfl ?_
  refine A_if_eq C 202 dX6_freeing_194 (by decide) h0 (fun h0 => ?_) (fun h0 => ?_)
  · refine A_iload_n C 3 dX6_freeing_202 rfl rfl ?_
    exact A_loc [1, 2, 4, 5, 6, 7, 8, 0] rfl (t_6_freeing_203 C qM bM r k22 K22 x1 x3 x4 x5 x6 x9 y0 x2 h0)
  · refine A_iload C 6 dX6_freeing_197 rfl ?_
    refine A_goto C 203 dX6_freeing_199 (by decide) ?_
    exact A_loc [1, 2, 4, 5, 6, 7, 8, 0] rfl (t_6_freeing_203 C qM bM r k22 K22 x1 x3 x4 x5 x6 x9 y0 x5 h0)
def f_6_freeing_189 (bM : BV) (k22 : Int32 → Int32 → Int32 → Int32 → Int32 → Option (Int32)) (x1 : Int32) (x2 : Int32) (x3 : Int32) (x4 : Int32) (x5 : Int32) (x6 : Int32) (x9 : Int32) : Option (Int32) :=
  f_6_freeing_190 bM k22 x1 x2 x3 x4 x5 x6 x9 (0 : Int32)
theorem t_6_freeing_189 (C : CX p s m args meth c cX6_freeing 11 (some .int) RX6 D t) (qM : Nat → Nat) (bM : BV) (r : Int32) (k22 : Int32 → Int32 → Int32 → Int32 → Int32 → Option (Int32)) (K22 : ∀ (x1 : Int32) (x2 : Int32) (x3 : Int32) (x4 : Int32) (x5 : Int32), k22 x1 x2 x3 x4 x5 = some r → At p l e (rmD 3) s m args below meth c D 11 w0 (QI below args s D w0 (fun x w => r = x ∧ (wM t qM bM) = w) 0 0) 0 0 22 [(0, .ref (qM 99)), (1, .int x1), (2, .int x2), (3, .int x3), (4, .int x4), (5, .int x5)] [] (wM t qM bM)) (x1 : Int32) (x2 : Int32) (x3 : Int32) (x4 : Int32) (x5 : Int32) (x6 : Int32) (x9 : Int32) (h0 : f_6_freeing_189 bM k22 x1 x2 x3 x4 x5 x6 x9 = some r) : At p l e (rmD 3) s m args below meth c D 11 w0 (QI below args s D w0 (fun x w => r = x ∧ (wM t qM bM) = w) 0 0) 0 0 189 [(0, .ref (qM 99)), (1, .int x1), (2, .int x2), (3, .int x3), (4, .int x4), (5, .int x5), (6, .int x6), (9, .int x9)] [] (wM t qM bM) := by
  unfold f_6_freeing_189 at h0
  refine A_iconst C (0 : Int32) dX6_freeing_189 (by decide) ?_
  exact A_loc [0, 1, 2, 3, 4, 5, 6, 7] rfl (t_6_freeing_190 C qM bM r k22 K22 x1 x2 x3 x4 x5 x6 x9 (0 : Int32) h0)
def f_6_freeing_185 (bM : BV) (k22 : Int32 → Int32 → Int32 → Int32 → Int32 → Option (Int32)) (x1 : Int32) (x2 : Int32) (x3 : Int32) (x4 : Int32) (x5 : Int32) (x6 : Int32) (x9 : Int32) : Option (Int32) :=
  f_6_freeing_190 bM k22 x1 x2 x3 x4 x5 x6 x9 (1 : Int32)
theorem t_6_freeing_185 (C : CX p s m args meth c cX6_freeing 11 (some .int) RX6 D t) (qM : Nat → Nat) (bM : BV) (r : Int32) (k22 : Int32 → Int32 → Int32 → Int32 → Int32 → Option (Int32)) (K22 : ∀ (x1 : Int32) (x2 : Int32) (x3 : Int32) (x4 : Int32) (x5 : Int32), k22 x1 x2 x3 x4 x5 = some r → At p l e (rmD 3) s m args below meth c D 11 w0 (QI below args s D w0 (fun x w => r = x ∧ (wM t qM bM) = w) 0 0) 0 0 22 [(0, .ref (qM 99)), (1, .int x1), (2, .int x2), (3, .int x3), (4, .int x4), (5, .int x5)] [] (wM t qM bM)) (x1 : Int32) (x2 : Int32) (x3 : Int32) (x4 : Int32) (x5 : Int32) (x6 : Int32) (x9 : Int32) (h0 : f_6_freeing_185 bM k22 x1 x2 x3 x4 x5 x6 x9 = some r) : At p l e (rmD 3) s m args below meth c D 11 w0 (QI below args s D w0 (fun x w => r = x ∧ (wM t qM bM) = w) 0 0) 0 0 185 [(0, .ref (qM 99)), (1, .int x1), (2, .int x2), (3, .int x3), (4, .int x4), (5, .int x5), (6, .int x6), (9, .int x9)] [] (wM t qM bM) := by
  unfold f_6_freeing_185 at h0
  refine A_iconst C (1 : Int32) dX6_freeing_185 (by decide) ?_
  refine A_goto C 190 dX6_freeing_186 (by decide) ?_
  exact A_loc [0, 1, 2, 3, 4, 5, 6, 7] rfl (t_6_freeing_190 C qM bM r k22 K22 x1 x2 x3 x4 x5 x6 x9 (1 : Int32) h0)
def f_6_freeing_133 (bM : BV) (k22 : Int32 → Int32 → Int32 → Int32 → Int32 → Option (Int32)) (k44 : Int32 → Int32 → Int32 → Int32 → Int32 → Int32 → Int32 → Int32 → Int32 → Option (Int32)) (x1 : Int32) (x2 : Int32) (x3 : Int32) (x4 : Int32) (x5 : Int32) (x6 : Int32) (x8 : Int32) (x9 : Int32) (y0 : Int32) (y1 : Int32) : Option (Int32) :=
  k44 x1 x2 x3 x4 x5 x6 (y1 &&& y0) x8 (x9 + (1 : Int32))
theorem t_6_freeing_133 (C : CX p s m args meth c cX6_freeing 11 (some .int) RX6 D t) (qM : Nat → Nat) (bM : BV) (r : Int32) (k22 : Int32 → Int32 → Int32 → Int32 → Int32 → Option (Int32)) (K22 : ∀ (x1 : Int32) (x2 : Int32) (x3 : Int32) (x4 : Int32) (x5 : Int32), k22 x1 x2 x3 x4 x5 = some r → At p l e (rmD 3) s m args below meth c D 11 w0 (QI below args s D w0 (fun x w => r = x ∧ (wM t qM bM) = w) 0 0) 0 0 22 [(0, .ref (qM 99)), (1, .int x1), (2, .int x2), (3, .int x3), (4, .int x4), (5, .int x5)] [] (wM t qM bM)) (k44 : Int32 → Int32 → Int32 → Int32 → Int32 → Int32 → Int32 → Int32 → Int32 → Option (Int32)) (K44 : ∀ (x1 : Int32) (x2 : Int32) (x3 : Int32) (x4 : Int32) (x5 : Int32) (x6 : Int32) (x7 : Int32) (x8 : Int32) (x9 : Int32), k44 x1 x2 x3 x4 x5 x6 x7 x8 x9 = some r → At p l e (rmD 3) s m args below meth c D 11 w0 (QI below args s D w0 (fun x w => r = x ∧ (wM t qM bM) = w) 0 0) 0 0 44 [(0, .ref (qM 99)), (1, .int x1), (2, .int x2), (3, .int x3), (4, .int x4), (5, .int x5), (6, .int x6), (7, .int x7), (8, .int x8), (9, .int x9)] [] (wM t qM bM)) (x1 : Int32) (x2 : Int32) (x3 : Int32) (x4 : Int32) (x5 : Int32) (x6 : Int32) (x8 : Int32) (x9 : Int32) (y0 : Int32) (y1 : Int32) (h0 : f_6_freeing_133 bM k22 k44 x1 x2 x3 x4 x5 x6 x8 x9 y0 y1 = some r) : At p l e (rmD 3) s m args below meth c D 11 w0 (QI below args s D w0 (fun x w => r = x ∧ (wM t qM bM) = w) 0 0) 0 0 133 [(0, .ref (qM 99)), (1, .int x1), (2, .int x2), (3, .int x3), (4, .int x4), (5, .int x5), (6, .int x6), (8, .int x8), (9, .int x9)] [.int y0, .int y1] (wM t qM bM) := by
  unfold f_6_freeing_133 at h0
  refine A_iand C dX6_freeing_133 ?_
  refine A_istore C [(7, .int (y1 &&& y0)), (0, .ref (qM 99)), (1, .int x1), (2, .int x2), (3, .int x3), (4, .int x4), (5, .int x5), (6, .int x6), (8, .int x8), (9, .int x9)] dX6_freeing_134 (by decide) rfl ?_
  refine A_iinc C 9 (x9 + (1 : Int32)) [(9, .int (x9 + (1 : Int32))), (7, .int (y1 &&& y0)), (0, .ref (qM 99)), (1, .int x1), (2, .int x2), (3, .int x3), (4, .int x4), (5, .int x5), (6, .int x6), (8, .int x8)] dX6_freeing_136 rfl rfl (by decide) rfl ?_
  refine A_goto C 44 dX6_freeing_139 (by decide) ?_
  exact A_loc [2, 3, 4, 5, 6, 7, 8, 1, 9, 0] rfl (K44 x1 x2 x3 x4 x5 x6 (y1 &&& y0) x8 (x9 + (1 : Int32)) h0)
def f_6_freeing_111 (bM : BV) (k22 : Int32 → Int32 → Int32 → Int32 → Int32 → Option (Int32)) (k44 : Int32 → Int32 → Int32 → Int32 → Int32 → Int32 → Int32 → Int32 → Int32 → Option (Int32)) (x1 : Int32) (x2 : Int32) (x3 : Int32) (x4 : Int32) (x5 : Int32) (x7 : Int32) (x8 : Int32) (x9 : Int32) (x10 : Int32) (y0 : Int32) (y1 : Int32) : Option (Int32) :=
  if x10 = 0 then (f_6_freeing_133 bM k22 k44 x1 x2 x3 x4 x5 (y1 + y0) x8 x9 (-1 : Int32) x7) else ((f_6_loanDays bM x9).bind (fun z1 => f_6_freeing_133 bM k22 k44 x1 x2 x3 x4 x5 (y1 + y0) x8 x9 (z1 ^^^ (-1 : Int32)) x7))
theorem t_6_freeing_111 (C : CX p s m args meth c cX6_freeing 11 (some .int) RX6 D t) (qM : Nat → Nat) (bM : BV) (r : Int32) (k22 : Int32 → Int32 → Int32 → Int32 → Int32 → Option (Int32)) (K22 : ∀ (x1 : Int32) (x2 : Int32) (x3 : Int32) (x4 : Int32) (x5 : Int32), k22 x1 x2 x3 x4 x5 = some r → At p l e (rmD 3) s m args below meth c D 11 w0 (QI below args s D w0 (fun x w => r = x ∧ (wM t qM bM) = w) 0 0) 0 0 22 [(0, .ref (qM 99)), (1, .int x1), (2, .int x2), (3, .int x3), (4, .int x4), (5, .int x5)] [] (wM t qM bM)) (k44 : Int32 → Int32 → Int32 → Int32 → Int32 → Int32 → Int32 → Int32 → Int32 → Option (Int32)) (K44 : ∀ (x1 : Int32) (x2 : Int32) (x3 : Int32) (x4 : Int32) (x5 : Int32) (x6 : Int32) (x7 : Int32) (x8 : Int32) (x9 : Int32), k44 x1 x2 x3 x4 x5 x6 x7 x8 x9 = some r → At p l e (rmD 3) s m args below meth c D 11 w0 (QI below args s D w0 (fun x w => r = x ∧ (wM t qM bM) = w) 0 0) 0 0 44 [(0, .ref (qM 99)), (1, .int x1), (2, .int x2), (3, .int x3), (4, .int x4), (5, .int x5), (6, .int x6), (7, .int x7), (8, .int x8), (9, .int x9)] [] (wM t qM bM)) (x1 : Int32) (x2 : Int32) (x3 : Int32) (x4 : Int32) (x5 : Int32) (x7 : Int32) (x8 : Int32) (x9 : Int32) (x10 : Int32) (y0 : Int32) (y1 : Int32) (h0 : f_6_freeing_111 bM k22 k44 x1 x2 x3 x4 x5 x7 x8 x9 x10 y0 y1 = some r) : At p l e (rmD 3) s m args below meth c D 11 w0 (QI below args s D w0 (fun x w => r = x ∧ (wM t qM bM) = w) 0 0) 0 0 111 [(0, .ref (qM 99)), (1, .int x1), (2, .int x2), (3, .int x3), (4, .int x4), (5, .int x5), (7, .int x7), (8, .int x8), (9, .int x9), (10, .int x10)] [.int y0, .int y1] (wM t qM bM) := by
  unfold f_6_freeing_111 at h0
  refine A_iadd C dX6_freeing_111 ?_
  refine A_istore C [(6, .int (y1 + y0)), (0, .ref (qM 99)), (1, .int x1), (2, .int x2), (3, .int x3), (4, .int x4), (5, .int x5), (7, .int x7), (8, .int x8), (9, .int x9), (10, .int x10)] dX6_freeing_112 (by decide) rfl ?_
  refine A_iload C 7 dX6_freeing_114 rfl ?_
  refine A_iload C 10 dX6_freeing_116 rfl ?_
  refine A_if_eq C 132 dX6_freeing_118 (by decide) h0 (fun h0 => ?_) (fun h0 => ?_)
  · refine A_iconst C (-1 : Int32) dX6_freeing_132 (by decide) ?_
    exact A_loc [1, 2, 3, 4, 5, 6, 0, 8, 9] rfl (t_6_freeing_133 C qM bM r k22 K22 k44 K44 x1 x2 x3 x4 x5 (y1 + y0) x8 x9 (-1 : Int32) x7 h0)
  · refine A_aload_n C 1 dX6_freeing_121 rfl rfl ?_
    refine A_iload C 9 dX6_freeing_122 rfl ?_
    obtain ⟨z1, hz1, h0⟩ := bind_some h0
    refine A_vI (As := [.int x9]) (rest := [.int x7]) C 0 (c_6_loanDays l D t qM bM x9 hz1) mw_6_loanDays ml_6_122 im_6_loanDays sl_6_loanDays (rmok rfl rfl) (cut0 (wM t qM bM)) rfl (ci := 6) rfl rfl rfl (Nat.le_of_ble_eq_true rfl) dX6_freeing_124 (fun x w1 hw1 => ?_)
    obtain ⟨rfl, rfl⟩ := hw1
    refine A_perm (ws' := (wM t qM bM)) ((cut0 _).symm) ?_
    refine A_iconst C (-1 : Int32) dX6_freeing_127 (by decide) ?_
    refine A_ixor C dX6_freeing_128 ?_
    refine A_goto C 133 dX6_freeing_129 (by decide) ?_
    exact A_loc [1, 2, 3, 4, 5, 6, 0, 8, 9] rfl (t_6_freeing_133 C qM bM r k22 K22 k44 K44 x1 x2 x3 x4 x5 (y1 + y0) x8 x9 (z1 ^^^ (-1 : Int32)) x7 h0)
def f_6_freeing_92 (bM : BV) (k22 : Int32 → Int32 → Int32 → Int32 → Int32 → Option (Int32)) (k44 : Int32 → Int32 → Int32 → Int32 → Int32 → Int32 → Int32 → Int32 → Int32 → Option (Int32)) (x1 : Int32) (x2 : Int32) (x3 : Int32) (x4 : Int32) (x5 : Int32) (x6 : Int32) (x7 : Int32) (x9 : Int32) (x10 : Int32) (y0 : Int32) : Option (Int32) :=
  if x10 = 0 then (f_6_freeing_111 bM k22 k44 x1 x2 x3 x4 x5 x7 y0 x9 x10 (0 : Int32) x6) else ((f_6_lent bM x9).bind (fun z2 => f_6_freeing_111 bM k22 k44 x1 x2 x3 x4 x5 x7 y0 x9 x10 z2 x6))
theorem t_6_freeing_92 (C : CX p s m args meth c cX6_freeing 11 (some .int) RX6 D t) (qM : Nat → Nat) (bM : BV) (r : Int32) (k22 : Int32 → Int32 → Int32 → Int32 → Int32 → Option (Int32)) (K22 : ∀ (x1 : Int32) (x2 : Int32) (x3 : Int32) (x4 : Int32) (x5 : Int32), k22 x1 x2 x3 x4 x5 = some r → At p l e (rmD 3) s m args below meth c D 11 w0 (QI below args s D w0 (fun x w => r = x ∧ (wM t qM bM) = w) 0 0) 0 0 22 [(0, .ref (qM 99)), (1, .int x1), (2, .int x2), (3, .int x3), (4, .int x4), (5, .int x5)] [] (wM t qM bM)) (k44 : Int32 → Int32 → Int32 → Int32 → Int32 → Int32 → Int32 → Int32 → Int32 → Option (Int32)) (K44 : ∀ (x1 : Int32) (x2 : Int32) (x3 : Int32) (x4 : Int32) (x5 : Int32) (x6 : Int32) (x7 : Int32) (x8 : Int32) (x9 : Int32), k44 x1 x2 x3 x4 x5 x6 x7 x8 x9 = some r → At p l e (rmD 3) s m args below meth c D 11 w0 (QI below args s D w0 (fun x w => r = x ∧ (wM t qM bM) = w) 0 0) 0 0 44 [(0, .ref (qM 99)), (1, .int x1), (2, .int x2), (3, .int x3), (4, .int x4), (5, .int x5), (6, .int x6), (7, .int x7), (8, .int x8), (9, .int x9)] [] (wM t qM bM)) (x1 : Int32) (x2 : Int32) (x3 : Int32) (x4 : Int32) (x5 : Int32) (x6 : Int32) (x7 : Int32) (x9 : Int32) (x10 : Int32) (y0 : Int32) (h0 : f_6_freeing_92 bM k22 k44 x1 x2 x3 x4 x5 x6 x7 x9 x10 y0 = some r) : At p l e (rmD 3) s m args below meth c D 11 w0 (QI below args s D w0 (fun x w => r = x ∧ (wM t qM bM) = w) 0 0) 0 0 92 [(0, .ref (qM 99)), (1, .int x1), (2, .int x2), (3, .int x3), (4, .int x4), (5, .int x5), (6, .int x6), (7, .int x7), (9, .int x9), (10, .int x10)] [.int y0] (wM t qM bM) := by
  unfold f_6_freeing_92 at h0
  refine A_istore C [(8, .int y0), (0, .ref (qM 99)), (1, .int x1), (2, .int x2), (3, .int x3), (4, .int x4), (5, .int x5), (6, .int x6), (7, .int x7), (9, .int x9), (10, .int x10)] dX6_freeing_92 (by decide) rfl ?_
  refine A_iload C 7 dX6_freeing_94 rfl ?_
  refine A_iload C 10 dX6_freeing_96 rfl ?_
  refine A_if_eq C 110 dX6_freeing_98 (by decide) h0 (fun h0 => ?_) (fun h0 => ?_)
  · refine A_iconst C (0 : Int32) dX6_freeing_110 (by decide) ?_
    exact A_loc [1, 2, 3, 4, 5, 6, 8, 0, 9, 10] rfl (t_6_freeing_111 C qM bM r k22 K22 k44 K44 x1 x2 x3 x4 x5 x7 y0 x9 x10 (0 : Int32) x6 h0)
  · refine A_aload_n C 1 dX6_freeing_101 rfl rfl ?_
    refine A_iload C 9 dX6_freeing_102 rfl ?_
    obtain ⟨z2, hz2, h0⟩ := bind_some h0
    refine A_vI (As := [.int x9]) (rest := [.int x6]) C 0 (c_6_lent l D t qM bM x9 hz2) mw_6_lent ml_6_166 im_6_lent sl_6_lent (rmok rfl rfl) (cut0 (wM t qM bM)) rfl (ci := 6) rfl rfl rfl (Nat.le_of_ble_eq_true rfl) dX6_freeing_104 (fun x w1 hw1 => ?_)
    obtain ⟨rfl, rfl⟩ := hw1
    refine A_perm (ws' := (wM t qM bM)) ((cut0 _).symm) ?_
    refine A_goto C 111 dX6_freeing_107 (by decide) ?_
    exact A_loc [1, 2, 3, 4, 5, 6, 8, 0, 9, 10] rfl (t_6_freeing_111 C qM bM r k22 K22 k44 K44 x1 x2 x3 x4 x5 x7 y0 x9 x10 z2 x6 h0)
def f_6_freeing_91 (bM : BV) (k22 : Int32 → Int32 → Int32 → Int32 → Int32 → Option (Int32)) (k44 : Int32 → Int32 → Int32 → Int32 → Int32 → Int32 → Int32 → Int32 → Int32 → Option (Int32)) (x1 : Int32) (x2 : Int32) (x3 : Int32) (x4 : Int32) (x5 : Int32) (x6 : Int32) (x7 : Int32) (x9 : Int32) (x10 : Int32) : Option (Int32) :=
  f_6_freeing_92 bM k22 k44 x1 x2 x3 x4 x5 x6 x7 x9 x10 (0 : Int32)
theorem t_6_freeing_91 (C : CX p s m args meth c cX6_freeing 11 (some .int) RX6 D t) (qM : Nat → Nat) (bM : BV) (r : Int32) (k22 : Int32 → Int32 → Int32 → Int32 → Int32 → Option (Int32)) (K22 : ∀ (x1 : Int32) (x2 : Int32) (x3 : Int32) (x4 : Int32) (x5 : Int32), k22 x1 x2 x3 x4 x5 = some r → At p l e (rmD 3) s m args below meth c D 11 w0 (QI below args s D w0 (fun x w => r = x ∧ (wM t qM bM) = w) 0 0) 0 0 22 [(0, .ref (qM 99)), (1, .int x1), (2, .int x2), (3, .int x3), (4, .int x4), (5, .int x5)] [] (wM t qM bM)) (k44 : Int32 → Int32 → Int32 → Int32 → Int32 → Int32 → Int32 → Int32 → Int32 → Option (Int32)) (K44 : ∀ (x1 : Int32) (x2 : Int32) (x3 : Int32) (x4 : Int32) (x5 : Int32) (x6 : Int32) (x7 : Int32) (x8 : Int32) (x9 : Int32), k44 x1 x2 x3 x4 x5 x6 x7 x8 x9 = some r → At p l e (rmD 3) s m args below meth c D 11 w0 (QI below args s D w0 (fun x w => r = x ∧ (wM t qM bM) = w) 0 0) 0 0 44 [(0, .ref (qM 99)), (1, .int x1), (2, .int x2), (3, .int x3), (4, .int x4), (5, .int x5), (6, .int x6), (7, .int x7), (8, .int x8), (9, .int x9)] [] (wM t qM bM)) (x1 : Int32) (x2 : Int32) (x3 : Int32) (x4 : Int32) (x5 : Int32) (x6 : Int32) (x7 : Int32) (x9 : Int32) (x10 : Int32) (h0 : f_6_freeing_91 bM k22 k44 x1 x2 x3 x4 x5 x6 x7 x9 x10 = some r) : At p l e (rmD 3) s m args below meth c D 11 w0 (QI below args s D w0 (fun x w => r = x ∧ (wM t qM bM) = w) 0 0) 0 0 91 [(0, .ref (qM 99)), (1, .int x1), (2, .int x2), (3, .int x3), (4, .int x4), (5, .int x5), (6, .int x6), (7, .int x7), (9, .int x9), (10, .int x10)] [] (wM t qM bM) := by
  unfold f_6_freeing_91 at h0
  refine A_iconst C (0 : Int32) dX6_freeing_91 (by decide) ?_
  exact A_loc [0, 1, 2, 3, 4, 5, 6, 7, 8, 9] rfl (t_6_freeing_92 C qM bM r k22 K22 k44 K44 x1 x2 x3 x4 x5 x6 x7 x9 x10 (0 : Int32) h0)
def f_6_freeing_87 (bM : BV) (k22 : Int32 → Int32 → Int32 → Int32 → Int32 → Option (Int32)) (k44 : Int32 → Int32 → Int32 → Int32 → Int32 → Int32 → Int32 → Int32 → Int32 → Option (Int32)) (x1 : Int32) (x2 : Int32) (x3 : Int32) (x4 : Int32) (x5 : Int32) (x6 : Int32) (x7 : Int32) (x9 : Int32) (x10 : Int32) : Option (Int32) :=
  f_6_freeing_92 bM k22 k44 x1 x2 x3 x4 x5 x6 x7 x9 x10 (1 : Int32)
theorem t_6_freeing_87 (C : CX p s m args meth c cX6_freeing 11 (some .int) RX6 D t) (qM : Nat → Nat) (bM : BV) (r : Int32) (k22 : Int32 → Int32 → Int32 → Int32 → Int32 → Option (Int32)) (K22 : ∀ (x1 : Int32) (x2 : Int32) (x3 : Int32) (x4 : Int32) (x5 : Int32), k22 x1 x2 x3 x4 x5 = some r → At p l e (rmD 3) s m args below meth c D 11 w0 (QI below args s D w0 (fun x w => r = x ∧ (wM t qM bM) = w) 0 0) 0 0 22 [(0, .ref (qM 99)), (1, .int x1), (2, .int x2), (3, .int x3), (4, .int x4), (5, .int x5)] [] (wM t qM bM)) (k44 : Int32 → Int32 → Int32 → Int32 → Int32 → Int32 → Int32 → Int32 → Int32 → Option (Int32)) (K44 : ∀ (x1 : Int32) (x2 : Int32) (x3 : Int32) (x4 : Int32) (x5 : Int32) (x6 : Int32) (x7 : Int32) (x8 : Int32) (x9 : Int32), k44 x1 x2 x3 x4 x5 x6 x7 x8 x9 = some r → At p l e (rmD 3) s m args below meth c D 11 w0 (QI below args s D w0 (fun x w => r = x ∧ (wM t qM bM) = w) 0 0) 0 0 44 [(0, .ref (qM 99)), (1, .int x1), (2, .int x2), (3, .int x3), (4, .int x4), (5, .int x5), (6, .int x6), (7, .int x7), (8, .int x8), (9, .int x9)] [] (wM t qM bM)) (x1 : Int32) (x2 : Int32) (x3 : Int32) (x4 : Int32) (x5 : Int32) (x6 : Int32) (x7 : Int32) (x9 : Int32) (x10 : Int32) (h0 : f_6_freeing_87 bM k22 k44 x1 x2 x3 x4 x5 x6 x7 x9 x10 = some r) : At p l e (rmD 3) s m args below meth c D 11 w0 (QI below args s D w0 (fun x w => r = x ∧ (wM t qM bM) = w) 0 0) 0 0 87 [(0, .ref (qM 99)), (1, .int x1), (2, .int x2), (3, .int x3), (4, .int x4), (5, .int x5), (6, .int x6), (7, .int x7), (9, .int x9), (10, .int x10)] [] (wM t qM bM) := by
  unfold f_6_freeing_87 at h0
  refine A_iconst C (1 : Int32) dX6_freeing_87 (by decide) ?_
  refine A_goto C 92 dX6_freeing_88 (by decide) ?_
  exact A_loc [0, 1, 2, 3, 4, 5, 6, 7, 8, 9] rfl (t_6_freeing_92 C qM bM r k22 K22 k44 K44 x1 x2 x3 x4 x5 x6 x7 x9 x10 (1 : Int32) h0)
def f_6_freeing_66 (bM : BV) (k22 : Int32 → Int32 → Int32 → Int32 → Int32 → Option (Int32)) (k44 : Int32 → Int32 → Int32 → Int32 → Int32 → Int32 → Int32 → Int32 → Int32 → Option (Int32)) (x1 : Int32) (x2 : Int32) (x3 : Int32) (x4 : Int32) (x5 : Int32) (x6 : Int32) (x7 : Int32) (x8 : Int32) (x9 : Int32) (y0 : Int32) : Option (Int32) :=
  if x8 = 0 then (f_6_freeing_91 bM k22 k44 x1 x2 x3 x4 x5 x6 x7 x9 y0) else (if y0 = 0 then (f_6_freeing_87 bM k22 k44 x1 x2 x3 x4 x5 x6 x7 x9 y0) else ((f_6_loanDays bM x9).bind (fun z3 => if z3 = 0 then (f_6_freeing_91 bM k22 k44 x1 x2 x3 x4 x5 x6 x7 x9 y0) else (f_6_freeing_87 bM k22 k44 x1 x2 x3 x4 x5 x6 x7 x9 y0))))
theorem t_6_freeing_66 (C : CX p s m args meth c cX6_freeing 11 (some .int) RX6 D t) (qM : Nat → Nat) (bM : BV) (r : Int32) (k22 : Int32 → Int32 → Int32 → Int32 → Int32 → Option (Int32)) (K22 : ∀ (x1 : Int32) (x2 : Int32) (x3 : Int32) (x4 : Int32) (x5 : Int32), k22 x1 x2 x3 x4 x5 = some r → At p l e (rmD 3) s m args below meth c D 11 w0 (QI below args s D w0 (fun x w => r = x ∧ (wM t qM bM) = w) 0 0) 0 0 22 [(0, .ref (qM 99)), (1, .int x1), (2, .int x2), (3, .int x3), (4, .int x4), (5, .int x5)] [] (wM t qM bM)) (k44 : Int32 → Int32 → Int32 → Int32 → Int32 → Int32 → Int32 → Int32 → Int32 → Option (Int32)) (K44 : ∀ (x1 : Int32) (x2 : Int32) (x3 : Int32) (x4 : Int32) (x5 : Int32) (x6 : Int32) (x7 : Int32) (x8 : Int32) (x9 : Int32), k44 x1 x2 x3 x4 x5 x6 x7 x8 x9 = some r → At p l e (rmD 3) s m args below meth c D 11 w0 (QI below args s D w0 (fun x w => r = x ∧ (wM t qM bM) = w) 0 0) 0 0 44 [(0, .ref (qM 99)), (1, .int x1), (2, .int x2), (3, .int x3), (4, .int x4), (5, .int x5), (6, .int x6), (7, .int x7), (8, .int x8), (9, .int x9)] [] (wM t qM bM)) (x1 : Int32) (x2 : Int32) (x3 : Int32) (x4 : Int32) (x5 : Int32) (x6 : Int32) (x7 : Int32) (x8 : Int32) (x9 : Int32) (y0 : Int32) (h0 : f_6_freeing_66 bM k22 k44 x1 x2 x3 x4 x5 x6 x7 x8 x9 y0 = some r) : At p l e (rmD 3) s m args below meth c D 11 w0 (QI below args s D w0 (fun x w => r = x ∧ (wM t qM bM) = w) 0 0) 0 0 66 [(0, .ref (qM 99)), (1, .int x1), (2, .int x2), (3, .int x3), (4, .int x4), (5, .int x5), (6, .int x6), (7, .int x7), (8, .int x8), (9, .int x9)] [.int y0] (wM t qM bM) := by
  unfold f_6_freeing_66 at h0
  refine A_istore C [(10, .int y0), (0, .ref (qM 99)), (1, .int x1), (2, .int x2), (3, .int x3), (4, .int x4), (5, .int x5), (6, .int x6), (7, .int x7), (8, .int x8), (9, .int x9)] dX6_freeing_66 (by decide) rfl ?_
  refine A_iload C 9 dX6_freeing_68 rfl ?_
  refine A_if_eq C 91 dX6_freeing_70 (by decide) h0 (fun h0 => ?_) (fun h0 => ?_)
  · exact A_loc [1, 2, 3, 4, 5, 6, 7, 8, 10, 0] rfl (t_6_freeing_91 C qM bM r k22 K22 k44 K44 x1 x2 x3 x4 x5 x6 x7 x9 y0 h0)
  · refine A_iload C 0 dX6_freeing_73 rfl ?_
    refine A_if_eq C 87 dX6_freeing_75 (by decide) h0 (fun h0 => ?_) (fun h0 => ?_)
    · exact A_loc [1, 2, 3, 4, 5, 6, 7, 8, 10, 0] rfl (t_6_freeing_87 C qM bM r k22 K22 k44 K44 x1 x2 x3 x4 x5 x6 x7 x9 y0 h0)
    · refine A_aload_n C 1 dX6_freeing_78 rfl rfl ?_
      refine A_iload C 10 dX6_freeing_79 rfl ?_
      obtain ⟨z3, hz3, h0⟩ := bind_some h0
      refine A_vI (As := [.int x9]) (rest := []) C 0 (c_6_loanDays l D t qM bM x9 hz3) mw_6_loanDays ml_6_122 im_6_loanDays sl_6_loanDays (rmok rfl rfl) (cut0 (wM t qM bM)) rfl (ci := 6) rfl rfl rfl (Nat.le_of_ble_eq_true rfl) dX6_freeing_81 (fun x w1 hw1 => ?_)
      obtain ⟨rfl, rfl⟩ := hw1
      refine A_perm (ws' := (wM t qM bM)) ((cut0 _).symm) ?_
      refine A_if_eq C 91 dX6_freeing_84 (by decide) h0 (fun h0 => ?_) (fun h0 => ?_)
      · exact A_loc [1, 2, 3, 4, 5, 6, 7, 8, 10, 0] rfl (t_6_freeing_91 C qM bM r k22 K22 k44 K44 x1 x2 x3 x4 x5 x6 x7 x9 y0 h0)
      · exact A_loc [1, 2, 3, 4, 5, 6, 7, 8, 10, 0] rfl (t_6_freeing_87 C qM bM r k22 K22 k44 K44 x1 x2 x3 x4 x5 x6 x7 x9 y0 h0)
def f_6_freeing_44_b (bM : BV) (k22 : Int32 → Int32 → Int32 → Int32 → Int32 → Option (Int32)) (k44 : Int32 → Int32 → Int32 → Int32 → Int32 → Int32 → Int32 → Int32 → Int32 → Option (Int32)) (x1 : Int32) (x2 : Int32) (x3 : Int32) (x4 : Int32) (x5 : Int32) (x6 : Int32) (x7 : Int32) (x8 : Int32) (x9 : Int32) : Option (Int32) :=
  if (4 : Int32) ≤ x9 then (if x8 = 0 then (f_6_freeing_230 bM k22 x1 x2 x3 x4 x5) else (ck (inb (0 : Int32) 15) (if (gA bM 8 (0 : Int32)) < x6 then (f_6_freeing_230 bM k22 x1 x2 x3 x4 x5) else ((f_6_harvest bM x7).bind (fun z4 => if x3 < z4 then (f_6_freeing_185 bM k22 x1 x2 x3 x4 x5 x6 z4) else (if z4 = x3 then (if x4 ≤ x6 then (f_6_freeing_189 bM k22 x1 x2 x3 x4 x5 x6 z4) else (f_6_freeing_185 bM k22 x1 x2 x3 x4 x5 x6 z4)) else (f_6_freeing_189 bM k22 x1 x2 x3 x4 x5 x6 z4))))))) else (if ((x5 >>> (x9 &&& 31)) &&& (1 : Int32)) = (1 : Int32) then (f_6_freeing_66 bM k22 k44 x1 x2 x3 x4 x5 x6 x7 x8 x9 (1 : Int32)) else (f_6_freeing_66 bM k22 k44 x1 x2 x3 x4 x5 x6 x7 x8 x9 (0 : Int32)))
theorem t_6_freeing_44_b (C : CX p s m args meth c cX6_freeing 11 (some .int) RX6 D t) (qM : Nat → Nat) (bM : BV) (r : Int32) (k22 : Int32 → Int32 → Int32 → Int32 → Int32 → Option (Int32)) (K22 : ∀ (x1 : Int32) (x2 : Int32) (x3 : Int32) (x4 : Int32) (x5 : Int32), k22 x1 x2 x3 x4 x5 = some r → At p l e (rmD 3) s m args below meth c D 11 w0 (QI below args s D w0 (fun x w => r = x ∧ (wM t qM bM) = w) 0 0) 0 0 22 [(0, .ref (qM 99)), (1, .int x1), (2, .int x2), (3, .int x3), (4, .int x4), (5, .int x5)] [] (wM t qM bM)) (k44 : Int32 → Int32 → Int32 → Int32 → Int32 → Int32 → Int32 → Int32 → Int32 → Option (Int32)) (K44 : ∀ (x1 : Int32) (x2 : Int32) (x3 : Int32) (x4 : Int32) (x5 : Int32) (x6 : Int32) (x7 : Int32) (x8 : Int32) (x9 : Int32), k44 x1 x2 x3 x4 x5 x6 x7 x8 x9 = some r → At p l e (rmD 3) s m args below meth c D 11 w0 (QI below args s D w0 (fun x w => r = x ∧ (wM t qM bM) = w) 0 0) 0 0 44 [(0, .ref (qM 99)), (1, .int x1), (2, .int x2), (3, .int x3), (4, .int x4), (5, .int x5), (6, .int x6), (7, .int x7), (8, .int x8), (9, .int x9)] [] (wM t qM bM)) (x1 : Int32) (x2 : Int32) (x3 : Int32) (x4 : Int32) (x5 : Int32) (x6 : Int32) (x7 : Int32) (x8 : Int32) (x9 : Int32) (h0 : f_6_freeing_44_b bM k22 k44 x1 x2 x3 x4 x5 x6 x7 x8 x9 = some r) : At p l e (rmD 3) s m args below meth c D 11 w0 (QI below args s D w0 (fun x w => r = x ∧ (wM t qM bM) = w) 0 0) 0 0 44 [(0, .ref (qM 99)), (1, .int x1), (2, .int x2), (3, .int x3), (4, .int x4), (5, .int x5), (6, .int x6), (7, .int x7), (8, .int x8), (9, .int x9)] [] (wM t qM bM) := by
  unfold f_6_freeing_44_b at h0
  refine A_iload C 9 dX6_freeing_44 rfl ?_
  refine A_iconst C (4 : Int32) dX6_freeing_46 (by decide) ?_
  refine A_icmp_ge C 142 dX6_freeing_47 (by decide) h0 (fun h0 => ?_) (fun h0 => ?_)
  · refine A_iload C 8 dX6_freeing_142 rfl ?_
    refine A_if_eq C 230 dX6_freeing_144 (by decide) h0 (fun h0 => ?_) (fun h0 => ?_)
    · exact A_loc [0, 1, 2, 3, 4, 5] rfl (t_6_freeing_230 C qM bM r k22 K22 x1 x2 x3 x4 x5 h0)
    · refine A_iload C 6 dX6_freeing_147 rfl ?_
      refine A_aload_n C 0 dX6_freeing_149 rfl rfl ?_
      refine A_get (v := .ref (qM 8)) C 0 8 inG6 (ci := 6) rfl (by decide) fl_6_19 rfl rfl rfl dX6_freeing_150 ?_
      refine A_iconst C (0 : Int32) dX6_freeing_153 (by decide) ?_
      refine A_iald C 4 (gA bM 8 (0 : Int32)) rfl rfl dX6_freeing_154 h0 (fun h0 => ?_)
      refine A_icmp_gt C 230 dX6_freeing_155 (by decide) h0 (fun h0 => ?_) (fun h0 => ?_)
      · exact A_loc [0, 1, 2, 3, 4, 5] rfl (t_6_freeing_230 C qM bM r k22 K22 x1 x2 x3 x4 x5 h0)
      · refine A_aload_n C 0 dX6_freeing_158 rfl rfl ?_
        refine A_iload C 7 dX6_freeing_159 rfl ?_
        obtain ⟨z4, hz4, h0⟩ := bind_some h0
        refine A_vI (As := [.int x7]) (rest := []) C 0 (c_6_harvest l D t qM bM x7 hz4) mw_6_harvest ml_6_173 im_6_harvest sl_6_harvest (rmok rfl rfl) (cut0 (wM t qM bM)) rfl (ci := 6) rfl rfl rfl (Nat.le_of_ble_eq_true rfl) dX6_freeing_161 (fun x w1 hw1 => ?_)
        obtain ⟨rfl, rfl⟩ := hw1
        refine A_perm (ws' := (wM t qM bM)) ((cut0 _).symm) ?_
        refine A_istore C [(9, .int z4), (0, .ref (qM 99)), (1, .int x1), (2, .int x2), (3, .int x3), (4, .int x4), (5, .int x5), (6, .int x6), (7, .int x7), (8, .int x8)] dX6_freeing_164 (by decide) rfl ?_
        refine A_iload C 0 dX6_freeing_166 rfl ?_
        refine A_iload_n C 4 dX6_freeing_168 rfl rfl ?_
        refine A_icmp_gt C 185 dX6_freeing_169 (by decide) h0 (fun h0 => ?_) (fun h0 => ?_)
        · exact A_loc [1, 2, 3, 4, 5, 6, 7, 0] rfl (t_6_freeing_185 C qM bM r k22 K22 x1 x2 x3 x4 x5 x6 z4 h0)
        · refine A_iload C 0 dX6_freeing_172 rfl ?_
          refine A_iload_n C 4 dX6_freeing_174 rfl rfl ?_
          refine A_icmp_ne C 189 dX6_freeing_175 (by decide) h0 (fun h0 => ?_) (fun h0 => ?_)
          · exact A_loc [1, 2, 3, 4, 5, 6, 7, 0] rfl (t_6_freeing_189 C qM bM r k22 K22 x1 x2 x3 x4 x5 x6 z4 h0)
          · refine A_iload C 7 dX6_freeing_178 rfl ?_
            refine A_iload C 5 dX6_freeing_180 rfl ?_
            refine A_icmp_ge C 189 dX6_freeing_182 (by decide) h0 (fun h0 => ?_) (fun h0 => ?_)
            · exact A_loc [1, 2, 3, 4, 5, 6, 7, 0] rfl (t_6_freeing_189 C qM bM r k22 K22 x1 x2 x3 x4 x5 x6 z4 h0)
            · exact A_loc [1, 2, 3, 4, 5, 6, 7, 0] rfl (t_6_freeing_185 C qM bM r k22 K22 x1 x2 x3 x4 x5 x6 z4 h0)
  · refine A_iload C 5 dX6_freeing_50 rfl ?_
    refine A_iload C 9 dX6_freeing_52 rfl ?_
    refine A_ishr C dX6_freeing_54 ?_
    refine A_iconst C (1 : Int32) dX6_freeing_55 (by decide) ?_
    refine A_iand C dX6_freeing_56 ?_
    refine A_iconst C (1 : Int32) dX6_freeing_57 (by decide) ?_
    refine A_icmp_ne C 65 dX6_freeing_58 (by decide) h0 (fun h0 => ?_) (fun h0 => ?_)
    · refine A_iconst C (0 : Int32) dX6_freeing_65 (by decide) ?_
      exact A_loc [0, 1, 2, 3, 4, 5, 6, 7, 8, 9] rfl (t_6_freeing_66 C qM bM r k22 K22 k44 K44 x1 x2 x3 x4 x5 x6 x7 x8 x9 (0 : Int32) h0)
    · refine A_iconst C (1 : Int32) dX6_freeing_61 (by decide) ?_
      refine A_goto C 66 dX6_freeing_62 (by decide) ?_
      exact A_loc [0, 1, 2, 3, 4, 5, 6, 7, 8, 9] rfl (t_6_freeing_66 C qM bM r k22 K22 k44 K44 x1 x2 x3 x4 x5 x6 x7 x8 x9 (1 : Int32) h0)
def f_6_freeing_44 (bM : BV) (k22 : Int32 → Int32 → Int32 → Int32 → Int32 → Option (Int32)) : Nat → Int32 → Int32 → Int32 → Int32 → Int32 → Int32 → Int32 → Int32 → Int32 → Option (Int32)
  | 0 => fun _ _ _ _ _ _ _ _ _ => none
  | n + 1 => f_6_freeing_44_b bM k22 (f_6_freeing_44 bM k22 n)
theorem t_6_freeing_44 (C : CX p s m args meth c cX6_freeing 11 (some .int) RX6 D t) (qM : Nat → Nat) (bM : BV) (r : Int32) (k22 : Int32 → Int32 → Int32 → Int32 → Int32 → Option (Int32)) (K22 : ∀ (x1 : Int32) (x2 : Int32) (x3 : Int32) (x4 : Int32) (x5 : Int32), k22 x1 x2 x3 x4 x5 = some r → At p l e (rmD 3) s m args below meth c D 11 w0 (QI below args s D w0 (fun x w => r = x ∧ (wM t qM bM) = w) 0 0) 0 0 22 [(0, .ref (qM 99)), (1, .int x1), (2, .int x2), (3, .int x3), (4, .int x4), (5, .int x5)] [] (wM t qM bM)) : ∀ (n : Nat), ∀ (x1 : Int32) (x2 : Int32) (x3 : Int32) (x4 : Int32) (x5 : Int32) (x6 : Int32) (x7 : Int32) (x8 : Int32) (x9 : Int32), f_6_freeing_44 bM k22 n x1 x2 x3 x4 x5 x6 x7 x8 x9 = some r → At p l e (rmD 3) s m args below meth c D 11 w0 (QI below args s D w0 (fun x w => r = x ∧ (wM t qM bM) = w) 0 0) 0 0 44 [(0, .ref (qM 99)), (1, .int x1), (2, .int x2), (3, .int x3), (4, .int x4), (5, .int x5), (6, .int x6), (7, .int x7), (8, .int x8), (9, .int x9)] [] (wM t qM bM) := by
  intro n
  induction n with
  | zero =>
    intro x1 x2 x3 x4 x5 x6 x7 x8 x9 h0
    have h0 : none = some r := h0
    cases h0
  | succ n ih =>
    intro x1 x2 x3 x4 x5 x6 x7 x8 x9 h0
    exact t_6_freeing_44_b C qM bM r k22 K22 _ ih x1 x2 x3 x4 x5 x6 x7 x8 x9 h0
def f_6_freeing_22_b (bM : BV) (k22 : Int32 → Int32 → Int32 → Int32 → Int32 → Option (Int32)) (x1 : Int32) (x2 : Int32) (x3 : Int32) (x4 : Int32) (x5 : Int32) : Option (Int32) :=
  if (16 : Int32) ≤ x5 then (if x1 = 0 then (f_6_freeing_245 bM x2) else (f_6_freeing_245 bM x3)) else ((f_6_notIn bM).bind (fun z5 => f_6_freeing_44 bM k22 200 x1 x2 x3 x4 x5 (0 : Int32) z5 (1 : Int32) (0 : Int32)))
theorem t_6_freeing_22_b (C : CX p s m args meth c cX6_freeing 11 (some .int) RX6 D t) (qM : Nat → Nat) (bM : BV) (r : Int32) (k22 : Int32 → Int32 → Int32 → Int32 → Int32 → Option (Int32)) (K22 : ∀ (x1 : Int32) (x2 : Int32) (x3 : Int32) (x4 : Int32) (x5 : Int32), k22 x1 x2 x3 x4 x5 = some r → At p l e (rmD 3) s m args below meth c D 11 w0 (QI below args s D w0 (fun x w => r = x ∧ (wM t qM bM) = w) 0 0) 0 0 22 [(0, .ref (qM 99)), (1, .int x1), (2, .int x2), (3, .int x3), (4, .int x4), (5, .int x5)] [] (wM t qM bM)) (x1 : Int32) (x2 : Int32) (x3 : Int32) (x4 : Int32) (x5 : Int32) (h0 : f_6_freeing_22_b bM k22 x1 x2 x3 x4 x5 = some r) : At p l e (rmD 3) s m args below meth c D 11 w0 (QI below args s D w0 (fun x w => r = x ∧ (wM t qM bM) = w) 0 0) 0 0 22 [(0, .ref (qM 99)), (1, .int x1), (2, .int x2), (3, .int x3), (4, .int x4), (5, .int x5)] [] (wM t qM bM) := by
  unfold f_6_freeing_22_b at h0
  refine A_iload C 5 dX6_freeing_22 rfl ?_
  refine A_bipush C (16 : Int32) dX6_freeing_24 (by decide) ?_
  refine A_icmp_ge C 236 dX6_freeing_26 (by decide) h0 (fun h0 => ?_) (fun h0 => ?_)
  · refine A_iload_n C 1 dX6_freeing_236 rfl rfl ?_
    refine A_if_ne C 244 dX6_freeing_237 (by decide) h0 (fun h0 => ?_) (fun h0 => ?_)
    · refine A_iload_n C 3 dX6_freeing_244 rfl rfl ?_
      exact A_loc [] rfl (t_6_freeing_245 C qM bM r x3 h0)
    · refine A_iload_n C 2 dX6_freeing_240 rfl rfl ?_
      refine A_goto C 245 dX6_freeing_241 (by decide) ?_
      exact A_loc [] rfl (t_6_freeing_245 C qM bM r x2 h0)
  · refine A_iconst C (0 : Int32) dX6_freeing_29 (by decide) ?_
    refine A_istore C [(6, .int (0 : Int32)), (0, .ref (qM 99)), (1, .int x1), (2, .int x2), (3, .int x3), (4, .int x4), (5, .int x5)] dX6_freeing_30 (by decide) rfl ?_
    refine A_aload_n C 1 dX6_freeing_32 rfl rfl ?_
    obtain ⟨z5, hz5, h0⟩ := bind_some h0
    refine A_vI (As := []) (rest := []) C 0 (c_6_notIn l D t qM bM hz5) mw_6_notIn ml_6_144 im_6_notIn sl_6_notIn (rmok rfl rfl) (cut0 (wM t qM bM)) rfl (ci := 6) rfl rfl rfl (Nat.le_of_ble_eq_true rfl) dX6_freeing_33 (fun x w1 hw1 => ?_)
    obtain ⟨rfl, rfl⟩ := hw1
    refine A_perm (ws' := (wM t qM bM)) ((cut0 _).symm) ?_
    refine A_istore C [(7, .int z5), (6, .int (0 : Int32)), (0, .ref (qM 99)), (1, .int x1), (2, .int x2), (3, .int x3), (4, .int x4), (5, .int x5)] dX6_freeing_36 (by decide) rfl ?_
    refine A_iconst C (1 : Int32) dX6_freeing_38 (by decide) ?_
    refine A_istore C [(8, .int (1 : Int32)), (7, .int z5), (6, .int (0 : Int32)), (0, .ref (qM 99)), (1, .int x1), (2, .int x2), (3, .int x3), (4, .int x4), (5, .int x5)] dX6_freeing_39 (by decide) rfl ?_
    refine A_iconst C (0 : Int32) dX6_freeing_41 (by decide) ?_
    refine A_istore C [(9, .int (0 : Int32)), (8, .int (1 : Int32)), (7, .int z5), (6, .int (0 : Int32)), (0, .ref (qM 99)), (1, .int x1), (2, .int x2), (3, .int x3), (4, .int x4), (5, .int x5)] dX6_freeing_42 (by decide) rfl ?_
    exact A_loc [4, 5, 6, 7, 8, 9, 3, 2, 1, 0] rfl (t_6_freeing_44 C qM bM r k22 K22 200 x1 x2 x3 x4 x5 (0 : Int32) z5 (1 : Int32) (0 : Int32) h0)
def f_6_freeing_22 (bM : BV) : Nat → Int32 → Int32 → Int32 → Int32 → Int32 → Option (Int32)
  | 0 => fun _ _ _ _ _ => none
  | n + 1 => f_6_freeing_22_b bM (f_6_freeing_22 bM n)
theorem t_6_freeing_22 (C : CX p s m args meth c cX6_freeing 11 (some .int) RX6 D t) (qM : Nat → Nat) (bM : BV) (r : Int32) : ∀ (n : Nat), ∀ (x1 : Int32) (x2 : Int32) (x3 : Int32) (x4 : Int32) (x5 : Int32), f_6_freeing_22 bM n x1 x2 x3 x4 x5 = some r → At p l e (rmD 3) s m args below meth c D 11 w0 (QI below args s D w0 (fun x w => r = x ∧ (wM t qM bM) = w) 0 0) 0 0 22 [(0, .ref (qM 99)), (1, .int x1), (2, .int x2), (3, .int x3), (4, .int x4), (5, .int x5)] [] (wM t qM bM) := by
  intro n
  induction n with
  | zero =>
    intro x1 x2 x3 x4 x5 h0
    have h0 : none = some r := h0
    cases h0
  | succ n ih =>
    intro x1 x2 x3 x4 x5 h0
    exact t_6_freeing_22_b C qM bM r _ ih x1 x2 x3 x4 x5 h0
def f_6_freeing (bM : BV) (x1 : Int32) : Option (Int32) :=
  (f_6_in (x1).toInt64 (0 : Int64) (1 : Int64)).bind (fun z6 => if z6 = 0 then (some (-1 : Int32)) else (f_6_freeing_22 bM 200 x1 (0 : Int32) (-1 : Int32) (0 : Int32) (0 : Int32)))
theorem c_6_freeing (l : Launch) (D : va_G) (t : ty4) (qM : Nat → Nat) (bM : BV) (x1 : Int32) {r : Int32} (h0 : f_6_freeing bM x1 = some r) : MetI l yX6_freeing cX6_freeing 11 (some .int) (rmD 3) D t [.ref (qM 99), .int x1] (wM t qM bM) (fun x w => r = x ∧ (wM t qM bM) = w) := by
  refine MetI_of (by decide +kernel) (Nat.le_of_ble_eq_true rfl) (fun p e s m below meth c C _ => ?_)
  unfold f_6_freeing at h0
  generalize hargs : (List.toArray [.ref (qM 99), .int x1] : Array Value) = args at C ⊢
  refine At.start (lv2 := [(0, .ref (qM 99)), (1, .int x1)]) rfl ?_
  refine A_iload_n C 1 dX6_freeing_0 rfl rfl ?_
  refine A_i2l C dX6_freeing_1 ?_
  refine A_lconst C (0 : Int64) dX6_freeing_2 (by decide) ?_
  refine A_lconst C (1 : Int64) dX6_freeing_3 (by decide) ?_
  obtain ⟨z6, hz6, h0⟩ := bind_some h0
  refine A_sI (As := [.long (x1).toInt64, .long (0 : Int64), .long (1 : Int64)]) (rest := []) C (c_6_in l D t (x1).toInt64 (0 : Int64) (1 : Int64) hz6) mw_6_in ml_6_45 st_6_in (rmok rfl rfl) (cutN (wM t qM bM)) rfl rfl (Nat.le_of_ble_eq_true rfl) dX6_freeing_4 (fun x w1 hw1 => ?_)
  obtain ⟨rfl, rfl⟩ := hw1
  refine A_perm (ws' := (wM t qM bM)) ((cutN _).symm) ?_
  refine A_if_ne C 12 dX6_freeing_7 (by decide) h0 (fun h0 => ?_) (fun h0 => ?_)
  · refine A_iconst C (0 : Int32) dX6_freeing_12 (by decide) ?_
    refine A_istore_n C [(2, .int (0 : Int32)), (0, .ref (qM 99)), (1, .int x1)] dX6_freeing_13 rfl (by decide) rfl ?_
    refine A_iconst C (-1 : Int32) dX6_freeing_14 (by decide) ?_
    refine A_istore_n C [(3, .int (-1 : Int32)), (2, .int (0 : Int32)), (0, .ref (qM 99)), (1, .int x1)] dX6_freeing_15 rfl (by decide) rfl ?_
    refine A_iconst C (0 : Int32) dX6_freeing_16 (by decide) ?_
    refine A_istore C [(4, .int (0 : Int32)), (3, .int (-1 : Int32)), (2, .int (0 : Int32)), (0, .ref (qM 99)), (1, .int x1)] dX6_freeing_17 (by decide) rfl ?_
    refine A_iconst C (0 : Int32) dX6_freeing_19 (by decide) ?_
    refine A_istore C [(5, .int (0 : Int32)), (4, .int (0 : Int32)), (3, .int (-1 : Int32)), (2, .int (0 : Int32)), (0, .ref (qM 99)), (1, .int x1)] dX6_freeing_20 (by decide) rfl ?_
    exact A_loc [4, 5, 3, 2, 1, 0] rfl (t_6_freeing_22 C qM bM r 200 x1 (0 : Int32) (-1 : Int32) (0 : Int32) (0 : Int32) h0)
  · refine A_iconst C (-1 : Int32) dX6_freeing_10 (by decide) ?_
    have h0 := Option.some.inj h0
    subst h0
    exact A_iret C dX6_freeing_11 ⟨rfl, rfl⟩
def f_6_asides_2_b (k2 : BV → Int32 → Option (BV)) (bM : BV) (x1 : Int32) : Option (BV) :=
  if (15 : Int32) ≤ x1 then (some bM) else (ck (inb x1 15) (ck (inb x1 15) (bs (pA bM 11 x1 (gA bM 8 x1)) (fun b1 => k2 b1 (x1 + (1 : Int32))))))
theorem t_6_asides_2_b (C : CX p s m args meth c cX6_asides 2 none RX6 D t) (qM : Nat → Nat) (r : BV) (k2 : BV → Int32 → Option (BV)) (K2 : ∀ (bM : BV) (x1 : Int32), k2 bM x1 = some r → At p l e (rmD 0) s m args below meth c D 2 w0 (QV below args s D w0 (fun w => (wM t qM r) = w) 0 0) 0 0 2 [(0, .ref (qM 99)), (1, .int x1)] [] (wM t qM bM)) (bM : BV) (x1 : Int32) (h0 : f_6_asides_2_b k2 bM x1 = some r) : At p l e (rmD 0) s m args below meth c D 2 w0 (QV below args s D w0 (fun w => (wM t qM r) = w) 0 0) 0 0 2 [(0, .ref (qM 99)), (1, .int x1)] [] (wM t qM bM) := by
  unfold f_6_asides_2_b at h0
  refine A_iload_n C 1 dX6_asides_2 rfl rfl ?_
  refine A_bipush C (15 : Int32) dX6_asides_3 (by decide) ?_
  refine A_icmp_ge C 26 dX6_asides_5 (by decide) h0 (fun h0 => ?_) (fun h0 => ?_)
  · have h0 := Option.some.inj h0
    subst h0
    exact A_vret C dX6_asides_26 rfl
  · refine A_aload_n C 0 dX6_asides_8 rfl rfl ?_
    refine A_get (v := .ref (qM 11)) C 0 11 inG6 (ci := 6) rfl (by decide) fl_6_25 rfl rfl rfl dX6_asides_9 ?_
    refine A_iload_n C 1 dX6_asides_12 rfl rfl ?_
    refine A_aload_n C 0 dX6_asides_13 rfl rfl ?_
    refine A_get (v := .ref (qM 8)) C 0 8 inG6 (ci := 6) rfl (by decide) fl_6_19 rfl rfl rfl dX6_asides_14 ?_
    refine A_iload_n C 1 dX6_asides_17 rfl rfl ?_
    refine A_iald C 4 (gA bM 8 x1) rfl rfl dX6_asides_18 h0 (fun h0 => ?_)
    refine A_iast C 6 (wM t qM (pA bM 11 x1 (gA bM 8 x1))) rfl rfl dX6_asides_19 h0 (fun h0 => ?_)
    obtain ⟨b1, hb1, h0⟩ := bs_some h0
    refine A_weq (wM t qM b1) (by rw [hb1]) ?_
    refine A_iinc C 1 (x1 + (1 : Int32)) [(1, .int (x1 + (1 : Int32))), (0, .ref (qM 99))] dX6_asides_20 rfl rfl (by decide) rfl ?_
    refine A_goto C 2 dX6_asides_23 (by decide) ?_
    exact A_loc [1, 0] rfl (K2 b1 (x1 + (1 : Int32)) h0)
def f_6_asides_2 : Nat → BV → Int32 → Option (BV)
  | 0 => fun _ _ => none
  | n + 1 => f_6_asides_2_b (f_6_asides_2 n)
theorem t_6_asides_2 (C : CX p s m args meth c cX6_asides 2 none RX6 D t) (qM : Nat → Nat) (r : BV) : ∀ (n : Nat), ∀ (bM : BV) (x1 : Int32), f_6_asides_2 n bM x1 = some r → At p l e (rmD 0) s m args below meth c D 2 w0 (QV below args s D w0 (fun w => (wM t qM r) = w) 0 0) 0 0 2 [(0, .ref (qM 99)), (1, .int x1)] [] (wM t qM bM) := by
  intro n
  induction n with
  | zero =>
    intro bM x1 h0
    have h0 : none = some r := h0
    cases h0
  | succ n ih =>
    intro bM x1 h0
    exact t_6_asides_2_b C qM r _ ih bM x1 h0
def f_6_asides (bM : BV) : Option (BV) :=
  f_6_asides_2 200 bM (0 : Int32)
theorem c_6_asides (l : Launch) (D : va_G) (t : ty4) (qM : Nat → Nat) (bM : BV) {r : BV} (h0 : f_6_asides bM = some r) : MetV l yX6_asides cX6_asides 2 none (rmD 0) D t [.ref (qM 99)] (wM t qM bM) (fun w => (wM t qM r) = w) := by
  refine MetV_of (by decide +kernel) (Nat.le_of_ble_eq_true rfl) (fun p e s m below meth c C _ => ?_)
  unfold f_6_asides at h0
  generalize hargs : (List.toArray [.ref (qM 99)] : Array Value) = args at C ⊢
  refine At.start (lv2 := [(0, .ref (qM 99))]) rfl ?_
  refine A_iconst C (0 : Int32) dX6_asides_0 (by decide) ?_
  refine A_istore_n C [(1, .int (0 : Int32)), (0, .ref (qM 99))] dX6_asides_1 rfl (by decide) rfl ?_
  exact A_loc [1, 0] rfl (t_6_asides_2 C qM r 200 bM (0 : Int32) h0)
def f_6_backs_2_b (k2 : BV → Int32 → Option (BV)) (bM : BV) (x1 : Int32) : Option (BV) :=
  if (15 : Int32) ≤ x1 then (some bM) else (ck (inb x1 15) (ck (inb x1 15) (bs (pA bM 8 x1 (gA bM 11 x1)) (fun b1 => k2 b1 (x1 + (1 : Int32))))))
theorem t_6_backs_2_b (C : CX p s m args meth c cX6_backs 2 none RX6 D t) (qM : Nat → Nat) (r : BV) (k2 : BV → Int32 → Option (BV)) (K2 : ∀ (bM : BV) (x1 : Int32), k2 bM x1 = some r → At p l e (rmD 0) s m args below meth c D 2 w0 (QV below args s D w0 (fun w => (wM t qM r) = w) 0 0) 0 0 2 [(0, .ref (qM 99)), (1, .int x1)] [] (wM t qM bM)) (bM : BV) (x1 : Int32) (h0 : f_6_backs_2_b k2 bM x1 = some r) : At p l e (rmD 0) s m args below meth c D 2 w0 (QV below args s D w0 (fun w => (wM t qM r) = w) 0 0) 0 0 2 [(0, .ref (qM 99)), (1, .int x1)] [] (wM t qM bM) := by
  unfold f_6_backs_2_b at h0
  refine A_iload_n C 1 dX6_backs_2 rfl rfl ?_
  refine A_bipush C (15 : Int32) dX6_backs_3 (by decide) ?_
  refine A_icmp_ge C 26 dX6_backs_5 (by decide) h0 (fun h0 => ?_) (fun h0 => ?_)
  · have h0 := Option.some.inj h0
    subst h0
    exact A_vret C dX6_backs_26 rfl
  · refine A_aload_n C 0 dX6_backs_8 rfl rfl ?_
    refine A_get (v := .ref (qM 8)) C 0 8 inG6 (ci := 6) rfl (by decide) fl_6_19 rfl rfl rfl dX6_backs_9 ?_
    refine A_iload_n C 1 dX6_backs_12 rfl rfl ?_
    refine A_aload_n C 0 dX6_backs_13 rfl rfl ?_
    refine A_get (v := .ref (qM 11)) C 0 11 inG6 (ci := 6) rfl (by decide) fl_6_25 rfl rfl rfl dX6_backs_14 ?_
    refine A_iload_n C 1 dX6_backs_17 rfl rfl ?_
    refine A_iald C 6 (gA bM 11 x1) rfl rfl dX6_backs_18 h0 (fun h0 => ?_)
    refine A_iast C 4 (wM t qM (pA bM 8 x1 (gA bM 11 x1))) rfl rfl dX6_backs_19 h0 (fun h0 => ?_)
    obtain ⟨b1, hb1, h0⟩ := bs_some h0
    refine A_weq (wM t qM b1) (by rw [hb1]) ?_
    refine A_iinc C 1 (x1 + (1 : Int32)) [(1, .int (x1 + (1 : Int32))), (0, .ref (qM 99))] dX6_backs_20 rfl rfl (by decide) rfl ?_
    refine A_goto C 2 dX6_backs_23 (by decide) ?_
    exact A_loc [1, 0] rfl (K2 b1 (x1 + (1 : Int32)) h0)
def f_6_backs_2 : Nat → BV → Int32 → Option (BV)
  | 0 => fun _ _ => none
  | n + 1 => f_6_backs_2_b (f_6_backs_2 n)
theorem t_6_backs_2 (C : CX p s m args meth c cX6_backs 2 none RX6 D t) (qM : Nat → Nat) (r : BV) : ∀ (n : Nat), ∀ (bM : BV) (x1 : Int32), f_6_backs_2 n bM x1 = some r → At p l e (rmD 0) s m args below meth c D 2 w0 (QV below args s D w0 (fun w => (wM t qM r) = w) 0 0) 0 0 2 [(0, .ref (qM 99)), (1, .int x1)] [] (wM t qM bM) := by
  intro n
  induction n with
  | zero =>
    intro bM x1 h0
    have h0 : none = some r := h0
    cases h0
  | succ n ih =>
    intro bM x1 h0
    exact t_6_backs_2_b C qM r _ ih bM x1 h0
def f_6_backs (bM : BV) : Option (BV) :=
  f_6_backs_2 200 bM (0 : Int32)
theorem c_6_backs (l : Launch) (D : va_G) (t : ty4) (qM : Nat → Nat) (bM : BV) {r : BV} (h0 : f_6_backs bM = some r) : MetV l yX6_backs cX6_backs 2 none (rmD 0) D t [.ref (qM 99)] (wM t qM bM) (fun w => (wM t qM r) = w) := by
  refine MetV_of (by decide +kernel) (Nat.le_of_ble_eq_true rfl) (fun p e s m below meth c C _ => ?_)
  unfold f_6_backs at h0
  generalize hargs : (List.toArray [.ref (qM 99)] : Array Value) = args at C ⊢
  refine At.start (lv2 := [(0, .ref (qM 99))]) rfl ?_
  refine A_iconst C (0 : Int32) dX6_backs_0 (by decide) ?_
  refine A_istore_n C [(1, .int (0 : Int32)), (0, .ref (qM 99))] dX6_backs_1 rfl (by decide) rfl ?_
  exact A_loc [1, 0] rfl (t_6_backs_2 C qM r 200 bM (0 : Int32) h0)
def f_6_isBare_37 (bM : BV) (k4 : Int32 → Int32 → Option (Int32)) (x2 : Int32) (y0 : Int32) : Option (Int32) :=
  k4 y0 (x2 + (1 : Int32))
theorem t_6_isBare_37 (C : CX p s m args meth c cX6_isBare 3 (some .boolean) RX6 D t) (qM : Nat → Nat) (bM : BV) (r : Int32) (k4 : Int32 → Int32 → Option (Int32)) (K4 : ∀ (x1 : Int32) (x2 : Int32), k4 x1 x2 = some r → At p l e (rmD 3) s m args below meth c D 3 w0 (QI below args s D w0 (fun x w => r = x ∧ (wM t qM bM) = w) 0 0) 0 0 4 [(0, .ref (qM 99)), (1, .int x1), (2, .int x2)] [] (wM t qM bM)) (x2 : Int32) (y0 : Int32) (h0 : f_6_isBare_37 bM k4 x2 y0 = some r) : At p l e (rmD 3) s m args below meth c D 3 w0 (QI below args s D w0 (fun x w => r = x ∧ (wM t qM bM) = w) 0 0) 0 0 37 [(0, .ref (qM 99)), (2, .int x2)] [.int y0] (wM t qM bM) := by
  unfold f_6_isBare_37 at h0
  refine A_istore_n C [(1, .int y0), (0, .ref (qM 99)), (2, .int x2)] dX6_isBare_37 rfl (by decide) rfl ?_
  refine A_iinc C 2 (x2 + (1 : Int32)) [(2, .int (x2 + (1 : Int32))), (1, .int y0), (0, .ref (qM 99))] dX6_isBare_38 rfl rfl (by decide) rfl ?_
  refine A_goto C 4 dX6_isBare_41 (by decide) ?_
  exact A_loc [2, 1, 0] rfl (K4 y0 (x2 + (1 : Int32)) h0)
def f_6_isBare_36 (bM : BV) (k4 : Int32 → Int32 → Option (Int32)) (x2 : Int32) : Option (Int32) :=
  f_6_isBare_37 bM k4 x2 (0 : Int32)
theorem t_6_isBare_36 (C : CX p s m args meth c cX6_isBare 3 (some .boolean) RX6 D t) (qM : Nat → Nat) (bM : BV) (r : Int32) (k4 : Int32 → Int32 → Option (Int32)) (K4 : ∀ (x1 : Int32) (x2 : Int32), k4 x1 x2 = some r → At p l e (rmD 3) s m args below meth c D 3 w0 (QI below args s D w0 (fun x w => r = x ∧ (wM t qM bM) = w) 0 0) 0 0 4 [(0, .ref (qM 99)), (1, .int x1), (2, .int x2)] [] (wM t qM bM)) (x2 : Int32) (h0 : f_6_isBare_36 bM k4 x2 = some r) : At p l e (rmD 3) s m args below meth c D 3 w0 (QI below args s D w0 (fun x w => r = x ∧ (wM t qM bM) = w) 0 0) 0 0 36 [(0, .ref (qM 99)), (2, .int x2)] [] (wM t qM bM) := by
  unfold f_6_isBare_36 at h0
  refine A_iconst C (0 : Int32) dX6_isBare_36 (by decide) ?_
  exact A_loc [0, 1] rfl (t_6_isBare_37 C qM bM r k4 K4 x2 (0 : Int32) h0)
def f_6_isBare_4_b (bM : BV) (k4 : Int32 → Int32 → Option (Int32)) (x1 : Int32) (x2 : Int32) : Option (Int32) :=
  ck (inb (2 : Int32) 79) (if (gA bM 7 (2 : Int32)) ≤ x2 then (ck (isb x1) (some x1)) else (if x1 = 0 then (f_6_isBare_36 bM k4 x2) else ((f_6_notIn bM).bind (fun z1 => (f_6_ripens bM x2 z1).bind (fun z2 => if z2 = (-9 : Int32) then (f_6_isBare_37 bM k4 x2 (1 : Int32)) else (f_6_isBare_36 bM k4 x2))))))
theorem t_6_isBare_4_b (C : CX p s m args meth c cX6_isBare 3 (some .boolean) RX6 D t) (qM : Nat → Nat) (bM : BV) (r : Int32) (k4 : Int32 → Int32 → Option (Int32)) (K4 : ∀ (x1 : Int32) (x2 : Int32), k4 x1 x2 = some r → At p l e (rmD 3) s m args below meth c D 3 w0 (QI below args s D w0 (fun x w => r = x ∧ (wM t qM bM) = w) 0 0) 0 0 4 [(0, .ref (qM 99)), (1, .int x1), (2, .int x2)] [] (wM t qM bM)) (x1 : Int32) (x2 : Int32) (h0 : f_6_isBare_4_b bM k4 x1 x2 = some r) : At p l e (rmD 3) s m args below meth c D 3 w0 (QI below args s D w0 (fun x w => r = x ∧ (wM t qM bM) = w) 0 0) 0 0 4 [(0, .ref (qM 99)), (1, .int x1), (2, .int x2)] [] (wM t qM bM) := by
  unfold f_6_isBare_4_b at h0
  refine A_iload_n C 2 dX6_isBare_4 rfl rfl ?_
  refine A_aload_n C 0 dX6_isBare_5 rfl rfl ?_
  refine A_get (v := .ref (qM 7)) C 0 7 inG6 (ci := 6) rfl (by decide) fl_6_16 rfl rfl rfl dX6_isBare_6 ?_
  refine A_iconst C (2 : Int32) dX6_isBare_9 (by decide) ?_
  refine A_iald C 3 (gA bM 7 (2 : Int32)) rfl rfl dX6_isBare_10 h0 (fun h0 => ?_)
  refine A_icmp_ge C 44 dX6_isBare_11 (by decide) h0 (fun h0 => ?_) (fun h0 => ?_)
  · refine A_iload_n C 1 dX6_isBare_44 rfl rfl ?_
    obtain ⟨hz, h0⟩ := ck_some h0
    have h0 := Option.some.inj h0
    subst h0
    exact A_zret C dX6_isBare_45 hz ⟨rfl, rfl⟩
  · refine A_iload_n C 1 dX6_isBare_14 rfl rfl ?_
    refine A_if_eq C 36 dX6_isBare_15 (by decide) h0 (fun h0 => ?_) (fun h0 => ?_)
    · exact A_loc [0, 2] rfl (t_6_isBare_36 C qM bM r k4 K4 x2 h0)
    · refine A_aload_n C 0 dX6_isBare_18 rfl rfl ?_
      refine A_iload_n C 2 dX6_isBare_19 rfl rfl ?_
      refine A_aload_n C 0 dX6_isBare_20 rfl rfl ?_
      obtain ⟨z1, hz1, h0⟩ := bind_some h0
      refine A_vI (As := []) (rest := [.int x2, .ref (qM 99)]) C 0 (c_6_notIn l D t qM bM hz1) mw_6_notIn ml_6_144 im_6_notIn sl_6_notIn (rmok rfl rfl) (cut0 (wM t qM bM)) rfl (ci := 6) rfl rfl rfl (Nat.le_of_ble_eq_true rfl) dX6_isBare_21 (fun x w1 hw1 => ?_)
      obtain ⟨rfl, rfl⟩ := hw1
      refine A_perm (ws' := (wM t qM bM)) ((cut0 _).symm) ?_
      obtain ⟨z2, hz2, h0⟩ := bind_some h0
      refine A_vI (As := [.int x2, .int z1]) (rest := []) C 0 (c_6_ripens l D t qM bM x2 z1 hz2) mw_6_ripens ml_6_129 im_6_ripens sl_6_ripens (rmok rfl rfl) (cut0 (wM t qM bM)) rfl (ci := 6) rfl rfl rfl (Nat.le_of_ble_eq_true rfl) dX6_isBare_24 (fun x w1 hw1 => ?_)
      obtain ⟨rfl, rfl⟩ := hw1
      refine A_perm (ws' := (wM t qM bM)) ((cut0 _).symm) ?_
      refine A_bipush C (-9 : Int32) dX6_isBare_27 (by decide) ?_
      refine A_icmp_ne C 36 dX6_isBare_29 (by decide) h0 (fun h0 => ?_) (fun h0 => ?_)
      · exact A_loc [0, 2] rfl (t_6_isBare_36 C qM bM r k4 K4 x2 h0)
      · refine A_iconst C (1 : Int32) dX6_isBare_32 (by decide) ?_
        refine A_goto C 37 dX6_isBare_33 (by decide) ?_
        exact A_loc [0, 2] rfl (t_6_isBare_37 C qM bM r k4 K4 x2 (1 : Int32) h0)
def f_6_isBare_4 (bM : BV) : Nat → Int32 → Int32 → Option (Int32)
  | 0 => fun _ _ => none
  | n + 1 => f_6_isBare_4_b bM (f_6_isBare_4 bM n)
theorem t_6_isBare_4 (C : CX p s m args meth c cX6_isBare 3 (some .boolean) RX6 D t) (qM : Nat → Nat) (bM : BV) (r : Int32) : ∀ (n : Nat), ∀ (x1 : Int32) (x2 : Int32), f_6_isBare_4 bM n x1 x2 = some r → At p l e (rmD 3) s m args below meth c D 3 w0 (QI below args s D w0 (fun x w => r = x ∧ (wM t qM bM) = w) 0 0) 0 0 4 [(0, .ref (qM 99)), (1, .int x1), (2, .int x2)] [] (wM t qM bM) := by
  intro n
  induction n with
  | zero =>
    intro x1 x2 h0
    have h0 : none = some r := h0
    cases h0
  | succ n ih =>
    intro x1 x2 h0
    exact t_6_isBare_4_b C qM bM r _ ih x1 x2 h0
def f_6_isBare (bM : BV) : Option (Int32) :=
  f_6_isBare_4 bM 200 (1 : Int32) (0 : Int32)
theorem c_6_isBare (l : Launch) (D : va_G) (t : ty4) (qM : Nat → Nat) (bM : BV) {r : Int32} (h0 : f_6_isBare bM = some r) : MetI l yX6_isBare cX6_isBare 3 (some .boolean) (rmD 3) D t [.ref (qM 99)] (wM t qM bM) (fun x w => r = x ∧ (wM t qM bM) = w) := by
  refine MetI_of (by decide +kernel) (Nat.le_of_ble_eq_true rfl) (fun p e s m below meth c C _ => ?_)
  unfold f_6_isBare at h0
  generalize hargs : (List.toArray [.ref (qM 99)] : Array Value) = args at C ⊢
  refine At.start (lv2 := [(0, .ref (qM 99))]) rfl ?_
  refine A_iconst C (1 : Int32) dX6_isBare_0 (by decide) ?_
  refine A_istore_n C [(1, .int (1 : Int32)), (0, .ref (qM 99))] dX6_isBare_1 rfl (by decide) rfl ?_
  refine A_iconst C (0 : Int32) dX6_isBare_2 (by decide) ?_
  refine A_istore_n C [(2, .int (0 : Int32)), (1, .int (1 : Int32)), (0, .ref (qM 99))] dX6_isBare_3 rfl (by decide) rfl ?_
  exact A_loc [2, 1, 0] rfl (t_6_isBare_4 C qM bM r 200 (1 : Int32) (0 : Int32) h0)
def f_6_tells_18 (bM : BV) : Option (Int32 × BV) :=
  some ((-1 : Int32), bM)
theorem t_6_tells_18 (C : CX p s m args meth c cX6_tells 3 (some .int) RX6 D t) (qM : Nat → Nat) (r : Int32 × BV) (bM : BV) (h0 : f_6_tells_18 bM = some r) : At p l e (rmD 2) s m args below meth c D 3 w0 (QI below args s D w0 (fun x w => r.1 = x ∧ (wM t qM r.2) = w) 0 0) 0 0 18 [] [] (wM t qM bM) := by
  unfold f_6_tells_18 at h0
  refine A_iconst C (-1 : Int32) dX6_tells_18 (by decide) ?_
  have h0 := Option.some.inj h0
  subst h0
  exact A_iret C dX6_tells_19 ⟨rfl, rfl⟩
def f_6_tells (bM : BV) (x1 : Int32) (x2 : Int32) : Option (Int32 × BV) :=
  (f_6_isCrop bM x1).bind (fun z1 => if z1 = 0 then (f_6_tells_18 bM) else ((f_6_in (x2).toInt64 (0 : Int64) (1 : Int64)).bind (fun z2 => if z2 = 0 then (f_6_tells_18 bM) else (if (gI bM 12) = (6 : Int32) then (some ((-3 : Int32), bM)) else (ck (inb (gI bM 12) 6) (bs (pA bM 13 (gI bM 12) x1) (fun b3 => ck (inb (gI b3 12) 6) (bs (pA b3 14 (gI b3 12) x2) (fun b4 => some (((gI b4 12) + (1 : Int32)), (pI b4 12 ((gI b4 12) + (1 : Int32)))))))))))))
theorem c_6_tells (l : Launch) (D : va_G) (t : ty4) (qM : Nat → Nat) (bM : BV) (x1 : Int32) (x2 : Int32) {r : Int32 × BV} (h0 : f_6_tells bM x1 x2 = some r) : MetI l yX6_tells cX6_tells 3 (some .int) (rmD 2) D t [.ref (qM 99), .int x1, .int x2] (wM t qM bM) (fun x w => r.1 = x ∧ (wM t qM r.2) = w) := by
  refine MetI_of (by decide +kernel) (Nat.le_of_ble_eq_true rfl) (fun p e s m below meth c C _ => ?_)
  unfold f_6_tells at h0
  generalize hargs : (List.toArray [.ref (qM 99), .int x1, .int x2] : Array Value) = args at C ⊢
  refine At.start (lv2 := [(0, .ref (qM 99)), (1, .int x1), (2, .int x2)]) rfl ?_
  refine A_aload_n C 0 dX6_tells_0 rfl rfl ?_
  refine A_iload_n C 1 dX6_tells_1 rfl rfl ?_
  obtain ⟨z1, hz1, h0⟩ := bind_some h0
  refine A_vI (As := [.int x1]) (rest := []) C 0 (c_6_isCrop l D t qM bM x1 hz1) mw_6_isCrop ml_6_139 im_6_isCrop sl_6_isCrop (rmok rfl rfl) (cut0 (wM t qM bM)) rfl (ci := 6) rfl rfl rfl (Nat.le_of_ble_eq_true rfl) dX6_tells_2 (fun x w1 hw1 => ?_)
  obtain ⟨rfl, rfl⟩ := hw1
  refine A_perm (ws' := (wM t qM bM)) ((cut0 _).symm) ?_
  refine A_if_eq C 18 dX6_tells_5 (by decide) h0 (fun h0 => ?_) (fun h0 => ?_)
  · exact A_loc [] rfl (t_6_tells_18 C qM r bM h0)
  · refine A_iload_n C 2 dX6_tells_8 rfl rfl ?_
    refine A_i2l C dX6_tells_9 ?_
    refine A_lconst C (0 : Int64) dX6_tells_10 (by decide) ?_
    refine A_lconst C (1 : Int64) dX6_tells_11 (by decide) ?_
    obtain ⟨z2, hz2, h0⟩ := bind_some h0
    refine A_sI (As := [.long (x2).toInt64, .long (0 : Int64), .long (1 : Int64)]) (rest := []) C (c_6_in l D t (x2).toInt64 (0 : Int64) (1 : Int64) hz2) mw_6_in ml_6_45 st_6_in (rmok rfl rfl) (cutN (wM t qM bM)) rfl rfl (Nat.le_of_ble_eq_true rfl) dX6_tells_12 (fun x w1 hw1 => ?_)
    obtain ⟨rfl, rfl⟩ := hw1
    refine A_perm (ws' := (wM t qM bM)) ((cutN _).symm) ?_
    refine A_if_ne C 20 dX6_tells_15 (by decide) h0 (fun h0 => ?_) (fun h0 => ?_)
    · refine A_aload_n C 0 dX6_tells_20 rfl rfl ?_
      refine A_get (v := .int (gI bM 12)) C 0 12 inG6 (ci := 6) rfl (by decide) fl_6_110 rfl rfl rfl dX6_tells_21 ?_
      refine A_bipush C (6 : Int32) dX6_tells_24 (by decide) ?_
      refine A_icmp_ne C 32 dX6_tells_26 (by decide) h0 (fun h0 => ?_) (fun h0 => ?_)
      · refine A_aload_n C 0 dX6_tells_32 rfl rfl ?_
        refine A_get (v := .ref (qM 13)) C 0 13 inG6 (ci := 6) rfl (by decide) fl_6_28 rfl rfl rfl dX6_tells_33 ?_
        refine A_aload_n C 0 dX6_tells_36 rfl rfl ?_
        refine A_get (v := .int (gI bM 12)) C 0 12 inG6 (ci := 6) rfl (by decide) fl_6_110 rfl rfl rfl dX6_tells_37 ?_
        refine A_iload_n C 1 dX6_tells_40 rfl rfl ?_
        refine A_iast C 7 (wM t qM (pA bM 13 (gI bM 12) x1)) rfl rfl dX6_tells_41 h0 (fun h0 => ?_)
        obtain ⟨b3, hb3, h0⟩ := bs_some h0
        refine A_weq (wM t qM b3) (by rw [hb3]) ?_
        refine A_aload_n C 0 dX6_tells_42 rfl rfl ?_
        refine A_get (v := .ref (qM 14)) C 0 14 inG6 (ci := 6) rfl (by decide) fl_6_31 rfl rfl rfl dX6_tells_43 ?_
        refine A_aload_n C 0 dX6_tells_46 rfl rfl ?_
        refine A_get (v := .int (gI b3 12)) C 0 12 inG6 (ci := 6) rfl (by decide) fl_6_110 rfl rfl rfl dX6_tells_47 ?_
        refine A_iload_n C 2 dX6_tells_50 rfl rfl ?_
        refine A_iast C 8 (wM t qM (pA b3 14 (gI b3 12) x2)) rfl rfl dX6_tells_51 h0 (fun h0 => ?_)
        obtain ⟨b4, hb4, h0⟩ := bs_some h0
        refine A_weq (wM t qM b4) (by rw [hb4]) ?_
        refine A_aload_n C 0 dX6_tells_52 rfl rfl ?_
        refine A_dup C dX6_tells_53 rfl ?_
        refine A_get (v := .int (gI b4 12)) C 0 12 inG6 (ci := 6) rfl (by decide) fl_6_110 rfl rfl rfl dX6_tells_54 ?_
        refine A_iconst C (1 : Int32) dX6_tells_57 (by decide) ?_
        refine A_iadd C dX6_tells_58 ?_
        refine A_put C 0 12 (wM t qM (pI b4 12 ((gI b4 12) + (1 : Int32)))) tyX6 inG6 tyX6_ok nmX6 (ci := 6) rfl (by decide) fl_6_110 rfl rfl rfl rfl rfl (Nat.le_of_ble_eq_true rfl) rfl dX6_tells_59 ?_
        refine A_aload_n C 0 dX6_tells_62 rfl rfl ?_
        refine A_get (v := .int ((gI b4 12) + (1 : Int32))) C 0 12 inG6 (ci := 6) rfl (by decide) fl_6_110 rfl rfl rfl dX6_tells_63 ?_
        have h0 := Option.some.inj h0
        subst h0
        exact A_iret C dX6_tells_66 ⟨rfl, rfl⟩
      · refine A_bipush C (-3 : Int32) dX6_tells_29 (by decide) ?_
        have h0 := Option.some.inj h0
        subst h0
        exact A_iret C dX6_tells_31 ⟨rfl, rfl⟩
    · exact A_loc [] rfl (t_6_tells_18 C qM r bM h0)
def f_6_forget (bM : BV) : Option (Int32 × BV) :=
  some ((gI bM 12), (pI bM 12 (0 : Int32)))
theorem c_6_forget (l : Launch) (D : va_G) (t : ty4) (qM : Nat → Nat) (bM : BV) {r : Int32 × BV} (h0 : f_6_forget bM = some r) : MetI l yX6_forget cX6_forget 2 (some .int) (rmD 0) D t [.ref (qM 99)] (wM t qM bM) (fun x w => r.1 = x ∧ (wM t qM r.2) = w) := by
  refine MetI_of (by decide +kernel) (Nat.le_of_ble_eq_true rfl) (fun p e s m below meth c C _ => ?_)
  unfold f_6_forget at h0
  generalize hargs : (List.toArray [.ref (qM 99)] : Array Value) = args at C ⊢
  refine At.start (lv2 := [(0, .ref (qM 99))]) rfl ?_
  refine A_aload_n C 0 dX6_forget_0 rfl rfl ?_
  refine A_get (v := .int (gI bM 12)) C 0 12 inG6 (ci := 6) rfl (by decide) fl_6_110 rfl rfl rfl dX6_forget_1 ?_
  refine A_istore_n C [(1, .int (gI bM 12)), (0, .ref (qM 99))] dX6_forget_4 rfl (by decide) rfl ?_
  refine A_aload_n C 1 dX6_forget_5 rfl rfl ?_
  refine A_iconst C (0 : Int32) dX6_forget_6 (by decide) ?_
  refine A_put C 0 12 (wM t qM (pI bM 12 (0 : Int32))) tyX6 inG6 tyX6_ok nmX6 (ci := 6) rfl (by decide) fl_6_110 rfl rfl rfl rfl rfl (Nat.le_of_ble_eq_true rfl) rfl dX6_forget_7 ?_
  refine A_iload_n C 0 dX6_forget_10 rfl rfl ?_
  have h0 := Option.some.inj h0
  subst h0
  exact A_iret C dX6_forget_11 ⟨rfl, rfl⟩
def f_6_isSo_51 (bM : BV) (k4 : Int32 → Int32 → Int32 → Option (Int32)) (x1 : Int32) (x3 : Int32) (y0 : Int32) : Option (Int32) :=
  k4 x1 y0 (x3 + (1 : Int32))
theorem t_6_isSo_51 (C : CX p s m args meth c cX6_isSo 4 (some .boolean) RX6 D t) (qM : Nat → Nat) (bM : BV) (r : Int32) (k4 : Int32 → Int32 → Int32 → Option (Int32)) (K4 : ∀ (x1 : Int32) (x2 : Int32) (x3 : Int32), k4 x1 x2 x3 = some r → At p l e (rmD 2) s m args below meth c D 4 w0 (QI below args s D w0 (fun x w => r = x ∧ (wM t qM bM) = w) 0 0) 0 0 4 [(0, .ref (qM 99)), (1, .int x1), (2, .int x2), (3, .int x3)] [] (wM t qM bM)) (x1 : Int32) (x3 : Int32) (y0 : Int32) (h0 : f_6_isSo_51 bM k4 x1 x3 y0 = some r) : At p l e (rmD 2) s m args below meth c D 4 w0 (QI below args s D w0 (fun x w => r = x ∧ (wM t qM bM) = w) 0 0) 0 0 51 [(0, .ref (qM 99)), (1, .int x1), (3, .int x3)] [.int y0] (wM t qM bM) := by
  unfold f_6_isSo_51 at h0
  refine A_istore_n C [(2, .int y0), (0, .ref (qM 99)), (1, .int x1), (3, .int x3)] dX6_isSo_51 rfl (by decide) rfl ?_
  refine A_iinc C 3 (x3 + (1 : Int32)) [(3, .int (x3 + (1 : Int32))), (2, .int y0), (0, .ref (qM 99)), (1, .int x1)] dX6_isSo_52 rfl rfl (by decide) rfl ?_
  refine A_goto C 4 dX6_isSo_55 (by decide) ?_
  exact A_loc [2, 3, 1, 0] rfl (K4 x1 y0 (x3 + (1 : Int32)) h0)
def f_6_isSo_50 (bM : BV) (k4 : Int32 → Int32 → Int32 → Option (Int32)) (x1 : Int32) (x3 : Int32) : Option (Int32) :=
  f_6_isSo_51 bM k4 x1 x3 (0 : Int32)
theorem t_6_isSo_50 (C : CX p s m args meth c cX6_isSo 4 (some .boolean) RX6 D t) (qM : Nat → Nat) (bM : BV) (r : Int32) (k4 : Int32 → Int32 → Int32 → Option (Int32)) (K4 : ∀ (x1 : Int32) (x2 : Int32) (x3 : Int32), k4 x1 x2 x3 = some r → At p l e (rmD 2) s m args below meth c D 4 w0 (QI below args s D w0 (fun x w => r = x ∧ (wM t qM bM) = w) 0 0) 0 0 4 [(0, .ref (qM 99)), (1, .int x1), (2, .int x2), (3, .int x3)] [] (wM t qM bM)) (x1 : Int32) (x3 : Int32) (h0 : f_6_isSo_50 bM k4 x1 x3 = some r) : At p l e (rmD 2) s m args below meth c D 4 w0 (QI below args s D w0 (fun x w => r = x ∧ (wM t qM bM) = w) 0 0) 0 0 50 [(0, .ref (qM 99)), (1, .int x1), (3, .int x3)] [] (wM t qM bM) := by
  unfold f_6_isSo_50 at h0
  refine A_iconst C (0 : Int32) dX6_isSo_50 (by decide) ?_
  exact A_loc [0, 1, 2] rfl (t_6_isSo_51 C qM bM r k4 K4 x1 x3 (0 : Int32) h0)
def f_6_isSo_37 (bM : BV) (k4 : Int32 → Int32 → Int32 → Option (Int32)) (x1 : Int32) (x3 : Int32) (y0 : Int32) : Option (Int32) :=
  ck (inb x3 6) (if y0 = (gA bM 14 x3) then (f_6_isSo_51 bM k4 x1 x3 (1 : Int32)) else (f_6_isSo_50 bM k4 x1 x3))
theorem t_6_isSo_37 (C : CX p s m args meth c cX6_isSo 4 (some .boolean) RX6 D t) (qM : Nat → Nat) (bM : BV) (r : Int32) (k4 : Int32 → Int32 → Int32 → Option (Int32)) (K4 : ∀ (x1 : Int32) (x2 : Int32) (x3 : Int32), k4 x1 x2 x3 = some r → At p l e (rmD 2) s m args below meth c D 4 w0 (QI below args s D w0 (fun x w => r = x ∧ (wM t qM bM) = w) 0 0) 0 0 4 [(0, .ref (qM 99)), (1, .int x1), (2, .int x2), (3, .int x3)] [] (wM t qM bM)) (x1 : Int32) (x3 : Int32) (y0 : Int32) (h0 : f_6_isSo_37 bM k4 x1 x3 y0 = some r) : At p l e (rmD 2) s m args below meth c D 4 w0 (QI below args s D w0 (fun x w => r = x ∧ (wM t qM bM) = w) 0 0) 0 0 37 [(0, .ref (qM 99)), (1, .int x1), (3, .int x3)] [.int y0] (wM t qM bM) := by
  unfold f_6_isSo_37 at h0
  refine A_aload_n C 0 dX6_isSo_37 rfl rfl ?_
  refine A_get (v := .ref (qM 14)) C 0 14 inG6 (ci := 6) rfl (by decide) fl_6_31 rfl rfl rfl dX6_isSo_38 ?_
  refine A_iload_n C 2 dX6_isSo_41 rfl rfl ?_
  refine A_iald C 8 (gA bM 14 x3) rfl rfl dX6_isSo_42 h0 (fun h0 => ?_)
  refine A_icmp_ne C 50 dX6_isSo_43 (by decide) h0 (fun h0 => ?_) (fun h0 => ?_)
  · exact A_loc [0, 1, 2] rfl (t_6_isSo_50 C qM bM r k4 K4 x1 x3 h0)
  · refine A_iconst C (1 : Int32) dX6_isSo_46 (by decide) ?_
    refine A_goto C 51 dX6_isSo_47 (by decide) ?_
    exact A_loc [0, 1, 2] rfl (t_6_isSo_51 C qM bM r k4 K4 x1 x3 (1 : Int32) h0)
def f_6_isSo_4_b (bM : BV) (k4 : Int32 → Int32 → Int32 → Option (Int32)) (x1 : Int32) (x2 : Int32) (x3 : Int32) : Option (Int32) :=
  if (gI bM 12) ≤ x3 then (ck (isb x2) (some x2)) else (if x2 = 0 then (f_6_isSo_50 bM k4 x1 x3) else (ck (inb x3 6) ((f_6_ripens bM (gA bM 13 x3) x1).bind (fun z1 => if z1 = (-9 : Int32) then (f_6_isSo_37 bM k4 x1 x3 (0 : Int32)) else (f_6_isSo_37 bM k4 x1 x3 (1 : Int32))))))
theorem t_6_isSo_4_b (C : CX p s m args meth c cX6_isSo 4 (some .boolean) RX6 D t) (qM : Nat → Nat) (bM : BV) (r : Int32) (k4 : Int32 → Int32 → Int32 → Option (Int32)) (K4 : ∀ (x1 : Int32) (x2 : Int32) (x3 : Int32), k4 x1 x2 x3 = some r → At p l e (rmD 2) s m args below meth c D 4 w0 (QI below args s D w0 (fun x w => r = x ∧ (wM t qM bM) = w) 0 0) 0 0 4 [(0, .ref (qM 99)), (1, .int x1), (2, .int x2), (3, .int x3)] [] (wM t qM bM)) (x1 : Int32) (x2 : Int32) (x3 : Int32) (h0 : f_6_isSo_4_b bM k4 x1 x2 x3 = some r) : At p l e (rmD 2) s m args below meth c D 4 w0 (QI below args s D w0 (fun x w => r = x ∧ (wM t qM bM) = w) 0 0) 0 0 4 [(0, .ref (qM 99)), (1, .int x1), (2, .int x2), (3, .int x3)] [] (wM t qM bM) := by
  unfold f_6_isSo_4_b at h0
  refine A_iload_n C 3 dX6_isSo_4 rfl rfl ?_
  refine A_aload_n C 0 dX6_isSo_5 rfl rfl ?_
  refine A_get (v := .int (gI bM 12)) C 0 12 inG6 (ci := 6) rfl (by decide) fl_6_110 rfl rfl rfl dX6_isSo_6 ?_
  refine A_icmp_ge C 58 dX6_isSo_9 (by decide) h0 (fun h0 => ?_) (fun h0 => ?_)
  · refine A_iload_n C 2 dX6_isSo_58 rfl rfl ?_
    obtain ⟨hz, h0⟩ := ck_some h0
    have h0 := Option.some.inj h0
    subst h0
    exact A_zret C dX6_isSo_59 hz ⟨rfl, rfl⟩
  · refine A_iload_n C 2 dX6_isSo_12 rfl rfl ?_
    refine A_if_eq C 50 dX6_isSo_13 (by decide) h0 (fun h0 => ?_) (fun h0 => ?_)
    · exact A_loc [0, 1, 3] rfl (t_6_isSo_50 C qM bM r k4 K4 x1 x3 h0)
    · refine A_aload_n C 0 dX6_isSo_16 rfl rfl ?_
      refine A_aload_n C 0 dX6_isSo_17 rfl rfl ?_
      refine A_get (v := .ref (qM 13)) C 0 13 inG6 (ci := 6) rfl (by decide) fl_6_28 rfl rfl rfl dX6_isSo_18 ?_
      refine A_iload_n C 3 dX6_isSo_21 rfl rfl ?_
      refine A_iald C 7 (gA bM 13 x3) rfl rfl dX6_isSo_22 h0 (fun h0 => ?_)
      refine A_iload_n C 1 dX6_isSo_23 rfl rfl ?_
      obtain ⟨z1, hz1, h0⟩ := bind_some h0
      refine A_vI (As := [.int (gA bM 13 x3), .int x1]) (rest := []) C 0 (c_6_ripens l D t qM bM (gA bM 13 x3) x1 hz1) mw_6_ripens ml_6_129 im_6_ripens sl_6_ripens (rmok rfl rfl) (cut0 (wM t qM bM)) rfl (ci := 6) rfl rfl rfl (Nat.le_of_ble_eq_true rfl) dX6_isSo_24 (fun x w1 hw1 => ?_)
      obtain ⟨rfl, rfl⟩ := hw1
      refine A_perm (ws' := (wM t qM bM)) ((cut0 _).symm) ?_
      refine A_bipush C (-9 : Int32) dX6_isSo_27 (by decide) ?_
      refine A_icmp_ne C 36 dX6_isSo_29 (by decide) h0 (fun h0 => ?_) (fun h0 => ?_)
      · refine A_iconst C (1 : Int32) dX6_isSo_36 (by decide) ?_
        exact A_loc [0, 1, 3] rfl (t_6_isSo_37 C qM bM r k4 K4 x1 x3 (1 : Int32) h0)
      · refine A_iconst C (0 : Int32) dX6_isSo_32 (by decide) ?_
        refine A_goto C 37 dX6_isSo_33 (by decide) ?_
        exact A_loc [0, 1, 3] rfl (t_6_isSo_37 C qM bM r k4 K4 x1 x3 (0 : Int32) h0)
def f_6_isSo_4 (bM : BV) : Nat → Int32 → Int32 → Int32 → Option (Int32)
  | 0 => fun _ _ _ => none
  | n + 1 => f_6_isSo_4_b bM (f_6_isSo_4 bM n)
theorem t_6_isSo_4 (C : CX p s m args meth c cX6_isSo 4 (some .boolean) RX6 D t) (qM : Nat → Nat) (bM : BV) (r : Int32) : ∀ (n : Nat), ∀ (x1 : Int32) (x2 : Int32) (x3 : Int32), f_6_isSo_4 bM n x1 x2 x3 = some r → At p l e (rmD 2) s m args below meth c D 4 w0 (QI below args s D w0 (fun x w => r = x ∧ (wM t qM bM) = w) 0 0) 0 0 4 [(0, .ref (qM 99)), (1, .int x1), (2, .int x2), (3, .int x3)] [] (wM t qM bM) := by
  intro n
  induction n with
  | zero =>
    intro x1 x2 x3 h0
    have h0 : none = some r := h0
    cases h0
  | succ n ih =>
    intro x1 x2 x3 h0
    exact t_6_isSo_4_b C qM bM r _ ih x1 x2 x3 h0
def f_6_isSo (bM : BV) (x1 : Int32) : Option (Int32) :=
  f_6_isSo_4 bM 200 x1 (1 : Int32) (0 : Int32)
theorem c_6_isSo (l : Launch) (D : va_G) (t : ty4) (qM : Nat → Nat) (bM : BV) (x1 : Int32) {r : Int32} (h0 : f_6_isSo bM x1 = some r) : MetI l yX6_isSo cX6_isSo 4 (some .boolean) (rmD 2) D t [.ref (qM 99), .int x1] (wM t qM bM) (fun x w => r = x ∧ (wM t qM bM) = w) := by
  refine MetI_of (by decide +kernel) (Nat.le_of_ble_eq_true rfl) (fun p e s m below meth c C _ => ?_)
  unfold f_6_isSo at h0
  generalize hargs : (List.toArray [.ref (qM 99), .int x1] : Array Value) = args at C ⊢
  refine At.start (lv2 := [(0, .ref (qM 99)), (1, .int x1)]) rfl ?_
  refine A_iconst C (1 : Int32) dX6_isSo_0 (by decide) ?_
  refine A_istore_n C [(2, .int (1 : Int32)), (0, .ref (qM 99)), (1, .int x1)] dX6_isSo_1 rfl (by decide) rfl ?_
  refine A_iconst C (0 : Int32) dX6_isSo_2 (by decide) ?_
  refine A_istore_n C [(3, .int (0 : Int32)), (2, .int (1 : Int32)), (0, .ref (qM 99)), (1, .int x1)] dX6_isSo_3 rfl (by decide) rfl ?_
  exact A_loc [2, 3, 1, 0] rfl (t_6_isSo_4 C qM bM r 200 x1 (1 : Int32) (0 : Int32) h0)
def f_6_fits_142 (bM : BV) (y0 : Int32) : Option (Int32) :=
  some y0
theorem t_6_fits_142 (C : CX p s m args meth c cX6_fits 7 (some .int) RX6 D t) (qM : Nat → Nat) (bM : BV) (r : Int32) (y0 : Int32) (h0 : f_6_fits_142 bM y0 = some r) : At p l e (rmD 3) s m args below meth c D 7 w0 (QI below args s D w0 (fun x w => r = x ∧ (wM t qM bM) = w) 0 0) 0 0 142 [] [.int y0] (wM t qM bM) := by
  unfold f_6_fits_142 at h0
  have h0 := Option.some.inj h0
  subst h0
  exact A_iret C dX6_fits_142 ⟨rfl, rfl⟩
def f_6_fits_108 (bM : BV) (k25 : Int32 → Int32 → Int32 → Int32 → Int32 → Option (Int32)) (x1 : Int32) (x2 : Int32) (x3 : Int32) (x4 : Int32) (x5 : Int32) : Option (Int32) :=
  k25 x1 x2 x3 x4 (x5 + (1 : Int32))
theorem t_6_fits_108 (C : CX p s m args meth c cX6_fits 7 (some .int) RX6 D t) (qM : Nat → Nat) (bM : BV) (r : Int32) (k25 : Int32 → Int32 → Int32 → Int32 → Int32 → Option (Int32)) (K25 : ∀ (x1 : Int32) (x2 : Int32) (x3 : Int32) (x4 : Int32) (x5 : Int32), k25 x1 x2 x3 x4 x5 = some r → At p l e (rmD 3) s m args below meth c D 7 w0 (QI below args s D w0 (fun x w => r = x ∧ (wM t qM bM) = w) 0 0) 0 0 25 [(0, .ref (qM 99)), (1, .int x1), (2, .int x2), (3, .int x3), (4, .int x4), (5, .int x5)] [] (wM t qM bM)) (x1 : Int32) (x2 : Int32) (x3 : Int32) (x4 : Int32) (x5 : Int32) (h0 : f_6_fits_108 bM k25 x1 x2 x3 x4 x5 = some r) : At p l e (rmD 3) s m args below meth c D 7 w0 (QI below args s D w0 (fun x w => r = x ∧ (wM t qM bM) = w) 0 0) 0 0 108 [(0, .ref (qM 99)), (1, .int x1), (2, .int x2), (3, .int x3), (4, .int x4), (5, .int x5)] [] (wM t qM bM) := by
  unfold f_6_fits_108 at h0
  refine A_iinc C 5 (x5 + (1 : Int32)) [(5, .int (x5 + (1 : Int32))), (0, .ref (qM 99)), (1, .int x1), (2, .int x2), (3, .int x3), (4, .int x4)] dX6_fits_108 rfl rfl (by decide) rfl ?_
  refine A_goto C 25 dX6_fits_111 (by decide) ?_
  exact A_loc [1, 2, 3, 4, 5, 0] rfl (K25 x1 x2 x3 x4 (x5 + (1 : Int32)) h0)
def f_6_fits_102 (bM : BV) (k25 : Int32 → Int32 → Int32 → Int32 → Int32 → Option (Int32)) (k37 : Int32 → Int32 → Int32 → Int32 → Int32 → Int32 → Option (Int32)) (x1 : Int32) (x2 : Int32) (x3 : Int32) (x4 : Int32) (x5 : Int32) (x6 : Int32) : Option (Int32) :=
  k37 x1 x2 x3 x4 x5 (x6 + (1 : Int32))
theorem t_6_fits_102 (C : CX p s m args meth c cX6_fits 7 (some .int) RX6 D t) (qM : Nat → Nat) (bM : BV) (r : Int32) (k25 : Int32 → Int32 → Int32 → Int32 → Int32 → Option (Int32)) (K25 : ∀ (x1 : Int32) (x2 : Int32) (x3 : Int32) (x4 : Int32) (x5 : Int32), k25 x1 x2 x3 x4 x5 = some r → At p l e (rmD 3) s m args below meth c D 7 w0 (QI below args s D w0 (fun x w => r = x ∧ (wM t qM bM) = w) 0 0) 0 0 25 [(0, .ref (qM 99)), (1, .int x1), (2, .int x2), (3, .int x3), (4, .int x4), (5, .int x5)] [] (wM t qM bM)) (k37 : Int32 → Int32 → Int32 → Int32 → Int32 → Int32 → Option (Int32)) (K37 : ∀ (x1 : Int32) (x2 : Int32) (x3 : Int32) (x4 : Int32) (x5 : Int32) (x6 : Int32), k37 x1 x2 x3 x4 x5 x6 = some r → At p l e (rmD 3) s m args below meth c D 7 w0 (QI below args s D w0 (fun x w => r = x ∧ (wM t qM bM) = w) 0 0) 0 0 37 [(0, .ref (qM 99)), (1, .int x1), (2, .int x2), (3, .int x3), (4, .int x4), (5, .int x5), (6, .int x6)] [] (wM t qM bM)) (x1 : Int32) (x2 : Int32) (x3 : Int32) (x4 : Int32) (x5 : Int32) (x6 : Int32) (h0 : f_6_fits_102 bM k25 k37 x1 x2 x3 x4 x5 x6 = some r) : At p l e (rmD 3) s m args below meth c D 7 w0 (QI below args s D w0 (fun x w => r = x ∧ (wM t qM bM) = w) 0 0) 0 0 102 [(0, .ref (qM 99)), (1, .int x1), (2, .int x2), (3, .int x3), (4, .int x4), (5, .int x5), (6, .int x6)] [] (wM t qM bM) := by
  unfold f_6_fits_102 at h0
  refine A_iinc C 6 (x6 + (1 : Int32)) [(6, .int (x6 + (1 : Int32))), (0, .ref (qM 99)), (1, .int x1), (2, .int x2), (3, .int x3), (4, .int x4), (5, .int x5)] dX6_fits_102 rfl rfl (by decide) rfl ?_
  refine A_goto C 37 dX6_fits_105 (by decide) ?_
  exact A_loc [1, 2, 3, 4, 5, 6, 0] rfl (K37 x1 x2 x3 x4 x5 (x6 + (1 : Int32)) h0)
def f_6_fits_86 (bM : BV) (k25 : Int32 → Int32 → Int32 → Int32 → Int32 → Option (Int32)) (k37 : Int32 → Int32 → Int32 → Int32 → Int32 → Int32 → Option (Int32)) (x1 : Int32) (x2 : Int32) (x4 : Int32) (x5 : Int32) (x6 : Int32) (y0 : Int32) : Option (Int32) :=
  (f_6_row x5 x6).bind (fun z1 => f_6_fits_102 bM k25 k37 x1 (x2 + (1 : Int32)) y0 (x4 &&& z1) x5 x6)
theorem t_6_fits_86 (C : CX p s m args meth c cX6_fits 7 (some .int) RX6 D t) (qM : Nat → Nat) (bM : BV) (r : Int32) (k25 : Int32 → Int32 → Int32 → Int32 → Int32 → Option (Int32)) (K25 : ∀ (x1 : Int32) (x2 : Int32) (x3 : Int32) (x4 : Int32) (x5 : Int32), k25 x1 x2 x3 x4 x5 = some r → At p l e (rmD 3) s m args below meth c D 7 w0 (QI below args s D w0 (fun x w => r = x ∧ (wM t qM bM) = w) 0 0) 0 0 25 [(0, .ref (qM 99)), (1, .int x1), (2, .int x2), (3, .int x3), (4, .int x4), (5, .int x5)] [] (wM t qM bM)) (k37 : Int32 → Int32 → Int32 → Int32 → Int32 → Int32 → Option (Int32)) (K37 : ∀ (x1 : Int32) (x2 : Int32) (x3 : Int32) (x4 : Int32) (x5 : Int32) (x6 : Int32), k37 x1 x2 x3 x4 x5 x6 = some r → At p l e (rmD 3) s m args below meth c D 7 w0 (QI below args s D w0 (fun x w => r = x ∧ (wM t qM bM) = w) 0 0) 0 0 37 [(0, .ref (qM 99)), (1, .int x1), (2, .int x2), (3, .int x3), (4, .int x4), (5, .int x5), (6, .int x6)] [] (wM t qM bM)) (x1 : Int32) (x2 : Int32) (x4 : Int32) (x5 : Int32) (x6 : Int32) (y0 : Int32) (h0 : f_6_fits_86 bM k25 k37 x1 x2 x4 x5 x6 y0 = some r) : At p l e (rmD 3) s m args below meth c D 7 w0 (QI below args s D w0 (fun x w => r = x ∧ (wM t qM bM) = w) 0 0) 0 0 86 [(0, .ref (qM 99)), (1, .int x1), (2, .int x2), (4, .int x4), (5, .int x5), (6, .int x6)] [.int y0] (wM t qM bM) := by
  unfold f_6_fits_86 at h0
  refine A_istore_n C [(3, .int y0), (0, .ref (qM 99)), (1, .int x1), (2, .int x2), (4, .int x4), (5, .int x5), (6, .int x6)] dX6_fits_86 rfl (by decide) rfl ?_
  refine A_iinc C 3 (x2 + (1 : Int32)) [(2, .int (x2 + (1 : Int32))), (3, .int y0), (0, .ref (qM 99)), (1, .int x1), (4, .int x4), (5, .int x5), (6, .int x6)] dX6_fits_87 rfl rfl (by decide) rfl ?_
  refine A_iload C 4 dX6_fits_90 rfl ?_
  refine A_iload C 5 dX6_fits_92 rfl ?_
  refine A_iload C 6 dX6_fits_94 rfl ?_
  obtain ⟨z1, hz1, h0⟩ := bind_some h0
  refine A_sI (As := [.int x5, .int x6]) (rest := [.int x4]) C (c_6_row l D t x5 x6 hz1) mw_6_row ml_6_152 st_6_row (rmok rfl rfl) (cutN (wM t qM bM)) rfl rfl (Nat.le_of_ble_eq_true rfl) dX6_fits_96 (fun x w1 hw1 => ?_)
  obtain ⟨rfl, rfl⟩ := hw1
  refine A_perm (ws' := (wM t qM bM)) ((cutN _).symm) ?_
  refine A_iand C dX6_fits_99 ?_
  refine A_istore C [(4, .int (x4 &&& z1)), (2, .int (x2 + (1 : Int32))), (3, .int y0), (0, .ref (qM 99)), (1, .int x1), (5, .int x5), (6, .int x6)] dX6_fits_100 (by decide) rfl ?_
  exact A_loc [3, 4, 1, 2, 0, 5, 6] rfl (t_6_fits_102 C qM bM r k25 K25 k37 K37 x1 (x2 + (1 : Int32)) y0 (x4 &&& z1) x5 x6 h0)
def f_6_fits_37_b (bM : BV) (k25 : Int32 → Int32 → Int32 → Int32 → Int32 → Option (Int32)) (k37 : Int32 → Int32 → Int32 → Int32 → Int32 → Int32 → Option (Int32)) (x1 : Int32) (x2 : Int32) (x3 : Int32) (x4 : Int32) (x5 : Int32) (x6 : Int32) : Option (Int32) :=
  if (10 : Int32) ≤ x6 then (f_6_fits_108 bM k25 x1 x2 x3 x4 x5) else ((f_6_days bM).bind (fun z2 => if z2 < (x5 + x6) then (f_6_fits_108 bM k25 x1 x2 x3 x4 x5) else ((f_6_row x5 x6).bind (fun z3 => (f_6_isSo bM z3).bind (fun z4 => if z4 = 0 then (f_6_fits_102 bM k25 k37 x1 x2 x3 x4 x5 x6) else (if x2 = 0 then (f_6_fits_86 bM k25 k37 x1 x2 x4 x5 x6 (((100 : Int32) * x5) + x6)) else (f_6_fits_86 bM k25 k37 x1 x2 x4 x5 x6 x3)))))))
theorem t_6_fits_37_b (C : CX p s m args meth c cX6_fits 7 (some .int) RX6 D t) (qM : Nat → Nat) (bM : BV) (r : Int32) (k25 : Int32 → Int32 → Int32 → Int32 → Int32 → Option (Int32)) (K25 : ∀ (x1 : Int32) (x2 : Int32) (x3 : Int32) (x4 : Int32) (x5 : Int32), k25 x1 x2 x3 x4 x5 = some r → At p l e (rmD 3) s m args below meth c D 7 w0 (QI below args s D w0 (fun x w => r = x ∧ (wM t qM bM) = w) 0 0) 0 0 25 [(0, .ref (qM 99)), (1, .int x1), (2, .int x2), (3, .int x3), (4, .int x4), (5, .int x5)] [] (wM t qM bM)) (k37 : Int32 → Int32 → Int32 → Int32 → Int32 → Int32 → Option (Int32)) (K37 : ∀ (x1 : Int32) (x2 : Int32) (x3 : Int32) (x4 : Int32) (x5 : Int32) (x6 : Int32), k37 x1 x2 x3 x4 x5 x6 = some r → At p l e (rmD 3) s m args below meth c D 7 w0 (QI below args s D w0 (fun x w => r = x ∧ (wM t qM bM) = w) 0 0) 0 0 37 [(0, .ref (qM 99)), (1, .int x1), (2, .int x2), (3, .int x3), (4, .int x4), (5, .int x5), (6, .int x6)] [] (wM t qM bM)) (x1 : Int32) (x2 : Int32) (x3 : Int32) (x4 : Int32) (x5 : Int32) (x6 : Int32) (h0 : f_6_fits_37_b bM k25 k37 x1 x2 x3 x4 x5 x6 = some r) : At p l e (rmD 3) s m args below meth c D 7 w0 (QI below args s D w0 (fun x w => r = x ∧ (wM t qM bM) = w) 0 0) 0 0 37 [(0, .ref (qM 99)), (1, .int x1), (2, .int x2), (3, .int x3), (4, .int x4), (5, .int x5), (6, .int x6)] [] (wM t qM bM) := by
  unfold f_6_fits_37_b at h0
  refine A_iload C 6 dX6_fits_37 rfl ?_
  refine A_bipush C (10 : Int32) dX6_fits_39 (by decide) ?_
  refine A_icmp_ge C 108 dX6_fits_41 (by decide) h0 (fun h0 => ?_) (fun h0 => ?_)
  · exact A_loc [0, 1, 2, 3, 4, 5] rfl (t_6_fits_108 C qM bM r k25 K25 x1 x2 x3 x4 x5 h0)
  · refine A_iload C 5 dX6_fits_44 rfl ?_
    refine A_iload C 6 dX6_fits_46 rfl ?_
    refine A_iadd C dX6_fits_48 ?_
    refine A_aload_n C 0 dX6_fits_49 rfl rfl ?_
    obtain ⟨z2, hz2, h0⟩ := bind_some h0
    refine A_vI (As := []) (rest := [.int (x5 + x6)]) C 0 (c_6_days l D t qM bM hz2) mw_6_days ml_6_116 im_6_days sl_6_days (rmok rfl rfl) (cut0 (wM t qM bM)) rfl (ci := 6) rfl rfl rfl (Nat.le_of_ble_eq_true rfl) dX6_fits_50 (fun x w1 hw1 => ?_)
    obtain ⟨rfl, rfl⟩ := hw1
    refine A_perm (ws' := (wM t qM bM)) ((cut0 _).symm) ?_
    refine A_icmp_gt C 108 dX6_fits_53 (by decide) h0 (fun h0 => ?_) (fun h0 => ?_)
    · exact A_loc [0, 1, 2, 3, 4, 5] rfl (t_6_fits_108 C qM bM r k25 K25 x1 x2 x3 x4 x5 h0)
    · refine A_aload_n C 0 dX6_fits_56 rfl rfl ?_
      refine A_iload C 5 dX6_fits_57 rfl ?_
      refine A_iload C 6 dX6_fits_59 rfl ?_
      obtain ⟨z3, hz3, h0⟩ := bind_some h0
      refine A_sI (As := [.int x5, .int x6]) (rest := [.ref (qM 99)]) C (c_6_row l D t x5 x6 hz3) mw_6_row ml_6_152 st_6_row (rmok rfl rfl) (cutN (wM t qM bM)) rfl rfl (Nat.le_of_ble_eq_true rfl) dX6_fits_61 (fun x w1 hw1 => ?_)
      obtain ⟨rfl, rfl⟩ := hw1
      refine A_perm (ws' := (wM t qM bM)) ((cutN _).symm) ?_
      obtain ⟨z4, hz4, h0⟩ := bind_some h0
      refine A_vI (As := [.int z3]) (rest := []) C 0 (c_6_isSo l D t qM bM z3 hz4) mw_6_isSo ml_6_198 im_6_isSo sl_6_isSo (rmok rfl rfl) (cut0 (wM t qM bM)) rfl (ci := 6) rfl rfl rfl (Nat.le_of_ble_eq_true rfl) dX6_fits_64 (fun x w1 hw1 => ?_)
      obtain ⟨rfl, rfl⟩ := hw1
      refine A_perm (ws' := (wM t qM bM)) ((cut0 _).symm) ?_
      refine A_if_eq C 102 dX6_fits_67 (by decide) h0 (fun h0 => ?_) (fun h0 => ?_)
      · exact A_loc [0, 1, 2, 3, 4, 5, 6] rfl (t_6_fits_102 C qM bM r k25 K25 k37 K37 x1 x2 x3 x4 x5 x6 h0)
      · refine A_iload_n C 2 dX6_fits_70 rfl rfl ?_
        refine A_if_ne C 85 dX6_fits_71 (by decide) h0 (fun h0 => ?_) (fun h0 => ?_)
        · refine A_iload_n C 3 dX6_fits_85 rfl rfl ?_
          exact A_loc [0, 1, 2, 4, 5, 6] rfl (t_6_fits_86 C qM bM r k25 K25 k37 K37 x1 x2 x4 x5 x6 x3 h0)
        · refine A_bipush C (100 : Int32) dX6_fits_74 (by decide) ?_
          refine A_iload C 5 dX6_fits_76 rfl ?_
          refine A_imul C dX6_fits_78 ?_
          refine A_iload C 6 dX6_fits_79 rfl ?_
          refine A_iadd C dX6_fits_81 ?_
          refine A_goto C 86 dX6_fits_82 (by decide) ?_
          exact A_loc [0, 1, 2, 4, 5, 6] rfl (t_6_fits_86 C qM bM r k25 K25 k37 K37 x1 x2 x4 x5 x6 (((100 : Int32) * x5) + x6) h0)
def f_6_fits_37 (bM : BV) (k25 : Int32 → Int32 → Int32 → Int32 → Int32 → Option (Int32)) : Nat → Int32 → Int32 → Int32 → Int32 → Int32 → Int32 → Option (Int32)
  | 0 => fun _ _ _ _ _ _ => none
  | n + 1 => f_6_fits_37_b bM k25 (f_6_fits_37 bM k25 n)
theorem t_6_fits_37 (C : CX p s m args meth c cX6_fits 7 (some .int) RX6 D t) (qM : Nat → Nat) (bM : BV) (r : Int32) (k25 : Int32 → Int32 → Int32 → Int32 → Int32 → Option (Int32)) (K25 : ∀ (x1 : Int32) (x2 : Int32) (x3 : Int32) (x4 : Int32) (x5 : Int32), k25 x1 x2 x3 x4 x5 = some r → At p l e (rmD 3) s m args below meth c D 7 w0 (QI below args s D w0 (fun x w => r = x ∧ (wM t qM bM) = w) 0 0) 0 0 25 [(0, .ref (qM 99)), (1, .int x1), (2, .int x2), (3, .int x3), (4, .int x4), (5, .int x5)] [] (wM t qM bM)) : ∀ (n : Nat), ∀ (x1 : Int32) (x2 : Int32) (x3 : Int32) (x4 : Int32) (x5 : Int32) (x6 : Int32), f_6_fits_37 bM k25 n x1 x2 x3 x4 x5 x6 = some r → At p l e (rmD 3) s m args below meth c D 7 w0 (QI below args s D w0 (fun x w => r = x ∧ (wM t qM bM) = w) 0 0) 0 0 37 [(0, .ref (qM 99)), (1, .int x1), (2, .int x2), (3, .int x3), (4, .int x4), (5, .int x5), (6, .int x6)] [] (wM t qM bM) := by
  intro n
  induction n with
  | zero =>
    intro x1 x2 x3 x4 x5 x6 h0
    have h0 : none = some r := h0
    cases h0
  | succ n ih =>
    intro x1 x2 x3 x4 x5 x6 h0
    exact t_6_fits_37_b C qM bM r k25 K25 _ ih x1 x2 x3 x4 x5 x6 h0
def f_6_fits_25_b (bM : BV) (k25 : Int32 → Int32 → Int32 → Int32 → Int32 → Option (Int32)) (x1 : Int32) (x2 : Int32) (x3 : Int32) (x4 : Int32) (x5 : Int32) : Option (Int32) :=
  (f_6_days bM).bind (fun z5 => if z5 ≤ x5 then (if x1 = 0 then (f_6_fits_142 bM x2) else (if x2 = 0 then (f_6_fits_142 bM (-9 : Int32)) else (if x1 = (1 : Int32) then (f_6_fits_142 bM x3) else (f_6_fits_142 bM x4)))) else (f_6_fits_37 bM k25 200 x1 x2 x3 x4 x5 (1 : Int32)))
theorem t_6_fits_25_b (C : CX p s m args meth c cX6_fits 7 (some .int) RX6 D t) (qM : Nat → Nat) (bM : BV) (r : Int32) (k25 : Int32 → Int32 → Int32 → Int32 → Int32 → Option (Int32)) (K25 : ∀ (x1 : Int32) (x2 : Int32) (x3 : Int32) (x4 : Int32) (x5 : Int32), k25 x1 x2 x3 x4 x5 = some r → At p l e (rmD 3) s m args below meth c D 7 w0 (QI below args s D w0 (fun x w => r = x ∧ (wM t qM bM) = w) 0 0) 0 0 25 [(0, .ref (qM 99)), (1, .int x1), (2, .int x2), (3, .int x3), (4, .int x4), (5, .int x5)] [] (wM t qM bM)) (x1 : Int32) (x2 : Int32) (x3 : Int32) (x4 : Int32) (x5 : Int32) (h0 : f_6_fits_25_b bM k25 x1 x2 x3 x4 x5 = some r) : At p l e (rmD 3) s m args below meth c D 7 w0 (QI below args s D w0 (fun x w => r = x ∧ (wM t qM bM) = w) 0 0) 0 0 25 [(0, .ref (qM 99)), (1, .int x1), (2, .int x2), (3, .int x3), (4, .int x4), (5, .int x5)] [] (wM t qM bM) := by
  unfold f_6_fits_25_b at h0
  refine A_iload C 5 dX6_fits_25 rfl ?_
  refine A_aload_n C 0 dX6_fits_27 rfl rfl ?_
  obtain ⟨z5, hz5, h0⟩ := bind_some h0
  refine A_vI (As := []) (rest := [.int x5]) C 0 (c_6_days l D t qM bM hz5) mw_6_days ml_6_116 im_6_days sl_6_days (rmok rfl rfl) (cut0 (wM t qM bM)) rfl (ci := 6) rfl rfl rfl (Nat.le_of_ble_eq_true rfl) dX6_fits_28 (fun x w1 hw1 => ?_)
  obtain ⟨rfl, rfl⟩ := hw1
  refine A_perm (ws' := (wM t qM bM)) ((cut0 _).symm) ?_
  refine A_icmp_ge C 114 dX6_fits_31 (by decide) h0 (fun h0 => ?_) (fun h0 => ?_)
  · refine A_iload_n C 1 dX6_fits_114 rfl rfl ?_
    refine A_if_ne C 122 dX6_fits_115 (by decide) h0 (fun h0 => ?_) (fun h0 => ?_)
    · refine A_iload_n C 2 dX6_fits_122 rfl rfl ?_
      refine A_if_ne C 131 dX6_fits_123 (by decide) h0 (fun h0 => ?_) (fun h0 => ?_)
      · refine A_iload_n C 1 dX6_fits_131 rfl rfl ?_
        refine A_iconst C (1 : Int32) dX6_fits_132 (by decide) ?_
        refine A_icmp_ne C 140 dX6_fits_133 (by decide) h0 (fun h0 => ?_) (fun h0 => ?_)
        · refine A_iload C 4 dX6_fits_140 rfl ?_
          exact A_loc [] rfl (t_6_fits_142 C qM bM r x4 h0)
        · refine A_iload_n C 3 dX6_fits_136 rfl rfl ?_
          refine A_goto C 142 dX6_fits_137 (by decide) ?_
          exact A_loc [] rfl (t_6_fits_142 C qM bM r x3 h0)
      · refine A_bipush C (-9 : Int32) dX6_fits_126 (by decide) ?_
        refine A_goto C 142 dX6_fits_128 (by decide) ?_
        exact A_loc [] rfl (t_6_fits_142 C qM bM r (-9 : Int32) h0)
    · refine A_iload_n C 2 dX6_fits_118 rfl rfl ?_
      refine A_goto C 142 dX6_fits_119 (by decide) ?_
      exact A_loc [] rfl (t_6_fits_142 C qM bM r x2 h0)
  · refine A_iconst C (1 : Int32) dX6_fits_34 (by decide) ?_
    refine A_istore C [(6, .int (1 : Int32)), (0, .ref (qM 99)), (1, .int x1), (2, .int x2), (3, .int x3), (4, .int x4), (5, .int x5)] dX6_fits_35 (by decide) rfl ?_
    exact A_loc [1, 2, 3, 4, 5, 6, 0] rfl (t_6_fits_37 C qM bM r k25 K25 200 x1 x2 x3 x4 x5 (1 : Int32) h0)
def f_6_fits_25 (bM : BV) : Nat → Int32 → Int32 → Int32 → Int32 → Int32 → Option (Int32)
  | 0 => fun _ _ _ _ _ => none
  | n + 1 => f_6_fits_25_b bM (f_6_fits_25 bM n)
theorem t_6_fits_25 (C : CX p s m args meth c cX6_fits 7 (some .int) RX6 D t) (qM : Nat → Nat) (bM : BV) (r : Int32) : ∀ (n : Nat), ∀ (x1 : Int32) (x2 : Int32) (x3 : Int32) (x4 : Int32) (x5 : Int32), f_6_fits_25 bM n x1 x2 x3 x4 x5 = some r → At p l e (rmD 3) s m args below meth c D 7 w0 (QI below args s D w0 (fun x w => r = x ∧ (wM t qM bM) = w) 0 0) 0 0 25 [(0, .ref (qM 99)), (1, .int x1), (2, .int x2), (3, .int x3), (4, .int x4), (5, .int x5)] [] (wM t qM bM) := by
  intro n
  induction n with
  | zero =>
    intro x1 x2 x3 x4 x5 h0
    have h0 : none = some r := h0
    cases h0
  | succ n ih =>
    intro x1 x2 x3 x4 x5 h0
    exact t_6_fits_25_b C qM bM r _ ih x1 x2 x3 x4 x5 h0
def f_6_fits (bM : BV) (x1 : Int32) : Option (Int32) :=
  (f_6_in (x1).toInt64 (0 : Int64) (2 : Int64)).bind (fun z6 => if z6 = 0 then (some (-1 : Int32)) else (f_6_fits_25 bM 200 x1 (0 : Int32) (-9 : Int32) (-1 : Int32) (0 : Int32)))
theorem c_6_fits (l : Launch) (D : va_G) (t : ty4) (qM : Nat → Nat) (bM : BV) (x1 : Int32) {r : Int32} (h0 : f_6_fits bM x1 = some r) : MetI l yX6_fits cX6_fits 7 (some .int) (rmD 3) D t [.ref (qM 99), .int x1] (wM t qM bM) (fun x w => r = x ∧ (wM t qM bM) = w) := by
  refine MetI_of (by decide +kernel) (Nat.le_of_ble_eq_true rfl) (fun p e s m below meth c C _ => ?_)
  unfold f_6_fits at h0
  generalize hargs : (List.toArray [.ref (qM 99), .int x1] : Array Value) = args at C ⊢
  refine At.start (lv2 := [(0, .ref (qM 99)), (1, .int x1)]) rfl ?_
  refine A_iload_n C 1 dX6_fits_0 rfl rfl ?_
  refine A_i2l C dX6_fits_1 ?_
  refine A_lconst C (0 : Int64) dX6_fits_2 (by decide) ?_
  refine A_ldc2 (v := (2 : Int64)) C cl_6_150 dX6_fits_3 ?_
  obtain ⟨z6, hz6, h0⟩ := bind_some h0
  refine A_sI (As := [.long (x1).toInt64, .long (0 : Int64), .long (2 : Int64)]) (rest := []) C (c_6_in l D t (x1).toInt64 (0 : Int64) (2 : Int64) hz6) mw_6_in ml_6_45 st_6_in (rmok rfl rfl) (cutN (wM t qM bM)) rfl rfl (Nat.le_of_ble_eq_true rfl) dX6_fits_6 (fun x w1 hw1 => ?_)
  obtain ⟨rfl, rfl⟩ := hw1
  refine A_perm (ws' := (wM t qM bM)) ((cutN _).symm) ?_
  refine A_if_ne C 14 dX6_fits_9 (by decide) h0 (fun h0 => ?_) (fun h0 => ?_)
  · refine A_iconst C (0 : Int32) dX6_fits_14 (by decide) ?_
    refine A_istore_n C [(2, .int (0 : Int32)), (0, .ref (qM 99)), (1, .int x1)] dX6_fits_15 rfl (by decide) rfl ?_
    refine A_bipush C (-9 : Int32) dX6_fits_16 (by decide) ?_
    refine A_istore_n C [(3, .int (-9 : Int32)), (2, .int (0 : Int32)), (0, .ref (qM 99)), (1, .int x1)] dX6_fits_18 rfl (by decide) rfl ?_
    refine A_iconst C (-1 : Int32) dX6_fits_19 (by decide) ?_
    refine A_istore C [(4, .int (-1 : Int32)), (3, .int (-9 : Int32)), (2, .int (0 : Int32)), (0, .ref (qM 99)), (1, .int x1)] dX6_fits_20 (by decide) rfl ?_
    refine A_iconst C (0 : Int32) dX6_fits_22 (by decide) ?_
    refine A_istore C [(5, .int (0 : Int32)), (4, .int (-1 : Int32)), (3, .int (-9 : Int32)), (2, .int (0 : Int32)), (0, .ref (qM 99)), (1, .int x1)] dX6_fits_23 (by decide) rfl ?_
    exact A_loc [4, 5, 3, 2, 1, 0] rfl (t_6_fits_25 C qM bM r 200 x1 (0 : Int32) (-9 : Int32) (-1 : Int32) (0 : Int32) h0)
  · refine A_iconst C (-1 : Int32) dX6_fits_12 (by decide) ?_
    have h0 := Option.some.inj h0
    subst h0
    exact A_iret C dX6_fits_13 ⟨rfl, rfl⟩
def f_6_odds_263 (bM : BV) (y0 : Int32) : Option (Int32) :=
  some y0
theorem t_6_odds_263 (C : CX p s m args meth c cX6_odds 12 (some .int) RX6 D t) (qM : Nat → Nat) (bM : BV) (r : Int32) (y0 : Int32) (h0 : f_6_odds_263 bM y0 = some r) : At p l e (rmD 3) s m args below meth c D 12 w0 (QI below args s D w0 (fun x w => r = x ∧ (wM t qM bM) = w) 0 0) 0 0 263 [] [.int y0] (wM t qM bM) := by
  unfold f_6_odds_263 at h0
  have h0 := Option.some.inj h0
  subst h0
  exact A_iret C dX6_odds_263 ⟨rfl, rfl⟩
def f_6_odds_223_b (bM : BV) (k223 : Int32 → Int32 → Int32 → Int32 → Int32 → Option (Int32)) (x3 : Int32) (x4 : Int32) (x5 : Int32) (x6 : Int32) (x7 : Int32) : Option (Int32) :=
  if x7 = 0 then (if x3 = 0 then (ck (nz x6) (f_6_odds_263 bM (x4 / x6))) else (ck (nz x6) (f_6_odds_263 bM (x5 / x6)))) else (ck (nz x7) (k223 x3 x4 x5 x7 (x6 - x6 / x7 * x7)))
theorem t_6_odds_223_b (C : CX p s m args meth c cX6_odds 12 (some .int) RX6 D t) (qM : Nat → Nat) (bM : BV) (r : Int32) (k223 : Int32 → Int32 → Int32 → Int32 → Int32 → Option (Int32)) (K223 : ∀ (x3 : Int32) (x4 : Int32) (x5 : Int32) (x6 : Int32) (x7 : Int32), k223 x3 x4 x5 x6 x7 = some r → At p l e (rmD 3) s m args below meth c D 12 w0 (QI below args s D w0 (fun x w => r = x ∧ (wM t qM bM) = w) 0 0) 0 0 223 [(3, .int x3), (4, .int x4), (5, .int x5), (6, .int x6), (7, .int x7)] [] (wM t qM bM)) (x3 : Int32) (x4 : Int32) (x5 : Int32) (x6 : Int32) (x7 : Int32) (h0 : f_6_odds_223_b bM k223 x3 x4 x5 x6 x7 = some r) : At p l e (rmD 3) s m args below meth c D 12 w0 (QI below args s D w0 (fun x w => r = x ∧ (wM t qM bM) = w) 0 0) 0 0 223 [(3, .int x3), (4, .int x4), (5, .int x5), (6, .int x6), (7, .int x7)] [] (wM t qM bM) := by
  unfold f_6_odds_223_b at h0
  refine A_iload C 4 dX6_odds_223 rfl ?_
  refine A_if_eq C 246 dX6_odds_225 (by decide) h0 (fun h0 => ?_) (fun h0 => ?_)
  · refine A_iload_n C 0 dX6_odds_246 rfl rfl ?_
    refine A_if_ne C 258 dX6_odds_247 (by decide) h0 (fun h0 => ?_) (fun h0 => ?_)
    · refine A_iload C 2 dX6_odds_258 rfl ?_
      refine A_iload C 3 dX6_odds_260 rfl ?_
      refine A_idiv C dX6_odds_262 h0 (fun h0 => ?_)
      exact A_loc [] rfl (t_6_odds_263 C qM bM r (x5 / x6) h0)
    · refine A_iload C 1 dX6_odds_250 rfl ?_
      refine A_iload C 3 dX6_odds_252 rfl ?_
      refine A_idiv C dX6_odds_254 h0 (fun h0 => ?_)
      refine A_goto C 263 dX6_odds_255 (by decide) ?_
      exact A_loc [] rfl (t_6_odds_263 C qM bM r (x4 / x6) h0)
  · refine A_iload C 3 dX6_odds_228 rfl ?_
    refine A_iload C 4 dX6_odds_230 rfl ?_
    refine A_irem C dX6_odds_232 h0 (fun h0 => ?_)
    refine A_istore C [(8, .int (x6 - x6 / x7 * x7)), (3, .int x3), (4, .int x4), (5, .int x5), (6, .int x6), (7, .int x7)] dX6_odds_233 (by decide) rfl ?_
    refine A_iload C 5 dX6_odds_235 rfl ?_
    refine A_istore C [(6, .int x7), (8, .int (x6 - x6 / x7 * x7)), (3, .int x3), (4, .int x4), (5, .int x5), (7, .int x7)] dX6_odds_237 (by decide) rfl ?_
    refine A_iload C 1 dX6_odds_239 rfl ?_
    refine A_istore C [(7, .int (x6 - x6 / x7 * x7)), (6, .int x7), (8, .int (x6 - x6 / x7 * x7)), (3, .int x3), (4, .int x4), (5, .int x5)] dX6_odds_241 (by decide) rfl ?_
    refine A_goto C 223 dX6_odds_243 (by decide) ?_
    exact A_loc [3, 4, 5, 1, 0] rfl (K223 x3 x4 x5 x7 (x6 - x6 / x7 * x7) h0)
def f_6_odds_223 (bM : BV) : Nat → Int32 → Int32 → Int32 → Int32 → Int32 → Option (Int32)
  | 0 => fun _ _ _ _ _ => none
  | n + 1 => f_6_odds_223_b bM (f_6_odds_223 bM n)
theorem t_6_odds_223 (C : CX p s m args meth c cX6_odds 12 (some .int) RX6 D t) (qM : Nat → Nat) (bM : BV) (r : Int32) : ∀ (n : Nat), ∀ (x3 : Int32) (x4 : Int32) (x5 : Int32) (x6 : Int32) (x7 : Int32), f_6_odds_223 bM n x3 x4 x5 x6 x7 = some r → At p l e (rmD 3) s m args below meth c D 12 w0 (QI below args s D w0 (fun x w => r = x ∧ (wM t qM bM) = w) 0 0) 0 0 223 [(3, .int x3), (4, .int x4), (5, .int x5), (6, .int x6), (7, .int x7)] [] (wM t qM bM) := by
  intro n
  induction n with
  | zero =>
    intro x3 x4 x5 x6 x7 h0
    have h0 : none = some r := h0
    cases h0
  | succ n ih =>
    intro x3 x4 x5 x6 x7 h0
    exact t_6_odds_223_b C qM bM r _ ih x3 x4 x5 x6 x7 h0
def f_6_odds_206 (bM : BV) (k45 : Int32 → Int32 → Int32 → Int32 → Int32 → Int32 → Option (Int32)) (x1 : Int32) (x2 : Int32) (x3 : Int32) (x5 : Int32) (x6 : Int32) (y0 : Int32) (y1 : Int32) : Option (Int32) :=
  k45 x1 x2 x3 (y1 + y0) x5 (x6 + (1 : Int32))
theorem t_6_odds_206 (C : CX p s m args meth c cX6_odds 12 (some .int) RX6 D t) (qM : Nat → Nat) (bM : BV) (r : Int32) (k45 : Int32 → Int32 → Int32 → Int32 → Int32 → Int32 → Option (Int32)) (K45 : ∀ (x1 : Int32) (x2 : Int32) (x3 : Int32) (x4 : Int32) (x5 : Int32) (x6 : Int32), k45 x1 x2 x3 x4 x5 x6 = some r → At p l e (rmD 3) s m args below meth c D 12 w0 (QI below args s D w0 (fun x w => r = x ∧ (wM t qM bM) = w) 0 0) 0 0 45 [(0, .ref (qM 99)), (1, .int x1), (2, .int x2), (3, .int x3), (4, .int x4), (5, .int x5), (6, .int x6)] [] (wM t qM bM)) (x1 : Int32) (x2 : Int32) (x3 : Int32) (x5 : Int32) (x6 : Int32) (y0 : Int32) (y1 : Int32) (h0 : f_6_odds_206 bM k45 x1 x2 x3 x5 x6 y0 y1 = some r) : At p l e (rmD 3) s m args below meth c D 12 w0 (QI below args s D w0 (fun x w => r = x ∧ (wM t qM bM) = w) 0 0) 0 0 206 [(0, .ref (qM 99)), (1, .int x1), (2, .int x2), (3, .int x3), (5, .int x5), (6, .int x6)] [.int y0, .int y1] (wM t qM bM) := by
  unfold f_6_odds_206 at h0
  refine A_iadd C dX6_odds_206 ?_
  refine A_istore C [(4, .int (y1 + y0)), (0, .ref (qM 99)), (1, .int x1), (2, .int x2), (3, .int x3), (5, .int x5), (6, .int x6)] dX6_odds_207 (by decide) rfl ?_
  refine A_iinc C 6 (x6 + (1 : Int32)) [(6, .int (x6 + (1 : Int32))), (4, .int (y1 + y0)), (0, .ref (qM 99)), (1, .int x1), (2, .int x2), (3, .int x3), (5, .int x5)] dX6_odds_209 rfl rfl (by decide) rfl ?_
  refine A_goto C 45 dX6_odds_212 (by decide) ?_
  exact A_loc [2, 3, 4, 5, 1, 6, 0] rfl (K45 x1 x2 x3 (y1 + y0) x5 (x6 + (1 : Int32)) h0)
def f_6_odds_176 (bM : BV) (k45 : Int32 → Int32 → Int32 → Int32 → Int32 → Int32 → Option (Int32)) (k67 : Int32 → Int32 → Int32 → Int32 → Int32 → Int32 → Int32 → Int32 → Int32 → Option (Int32)) (x1 : Int32) (x2 : Int32) (x3 : Int32) (x4 : Int32) (x5 : Int32) (x6 : Int32) (x7 : Int32) (x9 : Int32) (y0 : Int32) (y1 : Int32) : Option (Int32) :=
  k67 x1 x2 x3 x4 x5 x6 x7 (y1 + y0) (x9 + (1 : Int32))
theorem t_6_odds_176 (C : CX p s m args meth c cX6_odds 12 (some .int) RX6 D t) (qM : Nat → Nat) (bM : BV) (r : Int32) (k45 : Int32 → Int32 → Int32 → Int32 → Int32 → Int32 → Option (Int32)) (K45 : ∀ (x1 : Int32) (x2 : Int32) (x3 : Int32) (x4 : Int32) (x5 : Int32) (x6 : Int32), k45 x1 x2 x3 x4 x5 x6 = some r → At p l e (rmD 3) s m args below meth c D 12 w0 (QI below args s D w0 (fun x w => r = x ∧ (wM t qM bM) = w) 0 0) 0 0 45 [(0, .ref (qM 99)), (1, .int x1), (2, .int x2), (3, .int x3), (4, .int x4), (5, .int x5), (6, .int x6)] [] (wM t qM bM)) (k67 : Int32 → Int32 → Int32 → Int32 → Int32 → Int32 → Int32 → Int32 → Int32 → Option (Int32)) (K67 : ∀ (x1 : Int32) (x2 : Int32) (x3 : Int32) (x4 : Int32) (x5 : Int32) (x6 : Int32) (x7 : Int32) (x8 : Int32) (x9 : Int32), k67 x1 x2 x3 x4 x5 x6 x7 x8 x9 = some r → At p l e (rmD 3) s m args below meth c D 12 w0 (QI below args s D w0 (fun x w => r = x ∧ (wM t qM bM) = w) 0 0) 0 0 67 [(0, .ref (qM 99)), (1, .int x1), (2, .int x2), (3, .int x3), (4, .int x4), (5, .int x5), (6, .int x6), (7, .int x7), (8, .int x8), (9, .int x9)] [] (wM t qM bM)) (x1 : Int32) (x2 : Int32) (x3 : Int32) (x4 : Int32) (x5 : Int32) (x6 : Int32) (x7 : Int32) (x9 : Int32) (y0 : Int32) (y1 : Int32) (h0 : f_6_odds_176 bM k45 k67 x1 x2 x3 x4 x5 x6 x7 x9 y0 y1 = some r) : At p l e (rmD 3) s m args below meth c D 12 w0 (QI below args s D w0 (fun x w => r = x ∧ (wM t qM bM) = w) 0 0) 0 0 176 [(0, .ref (qM 99)), (1, .int x1), (2, .int x2), (3, .int x3), (4, .int x4), (5, .int x5), (6, .int x6), (7, .int x7), (9, .int x9)] [.int y0, .int y1] (wM t qM bM) := by
  unfold f_6_odds_176 at h0
  refine A_iadd C dX6_odds_176 ?_
  refine A_istore C [(8, .int (y1 + y0)), (0, .ref (qM 99)), (1, .int x1), (2, .int x2), (3, .int x3), (4, .int x4), (5, .int x5), (6, .int x6), (7, .int x7), (9, .int x9)] dX6_odds_177 (by decide) rfl ?_
  refine A_iinc C 9 (x9 + (1 : Int32)) [(9, .int (x9 + (1 : Int32))), (8, .int (y1 + y0)), (0, .ref (qM 99)), (1, .int x1), (2, .int x2), (3, .int x3), (4, .int x4), (5, .int x5), (6, .int x6), (7, .int x7)] dX6_odds_179 rfl rfl (by decide) rfl ?_
  refine A_goto C 67 dX6_odds_182 (by decide) ?_
  exact A_loc [2, 3, 4, 5, 6, 7, 8, 9, 1, 0] rfl (K67 x1 x2 x3 x4 x5 x6 x7 (y1 + y0) (x9 + (1 : Int32)) h0)
def f_6_odds_175 (bM : BV) (k45 : Int32 → Int32 → Int32 → Int32 → Int32 → Int32 → Option (Int32)) (k67 : Int32 → Int32 → Int32 → Int32 → Int32 → Int32 → Int32 → Int32 → Int32 → Option (Int32)) (x1 : Int32) (x2 : Int32) (x3 : Int32) (x4 : Int32) (x5 : Int32) (x6 : Int32) (x7 : Int32) (x9 : Int32) (y0 : Int32) : Option (Int32) :=
  f_6_odds_176 bM k45 k67 x1 x2 x3 x4 x5 x6 x7 x9 (0 : Int32) y0
theorem t_6_odds_175 (C : CX p s m args meth c cX6_odds 12 (some .int) RX6 D t) (qM : Nat → Nat) (bM : BV) (r : Int32) (k45 : Int32 → Int32 → Int32 → Int32 → Int32 → Int32 → Option (Int32)) (K45 : ∀ (x1 : Int32) (x2 : Int32) (x3 : Int32) (x4 : Int32) (x5 : Int32) (x6 : Int32), k45 x1 x2 x3 x4 x5 x6 = some r → At p l e (rmD 3) s m args below meth c D 12 w0 (QI below args s D w0 (fun x w => r = x ∧ (wM t qM bM) = w) 0 0) 0 0 45 [(0, .ref (qM 99)), (1, .int x1), (2, .int x2), (3, .int x3), (4, .int x4), (5, .int x5), (6, .int x6)] [] (wM t qM bM)) (k67 : Int32 → Int32 → Int32 → Int32 → Int32 → Int32 → Int32 → Int32 → Int32 → Option (Int32)) (K67 : ∀ (x1 : Int32) (x2 : Int32) (x3 : Int32) (x4 : Int32) (x5 : Int32) (x6 : Int32) (x7 : Int32) (x8 : Int32) (x9 : Int32), k67 x1 x2 x3 x4 x5 x6 x7 x8 x9 = some r → At p l e (rmD 3) s m args below meth c D 12 w0 (QI below args s D w0 (fun x w => r = x ∧ (wM t qM bM) = w) 0 0) 0 0 67 [(0, .ref (qM 99)), (1, .int x1), (2, .int x2), (3, .int x3), (4, .int x4), (5, .int x5), (6, .int x6), (7, .int x7), (8, .int x8), (9, .int x9)] [] (wM t qM bM)) (x1 : Int32) (x2 : Int32) (x3 : Int32) (x4 : Int32) (x5 : Int32) (x6 : Int32) (x7 : Int32) (x9 : Int32) (y0 : Int32) (h0 : f_6_odds_175 bM k45 k67 x1 x2 x3 x4 x5 x6 x7 x9 y0 = some r) : At p l e (rmD 3) s m args below meth c D 12 w0 (QI below args s D w0 (fun x w => r = x ∧ (wM t qM bM) = w) 0 0) 0 0 175 [(0, .ref (qM 99)), (1, .int x1), (2, .int x2), (3, .int x3), (4, .int x4), (5, .int x5), (6, .int x6), (7, .int x7), (9, .int x9)] [.int y0] (wM t qM bM) := by
  unfold f_6_odds_175 at h0
  refine A_iconst C (0 : Int32) dX6_odds_175 (by decide) ?_
  exact A_loc [0, 1, 2, 3, 4, 5, 6, 7, 8] rfl (t_6_odds_176 C qM bM r k45 K45 k67 K67 x1 x2 x3 x4 x5 x6 x7 x9 (0 : Int32) y0 h0)
def f_6_odds_151 (bM : BV) (k45 : Int32 → Int32 → Int32 → Int32 → Int32 → Int32 → Option (Int32)) (k67 : Int32 → Int32 → Int32 → Int32 → Int32 → Int32 → Int32 → Int32 → Int32 → Option (Int32)) (x1 : Int32) (x2 : Int32) (x3 : Int32) (x4 : Int32) (x5 : Int32) (x6 : Int32) (x8 : Int32) (x9 : Int32) (x10 : Int32) (x11 : Int32) (y0 : Int32) (y1 : Int32) : Option (Int32) :=
  if x11 = 0 then (f_6_odds_175 bM k45 k67 x1 x2 x3 x4 x5 x6 (y1 * y0) x9 x8) else (if x10 = 0 then ((f_6_worth bM x9).bind (fun z1 => f_6_odds_176 bM k45 k67 x1 x2 x3 x4 x5 x6 (y1 * y0) x9 z1 x8)) else (f_6_odds_175 bM k45 k67 x1 x2 x3 x4 x5 x6 (y1 * y0) x9 x8))
theorem t_6_odds_151 (C : CX p s m args meth c cX6_odds 12 (some .int) RX6 D t) (qM : Nat → Nat) (bM : BV) (r : Int32) (k45 : Int32 → Int32 → Int32 → Int32 → Int32 → Int32 → Option (Int32)) (K45 : ∀ (x1 : Int32) (x2 : Int32) (x3 : Int32) (x4 : Int32) (x5 : Int32) (x6 : Int32), k45 x1 x2 x3 x4 x5 x6 = some r → At p l e (rmD 3) s m args below meth c D 12 w0 (QI below args s D w0 (fun x w => r = x ∧ (wM t qM bM) = w) 0 0) 0 0 45 [(0, .ref (qM 99)), (1, .int x1), (2, .int x2), (3, .int x3), (4, .int x4), (5, .int x5), (6, .int x6)] [] (wM t qM bM)) (k67 : Int32 → Int32 → Int32 → Int32 → Int32 → Int32 → Int32 → Int32 → Int32 → Option (Int32)) (K67 : ∀ (x1 : Int32) (x2 : Int32) (x3 : Int32) (x4 : Int32) (x5 : Int32) (x6 : Int32) (x7 : Int32) (x8 : Int32) (x9 : Int32), k67 x1 x2 x3 x4 x5 x6 x7 x8 x9 = some r → At p l e (rmD 3) s m args below meth c D 12 w0 (QI below args s D w0 (fun x w => r = x ∧ (wM t qM bM) = w) 0 0) 0 0 67 [(0, .ref (qM 99)), (1, .int x1), (2, .int x2), (3, .int x3), (4, .int x4), (5, .int x5), (6, .int x6), (7, .int x7), (8, .int x8), (9, .int x9)] [] (wM t qM bM)) (x1 : Int32) (x2 : Int32) (x3 : Int32) (x4 : Int32) (x5 : Int32) (x6 : Int32) (x8 : Int32) (x9 : Int32) (x10 : Int32) (x11 : Int32) (y0 : Int32) (y1 : Int32) (h0 : f_6_odds_151 bM k45 k67 x1 x2 x3 x4 x5 x6 x8 x9 x10 x11 y0 y1 = some r) : At p l e (rmD 3) s m args below meth c D 12 w0 (QI below args s D w0 (fun x w => r = x ∧ (wM t qM bM) = w) 0 0) 0 0 151 [(0, .ref (qM 99)), (1, .int x1), (2, .int x2), (3, .int x3), (4, .int x4), (5, .int x5), (6, .int x6), (8, .int x8), (9, .int x9), (10, .int x10), (11, .int x11)] [.int y0, .int y1] (wM t qM bM) := by
  unfold f_6_odds_151 at h0
  refine A_imul C dX6_odds_151 ?_
  refine A_istore C [(7, .int (y1 * y0)), (0, .ref (qM 99)), (1, .int x1), (2, .int x2), (3, .int x3), (4, .int x4), (5, .int x5), (6, .int x6), (8, .int x8), (9, .int x9), (10, .int x10), (11, .int x11)] dX6_odds_152 (by decide) rfl ?_
  refine A_iload C 8 dX6_odds_154 rfl ?_
  refine A_iload C 11 dX6_odds_156 rfl ?_
  refine A_if_eq C 175 dX6_odds_158 (by decide) h0 (fun h0 => ?_) (fun h0 => ?_)
  · exact A_loc [1, 2, 3, 4, 5, 6, 7, 0, 9] rfl (t_6_odds_175 C qM bM r k45 K45 k67 K67 x1 x2 x3 x4 x5 x6 (y1 * y0) x9 x8 h0)
  · refine A_iload C 10 dX6_odds_161 rfl ?_
    refine A_if_ne C 175 dX6_odds_163 (by decide) h0 (fun h0 => ?_) (fun h0 => ?_)
    · exact A_loc [1, 2, 3, 4, 5, 6, 7, 0, 9] rfl (t_6_odds_175 C qM bM r k45 K45 k67 K67 x1 x2 x3 x4 x5 x6 (y1 * y0) x9 x8 h0)
    · refine A_aload_n C 1 dX6_odds_166 rfl rfl ?_
      refine A_iload C 9 dX6_odds_167 rfl ?_
      obtain ⟨z1, hz1, h0⟩ := bind_some h0
      refine A_vI (As := [.int x9]) (rest := [.int x8]) C 0 (c_6_worth l D t qM bM x9 hz1) mw_6_worth ml_6_133 im_6_worth sl_6_worth (rmok rfl rfl) (cut0 (wM t qM bM)) rfl (ci := 6) rfl rfl rfl (Nat.le_of_ble_eq_true rfl) dX6_odds_169 (fun x w1 hw1 => ?_)
      obtain ⟨rfl, rfl⟩ := hw1
      refine A_perm (ws' := (wM t qM bM)) ((cut0 _).symm) ?_
      refine A_goto C 176 dX6_odds_172 (by decide) ?_
      exact A_loc [1, 2, 3, 4, 5, 6, 7, 0, 9] rfl (t_6_odds_176 C qM bM r k45 K45 k67 K67 x1 x2 x3 x4 x5 x6 (y1 * y0) x9 z1 x8 h0)
def f_6_odds_116 (bM : BV) (k45 : Int32 → Int32 → Int32 → Int32 → Int32 → Int32 → Option (Int32)) (k67 : Int32 → Int32 → Int32 → Int32 → Int32 → Int32 → Int32 → Int32 → Int32 → Option (Int32)) (x1 : Int32) (x2 : Int32) (x3 : Int32) (x4 : Int32) (x5 : Int32) (x6 : Int32) (x7 : Int32) (x8 : Int32) (x9 : Int32) (x10 : Int32) (y0 : Int32) : Option (Int32) :=
  if y0 = 0 then (if x10 = 0 then (f_6_odds_151 bM k45 k67 x1 x2 x3 x4 x5 x6 x8 x9 x10 y0 (1 : Int32) x7) else (f_6_odds_151 bM k45 k67 x1 x2 x3 x4 x5 x6 x8 x9 x10 y0 (0 : Int32) x7)) else (if x10 = 0 then (f_6_odds_151 bM k45 k67 x1 x2 x3 x4 x5 x6 x8 x9 x10 y0 ((10 : Int32) - x1) x7) else (f_6_odds_151 bM k45 k67 x1 x2 x3 x4 x5 x6 x8 x9 x10 y0 x1 x7))
theorem t_6_odds_116 (C : CX p s m args meth c cX6_odds 12 (some .int) RX6 D t) (qM : Nat → Nat) (bM : BV) (r : Int32) (k45 : Int32 → Int32 → Int32 → Int32 → Int32 → Int32 → Option (Int32)) (K45 : ∀ (x1 : Int32) (x2 : Int32) (x3 : Int32) (x4 : Int32) (x5 : Int32) (x6 : Int32), k45 x1 x2 x3 x4 x5 x6 = some r → At p l e (rmD 3) s m args below meth c D 12 w0 (QI below args s D w0 (fun x w => r = x ∧ (wM t qM bM) = w) 0 0) 0 0 45 [(0, .ref (qM 99)), (1, .int x1), (2, .int x2), (3, .int x3), (4, .int x4), (5, .int x5), (6, .int x6)] [] (wM t qM bM)) (k67 : Int32 → Int32 → Int32 → Int32 → Int32 → Int32 → Int32 → Int32 → Int32 → Option (Int32)) (K67 : ∀ (x1 : Int32) (x2 : Int32) (x3 : Int32) (x4 : Int32) (x5 : Int32) (x6 : Int32) (x7 : Int32) (x8 : Int32) (x9 : Int32), k67 x1 x2 x3 x4 x5 x6 x7 x8 x9 = some r → At p l e (rmD 3) s m args below meth c D 12 w0 (QI below args s D w0 (fun x w => r = x ∧ (wM t qM bM) = w) 0 0) 0 0 67 [(0, .ref (qM 99)), (1, .int x1), (2, .int x2), (3, .int x3), (4, .int x4), (5, .int x5), (6, .int x6), (7, .int x7), (8, .int x8), (9, .int x9)] [] (wM t qM bM)) (x1 : Int32) (x2 : Int32) (x3 : Int32) (x4 : Int32) (x5 : Int32) (x6 : Int32) (x7 : Int32) (x8 : Int32) (x9 : Int32) (x10 : Int32) (y0 : Int32) (h0 : f_6_odds_116 bM k45 k67 x1 x2 x3 x4 x5 x6 x7 x8 x9 x10 y0 = some r) : At p l e (rmD 3) s m args below meth c D 12 w0 (QI below args s D w0 (fun x w => r = x ∧ (wM t qM bM) = w) 0 0) 0 0 116 [(0, .ref (qM 99)), (1, .int x1), (2, .int x2), (3, .int x3), (4, .int x4), (5, .int x5), (6, .int x6), (7, .int x7), (8, .int x8), (9, .int x9), (10, .int x10)] [.int y0] (wM t qM bM) := by
  unfold f_6_odds_116 at h0
  refine A_istore C [(11, .int y0), (0, .ref (qM 99)), (1, .int x1), (2, .int x2), (3, .int x3), (4, .int x4), (5, .int x5), (6, .int x6), (7, .int x7), (8, .int x8), (9, .int x9), (10, .int x10)] dX6_odds_116 (by decide) rfl ?_
  refine A_iload C 8 dX6_odds_118 rfl ?_
  refine A_iload C 0 dX6_odds_120 rfl ?_
  refine A_if_eq C 141 dX6_odds_122 (by decide) h0 (fun h0 => ?_) (fun h0 => ?_)
  · refine A_iload C 11 dX6_odds_141 rfl ?_
    refine A_if_eq C 150 dX6_odds_143 (by decide) h0 (fun h0 => ?_) (fun h0 => ?_)
    · refine A_iconst C (1 : Int32) dX6_odds_150 (by decide) ?_
      exact A_loc [1, 2, 3, 4, 5, 6, 7, 9, 10, 11, 0] rfl (t_6_odds_151 C qM bM r k45 K45 k67 K67 x1 x2 x3 x4 x5 x6 x8 x9 x10 y0 (1 : Int32) x7 h0)
    · refine A_iconst C (0 : Int32) dX6_odds_146 (by decide) ?_
      refine A_goto C 151 dX6_odds_147 (by decide) ?_
      exact A_loc [1, 2, 3, 4, 5, 6, 7, 9, 10, 11, 0] rfl (t_6_odds_151 C qM bM r k45 K45 k67 K67 x1 x2 x3 x4 x5 x6 x8 x9 x10 y0 (0 : Int32) x7 h0)
  · refine A_iload C 11 dX6_odds_125 rfl ?_
    refine A_if_eq C 134 dX6_odds_127 (by decide) h0 (fun h0 => ?_) (fun h0 => ?_)
    · refine A_bipush C (10 : Int32) dX6_odds_134 (by decide) ?_
      refine A_iload_n C 2 dX6_odds_136 rfl rfl ?_
      refine A_isub C dX6_odds_137 ?_
      refine A_goto C 151 dX6_odds_138 (by decide) ?_
      exact A_loc [1, 2, 3, 4, 5, 6, 7, 9, 10, 11, 0] rfl (t_6_odds_151 C qM bM r k45 K45 k67 K67 x1 x2 x3 x4 x5 x6 x8 x9 x10 y0 ((10 : Int32) - x1) x7 h0)
    · refine A_iload_n C 2 dX6_odds_130 rfl rfl ?_
      refine A_goto C 151 dX6_odds_131 (by decide) ?_
      exact A_loc [1, 2, 3, 4, 5, 6, 7, 9, 10, 11, 0] rfl (t_6_odds_151 C qM bM r k45 K45 k67 K67 x1 x2 x3 x4 x5 x6 x8 x9 x10 y0 x1 x7 h0)
def f_6_odds_94 (bM : BV) (k45 : Int32 → Int32 → Int32 → Int32 → Int32 → Int32 → Option (Int32)) (k67 : Int32 → Int32 → Int32 → Int32 → Int32 → Int32 → Int32 → Int32 → Int32 → Option (Int32)) (x1 : Int32) (x2 : Int32) (x3 : Int32) (x4 : Int32) (x5 : Int32) (x6 : Int32) (x7 : Int32) (x8 : Int32) (x9 : Int32) (y0 : Int32) : Option (Int32) :=
  (f_6_notIn bM).bind (fun z2 => (f_6_ripens bM x9 z2).bind (fun z3 => if z3 = (-9 : Int32) then (f_6_odds_116 bM k45 k67 x1 x2 x3 x4 x5 x6 x7 x8 x9 y0 (0 : Int32)) else (f_6_odds_116 bM k45 k67 x1 x2 x3 x4 x5 x6 x7 x8 x9 y0 (1 : Int32))))
theorem t_6_odds_94 (C : CX p s m args meth c cX6_odds 12 (some .int) RX6 D t) (qM : Nat → Nat) (bM : BV) (r : Int32) (k45 : Int32 → Int32 → Int32 → Int32 → Int32 → Int32 → Option (Int32)) (K45 : ∀ (x1 : Int32) (x2 : Int32) (x3 : Int32) (x4 : Int32) (x5 : Int32) (x6 : Int32), k45 x1 x2 x3 x4 x5 x6 = some r → At p l e (rmD 3) s m args below meth c D 12 w0 (QI below args s D w0 (fun x w => r = x ∧ (wM t qM bM) = w) 0 0) 0 0 45 [(0, .ref (qM 99)), (1, .int x1), (2, .int x2), (3, .int x3), (4, .int x4), (5, .int x5), (6, .int x6)] [] (wM t qM bM)) (k67 : Int32 → Int32 → Int32 → Int32 → Int32 → Int32 → Int32 → Int32 → Int32 → Option (Int32)) (K67 : ∀ (x1 : Int32) (x2 : Int32) (x3 : Int32) (x4 : Int32) (x5 : Int32) (x6 : Int32) (x7 : Int32) (x8 : Int32) (x9 : Int32), k67 x1 x2 x3 x4 x5 x6 x7 x8 x9 = some r → At p l e (rmD 3) s m args below meth c D 12 w0 (QI below args s D w0 (fun x w => r = x ∧ (wM t qM bM) = w) 0 0) 0 0 67 [(0, .ref (qM 99)), (1, .int x1), (2, .int x2), (3, .int x3), (4, .int x4), (5, .int x5), (6, .int x6), (7, .int x7), (8, .int x8), (9, .int x9)] [] (wM t qM bM)) (x1 : Int32) (x2 : Int32) (x3 : Int32) (x4 : Int32) (x5 : Int32) (x6 : Int32) (x7 : Int32) (x8 : Int32) (x9 : Int32) (y0 : Int32) (h0 : f_6_odds_94 bM k45 k67 x1 x2 x3 x4 x5 x6 x7 x8 x9 y0 = some r) : At p l e (rmD 3) s m args below meth c D 12 w0 (QI below args s D w0 (fun x w => r = x ∧ (wM t qM bM) = w) 0 0) 0 0 94 [(0, .ref (qM 99)), (1, .int x1), (2, .int x2), (3, .int x3), (4, .int x4), (5, .int x5), (6, .int x6), (7, .int x7), (8, .int x8), (9, .int x9)] [.int y0] (wM t qM bM) := by
  unfold f_6_odds_94 at h0
  refine A_istore C [(10, .int y0), (0, .ref (qM 99)), (1, .int x1), (2, .int x2), (3, .int x3), (4, .int x4), (5, .int x5), (6, .int x6), (7, .int x7), (8, .int x8), (9, .int x9)] dX6_odds_94 (by decide) rfl ?_
  refine A_aload_n C 1 dX6_odds_96 rfl rfl ?_
  refine A_iload C 10 dX6_odds_97 rfl ?_
  refine A_aload_n C 1 dX6_odds_99 rfl rfl ?_
  obtain ⟨z2, hz2, h0⟩ := bind_some h0
  refine A_vI (As := []) (rest := [.int x9, .ref (qM 99)]) C 0 (c_6_notIn l D t qM bM hz2) mw_6_notIn ml_6_144 im_6_notIn sl_6_notIn (rmok rfl rfl) (cut0 (wM t qM bM)) rfl (ci := 6) rfl rfl rfl (Nat.le_of_ble_eq_true rfl) dX6_odds_100 (fun x w1 hw1 => ?_)
  obtain ⟨rfl, rfl⟩ := hw1
  refine A_perm (ws' := (wM t qM bM)) ((cut0 _).symm) ?_
  obtain ⟨z3, hz3, h0⟩ := bind_some h0
  refine A_vI (As := [.int x9, .int z2]) (rest := []) C 0 (c_6_ripens l D t qM bM x9 z2 hz3) mw_6_ripens ml_6_129 im_6_ripens sl_6_ripens (rmok rfl rfl) (cut0 (wM t qM bM)) rfl (ci := 6) rfl rfl rfl (Nat.le_of_ble_eq_true rfl) dX6_odds_103 (fun x w1 hw1 => ?_)
  obtain ⟨rfl, rfl⟩ := hw1
  refine A_perm (ws' := (wM t qM bM)) ((cut0 _).symm) ?_
  refine A_bipush C (-9 : Int32) dX6_odds_106 (by decide) ?_
  refine A_icmp_eq C 115 dX6_odds_108 (by decide) h0 (fun h0 => ?_) (fun h0 => ?_)
  · refine A_iconst C (0 : Int32) dX6_odds_115 (by decide) ?_
    exact A_loc [1, 2, 3, 4, 5, 6, 7, 8, 9, 10, 0] rfl (t_6_odds_116 C qM bM r k45 K45 k67 K67 x1 x2 x3 x4 x5 x6 x7 x8 x9 y0 (0 : Int32) h0)
  · refine A_iconst C (1 : Int32) dX6_odds_111 (by decide) ?_
    refine A_goto C 116 dX6_odds_112 (by decide) ?_
    exact A_loc [1, 2, 3, 4, 5, 6, 7, 8, 9, 10, 0] rfl (t_6_odds_116 C qM bM r k45 K45 k67 K67 x1 x2 x3 x4 x5 x6 x7 x8 x9 y0 (1 : Int32) h0)
def f_6_odds_67_b (bM : BV) (k45 : Int32 → Int32 → Int32 → Int32 → Int32 → Int32 → Option (Int32)) (k67 : Int32 → Int32 → Int32 → Int32 → Int32 → Int32 → Int32 → Int32 → Int32 → Option (Int32)) (x1 : Int32) (x2 : Int32) (x3 : Int32) (x4 : Int32) (x5 : Int32) (x6 : Int32) (x7 : Int32) (x8 : Int32) (x9 : Int32) : Option (Int32) :=
  ck (inb (2 : Int32) 79) (if (gA bM 7 (2 : Int32)) ≤ x9 then (if x8 < x2 then (f_6_odds_206 bM k45 x1 x2 x3 (x5 + x7) x6 (0 : Int32) x4) else (f_6_odds_206 bM k45 x1 x2 x3 (x5 + x7) x6 x7 x4)) else (if ((x6 >>> (x9 &&& 31)) &&& (1 : Int32)) = (1 : Int32) then (f_6_odds_94 bM k45 k67 x1 x2 x3 x4 x5 x6 x7 x8 x9 (1 : Int32)) else (f_6_odds_94 bM k45 k67 x1 x2 x3 x4 x5 x6 x7 x8 x9 (0 : Int32))))
theorem t_6_odds_67_b (C : CX p s m args meth c cX6_odds 12 (some .int) RX6 D t) (qM : Nat → Nat) (bM : BV) (r : Int32) (k45 : Int32 → Int32 → Int32 → Int32 → Int32 → Int32 → Option (Int32)) (K45 : ∀ (x1 : Int32) (x2 : Int32) (x3 : Int32) (x4 : Int32) (x5 : Int32) (x6 : Int32), k45 x1 x2 x3 x4 x5 x6 = some r → At p l e (rmD 3) s m args below meth c D 12 w0 (QI below args s D w0 (fun x w => r = x ∧ (wM t qM bM) = w) 0 0) 0 0 45 [(0, .ref (qM 99)), (1, .int x1), (2, .int x2), (3, .int x3), (4, .int x4), (5, .int x5), (6, .int x6)] [] (wM t qM bM)) (k67 : Int32 → Int32 → Int32 → Int32 → Int32 → Int32 → Int32 → Int32 → Int32 → Option (Int32)) (K67 : ∀ (x1 : Int32) (x2 : Int32) (x3 : Int32) (x4 : Int32) (x5 : Int32) (x6 : Int32) (x7 : Int32) (x8 : Int32) (x9 : Int32), k67 x1 x2 x3 x4 x5 x6 x7 x8 x9 = some r → At p l e (rmD 3) s m args below meth c D 12 w0 (QI below args s D w0 (fun x w => r = x ∧ (wM t qM bM) = w) 0 0) 0 0 67 [(0, .ref (qM 99)), (1, .int x1), (2, .int x2), (3, .int x3), (4, .int x4), (5, .int x5), (6, .int x6), (7, .int x7), (8, .int x8), (9, .int x9)] [] (wM t qM bM)) (x1 : Int32) (x2 : Int32) (x3 : Int32) (x4 : Int32) (x5 : Int32) (x6 : Int32) (x7 : Int32) (x8 : Int32) (x9 : Int32) (h0 : f_6_odds_67_b bM k45 k67 x1 x2 x3 x4 x5 x6 x7 x8 x9 = some r) : At p l e (rmD 3) s m args below meth c D 12 w0 (QI below args s D w0 (fun x w => r = x ∧ (wM t qM bM) = w) 0 0) 0 0 67 [(0, .ref (qM 99)), (1, .int x1), (2, .int x2), (3, .int x3), (4, .int x4), (5, .int x5), (6, .int x6), (7, .int x7), (8, .int x8), (9, .int x9)] [] (wM t qM bM) := by
  unfold f_6_odds_67_b at h0
  refine A_iload C 9 dX6_odds_67 rfl ?_
  refine A_aload_n C 0 dX6_odds_69 rfl rfl ?_
  refine A_get (v := .ref (qM 7)) C 0 7 inG6 (ci := 6) rfl (by decide) fl_6_16 rfl rfl rfl dX6_odds_70 ?_
  refine A_iconst C (2 : Int32) dX6_odds_73 (by decide) ?_
  refine A_iald C 3 (gA bM 7 (2 : Int32)) rfl rfl dX6_odds_74 h0 (fun h0 => ?_)
  refine A_icmp_ge C 185 dX6_odds_75 (by decide) h0 (fun h0 => ?_) (fun h0 => ?_)
  · refine A_iload C 5 dX6_odds_185 rfl ?_
    refine A_iload C 7 dX6_odds_187 rfl ?_
    refine A_iadd C dX6_odds_189 ?_
    refine A_istore C [(5, .int (x5 + x7)), (0, .ref (qM 99)), (1, .int x1), (2, .int x2), (3, .int x3), (4, .int x4), (6, .int x6), (7, .int x7), (8, .int x8), (9, .int x9)] dX6_odds_190 (by decide) rfl ?_
    refine A_iload C 5 dX6_odds_192 rfl ?_
    refine A_iload C 8 dX6_odds_194 rfl ?_
    refine A_iload_n C 3 dX6_odds_196 rfl rfl ?_
    refine A_icmp_lt C 205 dX6_odds_197 (by decide) h0 (fun h0 => ?_) (fun h0 => ?_)
    · refine A_iconst C (0 : Int32) dX6_odds_205 (by decide) ?_
      exact A_loc [1, 2, 3, 4, 0, 6] rfl (t_6_odds_206 C qM bM r k45 K45 x1 x2 x3 (x5 + x7) x6 (0 : Int32) x4 h0)
    · refine A_iload C 7 dX6_odds_200 rfl ?_
      refine A_goto C 206 dX6_odds_202 (by decide) ?_
      exact A_loc [1, 2, 3, 4, 0, 6] rfl (t_6_odds_206 C qM bM r k45 K45 x1 x2 x3 (x5 + x7) x6 x7 x4 h0)
  · refine A_iload C 6 dX6_odds_78 rfl ?_
    refine A_iload C 9 dX6_odds_80 rfl ?_
    refine A_ishr C dX6_odds_82 ?_
    refine A_iconst C (1 : Int32) dX6_odds_83 (by decide) ?_
    refine A_iand C dX6_odds_84 ?_
    refine A_iconst C (1 : Int32) dX6_odds_85 (by decide) ?_
    refine A_icmp_ne C 93 dX6_odds_86 (by decide) h0 (fun h0 => ?_) (fun h0 => ?_)
    · refine A_iconst C (0 : Int32) dX6_odds_93 (by decide) ?_
      exact A_loc [0, 1, 2, 3, 4, 5, 6, 7, 8, 9] rfl (t_6_odds_94 C qM bM r k45 K45 k67 K67 x1 x2 x3 x4 x5 x6 x7 x8 x9 (0 : Int32) h0)
    · refine A_iconst C (1 : Int32) dX6_odds_89 (by decide) ?_
      refine A_goto C 94 dX6_odds_90 (by decide) ?_
      exact A_loc [0, 1, 2, 3, 4, 5, 6, 7, 8, 9] rfl (t_6_odds_94 C qM bM r k45 K45 k67 K67 x1 x2 x3 x4 x5 x6 x7 x8 x9 (1 : Int32) h0)
def f_6_odds_67 (bM : BV) (k45 : Int32 → Int32 → Int32 → Int32 → Int32 → Int32 → Option (Int32)) : Nat → Int32 → Int32 → Int32 → Int32 → Int32 → Int32 → Int32 → Int32 → Int32 → Option (Int32)
  | 0 => fun _ _ _ _ _ _ _ _ _ => none
  | n + 1 => f_6_odds_67_b bM k45 (f_6_odds_67 bM k45 n)
theorem t_6_odds_67 (C : CX p s m args meth c cX6_odds 12 (some .int) RX6 D t) (qM : Nat → Nat) (bM : BV) (r : Int32) (k45 : Int32 → Int32 → Int32 → Int32 → Int32 → Int32 → Option (Int32)) (K45 : ∀ (x1 : Int32) (x2 : Int32) (x3 : Int32) (x4 : Int32) (x5 : Int32) (x6 : Int32), k45 x1 x2 x3 x4 x5 x6 = some r → At p l e (rmD 3) s m args below meth c D 12 w0 (QI below args s D w0 (fun x w => r = x ∧ (wM t qM bM) = w) 0 0) 0 0 45 [(0, .ref (qM 99)), (1, .int x1), (2, .int x2), (3, .int x3), (4, .int x4), (5, .int x5), (6, .int x6)] [] (wM t qM bM)) : ∀ (n : Nat), ∀ (x1 : Int32) (x2 : Int32) (x3 : Int32) (x4 : Int32) (x5 : Int32) (x6 : Int32) (x7 : Int32) (x8 : Int32) (x9 : Int32), f_6_odds_67 bM k45 n x1 x2 x3 x4 x5 x6 x7 x8 x9 = some r → At p l e (rmD 3) s m args below meth c D 12 w0 (QI below args s D w0 (fun x w => r = x ∧ (wM t qM bM) = w) 0 0) 0 0 67 [(0, .ref (qM 99)), (1, .int x1), (2, .int x2), (3, .int x3), (4, .int x4), (5, .int x5), (6, .int x6), (7, .int x7), (8, .int x8), (9, .int x9)] [] (wM t qM bM) := by
  intro n
  induction n with
  | zero =>
    intro x1 x2 x3 x4 x5 x6 x7 x8 x9 h0
    have h0 : none = some r := h0
    cases h0
  | succ n ih =>
    intro x1 x2 x3 x4 x5 x6 x7 x8 x9 h0
    exact t_6_odds_67_b C qM bM r k45 K45 _ ih x1 x2 x3 x4 x5 x6 x7 x8 x9 h0
def f_6_odds_45_b (bM : BV) (k45 : Int32 → Int32 → Int32 → Int32 → Int32 → Int32 → Option (Int32)) (x1 : Int32) (x2 : Int32) (x3 : Int32) (x4 : Int32) (x5 : Int32) (x6 : Int32) : Option (Int32) :=
  ck (inb (2 : Int32) 79) (if ((1 : Int32) <<< ((gA bM 7 (2 : Int32)) &&& 31)) ≤ x6 then (f_6_odds_223 bM 200 x3 x4 x5 x4 x5) else (f_6_odds_67 bM k45 200 x1 x2 x3 x4 x5 x6 (1 : Int32) (0 : Int32) (0 : Int32)))
theorem t_6_odds_45_b (C : CX p s m args meth c cX6_odds 12 (some .int) RX6 D t) (qM : Nat → Nat) (bM : BV) (r : Int32) (k45 : Int32 → Int32 → Int32 → Int32 → Int32 → Int32 → Option (Int32)) (K45 : ∀ (x1 : Int32) (x2 : Int32) (x3 : Int32) (x4 : Int32) (x5 : Int32) (x6 : Int32), k45 x1 x2 x3 x4 x5 x6 = some r → At p l e (rmD 3) s m args below meth c D 12 w0 (QI below args s D w0 (fun x w => r = x ∧ (wM t qM bM) = w) 0 0) 0 0 45 [(0, .ref (qM 99)), (1, .int x1), (2, .int x2), (3, .int x3), (4, .int x4), (5, .int x5), (6, .int x6)] [] (wM t qM bM)) (x1 : Int32) (x2 : Int32) (x3 : Int32) (x4 : Int32) (x5 : Int32) (x6 : Int32) (h0 : f_6_odds_45_b bM k45 x1 x2 x3 x4 x5 x6 = some r) : At p l e (rmD 3) s m args below meth c D 12 w0 (QI below args s D w0 (fun x w => r = x ∧ (wM t qM bM) = w) 0 0) 0 0 45 [(0, .ref (qM 99)), (1, .int x1), (2, .int x2), (3, .int x3), (4, .int x4), (5, .int x5), (6, .int x6)] [] (wM t qM bM) := by
  unfold f_6_odds_45_b at h0
  refine A_iload C 6 dX6_odds_45 rfl ?_
  refine A_iconst C (1 : Int32) dX6_odds_47 (by decide) ?_
  refine A_aload_n C 0 dX6_odds_48 rfl rfl ?_
  refine A_get (v := .ref (qM 7)) C 0 7 inG6 (ci := 6) rfl (by decide) fl_6_16 rfl rfl rfl dX6_odds_49 ?_
  refine A_iconst C (2 : Int32) dX6_odds_52 (by decide) ?_
  refine A_iald C 3 (gA bM 7 (2 : Int32)) rfl rfl dX6_odds_53 h0 (fun h0 => ?_)
  refine A_ishl C dX6_odds_54 ?_
  refine A_icmp_ge C 215 dX6_odds_55 (by decide) h0 (fun h0 => ?_) (fun h0 => ?_)
  · refine A_iload C 4 dX6_odds_215 rfl ?_
    refine A_istore C [(6, .int x4), (0, .ref (qM 99)), (1, .int x1), (2, .int x2), (3, .int x3), (4, .int x4), (5, .int x5)] dX6_odds_217 (by decide) rfl ?_
    refine A_iload C 6 dX6_odds_219 rfl ?_
    refine A_istore C [(7, .int x5), (6, .int x4), (0, .ref (qM 99)), (1, .int x1), (2, .int x2), (3, .int x3), (4, .int x4), (5, .int x5)] dX6_odds_221 (by decide) rfl ?_
    exact A_loc [5, 6, 7, 1, 0] rfl (t_6_odds_223 C qM bM r 200 x3 x4 x5 x4 x5 h0)
  · refine A_iconst C (1 : Int32) dX6_odds_58 (by decide) ?_
    refine A_istore C [(7, .int (1 : Int32)), (0, .ref (qM 99)), (1, .int x1), (2, .int x2), (3, .int x3), (4, .int x4), (5, .int x5), (6, .int x6)] dX6_odds_59 (by decide) rfl ?_
    refine A_iconst C (0 : Int32) dX6_odds_61 (by decide) ?_
    refine A_istore C [(8, .int (0 : Int32)), (7, .int (1 : Int32)), (0, .ref (qM 99)), (1, .int x1), (2, .int x2), (3, .int x3), (4, .int x4), (5, .int x5), (6, .int x6)] dX6_odds_62 (by decide) rfl ?_
    refine A_iconst C (0 : Int32) dX6_odds_64 (by decide) ?_
    refine A_istore C [(9, .int (0 : Int32)), (8, .int (0 : Int32)), (7, .int (1 : Int32)), (0, .ref (qM 99)), (1, .int x1), (2, .int x2), (3, .int x3), (4, .int x4), (5, .int x5), (6, .int x6)] dX6_odds_65 (by decide) rfl ?_
    exact A_loc [3, 4, 5, 6, 7, 8, 9, 2, 1, 0] rfl (t_6_odds_67 C qM bM r k45 K45 200 x1 x2 x3 x4 x5 x6 (1 : Int32) (0 : Int32) (0 : Int32) h0)
def f_6_odds_45 (bM : BV) : Nat → Int32 → Int32 → Int32 → Int32 → Int32 → Int32 → Option (Int32)
  | 0 => fun _ _ _ _ _ _ => none
  | n + 1 => f_6_odds_45_b bM (f_6_odds_45 bM n)
theorem t_6_odds_45 (C : CX p s m args meth c cX6_odds 12 (some .int) RX6 D t) (qM : Nat → Nat) (bM : BV) (r : Int32) : ∀ (n : Nat), ∀ (x1 : Int32) (x2 : Int32) (x3 : Int32) (x4 : Int32) (x5 : Int32) (x6 : Int32), f_6_odds_45 bM n x1 x2 x3 x4 x5 x6 = some r → At p l e (rmD 3) s m args below meth c D 12 w0 (QI below args s D w0 (fun x w => r = x ∧ (wM t qM bM) = w) 0 0) 0 0 45 [(0, .ref (qM 99)), (1, .int x1), (2, .int x2), (3, .int x3), (4, .int x4), (5, .int x5), (6, .int x6)] [] (wM t qM bM) := by
  intro n
  induction n with
  | zero =>
    intro x1 x2 x3 x4 x5 x6 h0
    have h0 : none = some r := h0
    cases h0
  | succ n ih =>
    intro x1 x2 x3 x4 x5 x6 h0
    exact t_6_odds_45_b C qM bM r _ ih x1 x2 x3 x4 x5 x6 h0
def f_6_odds_34 (bM : BV) : Option (Int32) :=
  some (-1 : Int32)
theorem t_6_odds_34 (C : CX p s m args meth c cX6_odds 12 (some .int) RX6 D t) (qM : Nat → Nat) (bM : BV) (r : Int32) (h0 : f_6_odds_34 bM = some r) : At p l e (rmD 3) s m args below meth c D 12 w0 (QI below args s D w0 (fun x w => r = x ∧ (wM t qM bM) = w) 0 0) 0 0 34 [] [] (wM t qM bM) := by
  unfold f_6_odds_34 at h0
  refine A_iconst C (-1 : Int32) dX6_odds_34 (by decide) ?_
  have h0 := Option.some.inj h0
  subst h0
  exact A_iret C dX6_odds_35 ⟨rfl, rfl⟩
def f_6_odds (bM : BV) (x1 : Int32) (x2 : Int32) (x3 : Int32) : Option (Int32) :=
  (f_6_in (x1).toInt64 (0 : Int64) (10 : Int64)).bind (fun z4 => if z4 = 0 then (f_6_odds_34 bM) else ((f_6_in (x2).toInt64 (0 : Int64) (999 : Int64)).bind (fun z5 => if z5 = 0 then (f_6_odds_34 bM) else ((f_6_in (x3).toInt64 (0 : Int64) (1 : Int64)).bind (fun z6 => if z6 = 0 then (f_6_odds_34 bM) else (f_6_odds_45 bM 200 x1 x2 x3 (0 : Int32) (0 : Int32) (0 : Int32)))))))
theorem c_6_odds (l : Launch) (D : va_G) (t : ty4) (qM : Nat → Nat) (bM : BV) (x1 : Int32) (x2 : Int32) (x3 : Int32) {r : Int32} (h0 : f_6_odds bM x1 x2 x3 = some r) : MetI l yX6_odds cX6_odds 12 (some .int) (rmD 3) D t [.ref (qM 99), .int x1, .int x2, .int x3] (wM t qM bM) (fun x w => r = x ∧ (wM t qM bM) = w) := by
  refine MetI_of (by decide +kernel) (Nat.le_of_ble_eq_true rfl) (fun p e s m below meth c C _ => ?_)
  unfold f_6_odds at h0
  generalize hargs : (List.toArray [.ref (qM 99), .int x1, .int x2, .int x3] : Array Value) = args at C ⊢
  refine At.start (lv2 := [(0, .ref (qM 99)), (1, .int x1), (2, .int x2), (3, .int x3)]) rfl ?_
  refine A_iload_n C 1 dX6_odds_0 rfl rfl ?_
  refine A_i2l C dX6_odds_1 ?_
  refine A_lconst C (0 : Int64) dX6_odds_2 (by decide) ?_
  refine A_ldc2 (v := (10 : Int64)) C cl_6_201 dX6_odds_3 ?_
  obtain ⟨z4, hz4, h0⟩ := bind_some h0
  refine A_sI (As := [.long (x1).toInt64, .long (0 : Int64), .long (10 : Int64)]) (rest := []) C (c_6_in l D t (x1).toInt64 (0 : Int64) (10 : Int64) hz4) mw_6_in ml_6_45 st_6_in (rmok rfl rfl) (cutN (wM t qM bM)) rfl rfl (Nat.le_of_ble_eq_true rfl) dX6_odds_6 (fun x w1 hw1 => ?_)
  obtain ⟨rfl, rfl⟩ := hw1
  refine A_perm (ws' := (wM t qM bM)) ((cutN _).symm) ?_
  refine A_if_eq C 34 dX6_odds_9 (by decide) h0 (fun h0 => ?_) (fun h0 => ?_)
  · exact A_loc [] rfl (t_6_odds_34 C qM bM r h0)
  · refine A_iload_n C 2 dX6_odds_12 rfl rfl ?_
    refine A_i2l C dX6_odds_13 ?_
    refine A_lconst C (0 : Int64) dX6_odds_14 (by decide) ?_
    refine A_ldc2 (v := (999 : Int64)) C cl_6_185 dX6_odds_15 ?_
    obtain ⟨z5, hz5, h0⟩ := bind_some h0
    refine A_sI (As := [.long (x2).toInt64, .long (0 : Int64), .long (999 : Int64)]) (rest := []) C (c_6_in l D t (x2).toInt64 (0 : Int64) (999 : Int64) hz5) mw_6_in ml_6_45 st_6_in (rmok rfl rfl) (cutN (wM t qM bM)) rfl rfl (Nat.le_of_ble_eq_true rfl) dX6_odds_18 (fun x w1 hw1 => ?_)
    obtain ⟨rfl, rfl⟩ := hw1
    refine A_perm (ws' := (wM t qM bM)) ((cutN _).symm) ?_
    refine A_if_eq C 34 dX6_odds_21 (by decide) h0 (fun h0 => ?_) (fun h0 => ?_)
    · exact A_loc [] rfl (t_6_odds_34 C qM bM r h0)
    · refine A_iload_n C 3 dX6_odds_24 rfl rfl ?_
      refine A_i2l C dX6_odds_25 ?_
      refine A_lconst C (0 : Int64) dX6_odds_26 (by decide) ?_
      refine A_lconst C (1 : Int64) dX6_odds_27 (by decide) ?_
      obtain ⟨z6, hz6, h0⟩ := bind_some h0
      refine A_sI (As := [.long (x3).toInt64, .long (0 : Int64), .long (1 : Int64)]) (rest := []) C (c_6_in l D t (x3).toInt64 (0 : Int64) (1 : Int64) hz6) mw_6_in ml_6_45 st_6_in (rmok rfl rfl) (cutN (wM t qM bM)) rfl rfl (Nat.le_of_ble_eq_true rfl) dX6_odds_28 (fun x w1 hw1 => ?_)
      obtain ⟨rfl, rfl⟩ := hw1
      refine A_perm (ws' := (wM t qM bM)) ((cutN _).symm) ?_
      refine A_if_ne C 36 dX6_odds_31 (by decide) h0 (fun h0 => ?_) (fun h0 => ?_)
      · refine A_iconst C (0 : Int32) dX6_odds_36 (by decide) ?_
        refine A_istore C [(4, .int (0 : Int32)), (0, .ref (qM 99)), (1, .int x1), (2, .int x2), (3, .int x3)] dX6_odds_37 (by decide) rfl ?_
        refine A_iconst C (0 : Int32) dX6_odds_39 (by decide) ?_
        refine A_istore C [(5, .int (0 : Int32)), (4, .int (0 : Int32)), (0, .ref (qM 99)), (1, .int x1), (2, .int x2), (3, .int x3)] dX6_odds_40 (by decide) rfl ?_
        refine A_iconst C (0 : Int32) dX6_odds_42 (by decide) ?_
        refine A_istore C [(6, .int (0 : Int32)), (5, .int (0 : Int32)), (4, .int (0 : Int32)), (0, .ref (qM 99)), (1, .int x1), (2, .int x2), (3, .int x3)] dX6_odds_43 (by decide) rfl ?_
        exact A_loc [3, 4, 5, 6, 2, 1, 0] rfl (t_6_odds_45 C qM bM r 200 x1 x2 x3 (0 : Int32) (0 : Int32) (0 : Int32) h0)
      · exact A_loc [] rfl (t_6_odds_34 C qM bM r h0)
def f_6_mark_211 (bM : BV) (y0 : Int32) (y1 : Int32) : Option (Int32 × BV) :=
  some ((y1 + y0), bM)
theorem t_6_mark_211 (C : CX p s m args meth c cX6_mark 4 (some .int) RX6 D t) (qM : Nat → Nat) (r : Int32 × BV) (bM : BV) (y0 : Int32) (y1 : Int32) (h0 : f_6_mark_211 bM y0 y1 = some r) : At p l e (rmD 3) s m args below meth c D 4 w0 (QI below args s D w0 (fun x w => r.1 = x ∧ (wM t qM r.2) = w) 0 0) 0 0 211 [] [.int y0, .int y1] (wM t qM bM) := by
  unfold f_6_mark_211 at h0
  refine A_iadd C dX6_mark_211 ?_
  have h0 := Option.some.inj h0
  subst h0
  exact A_iret C dX6_mark_212 ⟨rfl, rfl⟩
def f_6_mark_83 (bM : BV) (x1 : Int32) (x2 : Int32) (y0 : Int64) (y1 : Int64) : Option (Int32 × BV) :=
  (f_6_worth (pJ bM (y1 + y0)) x2).bind (fun z1 => ck (inb (((67 : Int32) + ((3 : Int32) * x2)) + (1 : Int32)) 79) (if x1 = (0 : Int32) then ((f_6_worth (pJ bM (y1 + y0)) x2).bind (fun z2 => some (z2, (pJ bM (y1 + y0))))) else (if x1 = (1 : Int32) then ((f_6_worth (pJ bM (y1 + y0)) x2).bind (fun z3 => ck (inb ((67 : Int32) + ((3 : Int32) * x2)) 79) (some ((z3 + (gA bM 7 ((67 : Int32) + ((3 : Int32) * x2)))), (pJ bM (y1 + y0)))))) else (if x1 = (2 : Int32) then (some ((z1 - (gA bM 7 (((67 : Int32) + ((3 : Int32) * x2)) + (1 : Int32)))), (pJ bM (y1 + y0)))) else (if x1 = (3 : Int32) then ((f_6_worth (pJ bM (y1 + y0)) x2).bind (fun z4 => ck (inb ((67 : Int32) + ((3 : Int32) * x2)) 79) (some (((2 : Int32) * (z4 + (gA bM 7 ((67 : Int32) + ((3 : Int32) * x2))))), (pJ bM (y1 + y0)))))) else (if x1 = (4 : Int32) then ((f_6_notIn (pJ bM (y1 + y0))).bind (fun z5 => (f_6_ripens (pJ bM (y1 + y0)) x2 z5).bind (fun z6 => if z6 = (-9 : Int32) then (f_6_mark_211 (pJ bM (y1 + y0)) (0 : Int32) (z1 - (gA bM 7 (((67 : Int32) + ((3 : Int32) * x2)) + (1 : Int32))))) else (f_6_mark_211 (pJ bM (y1 + y0)) (9 : Int32) (z1 - (gA bM 7 (((67 : Int32) + ((3 : Int32) * x2)) + (1 : Int32)))))))) else ((f_6_worth (pJ bM (y1 + y0)) x2).bind (fun z7 => ck (inb (1 : Int32) 15) (some ((z7 + (gA bM 8 (1 : Int32))), (pJ bM (y1 + y0))))))))))))
theorem t_6_mark_83 (C : CX p s m args meth c cX6_mark 4 (some .int) RX6 D t) (qM : Nat → Nat) (r : Int32 × BV) (bM : BV) (x1 : Int32) (x2 : Int32) (y0 : Int64) (y1 : Int64) (h0 : f_6_mark_83 bM x1 x2 y0 y1 = some r) : At p l e (rmD 3) s m args below meth c D 4 w0 (QI below args s D w0 (fun x w => r.1 = x ∧ (wM t qM r.2) = w) 0 0) 0 0 83 [(0, .ref (qM 99)), (1, .int x1), (2, .int x2)] [.long y0, .long y1, .ref (qM 99)] (wM t qM bM) := by
  unfold f_6_mark_83 at h0
  refine A_ladd C dX6_mark_83 ?_
  refine A_put C 0 15 (wM t qM (pJ bM (y1 + y0))) tyX6 inG6 tyX6_ok nmX6 (ci := 6) rfl (by decide) fl_6_206 rfl rfl rfl rfl rfl (Nat.le_of_ble_eq_true rfl) rfl dX6_mark_84 ?_
  refine A_aload_n C 0 dX6_mark_87 rfl rfl ?_
  refine A_iload_n C 2 dX6_mark_88 rfl rfl ?_
  obtain ⟨z1, hz1, h0⟩ := bind_some h0
  refine A_vI (As := [.int x2]) (rest := []) C 0 (c_6_worth l D t qM (pJ bM (y1 + y0)) x2 hz1) mw_6_worth ml_6_133 im_6_worth sl_6_worth (rmok rfl rfl) (cut0 (wM t qM (pJ bM (y1 + y0)))) rfl (ci := 6) rfl rfl rfl (Nat.le_of_ble_eq_true rfl) dX6_mark_89 (fun x w1 hw1 => ?_)
  obtain ⟨rfl, rfl⟩ := hw1
  refine A_perm (ws' := (wM t qM (pJ bM (y1 + y0)))) ((cut0 _).symm) ?_
  refine A_aload_n C 0 dX6_mark_92 rfl rfl ?_
  refine A_get (v := .ref (qM 7)) C 0 7 inG6 (ci := 6) rfl (by decide) fl_6_16 rfl rfl rfl dX6_mark_93 ?_
  refine A_bipush C (67 : Int32) dX6_mark_96 (by decide) ?_
  refine A_iconst C (3 : Int32) dX6_mark_98 (by decide) ?_
  refine A_iload_n C 2 dX6_mark_99 rfl rfl ?_
  refine A_imul C dX6_mark_100 ?_
  refine A_iadd C dX6_mark_101 ?_
  refine A_iconst C (1 : Int32) dX6_mark_102 (by decide) ?_
  refine A_iadd C dX6_mark_103 ?_
  refine A_iald C 3 (gA bM 7 (((67 : Int32) + ((3 : Int32) * x2)) + (1 : Int32))) rfl rfl dX6_mark_104 h0 (fun h0 => ?_)
  refine A_isub C dX6_mark_105 ?_
  refine A_istore_n C [(3, .int (z1 - (gA bM 7 (((67 : Int32) + ((3 : Int32) * x2)) + (1 : Int32))))), (0, .ref (qM 99)), (1, .int x1), (2, .int x2)] dX6_mark_106 rfl (by decide) rfl ?_
  refine A_iload_n C 2 dX6_mark_107 rfl rfl ?_
  refine sw_split h0 (fun hx h0 => ?_) (fun hn0 h0 => ?_)
  · refine A_tabIn C 144 dX6_mark_108 (by rw [hx]; decide) (by rw [hx]; decide) (by rw [hx]; rfl) (by decide) ?_
    refine A_aload_n C 1 dX6_mark_144 rfl rfl ?_
    refine A_iload_n C 3 dX6_mark_145 rfl rfl ?_
    obtain ⟨z2, hz2, h0⟩ := bind_some h0
    refine A_vI (As := [.int x2]) (rest := []) C 0 (c_6_worth l D t qM (pJ bM (y1 + y0)) x2 hz2) mw_6_worth ml_6_133 im_6_worth sl_6_worth (rmok rfl rfl) (cut0 (wM t qM (pJ bM (y1 + y0)))) rfl (ci := 6) rfl rfl rfl (Nat.le_of_ble_eq_true rfl) dX6_mark_146 (fun x w1 hw1 => ?_)
    obtain ⟨rfl, rfl⟩ := hw1
    refine A_perm (ws' := (wM t qM (pJ bM (y1 + y0)))) ((cut0 _).symm) ?_
    have h0 := Option.some.inj h0
    subst h0
    exact A_iret C dX6_mark_149 ⟨rfl, rfl⟩
  ·
    refine sw_split h0 (fun hx h0 => ?_) (fun hn1 h0 => ?_)
    · refine A_tabIn C 150 dX6_mark_108 (by rw [hx]; decide) (by rw [hx]; decide) (by rw [hx]; rfl) (by decide) ?_
      refine A_aload_n C 1 dX6_mark_150 rfl rfl ?_
      refine A_iload_n C 3 dX6_mark_151 rfl rfl ?_
      obtain ⟨z3, hz3, h0⟩ := bind_some h0
      refine A_vI (As := [.int x2]) (rest := []) C 0 (c_6_worth l D t qM (pJ bM (y1 + y0)) x2 hz3) mw_6_worth ml_6_133 im_6_worth sl_6_worth (rmok rfl rfl) (cut0 (wM t qM (pJ bM (y1 + y0)))) rfl (ci := 6) rfl rfl rfl (Nat.le_of_ble_eq_true rfl) dX6_mark_152 (fun x w1 hw1 => ?_)
      obtain ⟨rfl, rfl⟩ := hw1
      refine A_perm (ws' := (wM t qM (pJ bM (y1 + y0)))) ((cut0 _).symm) ?_
      refine A_aload_n C 1 dX6_mark_155 rfl rfl ?_
      refine A_get (v := .ref (qM 7)) C 0 7 inG6 (ci := 6) rfl (by decide) fl_6_16 rfl rfl rfl dX6_mark_156 ?_
      refine A_bipush C (67 : Int32) dX6_mark_159 (by decide) ?_
      refine A_iconst C (3 : Int32) dX6_mark_161 (by decide) ?_
      refine A_iload_n C 3 dX6_mark_162 rfl rfl ?_
      refine A_imul C dX6_mark_163 ?_
      refine A_iadd C dX6_mark_164 ?_
      refine A_iald C 3 (gA bM 7 ((67 : Int32) + ((3 : Int32) * x2))) rfl rfl dX6_mark_165 h0 (fun h0 => ?_)
      refine A_iadd C dX6_mark_166 ?_
      have h0 := Option.some.inj h0
      subst h0
      exact A_iret C dX6_mark_167 ⟨rfl, rfl⟩
    ·
      refine sw_split h0 (fun hx h0 => ?_) (fun hn2 h0 => ?_)
      · refine A_tabIn C 168 dX6_mark_108 (by rw [hx]; decide) (by rw [hx]; decide) (by rw [hx]; rfl) (by decide) ?_
        refine A_iload_n C 0 dX6_mark_168 rfl rfl ?_
        have h0 := Option.some.inj h0
        subst h0
        exact A_iret C dX6_mark_169 ⟨rfl, rfl⟩
      ·
        refine sw_split h0 (fun hx h0 => ?_) (fun hn3 h0 => ?_)
        · refine A_tabIn C 170 dX6_mark_108 (by rw [hx]; decide) (by rw [hx]; decide) (by rw [hx]; rfl) (by decide) ?_
          refine A_iconst C (2 : Int32) dX6_mark_170 (by decide) ?_
          refine A_aload_n C 1 dX6_mark_171 rfl rfl ?_
          refine A_iload_n C 3 dX6_mark_172 rfl rfl ?_
          obtain ⟨z4, hz4, h0⟩ := bind_some h0
          refine A_vI (As := [.int x2]) (rest := [.int (2 : Int32)]) C 0 (c_6_worth l D t qM (pJ bM (y1 + y0)) x2 hz4) mw_6_worth ml_6_133 im_6_worth sl_6_worth (rmok rfl rfl) (cut0 (wM t qM (pJ bM (y1 + y0)))) rfl (ci := 6) rfl rfl rfl (Nat.le_of_ble_eq_true rfl) dX6_mark_173 (fun x w1 hw1 => ?_)
          obtain ⟨rfl, rfl⟩ := hw1
          refine A_perm (ws' := (wM t qM (pJ bM (y1 + y0)))) ((cut0 _).symm) ?_
          refine A_aload_n C 1 dX6_mark_176 rfl rfl ?_
          refine A_get (v := .ref (qM 7)) C 0 7 inG6 (ci := 6) rfl (by decide) fl_6_16 rfl rfl rfl dX6_mark_177 ?_
          refine A_bipush C (67 : Int32) dX6_mark_180 (by decide) ?_
          refine A_iconst C (3 : Int32) dX6_mark_182 (by decide) ?_
          refine A_iload_n C 3 dX6_mark_183 rfl rfl ?_
          refine A_imul C dX6_mark_184 ?_
          refine A_iadd C dX6_mark_185 ?_
          refine A_iald C 3 (gA bM 7 ((67 : Int32) + ((3 : Int32) * x2))) rfl rfl dX6_mark_186 h0 (fun h0 => ?_)
          refine A_iadd C dX6_mark_187 ?_
          refine A_imul C dX6_mark_188 ?_
          have h0 := Option.some.inj h0
          subst h0
          exact A_iret C dX6_mark_189 ⟨rfl, rfl⟩
        ·
          refine sw_split h0 (fun hx h0 => ?_) (fun hn4 h0 => ?_)
          · refine A_tabIn C 190 dX6_mark_108 (by rw [hx]; decide) (by rw [hx]; decide) (by rw [hx]; rfl) (by decide) ?_
            refine A_iload_n C 0 dX6_mark_190 rfl rfl ?_
            refine A_aload_n C 1 dX6_mark_191 rfl rfl ?_
            refine A_iload_n C 3 dX6_mark_192 rfl rfl ?_
            refine A_aload_n C 1 dX6_mark_193 rfl rfl ?_
            obtain ⟨z5, hz5, h0⟩ := bind_some h0
            refine A_vI (As := []) (rest := [.int x2, .ref (qM 99), .int (z1 - (gA bM 7 (((67 : Int32) + ((3 : Int32) * x2)) + (1 : Int32))))]) C 0 (c_6_notIn l D t qM (pJ bM (y1 + y0)) hz5) mw_6_notIn ml_6_144 im_6_notIn sl_6_notIn (rmok rfl rfl) (cut0 (wM t qM (pJ bM (y1 + y0)))) rfl (ci := 6) rfl rfl rfl (Nat.le_of_ble_eq_true rfl) dX6_mark_194 (fun x w1 hw1 => ?_)
            obtain ⟨rfl, rfl⟩ := hw1
            refine A_perm (ws' := (wM t qM (pJ bM (y1 + y0)))) ((cut0 _).symm) ?_
            obtain ⟨z6, hz6, h0⟩ := bind_some h0
            refine A_vI (As := [.int x2, .int z5]) (rest := [.int (z1 - (gA bM 7 (((67 : Int32) + ((3 : Int32) * x2)) + (1 : Int32))))]) C 0 (c_6_ripens l D t qM (pJ bM (y1 + y0)) x2 z5 hz6) mw_6_ripens ml_6_129 im_6_ripens sl_6_ripens (rmok rfl rfl) (cut0 (wM t qM (pJ bM (y1 + y0)))) rfl (ci := 6) rfl rfl rfl (Nat.le_of_ble_eq_true rfl) dX6_mark_197 (fun x w1 hw1 => ?_)
            obtain ⟨rfl, rfl⟩ := hw1
            refine A_perm (ws' := (wM t qM (pJ bM (y1 + y0)))) ((cut0 _).symm) ?_
            refine A_bipush C (-9 : Int32) dX6_mark_200 (by decide) ?_
            refine A_icmp_ne C 209 dX6_mark_202 (by decide) h0 (fun h0 => ?_) (fun h0 => ?_)
            · refine A_bipush C (9 : Int32) dX6_mark_209 (by decide) ?_
              exact A_loc [] rfl (t_6_mark_211 C qM r (pJ bM (y1 + y0)) (9 : Int32) (z1 - (gA bM 7 (((67 : Int32) + ((3 : Int32) * x2)) + (1 : Int32)))) h0)
            · refine A_iconst C (0 : Int32) dX6_mark_205 (by decide) ?_
              refine A_goto C 211 dX6_mark_206 (by decide) ?_
              exact A_loc [] rfl (t_6_mark_211 C qM r (pJ bM (y1 + y0)) (0 : Int32) (z1 - (gA bM 7 (((67 : Int32) + ((3 : Int32) * x2)) + (1 : Int32)))) h0)
          ·
            have hn0 := lv_neT hn0 (k := (0 : Int32)) (a := 0) (by decide)
            have hn1 := lv_neT hn1 (k := (1 : Int32)) (a := 1) (by decide)
            have hn2 := lv_neT hn2 (k := (2 : Int32)) (a := 2) (by decide)
            have hn3 := lv_neT hn3 (k := (3 : Int32)) (a := 3) (by decide)
            have hn4 := lv_neT hn4 (k := (4 : Int32)) (a := 4) (by decide)
            refine A_tabOut C 213 dX6_mark_108 (by omega) (by decide) ?_
            refine A_aload_n C 1 dX6_mark_213 rfl rfl ?_
            refine A_iload_n C 3 dX6_mark_214 rfl rfl ?_
            obtain ⟨z7, hz7, h0⟩ := bind_some h0
            refine A_vI (As := [.int x2]) (rest := []) C 0 (c_6_worth l D t qM (pJ bM (y1 + y0)) x2 hz7) mw_6_worth ml_6_133 im_6_worth sl_6_worth (rmok rfl rfl) (cut0 (wM t qM (pJ bM (y1 + y0)))) rfl (ci := 6) rfl rfl rfl (Nat.le_of_ble_eq_true rfl) dX6_mark_215 (fun x w1 hw1 => ?_)
            obtain ⟨rfl, rfl⟩ := hw1
            refine A_perm (ws' := (wM t qM (pJ bM (y1 + y0)))) ((cut0 _).symm) ?_
            refine A_aload_n C 1 dX6_mark_218 rfl rfl ?_
            refine A_get (v := .ref (qM 8)) C 0 8 inG6 (ci := 6) rfl (by decide) fl_6_19 rfl rfl rfl dX6_mark_219 ?_
            refine A_iconst C (1 : Int32) dX6_mark_222 (by decide) ?_
            refine A_iald C 4 (gA bM 8 (1 : Int32)) rfl rfl dX6_mark_223 h0 (fun h0 => ?_)
            refine A_iadd C dX6_mark_224 ?_
            have h0 := Option.some.inj h0
            subst h0
            exact A_iret C dX6_mark_225 ⟨rfl, rfl⟩
def f_6_mark_20 (bM : BV) : Option (Int32 × BV) :=
  some ((-1000000 : Int32), bM)
theorem t_6_mark_20 (C : CX p s m args meth c cX6_mark 4 (some .int) RX6 D t) (qM : Nat → Nat) (r : Int32 × BV) (bM : BV) (h0 : f_6_mark_20 bM = some r) : At p l e (rmD 3) s m args below meth c D 4 w0 (QI below args s D w0 (fun x w => r.1 = x ∧ (wM t qM r.2) = w) 0 0) 0 0 20 [] [] (wM t qM bM) := by
  unfold f_6_mark_20 at h0
  refine A_ldc (v := (-1000000 : Int32)) C cs_6_205 dX6_mark_20 ?_
  have h0 := Option.some.inj h0
  subst h0
  exact A_iret C dX6_mark_22 ⟨rfl, rfl⟩
def f_6_mark (bM : BV) (x1 : Int32) (x2 : Int32) : Option (Int32 × BV) :=
  (f_6_in (x1).toInt64 (0 : Int64) (5 : Int64)).bind (fun z8 => if z8 = 0 then (f_6_mark_20 bM) else ((f_6_isCrop bM x2).bind (fun z9 => if z9 = 0 then (f_6_mark_20 bM) else (if x1 = 0 then (f_6_mark_83 bM x1 x2 (1 : Int64) (gJ bM)) else (if x1 = (1 : Int32) then (f_6_mark_83 bM x1 x2 (11 : Int64) (gJ bM)) else (if x1 = (2 : Int32) then (f_6_mark_83 bM x1 x2 (101 : Int64) (gJ bM)) else (if x1 = (3 : Int32) then (f_6_mark_83 bM x1 x2 (1011 : Int64) (gJ bM)) else (if x1 = (4 : Int32) then (f_6_mark_83 bM x1 x2 (10101 : Int64) (gJ bM)) else (f_6_mark_83 bM x1 x2 (100001 : Int64) (gJ bM))))))))))
theorem c_6_mark (l : Launch) (D : va_G) (t : ty4) (qM : Nat → Nat) (bM : BV) (x1 : Int32) (x2 : Int32) {r : Int32 × BV} (h0 : f_6_mark bM x1 x2 = some r) : MetI l yX6_mark cX6_mark 4 (some .int) (rmD 3) D t [.ref (qM 99), .int x1, .int x2] (wM t qM bM) (fun x w => r.1 = x ∧ (wM t qM r.2) = w) := by
  refine MetI_of (by decide +kernel) (Nat.le_of_ble_eq_true rfl) (fun p e s m below meth c C _ => ?_)
  unfold f_6_mark at h0
  generalize hargs : (List.toArray [.ref (qM 99), .int x1, .int x2] : Array Value) = args at C ⊢
  refine At.start (lv2 := [(0, .ref (qM 99)), (1, .int x1), (2, .int x2)]) rfl ?_
  refine A_iload_n C 1 dX6_mark_0 rfl rfl ?_
  refine A_i2l C dX6_mark_1 ?_
  refine A_lconst C (0 : Int64) dX6_mark_2 (by decide) ?_
  refine A_ldc2 (v := (5 : Int64)) C cl_6_203 dX6_mark_3 ?_
  obtain ⟨z8, hz8, h0⟩ := bind_some h0
  refine A_sI (As := [.long (x1).toInt64, .long (0 : Int64), .long (5 : Int64)]) (rest := []) C (c_6_in l D t (x1).toInt64 (0 : Int64) (5 : Int64) hz8) mw_6_in ml_6_45 st_6_in (rmok rfl rfl) (cutN (wM t qM bM)) rfl rfl (Nat.le_of_ble_eq_true rfl) dX6_mark_6 (fun x w1 hw1 => ?_)
  obtain ⟨rfl, rfl⟩ := hw1
  refine A_perm (ws' := (wM t qM bM)) ((cutN _).symm) ?_
  refine A_if_eq C 20 dX6_mark_9 (by decide) h0 (fun h0 => ?_) (fun h0 => ?_)
  · exact A_loc [] rfl (t_6_mark_20 C qM r bM h0)
  · refine A_aload_n C 0 dX6_mark_12 rfl rfl ?_
    refine A_iload_n C 2 dX6_mark_13 rfl rfl ?_
    obtain ⟨z9, hz9, h0⟩ := bind_some h0
    refine A_vI (As := [.int x2]) (rest := []) C 0 (c_6_isCrop l D t qM bM x2 hz9) mw_6_isCrop ml_6_139 im_6_isCrop sl_6_isCrop (rmok rfl rfl) (cut0 (wM t qM bM)) rfl (ci := 6) rfl rfl rfl (Nat.le_of_ble_eq_true rfl) dX6_mark_14 (fun x w1 hw1 => ?_)
    obtain ⟨rfl, rfl⟩ := hw1
    refine A_perm (ws' := (wM t qM bM)) ((cut0 _).symm) ?_
    refine A_if_ne C 23 dX6_mark_17 (by decide) h0 (fun h0 => ?_) (fun h0 => ?_)
    · refine A_aload_n C 0 dX6_mark_23 rfl rfl ?_
      refine A_dup C dX6_mark_24 rfl ?_
      refine A_get (v := .long (gJ bM)) C 0 15 inG6 (ci := 6) rfl (by decide) fl_6_206 rfl rfl rfl dX6_mark_25 ?_
      refine A_iload_n C 1 dX6_mark_28 rfl rfl ?_
      refine A_if_ne C 36 dX6_mark_29 (by decide) h0 (fun h0 => ?_) (fun h0 => ?_)
      · refine A_iload_n C 1 dX6_mark_36 rfl rfl ?_
        refine A_iconst C (1 : Int32) dX6_mark_37 (by decide) ?_
        refine A_icmp_ne C 47 dX6_mark_38 (by decide) h0 (fun h0 => ?_) (fun h0 => ?_)
        · refine A_iload_n C 1 dX6_mark_47 rfl rfl ?_
          refine A_iconst C (2 : Int32) dX6_mark_48 (by decide) ?_
          refine A_icmp_ne C 58 dX6_mark_49 (by decide) h0 (fun h0 => ?_) (fun h0 => ?_)
          · refine A_iload_n C 1 dX6_mark_58 rfl rfl ?_
            refine A_iconst C (3 : Int32) dX6_mark_59 (by decide) ?_
            refine A_icmp_ne C 69 dX6_mark_60 (by decide) h0 (fun h0 => ?_) (fun h0 => ?_)
            · refine A_iload_n C 1 dX6_mark_69 rfl rfl ?_
              refine A_iconst C (4 : Int32) dX6_mark_70 (by decide) ?_
              refine A_icmp_ne C 80 dX6_mark_71 (by decide) h0 (fun h0 => ?_) (fun h0 => ?_)
              · refine A_ldc2 (v := (100001 : Int64)) C cl_6_218 dX6_mark_80 ?_
                exact A_loc [0, 1, 2] rfl (t_6_mark_83 C qM r bM x1 x2 (100001 : Int64) (gJ bM) h0)
              · refine A_ldc2 (v := (10101 : Int64)) C cl_6_216 dX6_mark_74 ?_
                refine A_goto C 83 dX6_mark_77 (by decide) ?_
                exact A_loc [0, 1, 2] rfl (t_6_mark_83 C qM r bM x1 x2 (10101 : Int64) (gJ bM) h0)
            · refine A_ldc2 (v := (1011 : Int64)) C cl_6_214 dX6_mark_63 ?_
              refine A_goto C 83 dX6_mark_66 (by decide) ?_
              exact A_loc [0, 1, 2] rfl (t_6_mark_83 C qM r bM x1 x2 (1011 : Int64) (gJ bM) h0)
          · refine A_ldc2 (v := (101 : Int64)) C cl_6_212 dX6_mark_52 ?_
            refine A_goto C 83 dX6_mark_55 (by decide) ?_
            exact A_loc [0, 1, 2] rfl (t_6_mark_83 C qM r bM x1 x2 (101 : Int64) (gJ bM) h0)
        · refine A_ldc2 (v := (11 : Int64)) C cl_6_210 dX6_mark_41 ?_
          refine A_goto C 83 dX6_mark_44 (by decide) ?_
          exact A_loc [0, 1, 2] rfl (t_6_mark_83 C qM r bM x1 x2 (11 : Int64) (gJ bM) h0)
      · refine A_lconst C (1 : Int64) dX6_mark_32 (by decide) ?_
        refine A_goto C 83 dX6_mark_33 (by decide) ?_
        exact A_loc [0, 1, 2] rfl (t_6_mark_83 C qM r bM x1 x2 (1 : Int64) (gJ bM) h0)
    · exact A_loc [] rfl (t_6_mark_20 C qM r bM h0)
def f_6_trace (bM : BV) : Option (Int64) :=
  some (gJ bM)
theorem c_6_trace (l : Launch) (D : va_G) (t : ty4) (qM : Nat → Nat) (bM : BV) {r : Int64} (h0 : f_6_trace bM = some r) : MetL l yX6_trace cX6_trace 1 (some .long) (rmD 0) D t [.ref (qM 99)] (wM t qM bM) (fun x w => r = x ∧ (wM t qM bM) = w) := by
  refine MetL_of (by decide +kernel) (Nat.le_of_ble_eq_true rfl) (fun p e s m below meth c C _ => ?_)
  unfold f_6_trace at h0
  generalize hargs : (List.toArray [.ref (qM 99)] : Array Value) = args at C ⊢
  refine At.start (lv2 := [(0, .ref (qM 99))]) rfl ?_
  refine A_aload_n C 0 dX6_trace_0 rfl rfl ?_
  refine A_get (v := .long (gJ bM)) C 0 15 inG6 (ci := 6) rfl (by decide) fl_6_206 rfl rfl rfl dX6_trace_1 ?_
  have h0 := Option.some.inj h0
  subst h0
  exact A_lret C dX6_trace_4 ⟨rfl, rfl⟩
def f_6_keep_69_b (k69 : BV → Int32 → Int32 → Option (Int32 × BV)) (bM : BV) (x2 : Int32) (x3 : Int32) : Option (Int32 × BV) :=
  if (150 : Int32) ≤ x3 then (ck (inb (0 : Int32) 15) (some ((gA bM 8 (0 : Int32)), bM))) else (ck (inb x3 150) (ck (inb ((x2 + (17 : Int32)) + x3) 334) (bs (pA bM 16 ((x2 + (17 : Int32)) + x3) (gA bM 9 x3)) (fun b1 => k69 b1 x2 (x3 + (1 : Int32))))))
theorem t_6_keep_69_b (C : CX p s m args meth c cX6_keep 4 (some .int) RX6 D t) (qM : Nat → Nat) (r : Int32 × BV) (k69 : BV → Int32 → Int32 → Option (Int32 × BV)) (K69 : ∀ (bM : BV) (x2 : Int32) (x3 : Int32), k69 bM x2 x3 = some r → At p l e (rmD 1) s m args below meth c D 4 w0 (QI below args s D w0 (fun x w => r.1 = x ∧ (wM t qM r.2) = w) 0 0) 0 0 69 [(0, .ref (qM 99)), (2, .int x2), (3, .int x3)] [] (wM t qM bM)) (bM : BV) (x2 : Int32) (x3 : Int32) (h0 : f_6_keep_69_b k69 bM x2 x3 = some r) : At p l e (rmD 1) s m args below meth c D 4 w0 (QI below args s D w0 (fun x w => r.1 = x ∧ (wM t qM r.2) = w) 0 0) 0 0 69 [(0, .ref (qM 99)), (2, .int x2), (3, .int x3)] [] (wM t qM bM) := by
  unfold f_6_keep_69_b at h0
  refine A_iload_n C 2 dX6_keep_69 rfl rfl ?_
  refine A_sipush C (150 : Int32) dX6_keep_70 (by decide) ?_
  refine A_icmp_ge C 99 dX6_keep_73 (by decide) h0 (fun h0 => ?_) (fun h0 => ?_)
  · refine A_aload_n C 0 dX6_keep_99 rfl rfl ?_
    refine A_get (v := .ref (qM 8)) C 0 8 inG6 (ci := 6) rfl (by decide) fl_6_19 rfl rfl rfl dX6_keep_100 ?_
    refine A_iconst C (0 : Int32) dX6_keep_103 (by decide) ?_
    refine A_iald C 4 (gA bM 8 (0 : Int32)) rfl rfl dX6_keep_104 h0 (fun h0 => ?_)
    have h0 := Option.some.inj h0
    subst h0
    exact A_iret C dX6_keep_105 ⟨rfl, rfl⟩
  · refine A_aload_n C 0 dX6_keep_76 rfl rfl ?_
    refine A_get (v := .ref (qM 16)) C 0 16 inG6 (ci := 6) rfl (by decide) fl_6_34 rfl rfl rfl dX6_keep_77 ?_
    refine A_iload_n C 1 dX6_keep_80 rfl rfl ?_
    refine A_bipush C (17 : Int32) dX6_keep_81 (by decide) ?_
    refine A_iadd C dX6_keep_83 ?_
    refine A_iload_n C 2 dX6_keep_84 rfl rfl ?_
    refine A_iadd C dX6_keep_85 ?_
    refine A_aload_n C 0 dX6_keep_86 rfl rfl ?_
    refine A_get (v := .ref (qM 9)) C 0 9 inG6 (ci := 6) rfl (by decide) fl_6_22 rfl rfl rfl dX6_keep_87 ?_
    refine A_iload_n C 2 dX6_keep_90 rfl rfl ?_
    refine A_iald C 5 (gA bM 9 x3) rfl rfl dX6_keep_91 h0 (fun h0 => ?_)
    refine A_iast C 9 (wM t qM (pA bM 16 ((x2 + (17 : Int32)) + x3) (gA bM 9 x3))) rfl rfl dX6_keep_92 h0 (fun h0 => ?_)
    obtain ⟨b1, hb1, h0⟩ := bs_some h0
    refine A_weq (wM t qM b1) (by rw [hb1]) ?_
    refine A_iinc C 2 (x3 + (1 : Int32)) [(3, .int (x3 + (1 : Int32))), (0, .ref (qM 99)), (2, .int x2)] dX6_keep_93 rfl rfl (by decide) rfl ?_
    refine A_goto C 69 dX6_keep_96 (by decide) ?_
    exact A_loc [1, 2, 0] rfl (K69 b1 x2 (x3 + (1 : Int32)) h0)
def f_6_keep_69 : Nat → BV → Int32 → Int32 → Option (Int32 × BV)
  | 0 => fun _ _ _ => none
  | n + 1 => f_6_keep_69_b (f_6_keep_69 n)
theorem t_6_keep_69 (C : CX p s m args meth c cX6_keep 4 (some .int) RX6 D t) (qM : Nat → Nat) (r : Int32 × BV) : ∀ (n : Nat), ∀ (bM : BV) (x2 : Int32) (x3 : Int32), f_6_keep_69 n bM x2 x3 = some r → At p l e (rmD 1) s m args below meth c D 4 w0 (QI below args s D w0 (fun x w => r.1 = x ∧ (wM t qM r.2) = w) 0 0) 0 0 69 [(0, .ref (qM 99)), (2, .int x2), (3, .int x3)] [] (wM t qM bM) := by
  intro n
  induction n with
  | zero =>
    intro bM x2 x3 h0
    have h0 : none = some r := h0
    cases h0
  | succ n ih =>
    intro bM x2 x3 h0
    exact t_6_keep_69_b C qM r _ ih bM x2 x3 h0
def f_6_keep_39_b (k39 : BV → Int32 → Int32 → Option (Int32 × BV)) (bM : BV) (x2 : Int32) (x3 : Int32) : Option (Int32 × BV) :=
  if (15 : Int32) ≤ x3 then (f_6_keep_69 200 bM x2 (0 : Int32)) else (ck (inb x3 15) (ck (inb ((x2 + (2 : Int32)) + x3) 334) (bs (pA bM 16 ((x2 + (2 : Int32)) + x3) (gA bM 8 x3)) (fun b2 => k39 b2 x2 (x3 + (1 : Int32))))))
theorem t_6_keep_39_b (C : CX p s m args meth c cX6_keep 4 (some .int) RX6 D t) (qM : Nat → Nat) (r : Int32 × BV) (k39 : BV → Int32 → Int32 → Option (Int32 × BV)) (K39 : ∀ (bM : BV) (x2 : Int32) (x3 : Int32), k39 bM x2 x3 = some r → At p l e (rmD 1) s m args below meth c D 4 w0 (QI below args s D w0 (fun x w => r.1 = x ∧ (wM t qM r.2) = w) 0 0) 0 0 39 [(0, .ref (qM 99)), (2, .int x2), (3, .int x3)] [] (wM t qM bM)) (bM : BV) (x2 : Int32) (x3 : Int32) (h0 : f_6_keep_39_b k39 bM x2 x3 = some r) : At p l e (rmD 1) s m args below meth c D 4 w0 (QI below args s D w0 (fun x w => r.1 = x ∧ (wM t qM r.2) = w) 0 0) 0 0 39 [(0, .ref (qM 99)), (2, .int x2), (3, .int x3)] [] (wM t qM bM) := by
  unfold f_6_keep_39_b at h0
  refine A_iload_n C 2 dX6_keep_39 rfl rfl ?_
  refine A_bipush C (15 : Int32) dX6_keep_40 (by decide) ?_
  refine A_icmp_ge C 67 dX6_keep_42 (by decide) h0 (fun h0 => ?_) (fun h0 => ?_)
  · refine A_iconst C (0 : Int32) dX6_keep_67 (by decide) ?_
    refine A_istore_n C [(3, .int (0 : Int32)), (0, .ref (qM 99)), (2, .int x2)] dX6_keep_68 rfl (by decide) rfl ?_
    exact A_loc [1, 2, 0] rfl (t_6_keep_69 C qM r 200 bM x2 (0 : Int32) h0)
  · refine A_aload_n C 0 dX6_keep_45 rfl rfl ?_
    refine A_get (v := .ref (qM 16)) C 0 16 inG6 (ci := 6) rfl (by decide) fl_6_34 rfl rfl rfl dX6_keep_46 ?_
    refine A_iload_n C 1 dX6_keep_49 rfl rfl ?_
    refine A_iconst C (2 : Int32) dX6_keep_50 (by decide) ?_
    refine A_iadd C dX6_keep_51 ?_
    refine A_iload_n C 2 dX6_keep_52 rfl rfl ?_
    refine A_iadd C dX6_keep_53 ?_
    refine A_aload_n C 0 dX6_keep_54 rfl rfl ?_
    refine A_get (v := .ref (qM 8)) C 0 8 inG6 (ci := 6) rfl (by decide) fl_6_19 rfl rfl rfl dX6_keep_55 ?_
    refine A_iload_n C 2 dX6_keep_58 rfl rfl ?_
    refine A_iald C 4 (gA bM 8 x3) rfl rfl dX6_keep_59 h0 (fun h0 => ?_)
    refine A_iast C 9 (wM t qM (pA bM 16 ((x2 + (2 : Int32)) + x3) (gA bM 8 x3))) rfl rfl dX6_keep_60 h0 (fun h0 => ?_)
    obtain ⟨b2, hb2, h0⟩ := bs_some h0
    refine A_weq (wM t qM b2) (by rw [hb2]) ?_
    refine A_iinc C 2 (x3 + (1 : Int32)) [(3, .int (x3 + (1 : Int32))), (0, .ref (qM 99)), (2, .int x2)] dX6_keep_61 rfl rfl (by decide) rfl ?_
    refine A_goto C 39 dX6_keep_64 (by decide) ?_
    exact A_loc [1, 2, 0] rfl (K39 b2 x2 (x3 + (1 : Int32)) h0)
def f_6_keep_39 : Nat → BV → Int32 → Int32 → Option (Int32 × BV)
  | 0 => fun _ _ _ => none
  | n + 1 => f_6_keep_39_b (f_6_keep_39 n)
theorem t_6_keep_39 (C : CX p s m args meth c cX6_keep 4 (some .int) RX6 D t) (qM : Nat → Nat) (r : Int32 × BV) : ∀ (n : Nat), ∀ (bM : BV) (x2 : Int32) (x3 : Int32), f_6_keep_39 n bM x2 x3 = some r → At p l e (rmD 1) s m args below meth c D 4 w0 (QI below args s D w0 (fun x w => r.1 = x ∧ (wM t qM r.2) = w) 0 0) 0 0 39 [(0, .ref (qM 99)), (2, .int x2), (3, .int x3)] [] (wM t qM bM) := by
  intro n
  induction n with
  | zero =>
    intro bM x2 x3 h0
    have h0 : none = some r := h0
    cases h0
  | succ n ih =>
    intro bM x2 x3 h0
    exact t_6_keep_39_b C qM r _ ih bM x2 x3 h0
def f_6_keep (bM : BV) (x1 : Int32) : Option (Int32 × BV) :=
  (f_6_in (x1).toInt64 (0 : Int64) (1 : Int64)).bind (fun z3 => if z3 = 0 then (some ((-1 : Int32), bM)) else (ck (inb ((167 : Int32) * x1) 334) (bs (pA bM 16 ((167 : Int32) * x1) (1 : Int32)) (fun b4 => ck (inb (((167 : Int32) * x1) + (1 : Int32)) 334) (bs (pA b4 16 (((167 : Int32) * x1) + (1 : Int32)) (gI b4 10)) (fun b5 => f_6_keep_39 200 b5 ((167 : Int32) * x1) (0 : Int32)))))))
theorem c_6_keep (l : Launch) (D : va_G) (t : ty4) (qM : Nat → Nat) (bM : BV) (x1 : Int32) {r : Int32 × BV} (h0 : f_6_keep bM x1 = some r) : MetI l yX6_keep cX6_keep 4 (some .int) (rmD 1) D t [.ref (qM 99), .int x1] (wM t qM bM) (fun x w => r.1 = x ∧ (wM t qM r.2) = w) := by
  refine MetI_of (by decide +kernel) (Nat.le_of_ble_eq_true rfl) (fun p e s m below meth c C _ => ?_)
  unfold f_6_keep at h0
  generalize hargs : (List.toArray [.ref (qM 99), .int x1] : Array Value) = args at C ⊢
  refine At.start (lv2 := [(0, .ref (qM 99)), (1, .int x1)]) rfl ?_
  refine A_iload_n C 1 dX6_keep_0 rfl rfl ?_
  refine A_i2l C dX6_keep_1 ?_
  refine A_lconst C (0 : Int64) dX6_keep_2 (by decide) ?_
  refine A_lconst C (1 : Int64) dX6_keep_3 (by decide) ?_
  obtain ⟨z3, hz3, h0⟩ := bind_some h0
  refine A_sI (As := [.long (x1).toInt64, .long (0 : Int64), .long (1 : Int64)]) (rest := []) C (c_6_in l D t (x1).toInt64 (0 : Int64) (1 : Int64) hz3) mw_6_in ml_6_45 st_6_in (rmok rfl rfl) (cutN (wM t qM bM)) rfl rfl (Nat.le_of_ble_eq_true rfl) dX6_keep_4 (fun x w1 hw1 => ?_)
  obtain ⟨rfl, rfl⟩ := hw1
  refine A_perm (ws' := (wM t qM bM)) ((cutN _).symm) ?_
  refine A_if_ne C 12 dX6_keep_7 (by decide) h0 (fun h0 => ?_) (fun h0 => ?_)
  · refine A_sipush C (167 : Int32) dX6_keep_12 (by decide) ?_
    refine A_iload_n C 1 dX6_keep_15 rfl rfl ?_
    refine A_imul C dX6_keep_16 ?_
    refine A_istore_n C [(2, .int ((167 : Int32) * x1)), (0, .ref (qM 99)), (1, .int x1)] dX6_keep_17 rfl (by decide) rfl ?_
    refine A_aload_n C 1 dX6_keep_18 rfl rfl ?_
    refine A_get (v := .ref (qM 16)) C 0 16 inG6 (ci := 6) rfl (by decide) fl_6_34 rfl rfl rfl dX6_keep_19 ?_
    refine A_iload_n C 0 dX6_keep_22 rfl rfl ?_
    refine A_iconst C (1 : Int32) dX6_keep_23 (by decide) ?_
    refine A_iast C 9 (wM t qM (pA bM 16 ((167 : Int32) * x1) (1 : Int32))) rfl rfl dX6_keep_24 h0 (fun h0 => ?_)
    obtain ⟨b4, hb4, h0⟩ := bs_some h0
    refine A_weq (wM t qM b4) (by rw [hb4]) ?_
    refine A_aload_n C 1 dX6_keep_25 rfl rfl ?_
    refine A_get (v := .ref (qM 16)) C 0 16 inG6 (ci := 6) rfl (by decide) fl_6_34 rfl rfl rfl dX6_keep_26 ?_
    refine A_iload_n C 0 dX6_keep_29 rfl rfl ?_
    refine A_iconst C (1 : Int32) dX6_keep_30 (by decide) ?_
    refine A_iadd C dX6_keep_31 ?_
    refine A_aload_n C 1 dX6_keep_32 rfl rfl ?_
    refine A_get (v := .int (gI b4 10)) C 0 10 inG6 (ci := 6) rfl (by decide) fl_6_113 rfl rfl rfl dX6_keep_33 ?_
    refine A_iast C 9 (wM t qM (pA b4 16 (((167 : Int32) * x1) + (1 : Int32)) (gI b4 10))) rfl rfl dX6_keep_36 h0 (fun h0 => ?_)
    obtain ⟨b5, hb5, h0⟩ := bs_some h0
    refine A_weq (wM t qM b5) (by rw [hb5]) ?_
    refine A_iconst C (0 : Int32) dX6_keep_37 (by decide) ?_
    refine A_istore_n C [(3, .int (0 : Int32)), (2, .int ((167 : Int32) * x1)), (0, .ref (qM 99)), (1, .int x1)] dX6_keep_38 rfl (by decide) rfl ?_
    exact A_loc [2, 1, 0] rfl (t_6_keep_39 C qM r 200 b5 ((167 : Int32) * x1) (0 : Int32) h0)
  · refine A_iconst C (-1 : Int32) dX6_keep_10 (by decide) ?_
    have h0 := Option.some.inj h0
    subst h0
    exact A_iret C dX6_keep_11 ⟨rfl, rfl⟩
def f_6_back_74_b (k74 : BV → Int32 → Int32 → Option (Int32 × BV)) (bM : BV) (x2 : Int32) (x3 : Int32) : Option (Int32 × BV) :=
  if (150 : Int32) ≤ x3 then (ck (inb (0 : Int32) 15) (some ((gA bM 8 (0 : Int32)), bM))) else (ck (inb ((x2 + (17 : Int32)) + x3) 334) (ck (inb x3 150) (bs (pA bM 9 x3 (gA bM 16 ((x2 + (17 : Int32)) + x3))) (fun b1 => k74 b1 x2 (x3 + (1 : Int32))))))
theorem t_6_back_74_b (C : CX p s m args meth c cX6_back 4 (some .int) RX6 D t) (qM : Nat → Nat) (r : Int32 × BV) (k74 : BV → Int32 → Int32 → Option (Int32 × BV)) (K74 : ∀ (bM : BV) (x2 : Int32) (x3 : Int32), k74 bM x2 x3 = some r → At p l e (rmD 1) s m args below meth c D 4 w0 (QI below args s D w0 (fun x w => r.1 = x ∧ (wM t qM r.2) = w) 0 0) 0 0 74 [(0, .ref (qM 99)), (2, .int x2), (3, .int x3)] [] (wM t qM bM)) (bM : BV) (x2 : Int32) (x3 : Int32) (h0 : f_6_back_74_b k74 bM x2 x3 = some r) : At p l e (rmD 1) s m args below meth c D 4 w0 (QI below args s D w0 (fun x w => r.1 = x ∧ (wM t qM r.2) = w) 0 0) 0 0 74 [(0, .ref (qM 99)), (2, .int x2), (3, .int x3)] [] (wM t qM bM) := by
  unfold f_6_back_74_b at h0
  refine A_iload_n C 2 dX6_back_74 rfl rfl ?_
  refine A_sipush C (150 : Int32) dX6_back_75 (by decide) ?_
  refine A_icmp_ge C 104 dX6_back_78 (by decide) h0 (fun h0 => ?_) (fun h0 => ?_)
  · refine A_aload_n C 0 dX6_back_104 rfl rfl ?_
    refine A_get (v := .ref (qM 8)) C 0 8 inG6 (ci := 6) rfl (by decide) fl_6_19 rfl rfl rfl dX6_back_105 ?_
    refine A_iconst C (0 : Int32) dX6_back_108 (by decide) ?_
    refine A_iald C 4 (gA bM 8 (0 : Int32)) rfl rfl dX6_back_109 h0 (fun h0 => ?_)
    have h0 := Option.some.inj h0
    subst h0
    exact A_iret C dX6_back_110 ⟨rfl, rfl⟩
  · refine A_aload_n C 0 dX6_back_81 rfl rfl ?_
    refine A_get (v := .ref (qM 9)) C 0 9 inG6 (ci := 6) rfl (by decide) fl_6_22 rfl rfl rfl dX6_back_82 ?_
    refine A_iload_n C 2 dX6_back_85 rfl rfl ?_
    refine A_aload_n C 0 dX6_back_86 rfl rfl ?_
    refine A_get (v := .ref (qM 16)) C 0 16 inG6 (ci := 6) rfl (by decide) fl_6_34 rfl rfl rfl dX6_back_87 ?_
    refine A_iload_n C 1 dX6_back_90 rfl rfl ?_
    refine A_bipush C (17 : Int32) dX6_back_91 (by decide) ?_
    refine A_iadd C dX6_back_93 ?_
    refine A_iload_n C 2 dX6_back_94 rfl rfl ?_
    refine A_iadd C dX6_back_95 ?_
    refine A_iald C 9 (gA bM 16 ((x2 + (17 : Int32)) + x3)) rfl rfl dX6_back_96 h0 (fun h0 => ?_)
    refine A_iast C 5 (wM t qM (pA bM 9 x3 (gA bM 16 ((x2 + (17 : Int32)) + x3)))) rfl rfl dX6_back_97 h0 (fun h0 => ?_)
    obtain ⟨b1, hb1, h0⟩ := bs_some h0
    refine A_weq (wM t qM b1) (by rw [hb1]) ?_
    refine A_iinc C 2 (x3 + (1 : Int32)) [(3, .int (x3 + (1 : Int32))), (0, .ref (qM 99)), (2, .int x2)] dX6_back_98 rfl rfl (by decide) rfl ?_
    refine A_goto C 74 dX6_back_101 (by decide) ?_
    exact A_loc [1, 2, 0] rfl (K74 b1 x2 (x3 + (1 : Int32)) h0)
def f_6_back_74 : Nat → BV → Int32 → Int32 → Option (Int32 × BV)
  | 0 => fun _ _ _ => none
  | n + 1 => f_6_back_74_b (f_6_back_74 n)
theorem t_6_back_74 (C : CX p s m args meth c cX6_back 4 (some .int) RX6 D t) (qM : Nat → Nat) (r : Int32 × BV) : ∀ (n : Nat), ∀ (bM : BV) (x2 : Int32) (x3 : Int32), f_6_back_74 n bM x2 x3 = some r → At p l e (rmD 1) s m args below meth c D 4 w0 (QI below args s D w0 (fun x w => r.1 = x ∧ (wM t qM r.2) = w) 0 0) 0 0 74 [(0, .ref (qM 99)), (2, .int x2), (3, .int x3)] [] (wM t qM bM) := by
  intro n
  induction n with
  | zero =>
    intro bM x2 x3 h0
    have h0 : none = some r := h0
    cases h0
  | succ n ih =>
    intro bM x2 x3 h0
    exact t_6_back_74_b C qM r _ ih bM x2 x3 h0
def f_6_back_44_b (k44 : BV → Int32 → Int32 → Option (Int32 × BV)) (bM : BV) (x2 : Int32) (x3 : Int32) : Option (Int32 × BV) :=
  if (15 : Int32) ≤ x3 then (f_6_back_74 200 bM x2 (0 : Int32)) else (ck (inb ((x2 + (2 : Int32)) + x3) 334) (ck (inb x3 15) (bs (pA bM 8 x3 (gA bM 16 ((x2 + (2 : Int32)) + x3))) (fun b2 => k44 b2 x2 (x3 + (1 : Int32))))))
theorem t_6_back_44_b (C : CX p s m args meth c cX6_back 4 (some .int) RX6 D t) (qM : Nat → Nat) (r : Int32 × BV) (k44 : BV → Int32 → Int32 → Option (Int32 × BV)) (K44 : ∀ (bM : BV) (x2 : Int32) (x3 : Int32), k44 bM x2 x3 = some r → At p l e (rmD 1) s m args below meth c D 4 w0 (QI below args s D w0 (fun x w => r.1 = x ∧ (wM t qM r.2) = w) 0 0) 0 0 44 [(0, .ref (qM 99)), (2, .int x2), (3, .int x3)] [] (wM t qM bM)) (bM : BV) (x2 : Int32) (x3 : Int32) (h0 : f_6_back_44_b k44 bM x2 x3 = some r) : At p l e (rmD 1) s m args below meth c D 4 w0 (QI below args s D w0 (fun x w => r.1 = x ∧ (wM t qM r.2) = w) 0 0) 0 0 44 [(0, .ref (qM 99)), (2, .int x2), (3, .int x3)] [] (wM t qM bM) := by
  unfold f_6_back_44_b at h0
  refine A_iload_n C 2 dX6_back_44 rfl rfl ?_
  refine A_bipush C (15 : Int32) dX6_back_45 (by decide) ?_
  refine A_icmp_ge C 72 dX6_back_47 (by decide) h0 (fun h0 => ?_) (fun h0 => ?_)
  · refine A_iconst C (0 : Int32) dX6_back_72 (by decide) ?_
    refine A_istore_n C [(3, .int (0 : Int32)), (0, .ref (qM 99)), (2, .int x2)] dX6_back_73 rfl (by decide) rfl ?_
    exact A_loc [1, 2, 0] rfl (t_6_back_74 C qM r 200 bM x2 (0 : Int32) h0)
  · refine A_aload_n C 0 dX6_back_50 rfl rfl ?_
    refine A_get (v := .ref (qM 8)) C 0 8 inG6 (ci := 6) rfl (by decide) fl_6_19 rfl rfl rfl dX6_back_51 ?_
    refine A_iload_n C 2 dX6_back_54 rfl rfl ?_
    refine A_aload_n C 0 dX6_back_55 rfl rfl ?_
    refine A_get (v := .ref (qM 16)) C 0 16 inG6 (ci := 6) rfl (by decide) fl_6_34 rfl rfl rfl dX6_back_56 ?_
    refine A_iload_n C 1 dX6_back_59 rfl rfl ?_
    refine A_iconst C (2 : Int32) dX6_back_60 (by decide) ?_
    refine A_iadd C dX6_back_61 ?_
    refine A_iload_n C 2 dX6_back_62 rfl rfl ?_
    refine A_iadd C dX6_back_63 ?_
    refine A_iald C 9 (gA bM 16 ((x2 + (2 : Int32)) + x3)) rfl rfl dX6_back_64 h0 (fun h0 => ?_)
    refine A_iast C 4 (wM t qM (pA bM 8 x3 (gA bM 16 ((x2 + (2 : Int32)) + x3)))) rfl rfl dX6_back_65 h0 (fun h0 => ?_)
    obtain ⟨b2, hb2, h0⟩ := bs_some h0
    refine A_weq (wM t qM b2) (by rw [hb2]) ?_
    refine A_iinc C 2 (x3 + (1 : Int32)) [(3, .int (x3 + (1 : Int32))), (0, .ref (qM 99)), (2, .int x2)] dX6_back_66 rfl rfl (by decide) rfl ?_
    refine A_goto C 44 dX6_back_69 (by decide) ?_
    exact A_loc [1, 2, 0] rfl (K44 b2 x2 (x3 + (1 : Int32)) h0)
def f_6_back_44 : Nat → BV → Int32 → Int32 → Option (Int32 × BV)
  | 0 => fun _ _ _ => none
  | n + 1 => f_6_back_44_b (f_6_back_44 n)
theorem t_6_back_44 (C : CX p s m args meth c cX6_back 4 (some .int) RX6 D t) (qM : Nat → Nat) (r : Int32 × BV) : ∀ (n : Nat), ∀ (bM : BV) (x2 : Int32) (x3 : Int32), f_6_back_44 n bM x2 x3 = some r → At p l e (rmD 1) s m args below meth c D 4 w0 (QI below args s D w0 (fun x w => r.1 = x ∧ (wM t qM r.2) = w) 0 0) 0 0 44 [(0, .ref (qM 99)), (2, .int x2), (3, .int x3)] [] (wM t qM bM) := by
  intro n
  induction n with
  | zero =>
    intro bM x2 x3 h0
    have h0 : none = some r := h0
    cases h0
  | succ n ih =>
    intro bM x2 x3 h0
    exact t_6_back_44_b C qM r _ ih bM x2 x3 h0
def f_6_back (bM : BV) (x1 : Int32) : Option (Int32 × BV) :=
  (f_6_in (x1).toInt64 (0 : Int64) (1 : Int64)).bind (fun z3 => if z3 = 0 then (some ((-1 : Int32), bM)) else (ck (inb ((167 : Int32) * x1) 334) (if (gA bM 16 ((167 : Int32) * x1)) = 0 then (some ((-2 : Int32), bM)) else (ck (inb (((167 : Int32) * x1) + (1 : Int32)) 334) (f_6_back_44 200 (pI bM 10 (gA bM 16 (((167 : Int32) * x1) + (1 : Int32)))) ((167 : Int32) * x1) (0 : Int32))))))
theorem c_6_back (l : Launch) (D : va_G) (t : ty4) (qM : Nat → Nat) (bM : BV) (x1 : Int32) {r : Int32 × BV} (h0 : f_6_back bM x1 = some r) : MetI l yX6_back cX6_back 4 (some .int) (rmD 1) D t [.ref (qM 99), .int x1] (wM t qM bM) (fun x w => r.1 = x ∧ (wM t qM r.2) = w) := by
  refine MetI_of (by decide +kernel) (Nat.le_of_ble_eq_true rfl) (fun p e s m below meth c C _ => ?_)
  unfold f_6_back at h0
  generalize hargs : (List.toArray [.ref (qM 99), .int x1] : Array Value) = args at C ⊢
  refine At.start (lv2 := [(0, .ref (qM 99)), (1, .int x1)]) rfl ?_
  refine A_iload_n C 1 dX6_back_0 rfl rfl ?_
  refine A_i2l C dX6_back_1 ?_
  refine A_lconst C (0 : Int64) dX6_back_2 (by decide) ?_
  refine A_lconst C (1 : Int64) dX6_back_3 (by decide) ?_
  obtain ⟨z3, hz3, h0⟩ := bind_some h0
  refine A_sI (As := [.long (x1).toInt64, .long (0 : Int64), .long (1 : Int64)]) (rest := []) C (c_6_in l D t (x1).toInt64 (0 : Int64) (1 : Int64) hz3) mw_6_in ml_6_45 st_6_in (rmok rfl rfl) (cutN (wM t qM bM)) rfl rfl (Nat.le_of_ble_eq_true rfl) dX6_back_4 (fun x w1 hw1 => ?_)
  obtain ⟨rfl, rfl⟩ := hw1
  refine A_perm (ws' := (wM t qM bM)) ((cutN _).symm) ?_
  refine A_if_ne C 12 dX6_back_7 (by decide) h0 (fun h0 => ?_) (fun h0 => ?_)
  · refine A_sipush C (167 : Int32) dX6_back_12 (by decide) ?_
    refine A_iload_n C 1 dX6_back_15 rfl rfl ?_
    refine A_imul C dX6_back_16 ?_
    refine A_istore_n C [(2, .int ((167 : Int32) * x1)), (0, .ref (qM 99)), (1, .int x1)] dX6_back_17 rfl (by decide) rfl ?_
    refine A_aload_n C 1 dX6_back_18 rfl rfl ?_
    refine A_get (v := .ref (qM 16)) C 0 16 inG6 (ci := 6) rfl (by decide) fl_6_34 rfl rfl rfl dX6_back_19 ?_
    refine A_iload_n C 0 dX6_back_22 rfl rfl ?_
    refine A_iald C 9 (gA bM 16 ((167 : Int32) * x1)) rfl rfl dX6_back_23 h0 (fun h0 => ?_)
    refine A_if_ne C 30 dX6_back_24 (by decide) h0 (fun h0 => ?_) (fun h0 => ?_)
    · refine A_aload_n C 1 dX6_back_30 rfl rfl ?_
      refine A_aload_n C 1 dX6_back_31 rfl rfl ?_
      refine A_get (v := .ref (qM 16)) C 0 16 inG6 (ci := 6) rfl (by decide) fl_6_34 rfl rfl rfl dX6_back_32 ?_
      refine A_iload_n C 0 dX6_back_35 rfl rfl ?_
      refine A_iconst C (1 : Int32) dX6_back_36 (by decide) ?_
      refine A_iadd C dX6_back_37 ?_
      refine A_iald C 9 (gA bM 16 (((167 : Int32) * x1) + (1 : Int32))) rfl rfl dX6_back_38 h0 (fun h0 => ?_)
      refine A_put C 0 10 (wM t qM (pI bM 10 (gA bM 16 (((167 : Int32) * x1) + (1 : Int32))))) tyX6 inG6 tyX6_ok nmX6 (ci := 6) rfl (by decide) fl_6_113 rfl rfl rfl rfl rfl (Nat.le_of_ble_eq_true rfl) rfl dX6_back_39 ?_
      refine A_iconst C (0 : Int32) dX6_back_42 (by decide) ?_
      refine A_istore_n C [(3, .int (0 : Int32)), (2, .int ((167 : Int32) * x1)), (0, .ref (qM 99)), (1, .int x1)] dX6_back_43 rfl (by decide) rfl ?_
      exact A_loc [2, 1, 0] rfl (t_6_back_44 C qM r 200 (pI bM 10 (gA bM 16 (((167 : Int32) * x1) + (1 : Int32)))) ((167 : Int32) * x1) (0 : Int32) h0)
    · refine A_bipush C (-2 : Int32) dX6_back_27 (by decide) ?_
      have h0 := Option.some.inj h0
      subst h0
      exact A_iret C dX6_back_29 ⟨rfl, rfl⟩
  · refine A_iconst C (-1 : Int32) dX6_back_10 (by decide) ?_
    have h0 := Option.some.inj h0
    subst h0
    exact A_iret C dX6_back_11 ⟨rfl, rfl⟩
def f_6_count (bM : BV) (x1 : Int32) : Option (Int32) :=
  if x1 = (0 : Int32) then (ck (inb x1 79) (some (gA bM 7 x1))) else (if x1 = (1 : Int32) then (ck (inb x1 79) (some (gA bM 7 x1))) else (if x1 = (2 : Int32) then (ck (inb x1 79) (some (gA bM 7 x1))) else (if x1 = (3 : Int32) then (ck (inb x1 79) (some (gA bM 7 x1))) else (if x1 = (4 : Int32) then (ck (inb x1 79) (some (gA bM 7 x1))) else (if x1 = (5 : Int32) then (ck (inb x1 79) (some (gA bM 7 x1))) else (if x1 = (6 : Int32) then (some (gI bM 12)) else (if x1 = (7 : Int32) then (some (gI bM 10)) else (if x1 = (8 : Int32) then (some (gI bM 1)) else (some (-1 : Int32))))))))))
theorem c_6_count (l : Launch) (D : va_G) (t : ty4) (qM : Nat → Nat) (bM : BV) (x1 : Int32) {r : Int32} (h0 : f_6_count bM x1 = some r) : MetI l yX6_count cX6_count 2 (some .int) (rmD 0) D t [.ref (qM 99), .int x1] (wM t qM bM) (fun x w => r = x ∧ (wM t qM bM) = w) := by
  refine MetI_of (by decide +kernel) (Nat.le_of_ble_eq_true rfl) (fun p e s m below meth c C _ => ?_)
  unfold f_6_count at h0
  generalize hargs : (List.toArray [.ref (qM 99), .int x1] : Array Value) = args at C ⊢
  refine At.start (lv2 := [(0, .ref (qM 99)), (1, .int x1)]) rfl ?_
  refine A_iload_n C 1 dX6_count_0 rfl rfl ?_
  refine sw_split h0 (fun hx h0 => ?_) (fun hn0 h0 => ?_)
  · refine A_tabIn C 52 dX6_count_1 (by rw [hx]; decide) (by rw [hx]; decide) (by rw [hx]; rfl) (by decide) ?_
    refine A_aload_n C 0 dX6_count_52 rfl rfl ?_
    refine A_get (v := .ref (qM 7)) C 0 7 inG6 (ci := 6) rfl (by decide) fl_6_16 rfl rfl rfl dX6_count_53 ?_
    refine A_iload_n C 1 dX6_count_56 rfl rfl ?_
    refine A_iald C 3 (gA bM 7 x1) rfl rfl dX6_count_57 h0 (fun h0 => ?_)
    have h0 := Option.some.inj h0
    subst h0
    exact A_iret C dX6_count_58 ⟨rfl, rfl⟩
  ·
    refine sw_split h0 (fun hx h0 => ?_) (fun hn1 h0 => ?_)
    · refine A_tabIn C 52 dX6_count_1 (by rw [hx]; decide) (by rw [hx]; decide) (by rw [hx]; rfl) (by decide) ?_
      refine A_aload_n C 0 dX6_count_52 rfl rfl ?_
      refine A_get (v := .ref (qM 7)) C 0 7 inG6 (ci := 6) rfl (by decide) fl_6_16 rfl rfl rfl dX6_count_53 ?_
      refine A_iload_n C 1 dX6_count_56 rfl rfl ?_
      refine A_iald C 3 (gA bM 7 x1) rfl rfl dX6_count_57 h0 (fun h0 => ?_)
      have h0 := Option.some.inj h0
      subst h0
      exact A_iret C dX6_count_58 ⟨rfl, rfl⟩
    ·
      refine sw_split h0 (fun hx h0 => ?_) (fun hn2 h0 => ?_)
      · refine A_tabIn C 52 dX6_count_1 (by rw [hx]; decide) (by rw [hx]; decide) (by rw [hx]; rfl) (by decide) ?_
        refine A_aload_n C 0 dX6_count_52 rfl rfl ?_
        refine A_get (v := .ref (qM 7)) C 0 7 inG6 (ci := 6) rfl (by decide) fl_6_16 rfl rfl rfl dX6_count_53 ?_
        refine A_iload_n C 1 dX6_count_56 rfl rfl ?_
        refine A_iald C 3 (gA bM 7 x1) rfl rfl dX6_count_57 h0 (fun h0 => ?_)
        have h0 := Option.some.inj h0
        subst h0
        exact A_iret C dX6_count_58 ⟨rfl, rfl⟩
      ·
        refine sw_split h0 (fun hx h0 => ?_) (fun hn3 h0 => ?_)
        · refine A_tabIn C 52 dX6_count_1 (by rw [hx]; decide) (by rw [hx]; decide) (by rw [hx]; rfl) (by decide) ?_
          refine A_aload_n C 0 dX6_count_52 rfl rfl ?_
          refine A_get (v := .ref (qM 7)) C 0 7 inG6 (ci := 6) rfl (by decide) fl_6_16 rfl rfl rfl dX6_count_53 ?_
          refine A_iload_n C 1 dX6_count_56 rfl rfl ?_
          refine A_iald C 3 (gA bM 7 x1) rfl rfl dX6_count_57 h0 (fun h0 => ?_)
          have h0 := Option.some.inj h0
          subst h0
          exact A_iret C dX6_count_58 ⟨rfl, rfl⟩
        ·
          refine sw_split h0 (fun hx h0 => ?_) (fun hn4 h0 => ?_)
          · refine A_tabIn C 52 dX6_count_1 (by rw [hx]; decide) (by rw [hx]; decide) (by rw [hx]; rfl) (by decide) ?_
            refine A_aload_n C 0 dX6_count_52 rfl rfl ?_
            refine A_get (v := .ref (qM 7)) C 0 7 inG6 (ci := 6) rfl (by decide) fl_6_16 rfl rfl rfl dX6_count_53 ?_
            refine A_iload_n C 1 dX6_count_56 rfl rfl ?_
            refine A_iald C 3 (gA bM 7 x1) rfl rfl dX6_count_57 h0 (fun h0 => ?_)
            have h0 := Option.some.inj h0
            subst h0
            exact A_iret C dX6_count_58 ⟨rfl, rfl⟩
          ·
            refine sw_split h0 (fun hx h0 => ?_) (fun hn5 h0 => ?_)
            · refine A_tabIn C 52 dX6_count_1 (by rw [hx]; decide) (by rw [hx]; decide) (by rw [hx]; rfl) (by decide) ?_
              refine A_aload_n C 0 dX6_count_52 rfl rfl ?_
              refine A_get (v := .ref (qM 7)) C 0 7 inG6 (ci := 6) rfl (by decide) fl_6_16 rfl rfl rfl dX6_count_53 ?_
              refine A_iload_n C 1 dX6_count_56 rfl rfl ?_
              refine A_iald C 3 (gA bM 7 x1) rfl rfl dX6_count_57 h0 (fun h0 => ?_)
              have h0 := Option.some.inj h0
              subst h0
              exact A_iret C dX6_count_58 ⟨rfl, rfl⟩
            ·
              refine sw_split h0 (fun hx h0 => ?_) (fun hn6 h0 => ?_)
              · refine A_tabIn C 59 dX6_count_1 (by rw [hx]; decide) (by rw [hx]; decide) (by rw [hx]; rfl) (by decide) ?_
                refine A_aload_n C 0 dX6_count_59 rfl rfl ?_
                refine A_get (v := .int (gI bM 12)) C 0 12 inG6 (ci := 6) rfl (by decide) fl_6_110 rfl rfl rfl dX6_count_60 ?_
                have h0 := Option.some.inj h0
                subst h0
                exact A_iret C dX6_count_63 ⟨rfl, rfl⟩
              ·
                refine sw_split h0 (fun hx h0 => ?_) (fun hn7 h0 => ?_)
                · refine A_tabIn C 64 dX6_count_1 (by rw [hx]; decide) (by rw [hx]; decide) (by rw [hx]; rfl) (by decide) ?_
                  refine A_aload_n C 0 dX6_count_64 rfl rfl ?_
                  refine A_get (v := .int (gI bM 10)) C 0 10 inG6 (ci := 6) rfl (by decide) fl_6_113 rfl rfl rfl dX6_count_65 ?_
                  have h0 := Option.some.inj h0
                  subst h0
                  exact A_iret C dX6_count_68 ⟨rfl, rfl⟩
                ·
                  refine sw_split h0 (fun hx h0 => ?_) (fun hn8 h0 => ?_)
                  · refine A_tabIn C 69 dX6_count_1 (by rw [hx]; decide) (by rw [hx]; decide) (by rw [hx]; rfl) (by decide) ?_
                    refine A_aload_n C 0 dX6_count_69 rfl rfl ?_
                    refine A_get (v := .int (gI bM 1)) C 0 1 inG6 (ci := 6) rfl (by decide) fl_6_49 rfl rfl rfl dX6_count_70 ?_
                    have h0 := Option.some.inj h0
                    subst h0
                    exact A_iret C dX6_count_73 ⟨rfl, rfl⟩
                  ·
                    have hn0 := lv_neT hn0 (k := (0 : Int32)) (a := 0) (by decide)
                    have hn1 := lv_neT hn1 (k := (1 : Int32)) (a := 1) (by decide)
                    have hn2 := lv_neT hn2 (k := (2 : Int32)) (a := 2) (by decide)
                    have hn3 := lv_neT hn3 (k := (3 : Int32)) (a := 3) (by decide)
                    have hn4 := lv_neT hn4 (k := (4 : Int32)) (a := 4) (by decide)
                    have hn5 := lv_neT hn5 (k := (5 : Int32)) (a := 5) (by decide)
                    have hn6 := lv_neT hn6 (k := (6 : Int32)) (a := 6) (by decide)
                    have hn7 := lv_neT hn7 (k := (7 : Int32)) (a := 7) (by decide)
                    have hn8 := lv_neT hn8 (k := (8 : Int32)) (a := 8) (by decide)
                    refine A_tabOut C 74 dX6_count_1 (by omega) (by decide) ?_
                    refine A_iconst C (-1 : Int32) dX6_count_74 (by decide) ?_
                    have h0 := Option.some.inj h0
                    subst h0
                    exact A_iret C dX6_count_75 ⟨rfl, rfl⟩
def f_6_valley_15_b (k15 : BV → Int32 → Option (Int32 × BV)) (bM : BV) (x1 : Int32) : Option (Int32 × BV) :=
  if (gI bM 4) = 0 then ((f_6_takes (pI bM 1 (0 : Int32))).bind (fun z1 => some (x1, z1))) else ((f_6_readItem bM).bind (fun z2 => if z2.1 = 0 then (some (((-10 : Int32) - (gI z2.2 3)), z2.2)) else ((f_6_reads z2.2).bind (fun z3 => k15 z3 (x1 + (1 : Int32))))))
theorem t_6_valley_15_b (C : CX p s m args meth c cX6_valley 2 (some .int) RX6 D t) (qM : Nat → Nat) (r : Int32 × BV) (k15 : BV → Int32 → Option (Int32 × BV)) (K15 : ∀ (bM : BV) (x1 : Int32), k15 bM x1 = some r → At p l e (rmD 7) s m args below meth c D 2 w0 (QI below args s D w0 (fun x w => r.1 = x ∧ (wM t qM r.2) = w) 0 0) 0 0 15 [(0, .ref (qM 99)), (1, .int x1)] [] (wM t qM bM)) (bM : BV) (x1 : Int32) (h0 : f_6_valley_15_b k15 bM x1 = some r) : At p l e (rmD 7) s m args below meth c D 2 w0 (QI below args s D w0 (fun x w => r.1 = x ∧ (wM t qM r.2) = w) 0 0) 0 0 15 [(0, .ref (qM 99)), (1, .int x1)] [] (wM t qM bM) := by
  unfold f_6_valley_15_b at h0
  refine A_aload_n C 0 dX6_valley_15 rfl rfl ?_
  refine A_get (v := .int (gI bM 4)) C 0 4 inG6 (ci := 6) rfl (by decide) fl_6_74 rfl rfl rfl dX6_valley_16 ?_
  refine A_if_eq C 47 dX6_valley_19 (by decide) h0 (fun h0 => ?_) (fun h0 => ?_)
  · refine A_aload_n C 0 dX6_valley_47 rfl rfl ?_
    refine A_iconst C (0 : Int32) dX6_valley_48 (by decide) ?_
    refine A_put C 0 1 (wM t qM (pI bM 1 (0 : Int32))) tyX6 inG6 tyX6_ok nmX6 (ci := 6) rfl (by decide) fl_6_49 rfl rfl rfl rfl rfl (Nat.le_of_ble_eq_true rfl) rfl dX6_valley_49 ?_
    refine A_aload_n C 0 dX6_valley_52 rfl rfl ?_
    obtain ⟨z1, hz1, h0⟩ := bind_some h0
    refine A_vV (As := []) (rest := []) C 0 (c_6_takes l D t qM (pI bM 1 (0 : Int32)) hz1) mw_6_takes ml_6_40 im_6_takes sl_6_takes (rmok rfl rfl) (cut0 (wM t qM (pI bM 1 (0 : Int32)))) rfl (ci := 6) rfl rfl rfl (Nat.le_of_ble_eq_true rfl) dX6_valley_53 (fun w1 hw1 => ?_)
    subst hw1
    refine A_perm (ws' := (wM t qM z1)) ((cut0 _).symm) ?_
    refine A_iload_n C 1 dX6_valley_56 rfl rfl ?_
    have h0 := Option.some.inj h0
    subst h0
    exact A_iret C dX6_valley_57 ⟨rfl, rfl⟩
  · refine A_aload_n C 0 dX6_valley_22 rfl rfl ?_
    obtain ⟨z2, hz2, h0⟩ := bind_some h0
    refine A_vI (As := []) (rest := []) C 0 (c_6_readItem l D t qM bM hz2) mw_6_readItem ml_6_107 im_6_readItem sl_6_readItem (rmok rfl rfl) (cut0 (wM t qM bM)) rfl (ci := 6) rfl rfl rfl (Nat.le_of_ble_eq_true rfl) dX6_valley_23 (fun x w1 hw1 => ?_)
    obtain ⟨rfl, rfl⟩ := hw1
    refine A_perm (ws' := (wM t qM z2.2)) ((cut0 _).symm) ?_
    refine A_if_ne C 37 dX6_valley_26 (by decide) h0 (fun h0 => ?_) (fun h0 => ?_)
    · refine A_iinc C 1 (x1 + (1 : Int32)) [(1, .int (x1 + (1 : Int32))), (0, .ref (qM 99))] dX6_valley_37 rfl rfl (by decide) rfl ?_
      refine A_aload_n C 1 dX6_valley_40 rfl rfl ?_
      obtain ⟨z3, hz3, h0⟩ := bind_some h0
      refine A_vV (As := []) (rest := []) C 0 (c_6_reads l D t qM z2.2 hz3) mw_6_reads ml_6_86 im_6_reads sl_6_reads (rmok rfl rfl) (cut0 (wM t qM z2.2)) rfl (ci := 6) rfl rfl rfl (Nat.le_of_ble_eq_true rfl) dX6_valley_41 (fun w1 hw1 => ?_)
      subst hw1
      refine A_perm (ws' := (wM t qM z3)) ((cut0 _).symm) ?_
      refine A_goto C 15 dX6_valley_44 (by decide) ?_
      exact A_loc [1, 0] rfl (K15 z3 (x1 + (1 : Int32)) h0)
    · refine A_bipush C (-10 : Int32) dX6_valley_29 (by decide) ?_
      refine A_aload_n C 0 dX6_valley_31 rfl rfl ?_
      refine A_get (v := .int (gI z2.2 3)) C 0 3 inG6 (ci := 6) rfl (by decide) fl_6_71 rfl rfl rfl dX6_valley_32 ?_
      refine A_isub C dX6_valley_35 ?_
      have h0 := Option.some.inj h0
      subst h0
      exact A_iret C dX6_valley_36 ⟨rfl, rfl⟩
def f_6_valley_15 : Nat → BV → Int32 → Option (Int32 × BV)
  | 0 => fun _ _ => none
  | n + 1 => f_6_valley_15_b (f_6_valley_15 n)
theorem t_6_valley_15 (C : CX p s m args meth c cX6_valley 2 (some .int) RX6 D t) (qM : Nat → Nat) (r : Int32 × BV) : ∀ (n : Nat), ∀ (bM : BV) (x1 : Int32), f_6_valley_15 n bM x1 = some r → At p l e (rmD 7) s m args below meth c D 2 w0 (QI below args s D w0 (fun x w => r.1 = x ∧ (wM t qM r.2) = w) 0 0) 0 0 15 [(0, .ref (qM 99)), (1, .int x1)] [] (wM t qM bM) := by
  intro n
  induction n with
  | zero =>
    intro bM x1 h0
    have h0 : none = some r := h0
    cases h0
  | succ n ih =>
    intro bM x1 h0
    exact t_6_valley_15_b C qM r _ ih bM x1 h0
def f_6_valley (bM : BV) : Option (Int32 × BV) :=
  (f_6_plain bM).bind (fun z4 => (f_6_reads (pI z4 2 (0 : Int32))).bind (fun z5 => f_6_valley_15 200 z5 (0 : Int32)))
theorem c_6_valley (l : Launch) (D : va_G) (t : ty4) (qM : Nat → Nat) (bM : BV) {r : Int32 × BV} (h0 : f_6_valley bM = some r) : MetI l yX6_valley cX6_valley 2 (some .int) (rmD 7) D t [.ref (qM 99)] (wM t qM bM) (fun x w => r.1 = x ∧ (wM t qM r.2) = w) := by
  refine MetI_of (by decide +kernel) (Nat.le_of_ble_eq_true rfl) (fun p e s m below meth c C _ => ?_)
  unfold f_6_valley at h0
  generalize hargs : (List.toArray [.ref (qM 99)] : Array Value) = args at C ⊢
  refine At.start (lv2 := [(0, .ref (qM 99))]) rfl ?_
  refine A_aload_n C 0 dX6_valley_0 rfl rfl ?_
  obtain ⟨z4, hz4, h0⟩ := bind_some h0
  refine A_vV (As := []) (rest := []) C 0 (c_6_plain l D t qM bM hz4) mw_6_plain ml_6_37 im_6_plain sl_6_plain (rmok rfl rfl) (cut0 (wM t qM bM)) rfl (ci := 6) rfl rfl rfl (Nat.le_of_ble_eq_true rfl) dX6_valley_1 (fun w1 hw1 => ?_)
  subst hw1
  refine A_perm (ws' := (wM t qM z4)) ((cut0 _).symm) ?_
  refine A_aload_n C 0 dX6_valley_4 rfl rfl ?_
  refine A_iconst C (0 : Int32) dX6_valley_5 (by decide) ?_
  refine A_put C 0 2 (wM t qM (pI z4 2 (0 : Int32))) tyX6 inG6 tyX6_ok nmX6 (ci := 6) rfl (by decide) fl_6_61 rfl rfl rfl rfl rfl (Nat.le_of_ble_eq_true rfl) rfl dX6_valley_6 ?_
  refine A_iconst C (0 : Int32) dX6_valley_9 (by decide) ?_
  refine A_istore_n C [(1, .int (0 : Int32)), (0, .ref (qM 99))] dX6_valley_10 rfl (by decide) rfl ?_
  refine A_aload_n C 1 dX6_valley_11 rfl rfl ?_
  obtain ⟨z5, hz5, h0⟩ := bind_some h0
  refine A_vV (As := []) (rest := []) C 0 (c_6_reads l D t qM (pI z4 2 (0 : Int32)) hz5) mw_6_reads ml_6_86 im_6_reads sl_6_reads (rmok rfl rfl) (cut0 (wM t qM (pI z4 2 (0 : Int32)))) rfl (ci := 6) rfl rfl rfl (Nat.le_of_ble_eq_true rfl) dX6_valley_12 (fun w1 hw1 => ?_)
  subst hw1
  refine A_perm (ws' := (wM t qM z5)) ((cut0 _).symm) ?_
  exact A_loc [1, 0] rfl (t_6_valley_15 C qM r 200 z5 (0 : Int32) h0)
def f_6_goesBy_39 (k21 : BV → Int32 → Int32 → Option (Int32 × BV)) (bM : BV) (x1 : Int32) (x2 : Int32) : Option (Int32 × BV) :=
  k21 bM x1 (x2 + (1 : Int32))
theorem t_6_goesBy_39 (C : CX p s m args meth c cX6_goesBy 3 (some .int) RX6 D t) (qM : Nat → Nat) (r : Int32 × BV) (k21 : BV → Int32 → Int32 → Option (Int32 × BV)) (K21 : ∀ (bM : BV) (x1 : Int32) (x2 : Int32), k21 bM x1 x2 = some r → At p l e (rmD 4) s m args below meth c D 3 w0 (QI below args s D w0 (fun x w => r.1 = x ∧ (wM t qM r.2) = w) 0 0) 0 0 21 [(0, .ref (qM 99)), (1, .int x1), (2, .int x2)] [] (wM t qM bM)) (bM : BV) (x1 : Int32) (x2 : Int32) (h0 : f_6_goesBy_39 k21 bM x1 x2 = some r) : At p l e (rmD 4) s m args below meth c D 3 w0 (QI below args s D w0 (fun x w => r.1 = x ∧ (wM t qM r.2) = w) 0 0) 0 0 39 [(0, .ref (qM 99)), (1, .int x1), (2, .int x2)] [] (wM t qM bM) := by
  unfold f_6_goesBy_39 at h0
  refine A_iinc C 2 (x2 + (1 : Int32)) [(2, .int (x2 + (1 : Int32))), (0, .ref (qM 99)), (1, .int x1)] dX6_goesBy_39 rfl rfl (by decide) rfl ?_
  refine A_goto C 21 dX6_goesBy_42 (by decide) ?_
  exact A_loc [1, 2, 0] rfl (K21 bM x1 (x2 + (1 : Int32)) h0)
def f_6_goesBy_21_b (k21 : BV → Int32 → Int32 → Option (Int32 × BV)) (bM : BV) (x1 : Int32) (x2 : Int32) : Option (Int32 × BV) :=
  if (4 : Int32) ≤ x2 then (ck (inb (1 : Int32) 15) (ck (inb (1 : Int32) 15) (bs (pA bM 8 (1 : Int32) ((gA bM 8 (1 : Int32)) + (1 : Int32))) (fun b1 => some (x1, b1))))) else ((f_6_loanDays bM x2).bind (fun z2 => if z2 = 0 then (f_6_goesBy_39 k21 bM x1 x2) else ((f_6_ages bM x2).bind (fun z3 => f_6_goesBy_39 k21 z3 x1 x2))))
theorem t_6_goesBy_21_b (C : CX p s m args meth c cX6_goesBy 3 (some .int) RX6 D t) (qM : Nat → Nat) (r : Int32 × BV) (k21 : BV → Int32 → Int32 → Option (Int32 × BV)) (K21 : ∀ (bM : BV) (x1 : Int32) (x2 : Int32), k21 bM x1 x2 = some r → At p l e (rmD 4) s m args below meth c D 3 w0 (QI below args s D w0 (fun x w => r.1 = x ∧ (wM t qM r.2) = w) 0 0) 0 0 21 [(0, .ref (qM 99)), (1, .int x1), (2, .int x2)] [] (wM t qM bM)) (bM : BV) (x1 : Int32) (x2 : Int32) (h0 : f_6_goesBy_21_b k21 bM x1 x2 = some r) : At p l e (rmD 4) s m args below meth c D 3 w0 (QI below args s D w0 (fun x w => r.1 = x ∧ (wM t qM r.2) = w) 0 0) 0 0 21 [(0, .ref (qM 99)), (1, .int x1), (2, .int x2)] [] (wM t qM bM) := by
  unfold f_6_goesBy_21_b at h0
  refine A_iload_n C 2 dX6_goesBy_21 rfl rfl ?_
  refine A_iconst C (4 : Int32) dX6_goesBy_22 (by decide) ?_
  refine A_icmp_ge C 45 dX6_goesBy_23 (by decide) h0 (fun h0 => ?_) (fun h0 => ?_)
  · refine A_aload_n C 0 dX6_goesBy_45 rfl rfl ?_
    refine A_get (v := .ref (qM 8)) C 0 8 inG6 (ci := 6) rfl (by decide) fl_6_19 rfl rfl rfl dX6_goesBy_46 ?_
    refine A_iconst C (1 : Int32) dX6_goesBy_49 (by decide) ?_
    refine A_dup2 C dX6_goesBy_50 rfl rfl ?_
    refine A_iald C 4 (gA bM 8 (1 : Int32)) rfl rfl dX6_goesBy_51 h0 (fun h0 => ?_)
    refine A_iconst C (1 : Int32) dX6_goesBy_52 (by decide) ?_
    refine A_iadd C dX6_goesBy_53 ?_
    refine A_iast C 4 (wM t qM (pA bM 8 (1 : Int32) ((gA bM 8 (1 : Int32)) + (1 : Int32)))) rfl rfl dX6_goesBy_54 h0 (fun h0 => ?_)
    obtain ⟨b1, hb1, h0⟩ := bs_some h0
    refine A_weq (wM t qM b1) (by rw [hb1]) ?_
    refine A_iload_n C 1 dX6_goesBy_55 rfl rfl ?_
    have h0 := Option.some.inj h0
    subst h0
    exact A_iret C dX6_goesBy_56 ⟨rfl, rfl⟩
  · refine A_aload_n C 0 dX6_goesBy_26 rfl rfl ?_
    refine A_iload_n C 2 dX6_goesBy_27 rfl rfl ?_
    obtain ⟨z2, hz2, h0⟩ := bind_some h0
    refine A_vI (As := [.int x2]) (rest := []) C 0 (c_6_loanDays l D t qM bM x2 hz2) mw_6_loanDays ml_6_122 im_6_loanDays sl_6_loanDays (rmok rfl rfl) (cut0 (wM t qM bM)) rfl (ci := 6) rfl rfl rfl (Nat.le_of_ble_eq_true rfl) dX6_goesBy_28 (fun x w1 hw1 => ?_)
    obtain ⟨rfl, rfl⟩ := hw1
    refine A_perm (ws' := (wM t qM bM)) ((cut0 _).symm) ?_
    refine A_if_eq C 39 dX6_goesBy_31 (by decide) h0 (fun h0 => ?_) (fun h0 => ?_)
    · exact A_loc [0, 1, 2] rfl (t_6_goesBy_39 C qM r k21 K21 bM x1 x2 h0)
    · refine A_aload_n C 0 dX6_goesBy_34 rfl rfl ?_
      refine A_iload_n C 2 dX6_goesBy_35 rfl rfl ?_
      obtain ⟨z3, hz3, h0⟩ := bind_some h0
      refine A_vV (As := [.int x2]) (rest := []) C 0 (c_6_ages l D t qM bM x2 hz3) mw_6_ages ml_6_176 im_6_ages sl_6_ages (rmok rfl rfl) (cut0 (wM t qM bM)) rfl (ci := 6) rfl rfl rfl (Nat.le_of_ble_eq_true rfl) dX6_goesBy_36 (fun w1 hw1 => ?_)
      subst hw1
      refine A_perm (ws' := (wM t qM z3)) ((cut0 _).symm) ?_
      exact A_loc [0, 1, 2] rfl (t_6_goesBy_39 C qM r k21 K21 z3 x1 x2 h0)
def f_6_goesBy_21 : Nat → BV → Int32 → Int32 → Option (Int32 × BV)
  | 0 => fun _ _ _ => none
  | n + 1 => f_6_goesBy_21_b (f_6_goesBy_21 n)
theorem t_6_goesBy_21 (C : CX p s m args meth c cX6_goesBy 3 (some .int) RX6 D t) (qM : Nat → Nat) (r : Int32 × BV) : ∀ (n : Nat), ∀ (bM : BV) (x1 : Int32) (x2 : Int32), f_6_goesBy_21 n bM x1 x2 = some r → At p l e (rmD 4) s m args below meth c D 3 w0 (QI below args s D w0 (fun x w => r.1 = x ∧ (wM t qM r.2) = w) 0 0) 0 0 21 [(0, .ref (qM 99)), (1, .int x1), (2, .int x2)] [] (wM t qM bM) := by
  intro n
  induction n with
  | zero =>
    intro bM x1 x2 h0
    have h0 : none = some r := h0
    cases h0
  | succ n ih =>
    intro bM x1 x2 h0
    exact t_6_goesBy_21_b C qM r _ ih bM x1 x2 h0
def f_6_goesBy (bM : BV) : Option (Int32 × BV) :=
  (f_6_notIn bM).bind (fun z4 => (f_6_harvest bM z4).bind (fun z5 => ck (inb (0 : Int32) 15) (ck (inb (0 : Int32) 15) (bs (pA bM 8 (0 : Int32) ((gA bM 8 (0 : Int32)) + z5)) (fun b6 => f_6_goesBy_21 200 b6 z5 (0 : Int32))))))
theorem c_6_goesBy (l : Launch) (D : va_G) (t : ty4) (qM : Nat → Nat) (bM : BV) {r : Int32 × BV} (h0 : f_6_goesBy bM = some r) : MetI l yX6_goesBy cX6_goesBy 3 (some .int) (rmD 4) D t [.ref (qM 99)] (wM t qM bM) (fun x w => r.1 = x ∧ (wM t qM r.2) = w) := by
  refine MetI_of (by decide +kernel) (Nat.le_of_ble_eq_true rfl) (fun p e s m below meth c C _ => ?_)
  unfold f_6_goesBy at h0
  generalize hargs : (List.toArray [.ref (qM 99)] : Array Value) = args at C ⊢
  refine At.start (lv2 := [(0, .ref (qM 99))]) rfl ?_
  refine A_aload_n C 0 dX6_goesBy_0 rfl rfl ?_
  refine A_aload_n C 0 dX6_goesBy_1 rfl rfl ?_
  obtain ⟨z4, hz4, h0⟩ := bind_some h0
  refine A_vI (As := []) (rest := [.ref (qM 99)]) C 0 (c_6_notIn l D t qM bM hz4) mw_6_notIn ml_6_144 im_6_notIn sl_6_notIn (rmok rfl rfl) (cut0 (wM t qM bM)) rfl (ci := 6) rfl rfl rfl (Nat.le_of_ble_eq_true rfl) dX6_goesBy_2 (fun x w1 hw1 => ?_)
  obtain ⟨rfl, rfl⟩ := hw1
  refine A_perm (ws' := (wM t qM bM)) ((cut0 _).symm) ?_
  obtain ⟨z5, hz5, h0⟩ := bind_some h0
  refine A_vI (As := [.int z4]) (rest := []) C 0 (c_6_harvest l D t qM bM z4 hz5) mw_6_harvest ml_6_173 im_6_harvest sl_6_harvest (rmok rfl rfl) (cut0 (wM t qM bM)) rfl (ci := 6) rfl rfl rfl (Nat.le_of_ble_eq_true rfl) dX6_goesBy_5 (fun x w1 hw1 => ?_)
  obtain ⟨rfl, rfl⟩ := hw1
  refine A_perm (ws' := (wM t qM bM)) ((cut0 _).symm) ?_
  refine A_istore_n C [(1, .int z5), (0, .ref (qM 99))] dX6_goesBy_8 rfl (by decide) rfl ?_
  refine A_aload_n C 1 dX6_goesBy_9 rfl rfl ?_
  refine A_get (v := .ref (qM 8)) C 0 8 inG6 (ci := 6) rfl (by decide) fl_6_19 rfl rfl rfl dX6_goesBy_10 ?_
  refine A_iconst C (0 : Int32) dX6_goesBy_13 (by decide) ?_
  refine A_dup2 C dX6_goesBy_14 rfl rfl ?_
  refine A_iald C 4 (gA bM 8 (0 : Int32)) rfl rfl dX6_goesBy_15 h0 (fun h0 => ?_)
  refine A_iload_n C 0 dX6_goesBy_16 rfl rfl ?_
  refine A_iadd C dX6_goesBy_17 ?_
  refine A_iast C 4 (wM t qM (pA bM 8 (0 : Int32) ((gA bM 8 (0 : Int32)) + z5))) rfl rfl dX6_goesBy_18 h0 (fun h0 => ?_)
  obtain ⟨b6, hb6, h0⟩ := bs_some h0
  refine A_weq (wM t qM b6) (by rw [hb6]) ?_
  refine A_iconst C (0 : Int32) dX6_goesBy_19 (by decide) ?_
  refine A_istore_n C [(2, .int (0 : Int32)), (1, .int z5), (0, .ref (qM 99))] dX6_goesBy_20 rfl (by decide) rfl ?_
  exact A_loc [2, 1, 0] rfl (t_6_goesBy_21 C qM r 200 b6 z5 (0 : Int32) h0)
def f_6_year (bM : BV) : Option (Int32 × BV) :=
  ck (inb (1 : Int32) 15) (if (gA bM 8 (1 : Int32)) = (99 : Int32) then (some ((-2 : Int32), bM)) else ((f_6_notes bM).bind (fun z1 => (f_6_goesBy z1).bind (fun z2 => some (z2.1, z2.2)))))
theorem c_6_year (l : Launch) (D : va_G) (t : ty4) (qM : Nat → Nat) (bM : BV) {r : Int32 × BV} (h0 : f_6_year bM = some r) : MetI l yX6_year cX6_year 1 (some .int) (rmD 5) D t [.ref (qM 99)] (wM t qM bM) (fun x w => r.1 = x ∧ (wM t qM r.2) = w) := by
  refine MetI_of (by decide +kernel) (Nat.le_of_ble_eq_true rfl) (fun p e s m below meth c C _ => ?_)
  unfold f_6_year at h0
  generalize hargs : (List.toArray [.ref (qM 99)] : Array Value) = args at C ⊢
  refine At.start (lv2 := [(0, .ref (qM 99))]) rfl ?_
  refine A_aload_n C 0 dX6_year_0 rfl rfl ?_
  refine A_get (v := .ref (qM 8)) C 0 8 inG6 (ci := 6) rfl (by decide) fl_6_19 rfl rfl rfl dX6_year_1 ?_
  refine A_iconst C (1 : Int32) dX6_year_4 (by decide) ?_
  refine A_iald C 4 (gA bM 8 (1 : Int32)) rfl rfl dX6_year_5 h0 (fun h0 => ?_)
  refine A_bipush C (99 : Int32) dX6_year_6 (by decide) ?_
  refine A_icmp_ne C 14 dX6_year_8 (by decide) h0 (fun h0 => ?_) (fun h0 => ?_)
  · refine A_aload_n C 0 dX6_year_14 rfl rfl ?_
    obtain ⟨z1, hz1, h0⟩ := bind_some h0
    refine A_vV (As := []) (rest := []) C 0 (c_6_notes l D t qM bM hz1) mw_6_notes ml_6_160 im_6_notes sl_6_notes (rmok rfl rfl) (cut0 (wM t qM bM)) rfl (ci := 6) rfl rfl rfl (Nat.le_of_ble_eq_true rfl) dX6_year_15 (fun w1 hw1 => ?_)
    subst hw1
    refine A_perm (ws' := (wM t qM z1)) ((cut0 _).symm) ?_
    refine A_aload_n C 0 dX6_year_18 rfl rfl ?_
    obtain ⟨z2, hz2, h0⟩ := bind_some h0
    refine A_vI (As := []) (rest := []) C 0 (c_6_goesBy l D t qM z1 hz2) mw_6_goesBy ml_6_179 im_6_goesBy sl_6_goesBy (rmok rfl rfl) (cut0 (wM t qM z1)) rfl (ci := 6) rfl rfl rfl (Nat.le_of_ble_eq_true rfl) dX6_year_19 (fun x w1 hw1 => ?_)
    obtain ⟨rfl, rfl⟩ := hw1
    refine A_perm (ws' := (wM t qM z2.2)) ((cut0 _).symm) ?_
    have h0 := Option.some.inj h0
    subst h0
    exact A_iret C dX6_year_22 ⟨rfl, rfl⟩
  · refine A_bipush C (-2 : Int32) dX6_year_11 (by decide) ?_
    have h0 := Option.some.inj h0
    subst h0
    exact A_iret C dX6_year_13 ⟨rfl, rfl⟩
def f_6_rich_63 (bM : BV) (y0 : Int32) : Option (Int32 × BV) :=
  some (y0, bM)
theorem t_6_rich_63 (C : CX p s m args meth c cX6_rich 3 (some .int) RX6 D t) (qM : Nat → Nat) (r : Int32 × BV) (bM : BV) (y0 : Int32) (h0 : f_6_rich_63 bM y0 = some r) : At p l e (rmD 5) s m args below meth c D 3 w0 (QI below args s D w0 (fun x w => r.1 = x ∧ (wM t qM r.2) = w) 0 0) 0 0 63 [] [.int y0] (wM t qM bM) := by
  unfold f_6_rich_63 at h0
  have h0 := Option.some.inj h0
  subst h0
  exact A_iret C dX6_rich_63 ⟨rfl, rfl⟩
def f_6_rich_47 (bM : BV) (x2 : Int32) : Option (Int32 × BV) :=
  (f_6_backs bM).bind (fun z1 => if x2 ≤ (60 : Int32) then (f_6_rich_63 z1 x2) else (f_6_rich_63 z1 (-9 : Int32)))
theorem t_6_rich_47 (C : CX p s m args meth c cX6_rich 3 (some .int) RX6 D t) (qM : Nat → Nat) (r : Int32 × BV) (bM : BV) (x2 : Int32) (h0 : f_6_rich_47 bM x2 = some r) : At p l e (rmD 5) s m args below meth c D 3 w0 (QI below args s D w0 (fun x w => r.1 = x ∧ (wM t qM r.2) = w) 0 0) 0 0 47 [(0, .ref (qM 99)), (2, .int x2)] [] (wM t qM bM) := by
  unfold f_6_rich_47 at h0
  refine A_aload_n C 0 dX6_rich_47 rfl rfl ?_
  obtain ⟨z1, hz1, h0⟩ := bind_some h0
  refine A_vV (As := []) (rest := []) C 0 (c_6_backs l D t qM bM hz1) mw_6_backs ml_6_192 im_6_backs sl_6_backs (rmok rfl rfl) (cut0 (wM t qM bM)) rfl (ci := 6) rfl rfl rfl (Nat.le_of_ble_eq_true rfl) dX6_rich_48 (fun w1 hw1 => ?_)
  subst hw1
  refine A_perm (ws' := (wM t qM z1)) ((cut0 _).symm) ?_
  refine A_iload_n C 1 dX6_rich_51 rfl rfl ?_
  refine A_bipush C (60 : Int32) dX6_rich_52 (by decide) ?_
  refine A_icmp_le C 62 dX6_rich_54 (by decide) h0 (fun h0 => ?_) (fun h0 => ?_)
  · refine A_iload_n C 1 dX6_rich_62 rfl rfl ?_
    exact A_loc [] rfl (t_6_rich_63 C qM r z1 x2 h0)
  · refine A_bipush C (-9 : Int32) dX6_rich_57 (by decide) ?_
    refine A_goto C 63 dX6_rich_59 (by decide) ?_
    exact A_loc [] rfl (t_6_rich_63 C qM r z1 (-9 : Int32) h0)
def f_6_rich_20_b (k20 : BV → Int32 → Int32 → Option (Int32 × BV)) (bM : BV) (x1 : Int32) (x2 : Int32) : Option (Int32 × BV) :=
  if (61 : Int32) ≤ x2 then (f_6_rich_47 bM x2) else (ck (inb (0 : Int32) 15) (if x1 ≤ (gA bM 8 (0 : Int32)) then (f_6_rich_47 bM x2) else ((f_6_goesBy bM).bind (fun z2 => k20 z2.2 x1 (x2 + (1 : Int32))))))
theorem t_6_rich_20_b (C : CX p s m args meth c cX6_rich 3 (some .int) RX6 D t) (qM : Nat → Nat) (r : Int32 × BV) (k20 : BV → Int32 → Int32 → Option (Int32 × BV)) (K20 : ∀ (bM : BV) (x1 : Int32) (x2 : Int32), k20 bM x1 x2 = some r → At p l e (rmD 5) s m args below meth c D 3 w0 (QI below args s D w0 (fun x w => r.1 = x ∧ (wM t qM r.2) = w) 0 0) 0 0 20 [(0, .ref (qM 99)), (1, .int x1), (2, .int x2)] [] (wM t qM bM)) (bM : BV) (x1 : Int32) (x2 : Int32) (h0 : f_6_rich_20_b k20 bM x1 x2 = some r) : At p l e (rmD 5) s m args below meth c D 3 w0 (QI below args s D w0 (fun x w => r.1 = x ∧ (wM t qM r.2) = w) 0 0) 0 0 20 [(0, .ref (qM 99)), (1, .int x1), (2, .int x2)] [] (wM t qM bM) := by
  unfold f_6_rich_20_b at h0
  refine A_iload_n C 2 dX6_rich_20 rfl rfl ?_
  refine A_bipush C (61 : Int32) dX6_rich_21 (by decide) ?_
  refine A_icmp_ge C 47 dX6_rich_23 (by decide) h0 (fun h0 => ?_) (fun h0 => ?_)
  · exact A_loc [0, 2] rfl (t_6_rich_47 C qM r bM x2 h0)
  · refine A_aload_n C 0 dX6_rich_26 rfl rfl ?_
    refine A_get (v := .ref (qM 8)) C 0 8 inG6 (ci := 6) rfl (by decide) fl_6_19 rfl rfl rfl dX6_rich_27 ?_
    refine A_iconst C (0 : Int32) dX6_rich_30 (by decide) ?_
    refine A_iald C 4 (gA bM 8 (0 : Int32)) rfl rfl dX6_rich_31 h0 (fun h0 => ?_)
    refine A_iload_n C 1 dX6_rich_32 rfl rfl ?_
    refine A_icmp_ge C 47 dX6_rich_33 (by decide) h0 (fun h0 => ?_) (fun h0 => ?_)
    · exact A_loc [0, 2] rfl (t_6_rich_47 C qM r bM x2 h0)
    · refine A_aload_n C 0 dX6_rich_36 rfl rfl ?_
      obtain ⟨z2, hz2, h0⟩ := bind_some h0
      refine A_vI (As := []) (rest := []) C 0 (c_6_goesBy l D t qM bM hz2) mw_6_goesBy ml_6_179 im_6_goesBy sl_6_goesBy (rmok rfl rfl) (cut0 (wM t qM bM)) rfl (ci := 6) rfl rfl rfl (Nat.le_of_ble_eq_true rfl) dX6_rich_37 (fun x w1 hw1 => ?_)
      obtain ⟨rfl, rfl⟩ := hw1
      refine A_perm (ws' := (wM t qM z2.2)) ((cut0 _).symm) ?_
      refine A_pop C dX6_rich_40 rfl ?_
      refine A_iinc C 2 (x2 + (1 : Int32)) [(2, .int (x2 + (1 : Int32))), (0, .ref (qM 99)), (1, .int x1)] dX6_rich_41 rfl rfl (by decide) rfl ?_
      refine A_goto C 20 dX6_rich_44 (by decide) ?_
      exact A_loc [1, 2, 0] rfl (K20 z2.2 x1 (x2 + (1 : Int32)) h0)
def f_6_rich_20 : Nat → BV → Int32 → Int32 → Option (Int32 × BV)
  | 0 => fun _ _ _ => none
  | n + 1 => f_6_rich_20_b (f_6_rich_20 n)
theorem t_6_rich_20 (C : CX p s m args meth c cX6_rich 3 (some .int) RX6 D t) (qM : Nat → Nat) (r : Int32 × BV) : ∀ (n : Nat), ∀ (bM : BV) (x1 : Int32) (x2 : Int32), f_6_rich_20 n bM x1 x2 = some r → At p l e (rmD 5) s m args below meth c D 3 w0 (QI below args s D w0 (fun x w => r.1 = x ∧ (wM t qM r.2) = w) 0 0) 0 0 20 [(0, .ref (qM 99)), (1, .int x1), (2, .int x2)] [] (wM t qM bM) := by
  intro n
  induction n with
  | zero =>
    intro bM x1 x2 h0
    have h0 : none = some r := h0
    cases h0
  | succ n ih =>
    intro bM x1 x2 h0
    exact t_6_rich_20_b C qM r _ ih bM x1 x2 h0
def f_6_rich (bM : BV) (x1 : Int32) : Option (Int32 × BV) :=
  (f_6_in (x1).toInt64 (0 : Int64) (9999 : Int64)).bind (fun z3 => if z3 = 0 then (some ((-1 : Int32), bM)) else ((f_6_asides bM).bind (fun z4 => f_6_rich_20 200 z4 x1 (0 : Int32))))
theorem c_6_rich (l : Launch) (D : va_G) (t : ty4) (qM : Nat → Nat) (bM : BV) (x1 : Int32) {r : Int32 × BV} (h0 : f_6_rich bM x1 = some r) : MetI l yX6_rich cX6_rich 3 (some .int) (rmD 5) D t [.ref (qM 99), .int x1] (wM t qM bM) (fun x w => r.1 = x ∧ (wM t qM r.2) = w) := by
  refine MetI_of (by decide +kernel) (Nat.le_of_ble_eq_true rfl) (fun p e s m below meth c C _ => ?_)
  unfold f_6_rich at h0
  generalize hargs : (List.toArray [.ref (qM 99), .int x1] : Array Value) = args at C ⊢
  refine At.start (lv2 := [(0, .ref (qM 99)), (1, .int x1)]) rfl ?_
  refine A_iload_n C 1 dX6_rich_0 rfl rfl ?_
  refine A_i2l C dX6_rich_1 ?_
  refine A_lconst C (0 : Int64) dX6_rich_2 (by decide) ?_
  refine A_ldc2 (v := (9999 : Int64)) C cl_6_187 dX6_rich_3 ?_
  obtain ⟨z3, hz3, h0⟩ := bind_some h0
  refine A_sI (As := [.long (x1).toInt64, .long (0 : Int64), .long (9999 : Int64)]) (rest := []) C (c_6_in l D t (x1).toInt64 (0 : Int64) (9999 : Int64) hz3) mw_6_in ml_6_45 st_6_in (rmok rfl rfl) (cutN (wM t qM bM)) rfl rfl (Nat.le_of_ble_eq_true rfl) dX6_rich_6 (fun x w1 hw1 => ?_)
  obtain ⟨rfl, rfl⟩ := hw1
  refine A_perm (ws' := (wM t qM bM)) ((cutN _).symm) ?_
  refine A_if_ne C 14 dX6_rich_9 (by decide) h0 (fun h0 => ?_) (fun h0 => ?_)
  · refine A_aload_n C 0 dX6_rich_14 rfl rfl ?_
    obtain ⟨z4, hz4, h0⟩ := bind_some h0
    refine A_vV (As := []) (rest := []) C 0 (c_6_asides l D t qM bM hz4) mw_6_asides ml_6_189 im_6_asides sl_6_asides (rmok rfl rfl) (cut0 (wM t qM bM)) rfl (ci := 6) rfl rfl rfl (Nat.le_of_ble_eq_true rfl) dX6_rich_15 (fun w1 hw1 => ?_)
    subst hw1
    refine A_perm (ws' := (wM t qM z4)) ((cut0 _).symm) ?_
    refine A_iconst C (0 : Int32) dX6_rich_18 (by decide) ?_
    refine A_istore_n C [(2, .int (0 : Int32)), (0, .ref (qM 99)), (1, .int x1)] dX6_rich_19 rfl (by decide) rfl ?_
    exact A_loc [1, 2, 0] rfl (t_6_rich_20 C qM r 200 z4 x1 (0 : Int32) h0)
  · refine A_iconst C (-1 : Int32) dX6_rich_12 (by decide) ?_
    have h0 := Option.some.inj h0
    subst h0
    exact A_iret C dX6_rich_13 ⟨rfl, rfl⟩
def f_6_bare_46 (bM : BV) (y0 : Int32) : Option (Int32 × BV) :=
  some (y0, bM)
theorem t_6_bare_46 (C : CX p s m args meth c cX6_bare 2 (some .int) RX6 D t) (qM : Nat → Nat) (r : Int32 × BV) (bM : BV) (y0 : Int32) (h0 : f_6_bare_46 bM y0 = some r) : At p l e (rmD 5) s m args below meth c D 2 w0 (QI below args s D w0 (fun x w => r.1 = x ∧ (wM t qM r.2) = w) 0 0) 0 0 46 [] [.int y0] (wM t qM bM) := by
  unfold f_6_bare_46 at h0
  have h0 := Option.some.inj h0
  subst h0
  exact A_iret C dX6_bare_46 ⟨rfl, rfl⟩
def f_6_bare_30 (bM : BV) (x1 : Int32) : Option (Int32 × BV) :=
  (f_6_backs bM).bind (fun z1 => if x1 ≤ (60 : Int32) then (f_6_bare_46 z1 x1) else (f_6_bare_46 z1 (-9 : Int32)))
theorem t_6_bare_30 (C : CX p s m args meth c cX6_bare 2 (some .int) RX6 D t) (qM : Nat → Nat) (r : Int32 × BV) (bM : BV) (x1 : Int32) (h0 : f_6_bare_30 bM x1 = some r) : At p l e (rmD 5) s m args below meth c D 2 w0 (QI below args s D w0 (fun x w => r.1 = x ∧ (wM t qM r.2) = w) 0 0) 0 0 30 [(0, .ref (qM 99)), (1, .int x1)] [] (wM t qM bM) := by
  unfold f_6_bare_30 at h0
  refine A_aload_n C 0 dX6_bare_30 rfl rfl ?_
  obtain ⟨z1, hz1, h0⟩ := bind_some h0
  refine A_vV (As := []) (rest := []) C 0 (c_6_backs l D t qM bM hz1) mw_6_backs ml_6_192 im_6_backs sl_6_backs (rmok rfl rfl) (cut0 (wM t qM bM)) rfl (ci := 6) rfl rfl rfl (Nat.le_of_ble_eq_true rfl) dX6_bare_31 (fun w1 hw1 => ?_)
  subst hw1
  refine A_perm (ws' := (wM t qM z1)) ((cut0 _).symm) ?_
  refine A_iload_n C 1 dX6_bare_34 rfl rfl ?_
  refine A_bipush C (60 : Int32) dX6_bare_35 (by decide) ?_
  refine A_icmp_le C 45 dX6_bare_37 (by decide) h0 (fun h0 => ?_) (fun h0 => ?_)
  · refine A_iload_n C 1 dX6_bare_45 rfl rfl ?_
    exact A_loc [] rfl (t_6_bare_46 C qM r z1 x1 h0)
  · refine A_bipush C (-9 : Int32) dX6_bare_40 (by decide) ?_
    refine A_goto C 46 dX6_bare_42 (by decide) ?_
    exact A_loc [] rfl (t_6_bare_46 C qM r z1 (-9 : Int32) h0)
def f_6_bare_6_b (k6 : BV → Int32 → Option (Int32 × BV)) (bM : BV) (x1 : Int32) : Option (Int32 × BV) :=
  if (61 : Int32) ≤ x1 then (f_6_bare_30 bM x1) else ((f_6_isBare bM).bind (fun z2 => if z2 = 0 then ((f_6_goesBy bM).bind (fun z3 => k6 z3.2 (x1 + (1 : Int32)))) else (f_6_bare_30 bM x1)))
theorem t_6_bare_6_b (C : CX p s m args meth c cX6_bare 2 (some .int) RX6 D t) (qM : Nat → Nat) (r : Int32 × BV) (k6 : BV → Int32 → Option (Int32 × BV)) (K6 : ∀ (bM : BV) (x1 : Int32), k6 bM x1 = some r → At p l e (rmD 5) s m args below meth c D 2 w0 (QI below args s D w0 (fun x w => r.1 = x ∧ (wM t qM r.2) = w) 0 0) 0 0 6 [(0, .ref (qM 99)), (1, .int x1)] [] (wM t qM bM)) (bM : BV) (x1 : Int32) (h0 : f_6_bare_6_b k6 bM x1 = some r) : At p l e (rmD 5) s m args below meth c D 2 w0 (QI below args s D w0 (fun x w => r.1 = x ∧ (wM t qM r.2) = w) 0 0) 0 0 6 [(0, .ref (qM 99)), (1, .int x1)] [] (wM t qM bM) := by
  unfold f_6_bare_6_b at h0
  refine A_iload_n C 1 dX6_bare_6 rfl rfl ?_
  refine A_bipush C (61 : Int32) dX6_bare_7 (by decide) ?_
  refine A_icmp_ge C 30 dX6_bare_9 (by decide) h0 (fun h0 => ?_) (fun h0 => ?_)
  · exact A_loc [0, 1] rfl (t_6_bare_30 C qM r bM x1 h0)
  · refine A_aload_n C 0 dX6_bare_12 rfl rfl ?_
    obtain ⟨z2, hz2, h0⟩ := bind_some h0
    refine A_vI (As := []) (rest := []) C 0 (c_6_isBare l D t qM bM hz2) mw_6_isBare ml_6_195 im_6_isBare sl_6_isBare (rmok rfl rfl) (cut0 (wM t qM bM)) rfl (ci := 6) rfl rfl rfl (Nat.le_of_ble_eq_true rfl) dX6_bare_13 (fun x w1 hw1 => ?_)
    obtain ⟨rfl, rfl⟩ := hw1
    refine A_perm (ws' := (wM t qM bM)) ((cut0 _).symm) ?_
    refine A_if_ne C 30 dX6_bare_16 (by decide) h0 (fun h0 => ?_) (fun h0 => ?_)
    · exact A_loc [0, 1] rfl (t_6_bare_30 C qM r bM x1 h0)
    · refine A_aload_n C 0 dX6_bare_19 rfl rfl ?_
      obtain ⟨z3, hz3, h0⟩ := bind_some h0
      refine A_vI (As := []) (rest := []) C 0 (c_6_goesBy l D t qM bM hz3) mw_6_goesBy ml_6_179 im_6_goesBy sl_6_goesBy (rmok rfl rfl) (cut0 (wM t qM bM)) rfl (ci := 6) rfl rfl rfl (Nat.le_of_ble_eq_true rfl) dX6_bare_20 (fun x w1 hw1 => ?_)
      obtain ⟨rfl, rfl⟩ := hw1
      refine A_perm (ws' := (wM t qM z3.2)) ((cut0 _).symm) ?_
      refine A_pop C dX6_bare_23 rfl ?_
      refine A_iinc C 1 (x1 + (1 : Int32)) [(1, .int (x1 + (1 : Int32))), (0, .ref (qM 99))] dX6_bare_24 rfl rfl (by decide) rfl ?_
      refine A_goto C 6 dX6_bare_27 (by decide) ?_
      exact A_loc [1, 0] rfl (K6 z3.2 (x1 + (1 : Int32)) h0)
def f_6_bare_6 : Nat → BV → Int32 → Option (Int32 × BV)
  | 0 => fun _ _ => none
  | n + 1 => f_6_bare_6_b (f_6_bare_6 n)
theorem t_6_bare_6 (C : CX p s m args meth c cX6_bare 2 (some .int) RX6 D t) (qM : Nat → Nat) (r : Int32 × BV) : ∀ (n : Nat), ∀ (bM : BV) (x1 : Int32), f_6_bare_6 n bM x1 = some r → At p l e (rmD 5) s m args below meth c D 2 w0 (QI below args s D w0 (fun x w => r.1 = x ∧ (wM t qM r.2) = w) 0 0) 0 0 6 [(0, .ref (qM 99)), (1, .int x1)] [] (wM t qM bM) := by
  intro n
  induction n with
  | zero =>
    intro bM x1 h0
    have h0 : none = some r := h0
    cases h0
  | succ n ih =>
    intro bM x1 h0
    exact t_6_bare_6_b C qM r _ ih bM x1 h0
def f_6_bare (bM : BV) : Option (Int32 × BV) :=
  (f_6_asides bM).bind (fun z4 => f_6_bare_6 200 z4 (0 : Int32))
theorem c_6_bare (l : Launch) (D : va_G) (t : ty4) (qM : Nat → Nat) (bM : BV) {r : Int32 × BV} (h0 : f_6_bare bM = some r) : MetI l yX6_bare cX6_bare 2 (some .int) (rmD 5) D t [.ref (qM 99)] (wM t qM bM) (fun x w => r.1 = x ∧ (wM t qM r.2) = w) := by
  refine MetI_of (by decide +kernel) (Nat.le_of_ble_eq_true rfl) (fun p e s m below meth c C _ => ?_)
  unfold f_6_bare at h0
  generalize hargs : (List.toArray [.ref (qM 99)] : Array Value) = args at C ⊢
  refine At.start (lv2 := [(0, .ref (qM 99))]) rfl ?_
  refine A_aload_n C 0 dX6_bare_0 rfl rfl ?_
  obtain ⟨z4, hz4, h0⟩ := bind_some h0
  refine A_vV (As := []) (rest := []) C 0 (c_6_asides l D t qM bM hz4) mw_6_asides ml_6_189 im_6_asides sl_6_asides (rmok rfl rfl) (cut0 (wM t qM bM)) rfl (ci := 6) rfl rfl rfl (Nat.le_of_ble_eq_true rfl) dX6_bare_1 (fun w1 hw1 => ?_)
  subst hw1
  refine A_perm (ws' := (wM t qM z4)) ((cut0 _).symm) ?_
  refine A_iconst C (0 : Int32) dX6_bare_4 (by decide) ?_
  refine A_istore_n C [(1, .int (0 : Int32)), (0, .ref (qM 99))] dX6_bare_5 rfl (by decide) rfl ?_
  exact A_loc [1, 0] rfl (t_6_bare_6 C qM r 200 z4 (0 : Int32) h0)
end
