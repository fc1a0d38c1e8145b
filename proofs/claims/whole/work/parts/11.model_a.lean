section
variable {p : Program} {l : Launch} {e : Env} {s : State} {m : MethodId} {args : Array Value} {below : List Frame} {meth : Method} {c : Code} {D : va_G} {w0 : va_W} {t : ty4}
def f_6_in_18 (y0 : Int32) : Option (Int32) :=
  ck (isb y0) (some y0)
theorem t_6_in_18 (C : CX p s m args meth c cX6_in 6 (some .boolean) RX6 D t) (r : Int32) (y0 : Int32) (h0 : f_6_in_18 y0 = some r) : At p l e (rmD 0) s m args below meth c D 6 w0 (QI below args s D w0 (fun x w => r = x ∧ [] = w) 0 0) 0 0 18 [] [.int y0] [] := by
  unfold f_6_in_18 at h0
  obtain ⟨hz, h0⟩ := ck_some h0
  have h0 := Option.some.inj h0
  subst h0
  exact A_zret C dX6_in_18 hz ⟨rfl, rfl⟩
def f_6_in_17 : Option (Int32) :=
  f_6_in_18 (0 : Int32)
theorem t_6_in_17 (C : CX p s m args meth c cX6_in 6 (some .boolean) RX6 D t) (r : Int32) (h0 : f_6_in_17 = some r) : At p l e (rmD 0) s m args below meth c D 6 w0 (QI below args s D w0 (fun x w => r = x ∧ [] = w) 0 0) 0 0 17 [] [] [] := by
  unfold f_6_in_17 at h0
  refine A_iconst C (0 : Int32) dX6_in_17 (by decide) ?_
  exact A_loc [] rfl (t_6_in_18 C r (0 : Int32) h0)
def f_6_in (x0 : Int64) (x2 : Int64) (x4 : Int64) : Option (Int32) :=
  if (lg_cmp x0 x2) < 0 then (f_6_in_17) else (if 0 < (lg_cmp x0 x4) then (f_6_in_17) else (f_6_in_18 (1 : Int32)))
theorem c_6_in (l : Launch) (D : va_G) (t : ty4) (x0 : Int64) (x2 : Int64) (x4 : Int64) {r : Int32} (h0 : f_6_in x0 x2 x4 = some r) : MetI l yX6_in cX6_in 6 (some .boolean) (rmD 0) D t [.long x0, .long x2, .long x4] [] (fun x w => r = x ∧ [] = w) := by
  refine MetI_of (by decide +kernel) (Nat.le_of_ble_eq_true rfl) (fun p e s m below meth c C _ => ?_)
  unfold f_6_in at h0
  generalize hargs : (List.toArray [.long x0, .long x2, .long x4] : Array Value) = args at C ⊢
  refine At.start (lv2 := [(0, .long x0), (2, .long x2), (4, .long x4)]) rfl ?_
  refine A_lload_n C 0 dX6_in_0 rfl rfl ?_
  refine A_lload_n C 1 dX6_in_1 rfl rfl ?_
  refine A_lcmp C dX6_in_2 ?_
  refine A_if_lt C 17 dX6_in_3 (by decide) h0 (fun h0 => ?_) (fun h0 => ?_)
  · exact A_loc [] rfl (t_6_in_17 C r h0)
  · refine A_lload_n C 0 dX6_in_6 rfl rfl ?_
    refine A_lload C 2 dX6_in_7 rfl ?_
    refine A_lcmp C dX6_in_9 ?_
    refine A_if_gt C 17 dX6_in_10 (by decide) h0 (fun h0 => ?_) (fun h0 => ?_)
    · exact A_loc [] rfl (t_6_in_17 C r h0)
    · refine A_iconst C (1 : Int32) dX6_in_13 (by decide) ?_
      refine A_goto C 18 dX6_in_14 (by decide) ?_
      exact A_loc [] rfl (t_6_in_18 C r (1 : Int32) h0)
def f_6_type (bM : BV) (x1 : Int32) : Option (Int32 × BV) :=
  (f_6_in (x1).toInt64 (0 : Int64) (255 : Int64)).bind (fun z1 => if z1 = 0 then (some ((-1 : Int32), bM)) else (if (gI bM 1) = (150 : Int32) then (some ((-3 : Int32), bM)) else (ck (inb (gI bM 1) 150) (bs (pA bM 0 (gI bM 1) x1) (fun b2 => some (((gI b2 1) + (1 : Int32)), (pI b2 1 ((gI b2 1) + (1 : Int32)))))))))
theorem c_6_type (l : Launch) (D : va_G) (t : ty4) (qM : Nat → Nat) (bM : BV) (x1 : Int32) {r : Int32 × BV} (h0 : f_6_type bM x1 = some r) : MetI l yX6_type cX6_type 2 (some .int) (rmD 1) D t [.ref (qM 99), .int x1] (wM t qM bM) (fun x w => r.1 = x ∧ (wM t qM r.2) = w) := by
  refine MetI_of (by decide +kernel) (Nat.le_of_ble_eq_true rfl) (fun p e s m below meth c C _ => ?_)
  unfold f_6_type at h0
  generalize hargs : (List.toArray [.ref (qM 99), .int x1] : Array Value) = args at C ⊢
  refine At.start (lv2 := [(0, .ref (qM 99)), (1, .int x1)]) rfl ?_
  refine A_iload_n C 1 dX6_type_0 rfl rfl ?_
  refine A_i2l C dX6_type_1 ?_
  refine A_lconst C (0 : Int64) dX6_type_2 (by decide) ?_
  refine A_ldc2 (v := (255 : Int64)) C cl_6_43 dX6_type_3 ?_
  obtain ⟨z1, hz1, h0⟩ := bind_some h0
  refine A_sI (As := [.long (x1).toInt64, .long (0 : Int64), .long (255 : Int64)]) (rest := []) C (c_6_in l D t (x1).toInt64 (0 : Int64) (255 : Int64) hz1) mw_6_in ml_6_45 st_6_in (rmok rfl rfl) (cutN (wM t qM bM)) rfl rfl (Nat.le_of_ble_eq_true rfl) dX6_type_6 (fun x w1 hw1 => ?_)
  obtain ⟨rfl, rfl⟩ := hw1
  refine A_perm (ws' := (wM t qM bM)) ((cutN _).symm) ?_
  refine A_if_ne C 14 dX6_type_9 (by decide) h0 (fun h0 => ?_) (fun h0 => ?_)
  · refine A_aload_n C 0 dX6_type_14 rfl rfl ?_
    refine A_get (v := .int (gI bM 1)) C 0 1 inG6 (ci := 6) rfl (by decide) fl_6_49 rfl rfl rfl dX6_type_15 ?_
    refine A_sipush C (150 : Int32) dX6_type_18 (by decide) ?_
    refine A_icmp_ne C 27 dX6_type_21 (by decide) h0 (fun h0 => ?_) (fun h0 => ?_)
    · refine A_aload_n C 0 dX6_type_27 rfl rfl ?_
      refine A_get (v := .ref (qM 0)) C 0 0 inG6 (ci := 6) rfl (by decide) fl_6_7 rfl rfl rfl dX6_type_28 ?_
      refine A_aload_n C 0 dX6_type_31 rfl rfl ?_
      refine A_get (v := .int (gI bM 1)) C 0 1 inG6 (ci := 6) rfl (by decide) fl_6_49 rfl rfl rfl dX6_type_32 ?_
      refine A_iload_n C 1 dX6_type_35 rfl rfl ?_
      refine A_iast C 1 (wM t qM (pA bM 0 (gI bM 1) x1)) rfl rfl dX6_type_36 h0 (fun h0 => ?_)
      obtain ⟨b2, hb2, h0⟩ := bs_some h0
      refine A_weq (wM t qM b2) (by rw [hb2]) ?_
      refine A_aload_n C 0 dX6_type_37 rfl rfl ?_
      refine A_dup C dX6_type_38 rfl ?_
      refine A_get (v := .int (gI b2 1)) C 0 1 inG6 (ci := 6) rfl (by decide) fl_6_49 rfl rfl rfl dX6_type_39 ?_
      refine A_iconst C (1 : Int32) dX6_type_42 (by decide) ?_
      refine A_iadd C dX6_type_43 ?_
      refine A_put C 0 1 (wM t qM (pI b2 1 ((gI b2 1) + (1 : Int32)))) tyX6 inG6 tyX6_ok nmX6 (ci := 6) rfl (by decide) fl_6_49 rfl rfl rfl rfl rfl (Nat.le_of_ble_eq_true rfl) rfl dX6_type_44 ?_
      refine A_aload_n C 0 dX6_type_47 rfl rfl ?_
      refine A_get (v := .int ((gI b2 1) + (1 : Int32))) C 0 1 inG6 (ci := 6) rfl (by decide) fl_6_49 rfl rfl rfl dX6_type_48 ?_
      have h0 := Option.some.inj h0
      subst h0
      exact A_iret C dX6_type_51 ⟨rfl, rfl⟩
    · refine A_bipush C (-3 : Int32) dX6_type_24 (by decide) ?_
      have h0 := Option.some.inj h0
      subst h0
      exact A_iret C dX6_type_26 ⟨rfl, rfl⟩
  · refine A_iconst C (-1 : Int32) dX6_type_12 (by decide) ?_
    have h0 := Option.some.inj h0
    subst h0
    exact A_iret C dX6_type_13 ⟨rfl, rfl⟩
def f_6_clear (bM : BV) : Option (Int32 × BV) :=
  some ((gI bM 1), (pI bM 1 (0 : Int32)))
theorem c_6_clear (l : Launch) (D : va_G) (t : ty4) (qM : Nat → Nat) (bM : BV) {r : Int32 × BV} (h0 : f_6_clear bM = some r) : MetI l yX6_clear cX6_clear 2 (some .int) (rmD 0) D t [.ref (qM 99)] (wM t qM bM) (fun x w => r.1 = x ∧ (wM t qM r.2) = w) := by
  refine MetI_of (by decide +kernel) (Nat.le_of_ble_eq_true rfl) (fun p e s m below meth c C _ => ?_)
  unfold f_6_clear at h0
  generalize hargs : (List.toArray [.ref (qM 99)] : Array Value) = args at C ⊢
  refine At.start (lv2 := [(0, .ref (qM 99))]) rfl ?_
  refine A_aload_n C 0 dX6_clear_0 rfl rfl ?_
  refine A_get (v := .int (gI bM 1)) C 0 1 inG6 (ci := 6) rfl (by decide) fl_6_49 rfl rfl rfl dX6_clear_1 ?_
  refine A_istore_n C [(1, .int (gI bM 1)), (0, .ref (qM 99))] dX6_clear_4 rfl (by decide) rfl ?_
  refine A_aload_n C 1 dX6_clear_5 rfl rfl ?_
  refine A_iconst C (0 : Int32) dX6_clear_6 (by decide) ?_
  refine A_put C 0 1 (wM t qM (pI bM 1 (0 : Int32))) tyX6 inG6 tyX6_ok nmX6 (ci := 6) rfl (by decide) fl_6_49 rfl rfl rfl rfl rfl (Nat.le_of_ble_eq_true rfl) rfl dX6_clear_7 ?_
  refine A_iload_n C 0 dX6_clear_10 rfl rfl ?_
  have h0 := Option.some.inj h0
  subst h0
  exact A_iret C dX6_clear_11 ⟨rfl, rfl⟩
def f_6_isLetter (x0 : Int32) : Option (Int32) :=
  (f_6_in (x0).toInt64 (97 : Int64) (122 : Int64)).bind (fun z1 => ck (isb z1) (some z1))
theorem c_6_isLetter (l : Launch) (D : va_G) (t : ty4) (x0 : Int32) {r : Int32} (h0 : f_6_isLetter x0 = some r) : MetI l yX6_isLetter cX6_isLetter 1 (some .boolean) (rmD 1) D t [.int x0] [] (fun x w => r = x ∧ [] = w) := by
  refine MetI_of (by decide +kernel) (Nat.le_of_ble_eq_true rfl) (fun p e s m below meth c C _ => ?_)
  unfold f_6_isLetter at h0
  generalize hargs : (List.toArray [.int x0] : Array Value) = args at C ⊢
  refine At.start (lv2 := [(0, .int x0)]) rfl ?_
  refine A_iload_n C 0 dX6_isLetter_0 rfl rfl ?_
  refine A_i2l C dX6_isLetter_1 ?_
  refine A_ldc2 (v := (97 : Int64)) C cl_6_53 dX6_isLetter_2 ?_
  refine A_ldc2 (v := (122 : Int64)) C cl_6_55 dX6_isLetter_5 ?_
  obtain ⟨z1, hz1, h0⟩ := bind_some h0
  refine A_sI (As := [.long (x0).toInt64, .long (97 : Int64), .long (122 : Int64)]) (rest := []) C (c_6_in l D t (x0).toInt64 (97 : Int64) (122 : Int64) hz1) mw_6_in ml_6_45 st_6_in (rmok rfl rfl) (cutN []) rfl rfl (Nat.le_of_ble_eq_true rfl) dX6_isLetter_8 (fun x w1 hw1 => ?_)
  obtain ⟨rfl, rfl⟩ := hw1
  refine A_perm (ws' := []) ((cutN _).symm) ?_
  obtain ⟨hz, h0⟩ := ck_some h0
  have h0 := Option.some.inj h0
  subst h0
  exact A_zret C dX6_isLetter_11 hz ⟨rfl, rfl⟩
def f_6_isFigure (x0 : Int32) : Option (Int32) :=
  (f_6_in (x0).toInt64 (48 : Int64) (57 : Int64)).bind (fun z1 => ck (isb z1) (some z1))
theorem c_6_isFigure (l : Launch) (D : va_G) (t : ty4) (x0 : Int32) {r : Int32} (h0 : f_6_isFigure x0 = some r) : MetI l yX6_isFigure cX6_isFigure 1 (some .boolean) (rmD 1) D t [.int x0] [] (fun x w => r = x ∧ [] = w) := by
  refine MetI_of (by decide +kernel) (Nat.le_of_ble_eq_true rfl) (fun p e s m below meth c C _ => ?_)
  unfold f_6_isFigure at h0
  generalize hargs : (List.toArray [.int x0] : Array Value) = args at C ⊢
  refine At.start (lv2 := [(0, .int x0)]) rfl ?_
  refine A_iload_n C 0 dX6_isFigure_0 rfl rfl ?_
  refine A_i2l C dX6_isFigure_1 ?_
  refine A_ldc2 (v := (48 : Int64)) C cl_6_57 dX6_isFigure_2 ?_
  refine A_ldc2 (v := (57 : Int64)) C cl_6_59 dX6_isFigure_5 ?_
  obtain ⟨z1, hz1, h0⟩ := bind_some h0
  refine A_sI (As := [.long (x0).toInt64, .long (48 : Int64), .long (57 : Int64)]) (rest := []) C (c_6_in l D t (x0).toInt64 (48 : Int64) (57 : Int64) hz1) mw_6_in ml_6_45 st_6_in (rmok rfl rfl) (cutN []) rfl rfl (Nat.le_of_ble_eq_true rfl) dX6_isFigure_8 (fun x w1 hw1 => ?_)
  obtain ⟨rfl, rfl⟩ := hw1
  refine A_perm (ws' := []) ((cutN _).symm) ?_
  obtain ⟨hz, h0⟩ := ck_some h0
  have h0 := Option.some.inj h0
  subst h0
  exact A_zret C dX6_isFigure_11 hz ⟨rfl, rfl⟩
def f_6_readLetters_126 (bM : BV) (y0 : Int32) : Option (BV) :=
  some (pI bM 4 y0)
theorem t_6_readLetters_126 (C : CX p s m args meth c cX6_readLetters 2 none RX6 D t) (qM : Nat → Nat) (r : BV) (bM : BV) (y0 : Int32) (h0 : f_6_readLetters_126 bM y0 = some r) : At p l e (rmD 2) s m args below meth c D 2 w0 (QV below args s D w0 (fun w => (wM t qM r) = w) 0 0) 0 0 126 [] [.int y0, .ref (qM 99)] (wM t qM bM) := by
  unfold f_6_readLetters_126 at h0
  refine A_put C 0 4 (wM t qM (pI bM 4 y0)) tyX6 inG6 tyX6_ok nmX6 (ci := 6) rfl (by decide) fl_6_74 rfl rfl rfl rfl rfl (Nat.le_of_ble_eq_true rfl) rfl dX6_readLetters_126 ?_
  have h0 := Option.some.inj h0
  subst h0
  exact A_vret C dX6_readLetters_129 rfl
def f_6_readLetters_125 (bM : BV) : Option (BV) :=
  f_6_readLetters_126 bM (4 : Int32)
theorem t_6_readLetters_125 (C : CX p s m args meth c cX6_readLetters 2 none RX6 D t) (qM : Nat → Nat) (r : BV) (bM : BV) (h0 : f_6_readLetters_125 bM = some r) : At p l e (rmD 2) s m args below meth c D 2 w0 (QV below args s D w0 (fun w => (wM t qM r) = w) 0 0) 0 0 125 [] [.ref (qM 99)] (wM t qM bM) := by
  unfold f_6_readLetters_125 at h0
  refine A_iconst C (4 : Int32) dX6_readLetters_125 (by decide) ?_
  exact A_loc [] rfl (t_6_readLetters_126 C qM r bM (4 : Int32) h0)
def f_6_readLetters_102 (bM : BV) (y0 : Int32) : Option (BV) :=
  if ((gI bM 2) - (gI bM 3)) = (1 : Int32) then (if y0 = 0 then (f_6_readLetters_125 bM) else (f_6_readLetters_126 bM (1 : Int32))) else (f_6_readLetters_125 bM)
theorem t_6_readLetters_102 (C : CX p s m args meth c cX6_readLetters 2 none RX6 D t) (qM : Nat → Nat) (r : BV) (bM : BV) (y0 : Int32) (h0 : f_6_readLetters_102 bM y0 = some r) : At p l e (rmD 2) s m args below meth c D 2 w0 (QV below args s D w0 (fun w => (wM t qM r) = w) 0 0) 0 0 102 [(0, .ref (qM 99))] [.int y0] (wM t qM bM) := by
  unfold f_6_readLetters_102 at h0
  refine A_istore_n C [(1, .int y0), (0, .ref (qM 99))] dX6_readLetters_102 rfl (by decide) rfl ?_
  refine A_aload_n C 1 dX6_readLetters_103 rfl rfl ?_
  refine A_aload_n C 1 dX6_readLetters_104 rfl rfl ?_
  refine A_get (v := .int (gI bM 2)) C 0 2 inG6 (ci := 6) rfl (by decide) fl_6_61 rfl rfl rfl dX6_readLetters_105 ?_
  refine A_aload_n C 1 dX6_readLetters_108 rfl rfl ?_
  refine A_get (v := .int (gI bM 3)) C 0 3 inG6 (ci := 6) rfl (by decide) fl_6_71 rfl rfl rfl dX6_readLetters_109 ?_
  refine A_isub C dX6_readLetters_112 ?_
  refine A_iconst C (1 : Int32) dX6_readLetters_113 (by decide) ?_
  refine A_icmp_ne C 125 dX6_readLetters_114 (by decide) h0 (fun h0 => ?_) (fun h0 => ?_)
  · exact A_loc [] rfl (t_6_readLetters_125 C qM r bM h0)
  · refine A_iload_n C 0 dX6_readLetters_117 rfl rfl ?_
    refine A_if_eq C 125 dX6_readLetters_118 (by decide) h0 (fun h0 => ?_) (fun h0 => ?_)
    · exact A_loc [] rfl (t_6_readLetters_125 C qM r bM h0)
    · refine A_iconst C (1 : Int32) dX6_readLetters_121 (by decide) ?_
      refine A_goto C 126 dX6_readLetters_122 (by decide) ?_
      exact A_loc [] rfl (t_6_readLetters_126 C qM r bM (1 : Int32) h0)
def f_6_readLetters_97 (bM : BV) : Option (BV) :=
  f_6_readLetters_102 bM (1 : Int32)
theorem t_6_readLetters_97 (C : CX p s m args meth c cX6_readLetters 2 none RX6 D t) (qM : Nat → Nat) (r : BV) (bM : BV) (h0 : f_6_readLetters_97 bM = some r) : At p l e (rmD 2) s m args below meth c D 2 w0 (QV below args s D w0 (fun w => (wM t qM r) = w) 0 0) 0 0 97 [(0, .ref (qM 99))] [] (wM t qM bM) := by
  unfold f_6_readLetters_97 at h0
  refine A_iconst C (1 : Int32) dX6_readLetters_97 (by decide) ?_
  refine A_goto C 102 dX6_readLetters_98 (by decide) ?_
  exact A_loc [0] rfl (t_6_readLetters_102 C qM r bM (1 : Int32) h0)
def f_6_readLetters_52 (bM : BV) : Option (BV) :=
  if (gI bM 5) = (115 : Int32) then (f_6_readLetters_97 bM) else (if (gI bM 5) = (99 : Int32) then (f_6_readLetters_97 bM) else (if (gI bM 5) = (112 : Int32) then (f_6_readLetters_97 bM) else (if (gI bM 5) = (105 : Int32) then (f_6_readLetters_97 bM) else (if (gI bM 5) = (108 : Int32) then (f_6_readLetters_97 bM) else (f_6_readLetters_102 bM (0 : Int32))))))
theorem t_6_readLetters_52 (C : CX p s m args meth c cX6_readLetters 2 none RX6 D t) (qM : Nat → Nat) (r : BV) (bM : BV) (h0 : f_6_readLetters_52 bM = some r) : At p l e (rmD 2) s m args below meth c D 2 w0 (QV below args s D w0 (fun w => (wM t qM r) = w) 0 0) 0 0 52 [(0, .ref (qM 99))] [] (wM t qM bM) := by
  unfold f_6_readLetters_52 at h0
  refine A_aload_n C 0 dX6_readLetters_52 rfl rfl ?_
  refine A_get (v := .int (gI bM 5)) C 0 5 inG6 (ci := 6) rfl (by decide) fl_6_64 rfl rfl rfl dX6_readLetters_53 ?_
  refine A_bipush C (115 : Int32) dX6_readLetters_56 (by decide) ?_
  refine A_icmp_eq C 97 dX6_readLetters_58 (by decide) h0 (fun h0 => ?_) (fun h0 => ?_)
  · exact A_loc [0] rfl (t_6_readLetters_97 C qM r bM h0)
  · refine A_aload_n C 0 dX6_readLetters_61 rfl rfl ?_
    refine A_get (v := .int (gI bM 5)) C 0 5 inG6 (ci := 6) rfl (by decide) fl_6_64 rfl rfl rfl dX6_readLetters_62 ?_
    refine A_bipush C (99 : Int32) dX6_readLetters_65 (by decide) ?_
    refine A_icmp_eq C 97 dX6_readLetters_67 (by decide) h0 (fun h0 => ?_) (fun h0 => ?_)
    · exact A_loc [0] rfl (t_6_readLetters_97 C qM r bM h0)
    · refine A_aload_n C 0 dX6_readLetters_70 rfl rfl ?_
      refine A_get (v := .int (gI bM 5)) C 0 5 inG6 (ci := 6) rfl (by decide) fl_6_64 rfl rfl rfl dX6_readLetters_71 ?_
      refine A_bipush C (112 : Int32) dX6_readLetters_74 (by decide) ?_
      refine A_icmp_eq C 97 dX6_readLetters_76 (by decide) h0 (fun h0 => ?_) (fun h0 => ?_)
      · exact A_loc [0] rfl (t_6_readLetters_97 C qM r bM h0)
      · refine A_aload_n C 0 dX6_readLetters_79 rfl rfl ?_
        refine A_get (v := .int (gI bM 5)) C 0 5 inG6 (ci := 6) rfl (by decide) fl_6_64 rfl rfl rfl dX6_readLetters_80 ?_
        refine A_bipush C (105 : Int32) dX6_readLetters_83 (by decide) ?_
        refine A_icmp_eq C 97 dX6_readLetters_85 (by decide) h0 (fun h0 => ?_) (fun h0 => ?_)
        · exact A_loc [0] rfl (t_6_readLetters_97 C qM r bM h0)
        · refine A_aload_n C 0 dX6_readLetters_88 rfl rfl ?_
          refine A_get (v := .int (gI bM 5)) C 0 5 inG6 (ci := 6) rfl (by decide) fl_6_64 rfl rfl rfl dX6_readLetters_89 ?_
          refine A_bipush C (108 : Int32) dX6_readLetters_92 (by decide) ?_
          refine A_icmp_ne C 101 dX6_readLetters_94 (by decide) h0 (fun h0 => ?_) (fun h0 => ?_)
          · refine A_iconst C (0 : Int32) dX6_readLetters_101 (by decide) ?_
            exact A_loc [0] rfl (t_6_readLetters_102 C qM r bM (0 : Int32) h0)
          · exact A_loc [0] rfl (t_6_readLetters_97 C qM r bM h0)
def f_6_readLetters_13_b (k13 : BV → Option (BV)) (bM : BV) : Option (BV) :=
  if (gI bM 1) ≤ (gI bM 2) then (f_6_readLetters_52 bM) else (ck (inb (gI bM 2) 150) ((f_6_isLetter (gA bM 0 (gI bM 2))).bind (fun z1 => if z1 = 0 then (f_6_readLetters_52 bM) else (k13 (pI bM 2 ((gI bM 2) + (1 : Int32)))))))
theorem t_6_readLetters_13_b (C : CX p s m args meth c cX6_readLetters 2 none RX6 D t) (qM : Nat → Nat) (r : BV) (k13 : BV → Option (BV)) (K13 : ∀ (bM : BV), k13 bM = some r → At p l e (rmD 2) s m args below meth c D 2 w0 (QV below args s D w0 (fun w => (wM t qM r) = w) 0 0) 0 0 13 [(0, .ref (qM 99))] [] (wM t qM bM)) (bM : BV) (h0 : f_6_readLetters_13_b k13 bM = some r) : At p l e (rmD 2) s m args below meth c D 2 w0 (QV below args s D w0 (fun w => (wM t qM r) = w) 0 0) 0 0 13 [(0, .ref (qM 99))] [] (wM t qM bM) := by
  unfold f_6_readLetters_13_b at h0
  refine A_aload_n C 0 dX6_readLetters_13 rfl rfl ?_
  refine A_get (v := .int (gI bM 2)) C 0 2 inG6 (ci := 6) rfl (by decide) fl_6_61 rfl rfl rfl dX6_readLetters_14 ?_
  refine A_aload_n C 0 dX6_readLetters_17 rfl rfl ?_
  refine A_get (v := .int (gI bM 1)) C 0 1 inG6 (ci := 6) rfl (by decide) fl_6_49 rfl rfl rfl dX6_readLetters_18 ?_
  refine A_icmp_ge C 52 dX6_readLetters_21 (by decide) h0 (fun h0 => ?_) (fun h0 => ?_)
  · exact A_loc [0] rfl (t_6_readLetters_52 C qM r bM h0)
  · refine A_aload_n C 0 dX6_readLetters_24 rfl rfl ?_
    refine A_get (v := .ref (qM 0)) C 0 0 inG6 (ci := 6) rfl (by decide) fl_6_7 rfl rfl rfl dX6_readLetters_25 ?_
    refine A_aload_n C 0 dX6_readLetters_28 rfl rfl ?_
    refine A_get (v := .int (gI bM 2)) C 0 2 inG6 (ci := 6) rfl (by decide) fl_6_61 rfl rfl rfl dX6_readLetters_29 ?_
    refine A_iald C 1 (gA bM 0 (gI bM 2)) rfl rfl dX6_readLetters_32 h0 (fun h0 => ?_)
    obtain ⟨z1, hz1, h0⟩ := bind_some h0
    refine A_sI (As := [.int (gA bM 0 (gI bM 2))]) (rest := []) C (c_6_isLetter l D t (gA bM 0 (gI bM 2)) hz1) mw_6_isLetter ml_6_67 st_6_isLetter (rmok rfl rfl) (cutN (wM t qM bM)) rfl rfl (Nat.le_of_ble_eq_true rfl) dX6_readLetters_33 (fun x w1 hw1 => ?_)
    obtain ⟨rfl, rfl⟩ := hw1
    refine A_perm (ws' := (wM t qM bM)) ((cutN _).symm) ?_
    refine A_if_eq C 52 dX6_readLetters_36 (by decide) h0 (fun h0 => ?_) (fun h0 => ?_)
    · exact A_loc [0] rfl (t_6_readLetters_52 C qM r bM h0)
    · refine A_aload_n C 0 dX6_readLetters_39 rfl rfl ?_
      refine A_dup C dX6_readLetters_40 rfl ?_
      refine A_get (v := .int (gI bM 2)) C 0 2 inG6 (ci := 6) rfl (by decide) fl_6_61 rfl rfl rfl dX6_readLetters_41 ?_
      refine A_iconst C (1 : Int32) dX6_readLetters_44 (by decide) ?_
      refine A_iadd C dX6_readLetters_45 ?_
      refine A_put C 0 2 (wM t qM (pI bM 2 ((gI bM 2) + (1 : Int32)))) tyX6 inG6 tyX6_ok nmX6 (ci := 6) rfl (by decide) fl_6_61 rfl rfl rfl rfl rfl (Nat.le_of_ble_eq_true rfl) rfl dX6_readLetters_46 ?_
      refine A_goto C 13 dX6_readLetters_49 (by decide) ?_
      exact A_loc [0] rfl (K13 (pI bM 2 ((gI bM 2) + (1 : Int32))) h0)
def f_6_readLetters_13 : Nat → BV → Option (BV)
  | 0 => fun _ => none
  | n + 1 => f_6_readLetters_13_b (f_6_readLetters_13 n)
theorem t_6_readLetters_13 (C : CX p s m args meth c cX6_readLetters 2 none RX6 D t) (qM : Nat → Nat) (r : BV) : ∀ (n : Nat), ∀ (bM : BV), f_6_readLetters_13 n bM = some r → At p l e (rmD 2) s m args below meth c D 2 w0 (QV below args s D w0 (fun w => (wM t qM r) = w) 0 0) 0 0 13 [(0, .ref (qM 99))] [] (wM t qM bM) := by
  intro n
  induction n with
  | zero =>
    intro bM h0
    have h0 : none = some r := h0
    cases h0
  | succ n ih =>
    intro bM h0
    exact t_6_readLetters_13_b C qM r _ ih bM h0
def f_6_readLetters (bM : BV) : Option (BV) :=
  ck (inb (gI bM 2) 150) (f_6_readLetters_13 200 (pI bM 5 (gA bM 0 (gI bM 2))))
theorem c_6_readLetters (l : Launch) (D : va_G) (t : ty4) (qM : Nat → Nat) (bM : BV) {r : BV} (h0 : f_6_readLetters bM = some r) : MetV l yX6_readLetters cX6_readLetters 2 none (rmD 2) D t [.ref (qM 99)] (wM t qM bM) (fun w => (wM t qM r) = w) := by
  refine MetV_of (by decide +kernel) (Nat.le_of_ble_eq_true rfl) (fun p e s m below meth c C _ => ?_)
  unfold f_6_readLetters at h0
  generalize hargs : (List.toArray [.ref (qM 99)] : Array Value) = args at C ⊢
  refine At.start (lv2 := [(0, .ref (qM 99))]) rfl ?_
  refine A_aload_n C 0 dX6_readLetters_0 rfl rfl ?_
  refine A_aload_n C 0 dX6_readLetters_1 rfl rfl ?_
  refine A_get (v := .ref (qM 0)) C 0 0 inG6 (ci := 6) rfl (by decide) fl_6_7 rfl rfl rfl dX6_readLetters_2 ?_
  refine A_aload_n C 0 dX6_readLetters_5 rfl rfl ?_
  refine A_get (v := .int (gI bM 2)) C 0 2 inG6 (ci := 6) rfl (by decide) fl_6_61 rfl rfl rfl dX6_readLetters_6 ?_
  refine A_iald C 1 (gA bM 0 (gI bM 2)) rfl rfl dX6_readLetters_9 h0 (fun h0 => ?_)
  refine A_put C 0 5 (wM t qM (pI bM 5 (gA bM 0 (gI bM 2)))) tyX6 inG6 tyX6_ok nmX6 (ci := 6) rfl (by decide) fl_6_64 rfl rfl rfl rfl rfl (Nat.le_of_ble_eq_true rfl) rfl dX6_readLetters_10 ?_
  exact A_loc [0] rfl (t_6_readLetters_13 C qM r 200 (pI bM 5 (gA bM 0 (gI bM 2))) h0)
def f_6_readNumber_108 (bM : BV) (x1 : Int32) (y0 : Int32) : Option (BV) :=
  some (pI (pI bM 4 y0) 5 x1)
theorem t_6_readNumber_108 (C : CX p s m args meth c cX6_readNumber 2 none RX6 D t) (qM : Nat → Nat) (r : BV) (bM : BV) (x1 : Int32) (y0 : Int32) (h0 : f_6_readNumber_108 bM x1 y0 = some r) : At p l e (rmD 2) s m args below meth c D 2 w0 (QV below args s D w0 (fun w => (wM t qM r) = w) 0 0) 0 0 108 [(0, .ref (qM 99)), (1, .int x1)] [.int y0, .ref (qM 99)] (wM t qM bM) := by
  unfold f_6_readNumber_108 at h0
  refine A_put C 0 4 (wM t qM (pI bM 4 y0)) tyX6 inG6 tyX6_ok nmX6 (ci := 6) rfl (by decide) fl_6_74 rfl rfl rfl rfl rfl (Nat.le_of_ble_eq_true rfl) rfl dX6_readNumber_108 ?_
  refine A_aload_n C 0 dX6_readNumber_111 rfl rfl ?_
  refine A_iload_n C 1 dX6_readNumber_112 rfl rfl ?_
  refine A_put C 0 5 (wM t qM (pI (pI bM 4 y0) 5 x1)) tyX6 inG6 tyX6_ok nmX6 (ci := 6) rfl (by decide) fl_6_64 rfl rfl rfl rfl rfl (Nat.le_of_ble_eq_true rfl) rfl dX6_readNumber_113 ?_
  have h0 := Option.some.inj h0
  subst h0
  exact A_vret C dX6_readNumber_116 rfl
def f_6_readNumber_107 (bM : BV) (x1 : Int32) : Option (BV) :=
  f_6_readNumber_108 bM x1 (2 : Int32)
theorem t_6_readNumber_107 (C : CX p s m args meth c cX6_readNumber 2 none RX6 D t) (qM : Nat → Nat) (r : BV) (bM : BV) (x1 : Int32) (h0 : f_6_readNumber_107 bM x1 = some r) : At p l e (rmD 2) s m args below meth c D 2 w0 (QV below args s D w0 (fun w => (wM t qM r) = w) 0 0) 0 0 107 [(0, .ref (qM 99)), (1, .int x1)] [.ref (qM 99)] (wM t qM bM) := by
  unfold f_6_readNumber_107 at h0
  refine A_iconst C (2 : Int32) dX6_readNumber_107 (by decide) ?_
  exact A_loc [0, 1] rfl (t_6_readNumber_108 C qM r bM x1 (2 : Int32) h0)
def f_6_readNumber_103 (bM : BV) (x1 : Int32) : Option (BV) :=
  f_6_readNumber_108 bM x1 (4 : Int32)
theorem t_6_readNumber_103 (C : CX p s m args meth c cX6_readNumber 2 none RX6 D t) (qM : Nat → Nat) (r : BV) (bM : BV) (x1 : Int32) (h0 : f_6_readNumber_103 bM x1 = some r) : At p l e (rmD 2) s m args below meth c D 2 w0 (QV below args s D w0 (fun w => (wM t qM r) = w) 0 0) 0 0 103 [(0, .ref (qM 99)), (1, .int x1)] [.ref (qM 99)] (wM t qM bM) := by
  unfold f_6_readNumber_103 at h0
  refine A_iconst C (4 : Int32) dX6_readNumber_103 (by decide) ?_
  refine A_goto C 108 dX6_readNumber_104 (by decide) ?_
  exact A_loc [0, 1] rfl (t_6_readNumber_108 C qM r bM x1 (4 : Int32) h0)
def f_6_readNumber_69 (bM : BV) (x1 : Int32) : Option (BV) :=
  if (99 : Int32) < x1 then (f_6_readNumber_103 bM x1) else (if ((gI bM 2) - (gI bM 3)) ≤ (1 : Int32) then (f_6_readNumber_107 bM x1) else (ck (inb (gI bM 3) 150) (if (gA bM 0 (gI bM 3)) = (48 : Int32) then (f_6_readNumber_103 bM x1) else (f_6_readNumber_107 bM x1))))
theorem t_6_readNumber_69 (C : CX p s m args meth c cX6_readNumber 2 none RX6 D t) (qM : Nat → Nat) (r : BV) (bM : BV) (x1 : Int32) (h0 : f_6_readNumber_69 bM x1 = some r) : At p l e (rmD 2) s m args below meth c D 2 w0 (QV below args s D w0 (fun w => (wM t qM r) = w) 0 0) 0 0 69 [(0, .ref (qM 99)), (1, .int x1)] [] (wM t qM bM) := by
  unfold f_6_readNumber_69 at h0
  refine A_aload_n C 0 dX6_readNumber_69 rfl rfl ?_
  refine A_iload_n C 1 dX6_readNumber_70 rfl rfl ?_
  refine A_bipush C (99 : Int32) dX6_readNumber_71 (by decide) ?_
  refine A_icmp_gt C 103 dX6_readNumber_73 (by decide) h0 (fun h0 => ?_) (fun h0 => ?_)
  · exact A_loc [0, 1] rfl (t_6_readNumber_103 C qM r bM x1 h0)
  · refine A_aload_n C 0 dX6_readNumber_76 rfl rfl ?_
    refine A_get (v := .int (gI bM 2)) C 0 2 inG6 (ci := 6) rfl (by decide) fl_6_61 rfl rfl rfl dX6_readNumber_77 ?_
    refine A_aload_n C 0 dX6_readNumber_80 rfl rfl ?_
    refine A_get (v := .int (gI bM 3)) C 0 3 inG6 (ci := 6) rfl (by decide) fl_6_71 rfl rfl rfl dX6_readNumber_81 ?_
    refine A_isub C dX6_readNumber_84 ?_
    refine A_iconst C (1 : Int32) dX6_readNumber_85 (by decide) ?_
    refine A_icmp_le C 107 dX6_readNumber_86 (by decide) h0 (fun h0 => ?_) (fun h0 => ?_)
    · exact A_loc [0, 1] rfl (t_6_readNumber_107 C qM r bM x1 h0)
    · refine A_aload_n C 0 dX6_readNumber_89 rfl rfl ?_
      refine A_get (v := .ref (qM 0)) C 0 0 inG6 (ci := 6) rfl (by decide) fl_6_7 rfl rfl rfl dX6_readNumber_90 ?_
      refine A_aload_n C 0 dX6_readNumber_93 rfl rfl ?_
      refine A_get (v := .int (gI bM 3)) C 0 3 inG6 (ci := 6) rfl (by decide) fl_6_71 rfl rfl rfl dX6_readNumber_94 ?_
      refine A_iald C 1 (gA bM 0 (gI bM 3)) rfl rfl dX6_readNumber_97 h0 (fun h0 => ?_)
      refine A_bipush C (48 : Int32) dX6_readNumber_98 (by decide) ?_
      refine A_icmp_ne C 107 dX6_readNumber_100 (by decide) h0 (fun h0 => ?_) (fun h0 => ?_)
      · exact A_loc [0, 1] rfl (t_6_readNumber_107 C qM r bM x1 h0)
      · exact A_loc [0, 1] rfl (t_6_readNumber_103 C qM r bM x1 h0)
def f_6_readNumber_55 (k2 : BV → Int32 → Option (BV)) (bM : BV) (y0 : Int32) : Option (BV) :=
  k2 (pI bM 2 ((gI bM 2) + (1 : Int32))) y0
theorem t_6_readNumber_55 (C : CX p s m args meth c cX6_readNumber 2 none RX6 D t) (qM : Nat → Nat) (r : BV) (k2 : BV → Int32 → Option (BV)) (K2 : ∀ (bM : BV) (x1 : Int32), k2 bM x1 = some r → At p l e (rmD 2) s m args below meth c D 2 w0 (QV below args s D w0 (fun w => (wM t qM r) = w) 0 0) 0 0 2 [(0, .ref (qM 99)), (1, .int x1)] [] (wM t qM bM)) (bM : BV) (y0 : Int32) (h0 : f_6_readNumber_55 k2 bM y0 = some r) : At p l e (rmD 2) s m args below meth c D 2 w0 (QV below args s D w0 (fun w => (wM t qM r) = w) 0 0) 0 0 55 [(0, .ref (qM 99))] [.int y0] (wM t qM bM) := by
  unfold f_6_readNumber_55 at h0
  refine A_istore_n C [(1, .int y0), (0, .ref (qM 99))] dX6_readNumber_55 rfl (by decide) rfl ?_
  refine A_aload_n C 1 dX6_readNumber_56 rfl rfl ?_
  refine A_dup C dX6_readNumber_57 rfl ?_
  refine A_get (v := .int (gI bM 2)) C 0 2 inG6 (ci := 6) rfl (by decide) fl_6_61 rfl rfl rfl dX6_readNumber_58 ?_
  refine A_iconst C (1 : Int32) dX6_readNumber_61 (by decide) ?_
  refine A_iadd C dX6_readNumber_62 ?_
  refine A_put C 0 2 (wM t qM (pI bM 2 ((gI bM 2) + (1 : Int32)))) tyX6 inG6 tyX6_ok nmX6 (ci := 6) rfl (by decide) fl_6_61 rfl rfl rfl rfl rfl (Nat.le_of_ble_eq_true rfl) rfl dX6_readNumber_63 ?_
  refine A_goto C 2 dX6_readNumber_66 (by decide) ?_
  exact A_loc [1, 0] rfl (K2 (pI bM 2 ((gI bM 2) + (1 : Int32))) y0 h0)
def f_6_readNumber_2_b (k2 : BV → Int32 → Option (BV)) (bM : BV) (x1 : Int32) : Option (BV) :=
  if (gI bM 1) ≤ (gI bM 2) then (f_6_readNumber_69 bM x1) else (ck (inb (gI bM 2) 150) ((f_6_isFigure (gA bM 0 (gI bM 2))).bind (fun z1 => if z1 = 0 then (f_6_readNumber_69 bM x1) else (if x1 ≤ (99 : Int32) then (ck (inb (gI bM 2) 150) (f_6_readNumber_55 k2 bM ((((10 : Int32) * x1) + (gA bM 0 (gI bM 2))) - (48 : Int32)))) else (f_6_readNumber_55 k2 bM x1)))))
theorem t_6_readNumber_2_b (C : CX p s m args meth c cX6_readNumber 2 none RX6 D t) (qM : Nat → Nat) (r : BV) (k2 : BV → Int32 → Option (BV)) (K2 : ∀ (bM : BV) (x1 : Int32), k2 bM x1 = some r → At p l e (rmD 2) s m args below meth c D 2 w0 (QV below args s D w0 (fun w => (wM t qM r) = w) 0 0) 0 0 2 [(0, .ref (qM 99)), (1, .int x1)] [] (wM t qM bM)) (bM : BV) (x1 : Int32) (h0 : f_6_readNumber_2_b k2 bM x1 = some r) : At p l e (rmD 2) s m args below meth c D 2 w0 (QV below args s D w0 (fun w => (wM t qM r) = w) 0 0) 0 0 2 [(0, .ref (qM 99)), (1, .int x1)] [] (wM t qM bM) := by
  unfold f_6_readNumber_2_b at h0
  refine A_aload_n C 0 dX6_readNumber_2 rfl rfl ?_
  refine A_get (v := .int (gI bM 2)) C 0 2 inG6 (ci := 6) rfl (by decide) fl_6_61 rfl rfl rfl dX6_readNumber_3 ?_
  refine A_aload_n C 0 dX6_readNumber_6 rfl rfl ?_
  refine A_get (v := .int (gI bM 1)) C 0 1 inG6 (ci := 6) rfl (by decide) fl_6_49 rfl rfl rfl dX6_readNumber_7 ?_
  refine A_icmp_ge C 69 dX6_readNumber_10 (by decide) h0 (fun h0 => ?_) (fun h0 => ?_)
  · exact A_loc [0, 1] rfl (t_6_readNumber_69 C qM r bM x1 h0)
  · refine A_aload_n C 0 dX6_readNumber_13 rfl rfl ?_
    refine A_get (v := .ref (qM 0)) C 0 0 inG6 (ci := 6) rfl (by decide) fl_6_7 rfl rfl rfl dX6_readNumber_14 ?_
    refine A_aload_n C 0 dX6_readNumber_17 rfl rfl ?_
    refine A_get (v := .int (gI bM 2)) C 0 2 inG6 (ci := 6) rfl (by decide) fl_6_61 rfl rfl rfl dX6_readNumber_18 ?_
    refine A_iald C 1 (gA bM 0 (gI bM 2)) rfl rfl dX6_readNumber_21 h0 (fun h0 => ?_)
    obtain ⟨z1, hz1, h0⟩ := bind_some h0
    refine A_sI (As := [.int (gA bM 0 (gI bM 2))]) (rest := []) C (c_6_isFigure l D t (gA bM 0 (gI bM 2)) hz1) mw_6_isFigure ml_6_77 st_6_isFigure (rmok rfl rfl) (cutN (wM t qM bM)) rfl rfl (Nat.le_of_ble_eq_true rfl) dX6_readNumber_22 (fun x w1 hw1 => ?_)
    obtain ⟨rfl, rfl⟩ := hw1
    refine A_perm (ws' := (wM t qM bM)) ((cutN _).symm) ?_
    refine A_if_eq C 69 dX6_readNumber_25 (by decide) h0 (fun h0 => ?_) (fun h0 => ?_)
    · exact A_loc [0, 1] rfl (t_6_readNumber_69 C qM r bM x1 h0)
    · refine A_iload_n C 1 dX6_readNumber_28 rfl rfl ?_
      refine A_bipush C (99 : Int32) dX6_readNumber_29 (by decide) ?_
      refine A_icmp_le C 38 dX6_readNumber_31 (by decide) h0 (fun h0 => ?_) (fun h0 => ?_)
      · refine A_bipush C (10 : Int32) dX6_readNumber_38 (by decide) ?_
        refine A_iload_n C 1 dX6_readNumber_40 rfl rfl ?_
        refine A_imul C dX6_readNumber_41 ?_
        refine A_aload_n C 0 dX6_readNumber_42 rfl rfl ?_
        refine A_get (v := .ref (qM 0)) C 0 0 inG6 (ci := 6) rfl (by decide) fl_6_7 rfl rfl rfl dX6_readNumber_43 ?_
        refine A_aload_n C 0 dX6_readNumber_46 rfl rfl ?_
        refine A_get (v := .int (gI bM 2)) C 0 2 inG6 (ci := 6) rfl (by decide) fl_6_61 rfl rfl rfl dX6_readNumber_47 ?_
        refine A_iald C 1 (gA bM 0 (gI bM 2)) rfl rfl dX6_readNumber_50 h0 (fun h0 => ?_)
        refine A_iadd C dX6_readNumber_51 ?_
        refine A_bipush C (48 : Int32) dX6_readNumber_52 (by decide) ?_
        refine A_isub C dX6_readNumber_54 ?_
        exact A_loc [0] rfl (t_6_readNumber_55 C qM r k2 K2 bM ((((10 : Int32) * x1) + (gA bM 0 (gI bM 2))) - (48 : Int32)) h0)
      · refine A_iload_n C 1 dX6_readNumber_34 rfl rfl ?_
        refine A_goto C 55 dX6_readNumber_35 (by decide) ?_
        exact A_loc [0] rfl (t_6_readNumber_55 C qM r k2 K2 bM x1 h0)
def f_6_readNumber_2 : Nat → BV → Int32 → Option (BV)
  | 0 => fun _ _ => none
  | n + 1 => f_6_readNumber_2_b (f_6_readNumber_2 n)
theorem t_6_readNumber_2 (C : CX p s m args meth c cX6_readNumber 2 none RX6 D t) (qM : Nat → Nat) (r : BV) : ∀ (n : Nat), ∀ (bM : BV) (x1 : Int32), f_6_readNumber_2 n bM x1 = some r → At p l e (rmD 2) s m args below meth c D 2 w0 (QV below args s D w0 (fun w => (wM t qM r) = w) 0 0) 0 0 2 [(0, .ref (qM 99)), (1, .int x1)] [] (wM t qM bM) := by
  intro n
  induction n with
  | zero =>
    intro bM x1 h0
    have h0 : none = some r := h0
    cases h0
  | succ n ih =>
    intro bM x1 h0
    exact t_6_readNumber_2_b C qM r _ ih bM x1 h0
def f_6_readNumber (bM : BV) : Option (BV) :=
  f_6_readNumber_2 200 bM (0 : Int32)
theorem c_6_readNumber (l : Launch) (D : va_G) (t : ty4) (qM : Nat → Nat) (bM : BV) {r : BV} (h0 : f_6_readNumber bM = some r) : MetV l yX6_readNumber cX6_readNumber 2 none (rmD 2) D t [.ref (qM 99)] (wM t qM bM) (fun w => (wM t qM r) = w) := by
  refine MetV_of (by decide +kernel) (Nat.le_of_ble_eq_true rfl) (fun p e s m below meth c C _ => ?_)
  unfold f_6_readNumber at h0
  generalize hargs : (List.toArray [.ref (qM 99)] : Array Value) = args at C ⊢
  refine At.start (lv2 := [(0, .ref (qM 99))]) rfl ?_
  refine A_iconst C (0 : Int32) dX6_readNumber_0 (by decide) ?_
  refine A_istore_n C [(1, .int (0 : Int32)), (0, .ref (qM 99))] dX6_readNumber_1 rfl (by decide) rfl ?_
  exact A_loc [1, 0] rfl (t_6_readNumber_2 C qM r 200 bM (0 : Int32) h0)
def f_6_reads_142 (bM : BV) : Option (BV) :=
  some bM
theorem t_6_reads_142 (C : CX p s m args meth c cX6_reads 1 none RX6 D t) (qM : Nat → Nat) (r : BV) (bM : BV) (h0 : f_6_reads_142 bM = some r) : At p l e (rmD 3) s m args below meth c D 1 w0 (QV below args s D w0 (fun w => (wM t qM r) = w) 0 0) 0 0 142 [] [] (wM t qM bM) := by
  unfold f_6_reads_142 at h0
  have h0 := Option.some.inj h0
  subst h0
  exact A_vret C dX6_reads_142 rfl
def f_6_reads_129 (bM : BV) (y0 : Int32) : Option (BV) :=
  f_6_reads_142 (pI (pI bM 2 ((gI bM 2) + (1 : Int32))) 4 y0)
theorem t_6_reads_129 (C : CX p s m args meth c cX6_reads 1 none RX6 D t) (qM : Nat → Nat) (r : BV) (bM : BV) (y0 : Int32) (h0 : f_6_reads_129 bM y0 = some r) : At p l e (rmD 3) s m args below meth c D 1 w0 (QV below args s D w0 (fun w => (wM t qM r) = w) 0 0) 0 0 129 [(0, .ref (qM 99))] [.int y0, .ref (qM 99)] (wM t qM bM) := by
  unfold f_6_reads_129 at h0
  refine A_put C 0 4 (wM t qM (pI bM 4 y0)) tyX6 inG6 tyX6_ok nmX6 (ci := 6) rfl (by decide) fl_6_74 rfl rfl rfl rfl rfl (Nat.le_of_ble_eq_true rfl) rfl dX6_reads_129 ?_
  refine A_aload_n C 0 dX6_reads_132 rfl rfl ?_
  refine A_dup C dX6_reads_133 rfl ?_
  refine A_get (v := .int (gI bM 2)) C 0 2 inG6 (ci := 6) rfl (by decide) fl_6_61 rfl rfl rfl dX6_reads_134 ?_
  refine A_iconst C (1 : Int32) dX6_reads_137 (by decide) ?_
  refine A_iadd C dX6_reads_138 ?_
  refine A_put C 0 2 (wM t qM (pI (pI bM 2 ((gI bM 2) + (1 : Int32))) 4 y0)) tyX6 inG6 tyX6_ok nmX6 (ci := 6) rfl (by decide) fl_6_61 rfl rfl rfl rfl rfl (Nat.le_of_ble_eq_true rfl) rfl dX6_reads_139 ?_
  exact A_loc [] rfl (t_6_reads_142 C qM r (pI (pI bM 2 ((gI bM 2) + (1 : Int32))) 4 y0) h0)
def f_6_reads_38 (bM : BV) : Option (BV) :=
  if (gI bM 2) = (gI bM 1) then (f_6_reads_142 (pI (pI bM 3 (gI bM 2)) 4 (0 : Int32))) else (ck (inb (gI bM 2) 150) ((f_6_isLetter (gA bM 0 (gI bM 2))).bind (fun z1 => if z1 = 0 then (ck (inb (gI bM 2) 150) ((f_6_isFigure (gA bM 0 (gI bM 2))).bind (fun z2 => if z2 = 0 then (ck (inb (gI bM 2) 150) (if (gA bM 0 (gI bM 2)) = (59 : Int32) then (f_6_reads_129 (pI bM 3 (gI bM 2)) (3 : Int32)) else (f_6_reads_129 (pI bM 3 (gI bM 2)) (4 : Int32)))) else ((f_6_readNumber (pI bM 3 (gI bM 2))).bind (fun z3 => f_6_reads_142 z3))))) else ((f_6_readLetters (pI bM 3 (gI bM 2))).bind (fun z4 => f_6_reads_142 z4)))))
theorem t_6_reads_38 (C : CX p s m args meth c cX6_reads 1 none RX6 D t) (qM : Nat → Nat) (r : BV) (bM : BV) (h0 : f_6_reads_38 bM = some r) : At p l e (rmD 3) s m args below meth c D 1 w0 (QV below args s D w0 (fun w => (wM t qM r) = w) 0 0) 0 0 38 [(0, .ref (qM 99))] [] (wM t qM bM) := by
  unfold f_6_reads_38 at h0
  refine A_aload_n C 0 dX6_reads_38 rfl rfl ?_
  refine A_aload_n C 0 dX6_reads_39 rfl rfl ?_
  refine A_get (v := .int (gI bM 2)) C 0 2 inG6 (ci := 6) rfl (by decide) fl_6_61 rfl rfl rfl dX6_reads_40 ?_
  refine A_put C 0 3 (wM t qM (pI bM 3 (gI bM 2))) tyX6 inG6 tyX6_ok nmX6 (ci := 6) rfl (by decide) fl_6_71 rfl rfl rfl rfl rfl (Nat.le_of_ble_eq_true rfl) rfl dX6_reads_43 ?_
  refine A_aload_n C 0 dX6_reads_46 rfl rfl ?_
  refine A_get (v := .int (gI bM 2)) C 0 2 inG6 (ci := 6) rfl (by decide) fl_6_61 rfl rfl rfl dX6_reads_47 ?_
  refine A_aload_n C 0 dX6_reads_50 rfl rfl ?_
  refine A_get (v := .int (gI bM 1)) C 0 1 inG6 (ci := 6) rfl (by decide) fl_6_49 rfl rfl rfl dX6_reads_51 ?_
  refine A_icmp_ne C 65 dX6_reads_54 (by decide) h0 (fun h0 => ?_) (fun h0 => ?_)
  · refine A_aload_n C 0 dX6_reads_65 rfl rfl ?_
    refine A_get (v := .ref (qM 0)) C 0 0 inG6 (ci := 6) rfl (by decide) fl_6_7 rfl rfl rfl dX6_reads_66 ?_
    refine A_aload_n C 0 dX6_reads_69 rfl rfl ?_
    refine A_get (v := .int (gI bM 2)) C 0 2 inG6 (ci := 6) rfl (by decide) fl_6_61 rfl rfl rfl dX6_reads_70 ?_
    refine A_iald C 1 (gA bM 0 (gI bM 2)) rfl rfl dX6_reads_73 h0 (fun h0 => ?_)
    obtain ⟨z1, hz1, h0⟩ := bind_some h0
    refine A_sI (As := [.int (gA bM 0 (gI bM 2))]) (rest := []) C (c_6_isLetter l D t (gA bM 0 (gI bM 2)) hz1) mw_6_isLetter ml_6_67 st_6_isLetter (rmok rfl rfl) (cutN (wM t qM (pI bM 3 (gI bM 2)))) rfl rfl (Nat.le_of_ble_eq_true rfl) dX6_reads_74 (fun x w1 hw1 => ?_)
    obtain ⟨rfl, rfl⟩ := hw1
    refine A_perm (ws' := (wM t qM (pI bM 3 (gI bM 2)))) ((cutN _).symm) ?_
    refine A_if_eq C 87 dX6_reads_77 (by decide) h0 (fun h0 => ?_) (fun h0 => ?_)
    · refine A_aload_n C 0 dX6_reads_87 rfl rfl ?_
      refine A_get (v := .ref (qM 0)) C 0 0 inG6 (ci := 6) rfl (by decide) fl_6_7 rfl rfl rfl dX6_reads_88 ?_
      refine A_aload_n C 0 dX6_reads_91 rfl rfl ?_
      refine A_get (v := .int (gI bM 2)) C 0 2 inG6 (ci := 6) rfl (by decide) fl_6_61 rfl rfl rfl dX6_reads_92 ?_
      refine A_iald C 1 (gA bM 0 (gI bM 2)) rfl rfl dX6_reads_95 h0 (fun h0 => ?_)
      obtain ⟨z2, hz2, h0⟩ := bind_some h0
      refine A_sI (As := [.int (gA bM 0 (gI bM 2))]) (rest := []) C (c_6_isFigure l D t (gA bM 0 (gI bM 2)) hz2) mw_6_isFigure ml_6_77 st_6_isFigure (rmok rfl rfl) (cutN (wM t qM (pI bM 3 (gI bM 2)))) rfl rfl (Nat.le_of_ble_eq_true rfl) dX6_reads_96 (fun x w1 hw1 => ?_)
      obtain ⟨rfl, rfl⟩ := hw1
      refine A_perm (ws' := (wM t qM (pI bM 3 (gI bM 2)))) ((cutN _).symm) ?_
      refine A_if_eq C 109 dX6_reads_99 (by decide) h0 (fun h0 => ?_) (fun h0 => ?_)
      · refine A_aload_n C 0 dX6_reads_109 rfl rfl ?_
        refine A_aload_n C 0 dX6_reads_110 rfl rfl ?_
        refine A_get (v := .ref (qM 0)) C 0 0 inG6 (ci := 6) rfl (by decide) fl_6_7 rfl rfl rfl dX6_reads_111 ?_
        refine A_aload_n C 0 dX6_reads_114 rfl rfl ?_
        refine A_get (v := .int (gI bM 2)) C 0 2 inG6 (ci := 6) rfl (by decide) fl_6_61 rfl rfl rfl dX6_reads_115 ?_
        refine A_iald C 1 (gA bM 0 (gI bM 2)) rfl rfl dX6_reads_118 h0 (fun h0 => ?_)
        refine A_bipush C (59 : Int32) dX6_reads_119 (by decide) ?_
        refine A_icmp_ne C 128 dX6_reads_121 (by decide) h0 (fun h0 => ?_) (fun h0 => ?_)
        · refine A_iconst C (4 : Int32) dX6_reads_128 (by decide) ?_
          exact A_loc [0] rfl (t_6_reads_129 C qM r (pI bM 3 (gI bM 2)) (4 : Int32) h0)
        · refine A_iconst C (3 : Int32) dX6_reads_124 (by decide) ?_
          refine A_goto C 129 dX6_reads_125 (by decide) ?_
          exact A_loc [0] rfl (t_6_reads_129 C qM r (pI bM 3 (gI bM 2)) (3 : Int32) h0)
      · refine A_aload_n C 0 dX6_reads_102 rfl rfl ?_
        obtain ⟨z3, hz3, h0⟩ := bind_some h0
        refine A_vV (As := []) (rest := []) C 0 (c_6_readNumber l D t qM (pI bM 3 (gI bM 2)) hz3) mw_6_readNumber ml_6_83 im_6_readNumber sl_6_readNumber (rmok rfl rfl) (cut0 (wM t qM (pI bM 3 (gI bM 2)))) rfl (ci := 6) rfl rfl rfl (Nat.le_of_ble_eq_true rfl) dX6_reads_103 (fun w1 hw1 => ?_)
        subst hw1
        refine A_perm (ws' := (wM t qM z3)) ((cut0 _).symm) ?_
        refine A_goto C 142 dX6_reads_106 (by decide) ?_
        exact A_loc [] rfl (t_6_reads_142 C qM r z3 h0)
    · refine A_aload_n C 0 dX6_reads_80 rfl rfl ?_
      obtain ⟨z4, hz4, h0⟩ := bind_some h0
      refine A_vV (As := []) (rest := []) C 0 (c_6_readLetters l D t qM (pI bM 3 (gI bM 2)) hz4) mw_6_readLetters ml_6_80 im_6_readLetters sl_6_readLetters (rmok rfl rfl) (cut0 (wM t qM (pI bM 3 (gI bM 2)))) rfl (ci := 6) rfl rfl rfl (Nat.le_of_ble_eq_true rfl) dX6_reads_81 (fun w1 hw1 => ?_)
      subst hw1
      refine A_perm (ws' := (wM t qM z4)) ((cut0 _).symm) ?_
      refine A_goto C 142 dX6_reads_84 (by decide) ?_
      exact A_loc [] rfl (t_6_reads_142 C qM r z4 h0)
  · refine A_aload_n C 0 dX6_reads_57 rfl rfl ?_
    refine A_iconst C (0 : Int32) dX6_reads_58 (by decide) ?_
    refine A_put C 0 4 (wM t qM (pI (pI bM 3 (gI bM 2)) 4 (0 : Int32))) tyX6 inG6 tyX6_ok nmX6 (ci := 6) rfl (by decide) fl_6_74 rfl rfl rfl rfl rfl (Nat.le_of_ble_eq_true rfl) rfl dX6_reads_59 ?_
    refine A_goto C 142 dX6_reads_62 (by decide) ?_
    exact A_loc [] rfl (t_6_reads_142 C qM r (pI (pI bM 3 (gI bM 2)) 4 (0 : Int32)) h0)
def f_6_reads_0_b (k0 : BV → Option (BV)) (bM : BV) : Option (BV) :=
  if (gI bM 1) ≤ (gI bM 2) then (f_6_reads_38 bM) else (ck (inb (gI bM 2) 150) (if (gA bM 0 (gI bM 2)) = (32 : Int32) then (k0 (pI bM 2 ((gI bM 2) + (1 : Int32)))) else (f_6_reads_38 bM)))
theorem t_6_reads_0_b (C : CX p s m args meth c cX6_reads 1 none RX6 D t) (qM : Nat → Nat) (r : BV) (k0 : BV → Option (BV)) (K0 : ∀ (bM : BV), k0 bM = some r → At p l e (rmD 3) s m args below meth c D 1 w0 (QV below args s D w0 (fun w => (wM t qM r) = w) 0 0) 0 0 0 [(0, .ref (qM 99))] [] (wM t qM bM)) (bM : BV) (h0 : f_6_reads_0_b k0 bM = some r) : At p l e (rmD 3) s m args below meth c D 1 w0 (QV below args s D w0 (fun w => (wM t qM r) = w) 0 0) 0 0 0 [(0, .ref (qM 99))] [] (wM t qM bM) := by
  unfold f_6_reads_0_b at h0
  refine A_aload_n C 0 dX6_reads_0 rfl rfl ?_
  refine A_get (v := .int (gI bM 2)) C 0 2 inG6 (ci := 6) rfl (by decide) fl_6_61 rfl rfl rfl dX6_reads_1 ?_
  refine A_aload_n C 0 dX6_reads_4 rfl rfl ?_
  refine A_get (v := .int (gI bM 1)) C 0 1 inG6 (ci := 6) rfl (by decide) fl_6_49 rfl rfl rfl dX6_reads_5 ?_
  refine A_icmp_ge C 38 dX6_reads_8 (by decide) h0 (fun h0 => ?_) (fun h0 => ?_)
  · exact A_loc [0] rfl (t_6_reads_38 C qM r bM h0)
  · refine A_aload_n C 0 dX6_reads_11 rfl rfl ?_
    refine A_get (v := .ref (qM 0)) C 0 0 inG6 (ci := 6) rfl (by decide) fl_6_7 rfl rfl rfl dX6_reads_12 ?_
    refine A_aload_n C 0 dX6_reads_15 rfl rfl ?_
    refine A_get (v := .int (gI bM 2)) C 0 2 inG6 (ci := 6) rfl (by decide) fl_6_61 rfl rfl rfl dX6_reads_16 ?_
    refine A_iald C 1 (gA bM 0 (gI bM 2)) rfl rfl dX6_reads_19 h0 (fun h0 => ?_)
    refine A_bipush C (32 : Int32) dX6_reads_20 (by decide) ?_
    refine A_icmp_ne C 38 dX6_reads_22 (by decide) h0 (fun h0 => ?_) (fun h0 => ?_)
    · exact A_loc [0] rfl (t_6_reads_38 C qM r bM h0)
    · refine A_aload_n C 0 dX6_reads_25 rfl rfl ?_
      refine A_dup C dX6_reads_26 rfl ?_
      refine A_get (v := .int (gI bM 2)) C 0 2 inG6 (ci := 6) rfl (by decide) fl_6_61 rfl rfl rfl dX6_reads_27 ?_
      refine A_iconst C (1 : Int32) dX6_reads_30 (by decide) ?_
      refine A_iadd C dX6_reads_31 ?_
      refine A_put C 0 2 (wM t qM (pI bM 2 ((gI bM 2) + (1 : Int32)))) tyX6 inG6 tyX6_ok nmX6 (ci := 6) rfl (by decide) fl_6_61 rfl rfl rfl rfl rfl (Nat.le_of_ble_eq_true rfl) rfl dX6_reads_32 ?_
      refine A_goto C 0 dX6_reads_35 (by decide) ?_
      exact A_loc [0] rfl (K0 (pI bM 2 ((gI bM 2) + (1 : Int32))) h0)
def f_6_reads_0 : Nat → BV → Option (BV)
  | 0 => fun _ => none
  | n + 1 => f_6_reads_0_b (f_6_reads_0 n)
theorem t_6_reads_0 (C : CX p s m args meth c cX6_reads 1 none RX6 D t) (qM : Nat → Nat) (r : BV) : ∀ (n : Nat), ∀ (bM : BV), f_6_reads_0 n bM = some r → At p l e (rmD 3) s m args below meth c D 1 w0 (QV below args s D w0 (fun w => (wM t qM r) = w) 0 0) 0 0 0 [(0, .ref (qM 99))] [] (wM t qM bM) := by
  intro n
  induction n with
  | zero =>
    intro bM h0
    have h0 : none = some r := h0
    cases h0
  | succ n ih =>
    intro bM h0
    exact t_6_reads_0_b C qM r _ ih bM h0
def f_6_reads (bM : BV) : Option (BV) :=
  f_6_reads_0 200 bM
theorem c_6_reads (l : Launch) (D : va_G) (t : ty4) (qM : Nat → Nat) (bM : BV) {r : BV} (h0 : f_6_reads bM = some r) : MetV l yX6_reads cX6_reads 1 none (rmD 3) D t [.ref (qM 99)] (wM t qM bM) (fun w => (wM t qM r) = w) := by
  refine MetV_of (by decide +kernel) (Nat.le_of_ble_eq_true rfl) (fun p e s m below meth c C _ => ?_)
  unfold f_6_reads at h0
  generalize hargs : (List.toArray [.ref (qM 99)] : Array Value) = args at C ⊢
  refine At.start (lv2 := [(0, .ref (qM 99))]) rfl ?_
  exact A_loc [0] rfl (t_6_reads_0 C qM r 200 bM h0)
def f_6_number_32 (bM : BV) (y0 : Int32) : Option (Int32 × BV) :=
  ck (isb y0) (some (y0, bM))
theorem t_6_number_32 (C : CX p s m args meth c cX6_number 3 (some .boolean) RX6 D t) (qM : Nat → Nat) (r : Int32 × BV) (bM : BV) (y0 : Int32) (h0 : f_6_number_32 bM y0 = some r) : At p l e (rmD 4) s m args below meth c D 3 w0 (QI below args s D w0 (fun x w => r.1 = x ∧ (wM t qM r.2) = w) 0 0) 0 0 32 [] [.int y0] (wM t qM bM) := by
  unfold f_6_number_32 at h0
  obtain ⟨hz, h0⟩ := ck_some h0
  have h0 := Option.some.inj h0
  subst h0
  exact A_zret C dX6_number_32 hz ⟨rfl, rfl⟩
def f_6_number_31 (bM : BV) : Option (Int32 × BV) :=
  f_6_number_32 bM (0 : Int32)
theorem t_6_number_31 (C : CX p s m args meth c cX6_number 3 (some .boolean) RX6 D t) (qM : Nat → Nat) (r : Int32 × BV) (bM : BV) (h0 : f_6_number_31 bM = some r) : At p l e (rmD 4) s m args below meth c D 3 w0 (QI below args s D w0 (fun x w => r.1 = x ∧ (wM t qM r.2) = w) 0 0) 0 0 31 [] [] (wM t qM bM) := by
  unfold f_6_number_31 at h0
  refine A_iconst C (0 : Int32) dX6_number_31 (by decide) ?_
  exact A_loc [] rfl (t_6_number_32 C qM r bM (0 : Int32) h0)
def f_6_number (bM : BV) (x1 : Int32) (x2 : Int32) : Option (Int32 × BV) :=
  (f_6_reads bM).bind (fun z1 => if (gI z1 4) = (2 : Int32) then ((f_6_in ((gI z1 5)).toInt64 (x1).toInt64 (x2).toInt64).bind (fun z2 => if z2 = 0 then (f_6_number_31 z1) else (f_6_number_32 z1 (1 : Int32)))) else (f_6_number_31 z1))
theorem c_6_number (l : Launch) (D : va_G) (t : ty4) (qM : Nat → Nat) (bM : BV) (x1 : Int32) (x2 : Int32) {r : Int32 × BV} (h0 : f_6_number bM x1 x2 = some r) : MetI l yX6_number cX6_number 3 (some .boolean) (rmD 4) D t [.ref (qM 99), .int x1, .int x2] (wM t qM bM) (fun x w => r.1 = x ∧ (wM t qM r.2) = w) := by
  refine MetI_of (by decide +kernel) (Nat.le_of_ble_eq_true rfl) (fun p e s m below meth c C _ => ?_)
  unfold f_6_number at h0
  generalize hargs : (List.toArray [.ref (qM 99), .int x1, .int x2] : Array Value) = args at C ⊢
  refine At.start (lv2 := [(0, .ref (qM 99)), (1, .int x1), (2, .int x2)]) rfl ?_
  refine A_aload_n C 0 dX6_number_0 rfl rfl ?_
  obtain ⟨z1, hz1, h0⟩ := bind_some h0
  refine A_vV (As := []) (rest := []) C 0 (c_6_reads l D t qM bM hz1) mw_6_reads ml_6_86 im_6_reads sl_6_reads (rmok rfl rfl) (cut0 (wM t qM bM)) rfl (ci := 6) rfl rfl rfl (Nat.le_of_ble_eq_true rfl) dX6_number_1 (fun w1 hw1 => ?_)
  subst hw1
  refine A_perm (ws' := (wM t qM z1)) ((cut0 _).symm) ?_
  refine A_aload_n C 0 dX6_number_4 rfl rfl ?_
  refine A_get (v := .int (gI z1 4)) C 0 4 inG6 (ci := 6) rfl (by decide) fl_6_74 rfl rfl rfl dX6_number_5 ?_
  refine A_iconst C (2 : Int32) dX6_number_8 (by decide) ?_
  refine A_icmp_ne C 31 dX6_number_9 (by decide) h0 (fun h0 => ?_) (fun h0 => ?_)
  · exact A_loc [] rfl (t_6_number_31 C qM r z1 h0)
  · refine A_aload_n C 0 dX6_number_12 rfl rfl ?_
    refine A_get (v := .int (gI z1 5)) C 0 5 inG6 (ci := 6) rfl (by decide) fl_6_64 rfl rfl rfl dX6_number_13 ?_
    refine A_i2l C dX6_number_16 ?_
    refine A_iload_n C 1 dX6_number_17 rfl rfl ?_
    refine A_i2l C dX6_number_18 ?_
    refine A_iload_n C 2 dX6_number_19 rfl rfl ?_
    refine A_i2l C dX6_number_20 ?_
    obtain ⟨z2, hz2, h0⟩ := bind_some h0
    refine A_sI (As := [.long ((gI z1 5)).toInt64, .long (x1).toInt64, .long (x2).toInt64]) (rest := []) C (c_6_in l D t ((gI z1 5)).toInt64 (x1).toInt64 (x2).toInt64 hz2) mw_6_in ml_6_45 st_6_in (rmok rfl rfl) (cutN (wM t qM z1)) rfl rfl (Nat.le_of_ble_eq_true rfl) dX6_number_21 (fun x w1 hw1 => ?_)
    obtain ⟨rfl, rfl⟩ := hw1
    refine A_perm (ws' := (wM t qM z1)) ((cutN _).symm) ?_
    refine A_if_eq C 31 dX6_number_24 (by decide) h0 (fun h0 => ?_) (fun h0 => ?_)
    · exact A_loc [] rfl (t_6_number_31 C qM r z1 h0)
    · refine A_iconst C (1 : Int32) dX6_number_27 (by decide) ?_
      refine A_goto C 32 dX6_number_28 (by decide) ?_
      exact A_loc [] rfl (t_6_number_32 C qM r z1 (1 : Int32) h0)
def f_6_itemEnds_17 (bM : BV) (y0 : Int32) : Option (Int32 × BV) :=
  ck (isb y0) (some (y0, bM))
theorem t_6_itemEnds_17 (C : CX p s m args meth c cX6_itemEnds 1 (some .boolean) RX6 D t) (qM : Nat → Nat) (r : Int32 × BV) (bM : BV) (y0 : Int32) (h0 : f_6_itemEnds_17 bM y0 = some r) : At p l e (rmD 4) s m args below meth c D 1 w0 (QI below args s D w0 (fun x w => r.1 = x ∧ (wM t qM r.2) = w) 0 0) 0 0 17 [] [.int y0] (wM t qM bM) := by
  unfold f_6_itemEnds_17 at h0
  obtain ⟨hz, h0⟩ := ck_some h0
  have h0 := Option.some.inj h0
  subst h0
  exact A_zret C dX6_itemEnds_17 hz ⟨rfl, rfl⟩
def f_6_itemEnds (bM : BV) : Option (Int32 × BV) :=
  (f_6_reads bM).bind (fun z1 => if (gI z1 4) = (3 : Int32) then (f_6_itemEnds_17 z1 (1 : Int32)) else (f_6_itemEnds_17 z1 (0 : Int32)))
theorem c_6_itemEnds (l : Launch) (D : va_G) (t : ty4) (qM : Nat → Nat) (bM : BV) {r : Int32 × BV} (h0 : f_6_itemEnds bM = some r) : MetI l yX6_itemEnds cX6_itemEnds 1 (some .boolean) (rmD 4) D t [.ref (qM 99)] (wM t qM bM) (fun x w => r.1 = x ∧ (wM t qM r.2) = w) := by
  refine MetI_of (by decide +kernel) (Nat.le_of_ble_eq_true rfl) (fun p e s m below meth c C _ => ?_)
  unfold f_6_itemEnds at h0
  generalize hargs : (List.toArray [.ref (qM 99)] : Array Value) = args at C ⊢
  refine At.start (lv2 := [(0, .ref (qM 99))]) rfl ?_
  refine A_aload_n C 0 dX6_itemEnds_0 rfl rfl ?_
  obtain ⟨z1, hz1, h0⟩ := bind_some h0
  refine A_vV (As := []) (rest := []) C 0 (c_6_reads l D t qM bM hz1) mw_6_reads ml_6_86 im_6_reads sl_6_reads (rmok rfl rfl) (cut0 (wM t qM bM)) rfl (ci := 6) rfl rfl rfl (Nat.le_of_ble_eq_true rfl) dX6_itemEnds_1 (fun w1 hw1 => ?_)
  subst hw1
  refine A_perm (ws' := (wM t qM z1)) ((cut0 _).symm) ?_
  refine A_aload_n C 0 dX6_itemEnds_4 rfl rfl ?_
  refine A_get (v := .int (gI z1 4)) C 0 4 inG6 (ci := 6) rfl (by decide) fl_6_74 rfl rfl rfl dX6_itemEnds_5 ?_
  refine A_iconst C (3 : Int32) dX6_itemEnds_8 (by decide) ?_
  refine A_icmp_ne C 16 dX6_itemEnds_9 (by decide) h0 (fun h0 => ?_) (fun h0 => ?_)
  · refine A_iconst C (0 : Int32) dX6_itemEnds_16 (by decide) ?_
    exact A_loc [] rfl (t_6_itemEnds_17 C qM r z1 (0 : Int32) h0)
  · refine A_iconst C (1 : Int32) dX6_itemEnds_12 (by decide) ?_
    refine A_goto C 17 dX6_itemEnds_13 (by decide) ?_
    exact A_loc [] rfl (t_6_itemEnds_17 C qM r z1 (1 : Int32) h0)
def f_6_plain_2_b (k2 : BV → Int32 → Option (BV)) (bM : BV) (x1 : Int32) : Option (BV) :=
  if (79 : Int32) ≤ x1 then (ck (inb (3 : Int32) 79) (bs (pA bM 6 (3 : Int32) (2 : Int32)) (fun b1 => ck (inb (4 : Int32) 79) (bs (pA b1 6 (4 : Int32) (3 : Int32)) (fun b2 => ck (inb (5 : Int32) 79) (bs (pA b2 6 (5 : Int32) (9 : Int32)) (fun b3 => some b3))))))) else (ck (inb x1 79) (bs (pA bM 6 x1 (0 : Int32)) (fun b4 => k2 b4 (x1 + (1 : Int32)))))
theorem t_6_plain_2_b (C : CX p s m args meth c cX6_plain 2 none RX6 D t) (qM : Nat → Nat) (r : BV) (k2 : BV → Int32 → Option (BV)) (K2 : ∀ (bM : BV) (x1 : Int32), k2 bM x1 = some r → At p l e (rmD 0) s m args below meth c D 2 w0 (QV below args s D w0 (fun w => (wM t qM r) = w) 0 0) 0 0 2 [(0, .ref (qM 99)), (1, .int x1)] [] (wM t qM bM)) (bM : BV) (x1 : Int32) (h0 : f_6_plain_2_b k2 bM x1 = some r) : At p l e (rmD 0) s m args below meth c D 2 w0 (QV below args s D w0 (fun w => (wM t qM r) = w) 0 0) 0 0 2 [(0, .ref (qM 99)), (1, .int x1)] [] (wM t qM bM) := by
  unfold f_6_plain_2_b at h0
  refine A_iload_n C 1 dX6_plain_2 rfl rfl ?_
  refine A_bipush C (79 : Int32) dX6_plain_3 (by decide) ?_
  refine A_icmp_ge C 21 dX6_plain_5 (by decide) h0 (fun h0 => ?_) (fun h0 => ?_)
  · refine A_aload_n C 0 dX6_plain_21 rfl rfl ?_
    refine A_get (v := .ref (qM 6)) C 0 6 inG6 (ci := 6) rfl (by decide) fl_6_13 rfl rfl rfl dX6_plain_22 ?_
    refine A_iconst C (3 : Int32) dX6_plain_25 (by decide) ?_
    refine A_iconst C (2 : Int32) dX6_plain_26 (by decide) ?_
    refine A_iast C 2 (wM t qM (pA bM 6 (3 : Int32) (2 : Int32))) rfl rfl dX6_plain_27 h0 (fun h0 => ?_)
    obtain ⟨b1, hb1, h0⟩ := bs_some h0
    refine A_weq (wM t qM b1) (by rw [hb1]) ?_
    refine A_aload_n C 0 dX6_plain_28 rfl rfl ?_
    refine A_get (v := .ref (qM 6)) C 0 6 inG6 (ci := 6) rfl (by decide) fl_6_13 rfl rfl rfl dX6_plain_29 ?_
    refine A_iconst C (4 : Int32) dX6_plain_32 (by decide) ?_
    refine A_iconst C (3 : Int32) dX6_plain_33 (by decide) ?_
    refine A_iast C 2 (wM t qM (pA b1 6 (4 : Int32) (3 : Int32))) rfl rfl dX6_plain_34 h0 (fun h0 => ?_)
    obtain ⟨b2, hb2, h0⟩ := bs_some h0
    refine A_weq (wM t qM b2) (by rw [hb2]) ?_
    refine A_aload_n C 0 dX6_plain_35 rfl rfl ?_
    refine A_get (v := .ref (qM 6)) C 0 6 inG6 (ci := 6) rfl (by decide) fl_6_13 rfl rfl rfl dX6_plain_36 ?_
    refine A_iconst C (5 : Int32) dX6_plain_39 (by decide) ?_
    refine A_bipush C (9 : Int32) dX6_plain_40 (by decide) ?_
    refine A_iast C 2 (wM t qM (pA b2 6 (5 : Int32) (9 : Int32))) rfl rfl dX6_plain_42 h0 (fun h0 => ?_)
    obtain ⟨b3, hb3, h0⟩ := bs_some h0
    refine A_weq (wM t qM b3) (by rw [hb3]) ?_
    have h0 := Option.some.inj h0
    subst h0
    exact A_vret C dX6_plain_43 rfl
  · refine A_aload_n C 0 dX6_plain_8 rfl rfl ?_
    refine A_get (v := .ref (qM 6)) C 0 6 inG6 (ci := 6) rfl (by decide) fl_6_13 rfl rfl rfl dX6_plain_9 ?_
    refine A_iload_n C 1 dX6_plain_12 rfl rfl ?_
    refine A_iconst C (0 : Int32) dX6_plain_13 (by decide) ?_
    refine A_iast C 2 (wM t qM (pA bM 6 x1 (0 : Int32))) rfl rfl dX6_plain_14 h0 (fun h0 => ?_)
    obtain ⟨b4, hb4, h0⟩ := bs_some h0
    refine A_weq (wM t qM b4) (by rw [hb4]) ?_
    refine A_iinc C 1 (x1 + (1 : Int32)) [(1, .int (x1 + (1 : Int32))), (0, .ref (qM 99))] dX6_plain_15 rfl rfl (by decide) rfl ?_
    refine A_goto C 2 dX6_plain_18 (by decide) ?_
    exact A_loc [1, 0] rfl (K2 b4 (x1 + (1 : Int32)) h0)
def f_6_plain_2 : Nat → BV → Int32 → Option (BV)
  | 0 => fun _ _ => none
  | n + 1 => f_6_plain_2_b (f_6_plain_2 n)
theorem t_6_plain_2 (C : CX p s m args meth c cX6_plain 2 none RX6 D t) (qM : Nat → Nat) (r : BV) : ∀ (n : Nat), ∀ (bM : BV) (x1 : Int32), f_6_plain_2 n bM x1 = some r → At p l e (rmD 0) s m args below meth c D 2 w0 (QV below args s D w0 (fun w => (wM t qM r) = w) 0 0) 0 0 2 [(0, .ref (qM 99)), (1, .int x1)] [] (wM t qM bM) := by
  intro n
  induction n with
  | zero =>
    intro bM x1 h0
    have h0 : none = some r := h0
    cases h0
  | succ n ih =>
    intro bM x1 h0
    exact t_6_plain_2_b C qM r _ ih bM x1 h0
def f_6_plain (bM : BV) : Option (BV) :=
  f_6_plain_2 200 bM (0 : Int32)
theorem c_6_plain (l : Launch) (D : va_G) (t : ty4) (qM : Nat → Nat) (bM : BV) {r : BV} (h0 : f_6_plain bM = some r) : MetV l yX6_plain cX6_plain 2 none (rmD 0) D t [.ref (qM 99)] (wM t qM bM) (fun w => (wM t qM r) = w) := by
  refine MetV_of (by decide +kernel) (Nat.le_of_ble_eq_true rfl) (fun p e s m below meth c C _ => ?_)
  unfold f_6_plain at h0
  generalize hargs : (List.toArray [.ref (qM 99)] : Array Value) = args at C ⊢
  refine At.start (lv2 := [(0, .ref (qM 99))]) rfl ?_
  refine A_iconst C (0 : Int32) dX6_plain_0 (by decide) ?_
  refine A_istore_n C [(1, .int (0 : Int32)), (0, .ref (qM 99))] dX6_plain_1 rfl (by decide) rfl ?_
  exact A_loc [1, 0] rfl (t_6_plain_2 C qM r 200 bM (0 : Int32) h0)
def f_6_readSeason_61_b (k61 : BV → Int32 → Int32 → Option (Int32 × BV)) (bM : BV) (x2 : Int32) (x3 : Int32) : Option (Int32 × BV) :=
  if x2 ≤ x3 then (ck (inb (1 : Int32) 79) (ck (inb (1 : Int32) 79) (bs (pA bM 6 (1 : Int32) ((gA bM 6 (1 : Int32)) + (1 : Int32))) (fun b1 => (f_6_itemEnds b1).bind (fun z2 => ck (isb z2.1) (some (z2.1, z2.2))))))) else (ck (inb (0 : Int32) 79) (ck (inb ((7 : Int32) + (gA bM 6 (0 : Int32))) 79) (bs (pA bM 6 ((7 : Int32) + (gA bM 6 (0 : Int32))) (gI bM 5)) (fun b3 => ck (inb (0 : Int32) 79) (ck (inb (1 : Int32) 79) (ck (inb ((37 : Int32) + (gA b3 6 (0 : Int32))) 79) (bs (pA b3 6 ((37 : Int32) + (gA b3 6 (0 : Int32))) (gA b3 6 (1 : Int32))) (fun b4 => ck (inb (0 : Int32) 79) (ck (inb (0 : Int32) 79) (bs (pA b4 6 (0 : Int32) ((gA b4 6 (0 : Int32)) + (1 : Int32))) (fun b5 => k61 b5 x2 (x3 + (1 : Int32)))))))))))))
theorem t_6_readSeason_61_b (C : CX p s m args meth c cX6_readSeason 4 (some .boolean) RX6 D t) (qM : Nat → Nat) (r : Int32 × BV) (k61 : BV → Int32 → Int32 → Option (Int32 × BV)) (K61 : ∀ (bM : BV) (x2 : Int32) (x3 : Int32), k61 bM x2 x3 = some r → At p l e (rmD 5) s m args below meth c D 4 w0 (QI below args s D w0 (fun x w => r.1 = x ∧ (wM t qM r.2) = w) 0 0) 0 0 61 [(0, .ref (qM 99)), (2, .int x2), (3, .int x3)] [] (wM t qM bM)) (bM : BV) (x2 : Int32) (x3 : Int32) (h0 : f_6_readSeason_61_b k61 bM x2 x3 = some r) : At p l e (rmD 5) s m args below meth c D 4 w0 (QI below args s D w0 (fun x w => r.1 = x ∧ (wM t qM r.2) = w) 0 0) 0 0 61 [(0, .ref (qM 99)), (2, .int x2), (3, .int x3)] [] (wM t qM bM) := by
  unfold f_6_readSeason_61_b at h0
  refine A_iload_n C 2 dX6_readSeason_61 rfl rfl ?_
  refine A_iload_n C 1 dX6_readSeason_62 rfl rfl ?_
  refine A_icmp_ge C 120 dX6_readSeason_63 (by decide) h0 (fun h0 => ?_) (fun h0 => ?_)
  · refine A_aload_n C 0 dX6_readSeason_120 rfl rfl ?_
    refine A_get (v := .ref (qM 6)) C 0 6 inG6 (ci := 6) rfl (by decide) fl_6_13 rfl rfl rfl dX6_readSeason_121 ?_
    refine A_iconst C (1 : Int32) dX6_readSeason_124 (by decide) ?_
    refine A_dup2 C dX6_readSeason_125 rfl rfl ?_
    refine A_iald C 2 (gA bM 6 (1 : Int32)) rfl rfl dX6_readSeason_126 h0 (fun h0 => ?_)
    refine A_iconst C (1 : Int32) dX6_readSeason_127 (by decide) ?_
    refine A_iadd C dX6_readSeason_128 ?_
    refine A_iast C 2 (wM t qM (pA bM 6 (1 : Int32) ((gA bM 6 (1 : Int32)) + (1 : Int32)))) rfl rfl dX6_readSeason_129 h0 (fun h0 => ?_)
    obtain ⟨b1, hb1, h0⟩ := bs_some h0
    refine A_weq (wM t qM b1) (by rw [hb1]) ?_
    refine A_aload_n C 0 dX6_readSeason_130 rfl rfl ?_
    obtain ⟨z2, hz2, h0⟩ := bind_some h0
    refine A_vI (As := []) (rest := []) C 0 (c_6_itemEnds l D t qM b1 hz2) mw_6_itemEnds ml_6_93 im_6_itemEnds sl_6_itemEnds (rmok rfl rfl) (cut0 (wM t qM b1)) rfl (ci := 6) rfl rfl rfl (Nat.le_of_ble_eq_true rfl) dX6_readSeason_131 (fun x w1 hw1 => ?_)
    obtain ⟨rfl, rfl⟩ := hw1
    refine A_perm (ws' := (wM t qM z2.2)) ((cut0 _).symm) ?_
    obtain ⟨hz, h0⟩ := ck_some h0
    have h0 := Option.some.inj h0
    subst h0
    exact A_zret C dX6_readSeason_134 hz ⟨rfl, rfl⟩
  · refine A_aload_n C 0 dX6_readSeason_66 rfl rfl ?_
    refine A_get (v := .ref (qM 6)) C 0 6 inG6 (ci := 6) rfl (by decide) fl_6_13 rfl rfl rfl dX6_readSeason_67 ?_
    refine A_bipush C (7 : Int32) dX6_readSeason_70 (by decide) ?_
    refine A_aload_n C 0 dX6_readSeason_72 rfl rfl ?_
    refine A_get (v := .ref (qM 6)) C 0 6 inG6 (ci := 6) rfl (by decide) fl_6_13 rfl rfl rfl dX6_readSeason_73 ?_
    refine A_iconst C (0 : Int32) dX6_readSeason_76 (by decide) ?_
    refine A_iald C 2 (gA bM 6 (0 : Int32)) rfl rfl dX6_readSeason_77 h0 (fun h0 => ?_)
    refine A_iadd C dX6_readSeason_78 ?_
    refine A_aload_n C 0 dX6_readSeason_79 rfl rfl ?_
    refine A_get (v := .int (gI bM 5)) C 0 5 inG6 (ci := 6) rfl (by decide) fl_6_64 rfl rfl rfl dX6_readSeason_80 ?_
    refine A_iast C 2 (wM t qM (pA bM 6 ((7 : Int32) + (gA bM 6 (0 : Int32))) (gI bM 5))) rfl rfl dX6_readSeason_83 h0 (fun h0 => ?_)
    obtain ⟨b3, hb3, h0⟩ := bs_some h0
    refine A_weq (wM t qM b3) (by rw [hb3]) ?_
    refine A_aload_n C 0 dX6_readSeason_84 rfl rfl ?_
    refine A_get (v := .ref (qM 6)) C 0 6 inG6 (ci := 6) rfl (by decide) fl_6_13 rfl rfl rfl dX6_readSeason_85 ?_
    refine A_bipush C (37 : Int32) dX6_readSeason_88 (by decide) ?_
    refine A_aload_n C 0 dX6_readSeason_90 rfl rfl ?_
    refine A_get (v := .ref (qM 6)) C 0 6 inG6 (ci := 6) rfl (by decide) fl_6_13 rfl rfl rfl dX6_readSeason_91 ?_
    refine A_iconst C (0 : Int32) dX6_readSeason_94 (by decide) ?_
    refine A_iald C 2 (gA b3 6 (0 : Int32)) rfl rfl dX6_readSeason_95 h0 (fun h0 => ?_)
    refine A_iadd C dX6_readSeason_96 ?_
    refine A_aload_n C 0 dX6_readSeason_97 rfl rfl ?_
    refine A_get (v := .ref (qM 6)) C 0 6 inG6 (ci := 6) rfl (by decide) fl_6_13 rfl rfl rfl dX6_readSeason_98 ?_
    refine A_iconst C (1 : Int32) dX6_readSeason_101 (by decide) ?_
    refine A_iald C 2 (gA b3 6 (1 : Int32)) rfl rfl dX6_readSeason_102 h0 (fun h0 => ?_)
    refine A_iast C 2 (wM t qM (pA b3 6 ((37 : Int32) + (gA b3 6 (0 : Int32))) (gA b3 6 (1 : Int32)))) rfl rfl dX6_readSeason_103 h0 (fun h0 => ?_)
    obtain ⟨b4, hb4, h0⟩ := bs_some h0
    refine A_weq (wM t qM b4) (by rw [hb4]) ?_
    refine A_aload_n C 0 dX6_readSeason_104 rfl rfl ?_
    refine A_get (v := .ref (qM 6)) C 0 6 inG6 (ci := 6) rfl (by decide) fl_6_13 rfl rfl rfl dX6_readSeason_105 ?_
    refine A_iconst C (0 : Int32) dX6_readSeason_108 (by decide) ?_
    refine A_dup2 C dX6_readSeason_109 rfl rfl ?_
    refine A_iald C 2 (gA b4 6 (0 : Int32)) rfl rfl dX6_readSeason_110 h0 (fun h0 => ?_)
    refine A_iconst C (1 : Int32) dX6_readSeason_111 (by decide) ?_
    refine A_iadd C dX6_readSeason_112 ?_
    refine A_iast C 2 (wM t qM (pA b4 6 (0 : Int32) ((gA b4 6 (0 : Int32)) + (1 : Int32)))) rfl rfl dX6_readSeason_113 h0 (fun h0 => ?_)
    obtain ⟨b5, hb5, h0⟩ := bs_some h0
    refine A_weq (wM t qM b5) (by rw [hb5]) ?_
    refine A_iinc C 2 (x3 + (1 : Int32)) [(3, .int (x3 + (1 : Int32))), (0, .ref (qM 99)), (2, .int x2)] dX6_readSeason_114 rfl rfl (by decide) rfl ?_
    refine A_goto C 61 dX6_readSeason_117 (by decide) ?_
    exact A_loc [1, 2, 0] rfl (K61 b5 x2 (x3 + (1 : Int32)) h0)
def f_6_readSeason_61 : Nat → BV → Int32 → Int32 → Option (Int32 × BV)
  | 0 => fun _ _ _ => none
  | n + 1 => f_6_readSeason_61_b (f_6_readSeason_61 n)
theorem t_6_readSeason_61 (C : CX p s m args meth c cX6_readSeason 4 (some .boolean) RX6 D t) (qM : Nat → Nat) (r : Int32 × BV) : ∀ (n : Nat), ∀ (bM : BV) (x2 : Int32) (x3 : Int32), f_6_readSeason_61 n bM x2 x3 = some r → At p l e (rmD 5) s m args below meth c D 4 w0 (QI below args s D w0 (fun x w => r.1 = x ∧ (wM t qM r.2) = w) 0 0) 0 0 61 [(0, .ref (qM 99)), (2, .int x2), (3, .int x3)] [] (wM t qM bM) := by
  intro n
  induction n with
  | zero =>
    intro bM x2 x3 h0
    have h0 : none = some r := h0
    cases h0
  | succ n ih =>
    intro bM x2 x3 h0
    exact t_6_readSeason_61_b C qM r _ ih bM x2 x3 h0
def f_6_readSeason_40 (bM : BV) : Option (Int32 × BV) :=
  some ((0 : Int32), bM)
theorem t_6_readSeason_40 (C : CX p s m args meth c cX6_readSeason 4 (some .boolean) RX6 D t) (qM : Nat → Nat) (r : Int32 × BV) (bM : BV) (h0 : f_6_readSeason_40 bM = some r) : At p l e (rmD 5) s m args below meth c D 4 w0 (QI below args s D w0 (fun x w => r.1 = x ∧ (wM t qM r.2) = w) 0 0) 0 0 40 [] [] (wM t qM bM) := by
  unfold f_6_readSeason_40 at h0
  refine A_iconst C (0 : Int32) dX6_readSeason_40 (by decide) ?_
  have h0 := Option.some.inj h0
  subst h0
  exact A_zret C dX6_readSeason_41 rfl ⟨rfl, rfl⟩
def f_6_readSeason_34 (bM : BV) (y0 : Int32) (y1 : Int32) : Option (Int32 × BV) :=
  (f_6_number bM y1 y0).bind (fun z6 => if z6.1 = 0 then (f_6_readSeason_40 z6.2) else ((f_6_number z6.2 (0 : Int32) (9 : Int32)).bind (fun z7 => if z7.1 = 0 then (some ((0 : Int32), z7.2)) else (f_6_readSeason_61 200 z7.2 (gI z6.2 5) (0 : Int32)))))
theorem t_6_readSeason_34 (C : CX p s m args meth c cX6_readSeason 4 (some .boolean) RX6 D t) (qM : Nat → Nat) (r : Int32 × BV) (bM : BV) (y0 : Int32) (y1 : Int32) (h0 : f_6_readSeason_34 bM y0 y1 = some r) : At p l e (rmD 5) s m args below meth c D 4 w0 (QI below args s D w0 (fun x w => r.1 = x ∧ (wM t qM r.2) = w) 0 0) 0 0 34 [(0, .ref (qM 99))] [.int y0, .int y1, .ref (qM 99)] (wM t qM bM) := by
  unfold f_6_readSeason_34 at h0
  obtain ⟨z6, hz6, h0⟩ := bind_some h0
  refine A_vI (As := [.int y1, .int y0]) (rest := []) C 0 (c_6_number l D t qM bM y1 y0 hz6) mw_6_number ml_6_89 im_6_number sl_6_number (rmok rfl rfl) (cut0 (wM t qM bM)) rfl (ci := 6) rfl rfl rfl (Nat.le_of_ble_eq_true rfl) dX6_readSeason_34 (fun x w1 hw1 => ?_)
  obtain ⟨rfl, rfl⟩ := hw1
  refine A_perm (ws' := (wM t qM z6.2)) ((cut0 _).symm) ?_
  refine A_if_ne C 42 dX6_readSeason_37 (by decide) h0 (fun h0 => ?_) (fun h0 => ?_)
  · refine A_aload_n C 0 dX6_readSeason_42 rfl rfl ?_
    refine A_get (v := .int (gI z6.2 5)) C 0 5 inG6 (ci := 6) rfl (by decide) fl_6_64 rfl rfl rfl dX6_readSeason_43 ?_
    refine A_istore_n C [(2, .int (gI z6.2 5)), (0, .ref (qM 99))] dX6_readSeason_46 rfl (by decide) rfl ?_
    refine A_aload_n C 1 dX6_readSeason_47 rfl rfl ?_
    refine A_iconst C (0 : Int32) dX6_readSeason_48 (by decide) ?_
    refine A_bipush C (9 : Int32) dX6_readSeason_49 (by decide) ?_
    obtain ⟨z7, hz7, h0⟩ := bind_some h0
    refine A_vI (As := [.int (0 : Int32), .int (9 : Int32)]) (rest := []) C 0 (c_6_number l D t qM z6.2 (0 : Int32) (9 : Int32) hz7) mw_6_number ml_6_89 im_6_number sl_6_number (rmok rfl rfl) (cut0 (wM t qM z6.2)) rfl (ci := 6) rfl rfl rfl (Nat.le_of_ble_eq_true rfl) dX6_readSeason_51 (fun x w1 hw1 => ?_)
    obtain ⟨rfl, rfl⟩ := hw1
    refine A_perm (ws' := (wM t qM z7.2)) ((cut0 _).symm) ?_
    refine A_if_ne C 59 dX6_readSeason_54 (by decide) h0 (fun h0 => ?_) (fun h0 => ?_)
    · refine A_iconst C (0 : Int32) dX6_readSeason_59 (by decide) ?_
      refine A_istore_n C [(3, .int (0 : Int32)), (2, .int (gI z6.2 5)), (0, .ref (qM 99))] dX6_readSeason_60 rfl (by decide) rfl ?_
      exact A_loc [2, 1, 0] rfl (t_6_readSeason_61 C qM r 200 z7.2 (gI z6.2 5) (0 : Int32) h0)
    · refine A_iconst C (0 : Int32) dX6_readSeason_57 (by decide) ?_
      have h0 := Option.some.inj h0
      subst h0
      exact A_zret C dX6_readSeason_58 rfl ⟨rfl, rfl⟩
  · exact A_loc [] rfl (t_6_readSeason_40 C qM r z6.2 h0)
def f_6_readSeason (bM : BV) : Option (Int32 × BV) :=
  ck (inb (0 : Int32) 79) (ck (inb (1 : Int32) 79) (if (gA bM 6 (1 : Int32)) = (5 : Int32) then (f_6_readSeason_40 bM) else (if (9 : Int32) ≤ ((30 : Int32) - (gA bM 6 (0 : Int32))) then (f_6_readSeason_34 bM (9 : Int32) (1 : Int32)) else (f_6_readSeason_34 bM ((30 : Int32) - (gA bM 6 (0 : Int32))) (1 : Int32)))))
theorem c_6_readSeason (l : Launch) (D : va_G) (t : ty4) (qM : Nat → Nat) (bM : BV) {r : Int32 × BV} (h0 : f_6_readSeason bM = some r) : MetI l yX6_readSeason cX6_readSeason 4 (some .boolean) (rmD 5) D t [.ref (qM 99)] (wM t qM bM) (fun x w => r.1 = x ∧ (wM t qM r.2) = w) := by
  refine MetI_of (by decide +kernel) (Nat.le_of_ble_eq_true rfl) (fun p e s m below meth c C _ => ?_)
  unfold f_6_readSeason at h0
  generalize hargs : (List.toArray [.ref (qM 99)] : Array Value) = args at C ⊢
  refine At.start (lv2 := [(0, .ref (qM 99))]) rfl ?_
  refine A_bipush C (30 : Int32) dX6_readSeason_0 (by decide) ?_
  refine A_aload_n C 0 dX6_readSeason_2 rfl rfl ?_
  refine A_get (v := .ref (qM 6)) C 0 6 inG6 (ci := 6) rfl (by decide) fl_6_13 rfl rfl rfl dX6_readSeason_3 ?_
  refine A_iconst C (0 : Int32) dX6_readSeason_6 (by decide) ?_
  refine A_iald C 2 (gA bM 6 (0 : Int32)) rfl rfl dX6_readSeason_7 h0 (fun h0 => ?_)
  refine A_isub C dX6_readSeason_8 ?_
  refine A_istore_n C [(1, .int ((30 : Int32) - (gA bM 6 (0 : Int32)))), (0, .ref (qM 99))] dX6_readSeason_9 rfl (by decide) rfl ?_
  refine A_aload_n C 1 dX6_readSeason_10 rfl rfl ?_
  refine A_get (v := .ref (qM 6)) C 0 6 inG6 (ci := 6) rfl (by decide) fl_6_13 rfl rfl rfl dX6_readSeason_11 ?_
  refine A_iconst C (1 : Int32) dX6_readSeason_14 (by decide) ?_
  refine A_iald C 2 (gA bM 6 (1 : Int32)) rfl rfl dX6_readSeason_15 h0 (fun h0 => ?_)
  refine A_iconst C (5 : Int32) dX6_readSeason_16 (by decide) ?_
  refine A_icmp_eq C 40 dX6_readSeason_17 (by decide) h0 (fun h0 => ?_) (fun h0 => ?_)
  · exact A_loc [] rfl (t_6_readSeason_40 C qM r bM h0)
  · refine A_aload_n C 1 dX6_readSeason_20 rfl rfl ?_
    refine A_iconst C (1 : Int32) dX6_readSeason_21 (by decide) ?_
    refine A_iload_n C 0 dX6_readSeason_22 rfl rfl ?_
    refine A_bipush C (9 : Int32) dX6_readSeason_23 (by decide) ?_
    refine A_icmp_ge C 32 dX6_readSeason_25 (by decide) h0 (fun h0 => ?_) (fun h0 => ?_)
    · refine A_bipush C (9 : Int32) dX6_readSeason_32 (by decide) ?_
      exact A_loc [1] rfl (t_6_readSeason_34 C qM r bM (9 : Int32) (1 : Int32) h0)
    · refine A_iload_n C 0 dX6_readSeason_28 rfl rfl ?_
      refine A_goto C 34 dX6_readSeason_29 (by decide) ?_
      exact A_loc [1] rfl (t_6_readSeason_34 C qM r bM ((30 : Int32) - (gA bM 6 (0 : Int32))) (1 : Int32) h0)
def f_6_readCrop_32 (bM : BV) : Option (Int32 × BV) :=
  some ((0 : Int32), bM)
theorem t_6_readCrop_32 (C : CX p s m args meth c cX6_readCrop 2 (some .boolean) RX6 D t) (qM : Nat → Nat) (r : Int32 × BV) (bM : BV) (h0 : f_6_readCrop_32 bM = some r) : At p l e (rmD 5) s m args below meth c D 2 w0 (QI below args s D w0 (fun x w => r.1 = x ∧ (wM t qM r.2) = w) 0 0) 0 0 32 [] [] (wM t qM bM) := by
  unfold f_6_readCrop_32 at h0
  refine A_iconst C (0 : Int32) dX6_readCrop_32 (by decide) ?_
  have h0 := Option.some.inj h0
  subst h0
  exact A_zret C dX6_readCrop_33 rfl ⟨rfl, rfl⟩
def f_6_readCrop (bM : BV) : Option (Int32 × BV) :=
  ck (inb (2 : Int32) 79) (ck (inb (2 : Int32) 79) (if (gA bM 6 (2 : Int32)) = (4 : Int32) then (f_6_readCrop_32 bM) else ((f_6_number bM (1 : Int32) (9 : Int32)).bind (fun z1 => if z1.1 = 0 then (f_6_readCrop_32 z1.2) else (ck (inb ((67 : Int32) + ((3 : Int32) * (gA bM 6 (2 : Int32)))) 79) (bs (pA z1.2 6 ((67 : Int32) + ((3 : Int32) * (gA bM 6 (2 : Int32)))) (gI z1.2 5)) (fun b2 => (f_6_number b2 (0 : Int32) (9 : Int32)).bind (fun z3 => if z3.1 = 0 then (some ((0 : Int32), z3.2)) else (ck (inb (((67 : Int32) + ((3 : Int32) * (gA bM 6 (2 : Int32)))) + (1 : Int32)) 79) (bs (pA z3.2 6 (((67 : Int32) + ((3 : Int32) * (gA bM 6 (2 : Int32)))) + (1 : Int32)) (gI z3.2 5)) (fun b4 => (f_6_number b4 (0 : Int32) (99 : Int32)).bind (fun z5 => if z5.1 = 0 then (some ((0 : Int32), z5.2)) else (ck (inb (((67 : Int32) + ((3 : Int32) * (gA bM 6 (2 : Int32)))) + (2 : Int32)) 79) (bs (pA z5.2 6 (((67 : Int32) + ((3 : Int32) * (gA bM 6 (2 : Int32)))) + (2 : Int32)) (gI z5.2 5)) (fun b6 => ck (inb (2 : Int32) 79) (ck (inb (2 : Int32) 79) (bs (pA b6 6 (2 : Int32) ((gA b6 6 (2 : Int32)) + (1 : Int32))) (fun b7 => (f_6_itemEnds b7).bind (fun z8 => ck (isb z8.1) (some (z8.1, z8.2)))))))))))))))))))))
theorem c_6_readCrop (l : Launch) (D : va_G) (t : ty4) (qM : Nat → Nat) (bM : BV) {r : Int32 × BV} (h0 : f_6_readCrop bM = some r) : MetI l yX6_readCrop cX6_readCrop 2 (some .boolean) (rmD 5) D t [.ref (qM 99)] (wM t qM bM) (fun x w => r.1 = x ∧ (wM t qM r.2) = w) := by
  refine MetI_of (by decide +kernel) (Nat.le_of_ble_eq_true rfl) (fun p e s m below meth c C _ => ?_)
  unfold f_6_readCrop at h0
  generalize hargs : (List.toArray [.ref (qM 99)] : Array Value) = args at C ⊢
  refine At.start (lv2 := [(0, .ref (qM 99))]) rfl ?_
  refine A_bipush C (67 : Int32) dX6_readCrop_0 (by decide) ?_
  refine A_iconst C (3 : Int32) dX6_readCrop_2 (by decide) ?_
  refine A_aload_n C 0 dX6_readCrop_3 rfl rfl ?_
  refine A_get (v := .ref (qM 6)) C 0 6 inG6 (ci := 6) rfl (by decide) fl_6_13 rfl rfl rfl dX6_readCrop_4 ?_
  refine A_iconst C (2 : Int32) dX6_readCrop_7 (by decide) ?_
  refine A_iald C 2 (gA bM 6 (2 : Int32)) rfl rfl dX6_readCrop_8 h0 (fun h0 => ?_)
  refine A_imul C dX6_readCrop_9 ?_
  refine A_iadd C dX6_readCrop_10 ?_
  refine A_istore_n C [(1, .int ((67 : Int32) + ((3 : Int32) * (gA bM 6 (2 : Int32))))), (0, .ref (qM 99))] dX6_readCrop_11 rfl (by decide) rfl ?_
  refine A_aload_n C 1 dX6_readCrop_12 rfl rfl ?_
  refine A_get (v := .ref (qM 6)) C 0 6 inG6 (ci := 6) rfl (by decide) fl_6_13 rfl rfl rfl dX6_readCrop_13 ?_
  refine A_iconst C (2 : Int32) dX6_readCrop_16 (by decide) ?_
  refine A_iald C 2 (gA bM 6 (2 : Int32)) rfl rfl dX6_readCrop_17 h0 (fun h0 => ?_)
  refine A_iconst C (4 : Int32) dX6_readCrop_18 (by decide) ?_
  refine A_icmp_eq C 32 dX6_readCrop_19 (by decide) h0 (fun h0 => ?_) (fun h0 => ?_)
  · exact A_loc [] rfl (t_6_readCrop_32 C qM r bM h0)
  · refine A_aload_n C 1 dX6_readCrop_22 rfl rfl ?_
    refine A_iconst C (1 : Int32) dX6_readCrop_23 (by decide) ?_
    refine A_bipush C (9 : Int32) dX6_readCrop_24 (by decide) ?_
    obtain ⟨z1, hz1, h0⟩ := bind_some h0
    refine A_vI (As := [.int (1 : Int32), .int (9 : Int32)]) (rest := []) C 0 (c_6_number l D t qM bM (1 : Int32) (9 : Int32) hz1) mw_6_number ml_6_89 im_6_number sl_6_number (rmok rfl rfl) (cut0 (wM t qM bM)) rfl (ci := 6) rfl rfl rfl (Nat.le_of_ble_eq_true rfl) dX6_readCrop_26 (fun x w1 hw1 => ?_)
    obtain ⟨rfl, rfl⟩ := hw1
    refine A_perm (ws' := (wM t qM z1.2)) ((cut0 _).symm) ?_
    refine A_if_ne C 34 dX6_readCrop_29 (by decide) h0 (fun h0 => ?_) (fun h0 => ?_)
    · refine A_aload_n C 1 dX6_readCrop_34 rfl rfl ?_
      refine A_get (v := .ref (qM 6)) C 0 6 inG6 (ci := 6) rfl (by decide) fl_6_13 rfl rfl rfl dX6_readCrop_35 ?_
      refine A_iload_n C 0 dX6_readCrop_38 rfl rfl ?_
      refine A_aload_n C 1 dX6_readCrop_39 rfl rfl ?_
      refine A_get (v := .int (gI z1.2 5)) C 0 5 inG6 (ci := 6) rfl (by decide) fl_6_64 rfl rfl rfl dX6_readCrop_40 ?_
      refine A_iast C 2 (wM t qM (pA z1.2 6 ((67 : Int32) + ((3 : Int32) * (gA bM 6 (2 : Int32)))) (gI z1.2 5))) rfl rfl dX6_readCrop_43 h0 (fun h0 => ?_)
      obtain ⟨b2, hb2, h0⟩ := bs_some h0
      refine A_weq (wM t qM b2) (by rw [hb2]) ?_
      refine A_aload_n C 1 dX6_readCrop_44 rfl rfl ?_
      refine A_iconst C (0 : Int32) dX6_readCrop_45 (by decide) ?_
      refine A_bipush C (9 : Int32) dX6_readCrop_46 (by decide) ?_
      obtain ⟨z3, hz3, h0⟩ := bind_some h0
      refine A_vI (As := [.int (0 : Int32), .int (9 : Int32)]) (rest := []) C 0 (c_6_number l D t qM b2 (0 : Int32) (9 : Int32) hz3) mw_6_number ml_6_89 im_6_number sl_6_number (rmok rfl rfl) (cut0 (wM t qM b2)) rfl (ci := 6) rfl rfl rfl (Nat.le_of_ble_eq_true rfl) dX6_readCrop_48 (fun x w1 hw1 => ?_)
      obtain ⟨rfl, rfl⟩ := hw1
      refine A_perm (ws' := (wM t qM z3.2)) ((cut0 _).symm) ?_
      refine A_if_ne C 56 dX6_readCrop_51 (by decide) h0 (fun h0 => ?_) (fun h0 => ?_)
      · refine A_aload_n C 1 dX6_readCrop_56 rfl rfl ?_
        refine A_get (v := .ref (qM 6)) C 0 6 inG6 (ci := 6) rfl (by decide) fl_6_13 rfl rfl rfl dX6_readCrop_57 ?_
        refine A_iload_n C 0 dX6_readCrop_60 rfl rfl ?_
        refine A_iconst C (1 : Int32) dX6_readCrop_61 (by decide) ?_
        refine A_iadd C dX6_readCrop_62 ?_
        refine A_aload_n C 1 dX6_readCrop_63 rfl rfl ?_
        refine A_get (v := .int (gI z3.2 5)) C 0 5 inG6 (ci := 6) rfl (by decide) fl_6_64 rfl rfl rfl dX6_readCrop_64 ?_
        refine A_iast C 2 (wM t qM (pA z3.2 6 (((67 : Int32) + ((3 : Int32) * (gA bM 6 (2 : Int32)))) + (1 : Int32)) (gI z3.2 5))) rfl rfl dX6_readCrop_67 h0 (fun h0 => ?_)
        obtain ⟨b4, hb4, h0⟩ := bs_some h0
        refine A_weq (wM t qM b4) (by rw [hb4]) ?_
        refine A_aload_n C 1 dX6_readCrop_68 rfl rfl ?_
        refine A_iconst C (0 : Int32) dX6_readCrop_69 (by decide) ?_
        refine A_bipush C (99 : Int32) dX6_readCrop_70 (by decide) ?_
        obtain ⟨z5, hz5, h0⟩ := bind_some h0
        refine A_vI (As := [.int (0 : Int32), .int (99 : Int32)]) (rest := []) C 0 (c_6_number l D t qM b4 (0 : Int32) (99 : Int32) hz5) mw_6_number ml_6_89 im_6_number sl_6_number (rmok rfl rfl) (cut0 (wM t qM b4)) rfl (ci := 6) rfl rfl rfl (Nat.le_of_ble_eq_true rfl) dX6_readCrop_72 (fun x w1 hw1 => ?_)
        obtain ⟨rfl, rfl⟩ := hw1
        refine A_perm (ws' := (wM t qM z5.2)) ((cut0 _).symm) ?_
        refine A_if_ne C 80 dX6_readCrop_75 (by decide) h0 (fun h0 => ?_) (fun h0 => ?_)
        · refine A_aload_n C 1 dX6_readCrop_80 rfl rfl ?_
          refine A_get (v := .ref (qM 6)) C 0 6 inG6 (ci := 6) rfl (by decide) fl_6_13 rfl rfl rfl dX6_readCrop_81 ?_
          refine A_iload_n C 0 dX6_readCrop_84 rfl rfl ?_
          refine A_iconst C (2 : Int32) dX6_readCrop_85 (by decide) ?_
          refine A_iadd C dX6_readCrop_86 ?_
          refine A_aload_n C 1 dX6_readCrop_87 rfl rfl ?_
          refine A_get (v := .int (gI z5.2 5)) C 0 5 inG6 (ci := 6) rfl (by decide) fl_6_64 rfl rfl rfl dX6_readCrop_88 ?_
          refine A_iast C 2 (wM t qM (pA z5.2 6 (((67 : Int32) + ((3 : Int32) * (gA bM 6 (2 : Int32)))) + (2 : Int32)) (gI z5.2 5))) rfl rfl dX6_readCrop_91 h0 (fun h0 => ?_)
          obtain ⟨b6, hb6, h0⟩ := bs_some h0
          refine A_weq (wM t qM b6) (by rw [hb6]) ?_
          refine A_aload_n C 1 dX6_readCrop_92 rfl rfl ?_
          refine A_get (v := .ref (qM 6)) C 0 6 inG6 (ci := 6) rfl (by decide) fl_6_13 rfl rfl rfl dX6_readCrop_93 ?_
          refine A_iconst C (2 : Int32) dX6_readCrop_96 (by decide) ?_
          refine A_dup2 C dX6_readCrop_97 rfl rfl ?_
          refine A_iald C 2 (gA b6 6 (2 : Int32)) rfl rfl dX6_readCrop_98 h0 (fun h0 => ?_)
          refine A_iconst C (1 : Int32) dX6_readCrop_99 (by decide) ?_
          refine A_iadd C dX6_readCrop_100 ?_
          refine A_iast C 2 (wM t qM (pA b6 6 (2 : Int32) ((gA b6 6 (2 : Int32)) + (1 : Int32)))) rfl rfl dX6_readCrop_101 h0 (fun h0 => ?_)
          obtain ⟨b7, hb7, h0⟩ := bs_some h0
          refine A_weq (wM t qM b7) (by rw [hb7]) ?_
          refine A_aload_n C 1 dX6_readCrop_102 rfl rfl ?_
          obtain ⟨z8, hz8, h0⟩ := bind_some h0
          refine A_vI (As := []) (rest := []) C 0 (c_6_itemEnds l D t qM b7 hz8) mw_6_itemEnds ml_6_93 im_6_itemEnds sl_6_itemEnds (rmok rfl rfl) (cut0 (wM t qM b7)) rfl (ci := 6) rfl rfl rfl (Nat.le_of_ble_eq_true rfl) dX6_readCrop_103 (fun x w1 hw1 => ?_)
          obtain ⟨rfl, rfl⟩ := hw1
          refine A_perm (ws' := (wM t qM z8.2)) ((cut0 _).symm) ?_
          obtain ⟨hz, h0⟩ := ck_some h0
          have h0 := Option.some.inj h0
          subst h0
          exact A_zret C dX6_readCrop_106 hz ⟨rfl, rfl⟩
        · refine A_iconst C (0 : Int32) dX6_readCrop_78 (by decide) ?_
          have h0 := Option.some.inj h0
          subst h0
          exact A_zret C dX6_readCrop_79 rfl ⟨rfl, rfl⟩
      · refine A_iconst C (0 : Int32) dX6_readCrop_54 (by decide) ?_
        have h0 := Option.some.inj h0
        subst h0
        exact A_zret C dX6_readCrop_55 rfl ⟨rfl, rfl⟩
    · exact A_loc [] rfl (t_6_readCrop_32 C qM r z1.2 h0)
def f_6_once_24 (bM : BV) : Option (Int32 × BV) :=
  some ((0 : Int32), bM)
theorem t_6_once_24 (C : CX p s m args meth c cX6_once 4 (some .boolean) RX6 D t) (qM : Nat → Nat) (r : Int32 × BV) (bM : BV) (h0 : f_6_once_24 bM = some r) : At p l e (rmD 5) s m args below meth c D 4 w0 (QI below args s D w0 (fun x w => r.1 = x ∧ (wM t qM r.2) = w) 0 0) 0 0 24 [] [] (wM t qM bM) := by
  unfold f_6_once_24 at h0
  refine A_iconst C (0 : Int32) dX6_once_24 (by decide) ?_
  have h0 := Option.some.inj h0
  subst h0
  exact A_zret C dX6_once_25 rfl ⟨rfl, rfl⟩
def f_6_once (bM : BV) (x1 : Int32) (x2 : Int32) (x3 : Int32) : Option (Int32 × BV) :=
  ck (inb (6 : Int32) 79) (if (((gA bM 6 (6 : Int32)) >>> (x1 &&& 31)) &&& (1 : Int32)) = (1 : Int32) then (f_6_once_24 bM) else ((f_6_number bM x2 x3).bind (fun z1 => if z1.1 = 0 then (f_6_once_24 z1.2) else (ck (inb (6 : Int32) 79) (ck (inb (6 : Int32) 79) (bs (pA z1.2 6 (6 : Int32) ((gA z1.2 6 (6 : Int32)) ||| ((1 : Int32) <<< (x1 &&& 31)))) (fun b2 => ck (inb x1 79) (bs (pA b2 6 x1 (gI b2 5)) (fun b3 => (f_6_itemEnds b3).bind (fun z4 => ck (isb z4.1) (some (z4.1, z4.2))))))))))))
theorem c_6_once (l : Launch) (D : va_G) (t : ty4) (qM : Nat → Nat) (bM : BV) (x1 : Int32) (x2 : Int32) (x3 : Int32) {r : Int32 × BV} (h0 : f_6_once bM x1 x2 x3 = some r) : MetI l yX6_once cX6_once 4 (some .boolean) (rmD 5) D t [.ref (qM 99), .int x1, .int x2, .int x3] (wM t qM bM) (fun x w => r.1 = x ∧ (wM t qM r.2) = w) := by
  refine MetI_of (by decide +kernel) (Nat.le_of_ble_eq_true rfl) (fun p e s m below meth c C _ => ?_)
  unfold f_6_once at h0
  generalize hargs : (List.toArray [.ref (qM 99), .int x1, .int x2, .int x3] : Array Value) = args at C ⊢
  refine At.start (lv2 := [(0, .ref (qM 99)), (1, .int x1), (2, .int x2), (3, .int x3)]) rfl ?_
  refine A_aload_n C 0 dX6_once_0 rfl rfl ?_
  refine A_get (v := .ref (qM 6)) C 0 6 inG6 (ci := 6) rfl (by decide) fl_6_13 rfl rfl rfl dX6_once_1 ?_
  refine A_bipush C (6 : Int32) dX6_once_4 (by decide) ?_
  refine A_iald C 2 (gA bM 6 (6 : Int32)) rfl rfl dX6_once_6 h0 (fun h0 => ?_)
  refine A_iload_n C 1 dX6_once_7 rfl rfl ?_
  refine A_ishr C dX6_once_8 ?_
  refine A_iconst C (1 : Int32) dX6_once_9 (by decide) ?_
  refine A_iand C dX6_once_10 ?_
  refine A_iconst C (1 : Int32) dX6_once_11 (by decide) ?_
  refine A_icmp_eq C 24 dX6_once_12 (by decide) h0 (fun h0 => ?_) (fun h0 => ?_)
  · exact A_loc [] rfl (t_6_once_24 C qM r bM h0)
  · refine A_aload_n C 0 dX6_once_15 rfl rfl ?_
    refine A_iload_n C 2 dX6_once_16 rfl rfl ?_
    refine A_iload_n C 3 dX6_once_17 rfl rfl ?_
    obtain ⟨z1, hz1, h0⟩ := bind_some h0
    refine A_vI (As := [.int x2, .int x3]) (rest := []) C 0 (c_6_number l D t qM bM x2 x3 hz1) mw_6_number ml_6_89 im_6_number sl_6_number (rmok rfl rfl) (cut0 (wM t qM bM)) rfl (ci := 6) rfl rfl rfl (Nat.le_of_ble_eq_true rfl) dX6_once_18 (fun x w1 hw1 => ?_)
    obtain ⟨rfl, rfl⟩ := hw1
    refine A_perm (ws' := (wM t qM z1.2)) ((cut0 _).symm) ?_
    refine A_if_ne C 26 dX6_once_21 (by decide) h0 (fun h0 => ?_) (fun h0 => ?_)
    · refine A_aload_n C 0 dX6_once_26 rfl rfl ?_
      refine A_get (v := .ref (qM 6)) C 0 6 inG6 (ci := 6) rfl (by decide) fl_6_13 rfl rfl rfl dX6_once_27 ?_
      refine A_bipush C (6 : Int32) dX6_once_30 (by decide) ?_
      refine A_dup2 C dX6_once_32 rfl rfl ?_
      refine A_iald C 2 (gA z1.2 6 (6 : Int32)) rfl rfl dX6_once_33 h0 (fun h0 => ?_)
      refine A_iconst C (1 : Int32) dX6_once_34 (by decide) ?_
      refine A_iload_n C 1 dX6_once_35 rfl rfl ?_
      refine A_ishl C dX6_once_36 ?_
      refine A_ior C dX6_once_37 ?_
      refine A_iast C 2 (wM t qM (pA z1.2 6 (6 : Int32) ((gA z1.2 6 (6 : Int32)) ||| ((1 : Int32) <<< (x1 &&& 31))))) rfl rfl dX6_once_38 h0 (fun h0 => ?_)
      obtain ⟨b2, hb2, h0⟩ := bs_some h0
      refine A_weq (wM t qM b2) (by rw [hb2]) ?_
      refine A_aload_n C 0 dX6_once_39 rfl rfl ?_
      refine A_get (v := .ref (qM 6)) C 0 6 inG6 (ci := 6) rfl (by decide) fl_6_13 rfl rfl rfl dX6_once_40 ?_
      refine A_iload_n C 1 dX6_once_43 rfl rfl ?_
      refine A_aload_n C 0 dX6_once_44 rfl rfl ?_
      refine A_get (v := .int (gI b2 5)) C 0 5 inG6 (ci := 6) rfl (by decide) fl_6_64 rfl rfl rfl dX6_once_45 ?_
      refine A_iast C 2 (wM t qM (pA b2 6 x1 (gI b2 5))) rfl rfl dX6_once_48 h0 (fun h0 => ?_)
      obtain ⟨b3, hb3, h0⟩ := bs_some h0
      refine A_weq (wM t qM b3) (by rw [hb3]) ?_
      refine A_aload_n C 0 dX6_once_49 rfl rfl ?_
      obtain ⟨z4, hz4, h0⟩ := bind_some h0
      refine A_vI (As := []) (rest := []) C 0 (c_6_itemEnds l D t qM b3 hz4) mw_6_itemEnds ml_6_93 im_6_itemEnds sl_6_itemEnds (rmok rfl rfl) (cut0 (wM t qM b3)) rfl (ci := 6) rfl rfl rfl (Nat.le_of_ble_eq_true rfl) dX6_once_50 (fun x w1 hw1 => ?_)
      obtain ⟨rfl, rfl⟩ := hw1
      refine A_perm (ws' := (wM t qM z4.2)) ((cut0 _).symm) ?_
      obtain ⟨hz, h0⟩ := ck_some h0
      have h0 := Option.some.inj h0
      subst h0
      exact A_zret C dX6_once_53 hz ⟨rfl, rfl⟩
    · exact A_loc [] rfl (t_6_once_24 C qM r z1.2 h0)
def f_6_readItem (bM : BV) : Option (Int32 × BV) :=
  if (gI bM 4) = (1 : Int32) then (if (gI bM 5) = (99 : Int32) then ((f_6_readCrop bM).bind (fun z1 => ck (isb z1.1) (some (z1.1, z1.2)))) else (if (gI bM 5) = (105 : Int32) then ((f_6_once bM (4 : Int32) (0 : Int32) (5 : Int32)).bind (fun z2 => ck (isb z2.1) (some (z2.1, z2.2)))) else (if (gI bM 5) = (112 : Int32) then ((f_6_once bM (3 : Int32) (1 : Int32) (9 : Int32)).bind (fun z3 => ck (isb z3.1) (some (z3.1, z3.2)))) else (if (gI bM 5) = (115 : Int32) then ((f_6_readSeason bM).bind (fun z4 => ck (isb z4.1) (some (z4.1, z4.2)))) else ((f_6_once bM (5 : Int32) (1 : Int32) (9 : Int32)).bind (fun z5 => ck (isb z5.1) (some (z5.1, z5.2)))))))) else (some ((0 : Int32), bM))
theorem c_6_readItem (l : Launch) (D : va_G) (t : ty4) (qM : Nat → Nat) (bM : BV) {r : Int32 × BV} (h0 : f_6_readItem bM = some r) : MetI l yX6_readItem cX6_readItem 1 (some .boolean) (rmD 6) D t [.ref (qM 99)] (wM t qM bM) (fun x w => r.1 = x ∧ (wM t qM r.2) = w) := by
  refine MetI_of (by decide +kernel) (Nat.le_of_ble_eq_true rfl) (fun p e s m below meth c C _ => ?_)
  unfold f_6_readItem at h0
  generalize hargs : (List.toArray [.ref (qM 99)] : Array Value) = args at C ⊢
  refine At.start (lv2 := [(0, .ref (qM 99))]) rfl ?_
  refine A_aload_n C 0 dX6_readItem_0 rfl rfl ?_
  refine A_get (v := .int (gI bM 4)) C 0 4 inG6 (ci := 6) rfl (by decide) fl_6_74 rfl rfl rfl dX6_readItem_1 ?_
  refine A_iconst C (1 : Int32) dX6_readItem_4 (by decide) ?_
  refine A_icmp_eq C 10 dX6_readItem_5 (by decide) h0 (fun h0 => ?_) (fun h0 => ?_)
  · refine A_aload_n C 0 dX6_readItem_10 rfl rfl ?_
    refine A_get (v := .int (gI bM 5)) C 0 5 inG6 (ci := 6) rfl (by decide) fl_6_64 rfl rfl rfl dX6_readItem_11 ?_
    refine sw_split h0 (fun hx h0 => ?_) (fun hn99 h0 => ?_)
    · refine A_look (off := 47) C 61 dX6_readItem_14 (by decide) (by first | (rw [hx]; done) | (rw [hx]; rfl)) (by decide) ?_
      refine A_aload_n C 0 dX6_readItem_61 rfl rfl ?_
      obtain ⟨z1, hz1, h0⟩ := bind_some h0
      refine A_vI (As := []) (rest := []) C 0 (c_6_readCrop l D t qM bM hz1) mw_6_readCrop ml_6_100 im_6_readCrop sl_6_readCrop (rmok rfl rfl) (cut0 (wM t qM bM)) rfl (ci := 6) rfl rfl rfl (Nat.le_of_ble_eq_true rfl) dX6_readItem_62 (fun x w1 hw1 => ?_)
      obtain ⟨rfl, rfl⟩ := hw1
      refine A_perm (ws' := (wM t qM z1.2)) ((cut0 _).symm) ?_
      obtain ⟨hz, h0⟩ := ck_some h0
      have h0 := Option.some.inj h0
      subst h0
      exact A_zret C dX6_readItem_65 hz ⟨rfl, rfl⟩
    ·
      refine sw_split h0 (fun hx h0 => ?_) (fun hn105 h0 => ?_)
      · refine A_look (off := 61) C 75 dX6_readItem_14 (by decide) (by first | (rw [hx]; done) | (rw [hx]; rfl)) (by decide) ?_
        refine A_aload_n C 0 dX6_readItem_75 rfl rfl ?_
        refine A_iconst C (4 : Int32) dX6_readItem_76 (by decide) ?_
        refine A_iconst C (0 : Int32) dX6_readItem_77 (by decide) ?_
        refine A_iconst C (5 : Int32) dX6_readItem_78 (by decide) ?_
        obtain ⟨z2, hz2, h0⟩ := bind_some h0
        refine A_vI (As := [.int (4 : Int32), .int (0 : Int32), .int (5 : Int32)]) (rest := []) C 0 (c_6_once l D t qM bM (4 : Int32) (0 : Int32) (5 : Int32) hz2) mw_6_once ml_6_103 im_6_once sl_6_once (rmok rfl rfl) (cut0 (wM t qM bM)) rfl (ci := 6) rfl rfl rfl (Nat.le_of_ble_eq_true rfl) dX6_readItem_79 (fun x w1 hw1 => ?_)
        obtain ⟨rfl, rfl⟩ := hw1
        refine A_perm (ws' := (wM t qM z2.2)) ((cut0 _).symm) ?_
        obtain ⟨hz, h0⟩ := ck_some h0
        have h0 := Option.some.inj h0
        subst h0
        exact A_zret C dX6_readItem_82 hz ⟨rfl, rfl⟩
      ·
        refine sw_split h0 (fun hx h0 => ?_) (fun hn112 h0 => ?_)
        · refine A_look (off := 52) C 66 dX6_readItem_14 (by decide) (by first | (rw [hx]; done) | (rw [hx]; rfl)) (by decide) ?_
          refine A_aload_n C 0 dX6_readItem_66 rfl rfl ?_
          refine A_iconst C (3 : Int32) dX6_readItem_67 (by decide) ?_
          refine A_iconst C (1 : Int32) dX6_readItem_68 (by decide) ?_
          refine A_bipush C (9 : Int32) dX6_readItem_69 (by decide) ?_
          obtain ⟨z3, hz3, h0⟩ := bind_some h0
          refine A_vI (As := [.int (3 : Int32), .int (1 : Int32), .int (9 : Int32)]) (rest := []) C 0 (c_6_once l D t qM bM (3 : Int32) (1 : Int32) (9 : Int32) hz3) mw_6_once ml_6_103 im_6_once sl_6_once (rmok rfl rfl) (cut0 (wM t qM bM)) rfl (ci := 6) rfl rfl rfl (Nat.le_of_ble_eq_true rfl) dX6_readItem_71 (fun x w1 hw1 => ?_)
          obtain ⟨rfl, rfl⟩ := hw1
          refine A_perm (ws' := (wM t qM z3.2)) ((cut0 _).symm) ?_
          obtain ⟨hz, h0⟩ := ck_some h0
          have h0 := Option.some.inj h0
          subst h0
          exact A_zret C dX6_readItem_74 hz ⟨rfl, rfl⟩
        ·
          refine sw_split h0 (fun hx h0 => ?_) (fun hn115 h0 => ?_)
          · refine A_look (off := 42) C 56 dX6_readItem_14 (by decide) (by first | (rw [hx]; done) | (rw [hx]; rfl)) (by decide) ?_
            refine A_aload_n C 0 dX6_readItem_56 rfl rfl ?_
            obtain ⟨z4, hz4, h0⟩ := bind_some h0
            refine A_vI (As := []) (rest := []) C 0 (c_6_readSeason l D t qM bM hz4) mw_6_readSeason ml_6_97 im_6_readSeason sl_6_readSeason (rmok rfl rfl) (cut0 (wM t qM bM)) rfl (ci := 6) rfl rfl rfl (Nat.le_of_ble_eq_true rfl) dX6_readItem_57 (fun x w1 hw1 => ?_)
            obtain ⟨rfl, rfl⟩ := hw1
            refine A_perm (ws' := (wM t qM z4.2)) ((cut0 _).symm) ?_
            obtain ⟨hz, h0⟩ := ck_some h0
            have h0 := Option.some.inj h0
            subst h0
            exact A_zret C dX6_readItem_60 hz ⟨rfl, rfl⟩
          ·
            refine A_look (off := 69) C 83 dX6_readItem_14 (by decide) (by show Op.lookupswitch.offset [(99, 47), (105, 61), (112, 52), (115, 42)] _ _ = _; first | (rw [lv_osw hn99 (a := 99) (by decide), lv_osw hn105 (a := 105) (by decide), lv_osw hn112 (a := 112) (by decide), lv_osw hn115 (a := 115) (by decide)]; done) | (rw [lv_osw hn99 (a := 99) (by decide), lv_osw hn105 (a := 105) (by decide), lv_osw hn112 (a := 112) (by decide), lv_osw hn115 (a := 115) (by decide)]; rfl)) (by decide) ?_
            refine A_aload_n C 0 dX6_readItem_83 rfl rfl ?_
            refine A_iconst C (5 : Int32) dX6_readItem_84 (by decide) ?_
            refine A_iconst C (1 : Int32) dX6_readItem_85 (by decide) ?_
            refine A_bipush C (9 : Int32) dX6_readItem_86 (by decide) ?_
            obtain ⟨z5, hz5, h0⟩ := bind_some h0
            refine A_vI (As := [.int (5 : Int32), .int (1 : Int32), .int (9 : Int32)]) (rest := []) C 0 (c_6_once l D t qM bM (5 : Int32) (1 : Int32) (9 : Int32) hz5) mw_6_once ml_6_103 im_6_once sl_6_once (rmok rfl rfl) (cut0 (wM t qM bM)) rfl (ci := 6) rfl rfl rfl (Nat.le_of_ble_eq_true rfl) dX6_readItem_88 (fun x w1 hw1 => ?_)
            obtain ⟨rfl, rfl⟩ := hw1
            refine A_perm (ws' := (wM t qM z5.2)) ((cut0 _).symm) ?_
            obtain ⟨hz, h0⟩ := ck_some h0
            have h0 := Option.some.inj h0
            subst h0
            exact A_zret C dX6_readItem_91 hz ⟨rfl, rfl⟩
  · refine A_iconst C (0 : Int32) dX6_readItem_8 (by decide) ?_
    have h0 := Option.some.inj h0
    subst h0
    exact A_zret C dX6_readItem_9 rfl ⟨rfl, rfl⟩
def f_6_takes_28_b (k28 : BV → Int32 → Option (BV)) (bM : BV) (x1 : Int32) : Option (BV) :=
  if (15 : Int32) ≤ x1 then (ck (inb (0 : Int32) 334) (bs (pI (pI (pA bM 16 (0 : Int32) (0 : Int32)) 10 (0 : Int32)) 12 (0 : Int32)) (fun b1 => ck (inb (167 : Int32) 334) (bs (pA b1 16 (167 : Int32) (0 : Int32)) (fun b2 => some b2))))) else (ck (inb x1 15) (bs (pA bM 8 x1 (0 : Int32)) (fun b3 => k28 b3 (x1 + (1 : Int32)))))
theorem t_6_takes_28_b (C : CX p s m args meth c cX6_takes 2 none RX6 D t) (qM : Nat → Nat) (r : BV) (k28 : BV → Int32 → Option (BV)) (K28 : ∀ (bM : BV) (x1 : Int32), k28 bM x1 = some r → At p l e (rmD 0) s m args below meth c D 2 w0 (QV below args s D w0 (fun w => (wM t qM r) = w) 0 0) 0 0 28 [(0, .ref (qM 99)), (1, .int x1)] [] (wM t qM bM)) (bM : BV) (x1 : Int32) (h0 : f_6_takes_28_b k28 bM x1 = some r) : At p l e (rmD 0) s m args below meth c D 2 w0 (QV below args s D w0 (fun w => (wM t qM r) = w) 0 0) 0 0 28 [(0, .ref (qM 99)), (1, .int x1)] [] (wM t qM bM) := by
  unfold f_6_takes_28_b at h0
  refine A_iload_n C 1 dX6_takes_28 rfl rfl ?_
  refine A_bipush C (15 : Int32) dX6_takes_29 (by decide) ?_
  refine A_icmp_ge C 47 dX6_takes_31 (by decide) h0 (fun h0 => ?_) (fun h0 => ?_)
  · refine A_aload_n C 0 dX6_takes_47 rfl rfl ?_
    refine A_iconst C (0 : Int32) dX6_takes_48 (by decide) ?_
    refine A_put C 0 12 (wM t qM (pI bM 12 (0 : Int32))) tyX6 inG6 tyX6_ok nmX6 (ci := 6) rfl (by decide) fl_6_110 rfl rfl rfl rfl rfl (Nat.le_of_ble_eq_true rfl) rfl dX6_takes_49 ?_
    refine A_aload_n C 0 dX6_takes_52 rfl rfl ?_
    refine A_iconst C (0 : Int32) dX6_takes_53 (by decide) ?_
    refine A_put C 0 10 (wM t qM (pI (pI bM 10 (0 : Int32)) 12 (0 : Int32))) tyX6 inG6 tyX6_ok nmX6 (ci := 6) rfl (by decide) fl_6_113 rfl rfl rfl rfl rfl (Nat.le_of_ble_eq_true rfl) rfl dX6_takes_54 ?_
    refine A_aload_n C 0 dX6_takes_57 rfl rfl ?_
    refine A_get (v := .ref (qM 16)) C 0 16 inG6 (ci := 6) rfl (by decide) fl_6_34 rfl rfl rfl dX6_takes_58 ?_
    refine A_iconst C (0 : Int32) dX6_takes_61 (by decide) ?_
    refine A_iconst C (0 : Int32) dX6_takes_62 (by decide) ?_
    refine A_iast C 9 (wM t qM (pI (pI (pA bM 16 (0 : Int32) (0 : Int32)) 10 (0 : Int32)) 12 (0 : Int32))) rfl rfl dX6_takes_63 h0 (fun h0 => ?_)
    obtain ⟨b1, hb1, h0⟩ := bs_some h0
    refine A_weq (wM t qM b1) (by rw [hb1]) ?_
    refine A_aload_n C 0 dX6_takes_64 rfl rfl ?_
    refine A_get (v := .ref (qM 16)) C 0 16 inG6 (ci := 6) rfl (by decide) fl_6_34 rfl rfl rfl dX6_takes_65 ?_
    refine A_sipush C (167 : Int32) dX6_takes_68 (by decide) ?_
    refine A_iconst C (0 : Int32) dX6_takes_71 (by decide) ?_
    refine A_iast C 9 (wM t qM (pA b1 16 (167 : Int32) (0 : Int32))) rfl rfl dX6_takes_72 h0 (fun h0 => ?_)
    obtain ⟨b2, hb2, h0⟩ := bs_some h0
    refine A_weq (wM t qM b2) (by rw [hb2]) ?_
    have h0 := Option.some.inj h0
    subst h0
    exact A_vret C dX6_takes_73 rfl
  · refine A_aload_n C 0 dX6_takes_34 rfl rfl ?_
    refine A_get (v := .ref (qM 8)) C 0 8 inG6 (ci := 6) rfl (by decide) fl_6_19 rfl rfl rfl dX6_takes_35 ?_
    refine A_iload_n C 1 dX6_takes_38 rfl rfl ?_
    refine A_iconst C (0 : Int32) dX6_takes_39 (by decide) ?_
    refine A_iast C 4 (wM t qM (pA bM 8 x1 (0 : Int32))) rfl rfl dX6_takes_40 h0 (fun h0 => ?_)
    obtain ⟨b3, hb3, h0⟩ := bs_some h0
    refine A_weq (wM t qM b3) (by rw [hb3]) ?_
    refine A_iinc C 1 (x1 + (1 : Int32)) [(1, .int (x1 + (1 : Int32))), (0, .ref (qM 99))] dX6_takes_41 rfl rfl (by decide) rfl ?_
    refine A_goto C 28 dX6_takes_44 (by decide) ?_
    exact A_loc [1, 0] rfl (K28 b3 (x1 + (1 : Int32)) h0)
def f_6_takes_28 : Nat → BV → Int32 → Option (BV)
  | 0 => fun _ _ => none
  | n + 1 => f_6_takes_28_b (f_6_takes_28 n)
theorem t_6_takes_28 (C : CX p s m args meth c cX6_takes 2 none RX6 D t) (qM : Nat → Nat) (r : BV) : ∀ (n : Nat), ∀ (bM : BV) (x1 : Int32), f_6_takes_28 n bM x1 = some r → At p l e (rmD 0) s m args below meth c D 2 w0 (QV below args s D w0 (fun w => (wM t qM r) = w) 0 0) 0 0 28 [(0, .ref (qM 99)), (1, .int x1)] [] (wM t qM bM) := by
  intro n
  induction n with
  | zero =>
    intro bM x1 h0
    have h0 : none = some r := h0
    cases h0
  | succ n ih =>
    intro bM x1 h0
    exact t_6_takes_28_b C qM r _ ih bM x1 h0
def f_6_takes_2_b (k2 : BV → Int32 → Option (BV)) (bM : BV) (x1 : Int32) : Option (BV) :=
  if (79 : Int32) ≤ x1 then (f_6_takes_28 200 bM (0 : Int32)) else (ck (inb x1 79) (ck (inb x1 79) (bs (pA bM 7 x1 (gA bM 6 x1)) (fun b4 => k2 b4 (x1 + (1 : Int32))))))
theorem t_6_takes_2_b (C : CX p s m args meth c cX6_takes 2 none RX6 D t) (qM : Nat → Nat) (r : BV) (k2 : BV → Int32 → Option (BV)) (K2 : ∀ (bM : BV) (x1 : Int32), k2 bM x1 = some r → At p l e (rmD 0) s m args below meth c D 2 w0 (QV below args s D w0 (fun w => (wM t qM r) = w) 0 0) 0 0 2 [(0, .ref (qM 99)), (1, .int x1)] [] (wM t qM bM)) (bM : BV) (x1 : Int32) (h0 : f_6_takes_2_b k2 bM x1 = some r) : At p l e (rmD 0) s m args below meth c D 2 w0 (QV below args s D w0 (fun w => (wM t qM r) = w) 0 0) 0 0 2 [(0, .ref (qM 99)), (1, .int x1)] [] (wM t qM bM) := by
  unfold f_6_takes_2_b at h0
  refine A_iload_n C 1 dX6_takes_2 rfl rfl ?_
  refine A_bipush C (79 : Int32) dX6_takes_3 (by decide) ?_
  refine A_icmp_ge C 26 dX6_takes_5 (by decide) h0 (fun h0 => ?_) (fun h0 => ?_)
  · refine A_iconst C (0 : Int32) dX6_takes_26 (by decide) ?_
    refine A_istore_n C [(1, .int (0 : Int32)), (0, .ref (qM 99))] dX6_takes_27 rfl (by decide) rfl ?_
    exact A_loc [1, 0] rfl (t_6_takes_28 C qM r 200 bM (0 : Int32) h0)
  · refine A_aload_n C 0 dX6_takes_8 rfl rfl ?_
    refine A_get (v := .ref (qM 7)) C 0 7 inG6 (ci := 6) rfl (by decide) fl_6_16 rfl rfl rfl dX6_takes_9 ?_
    refine A_iload_n C 1 dX6_takes_12 rfl rfl ?_
    refine A_aload_n C 0 dX6_takes_13 rfl rfl ?_
    refine A_get (v := .ref (qM 6)) C 0 6 inG6 (ci := 6) rfl (by decide) fl_6_13 rfl rfl rfl dX6_takes_14 ?_
    refine A_iload_n C 1 dX6_takes_17 rfl rfl ?_
    refine A_iald C 2 (gA bM 6 x1) rfl rfl dX6_takes_18 h0 (fun h0 => ?_)
    refine A_iast C 3 (wM t qM (pA bM 7 x1 (gA bM 6 x1))) rfl rfl dX6_takes_19 h0 (fun h0 => ?_)
    obtain ⟨b4, hb4, h0⟩ := bs_some h0
    refine A_weq (wM t qM b4) (by rw [hb4]) ?_
    refine A_iinc C 1 (x1 + (1 : Int32)) [(1, .int (x1 + (1 : Int32))), (0, .ref (qM 99))] dX6_takes_20 rfl rfl (by decide) rfl ?_
    refine A_goto C 2 dX6_takes_23 (by decide) ?_
    exact A_loc [1, 0] rfl (K2 b4 (x1 + (1 : Int32)) h0)
def f_6_takes_2 : Nat → BV → Int32 → Option (BV)
  | 0 => fun _ _ => none
  | n + 1 => f_6_takes_2_b (f_6_takes_2 n)
theorem t_6_takes_2 (C : CX p s m args meth c cX6_takes 2 none RX6 D t) (qM : Nat → Nat) (r : BV) : ∀ (n : Nat), ∀ (bM : BV) (x1 : Int32), f_6_takes_2 n bM x1 = some r → At p l e (rmD 0) s m args below meth c D 2 w0 (QV below args s D w0 (fun w => (wM t qM r) = w) 0 0) 0 0 2 [(0, .ref (qM 99)), (1, .int x1)] [] (wM t qM bM) := by
  intro n
  induction n with
  | zero =>
    intro bM x1 h0
    have h0 : none = some r := h0
    cases h0
  | succ n ih =>
    intro bM x1 h0
    exact t_6_takes_2_b C qM r _ ih bM x1 h0
def f_6_takes (bM : BV) : Option (BV) :=
  f_6_takes_2 200 bM (0 : Int32)
theorem c_6_takes (l : Launch) (D : va_G) (t : ty4) (qM : Nat → Nat) (bM : BV) {r : BV} (h0 : f_6_takes bM = some r) : MetV l yX6_takes cX6_takes 2 none (rmD 0) D t [.ref (qM 99)] (wM t qM bM) (fun w => (wM t qM r) = w) := by
  refine MetV_of (by decide +kernel) (Nat.le_of_ble_eq_true rfl) (fun p e s m below meth c C _ => ?_)
  unfold f_6_takes at h0
  generalize hargs : (List.toArray [.ref (qM 99)] : Array Value) = args at C ⊢
  refine At.start (lv2 := [(0, .ref (qM 99))]) rfl ?_
  refine A_iconst C (0 : Int32) dX6_takes_0 (by decide) ?_
  refine A_istore_n C [(1, .int (0 : Int32)), (0, .ref (qM 99))] dX6_takes_1 rfl (by decide) rfl ?_
  exact A_loc [1, 0] rfl (t_6_takes_2 C qM r 200 bM (0 : Int32) h0)
def f_6_days (bM : BV) : Option (Int32) :=
  ck (inb (0 : Int32) 79) (some (gA bM 7 (0 : Int32)))
theorem c_6_days (l : Launch) (D : va_G) (t : ty4) (qM : Nat → Nat) (bM : BV) {r : Int32} (h0 : f_6_days bM = some r) : MetI l yX6_days cX6_days 1 (some .int) (rmD 0) D t [.ref (qM 99)] (wM t qM bM) (fun x w => r = x ∧ (wM t qM bM) = w) := by
  refine MetI_of (by decide +kernel) (Nat.le_of_ble_eq_true rfl) (fun p e s m below meth c C _ => ?_)
  unfold f_6_days at h0
  generalize hargs : (List.toArray [.ref (qM 99)] : Array Value) = args at C ⊢
  refine At.start (lv2 := [(0, .ref (qM 99))]) rfl ?_
  refine A_aload_n C 0 dX6_days_0 rfl rfl ?_
  refine A_get (v := .ref (qM 7)) C 0 7 inG6 (ci := 6) rfl (by decide) fl_6_16 rfl rfl rfl dX6_days_1 ?_
  refine A_iconst C (0 : Int32) dX6_days_4 (by decide) ?_
  refine A_iald C 3 (gA bM 7 (0 : Int32)) rfl rfl dX6_days_5 h0 (fun h0 => ?_)
  have h0 := Option.some.inj h0
  subst h0
  exact A_iret C dX6_days_6 ⟨rfl, rfl⟩
def f_6_isDay (bM : BV) (x1 : Int32) : Option (Int32) :=
  (f_6_days bM).bind (fun z1 => (f_6_in (x1).toInt64 (0 : Int64) ((z1 - (1 : Int32))).toInt64).bind (fun z2 => ck (isb z2) (some z2)))
theorem c_6_isDay (l : Launch) (D : va_G) (t : ty4) (qM : Nat → Nat) (bM : BV) (x1 : Int32) {r : Int32} (h0 : f_6_isDay bM x1 = some r) : MetI l yX6_isDay cX6_isDay 2 (some .boolean) (rmD 1) D t [.ref (qM 99), .int x1] (wM t qM bM) (fun x w => r = x ∧ (wM t qM bM) = w) := by
  refine MetI_of (by decide +kernel) (Nat.le_of_ble_eq_true rfl) (fun p e s m below meth c C _ => ?_)
  unfold f_6_isDay at h0
  generalize hargs : (List.toArray [.ref (qM 99), .int x1] : Array Value) = args at C ⊢
  refine At.start (lv2 := [(0, .ref (qM 99)), (1, .int x1)]) rfl ?_
  refine A_iload_n C 1 dX6_isDay_0 rfl rfl ?_
  refine A_i2l C dX6_isDay_1 ?_
  refine A_lconst C (0 : Int64) dX6_isDay_2 (by decide) ?_
  refine A_aload_n C 0 dX6_isDay_3 rfl rfl ?_
  obtain ⟨z1, hz1, h0⟩ := bind_some h0
  refine A_vI (As := []) (rest := [.long (0 : Int64), .long (x1).toInt64]) C 0 (c_6_days l D t qM bM hz1) mw_6_days ml_6_116 im_6_days sl_6_days (rmok rfl rfl) (cut0 (wM t qM bM)) rfl (ci := 6) rfl rfl rfl (Nat.le_of_ble_eq_true rfl) dX6_isDay_4 (fun x w1 hw1 => ?_)
  obtain ⟨rfl, rfl⟩ := hw1
  refine A_perm (ws' := (wM t qM bM)) ((cut0 _).symm) ?_
  refine A_iconst C (1 : Int32) dX6_isDay_7 (by decide) ?_
  refine A_isub C dX6_isDay_8 ?_
  refine A_i2l C dX6_isDay_9 ?_
  obtain ⟨z2, hz2, h0⟩ := bind_some h0
  refine A_sI (As := [.long (x1).toInt64, .long (0 : Int64), .long ((z1 - (1 : Int32))).toInt64]) (rest := []) C (c_6_in l D t (x1).toInt64 (0 : Int64) ((z1 - (1 : Int32))).toInt64 hz2) mw_6_in ml_6_45 st_6_in (rmok rfl rfl) (cutN (wM t qM bM)) rfl rfl (Nat.le_of_ble_eq_true rfl) dX6_isDay_10 (fun x w1 hw1 => ?_)
  obtain ⟨rfl, rfl⟩ := hw1
  refine A_perm (ws' := (wM t qM bM)) ((cutN _).symm) ?_
  obtain ⟨hz, h0⟩ := ck_some h0
  have h0 := Option.some.inj h0
  subst h0
  exact A_zret C dX6_isDay_13 hz ⟨rfl, rfl⟩
def f_6_isCrop (bM : BV) (x1 : Int32) : Option (Int32) :=
  ck (inb (2 : Int32) 79) ((f_6_in (x1).toInt64 (0 : Int64) (((gA bM 7 (2 : Int32)) - (1 : Int32))).toInt64).bind (fun z1 => ck (isb z1) (some z1)))
theorem c_6_isCrop (l : Launch) (D : va_G) (t : ty4) (qM : Nat → Nat) (bM : BV) (x1 : Int32) {r : Int32} (h0 : f_6_isCrop bM x1 = some r) : MetI l yX6_isCrop cX6_isCrop 2 (some .boolean) (rmD 1) D t [.ref (qM 99), .int x1] (wM t qM bM) (fun x w => r = x ∧ (wM t qM bM) = w) := by
  refine MetI_of (by decide +kernel) (Nat.le_of_ble_eq_true rfl) (fun p e s m below meth c C _ => ?_)
  unfold f_6_isCrop at h0
  generalize hargs : (List.toArray [.ref (qM 99), .int x1] : Array Value) = args at C ⊢
  refine At.start (lv2 := [(0, .ref (qM 99)), (1, .int x1)]) rfl ?_
  refine A_iload_n C 1 dX6_isCrop_0 rfl rfl ?_
  refine A_i2l C dX6_isCrop_1 ?_
  refine A_lconst C (0 : Int64) dX6_isCrop_2 (by decide) ?_
  refine A_aload_n C 0 dX6_isCrop_3 rfl rfl ?_
  refine A_get (v := .ref (qM 7)) C 0 7 inG6 (ci := 6) rfl (by decide) fl_6_16 rfl rfl rfl dX6_isCrop_4 ?_
  refine A_iconst C (2 : Int32) dX6_isCrop_7 (by decide) ?_
  refine A_iald C 3 (gA bM 7 (2 : Int32)) rfl rfl dX6_isCrop_8 h0 (fun h0 => ?_)
  refine A_iconst C (1 : Int32) dX6_isCrop_9 (by decide) ?_
  refine A_isub C dX6_isCrop_10 ?_
  refine A_i2l C dX6_isCrop_11 ?_
  obtain ⟨z1, hz1, h0⟩ := bind_some h0
  refine A_sI (As := [.long (x1).toInt64, .long (0 : Int64), .long (((gA bM 7 (2 : Int32)) - (1 : Int32))).toInt64]) (rest := []) C (c_6_in l D t (x1).toInt64 (0 : Int64) (((gA bM 7 (2 : Int32)) - (1 : Int32))).toInt64 hz1) mw_6_in ml_6_45 st_6_in (rmok rfl rfl) (cutN (wM t qM bM)) rfl rfl (Nat.le_of_ble_eq_true rfl) dX6_isCrop_12 (fun x w1 hw1 => ?_)
  obtain ⟨rfl, rfl⟩ := hw1
  refine A_perm (ws' := (wM t qM bM)) ((cutN _).symm) ?_
  obtain ⟨hz, h0⟩ := ck_some h0
  have h0 := Option.some.inj h0
  subst h0
  exact A_zret C dX6_isCrop_15 hz ⟨rfl, rfl⟩
def f_6_isLoan (x0 : Int32) : Option (Int32) :=
  (f_6_in (x0).toInt64 (0 : Int64) (3 : Int64)).bind (fun z1 => ck (isb z1) (some z1))
theorem c_6_isLoan (l : Launch) (D : va_G) (t : ty4) (x0 : Int32) {r : Int32} (h0 : f_6_isLoan x0 = some r) : MetI l yX6_isLoan cX6_isLoan 1 (some .boolean) (rmD 1) D t [.int x0] [] (fun x w => r = x ∧ [] = w) := by
  refine MetI_of (by decide +kernel) (Nat.le_of_ble_eq_true rfl) (fun p e s m below meth c C _ => ?_)
  unfold f_6_isLoan at h0
  generalize hargs : (List.toArray [.int x0] : Array Value) = args at C ⊢
  refine At.start (lv2 := [(0, .int x0)]) rfl ?_
  refine A_iload_n C 0 dX6_isLoan_0 rfl rfl ?_
  refine A_i2l C dX6_isLoan_1 ?_
  refine A_lconst C (0 : Int64) dX6_isLoan_2 (by decide) ?_
  refine A_ldc2 (v := (3 : Int64)) C cl_6_120 dX6_isLoan_3 ?_
  obtain ⟨z1, hz1, h0⟩ := bind_some h0
  refine A_sI (As := [.long (x0).toInt64, .long (0 : Int64), .long (3 : Int64)]) (rest := []) C (c_6_in l D t (x0).toInt64 (0 : Int64) (3 : Int64) hz1) mw_6_in ml_6_45 st_6_in (rmok rfl rfl) (cutN []) rfl rfl (Nat.le_of_ble_eq_true rfl) dX6_isLoan_6 (fun x w1 hw1 => ?_)
  obtain ⟨rfl, rfl⟩ := hw1
  refine A_perm (ws' := []) ((cutN _).symm) ?_
  obtain ⟨hz, h0⟩ := ck_some h0
  have h0 := Option.some.inj h0
  subst h0
  exact A_zret C dX6_isLoan_9 hz ⟨rfl, rfl⟩
def f_6_loanDays (bM : BV) (x1 : Int32) : Option (Int32) :=
  ck (inb ((3 : Int32) + ((3 : Int32) * x1)) 15) (some (gA bM 8 ((3 : Int32) + ((3 : Int32) * x1))))
theorem c_6_loanDays (l : Launch) (D : va_G) (t : ty4) (qM : Nat → Nat) (bM : BV) (x1 : Int32) {r : Int32} (h0 : f_6_loanDays bM x1 = some r) : MetI l yX6_loanDays cX6_loanDays 2 (some .int) (rmD 0) D t [.ref (qM 99), .int x1] (wM t qM bM) (fun x w => r = x ∧ (wM t qM bM) = w) := by
  refine MetI_of (by decide +kernel) (Nat.le_of_ble_eq_true rfl) (fun p e s m below meth c C _ => ?_)
  unfold f_6_loanDays at h0
  generalize hargs : (List.toArray [.ref (qM 99), .int x1] : Array Value) = args at C ⊢
  refine At.start (lv2 := [(0, .ref (qM 99)), (1, .int x1)]) rfl ?_
  refine A_aload_n C 0 dX6_loanDays_0 rfl rfl ?_
  refine A_get (v := .ref (qM 8)) C 0 8 inG6 (ci := 6) rfl (by decide) fl_6_19 rfl rfl rfl dX6_loanDays_1 ?_
  refine A_iconst C (3 : Int32) dX6_loanDays_4 (by decide) ?_
  refine A_iconst C (3 : Int32) dX6_loanDays_5 (by decide) ?_
  refine A_iload_n C 1 dX6_loanDays_6 rfl rfl ?_
  refine A_imul C dX6_loanDays_7 ?_
  refine A_iadd C dX6_loanDays_8 ?_
  refine A_iald C 4 (gA bM 8 ((3 : Int32) + ((3 : Int32) * x1))) rfl rfl dX6_loanDays_9 h0 (fun h0 => ?_)
  have h0 := Option.some.inj h0
  subst h0
  exact A_iret C dX6_loanDays_10 ⟨rfl, rfl⟩
def f_6_lent (bM : BV) (x1 : Int32) : Option (Int32) :=
  ck (inb (((3 : Int32) + ((3 : Int32) * x1)) + (1 : Int32)) 15) (some (gA bM 8 (((3 : Int32) + ((3 : Int32) * x1)) + (1 : Int32))))
theorem c_6_lent (l : Launch) (D : va_G) (t : ty4) (qM : Nat → Nat) (bM : BV) (x1 : Int32) {r : Int32} (h0 : f_6_lent bM x1 = some r) : MetI l yX6_lent cX6_lent 2 (some .int) (rmD 0) D t [.ref (qM 99), .int x1] (wM t qM bM) (fun x w => r = x ∧ (wM t qM bM) = w) := by
  refine MetI_of (by decide +kernel) (Nat.le_of_ble_eq_true rfl) (fun p e s m below meth c C _ => ?_)
  unfold f_6_lent at h0
  generalize hargs : (List.toArray [.ref (qM 99), .int x1] : Array Value) = args at C ⊢
  refine At.start (lv2 := [(0, .ref (qM 99)), (1, .int x1)]) rfl ?_
  refine A_aload_n C 0 dX6_lent_0 rfl rfl ?_
  refine A_get (v := .ref (qM 8)) C 0 8 inG6 (ci := 6) rfl (by decide) fl_6_19 rfl rfl rfl dX6_lent_1 ?_
  refine A_iconst C (3 : Int32) dX6_lent_4 (by decide) ?_
  refine A_iconst C (3 : Int32) dX6_lent_5 (by decide) ?_
  refine A_iload_n C 1 dX6_lent_6 rfl rfl ?_
  refine A_imul C dX6_lent_7 ?_
  refine A_iadd C dX6_lent_8 ?_
  refine A_iconst C (1 : Int32) dX6_lent_9 (by decide) ?_
  refine A_iadd C dX6_lent_10 ?_
  refine A_iald C 4 (gA bM 8 (((3 : Int32) + ((3 : Int32) * x1)) + (1 : Int32))) rfl rfl dX6_lent_11 h0 (fun h0 => ?_)
  have h0 := Option.some.inj h0
  subst h0
  exact A_iret C dX6_lent_12 ⟨rfl, rfl⟩
def f_6_out (bM : BV) : Option (Int32) :=
  (f_6_loanDays bM (0 : Int32)).bind (fun z1 => (f_6_loanDays bM (1 : Int32)).bind (fun z2 => (f_6_loanDays bM (2 : Int32)).bind (fun z3 => (f_6_loanDays bM (3 : Int32)).bind (fun z4 => some (((z1 ||| z2) ||| z3) ||| z4)))))
theorem c_6_out (l : Launch) (D : va_G) (t : ty4) (qM : Nat → Nat) (bM : BV) {r : Int32} (h0 : f_6_out bM = some r) : MetI l yX6_out cX6_out 1 (some .int) (rmD 1) D t [.ref (qM 99)] (wM t qM bM) (fun x w => r = x ∧ (wM t qM bM) = w) := by
  refine MetI_of (by decide +kernel) (Nat.le_of_ble_eq_true rfl) (fun p e s m below meth c C _ => ?_)
  unfold f_6_out at h0
  generalize hargs : (List.toArray [.ref (qM 99)] : Array Value) = args at C ⊢
  refine At.start (lv2 := [(0, .ref (qM 99))]) rfl ?_
  refine A_aload_n C 0 dX6_out_0 rfl rfl ?_
  refine A_iconst C (0 : Int32) dX6_out_1 (by decide) ?_
  obtain ⟨z1, hz1, h0⟩ := bind_some h0
  refine A_vI (As := [.int (0 : Int32)]) (rest := []) C 0 (c_6_loanDays l D t qM bM (0 : Int32) hz1) mw_6_loanDays ml_6_122 im_6_loanDays sl_6_loanDays (rmok rfl rfl) (cut0 (wM t qM bM)) rfl (ci := 6) rfl rfl rfl (Nat.le_of_ble_eq_true rfl) dX6_out_2 (fun x w1 hw1 => ?_)
  obtain ⟨rfl, rfl⟩ := hw1
  refine A_perm (ws' := (wM t qM bM)) ((cut0 _).symm) ?_
  refine A_aload_n C 0 dX6_out_5 rfl rfl ?_
  refine A_iconst C (1 : Int32) dX6_out_6 (by decide) ?_
  obtain ⟨z2, hz2, h0⟩ := bind_some h0
  refine A_vI (As := [.int (1 : Int32)]) (rest := [.int z1]) C 0 (c_6_loanDays l D t qM bM (1 : Int32) hz2) mw_6_loanDays ml_6_122 im_6_loanDays sl_6_loanDays (rmok rfl rfl) (cut0 (wM t qM bM)) rfl (ci := 6) rfl rfl rfl (Nat.le_of_ble_eq_true rfl) dX6_out_7 (fun x w1 hw1 => ?_)
  obtain ⟨rfl, rfl⟩ := hw1
  refine A_perm (ws' := (wM t qM bM)) ((cut0 _).symm) ?_
  refine A_ior C dX6_out_10 ?_
  refine A_aload_n C 0 dX6_out_11 rfl rfl ?_
  refine A_iconst C (2 : Int32) dX6_out_12 (by decide) ?_
  obtain ⟨z3, hz3, h0⟩ := bind_some h0
  refine A_vI (As := [.int (2 : Int32)]) (rest := [.int (z1 ||| z2)]) C 0 (c_6_loanDays l D t qM bM (2 : Int32) hz3) mw_6_loanDays ml_6_122 im_6_loanDays sl_6_loanDays (rmok rfl rfl) (cut0 (wM t qM bM)) rfl (ci := 6) rfl rfl rfl (Nat.le_of_ble_eq_true rfl) dX6_out_13 (fun x w1 hw1 => ?_)
  obtain ⟨rfl, rfl⟩ := hw1
  refine A_perm (ws' := (wM t qM bM)) ((cut0 _).symm) ?_
  refine A_ior C dX6_out_16 ?_
  refine A_aload_n C 0 dX6_out_17 rfl rfl ?_
  refine A_iconst C (3 : Int32) dX6_out_18 (by decide) ?_
  obtain ⟨z4, hz4, h0⟩ := bind_some h0
  refine A_vI (As := [.int (3 : Int32)]) (rest := [.int ((z1 ||| z2) ||| z3)]) C 0 (c_6_loanDays l D t qM bM (3 : Int32) hz4) mw_6_loanDays ml_6_122 im_6_loanDays sl_6_loanDays (rmok rfl rfl) (cut0 (wM t qM bM)) rfl (ci := 6) rfl rfl rfl (Nat.le_of_ble_eq_true rfl) dX6_out_19 (fun x w1 hw1 => ?_)
  obtain ⟨rfl, rfl⟩ := hw1
  refine A_perm (ws' := (wM t qM bM)) ((cut0 _).symm) ?_
  refine A_ior C dX6_out_22 ?_
  have h0 := Option.some.inj h0
  subst h0
  exact A_iret C dX6_out_23 ⟨rfl, rfl⟩
def f_6_notIn (bM : BV) : Option (Int32) :=
  (f_6_out bM).bind (fun z1 => ck (inb (2 : Int32) 15) (some (z1 ||| (gA bM 8 (2 : Int32)))))
theorem c_6_notIn (l : Launch) (D : va_G) (t : ty4) (qM : Nat → Nat) (bM : BV) {r : Int32} (h0 : f_6_notIn bM = some r) : MetI l yX6_notIn cX6_notIn 1 (some .int) (rmD 2) D t [.ref (qM 99)] (wM t qM bM) (fun x w => r = x ∧ (wM t qM bM) = w) := by
  refine MetI_of (by decide +kernel) (Nat.le_of_ble_eq_true rfl) (fun p e s m below meth c C _ => ?_)
  unfold f_6_notIn at h0
  generalize hargs : (List.toArray [.ref (qM 99)] : Array Value) = args at C ⊢
  refine At.start (lv2 := [(0, .ref (qM 99))]) rfl ?_
  refine A_aload_n C 0 dX6_notIn_0 rfl rfl ?_
  obtain ⟨z1, hz1, h0⟩ := bind_some h0
  refine A_vI (As := []) (rest := []) C 0 (c_6_out l D t qM bM hz1) mw_6_out ml_6_126 im_6_out sl_6_out (rmok rfl rfl) (cut0 (wM t qM bM)) rfl (ci := 6) rfl rfl rfl (Nat.le_of_ble_eq_true rfl) dX6_notIn_1 (fun x w1 hw1 => ?_)
  obtain ⟨rfl, rfl⟩ := hw1
  refine A_perm (ws' := (wM t qM bM)) ((cut0 _).symm) ?_
  refine A_aload_n C 0 dX6_notIn_4 rfl rfl ?_
  refine A_get (v := .ref (qM 8)) C 0 8 inG6 (ci := 6) rfl (by decide) fl_6_19 rfl rfl rfl dX6_notIn_5 ?_
  refine A_iconst C (2 : Int32) dX6_notIn_8 (by decide) ?_
  refine A_iald C 4 (gA bM 8 (2 : Int32)) rfl rfl dX6_notIn_9 h0 (fun h0 => ?_)
  refine A_ior C dX6_notIn_10 ?_
  have h0 := Option.some.inj h0
  subst h0
  exact A_iret C dX6_notIn_11 ⟨rfl, rfl⟩
def f_6_ripens_85 (bM : BV) (k33 : Int32 → Int32 → Int32 → Int32 → Int32 → Option (Int32)) (x2 : Int32) (x3 : Int32) (x4 : Int32) (x5 : Int32) (x6 : Int32) : Option (Int32) :=
  k33 x2 x3 x4 x5 (x6 + (1 : Int32))
theorem t_6_ripens_85 (C : CX p s m args meth c cX6_ripens 7 (some .int) RX6 D t) (qM : Nat → Nat) (bM : BV) (r : Int32) (k33 : Int32 → Int32 → Int32 → Int32 → Int32 → Option (Int32)) (K33 : ∀ (x2 : Int32) (x3 : Int32) (x4 : Int32) (x5 : Int32) (x6 : Int32), k33 x2 x3 x4 x5 x6 = some r → At p l e (rmD 1) s m args below meth c D 7 w0 (QI below args s D w0 (fun x w => r = x ∧ (wM t qM bM) = w) 0 0) 0 0 33 [(0, .ref (qM 99)), (2, .int x2), (3, .int x3), (4, .int x4), (5, .int x5), (6, .int x6)] [] (wM t qM bM)) (x2 : Int32) (x3 : Int32) (x4 : Int32) (x5 : Int32) (x6 : Int32) (h0 : f_6_ripens_85 bM k33 x2 x3 x4 x5 x6 = some r) : At p l e (rmD 1) s m args below meth c D 7 w0 (QI below args s D w0 (fun x w => r = x ∧ (wM t qM bM) = w) 0 0) 0 0 85 [(0, .ref (qM 99)), (2, .int x2), (3, .int x3), (4, .int x4), (5, .int x5), (6, .int x6)] [] (wM t qM bM) := by
  unfold f_6_ripens_85 at h0
  refine A_iinc C 5 (x6 + (1 : Int32)) [(6, .int (x6 + (1 : Int32))), (0, .ref (qM 99)), (2, .int x2), (3, .int x3), (4, .int x4), (5, .int x5)] dX6_ripens_85 rfl rfl (by decide) rfl ?_
  refine A_goto C 33 dX6_ripens_88 (by decide) ?_
  exact A_loc [1, 2, 3, 4, 5, 0] rfl (K33 x2 x3 x4 x5 (x6 + (1 : Int32)) h0)
def f_6_ripens_74 (bM : BV) (k33 : Int32 → Int32 → Int32 → Int32 → Int32 → Option (Int32)) (x2 : Int32) (x3 : Int32) (x4 : Int32) (x6 : Int32) (y0 : Int32) : Option (Int32) :=
  if y0 = x3 then (some x6) else (f_6_ripens_85 bM k33 x2 x3 x4 y0 x6)
theorem t_6_ripens_74 (C : CX p s m args meth c cX6_ripens 7 (some .int) RX6 D t) (qM : Nat → Nat) (bM : BV) (r : Int32) (k33 : Int32 → Int32 → Int32 → Int32 → Int32 → Option (Int32)) (K33 : ∀ (x2 : Int32) (x3 : Int32) (x4 : Int32) (x5 : Int32) (x6 : Int32), k33 x2 x3 x4 x5 x6 = some r → At p l e (rmD 1) s m args below meth c D 7 w0 (QI below args s D w0 (fun x w => r = x ∧ (wM t qM bM) = w) 0 0) 0 0 33 [(0, .ref (qM 99)), (2, .int x2), (3, .int x3), (4, .int x4), (5, .int x5), (6, .int x6)] [] (wM t qM bM)) (x2 : Int32) (x3 : Int32) (x4 : Int32) (x6 : Int32) (y0 : Int32) (h0 : f_6_ripens_74 bM k33 x2 x3 x4 x6 y0 = some r) : At p l e (rmD 1) s m args below meth c D 7 w0 (QI below args s D w0 (fun x w => r = x ∧ (wM t qM bM) = w) 0 0) 0 0 74 [(0, .ref (qM 99)), (2, .int x2), (3, .int x3), (4, .int x4), (6, .int x6)] [.int y0] (wM t qM bM) := by
  unfold f_6_ripens_74 at h0
  refine A_istore C [(5, .int y0), (0, .ref (qM 99)), (2, .int x2), (3, .int x3), (4, .int x4), (6, .int x6)] dX6_ripens_74 (by decide) rfl ?_
  refine A_iload C 0 dX6_ripens_76 rfl ?_
  refine A_iload_n C 3 dX6_ripens_78 rfl rfl ?_
  refine A_icmp_ne C 85 dX6_ripens_79 (by decide) h0 (fun h0 => ?_) (fun h0 => ?_)
  · exact A_loc [1, 2, 3, 4, 0, 5] rfl (t_6_ripens_85 C qM bM r k33 K33 x2 x3 x4 y0 x6 h0)
  · refine A_iload C 5 dX6_ripens_82 rfl ?_
    have h0 := Option.some.inj h0
    subst h0
    exact A_iret C dX6_ripens_84 ⟨rfl, rfl⟩
def f_6_ripens_33_b (bM : BV) (k33 : Int32 → Int32 → Int32 → Int32 → Int32 → Option (Int32)) (x2 : Int32) (x3 : Int32) (x4 : Int32) (x5 : Int32) (x6 : Int32) : Option (Int32) :=
  (f_6_days bM).bind (fun z1 => if z1 ≤ x6 then (some (-9 : Int32)) else (if ((x2 >>> (x6 &&& 31)) &&& (1 : Int32)) = 0 then (ck (inb ((7 : Int32) + x6) 79) (if x4 ≤ (gA bM 7 ((7 : Int32) + x6)) then (f_6_ripens_74 bM k33 x2 x3 x4 x6 (x5 + (1 : Int32))) else (f_6_ripens_74 bM k33 x2 x3 x4 x6 (0 : Int32)))) else (f_6_ripens_85 bM k33 x2 x3 x4 x5 x6)))
theorem t_6_ripens_33_b (C : CX p s m args meth c cX6_ripens 7 (some .int) RX6 D t) (qM : Nat → Nat) (bM : BV) (r : Int32) (k33 : Int32 → Int32 → Int32 → Int32 → Int32 → Option (Int32)) (K33 : ∀ (x2 : Int32) (x3 : Int32) (x4 : Int32) (x5 : Int32) (x6 : Int32), k33 x2 x3 x4 x5 x6 = some r → At p l e (rmD 1) s m args below meth c D 7 w0 (QI below args s D w0 (fun x w => r = x ∧ (wM t qM bM) = w) 0 0) 0 0 33 [(0, .ref (qM 99)), (2, .int x2), (3, .int x3), (4, .int x4), (5, .int x5), (6, .int x6)] [] (wM t qM bM)) (x2 : Int32) (x3 : Int32) (x4 : Int32) (x5 : Int32) (x6 : Int32) (h0 : f_6_ripens_33_b bM k33 x2 x3 x4 x5 x6 = some r) : At p l e (rmD 1) s m args below meth c D 7 w0 (QI below args s D w0 (fun x w => r = x ∧ (wM t qM bM) = w) 0 0) 0 0 33 [(0, .ref (qM 99)), (2, .int x2), (3, .int x3), (4, .int x4), (5, .int x5), (6, .int x6)] [] (wM t qM bM) := by
  unfold f_6_ripens_33_b at h0
  refine A_iload C 5 dX6_ripens_33 rfl ?_
  refine A_aload_n C 0 dX6_ripens_35 rfl rfl ?_
  obtain ⟨z1, hz1, h0⟩ := bind_some h0
  refine A_vI (As := []) (rest := [.int x6]) C 0 (c_6_days l D t qM bM hz1) mw_6_days ml_6_116 im_6_days sl_6_days (rmok rfl rfl) (cut0 (wM t qM bM)) rfl (ci := 6) rfl rfl rfl (Nat.le_of_ble_eq_true rfl) dX6_ripens_36 (fun x w1 hw1 => ?_)
  obtain ⟨rfl, rfl⟩ := hw1
  refine A_perm (ws' := (wM t qM bM)) ((cut0 _).symm) ?_
  refine A_icmp_ge C 91 dX6_ripens_39 (by decide) h0 (fun h0 => ?_) (fun h0 => ?_)
  · refine A_bipush C (-9 : Int32) dX6_ripens_91 (by decide) ?_
    have h0 := Option.some.inj h0
    subst h0
    exact A_iret C dX6_ripens_93 ⟨rfl, rfl⟩
  · refine A_iload_n C 1 dX6_ripens_42 rfl rfl ?_
    refine A_iload C 5 dX6_ripens_43 rfl ?_
    refine A_ishr C dX6_ripens_45 ?_
    refine A_iconst C (1 : Int32) dX6_ripens_46 (by decide) ?_
    refine A_iand C dX6_ripens_47 ?_
    refine A_if_ne C 85 dX6_ripens_48 (by decide) h0 (fun h0 => ?_) (fun h0 => ?_)
    · exact A_loc [0, 1, 2, 3, 4, 5] rfl (t_6_ripens_85 C qM bM r k33 K33 x2 x3 x4 x5 x6 h0)
    · refine A_aload_n C 0 dX6_ripens_51 rfl rfl ?_
      refine A_get (v := .ref (qM 7)) C 0 7 inG6 (ci := 6) rfl (by decide) fl_6_16 rfl rfl rfl dX6_ripens_52 ?_
      refine A_bipush C (7 : Int32) dX6_ripens_55 (by decide) ?_
      refine A_iload C 5 dX6_ripens_57 rfl ?_
      refine A_iadd C dX6_ripens_59 ?_
      refine A_iald C 3 (gA bM 7 ((7 : Int32) + x6)) rfl rfl dX6_ripens_60 h0 (fun h0 => ?_)
      refine A_iload C 3 dX6_ripens_61 rfl ?_
      refine A_icmp_ge C 70 dX6_ripens_63 (by decide) h0 (fun h0 => ?_) (fun h0 => ?_)
      · refine A_iload C 4 dX6_ripens_70 rfl ?_
        refine A_iconst C (1 : Int32) dX6_ripens_72 (by decide) ?_
        refine A_iadd C dX6_ripens_73 ?_
        exact A_loc [0, 1, 2, 3, 5] rfl (t_6_ripens_74 C qM bM r k33 K33 x2 x3 x4 x6 (x5 + (1 : Int32)) h0)
      · refine A_iconst C (0 : Int32) dX6_ripens_66 (by decide) ?_
        refine A_goto C 74 dX6_ripens_67 (by decide) ?_
        exact A_loc [0, 1, 2, 3, 5] rfl (t_6_ripens_74 C qM bM r k33 K33 x2 x3 x4 x6 (0 : Int32) h0)
def f_6_ripens_33 (bM : BV) : Nat → Int32 → Int32 → Int32 → Int32 → Int32 → Option (Int32)
  | 0 => fun _ _ _ _ _ => none
  | n + 1 => f_6_ripens_33_b bM (f_6_ripens_33 bM n)
theorem t_6_ripens_33 (C : CX p s m args meth c cX6_ripens 7 (some .int) RX6 D t) (qM : Nat → Nat) (bM : BV) (r : Int32) : ∀ (n : Nat), ∀ (x2 : Int32) (x3 : Int32) (x4 : Int32) (x5 : Int32) (x6 : Int32), f_6_ripens_33 bM n x2 x3 x4 x5 x6 = some r → At p l e (rmD 1) s m args below meth c D 7 w0 (QI below args s D w0 (fun x w => r = x ∧ (wM t qM bM) = w) 0 0) 0 0 33 [(0, .ref (qM 99)), (2, .int x2), (3, .int x3), (4, .int x4), (5, .int x5), (6, .int x6)] [] (wM t qM bM) := by
  intro n
  induction n with
  | zero =>
    intro x2 x3 x4 x5 x6 h0
    have h0 : none = some r := h0
    cases h0
  | succ n ih =>
    intro x2 x3 x4 x5 x6 h0
    exact t_6_ripens_33_b C qM bM r _ ih x2 x3 x4 x5 x6 h0
def f_6_ripens (bM : BV) (x1 : Int32) (x2 : Int32) : Option (Int32) :=
  ck (inb ((67 : Int32) + ((3 : Int32) * x1)) 79) (ck (inb (((67 : Int32) + ((3 : Int32) * x1)) + (1 : Int32)) 79) (f_6_ripens_33 bM 200 x2 (gA bM 7 ((67 : Int32) + ((3 : Int32) * x1))) (gA bM 7 (((67 : Int32) + ((3 : Int32) * x1)) + (1 : Int32))) (0 : Int32) (0 : Int32)))
theorem c_6_ripens (l : Launch) (D : va_G) (t : ty4) (qM : Nat → Nat) (bM : BV) (x1 : Int32) (x2 : Int32) {r : Int32} (h0 : f_6_ripens bM x1 x2 = some r) : MetI l yX6_ripens cX6_ripens 7 (some .int) (rmD 1) D t [.ref (qM 99), .int x1, .int x2] (wM t qM bM) (fun x w => r = x ∧ (wM t qM bM) = w) := by
  refine MetI_of (by decide +kernel) (Nat.le_of_ble_eq_true rfl) (fun p e s m below meth c C _ => ?_)
  unfold f_6_ripens at h0
  generalize hargs : (List.toArray [.ref (qM 99), .int x1, .int x2] : Array Value) = args at C ⊢
  refine At.start (lv2 := [(0, .ref (qM 99)), (1, .int x1), (2, .int x2)]) rfl ?_
  refine A_aload_n C 0 dX6_ripens_0 rfl rfl ?_
  refine A_get (v := .ref (qM 7)) C 0 7 inG6 (ci := 6) rfl (by decide) fl_6_16 rfl rfl rfl dX6_ripens_1 ?_
  refine A_bipush C (67 : Int32) dX6_ripens_4 (by decide) ?_
  refine A_iconst C (3 : Int32) dX6_ripens_6 (by decide) ?_
  refine A_iload_n C 1 dX6_ripens_7 rfl rfl ?_
  refine A_imul C dX6_ripens_8 ?_
  refine A_iadd C dX6_ripens_9 ?_
  refine A_iald C 3 (gA bM 7 ((67 : Int32) + ((3 : Int32) * x1))) rfl rfl dX6_ripens_10 h0 (fun h0 => ?_)
  refine A_istore_n C [(3, .int (gA bM 7 ((67 : Int32) + ((3 : Int32) * x1)))), (0, .ref (qM 99)), (1, .int x1), (2, .int x2)] dX6_ripens_11 rfl (by decide) rfl ?_
  refine A_aload_n C 1 dX6_ripens_12 rfl rfl ?_
  refine A_get (v := .ref (qM 7)) C 0 7 inG6 (ci := 6) rfl (by decide) fl_6_16 rfl rfl rfl dX6_ripens_13 ?_
  refine A_bipush C (67 : Int32) dX6_ripens_16 (by decide) ?_
  refine A_iconst C (3 : Int32) dX6_ripens_18 (by decide) ?_
  refine A_iload_n C 2 dX6_ripens_19 rfl rfl ?_
  refine A_imul C dX6_ripens_20 ?_
  refine A_iadd C dX6_ripens_21 ?_
  refine A_iconst C (1 : Int32) dX6_ripens_22 (by decide) ?_
  refine A_iadd C dX6_ripens_23 ?_
  refine A_iald C 3 (gA bM 7 (((67 : Int32) + ((3 : Int32) * x1)) + (1 : Int32))) rfl rfl dX6_ripens_24 h0 (fun h0 => ?_)
  refine A_istore C [(4, .int (gA bM 7 (((67 : Int32) + ((3 : Int32) * x1)) + (1 : Int32)))), (3, .int (gA bM 7 ((67 : Int32) + ((3 : Int32) * x1)))), (0, .ref (qM 99)), (1, .int x1), (2, .int x2)] dX6_ripens_25 (by decide) rfl ?_
  refine A_iconst C (0 : Int32) dX6_ripens_27 (by decide) ?_
  refine A_istore C [(5, .int (0 : Int32)), (4, .int (gA bM 7 (((67 : Int32) + ((3 : Int32) * x1)) + (1 : Int32)))), (3, .int (gA bM 7 ((67 : Int32) + ((3 : Int32) * x1)))), (0, .ref (qM 99)), (1, .int x1), (2, .int x2)] dX6_ripens_28 (by decide) rfl ?_
  refine A_iconst C (0 : Int32) dX6_ripens_30 (by decide) ?_
  refine A_istore C [(6, .int (0 : Int32)), (5, .int (0 : Int32)), (4, .int (gA bM 7 (((67 : Int32) + ((3 : Int32) * x1)) + (1 : Int32)))), (3, .int (gA bM 7 ((67 : Int32) + ((3 : Int32) * x1)))), (0, .ref (qM 99)), (1, .int x1), (2, .int x2)] dX6_ripens_31 (by decide) rfl ?_
  exact A_loc [4, 6, 3, 2, 1, 0] rfl (t_6_ripens_33 C qM bM r 200 x2 (gA bM 7 ((67 : Int32) + ((3 : Int32) * x1))) (gA bM 7 (((67 : Int32) + ((3 : Int32) * x1)) + (1 : Int32))) (0 : Int32) (0 : Int32) h0)
def f_6_worth (bM : BV) (x1 : Int32) : Option (Int32) :=
  ck (inb (((67 : Int32) + ((3 : Int32) * x1)) + (2 : Int32)) 79) (some (gA bM 7 (((67 : Int32) + ((3 : Int32) * x1)) + (2 : Int32))))
theorem c_6_worth (l : Launch) (D : va_G) (t : ty4) (qM : Nat → Nat) (bM : BV) (x1 : Int32) {r : Int32} (h0 : f_6_worth bM x1 = some r) : MetI l yX6_worth cX6_worth 2 (some .int) (rmD 0) D t [.ref (qM 99), .int x1] (wM t qM bM) (fun x w => r = x ∧ (wM t qM bM) = w) := by
  refine MetI_of (by decide +kernel) (Nat.le_of_ble_eq_true rfl) (fun p e s m below meth c C _ => ?_)
  unfold f_6_worth at h0
  generalize hargs : (List.toArray [.ref (qM 99), .int x1] : Array Value) = args at C ⊢
  refine At.start (lv2 := [(0, .ref (qM 99)), (1, .int x1)]) rfl ?_
  refine A_aload_n C 0 dX6_worth_0 rfl rfl ?_
  refine A_get (v := .ref (qM 7)) C 0 7 inG6 (ci := 6) rfl (by decide) fl_6_16 rfl rfl rfl dX6_worth_1 ?_
  refine A_bipush C (67 : Int32) dX6_worth_4 (by decide) ?_
  refine A_iconst C (3 : Int32) dX6_worth_6 (by decide) ?_
  refine A_iload_n C 1 dX6_worth_7 rfl rfl ?_
  refine A_imul C dX6_worth_8 ?_
  refine A_iadd C dX6_worth_9 ?_
  refine A_iconst C (2 : Int32) dX6_worth_10 (by decide) ?_
  refine A_iadd C dX6_worth_11 ?_
  refine A_iald C 3 (gA bM 7 (((67 : Int32) + ((3 : Int32) * x1)) + (2 : Int32))) rfl rfl dX6_worth_12 h0 (fun h0 => ?_)
  have h0 := Option.some.inj h0
  subst h0
  exact A_iret C dX6_worth_13 ⟨rfl, rfl⟩
def f_6_harvest_35 (bM : BV) (k4 : Int32 → Int32 → Int32 → Option (Int32)) (x1 : Int32) (x3 : Int32) (y0 : Int32) (y1 : Int32) : Option (Int32) :=
  k4 x1 (y1 + y0) (x3 + (1 : Int32))
theorem t_6_harvest_35 (C : CX p s m args meth c cX6_harvest 4 (some .int) RX6 D t) (qM : Nat → Nat) (bM : BV) (r : Int32) (k4 : Int32 → Int32 → Int32 → Option (Int32)) (K4 : ∀ (x1 : Int32) (x2 : Int32) (x3 : Int32), k4 x1 x2 x3 = some r → At p l e (rmD 2) s m args below meth c D 4 w0 (QI below args s D w0 (fun x w => r = x ∧ (wM t qM bM) = w) 0 0) 0 0 4 [(0, .ref (qM 99)), (1, .int x1), (2, .int x2), (3, .int x3)] [] (wM t qM bM)) (x1 : Int32) (x3 : Int32) (y0 : Int32) (y1 : Int32) (h0 : f_6_harvest_35 bM k4 x1 x3 y0 y1 = some r) : At p l e (rmD 2) s m args below meth c D 4 w0 (QI below args s D w0 (fun x w => r = x ∧ (wM t qM bM) = w) 0 0) 0 0 35 [(0, .ref (qM 99)), (1, .int x1), (3, .int x3)] [.int y0, .int y1] (wM t qM bM) := by
  unfold f_6_harvest_35 at h0
  refine A_iadd C dX6_harvest_35 ?_
  refine A_istore_n C [(2, .int (y1 + y0)), (0, .ref (qM 99)), (1, .int x1), (3, .int x3)] dX6_harvest_36 rfl (by decide) rfl ?_
  refine A_iinc C 3 (x3 + (1 : Int32)) [(3, .int (x3 + (1 : Int32))), (2, .int (y1 + y0)), (0, .ref (qM 99)), (1, .int x1)] dX6_harvest_37 rfl rfl (by decide) rfl ?_
  refine A_goto C 4 dX6_harvest_40 (by decide) ?_
  exact A_loc [2, 3, 1, 0] rfl (K4 x1 (y1 + y0) (x3 + (1 : Int32)) h0)
def f_6_harvest_4_b (bM : BV) (k4 : Int32 → Int32 → Int32 → Option (Int32)) (x1 : Int32) (x2 : Int32) (x3 : Int32) : Option (Int32) :=
  ck (inb (2 : Int32) 79) (if (gA bM 7 (2 : Int32)) ≤ x3 then (some x2) else ((f_6_ripens bM x3 x1).bind (fun z1 => if z1 = (-9 : Int32) then (f_6_harvest_35 bM k4 x1 x3 (0 : Int32) x2) else ((f_6_worth bM x3).bind (fun z2 => f_6_harvest_35 bM k4 x1 x3 z2 x2)))))
theorem t_6_harvest_4_b (C : CX p s m args meth c cX6_harvest 4 (some .int) RX6 D t) (qM : Nat → Nat) (bM : BV) (r : Int32) (k4 : Int32 → Int32 → Int32 → Option (Int32)) (K4 : ∀ (x1 : Int32) (x2 : Int32) (x3 : Int32), k4 x1 x2 x3 = some r → At p l e (rmD 2) s m args below meth c D 4 w0 (QI below args s D w0 (fun x w => r = x ∧ (wM t qM bM) = w) 0 0) 0 0 4 [(0, .ref (qM 99)), (1, .int x1), (2, .int x2), (3, .int x3)] [] (wM t qM bM)) (x1 : Int32) (x2 : Int32) (x3 : Int32) (h0 : f_6_harvest_4_b bM k4 x1 x2 x3 = some r) : At p l e (rmD 2) s m args below meth c D 4 w0 (QI below args s D w0 (fun x w => r = x ∧ (wM t qM bM) = w) 0 0) 0 0 4 [(0, .ref (qM 99)), (1, .int x1), (2, .int x2), (3, .int x3)] [] (wM t qM bM) := by
  unfold f_6_harvest_4_b at h0
  refine A_iload_n C 3 dX6_harvest_4 rfl rfl ?_
  refine A_aload_n C 0 dX6_harvest_5 rfl rfl ?_
  refine A_get (v := .ref (qM 7)) C 0 7 inG6 (ci := 6) rfl (by decide) fl_6_16 rfl rfl rfl dX6_harvest_6 ?_
  refine A_iconst C (2 : Int32) dX6_harvest_9 (by decide) ?_
  refine A_iald C 3 (gA bM 7 (2 : Int32)) rfl rfl dX6_harvest_10 h0 (fun h0 => ?_)
  refine A_icmp_ge C 43 dX6_harvest_11 (by decide) h0 (fun h0 => ?_) (fun h0 => ?_)
  · refine A_iload_n C 2 dX6_harvest_43 rfl rfl ?_
    have h0 := Option.some.inj h0
    subst h0
    exact A_iret C dX6_harvest_44 ⟨rfl, rfl⟩
  · refine A_iload_n C 2 dX6_harvest_14 rfl rfl ?_
    refine A_aload_n C 0 dX6_harvest_15 rfl rfl ?_
    refine A_iload_n C 3 dX6_harvest_16 rfl rfl ?_
    refine A_iload_n C 1 dX6_harvest_17 rfl rfl ?_
    obtain ⟨z1, hz1, h0⟩ := bind_some h0
    refine A_vI (As := [.int x3, .int x1]) (rest := [.int x2]) C 0 (c_6_ripens l D t qM bM x3 x1 hz1) mw_6_ripens ml_6_129 im_6_ripens sl_6_ripens (rmok rfl rfl) (cut0 (wM t qM bM)) rfl (ci := 6) rfl rfl rfl (Nat.le_of_ble_eq_true rfl) dX6_harvest_18 (fun x w1 hw1 => ?_)
    obtain ⟨rfl, rfl⟩ := hw1
    refine A_perm (ws' := (wM t qM bM)) ((cut0 _).symm) ?_
    refine A_bipush C (-9 : Int32) dX6_harvest_21 (by decide) ?_
    refine A_icmp_ne C 30 dX6_harvest_23 (by decide) h0 (fun h0 => ?_) (fun h0 => ?_)
    · refine A_aload_n C 0 dX6_harvest_30 rfl rfl ?_
      refine A_iload_n C 3 dX6_harvest_31 rfl rfl ?_
      obtain ⟨z2, hz2, h0⟩ := bind_some h0
      refine A_vI (As := [.int x3]) (rest := [.int x2]) C 0 (c_6_worth l D t qM bM x3 hz2) mw_6_worth ml_6_133 im_6_worth sl_6_worth (rmok rfl rfl) (cut0 (wM t qM bM)) rfl (ci := 6) rfl rfl rfl (Nat.le_of_ble_eq_true rfl) dX6_harvest_32 (fun x w1 hw1 => ?_)
      obtain ⟨rfl, rfl⟩ := hw1
      refine A_perm (ws' := (wM t qM bM)) ((cut0 _).symm) ?_
      exact A_loc [0, 1, 3] rfl (t_6_harvest_35 C qM bM r k4 K4 x1 x3 z2 x2 h0)
    · refine A_iconst C (0 : Int32) dX6_harvest_26 (by decide) ?_
      refine A_goto C 35 dX6_harvest_27 (by decide) ?_
      exact A_loc [0, 1, 3] rfl (t_6_harvest_35 C qM bM r k4 K4 x1 x3 (0 : Int32) x2 h0)
def f_6_harvest_4 (bM : BV) : Nat → Int32 → Int32 → Int32 → Option (Int32)
  | 0 => fun _ _ _ => none
  | n + 1 => f_6_harvest_4_b bM (f_6_harvest_4 bM n)
theorem t_6_harvest_4 (C : CX p s m args meth c cX6_harvest 4 (some .int) RX6 D t) (qM : Nat → Nat) (bM : BV) (r : Int32) : ∀ (n : Nat), ∀ (x1 : Int32) (x2 : Int32) (x3 : Int32), f_6_harvest_4 bM n x1 x2 x3 = some r → At p l e (rmD 2) s m args below meth c D 4 w0 (QI below args s D w0 (fun x w => r = x ∧ (wM t qM bM) = w) 0 0) 0 0 4 [(0, .ref (qM 99)), (1, .int x1), (2, .int x2), (3, .int x3)] [] (wM t qM bM) := by
  intro n
  induction n with
  | zero =>
    intro x1 x2 x3 h0
    have h0 : none = some r := h0
    cases h0
  | succ n ih =>
    intro x1 x2 x3 h0
    exact t_6_harvest_4_b C qM bM r _ ih x1 x2 x3 h0
def f_6_harvest (bM : BV) (x1 : Int32) : Option (Int32) :=
  f_6_harvest_4 bM 200 x1 (0 : Int32) (0 : Int32)
theorem c_6_harvest (l : Launch) (D : va_G) (t : ty4) (qM : Nat → Nat) (bM : BV) (x1 : Int32) {r : Int32} (h0 : f_6_harvest bM x1 = some r) : MetI l yX6_harvest cX6_harvest 4 (some .int) (rmD 2) D t [.ref (qM 99), .int x1] (wM t qM bM) (fun x w => r = x ∧ (wM t qM bM) = w) := by
  refine MetI_of (by decide +kernel) (Nat.le_of_ble_eq_true rfl) (fun p e s m below meth c C _ => ?_)
  unfold f_6_harvest at h0
  generalize hargs : (List.toArray [.ref (qM 99), .int x1] : Array Value) = args at C ⊢
  refine At.start (lv2 := [(0, .ref (qM 99)), (1, .int x1)]) rfl ?_
  refine A_iconst C (0 : Int32) dX6_harvest_0 (by decide) ?_
  refine A_istore_n C [(2, .int (0 : Int32)), (0, .ref (qM 99)), (1, .int x1)] dX6_harvest_1 rfl (by decide) rfl ?_
  refine A_iconst C (0 : Int32) dX6_harvest_2 (by decide) ?_
  refine A_istore_n C [(3, .int (0 : Int32)), (2, .int (0 : Int32)), (0, .ref (qM 99)), (1, .int x1)] dX6_harvest_3 rfl (by decide) rfl ?_
  exact A_loc [2, 3, 1, 0] rfl (t_6_harvest_4 C qM bM r 200 x1 (0 : Int32) (0 : Int32) h0)
def f_6_day_144 (bM : BV) (y0 : Int32) : Option (Int32) :=
  some y0
theorem t_6_day_144 (C : CX p s m args meth c cX6_day 5 (some .int) RX6 D t) (qM : Nat → Nat) (bM : BV) (r : Int32) (y0 : Int32) (h0 : f_6_day_144 bM y0 = some r) : At p l e (rmD 2) s m args below meth c D 5 w0 (QI below args s D w0 (fun x w => r = x ∧ (wM t qM bM) = w) 0 0) 0 0 144 [] [.int y0] (wM t qM bM) := by
  unfold f_6_day_144 at h0
  have h0 := Option.some.inj h0
  subst h0
  exact A_iret C dX6_day_144 ⟨rfl, rfl⟩
def f_6_day_80 (bM : BV) (x1 : Int32) (x2 : Int32) (x3 : Int32) (y0 : Int32) : Option (Int32) :=
  if x2 = 0 then (ck (inb ((37 : Int32) + x1) 79) (f_6_day_144 bM (gA bM 7 ((37 : Int32) + x1)))) else (if x2 = (1 : Int32) then (ck (inb ((7 : Int32) + x1) 79) (f_6_day_144 bM (gA bM 7 ((7 : Int32) + x1)))) else (if x2 = (2 : Int32) then (if x3 = (-9 : Int32) then (if y0 = 0 then (f_6_day_144 bM (0 : Int32)) else (f_6_day_144 bM (2 : Int32))) else (f_6_day_144 bM (1 : Int32))) else (f_6_day_144 bM x3)))
theorem t_6_day_80 (C : CX p s m args meth c cX6_day 5 (some .int) RX6 D t) (qM : Nat → Nat) (bM : BV) (r : Int32) (x1 : Int32) (x2 : Int32) (x3 : Int32) (y0 : Int32) (h0 : f_6_day_80 bM x1 x2 x3 y0 = some r) : At p l e (rmD 2) s m args below meth c D 5 w0 (QI below args s D w0 (fun x w => r = x ∧ (wM t qM bM) = w) 0 0) 0 0 80 [(0, .ref (qM 99)), (1, .int x1), (2, .int x2), (3, .int x3)] [.int y0] (wM t qM bM) := by
  unfold f_6_day_80 at h0
  refine A_istore C [(4, .int y0), (0, .ref (qM 99)), (1, .int x1), (2, .int x2), (3, .int x3)] dX6_day_80 (by decide) rfl ?_
  refine A_iload_n C 3 dX6_day_82 rfl rfl ?_
  refine A_if_ne C 98 dX6_day_83 (by decide) h0 (fun h0 => ?_) (fun h0 => ?_)
  · refine A_iload_n C 3 dX6_day_98 rfl rfl ?_
    refine A_iconst C (1 : Int32) dX6_day_99 (by decide) ?_
    refine A_icmp_ne C 115 dX6_day_100 (by decide) h0 (fun h0 => ?_) (fun h0 => ?_)
    · refine A_iload_n C 3 dX6_day_115 rfl rfl ?_
      refine A_iconst C (2 : Int32) dX6_day_116 (by decide) ?_
      refine A_icmp_ne C 143 dX6_day_117 (by decide) h0 (fun h0 => ?_) (fun h0 => ?_)
      · refine A_iload_n C 4 dX6_day_143 rfl rfl ?_
        exact A_loc [] rfl (t_6_day_144 C qM bM r x3 h0)
      · refine A_iload_n C 4 dX6_day_120 rfl rfl ?_
        refine A_bipush C (-9 : Int32) dX6_day_121 (by decide) ?_
        refine A_icmp_eq C 130 dX6_day_123 (by decide) h0 (fun h0 => ?_) (fun h0 => ?_)
        · refine A_iload C 0 dX6_day_130 rfl ?_
          refine A_if_eq C 139 dX6_day_132 (by decide) h0 (fun h0 => ?_) (fun h0 => ?_)
          · refine A_iconst C (0 : Int32) dX6_day_139 (by decide) ?_
            refine A_goto C 144 dX6_day_140 (by decide) ?_
            exact A_loc [] rfl (t_6_day_144 C qM bM r (0 : Int32) h0)
          · refine A_iconst C (2 : Int32) dX6_day_135 (by decide) ?_
            refine A_goto C 144 dX6_day_136 (by decide) ?_
            exact A_loc [] rfl (t_6_day_144 C qM bM r (2 : Int32) h0)
        · refine A_iconst C (1 : Int32) dX6_day_126 (by decide) ?_
          refine A_goto C 144 dX6_day_127 (by decide) ?_
          exact A_loc [] rfl (t_6_day_144 C qM bM r (1 : Int32) h0)
    · refine A_aload_n C 1 dX6_day_103 rfl rfl ?_
      refine A_get (v := .ref (qM 7)) C 0 7 inG6 (ci := 6) rfl (by decide) fl_6_16 rfl rfl rfl dX6_day_104 ?_
      refine A_bipush C (7 : Int32) dX6_day_107 (by decide) ?_
      refine A_iload_n C 2 dX6_day_109 rfl rfl ?_
      refine A_iadd C dX6_day_110 ?_
      refine A_iald C 3 (gA bM 7 ((7 : Int32) + x1)) rfl rfl dX6_day_111 h0 (fun h0 => ?_)
      refine A_goto C 144 dX6_day_112 (by decide) ?_
      exact A_loc [] rfl (t_6_day_144 C qM bM r (gA bM 7 ((7 : Int32) + x1)) h0)
  · refine A_aload_n C 1 dX6_day_86 rfl rfl ?_
    refine A_get (v := .ref (qM 7)) C 0 7 inG6 (ci := 6) rfl (by decide) fl_6_16 rfl rfl rfl dX6_day_87 ?_
    refine A_bipush C (37 : Int32) dX6_day_90 (by decide) ?_
    refine A_iload_n C 2 dX6_day_92 rfl rfl ?_
    refine A_iadd C dX6_day_93 ?_
    refine A_iald C 3 (gA bM 7 ((37 : Int32) + x1)) rfl rfl dX6_day_94 h0 (fun h0 => ?_)
    refine A_goto C 144 dX6_day_95 (by decide) ?_
    exact A_loc [] rfl (t_6_day_144 C qM bM r (gA bM 7 ((37 : Int32) + x1)) h0)
def f_6_day_54 (bM : BV) (k28 : Int32 → Int32 → Int32 → Int32 → Option (Int32)) (x1 : Int32) (x2 : Int32) (x4 : Int32) (y0 : Int32) : Option (Int32) :=
  k28 x1 x2 y0 (x4 + (1 : Int32))
theorem t_6_day_54 (C : CX p s m args meth c cX6_day 5 (some .int) RX6 D t) (qM : Nat → Nat) (bM : BV) (r : Int32) (k28 : Int32 → Int32 → Int32 → Int32 → Option (Int32)) (K28 : ∀ (x1 : Int32) (x2 : Int32) (x3 : Int32) (x4 : Int32), k28 x1 x2 x3 x4 = some r → At p l e (rmD 2) s m args below meth c D 5 w0 (QI below args s D w0 (fun x w => r = x ∧ (wM t qM bM) = w) 0 0) 0 0 28 [(0, .ref (qM 99)), (1, .int x1), (2, .int x2), (3, .int x3), (4, .int x4)] [] (wM t qM bM)) (x1 : Int32) (x2 : Int32) (x4 : Int32) (y0 : Int32) (h0 : f_6_day_54 bM k28 x1 x2 x4 y0 = some r) : At p l e (rmD 2) s m args below meth c D 5 w0 (QI below args s D w0 (fun x w => r = x ∧ (wM t qM bM) = w) 0 0) 0 0 54 [(0, .ref (qM 99)), (1, .int x1), (2, .int x2), (4, .int x4)] [.int y0] (wM t qM bM) := by
  unfold f_6_day_54 at h0
  refine A_istore_n C [(3, .int y0), (0, .ref (qM 99)), (1, .int x1), (2, .int x2), (4, .int x4)] dX6_day_54 rfl (by decide) rfl ?_
  refine A_iinc C 4 (x4 + (1 : Int32)) [(4, .int (x4 + (1 : Int32))), (3, .int y0), (0, .ref (qM 99)), (1, .int x1), (2, .int x2)] dX6_day_55 rfl rfl (by decide) rfl ?_
  refine A_goto C 28 dX6_day_58 (by decide) ?_
  exact A_loc [2, 3, 4, 1, 0] rfl (K28 x1 x2 y0 (x4 + (1 : Int32)) h0)
def f_6_day_28_b (bM : BV) (k28 : Int32 → Int32 → Int32 → Int32 → Option (Int32)) (x1 : Int32) (x2 : Int32) (x3 : Int32) (x4 : Int32) : Option (Int32) :=
  if (4 : Int32) ≤ x4 then (ck (inb (2 : Int32) 15) (if (((gA bM 8 (2 : Int32)) >>> (x1 &&& 31)) &&& (1 : Int32)) = (1 : Int32) then (f_6_day_80 bM x1 x2 x3 (1 : Int32)) else (f_6_day_80 bM x1 x2 x3 (0 : Int32)))) else ((f_6_loanDays bM x4).bind (fun z1 => if ((z1 >>> (x1 &&& 31)) &&& (1 : Int32)) = (1 : Int32) then (f_6_day_54 bM k28 x1 x2 x4 x4) else (f_6_day_54 bM k28 x1 x2 x4 x3)))
theorem t_6_day_28_b (C : CX p s m args meth c cX6_day 5 (some .int) RX6 D t) (qM : Nat → Nat) (bM : BV) (r : Int32) (k28 : Int32 → Int32 → Int32 → Int32 → Option (Int32)) (K28 : ∀ (x1 : Int32) (x2 : Int32) (x3 : Int32) (x4 : Int32), k28 x1 x2 x3 x4 = some r → At p l e (rmD 2) s m args below meth c D 5 w0 (QI below args s D w0 (fun x w => r = x ∧ (wM t qM bM) = w) 0 0) 0 0 28 [(0, .ref (qM 99)), (1, .int x1), (2, .int x2), (3, .int x3), (4, .int x4)] [] (wM t qM bM)) (x1 : Int32) (x2 : Int32) (x3 : Int32) (x4 : Int32) (h0 : f_6_day_28_b bM k28 x1 x2 x3 x4 = some r) : At p l e (rmD 2) s m args below meth c D 5 w0 (QI below args s D w0 (fun x w => r = x ∧ (wM t qM bM) = w) 0 0) 0 0 28 [(0, .ref (qM 99)), (1, .int x1), (2, .int x2), (3, .int x3), (4, .int x4)] [] (wM t qM bM) := by
  unfold f_6_day_28_b at h0
  refine A_iload C 4 dX6_day_28 rfl ?_
  refine A_iconst C (4 : Int32) dX6_day_30 (by decide) ?_
  refine A_icmp_ge C 61 dX6_day_31 (by decide) h0 (fun h0 => ?_) (fun h0 => ?_)
  · refine A_aload_n C 0 dX6_day_61 rfl rfl ?_
    refine A_get (v := .ref (qM 8)) C 0 8 inG6 (ci := 6) rfl (by decide) fl_6_19 rfl rfl rfl dX6_day_62 ?_
    refine A_iconst C (2 : Int32) dX6_day_65 (by decide) ?_
    refine A_iald C 4 (gA bM 8 (2 : Int32)) rfl rfl dX6_day_66 h0 (fun h0 => ?_)
    refine A_iload_n C 1 dX6_day_67 rfl rfl ?_
    refine A_ishr C dX6_day_68 ?_
    refine A_iconst C (1 : Int32) dX6_day_69 (by decide) ?_
    refine A_iand C dX6_day_70 ?_
    refine A_iconst C (1 : Int32) dX6_day_71 (by decide) ?_
    refine A_icmp_ne C 79 dX6_day_72 (by decide) h0 (fun h0 => ?_) (fun h0 => ?_)
    · refine A_iconst C (0 : Int32) dX6_day_79 (by decide) ?_
      exact A_loc [0, 1, 2, 3] rfl (t_6_day_80 C qM bM r x1 x2 x3 (0 : Int32) h0)
    · refine A_iconst C (1 : Int32) dX6_day_75 (by decide) ?_
      refine A_goto C 80 dX6_day_76 (by decide) ?_
      exact A_loc [0, 1, 2, 3] rfl (t_6_day_80 C qM bM r x1 x2 x3 (1 : Int32) h0)
  · refine A_aload_n C 0 dX6_day_34 rfl rfl ?_
    refine A_iload C 4 dX6_day_35 rfl ?_
    obtain ⟨z1, hz1, h0⟩ := bind_some h0
    refine A_vI (As := [.int x4]) (rest := []) C 0 (c_6_loanDays l D t qM bM x4 hz1) mw_6_loanDays ml_6_122 im_6_loanDays sl_6_loanDays (rmok rfl rfl) (cut0 (wM t qM bM)) rfl (ci := 6) rfl rfl rfl (Nat.le_of_ble_eq_true rfl) dX6_day_37 (fun x w1 hw1 => ?_)
    obtain ⟨rfl, rfl⟩ := hw1
    refine A_perm (ws' := (wM t qM bM)) ((cut0 _).symm) ?_
    refine A_iload_n C 1 dX6_day_40 rfl rfl ?_
    refine A_ishr C dX6_day_41 ?_
    refine A_iconst C (1 : Int32) dX6_day_42 (by decide) ?_
    refine A_iand C dX6_day_43 ?_
    refine A_iconst C (1 : Int32) dX6_day_44 (by decide) ?_
    refine A_icmp_ne C 53 dX6_day_45 (by decide) h0 (fun h0 => ?_) (fun h0 => ?_)
    · refine A_iload_n C 3 dX6_day_53 rfl rfl ?_
      exact A_loc [0, 1, 2, 4] rfl (t_6_day_54 C qM bM r k28 K28 x1 x2 x4 x3 h0)
    · refine A_iload C 4 dX6_day_48 rfl ?_
      refine A_goto C 54 dX6_day_50 (by decide) ?_
      exact A_loc [0, 1, 2, 4] rfl (t_6_day_54 C qM bM r k28 K28 x1 x2 x4 x4 h0)
def f_6_day_28 (bM : BV) : Nat → Int32 → Int32 → Int32 → Int32 → Option (Int32)
  | 0 => fun _ _ _ _ => none
  | n + 1 => f_6_day_28_b bM (f_6_day_28 bM n)
theorem t_6_day_28 (C : CX p s m args meth c cX6_day 5 (some .int) RX6 D t) (qM : Nat → Nat) (bM : BV) (r : Int32) : ∀ (n : Nat), ∀ (x1 : Int32) (x2 : Int32) (x3 : Int32) (x4 : Int32), f_6_day_28 bM n x1 x2 x3 x4 = some r → At p l e (rmD 2) s m args below meth c D 5 w0 (QI below args s D w0 (fun x w => r = x ∧ (wM t qM bM) = w) 0 0) 0 0 28 [(0, .ref (qM 99)), (1, .int x1), (2, .int x2), (3, .int x3), (4, .int x4)] [] (wM t qM bM) := by
  intro n
  induction n with
  | zero =>
    intro x1 x2 x3 x4 h0
    have h0 : none = some r := h0
    cases h0
  | succ n ih =>
    intro x1 x2 x3 x4 h0
    exact t_6_day_28_b C qM bM r _ ih x1 x2 x3 x4 h0
def f_6_day_20 (bM : BV) : Option (Int32) :=
  some (-1 : Int32)
theorem t_6_day_20 (C : CX p s m args meth c cX6_day 5 (some .int) RX6 D t) (qM : Nat → Nat) (bM : BV) (r : Int32) (h0 : f_6_day_20 bM = some r) : At p l e (rmD 2) s m args below meth c D 5 w0 (QI below args s D w0 (fun x w => r = x ∧ (wM t qM bM) = w) 0 0) 0 0 20 [] [] (wM t qM bM) := by
  unfold f_6_day_20 at h0
  refine A_iconst C (-1 : Int32) dX6_day_20 (by decide) ?_
  have h0 := Option.some.inj h0
  subst h0
  exact A_iret C dX6_day_21 ⟨rfl, rfl⟩
def f_6_day (bM : BV) (x1 : Int32) (x2 : Int32) : Option (Int32) :=
  (f_6_isDay bM x1).bind (fun z2 => if z2 = 0 then (f_6_day_20 bM) else ((f_6_in (x2).toInt64 (0 : Int64) (3 : Int64)).bind (fun z3 => if z3 = 0 then (f_6_day_20 bM) else (f_6_day_28 bM 200 x1 x2 (-9 : Int32) (0 : Int32)))))
theorem c_6_day (l : Launch) (D : va_G) (t : ty4) (qM : Nat → Nat) (bM : BV) (x1 : Int32) (x2 : Int32) {r : Int32} (h0 : f_6_day bM x1 x2 = some r) : MetI l yX6_day cX6_day 5 (some .int) (rmD 2) D t [.ref (qM 99), .int x1, .int x2] (wM t qM bM) (fun x w => r = x ∧ (wM t qM bM) = w) := by
  refine MetI_of (by decide +kernel) (Nat.le_of_ble_eq_true rfl) (fun p e s m below meth c C _ => ?_)
  unfold f_6_day at h0
  generalize hargs : (List.toArray [.ref (qM 99), .int x1, .int x2] : Array Value) = args at C ⊢
  refine At.start (lv2 := [(0, .ref (qM 99)), (1, .int x1), (2, .int x2)]) rfl ?_
  refine A_aload_n C 0 dX6_day_0 rfl rfl ?_
  refine A_iload_n C 1 dX6_day_1 rfl rfl ?_
  obtain ⟨z2, hz2, h0⟩ := bind_some h0
  refine A_vI (As := [.int x1]) (rest := []) C 0 (c_6_isDay l D t qM bM x1 hz2) mw_6_isDay ml_6_136 im_6_isDay sl_6_isDay (rmok rfl rfl) (cut0 (wM t qM bM)) rfl (ci := 6) rfl rfl rfl (Nat.le_of_ble_eq_true rfl) dX6_day_2 (fun x w1 hw1 => ?_)
  obtain ⟨rfl, rfl⟩ := hw1
  refine A_perm (ws' := (wM t qM bM)) ((cut0 _).symm) ?_
  refine A_if_eq C 20 dX6_day_5 (by decide) h0 (fun h0 => ?_) (fun h0 => ?_)
  · exact A_loc [] rfl (t_6_day_20 C qM bM r h0)
  · refine A_iload_n C 2 dX6_day_8 rfl rfl ?_
    refine A_i2l C dX6_day_9 ?_
    refine A_lconst C (0 : Int64) dX6_day_10 (by decide) ?_
    refine A_ldc2 (v := (3 : Int64)) C cl_6_120 dX6_day_11 ?_
    obtain ⟨z3, hz3, h0⟩ := bind_some h0
    refine A_sI (As := [.long (x2).toInt64, .long (0 : Int64), .long (3 : Int64)]) (rest := []) C (c_6_in l D t (x2).toInt64 (0 : Int64) (3 : Int64) hz3) mw_6_in ml_6_45 st_6_in (rmok rfl rfl) (cutN (wM t qM bM)) rfl rfl (Nat.le_of_ble_eq_true rfl) dX6_day_14 (fun x w1 hw1 => ?_)
    obtain ⟨rfl, rfl⟩ := hw1
    refine A_perm (ws' := (wM t qM bM)) ((cutN _).symm) ?_
    refine A_if_ne C 22 dX6_day_17 (by decide) h0 (fun h0 => ?_) (fun h0 => ?_)
    · refine A_bipush C (-9 : Int32) dX6_day_22 (by decide) ?_
      refine A_istore_n C [(3, .int (-9 : Int32)), (0, .ref (qM 99)), (1, .int x1), (2, .int x2)] dX6_day_24 rfl (by decide) rfl ?_
      refine A_iconst C (0 : Int32) dX6_day_25 (by decide) ?_
      refine A_istore C [(4, .int (0 : Int32)), (3, .int (-9 : Int32)), (0, .ref (qM 99)), (1, .int x1), (2, .int x2)] dX6_day_26 (by decide) rfl ?_
      exact A_loc [2, 3, 4, 1, 0] rfl (t_6_day_28 C qM bM r 200 x1 x2 (-9 : Int32) (0 : Int32) h0)
    · exact A_loc [] rfl (t_6_day_20 C qM bM r h0)
def f_6_crop_73 (bM : BV) (y0 : Int32) : Option (Int32) :=
  some y0
theorem t_6_crop_73 (C : CX p s m args meth c cX6_crop 4 (some .int) RX6 D t) (qM : Nat → Nat) (bM : BV) (r : Int32) (y0 : Int32) (h0 : f_6_crop_73 bM y0 = some r) : At p l e (rmD 3) s m args below meth c D 4 w0 (QI below args s D w0 (fun x w => r = x ∧ (wM t qM bM) = w) 0 0) 0 0 73 [] [.int y0] (wM t qM bM) := by
  unfold f_6_crop_73 at h0
  have h0 := Option.some.inj h0
  subst h0
  exact A_iret C dX6_crop_73 ⟨rfl, rfl⟩
def f_6_crop_20 (bM : BV) : Option (Int32) :=
  some (-1 : Int32)
theorem t_6_crop_20 (C : CX p s m args meth c cX6_crop 4 (some .int) RX6 D t) (qM : Nat → Nat) (bM : BV) (r : Int32) (h0 : f_6_crop_20 bM = some r) : At p l e (rmD 3) s m args below meth c D 4 w0 (QI below args s D w0 (fun x w => r = x ∧ (wM t qM bM) = w) 0 0) 0 0 20 [] [] (wM t qM bM) := by
  unfold f_6_crop_20 at h0
  refine A_iconst C (-1 : Int32) dX6_crop_20 (by decide) ?_
  have h0 := Option.some.inj h0
  subst h0
  exact A_iret C dX6_crop_21 ⟨rfl, rfl⟩
def f_6_crop (bM : BV) (x1 : Int32) (x2 : Int32) : Option (Int32) :=
  (f_6_isCrop bM x1).bind (fun z1 => if z1 = 0 then (f_6_crop_20 bM) else ((f_6_in (x2).toInt64 (0 : Int64) (4 : Int64)).bind (fun z2 => if z2 = 0 then (f_6_crop_20 bM) else ((f_6_notIn bM).bind (fun z3 => (f_6_ripens bM x1 z3).bind (fun z4 => if (3 : Int32) ≤ x2 then (if x2 = (3 : Int32) then (if z4 = (-9 : Int32) then (f_6_crop_73 bM (0 : Int32)) else (f_6_crop_73 bM (1 : Int32))) else (f_6_crop_73 bM z4)) else (ck (inb (((67 : Int32) + ((3 : Int32) * x1)) + x2) 79) (f_6_crop_73 bM (gA bM 7 (((67 : Int32) + ((3 : Int32) * x1)) + x2))))))))))
theorem c_6_crop (l : Launch) (D : va_G) (t : ty4) (qM : Nat → Nat) (bM : BV) (x1 : Int32) (x2 : Int32) {r : Int32} (h0 : f_6_crop bM x1 x2 = some r) : MetI l yX6_crop cX6_crop 4 (some .int) (rmD 3) D t [.ref (qM 99), .int x1, .int x2] (wM t qM bM) (fun x w => r = x ∧ (wM t qM bM) = w) := by
  refine MetI_of (by decide +kernel) (Nat.le_of_ble_eq_true rfl) (fun p e s m below meth c C _ => ?_)
  unfold f_6_crop at h0
  generalize hargs : (List.toArray [.ref (qM 99), .int x1, .int x2] : Array Value) = args at C ⊢
  refine At.start (lv2 := [(0, .ref (qM 99)), (1, .int x1), (2, .int x2)]) rfl ?_
  refine A_aload_n C 0 dX6_crop_0 rfl rfl ?_
  refine A_iload_n C 1 dX6_crop_1 rfl rfl ?_
  obtain ⟨z1, hz1, h0⟩ := bind_some h0
  refine A_vI (As := [.int x1]) (rest := []) C 0 (c_6_isCrop l D t qM bM x1 hz1) mw_6_isCrop ml_6_139 im_6_isCrop sl_6_isCrop (rmok rfl rfl) (cut0 (wM t qM bM)) rfl (ci := 6) rfl rfl rfl (Nat.le_of_ble_eq_true rfl) dX6_crop_2 (fun x w1 hw1 => ?_)
  obtain ⟨rfl, rfl⟩ := hw1
  refine A_perm (ws' := (wM t qM bM)) ((cut0 _).symm) ?_
  refine A_if_eq C 20 dX6_crop_5 (by decide) h0 (fun h0 => ?_) (fun h0 => ?_)
  · exact A_loc [] rfl (t_6_crop_20 C qM bM r h0)
  · refine A_iload_n C 2 dX6_crop_8 rfl rfl ?_
    refine A_i2l C dX6_crop_9 ?_
    refine A_lconst C (0 : Int64) dX6_crop_10 (by decide) ?_
    refine A_ldc2 (v := (4 : Int64)) C cl_6_142 dX6_crop_11 ?_
    obtain ⟨z2, hz2, h0⟩ := bind_some h0
    refine A_sI (As := [.long (x2).toInt64, .long (0 : Int64), .long (4 : Int64)]) (rest := []) C (c_6_in l D t (x2).toInt64 (0 : Int64) (4 : Int64) hz2) mw_6_in ml_6_45 st_6_in (rmok rfl rfl) (cutN (wM t qM bM)) rfl rfl (Nat.le_of_ble_eq_true rfl) dX6_crop_14 (fun x w1 hw1 => ?_)
    obtain ⟨rfl, rfl⟩ := hw1
    refine A_perm (ws' := (wM t qM bM)) ((cutN _).symm) ?_
    refine A_if_ne C 22 dX6_crop_17 (by decide) h0 (fun h0 => ?_) (fun h0 => ?_)
    · refine A_aload_n C 0 dX6_crop_22 rfl rfl ?_
      refine A_iload_n C 1 dX6_crop_23 rfl rfl ?_
      refine A_aload_n C 0 dX6_crop_24 rfl rfl ?_
      obtain ⟨z3, hz3, h0⟩ := bind_some h0
      refine A_vI (As := []) (rest := [.int x1, .ref (qM 99)]) C 0 (c_6_notIn l D t qM bM hz3) mw_6_notIn ml_6_144 im_6_notIn sl_6_notIn (rmok rfl rfl) (cut0 (wM t qM bM)) rfl (ci := 6) rfl rfl rfl (Nat.le_of_ble_eq_true rfl) dX6_crop_25 (fun x w1 hw1 => ?_)
      obtain ⟨rfl, rfl⟩ := hw1
      refine A_perm (ws' := (wM t qM bM)) ((cut0 _).symm) ?_
      obtain ⟨z4, hz4, h0⟩ := bind_some h0
      refine A_vI (As := [.int x1, .int z3]) (rest := []) C 0 (c_6_ripens l D t qM bM x1 z3 hz4) mw_6_ripens ml_6_129 im_6_ripens sl_6_ripens (rmok rfl rfl) (cut0 (wM t qM bM)) rfl (ci := 6) rfl rfl rfl (Nat.le_of_ble_eq_true rfl) dX6_crop_28 (fun x w1 hw1 => ?_)
      obtain ⟨rfl, rfl⟩ := hw1
      refine A_perm (ws' := (wM t qM bM)) ((cut0 _).symm) ?_
      refine A_istore_n C [(3, .int z4), (0, .ref (qM 99)), (1, .int x1), (2, .int x2)] dX6_crop_31 rfl (by decide) rfl ?_
      refine A_iload_n C 3 dX6_crop_32 rfl rfl ?_
      refine A_iconst C (3 : Int32) dX6_crop_33 (by decide) ?_
      refine A_icmp_ge C 53 dX6_crop_34 (by decide) h0 (fun h0 => ?_) (fun h0 => ?_)
      · refine A_iload_n C 3 dX6_crop_53 rfl rfl ?_
        refine A_iconst C (3 : Int32) dX6_crop_54 (by decide) ?_
        refine A_icmp_ne C 72 dX6_crop_55 (by decide) h0 (fun h0 => ?_) (fun h0 => ?_)
        · refine A_iload_n C 0 dX6_crop_72 rfl rfl ?_
          exact A_loc [] rfl (t_6_crop_73 C qM bM r z4 h0)
        · refine A_iload_n C 0 dX6_crop_58 rfl rfl ?_
          refine A_bipush C (-9 : Int32) dX6_crop_59 (by decide) ?_
          refine A_icmp_ne C 68 dX6_crop_61 (by decide) h0 (fun h0 => ?_) (fun h0 => ?_)
          · refine A_iconst C (1 : Int32) dX6_crop_68 (by decide) ?_
            refine A_goto C 73 dX6_crop_69 (by decide) ?_
            exact A_loc [] rfl (t_6_crop_73 C qM bM r (1 : Int32) h0)
          · refine A_iconst C (0 : Int32) dX6_crop_64 (by decide) ?_
            refine A_goto C 73 dX6_crop_65 (by decide) ?_
            exact A_loc [] rfl (t_6_crop_73 C qM bM r (0 : Int32) h0)
      · refine A_aload_n C 1 dX6_crop_37 rfl rfl ?_
        refine A_get (v := .ref (qM 7)) C 0 7 inG6 (ci := 6) rfl (by decide) fl_6_16 rfl rfl rfl dX6_crop_38 ?_
        refine A_bipush C (67 : Int32) dX6_crop_41 (by decide) ?_
        refine A_iconst C (3 : Int32) dX6_crop_43 (by decide) ?_
        refine A_iload_n C 2 dX6_crop_44 rfl rfl ?_
        refine A_imul C dX6_crop_45 ?_
        refine A_iadd C dX6_crop_46 ?_
        refine A_iload_n C 3 dX6_crop_47 rfl rfl ?_
        refine A_iadd C dX6_crop_48 ?_
        refine A_iald C 3 (gA bM 7 (((67 : Int32) + ((3 : Int32) * x1)) + x2)) rfl rfl dX6_crop_49 h0 (fun h0 => ?_)
        refine A_goto C 73 dX6_crop_50 (by decide) ?_
        exact A_loc [] rfl (t_6_crop_73 C qM bM r (gA bM 7 (((67 : Int32) + ((3 : Int32) * x1)) + x2)) h0)
    · exact A_loc [] rfl (t_6_crop_20 C qM bM r h0)
def f_6_loan_46 (bM : BV) (y0 : Int32) : Option (Int32) :=
  some y0
theorem t_6_loan_46 (C : CX p s m args meth c cX6_loan 3 (some .int) RX6 D t) (qM : Nat → Nat) (bM : BV) (r : Int32) (y0 : Int32) (h0 : f_6_loan_46 bM y0 = some r) : At p l e (rmD 2) s m args below meth c D 3 w0 (QI below args s D w0 (fun x w => r = x ∧ (wM t qM bM) = w) 0 0) 0 0 46 [] [.int y0] (wM t qM bM) := by
  unfold f_6_loan_46 at h0
  have h0 := Option.some.inj h0
  subst h0
  exact A_iret C dX6_loan_46 ⟨rfl, rfl⟩
def f_6_loan_19 (bM : BV) : Option (Int32) :=
  some (-1 : Int32)
theorem t_6_loan_19 (C : CX p s m args meth c cX6_loan 3 (some .int) RX6 D t) (qM : Nat → Nat) (bM : BV) (r : Int32) (h0 : f_6_loan_19 bM = some r) : At p l e (rmD 2) s m args below meth c D 3 w0 (QI below args s D w0 (fun x w => r = x ∧ (wM t qM bM) = w) 0 0) 0 0 19 [] [] (wM t qM bM) := by
  unfold f_6_loan_19 at h0
  refine A_iconst C (-1 : Int32) dX6_loan_19 (by decide) ?_
  have h0 := Option.some.inj h0
  subst h0
  exact A_iret C dX6_loan_20 ⟨rfl, rfl⟩
def f_6_loan (bM : BV) (x1 : Int32) (x2 : Int32) : Option (Int32) :=
  (f_6_isLoan x1).bind (fun z1 => if z1 = 0 then (f_6_loan_19 bM) else ((f_6_in (x2).toInt64 (0 : Int64) (2 : Int64)).bind (fun z2 => if z2 = 0 then (f_6_loan_19 bM) else ((f_6_loanDays bM x1).bind (fun z3 => if z3 = 0 then (f_6_loan_46 bM (-9 : Int32)) else (ck (inb (((3 : Int32) + ((3 : Int32) * x1)) + x2) 15) (f_6_loan_46 bM (gA bM 8 (((3 : Int32) + ((3 : Int32) * x1)) + x2)))))))))
theorem c_6_loan (l : Launch) (D : va_G) (t : ty4) (qM : Nat → Nat) (bM : BV) (x1 : Int32) (x2 : Int32) {r : Int32} (h0 : f_6_loan bM x1 x2 = some r) : MetI l yX6_loan cX6_loan 3 (some .int) (rmD 2) D t [.ref (qM 99), .int x1, .int x2] (wM t qM bM) (fun x w => r = x ∧ (wM t qM bM) = w) := by
  refine MetI_of (by decide +kernel) (Nat.le_of_ble_eq_true rfl) (fun p e s m below meth c C _ => ?_)
  unfold f_6_loan at h0
  generalize hargs : (List.toArray [.ref (qM 99), .int x1, .int x2] : Array Value) = args at C ⊢
  refine At.start (lv2 := [(0, .ref (qM 99)), (1, .int x1), (2, .int x2)]) rfl ?_
  refine A_iload_n C 1 dX6_loan_0 rfl rfl ?_
  obtain ⟨z1, hz1, h0⟩ := bind_some h0
  refine A_sI (As := [.int x1]) (rest := []) C (c_6_isLoan l D t x1 hz1) mw_6_isLoan ml_6_147 st_6_isLoan (rmok rfl rfl) (cutN (wM t qM bM)) rfl rfl (Nat.le_of_ble_eq_true rfl) dX6_loan_1 (fun x w1 hw1 => ?_)
  obtain ⟨rfl, rfl⟩ := hw1
  refine A_perm (ws' := (wM t qM bM)) ((cutN _).symm) ?_
  refine A_if_eq C 19 dX6_loan_4 (by decide) h0 (fun h0 => ?_) (fun h0 => ?_)
  · exact A_loc [] rfl (t_6_loan_19 C qM bM r h0)
  · refine A_iload_n C 2 dX6_loan_7 rfl rfl ?_
    refine A_i2l C dX6_loan_8 ?_
    refine A_lconst C (0 : Int64) dX6_loan_9 (by decide) ?_
    refine A_ldc2 (v := (2 : Int64)) C cl_6_150 dX6_loan_10 ?_
    obtain ⟨z2, hz2, h0⟩ := bind_some h0
    refine A_sI (As := [.long (x2).toInt64, .long (0 : Int64), .long (2 : Int64)]) (rest := []) C (c_6_in l D t (x2).toInt64 (0 : Int64) (2 : Int64) hz2) mw_6_in ml_6_45 st_6_in (rmok rfl rfl) (cutN (wM t qM bM)) rfl rfl (Nat.le_of_ble_eq_true rfl) dX6_loan_13 (fun x w1 hw1 => ?_)
    obtain ⟨rfl, rfl⟩ := hw1
    refine A_perm (ws' := (wM t qM bM)) ((cutN _).symm) ?_
    refine A_if_ne C 21 dX6_loan_16 (by decide) h0 (fun h0 => ?_) (fun h0 => ?_)
    · refine A_aload_n C 0 dX6_loan_21 rfl rfl ?_
      refine A_iload_n C 1 dX6_loan_22 rfl rfl ?_
      obtain ⟨z3, hz3, h0⟩ := bind_some h0
      refine A_vI (As := [.int x1]) (rest := []) C 0 (c_6_loanDays l D t qM bM x1 hz3) mw_6_loanDays ml_6_122 im_6_loanDays sl_6_loanDays (rmok rfl rfl) (cut0 (wM t qM bM)) rfl (ci := 6) rfl rfl rfl (Nat.le_of_ble_eq_true rfl) dX6_loan_23 (fun x w1 hw1 => ?_)
      obtain ⟨rfl, rfl⟩ := hw1
      refine A_perm (ws' := (wM t qM bM)) ((cut0 _).symm) ?_
      refine A_if_ne C 34 dX6_loan_26 (by decide) h0 (fun h0 => ?_) (fun h0 => ?_)
      · refine A_aload_n C 0 dX6_loan_34 rfl rfl ?_
        refine A_get (v := .ref (qM 8)) C 0 8 inG6 (ci := 6) rfl (by decide) fl_6_19 rfl rfl rfl dX6_loan_35 ?_
        refine A_iconst C (3 : Int32) dX6_loan_38 (by decide) ?_
        refine A_iconst C (3 : Int32) dX6_loan_39 (by decide) ?_
        refine A_iload_n C 1 dX6_loan_40 rfl rfl ?_
        refine A_imul C dX6_loan_41 ?_
        refine A_iadd C dX6_loan_42 ?_
        refine A_iload_n C 2 dX6_loan_43 rfl rfl ?_
        refine A_iadd C dX6_loan_44 ?_
        refine A_iald C 4 (gA bM 8 (((3 : Int32) + ((3 : Int32) * x1)) + x2)) rfl rfl dX6_loan_45 h0 (fun h0 => ?_)
        exact A_loc [] rfl (t_6_loan_46 C qM bM r (gA bM 8 (((3 : Int32) + ((3 : Int32) * x1)) + x2)) h0)
      · refine A_bipush C (-9 : Int32) dX6_loan_29 (by decide) ?_
        refine A_goto C 46 dX6_loan_31 (by decide) ?_
        exact A_loc [] rfl (t_6_loan_46 C qM bM r (-9 : Int32) h0)
    · exact A_loc [] rfl (t_6_loan_19 C qM bM r h0)
def f_6_notes_48_b (k48 : BV → Int32 → Option (BV)) (bM : BV) (x1 : Int32) : Option (BV) :=
  if (15 : Int32) ≤ x1 then (some (pI bM 10 ((gI bM 10) + (1 : Int32)))) else (ck (inb x1 15) (ck (inb (((15 : Int32) * (gI bM 10)) + x1) 150) (bs (pA bM 9 (((15 : Int32) * (gI bM 10)) + x1) (gA bM 8 x1)) (fun b1 => k48 b1 (x1 + (1 : Int32))))))
theorem t_6_notes_48_b (C : CX p s m args meth c cX6_notes 2 none RX6 D t) (qM : Nat → Nat) (r : BV) (k48 : BV → Int32 → Option (BV)) (K48 : ∀ (bM : BV) (x1 : Int32), k48 bM x1 = some r → At p l e (rmD 0) s m args below meth c D 2 w0 (QV below args s D w0 (fun w => (wM t qM r) = w) 0 0) 0 0 48 [(0, .ref (qM 99)), (1, .int x1)] [] (wM t qM bM)) (bM : BV) (x1 : Int32) (h0 : f_6_notes_48_b k48 bM x1 = some r) : At p l e (rmD 0) s m args below meth c D 2 w0 (QV below args s D w0 (fun w => (wM t qM r) = w) 0 0) 0 0 48 [(0, .ref (qM 99)), (1, .int x1)] [] (wM t qM bM) := by
  unfold f_6_notes_48_b at h0
  refine A_iload_n C 1 dX6_notes_48 rfl rfl ?_
  refine A_bipush C (15 : Int32) dX6_notes_49 (by decide) ?_
  refine A_icmp_ge C 80 dX6_notes_51 (by decide) h0 (fun h0 => ?_) (fun h0 => ?_)
  · refine A_aload_n C 0 dX6_notes_80 rfl rfl ?_
    refine A_dup C dX6_notes_81 rfl ?_
    refine A_get (v := .int (gI bM 10)) C 0 10 inG6 (ci := 6) rfl (by decide) fl_6_113 rfl rfl rfl dX6_notes_82 ?_
    refine A_iconst C (1 : Int32) dX6_notes_85 (by decide) ?_
    refine A_iadd C dX6_notes_86 ?_
    refine A_put C 0 10 (wM t qM (pI bM 10 ((gI bM 10) + (1 : Int32)))) tyX6 inG6 tyX6_ok nmX6 (ci := 6) rfl (by decide) fl_6_113 rfl rfl rfl rfl rfl (Nat.le_of_ble_eq_true rfl) rfl dX6_notes_87 ?_
    have h0 := Option.some.inj h0
    subst h0
    exact A_vret C dX6_notes_90 rfl
  · refine A_aload_n C 0 dX6_notes_54 rfl rfl ?_
    refine A_get (v := .ref (qM 9)) C 0 9 inG6 (ci := 6) rfl (by decide) fl_6_22 rfl rfl rfl dX6_notes_55 ?_
    refine A_bipush C (15 : Int32) dX6_notes_58 (by decide) ?_
    refine A_aload_n C 0 dX6_notes_60 rfl rfl ?_
    refine A_get (v := .int (gI bM 10)) C 0 10 inG6 (ci := 6) rfl (by decide) fl_6_113 rfl rfl rfl dX6_notes_61 ?_
    refine A_imul C dX6_notes_64 ?_
    refine A_iload_n C 1 dX6_notes_65 rfl rfl ?_
    refine A_iadd C dX6_notes_66 ?_
    refine A_aload_n C 0 dX6_notes_67 rfl rfl ?_
    refine A_get (v := .ref (qM 8)) C 0 8 inG6 (ci := 6) rfl (by decide) fl_6_19 rfl rfl rfl dX6_notes_68 ?_
    refine A_iload_n C 1 dX6_notes_71 rfl rfl ?_
    refine A_iald C 4 (gA bM 8 x1) rfl rfl dX6_notes_72 h0 (fun h0 => ?_)
    refine A_iast C 5 (wM t qM (pA bM 9 (((15 : Int32) * (gI bM 10)) + x1) (gA bM 8 x1))) rfl rfl dX6_notes_73 h0 (fun h0 => ?_)
    obtain ⟨b1, hb1, h0⟩ := bs_some h0
    refine A_weq (wM t qM b1) (by rw [hb1]) ?_
    refine A_iinc C 1 (x1 + (1 : Int32)) [(1, .int (x1 + (1 : Int32))), (0, .ref (qM 99))] dX6_notes_74 rfl rfl (by decide) rfl ?_
    refine A_goto C 48 dX6_notes_77 (by decide) ?_
    exact A_loc [1, 0] rfl (K48 b1 (x1 + (1 : Int32)) h0)
def f_6_notes_48 : Nat → BV → Int32 → Option (BV)
  | 0 => fun _ _ => none
  | n + 1 => f_6_notes_48_b (f_6_notes_48 n)
theorem t_6_notes_48 (C : CX p s m args meth c cX6_notes 2 none RX6 D t) (qM : Nat → Nat) (r : BV) : ∀ (n : Nat), ∀ (bM : BV) (x1 : Int32), f_6_notes_48 n bM x1 = some r → At p l e (rmD 0) s m args below meth c D 2 w0 (QV below args s D w0 (fun w => (wM t qM r) = w) 0 0) 0 0 48 [(0, .ref (qM 99)), (1, .int x1)] [] (wM t qM bM) := by
  intro n
  induction n with
  | zero =>
    intro bM x1 h0
    have h0 : none = some r := h0
    cases h0
  | succ n ih =>
    intro bM x1 h0
    exact t_6_notes_48_b C qM r _ ih bM x1 h0
def f_6_notes_46 (bM : BV) : Option (BV) :=
  f_6_notes_48 200 bM (0 : Int32)
theorem t_6_notes_46 (C : CX p s m args meth c cX6_notes 2 none RX6 D t) (qM : Nat → Nat) (r : BV) (bM : BV) (h0 : f_6_notes_46 bM = some r) : At p l e (rmD 0) s m args below meth c D 2 w0 (QV below args s D w0 (fun w => (wM t qM r) = w) 0 0) 0 0 46 [(0, .ref (qM 99))] [] (wM t qM bM) := by
  unfold f_6_notes_46 at h0
  refine A_iconst C (0 : Int32) dX6_notes_46 (by decide) ?_
  refine A_istore_n C [(1, .int (0 : Int32)), (0, .ref (qM 99))] dX6_notes_47 rfl (by decide) rfl ?_
  exact A_loc [1, 0] rfl (t_6_notes_48 C qM r 200 bM (0 : Int32) h0)
def f_6_notes_12_b (k12 : BV → Int32 → Option (BV)) (bM : BV) (x1 : Int32) : Option (BV) :=
  if (150 : Int32) ≤ x1 then (f_6_notes_46 (pI bM 10 (9 : Int32))) else (ck (inb x1 150) (ck (inb (x1 - (15 : Int32)) 150) (bs (pA bM 9 (x1 - (15 : Int32)) (gA bM 9 x1)) (fun b2 => k12 b2 (x1 + (1 : Int32))))))
theorem t_6_notes_12_b (C : CX p s m args meth c cX6_notes 2 none RX6 D t) (qM : Nat → Nat) (r : BV) (k12 : BV → Int32 → Option (BV)) (K12 : ∀ (bM : BV) (x1 : Int32), k12 bM x1 = some r → At p l e (rmD 0) s m args below meth c D 2 w0 (QV below args s D w0 (fun w => (wM t qM r) = w) 0 0) 0 0 12 [(0, .ref (qM 99)), (1, .int x1)] [] (wM t qM bM)) (bM : BV) (x1 : Int32) (h0 : f_6_notes_12_b k12 bM x1 = some r) : At p l e (rmD 0) s m args below meth c D 2 w0 (QV below args s D w0 (fun w => (wM t qM r) = w) 0 0) 0 0 12 [(0, .ref (qM 99)), (1, .int x1)] [] (wM t qM bM) := by
  unfold f_6_notes_12_b at h0
  refine A_iload_n C 1 dX6_notes_12 rfl rfl ?_
  refine A_sipush C (150 : Int32) dX6_notes_13 (by decide) ?_
  refine A_icmp_ge C 40 dX6_notes_16 (by decide) h0 (fun h0 => ?_) (fun h0 => ?_)
  · refine A_aload_n C 0 dX6_notes_40 rfl rfl ?_
    refine A_bipush C (9 : Int32) dX6_notes_41 (by decide) ?_
    refine A_put C 0 10 (wM t qM (pI bM 10 (9 : Int32))) tyX6 inG6 tyX6_ok nmX6 (ci := 6) rfl (by decide) fl_6_113 rfl rfl rfl rfl rfl (Nat.le_of_ble_eq_true rfl) rfl dX6_notes_43 ?_
    exact A_loc [0] rfl (t_6_notes_46 C qM r (pI bM 10 (9 : Int32)) h0)
  · refine A_aload_n C 0 dX6_notes_19 rfl rfl ?_
    refine A_get (v := .ref (qM 9)) C 0 9 inG6 (ci := 6) rfl (by decide) fl_6_22 rfl rfl rfl dX6_notes_20 ?_
    refine A_iload_n C 1 dX6_notes_23 rfl rfl ?_
    refine A_bipush C (15 : Int32) dX6_notes_24 (by decide) ?_
    refine A_isub C dX6_notes_26 ?_
    refine A_aload_n C 0 dX6_notes_27 rfl rfl ?_
    refine A_get (v := .ref (qM 9)) C 0 9 inG6 (ci := 6) rfl (by decide) fl_6_22 rfl rfl rfl dX6_notes_28 ?_
    refine A_iload_n C 1 dX6_notes_31 rfl rfl ?_
    refine A_iald C 5 (gA bM 9 x1) rfl rfl dX6_notes_32 h0 (fun h0 => ?_)
    refine A_iast C 5 (wM t qM (pA bM 9 (x1 - (15 : Int32)) (gA bM 9 x1))) rfl rfl dX6_notes_33 h0 (fun h0 => ?_)
    obtain ⟨b2, hb2, h0⟩ := bs_some h0
    refine A_weq (wM t qM b2) (by rw [hb2]) ?_
    refine A_iinc C 1 (x1 + (1 : Int32)) [(1, .int (x1 + (1 : Int32))), (0, .ref (qM 99))] dX6_notes_34 rfl rfl (by decide) rfl ?_
    refine A_goto C 12 dX6_notes_37 (by decide) ?_
    exact A_loc [1, 0] rfl (K12 b2 (x1 + (1 : Int32)) h0)
def f_6_notes_12 : Nat → BV → Int32 → Option (BV)
  | 0 => fun _ _ => none
  | n + 1 => f_6_notes_12_b (f_6_notes_12 n)
theorem t_6_notes_12 (C : CX p s m args meth c cX6_notes 2 none RX6 D t) (qM : Nat → Nat) (r : BV) : ∀ (n : Nat), ∀ (bM : BV) (x1 : Int32), f_6_notes_12 n bM x1 = some r → At p l e (rmD 0) s m args below meth c D 2 w0 (QV below args s D w0 (fun w => (wM t qM r) = w) 0 0) 0 0 12 [(0, .ref (qM 99)), (1, .int x1)] [] (wM t qM bM) := by
  intro n
  induction n with
  | zero =>
    intro bM x1 h0
    have h0 : none = some r := h0
    cases h0
  | succ n ih =>
    intro bM x1 h0
    exact t_6_notes_12_b C qM r _ ih bM x1 h0
def f_6_notes (bM : BV) : Option (BV) :=
  if (gI bM 10) = (10 : Int32) then (f_6_notes_12 200 bM (15 : Int32)) else (f_6_notes_46 bM)
theorem c_6_notes (l : Launch) (D : va_G) (t : ty4) (qM : Nat → Nat) (bM : BV) {r : BV} (h0 : f_6_notes bM = some r) : MetV l yX6_notes cX6_notes 2 none (rmD 0) D t [.ref (qM 99)] (wM t qM bM) (fun w => (wM t qM r) = w) := by
  refine MetV_of (by decide +kernel) (Nat.le_of_ble_eq_true rfl) (fun p e s m below meth c C _ => ?_)
  unfold f_6_notes at h0
  generalize hargs : (List.toArray [.ref (qM 99)] : Array Value) = args at C ⊢
  refine At.start (lv2 := [(0, .ref (qM 99))]) rfl ?_
  refine A_aload_n C 0 dX6_notes_0 rfl rfl ?_
  refine A_get (v := .int (gI bM 10)) C 0 10 inG6 (ci := 6) rfl (by decide) fl_6_113 rfl rfl rfl dX6_notes_1 ?_
  refine A_bipush C (10 : Int32) dX6_notes_4 (by decide) ?_
  refine A_icmp_ne C 46 dX6_notes_6 (by decide) h0 (fun h0 => ?_) (fun h0 => ?_)
  · exact A_loc [0] rfl (t_6_notes_46 C qM r bM h0)
  · refine A_bipush C (15 : Int32) dX6_notes_9 (by decide) ?_
    refine A_istore_n C [(1, .int (15 : Int32)), (0, .ref (qM 99))] dX6_notes_11 rfl (by decide) rfl ?_
    exact A_loc [1, 0] rfl (t_6_notes_12 C qM r 200 bM (15 : Int32) h0)
def f_6_row (x0 : Int32) (x1 : Int32) : Option (Int32) :=
  some ((((1 : Int32) <<< (x1 &&& 31)) - (1 : Int32)) <<< (x0 &&& 31))
theorem c_6_row (l : Launch) (D : va_G) (t : ty4) (x0 : Int32) (x1 : Int32) {r : Int32} (h0 : f_6_row x0 x1 = some r) : MetI l yX6_row cX6_row 2 (some .int) (rmD 0) D t [.int x0, .int x1] [] (fun x w => r = x ∧ [] = w) := by
  refine MetI_of (by decide +kernel) (Nat.le_of_ble_eq_true rfl) (fun p e s m below meth c C _ => ?_)
  unfold f_6_row at h0
  generalize hargs : (List.toArray [.int x0, .int x1] : Array Value) = args at C ⊢
  refine At.start (lv2 := [(0, .int x0), (1, .int x1)]) rfl ?_
  refine A_iconst C (1 : Int32) dX6_row_0 (by decide) ?_
  refine A_iload_n C 1 dX6_row_1 rfl rfl ?_
  refine A_ishl C dX6_row_2 ?_
  refine A_iconst C (1 : Int32) dX6_row_3 (by decide) ?_
  refine A_isub C dX6_row_4 ?_
  refine A_iload_n C 0 dX6_row_5 rfl rfl ?_
  refine A_ishl C dX6_row_6 ?_
  have h0 := Option.some.inj h0
  subst h0
  exact A_iret C dX6_row_7 ⟨rfl, rfl⟩
end
