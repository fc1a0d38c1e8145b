section
variable {p : Program} {l : Launch} {e : Env} {s : State} {m : MethodId} {args : Array Value} {below : List Frame} {meth : Method} {c : Code} {D : va_G} {w0 : va_W} {t : ty4}
def f_0_startAnew (bL : BV) : Option (BV) :=
  some (pI (pI (pI (pI (pI (pI bL 0 (0 : Int32)) 1 (0 : Int32)) 4 (0 : Int32)) 8 (2 : Int32)) 9 (3 : Int32)) 10 (9 : Int32))
theorem c_0_startAnew (l : Launch) (D : va_G) (t : ty4) (qL : Nat → Nat) (bL : BV) {r : BV} (h0 : f_0_startAnew bL = some r) : MetV l yX0_startAnew cX0_startAnew 1 none (rmD 0) D t [.ref (qL 99)] (wL t qL bL) (fun w => (wL t qL r) = w) := by
  refine MetV_of (by decide +kernel) (Nat.le_of_ble_eq_true rfl) (fun p e s m below meth c C _ => ?_)
  unfold f_0_startAnew at h0
  generalize hargs : (List.toArray [.ref (qL 99)] : Array Value) = args at C ⊢
  refine At.start (lv2 := [(0, .ref (qL 99))]) rfl ?_
  refine A_aload_n C 0 dX0_startAnew_0 rfl rfl ?_
  refine A_iconst C (0 : Int32) dX0_startAnew_1 (by decide) ?_
  refine A_put C 0 0 (wL t qL (pI bL 0 (0 : Int32))) tyX0 inG0 tyX0_ok nmX0 (ci := 0) rfl (by decide) fl_0_9 rfl rfl rfl rfl rfl (Nat.le_of_ble_eq_true rfl) rfl dX0_startAnew_2 ?_
  refine A_aload_n C 0 dX0_startAnew_5 rfl rfl ?_
  refine A_iconst C (0 : Int32) dX0_startAnew_6 (by decide) ?_
  refine A_put C 0 1 (wL t qL (pI (pI bL 0 (0 : Int32)) 1 (0 : Int32))) tyX0 inG0 tyX0_ok nmX0 (ci := 0) rfl (by decide) fl_0_15 rfl rfl rfl rfl rfl (Nat.le_of_ble_eq_true rfl) rfl dX0_startAnew_7 ?_
  refine A_aload_n C 0 dX0_startAnew_10 rfl rfl ?_
  refine A_iconst C (0 : Int32) dX0_startAnew_11 (by decide) ?_
  refine A_put C 0 4 (wL t qL (pI (pI (pI bL 0 (0 : Int32)) 1 (0 : Int32)) 4 (0 : Int32))) tyX0 inG0 tyX0_ok nmX0 (ci := 0) rfl (by decide) fl_0_25 rfl rfl rfl rfl rfl (Nat.le_of_ble_eq_true rfl) rfl dX0_startAnew_12 ?_
  refine A_aload_n C 0 dX0_startAnew_15 rfl rfl ?_
  refine A_iconst C (2 : Int32) dX0_startAnew_16 (by decide) ?_
  refine A_put C 0 8 (wL t qL (pI (pI (pI (pI bL 0 (0 : Int32)) 1 (0 : Int32)) 4 (0 : Int32)) 8 (2 : Int32))) tyX0 inG0 tyX0_ok nmX0 (ci := 0) rfl (by decide) fl_0_37 rfl rfl rfl rfl rfl (Nat.le_of_ble_eq_true rfl) rfl dX0_startAnew_17 ?_
  refine A_aload_n C 0 dX0_startAnew_20 rfl rfl ?_
  refine A_iconst C (3 : Int32) dX0_startAnew_21 (by decide) ?_
  refine A_put C 0 9 (wL t qL (pI (pI (pI (pI (pI bL 0 (0 : Int32)) 1 (0 : Int32)) 4 (0 : Int32)) 8 (2 : Int32)) 9 (3 : Int32))) tyX0 inG0 tyX0_ok nmX0 (ci := 0) rfl (by decide) fl_0_40 rfl rfl rfl rfl rfl (Nat.le_of_ble_eq_true rfl) rfl dX0_startAnew_22 ?_
  refine A_aload_n C 0 dX0_startAnew_25 rfl rfl ?_
  refine A_bipush C (9 : Int32) dX0_startAnew_26 (by decide) ?_
  refine A_put C 0 10 (wL t qL (pI (pI (pI (pI (pI (pI bL 0 (0 : Int32)) 1 (0 : Int32)) 4 (0 : Int32)) 8 (2 : Int32)) 9 (3 : Int32)) 10 (9 : Int32))) tyX0 inG0 tyX0_ok nmX0 (ci := 0) rfl (by decide) fl_0_43 rfl rfl rfl rfl rfl (Nat.le_of_ble_eq_true rfl) rfl dX0_startAnew_28 ?_
  have h0 := Option.some.inj h0
  subst h0
  exact A_vret C dX0_startAnew_31 rfl
def f_0_addSeason_55 (bL : BV) : Option (BV) :=
  some (pI bL 0 ((gI bL 0) + (1 : Int32)))
theorem t_0_addSeason_55 (C : CX p s m args meth c cX0_addSeason 4 none RX0 D t) (qL : Nat → Nat) (r : BV) (bL : BV) (h0 : f_0_addSeason_55 bL = some r) : At p l e (rmD 0) s m args below meth c D 4 w0 (QV below args s D w0 (fun w => (wL t qL r) = w) 0 0) 0 0 55 [(0, .ref (qL 99))] [] (wL t qL bL) := by
  unfold f_0_addSeason_55 at h0
  refine A_aload_n C 0 dX0_addSeason_55 rfl rfl ?_
  refine A_dup C dX0_addSeason_56 rfl ?_
  refine A_get (v := .int (gI bL 0)) C 0 0 inG0 (ci := 0) rfl (by decide) fl_0_9 rfl rfl rfl dX0_addSeason_57 ?_
  refine A_iconst C (1 : Int32) dX0_addSeason_60 (by decide) ?_
  refine A_iadd C dX0_addSeason_61 ?_
  refine A_put C 0 0 (wL t qL (pI bL 0 ((gI bL 0) + (1 : Int32)))) tyX0 inG0 tyX0_ok nmX0 (ci := 0) rfl (by decide) fl_0_9 rfl rfl rfl rfl rfl (Nat.le_of_ble_eq_true rfl) rfl dX0_addSeason_62 ?_
  have h0 := Option.some.inj h0
  subst h0
  exact A_vret C dX0_addSeason_65 rfl
def f_0_addSeason_2_b (k2 : BV → Int32 → Int32 → Int32 → Option (BV)) (bL : BV) (x1 : Int32) (x2 : Int32) (x3 : Int32) : Option (BV) :=
  if x1 ≤ x3 then (f_0_addSeason_55 bL) else (if (30 : Int32) ≤ (gI bL 1) then (f_0_addSeason_55 bL) else (ck (inb (gI bL 1) 30) (bs (pA bL 2 (gI bL 1) (gI bL 0)) (fun b1 => ck (inb (gI b1 1) 30) (bs (pA b1 3 (gI b1 1) x2) (fun b2 => k2 (pI b2 1 ((gI b2 1) + (1 : Int32))) x1 x2 (x3 + (1 : Int32))))))))
theorem t_0_addSeason_2_b (C : CX p s m args meth c cX0_addSeason 4 none RX0 D t) (qL : Nat → Nat) (r : BV) (k2 : BV → Int32 → Int32 → Int32 → Option (BV)) (K2 : ∀ (bL : BV) (x1 : Int32) (x2 : Int32) (x3 : Int32), k2 bL x1 x2 x3 = some r → At p l e (rmD 0) s m args below meth c D 4 w0 (QV below args s D w0 (fun w => (wL t qL r) = w) 0 0) 0 0 2 [(0, .ref (qL 99)), (1, .int x1), (2, .int x2), (3, .int x3)] [] (wL t qL bL)) (bL : BV) (x1 : Int32) (x2 : Int32) (x3 : Int32) (h0 : f_0_addSeason_2_b k2 bL x1 x2 x3 = some r) : At p l e (rmD 0) s m args below meth c D 4 w0 (QV below args s D w0 (fun w => (wL t qL r) = w) 0 0) 0 0 2 [(0, .ref (qL 99)), (1, .int x1), (2, .int x2), (3, .int x3)] [] (wL t qL bL) := by
  unfold f_0_addSeason_2_b at h0
  refine A_iload_n C 3 dX0_addSeason_2 rfl rfl ?_
  refine A_iload_n C 1 dX0_addSeason_3 rfl rfl ?_
  refine A_icmp_ge C 55 dX0_addSeason_4 (by decide) h0 (fun h0 => ?_) (fun h0 => ?_)
  · exact A_loc [0] rfl (t_0_addSeason_55 C qL r bL h0)
  · refine A_aload_n C 0 dX0_addSeason_7 rfl rfl ?_
    refine A_get (v := .int (gI bL 1)) C 0 1 inG0 (ci := 0) rfl (by decide) fl_0_15 rfl rfl rfl dX0_addSeason_8 ?_
    refine A_bipush C (30 : Int32) dX0_addSeason_11 (by decide) ?_
    refine A_icmp_ge C 55 dX0_addSeason_13 (by decide) h0 (fun h0 => ?_) (fun h0 => ?_)
    · exact A_loc [0] rfl (t_0_addSeason_55 C qL r bL h0)
    · refine A_aload_n C 0 dX0_addSeason_16 rfl rfl ?_
      refine A_get (v := .ref (qL 2)) C 0 2 inG0 (ci := 0) rfl (by decide) fl_0_18 rfl rfl rfl dX0_addSeason_17 ?_
      refine A_aload_n C 0 dX0_addSeason_20 rfl rfl ?_
      refine A_get (v := .int (gI bL 1)) C 0 1 inG0 (ci := 0) rfl (by decide) fl_0_15 rfl rfl rfl dX0_addSeason_21 ?_
      refine A_aload_n C 0 dX0_addSeason_24 rfl rfl ?_
      refine A_get (v := .int (gI bL 0)) C 0 0 inG0 (ci := 0) rfl (by decide) fl_0_9 rfl rfl rfl dX0_addSeason_25 ?_
      refine A_iast C 1 (wL t qL (pA bL 2 (gI bL 1) (gI bL 0))) rfl rfl dX0_addSeason_28 h0 (fun h0 => ?_)
      obtain ⟨b1, hb1, h0⟩ := bs_some h0
      refine A_weq (wL t qL b1) (by rw [hb1]) ?_
      refine A_aload_n C 0 dX0_addSeason_29 rfl rfl ?_
      refine A_get (v := .ref (qL 3)) C 0 3 inG0 (ci := 0) rfl (by decide) fl_0_22 rfl rfl rfl dX0_addSeason_30 ?_
      refine A_aload_n C 0 dX0_addSeason_33 rfl rfl ?_
      refine A_get (v := .int (gI b1 1)) C 0 1 inG0 (ci := 0) rfl (by decide) fl_0_15 rfl rfl rfl dX0_addSeason_34 ?_
      refine A_iload_n C 2 dX0_addSeason_37 rfl rfl ?_
      refine A_iast C 2 (wL t qL (pA b1 3 (gI b1 1) x2)) rfl rfl dX0_addSeason_38 h0 (fun h0 => ?_)
      obtain ⟨b2, hb2, h0⟩ := bs_some h0
      refine A_weq (wL t qL b2) (by rw [hb2]) ?_
      refine A_aload_n C 0 dX0_addSeason_39 rfl rfl ?_
      refine A_dup C dX0_addSeason_40 rfl ?_
      refine A_get (v := .int (gI b2 1)) C 0 1 inG0 (ci := 0) rfl (by decide) fl_0_15 rfl rfl rfl dX0_addSeason_41 ?_
      refine A_iconst C (1 : Int32) dX0_addSeason_44 (by decide) ?_
      refine A_iadd C dX0_addSeason_45 ?_
      refine A_put C 0 1 (wL t qL (pI b2 1 ((gI b2 1) + (1 : Int32)))) tyX0 inG0 tyX0_ok nmX0 (ci := 0) rfl (by decide) fl_0_15 rfl rfl rfl rfl rfl (Nat.le_of_ble_eq_true rfl) rfl dX0_addSeason_46 ?_
      refine A_iinc C 3 (x3 + (1 : Int32)) [(3, .int (x3 + (1 : Int32))), (0, .ref (qL 99)), (1, .int x1), (2, .int x2)] dX0_addSeason_49 rfl rfl (by decide) rfl ?_
      refine A_goto C 2 dX0_addSeason_52 (by decide) ?_
      exact A_loc [1, 2, 3, 0] rfl (K2 (pI b2 1 ((gI b2 1) + (1 : Int32))) x1 x2 (x3 + (1 : Int32)) h0)
def f_0_addSeason_2 : Nat → BV → Int32 → Int32 → Int32 → Option (BV)
  | 0 => fun _ _ _ _ => none
  | n + 1 => f_0_addSeason_2_b (f_0_addSeason_2 n)
theorem t_0_addSeason_2 (C : CX p s m args meth c cX0_addSeason 4 none RX0 D t) (qL : Nat → Nat) (r : BV) : ∀ (n : Nat), ∀ (bL : BV) (x1 : Int32) (x2 : Int32) (x3 : Int32), f_0_addSeason_2 n bL x1 x2 x3 = some r → At p l e (rmD 0) s m args below meth c D 4 w0 (QV below args s D w0 (fun w => (wL t qL r) = w) 0 0) 0 0 2 [(0, .ref (qL 99)), (1, .int x1), (2, .int x2), (3, .int x3)] [] (wL t qL bL) := by
  intro n
  induction n with
  | zero =>
    intro bL x1 x2 x3 h0
    have h0 : none = some r := h0
    cases h0
  | succ n ih =>
    intro bL x1 x2 x3 h0
    exact t_0_addSeason_2_b C qL r _ ih bL x1 x2 x3 h0
def f_0_addSeason (bL : BV) (x1 : Int32) (x2 : Int32) : Option (BV) :=
  f_0_addSeason_2 200 bL x1 x2 (0 : Int32)
theorem c_0_addSeason (l : Launch) (D : va_G) (t : ty4) (qL : Nat → Nat) (bL : BV) (x1 : Int32) (x2 : Int32) {r : BV} (h0 : f_0_addSeason bL x1 x2 = some r) : MetV l yX0_addSeason cX0_addSeason 4 none (rmD 0) D t [.ref (qL 99), .int x1, .int x2] (wL t qL bL) (fun w => (wL t qL r) = w) := by
  refine MetV_of (by decide +kernel) (Nat.le_of_ble_eq_true rfl) (fun p e s m below meth c C _ => ?_)
  unfold f_0_addSeason at h0
  generalize hargs : (List.toArray [.ref (qL 99), .int x1, .int x2] : Array Value) = args at C ⊢
  refine At.start (lv2 := [(0, .ref (qL 99)), (1, .int x1), (2, .int x2)]) rfl ?_
  refine A_iconst C (0 : Int32) dX0_addSeason_0 (by decide) ?_
  refine A_istore_n C [(3, .int (0 : Int32)), (0, .ref (qL 99)), (1, .int x1), (2, .int x2)] dX0_addSeason_1 rfl (by decide) rfl ?_
  exact A_loc [1, 2, 3, 0] rfl (t_0_addSeason_2 C qL r 200 bL x1 x2 (0 : Int32) h0)
def f_0_addCrop_48 (bL : BV) : Option (BV) :=
  some bL
theorem t_0_addCrop_48 (C : CX p s m args meth c cX0_addCrop 4 none RX0 D t) (qL : Nat → Nat) (r : BV) (bL : BV) (h0 : f_0_addCrop_48 bL = some r) : At p l e (rmD 0) s m args below meth c D 4 w0 (QV below args s D w0 (fun w => (wL t qL r) = w) 0 0) 0 0 48 [] [] (wL t qL bL) := by
  unfold f_0_addCrop_48 at h0
  have h0 := Option.some.inj h0
  subst h0
  exact A_vret C dX0_addCrop_48 rfl
def f_0_addCrop (bL : BV) (x1 : Int32) (x2 : Int32) (x3 : Int32) : Option (BV) :=
  if (4 : Int32) ≤ (gI bL 4) then (f_0_addCrop_48 bL) else (ck (inb (gI bL 4) 4) (bs (pA bL 5 (gI bL 4) x1) (fun b1 => ck (inb (gI b1 4) 4) (bs (pA b1 6 (gI b1 4) x2) (fun b2 => ck (inb (gI b2 4) 4) (bs (pA b2 7 (gI b2 4) x3) (fun b3 => f_0_addCrop_48 (pI b3 4 ((gI b3 4) + (1 : Int32))))))))))
theorem c_0_addCrop (l : Launch) (D : va_G) (t : ty4) (qL : Nat → Nat) (bL : BV) (x1 : Int32) (x2 : Int32) (x3 : Int32) {r : BV} (h0 : f_0_addCrop bL x1 x2 x3 = some r) : MetV l yX0_addCrop cX0_addCrop 4 none (rmD 0) D t [.ref (qL 99), .int x1, .int x2, .int x3] (wL t qL bL) (fun w => (wL t qL r) = w) := by
  refine MetV_of (by decide +kernel) (Nat.le_of_ble_eq_true rfl) (fun p e s m below meth c C _ => ?_)
  unfold f_0_addCrop at h0
  generalize hargs : (List.toArray [.ref (qL 99), .int x1, .int x2, .int x3] : Array Value) = args at C ⊢
  refine At.start (lv2 := [(0, .ref (qL 99)), (1, .int x1), (2, .int x2), (3, .int x3)]) rfl ?_
  refine A_aload_n C 0 dX0_addCrop_0 rfl rfl ?_
  refine A_get (v := .int (gI bL 4)) C 0 4 inG0 (ci := 0) rfl (by decide) fl_0_25 rfl rfl rfl dX0_addCrop_1 ?_
  refine A_iconst C (4 : Int32) dX0_addCrop_4 (by decide) ?_
  refine A_icmp_ge C 48 dX0_addCrop_5 (by decide) h0 (fun h0 => ?_) (fun h0 => ?_)
  · exact A_loc [] rfl (t_0_addCrop_48 C qL r bL h0)
  · refine A_aload_n C 0 dX0_addCrop_8 rfl rfl ?_
    refine A_get (v := .ref (qL 5)) C 0 5 inG0 (ci := 0) rfl (by decide) fl_0_28 rfl rfl rfl dX0_addCrop_9 ?_
    refine A_aload_n C 0 dX0_addCrop_12 rfl rfl ?_
    refine A_get (v := .int (gI bL 4)) C 0 4 inG0 (ci := 0) rfl (by decide) fl_0_25 rfl rfl rfl dX0_addCrop_13 ?_
    refine A_iload_n C 1 dX0_addCrop_16 rfl rfl ?_
    refine A_iast C 3 (wL t qL (pA bL 5 (gI bL 4) x1)) rfl rfl dX0_addCrop_17 h0 (fun h0 => ?_)
    obtain ⟨b1, hb1, h0⟩ := bs_some h0
    refine A_weq (wL t qL b1) (by rw [hb1]) ?_
    refine A_aload_n C 0 dX0_addCrop_18 rfl rfl ?_
    refine A_get (v := .ref (qL 6)) C 0 6 inG0 (ci := 0) rfl (by decide) fl_0_31 rfl rfl rfl dX0_addCrop_19 ?_
    refine A_aload_n C 0 dX0_addCrop_22 rfl rfl ?_
    refine A_get (v := .int (gI b1 4)) C 0 4 inG0 (ci := 0) rfl (by decide) fl_0_25 rfl rfl rfl dX0_addCrop_23 ?_
    refine A_iload_n C 2 dX0_addCrop_26 rfl rfl ?_
    refine A_iast C 4 (wL t qL (pA b1 6 (gI b1 4) x2)) rfl rfl dX0_addCrop_27 h0 (fun h0 => ?_)
    obtain ⟨b2, hb2, h0⟩ := bs_some h0
    refine A_weq (wL t qL b2) (by rw [hb2]) ?_
    refine A_aload_n C 0 dX0_addCrop_28 rfl rfl ?_
    refine A_get (v := .ref (qL 7)) C 0 7 inG0 (ci := 0) rfl (by decide) fl_0_34 rfl rfl rfl dX0_addCrop_29 ?_
    refine A_aload_n C 0 dX0_addCrop_32 rfl rfl ?_
    refine A_get (v := .int (gI b2 4)) C 0 4 inG0 (ci := 0) rfl (by decide) fl_0_25 rfl rfl rfl dX0_addCrop_33 ?_
    refine A_iload_n C 3 dX0_addCrop_36 rfl rfl ?_
    refine A_iast C 5 (wL t qL (pA b2 7 (gI b2 4) x3)) rfl rfl dX0_addCrop_37 h0 (fun h0 => ?_)
    obtain ⟨b3, hb3, h0⟩ := bs_some h0
    refine A_weq (wL t qL b3) (by rw [hb3]) ?_
    refine A_aload_n C 0 dX0_addCrop_38 rfl rfl ?_
    refine A_dup C dX0_addCrop_39 rfl ?_
    refine A_get (v := .int (gI b3 4)) C 0 4 inG0 (ci := 0) rfl (by decide) fl_0_25 rfl rfl rfl dX0_addCrop_40 ?_
    refine A_iconst C (1 : Int32) dX0_addCrop_43 (by decide) ?_
    refine A_iadd C dX0_addCrop_44 ?_
    refine A_put C 0 4 (wL t qL (pI b3 4 ((gI b3 4) + (1 : Int32)))) tyX0 inG0 tyX0_ok nmX0 (ci := 0) rfl (by decide) fl_0_25 rfl rfl rfl rfl rfl (Nat.le_of_ble_eq_true rfl) rfl dX0_addCrop_45 ?_
    exact A_loc [] rfl (t_0_addCrop_48 C qL r (pI b3 4 ((gI b3 4) + (1 : Int32))) h0)
def f_0_lentFor_38 (bL : BV) (x3 : Int32) : Option (Int32) :=
  some (x3 * (gI bL 8))
theorem t_0_lentFor_38 (C : CX p s m args meth c cX0_lentFor 5 (some .int) RX0 D t) (qL : Nat → Nat) (bL : BV) (r : Int32) (x3 : Int32) (h0 : f_0_lentFor_38 bL x3 = some r) : At p l e (rmD 0) s m args below meth c D 5 w0 (QI below args s D w0 (fun x w => r = x ∧ (wL t qL bL) = w) 0 0) 0 0 38 [(0, .ref (qL 99)), (3, .int x3)] [] (wL t qL bL) := by
  unfold f_0_lentFor_38 at h0
  refine A_iload_n C 1 dX0_lentFor_38 rfl rfl ?_
  refine A_aload_n C 0 dX0_lentFor_39 rfl rfl ?_
  refine A_get (v := .int (gI bL 8)) C 0 8 inG0 (ci := 0) rfl (by decide) fl_0_37 rfl rfl rfl dX0_lentFor_40 ?_
  refine A_imul C dX0_lentFor_43 ?_
  have h0 := Option.some.inj h0
  subst h0
  exact A_iret C dX0_lentFor_44 ⟨rfl, rfl⟩
def f_0_lentFor_5_b (bL : BV) (k5 : Int32 → Int32 → Int32 → Int32 → Option (Int32)) (x1 : Int32) (x2 : Int32) (x3 : Int32) (x4 : Int32) : Option (Int32) :=
  if (x1 + x2) ≤ x4 then (f_0_lentFor_38 bL x3) else (if (gI bL 1) ≤ x4 then (f_0_lentFor_38 bL x3) else (ck (inb x4 30) (k5 x1 x2 (x3 + (gA bL 3 x4)) (x4 + (1 : Int32)))))
theorem t_0_lentFor_5_b (C : CX p s m args meth c cX0_lentFor 5 (some .int) RX0 D t) (qL : Nat → Nat) (bL : BV) (r : Int32) (k5 : Int32 → Int32 → Int32 → Int32 → Option (Int32)) (K5 : ∀ (x1 : Int32) (x2 : Int32) (x3 : Int32) (x4 : Int32), k5 x1 x2 x3 x4 = some r → At p l e (rmD 0) s m args below meth c D 5 w0 (QI below args s D w0 (fun x w => r = x ∧ (wL t qL bL) = w) 0 0) 0 0 5 [(0, .ref (qL 99)), (1, .int x1), (2, .int x2), (3, .int x3), (4, .int x4)] [] (wL t qL bL)) (x1 : Int32) (x2 : Int32) (x3 : Int32) (x4 : Int32) (h0 : f_0_lentFor_5_b bL k5 x1 x2 x3 x4 = some r) : At p l e (rmD 0) s m args below meth c D 5 w0 (QI below args s D w0 (fun x w => r = x ∧ (wL t qL bL) = w) 0 0) 0 0 5 [(0, .ref (qL 99)), (1, .int x1), (2, .int x2), (3, .int x3), (4, .int x4)] [] (wL t qL bL) := by
  unfold f_0_lentFor_5_b at h0
  refine A_iload C 4 dX0_lentFor_5 rfl ?_
  refine A_iload_n C 1 dX0_lentFor_7 rfl rfl ?_
  refine A_iload_n C 2 dX0_lentFor_8 rfl rfl ?_
  refine A_iadd C dX0_lentFor_9 ?_
  refine A_icmp_ge C 38 dX0_lentFor_10 (by decide) h0 (fun h0 => ?_) (fun h0 => ?_)
  · exact A_loc [0, 3] rfl (t_0_lentFor_38 C qL bL r x3 h0)
  · refine A_iload C 4 dX0_lentFor_13 rfl ?_
    refine A_aload_n C 0 dX0_lentFor_15 rfl rfl ?_
    refine A_get (v := .int (gI bL 1)) C 0 1 inG0 (ci := 0) rfl (by decide) fl_0_15 rfl rfl rfl dX0_lentFor_16 ?_
    refine A_icmp_ge C 38 dX0_lentFor_19 (by decide) h0 (fun h0 => ?_) (fun h0 => ?_)
    · exact A_loc [0, 3] rfl (t_0_lentFor_38 C qL bL r x3 h0)
    · refine A_iload_n C 3 dX0_lentFor_22 rfl rfl ?_
      refine A_aload_n C 0 dX0_lentFor_23 rfl rfl ?_
      refine A_get (v := .ref (qL 3)) C 0 3 inG0 (ci := 0) rfl (by decide) fl_0_22 rfl rfl rfl dX0_lentFor_24 ?_
      refine A_iload C 4 dX0_lentFor_27 rfl ?_
      refine A_iald C 2 (gA bL 3 x4) rfl rfl dX0_lentFor_29 h0 (fun h0 => ?_)
      refine A_iadd C dX0_lentFor_30 ?_
      refine A_istore_n C [(3, .int (x3 + (gA bL 3 x4))), (0, .ref (qL 99)), (1, .int x1), (2, .int x2), (4, .int x4)] dX0_lentFor_31 rfl (by decide) rfl ?_
      refine A_iinc C 4 (x4 + (1 : Int32)) [(4, .int (x4 + (1 : Int32))), (3, .int (x3 + (gA bL 3 x4))), (0, .ref (qL 99)), (1, .int x1), (2, .int x2)] dX0_lentFor_32 rfl rfl (by decide) rfl ?_
      refine A_goto C 5 dX0_lentFor_35 (by decide) ?_
      exact A_loc [2, 3, 4, 1, 0] rfl (K5 x1 x2 (x3 + (gA bL 3 x4)) (x4 + (1 : Int32)) h0)
def f_0_lentFor_5 (bL : BV) : Nat → Int32 → Int32 → Int32 → Int32 → Option (Int32)
  | 0 => fun _ _ _ _ => none
  | n + 1 => f_0_lentFor_5_b bL (f_0_lentFor_5 bL n)
theorem t_0_lentFor_5 (C : CX p s m args meth c cX0_lentFor 5 (some .int) RX0 D t) (qL : Nat → Nat) (bL : BV) (r : Int32) : ∀ (n : Nat), ∀ (x1 : Int32) (x2 : Int32) (x3 : Int32) (x4 : Int32), f_0_lentFor_5 bL n x1 x2 x3 x4 = some r → At p l e (rmD 0) s m args below meth c D 5 w0 (QI below args s D w0 (fun x w => r = x ∧ (wL t qL bL) = w) 0 0) 0 0 5 [(0, .ref (qL 99)), (1, .int x1), (2, .int x2), (3, .int x3), (4, .int x4)] [] (wL t qL bL) := by
  intro n
  induction n with
  | zero =>
    intro x1 x2 x3 x4 h0
    have h0 : none = some r := h0
    cases h0
  | succ n ih =>
    intro x1 x2 x3 x4 h0
    exact t_0_lentFor_5_b C qL bL r _ ih x1 x2 x3 x4 h0
def f_0_lentFor (bL : BV) (x1 : Int32) (x2 : Int32) : Option (Int32) :=
  f_0_lentFor_5 bL 200 x1 x2 (0 : Int32) x1
theorem c_0_lentFor (l : Launch) (D : va_G) (t : ty4) (qL : Nat → Nat) (bL : BV) (x1 : Int32) (x2 : Int32) {r : Int32} (h0 : f_0_lentFor bL x1 x2 = some r) : MetI l yX0_lentFor cX0_lentFor 5 (some .int) (rmD 0) D t [.ref (qL 99), .int x1, .int x2] (wL t qL bL) (fun x w => r = x ∧ (wL t qL bL) = w) := by
  refine MetI_of (by decide +kernel) (Nat.le_of_ble_eq_true rfl) (fun p e s m below meth c C _ => ?_)
  unfold f_0_lentFor at h0
  generalize hargs : (List.toArray [.ref (qL 99), .int x1, .int x2] : Array Value) = args at C ⊢
  refine At.start (lv2 := [(0, .ref (qL 99)), (1, .int x1), (2, .int x2)]) rfl ?_
  refine A_iconst C (0 : Int32) dX0_lentFor_0 (by decide) ?_
  refine A_istore_n C [(3, .int (0 : Int32)), (0, .ref (qL 99)), (1, .int x1), (2, .int x2)] dX0_lentFor_1 rfl (by decide) rfl ?_
  refine A_iload_n C 2 dX0_lentFor_2 rfl rfl ?_
  refine A_istore C [(4, .int x1), (3, .int (0 : Int32)), (0, .ref (qL 99)), (1, .int x1), (2, .int x2)] dX0_lentFor_3 (by decide) rfl ?_
  exact A_loc [2, 3, 4, 1, 0] rfl (t_0_lentFor_5 C qL bL r 200 x1 x2 (0 : Int32) x1 h0)
def f_1_refuseUnless_24 (bT : BV) (bR : BV) : Option (BV) :=
  some bR
theorem t_1_refuseUnless_24 (C : CX p s m args meth c cX1_refuseUnless 2 none RX1 D t) (qR : Nat → Nat) (qT : Nat → Nat) (qL : Nat → Nat) (bT : BV) (bL : BV) (r : BV) (bR : BV) (h0 : f_1_refuseUnless_24 bT bR = some r) : At p l e (rmD 0) s m args below meth c D 2 w0 (QV below args s D w0 (fun w => (wRd t qR qT qL r ++ (wTx t qT bT ++ (wL t qL bL))) = w) 0 0) 0 0 24 [] [] (wRd t qR qT qL bR ++ (wTx t qT bT ++ (wL t qL bL))) := by
  unfold f_1_refuseUnless_24 at h0
  have h0 := Option.some.inj h0
  subst h0
  exact A_vret C dX1_refuseUnless_24 rfl
def f_1_refuseUnless (bR : BV) (bT : BV) (x1 : Int32) : Option (BV) :=
  if x1 = 0 then (if (gI bR 2) = (-9 : Int32) then (f_1_refuseUnless_24 bT (pI bR 2 (gI bT 2))) else (f_1_refuseUnless_24 bT bR)) else (f_1_refuseUnless_24 bT bR)
theorem c_1_refuseUnless (l : Launch) (D : va_G) (t : ty4) (qR : Nat → Nat) (qT : Nat → Nat) (qL : Nat → Nat) (bR : BV) (bT : BV) (bL : BV) (x1 : Int32) {r : BV} (h0 : f_1_refuseUnless bR bT x1 = some r) : MetV l yX1_refuseUnless cX1_refuseUnless 2 none (rmD 0) D t [.ref (qR 99), .int x1] (wRd t qR qT qL bR ++ (wTx t qT bT ++ (wL t qL bL))) (fun w => (wRd t qR qT qL r ++ (wTx t qT bT ++ (wL t qL bL))) = w) := by
  refine MetV_of (by decide +kernel) (Nat.le_of_ble_eq_true rfl) (fun p e s m below meth c C _ => ?_)
  unfold f_1_refuseUnless at h0
  generalize hargs : (List.toArray [.ref (qR 99), .int x1] : Array Value) = args at C ⊢
  refine At.start (lv2 := [(0, .ref (qR 99)), (1, .int x1)]) rfl ?_
  refine A_iload_n C 1 dX1_refuseUnless_0 rfl rfl ?_
  refine A_if_ne C 24 dX1_refuseUnless_1 (by decide) h0 (fun h0 => ?_) (fun h0 => ?_)
  · exact A_loc [] rfl (t_1_refuseUnless_24 C qR qT qL bT bL r bR h0)
  · refine A_aload_n C 0 dX1_refuseUnless_4 rfl rfl ?_
    refine A_get (v := .int (gI bR 2)) C 0 2 inG1 (ci := 1) rfl (by decide) fl_1_25 rfl rfl rfl dX1_refuseUnless_5 ?_
    refine A_bipush C (-9 : Int32) dX1_refuseUnless_8 (by decide) ?_
    refine A_icmp_ne C 24 dX1_refuseUnless_10 (by decide) h0 (fun h0 => ?_) (fun h0 => ?_)
    · exact A_loc [] rfl (t_1_refuseUnless_24 C qR qT qL bT bL r bR h0)
    · refine A_aload_n C 0 dX1_refuseUnless_13 rfl rfl ?_
      refine A_aload_n C 0 dX1_refuseUnless_14 rfl rfl ?_
      refine A_get (v := .ref (qT 99)) C 0 0 inG1 (ci := 1) rfl (by decide) fl_1_12 rfl rfl rfl dX1_refuseUnless_15 ?_
      refine A_get (v := .int (gI bT 2)) C 1 2 inG4 (ci := 4) rfl (by decide) fl_1_121 rfl rfl rfl dX1_refuseUnless_18 ?_
      refine A_put C 0 2 (wRd t qR qT qL (pI bR 2 (gI bT 2)) ++ (wTx t qT bT ++ (wL t qL bL))) tyX1 inG1 tyX1_ok nmX1 (ci := 1) rfl (by decide) fl_1_25 rfl rfl rfl rfl rfl (Nat.le_of_ble_eq_true rfl) rfl dX1_refuseUnless_21 ?_
      exact A_loc [] rfl (t_1_refuseUnless_24 C qR qT qL bT bL r (pI bR 2 (gI bT 2)) h0)
def f_2_become_2_b (bO : BV) (k2 : BV → Int32 → Option (BV)) (bS : BV) (x2 : Int32) : Option (BV) :=
  if (4 : Int32) ≤ x2 then (some (pI (pI (pI bS 3 (gI bO 3)) 4 (gI bO 4)) 5 (gI bO 5))) else (ck (inb x2 4) (ck (inb x2 4) (bs (pA bS 0 x2 (gA bO 0 x2)) (fun b1 => ck (inb x2 4) (ck (inb x2 4) (bs (pA b1 1 x2 (gA bO 1 x2)) (fun b2 => ck (inb x2 4) (ck (inb x2 4) (bs (pA b2 2 x2 (gA bO 2 x2)) (fun b3 => k2 b3 (x2 + (1 : Int32))))))))))))
theorem t_2_become_2_b (C : CX p s m args meth c cX2_become 3 none RX2 D t) (qS : Nat → Nat) (qO : Nat → Nat) (bO : BV) (r : BV) (k2 : BV → Int32 → Option (BV)) (K2 : ∀ (bS : BV) (x2 : Int32), k2 bS x2 = some r → At p l e (rmD 0) s m args below meth c D 3 w0 (QV below args s D w0 (fun w => (wS t qS r ++ (wS t qO bO)) = w) 0 0) 0 0 2 [(0, .ref (qS 99)), (1, .ref (qO 99)), (2, .int x2)] [] (wS t qS bS ++ (wS t qO bO))) (bS : BV) (x2 : Int32) (h0 : f_2_become_2_b bO k2 bS x2 = some r) : At p l e (rmD 0) s m args below meth c D 3 w0 (QV below args s D w0 (fun w => (wS t qS r ++ (wS t qO bO)) = w) 0 0) 0 0 2 [(0, .ref (qS 99)), (1, .ref (qO 99)), (2, .int x2)] [] (wS t qS bS ++ (wS t qO bO)) := by
  unfold f_2_become_2_b at h0
  refine A_iload_n C 2 dX2_become_2 rfl rfl ?_
  refine A_iconst C (4 : Int32) dX2_become_3 (by decide) ?_
  refine A_icmp_ge C 49 dX2_become_4 (by decide) h0 (fun h0 => ?_) (fun h0 => ?_)
  · refine A_aload_n C 0 dX2_become_49 rfl rfl ?_
    refine A_aload_n C 1 dX2_become_50 rfl rfl ?_
    refine A_get (v := .int (gI bO 3)) C 4 3 inG2 (ci := 2) rfl (by decide) fl_2_21 rfl rfl rfl dX2_become_51 ?_
    refine A_put C 0 3 (wS t qS (pI bS 3 (gI bO 3)) ++ (wS t qO bO)) tyX2 inG2 tyX2_ok nmX2 (ci := 2) rfl (by decide) fl_2_21 rfl rfl rfl rfl rfl (Nat.le_of_ble_eq_true rfl) rfl dX2_become_54 ?_
    refine A_aload_n C 0 dX2_become_57 rfl rfl ?_
    refine A_aload_n C 1 dX2_become_58 rfl rfl ?_
    refine A_get (v := .int (gI bO 4)) C 4 4 inG2 (ci := 2) rfl (by decide) fl_2_25 rfl rfl rfl dX2_become_59 ?_
    refine A_put C 0 4 (wS t qS (pI (pI bS 3 (gI bO 3)) 4 (gI bO 4)) ++ (wS t qO bO)) tyX2 inG2 tyX2_ok nmX2 (ci := 2) rfl (by decide) fl_2_25 rfl rfl rfl rfl rfl (Nat.le_of_ble_eq_true rfl) rfl dX2_become_62 ?_
    refine A_aload_n C 0 dX2_become_65 rfl rfl ?_
    refine A_aload_n C 1 dX2_become_66 rfl rfl ?_
    refine A_get (v := .int (gI bO 5)) C 4 5 inG2 (ci := 2) rfl (by decide) fl_2_28 rfl rfl rfl dX2_become_67 ?_
    refine A_put C 0 5 (wS t qS (pI (pI (pI bS 3 (gI bO 3)) 4 (gI bO 4)) 5 (gI bO 5)) ++ (wS t qO bO)) tyX2 inG2 tyX2_ok nmX2 (ci := 2) rfl (by decide) fl_2_28 rfl rfl rfl rfl rfl (Nat.le_of_ble_eq_true rfl) rfl dX2_become_70 ?_
    have h0 := Option.some.inj h0
    subst h0
    exact A_vret C dX2_become_73 rfl
  · refine A_aload_n C 0 dX2_become_7 rfl rfl ?_
    refine A_get (v := .ref (qS 0)) C 0 0 inG2 (ci := 2) rfl (by decide) fl_2_9 rfl rfl rfl dX2_become_8 ?_
    refine A_iload_n C 2 dX2_become_11 rfl rfl ?_
    refine A_aload_n C 1 dX2_become_12 rfl rfl ?_
    refine A_get (v := .ref (qO 0)) C 4 0 inG2 (ci := 2) rfl (by decide) fl_2_9 rfl rfl rfl dX2_become_13 ?_
    refine A_iload_n C 2 dX2_become_16 rfl rfl ?_
    refine A_iald C 5 (gA bO 0 x2) rfl rfl dX2_become_17 h0 (fun h0 => ?_)
    refine A_iast C 1 (wS t qS (pA bS 0 x2 (gA bO 0 x2)) ++ (wS t qO bO)) rfl rfl dX2_become_18 h0 (fun h0 => ?_)
    obtain ⟨b1, hb1, h0⟩ := bs_some h0
    refine A_weq (wS t qS b1 ++ (wS t qO bO)) (by rw [hb1]) ?_
    refine A_aload_n C 0 dX2_become_19 rfl rfl ?_
    refine A_get (v := .ref (qS 1)) C 0 1 inG2 (ci := 2) rfl (by decide) fl_2_15 rfl rfl rfl dX2_become_20 ?_
    refine A_iload_n C 2 dX2_become_23 rfl rfl ?_
    refine A_aload_n C 1 dX2_become_24 rfl rfl ?_
    refine A_get (v := .ref (qO 1)) C 4 1 inG2 (ci := 2) rfl (by decide) fl_2_15 rfl rfl rfl dX2_become_25 ?_
    refine A_iload_n C 2 dX2_become_28 rfl rfl ?_
    refine A_iald C 6 (gA bO 1 x2) rfl rfl dX2_become_29 h0 (fun h0 => ?_)
    refine A_iast C 2 (wS t qS (pA b1 1 x2 (gA bO 1 x2)) ++ (wS t qO bO)) rfl rfl dX2_become_30 h0 (fun h0 => ?_)
    obtain ⟨b2, hb2, h0⟩ := bs_some h0
    refine A_weq (wS t qS b2 ++ (wS t qO bO)) (by rw [hb2]) ?_
    refine A_aload_n C 0 dX2_become_31 rfl rfl ?_
    refine A_get (v := .ref (qS 2)) C 0 2 inG2 (ci := 2) rfl (by decide) fl_2_18 rfl rfl rfl dX2_become_32 ?_
    refine A_iload_n C 2 dX2_become_35 rfl rfl ?_
    refine A_aload_n C 1 dX2_become_36 rfl rfl ?_
    refine A_get (v := .ref (qO 2)) C 4 2 inG2 (ci := 2) rfl (by decide) fl_2_18 rfl rfl rfl dX2_become_37 ?_
    refine A_iload_n C 2 dX2_become_40 rfl rfl ?_
    refine A_iald C 7 (gA bO 2 x2) rfl rfl dX2_become_41 h0 (fun h0 => ?_)
    refine A_iast C 3 (wS t qS (pA b2 2 x2 (gA bO 2 x2)) ++ (wS t qO bO)) rfl rfl dX2_become_42 h0 (fun h0 => ?_)
    obtain ⟨b3, hb3, h0⟩ := bs_some h0
    refine A_weq (wS t qS b3 ++ (wS t qO bO)) (by rw [hb3]) ?_
    refine A_iinc C 2 (x2 + (1 : Int32)) [(2, .int (x2 + (1 : Int32))), (0, .ref (qS 99)), (1, .ref (qO 99))] dX2_become_43 rfl rfl (by decide) rfl ?_
    refine A_goto C 2 dX2_become_46 (by decide) ?_
    exact A_loc [1, 2, 0] rfl (K2 b3 (x2 + (1 : Int32)) h0)
def f_2_become_2 (bO : BV) : Nat → BV → Int32 → Option (BV)
  | 0 => fun _ _ => none
  | n + 1 => f_2_become_2_b bO (f_2_become_2 bO n)
theorem t_2_become_2 (C : CX p s m args meth c cX2_become 3 none RX2 D t) (qS : Nat → Nat) (qO : Nat → Nat) (bO : BV) (r : BV) : ∀ (n : Nat), ∀ (bS : BV) (x2 : Int32), f_2_become_2 bO n bS x2 = some r → At p l e (rmD 0) s m args below meth c D 3 w0 (QV below args s D w0 (fun w => (wS t qS r ++ (wS t qO bO)) = w) 0 0) 0 0 2 [(0, .ref (qS 99)), (1, .ref (qO 99)), (2, .int x2)] [] (wS t qS bS ++ (wS t qO bO)) := by
  intro n
  induction n with
  | zero =>
    intro bS x2 h0
    have h0 : none = some r := h0
    cases h0
  | succ n ih =>
    intro bS x2 h0
    exact t_2_become_2_b C qS qO bO r _ ih bS x2 h0
def f_2_become (bS : BV) (bO : BV) : Option (BV) :=
  f_2_become_2 bO 200 bS (0 : Int32)
theorem c_2_become (l : Launch) (D : va_G) (t : ty4) (qS : Nat → Nat) (qO : Nat → Nat) (bS : BV) (bO : BV) {r : BV} (h0 : f_2_become bS bO = some r) : MetV l yX2_become cX2_become 3 none (rmD 0) D t [.ref (qS 99), .ref (qO 99)] (wS t qS bS ++ (wS t qO bO)) (fun w => (wS t qS r ++ (wS t qO bO)) = w) := by
  refine MetV_of (by decide +kernel) (Nat.le_of_ble_eq_true rfl) (fun p e s m below meth c C _ => ?_)
  unfold f_2_become at h0
  generalize hargs : (List.toArray [.ref (qS 99), .ref (qO 99)] : Array Value) = args at C ⊢
  refine At.start (lv2 := [(0, .ref (qS 99)), (1, .ref (qO 99))]) rfl ?_
  refine A_iconst C (0 : Int32) dX2_become_0 (by decide) ?_
  refine A_istore_n C [(2, .int (0 : Int32)), (0, .ref (qS 99)), (1, .ref (qO 99))] dX2_become_1 rfl (by decide) rfl ?_
  exact A_loc [1, 2, 0] rfl (t_2_become_2 C qS qO bO r 200 bS (0 : Int32) h0)
def f_2_isFree_14 (bS : BV) (y0 : Int32) : Option (Int32) :=
  ck (isb y0) (some y0)
theorem t_2_isFree_14 (C : CX p s m args meth c cX2_isFree 2 (some .boolean) RX2 D t) (qS : Nat → Nat) (bS : BV) (r : Int32) (y0 : Int32) (h0 : f_2_isFree_14 bS y0 = some r) : At p l e (rmD 0) s m args below meth c D 2 w0 (QI below args s D w0 (fun x w => r = x ∧ (wS t qS bS) = w) 0 0) 0 0 14 [] [.int y0] (wS t qS bS) := by
  unfold f_2_isFree_14 at h0
  obtain ⟨hz, h0⟩ := ck_some h0
  have h0 := Option.some.inj h0
  subst h0
  exact A_zret C dX2_isFree_14 hz ⟨rfl, rfl⟩
def f_2_isFree (bS : BV) (x1 : Int32) : Option (Int32) :=
  ck (inb x1 4) (if (gA bS 0 x1) = 0 then (f_2_isFree_14 bS (1 : Int32)) else (f_2_isFree_14 bS (0 : Int32)))
theorem c_2_isFree (l : Launch) (D : va_G) (t : ty4) (qS : Nat → Nat) (bS : BV) (x1 : Int32) {r : Int32} (h0 : f_2_isFree bS x1 = some r) : MetI l yX2_isFree cX2_isFree 2 (some .boolean) (rmD 0) D t [.ref (qS 99), .int x1] (wS t qS bS) (fun x w => r = x ∧ (wS t qS bS) = w) := by
  refine MetI_of (by decide +kernel) (Nat.le_of_ble_eq_true rfl) (fun p e s m below meth c C _ => ?_)
  unfold f_2_isFree at h0
  generalize hargs : (List.toArray [.ref (qS 99), .int x1] : Array Value) = args at C ⊢
  refine At.start (lv2 := [(0, .ref (qS 99)), (1, .int x1)]) rfl ?_
  refine A_aload_n C 0 dX2_isFree_0 rfl rfl ?_
  refine A_get (v := .ref (qS 0)) C 0 0 inG2 (ci := 2) rfl (by decide) fl_2_9 rfl rfl rfl dX2_isFree_1 ?_
  refine A_iload_n C 1 dX2_isFree_4 rfl rfl ?_
  refine A_iald C 1 (gA bS 0 x1) rfl rfl dX2_isFree_5 h0 (fun h0 => ?_)
  refine A_if_ne C 13 dX2_isFree_6 (by decide) h0 (fun h0 => ?_) (fun h0 => ?_)
  · refine A_iconst C (0 : Int32) dX2_isFree_13 (by decide) ?_
    exact A_loc [] rfl (t_2_isFree_14 C qS bS r (0 : Int32) h0)
  · refine A_iconst C (1 : Int32) dX2_isFree_9 (by decide) ?_
    refine A_goto C 14 dX2_isFree_10 (by decide) ?_
    exact A_loc [] rfl (t_2_isFree_14 C qS bS r (1 : Int32) h0)
def f_2_lowestFree_2_b (bS : BV) (k2 : Int32 → Option (Int32)) (x1 : Int32) : Option (Int32) :=
  if (4 : Int32) ≤ x1 then (some (-9 : Int32)) else ((f_2_isFree bS x1).bind (fun z1 => if z1 = 0 then (k2 (x1 + (1 : Int32))) else (some x1)))
theorem t_2_lowestFree_2_b (C : CX p s m args meth c cX2_lowestFree 2 (some .int) RX2 D t) (qS : Nat → Nat) (bS : BV) (r : Int32) (k2 : Int32 → Option (Int32)) (K2 : ∀ (x1 : Int32), k2 x1 = some r → At p l e (rmD 1) s m args below meth c D 2 w0 (QI below args s D w0 (fun x w => r = x ∧ (wS t qS bS) = w) 0 0) 0 0 2 [(0, .ref (qS 99)), (1, .int x1)] [] (wS t qS bS)) (x1 : Int32) (h0 : f_2_lowestFree_2_b bS k2 x1 = some r) : At p l e (rmD 1) s m args below meth c D 2 w0 (QI below args s D w0 (fun x w => r = x ∧ (wS t qS bS) = w) 0 0) 0 0 2 [(0, .ref (qS 99)), (1, .int x1)] [] (wS t qS bS) := by
  unfold f_2_lowestFree_2_b at h0
  refine A_iload_n C 1 dX2_lowestFree_2 rfl rfl ?_
  refine A_iconst C (4 : Int32) dX2_lowestFree_3 (by decide) ?_
  refine A_icmp_ge C 23 dX2_lowestFree_4 (by decide) h0 (fun h0 => ?_) (fun h0 => ?_)
  · refine A_bipush C (-9 : Int32) dX2_lowestFree_23 (by decide) ?_
    have h0 := Option.some.inj h0
    subst h0
    exact A_iret C dX2_lowestFree_25 ⟨rfl, rfl⟩
  · refine A_aload_n C 0 dX2_lowestFree_7 rfl rfl ?_
    refine A_iload_n C 1 dX2_lowestFree_8 rfl rfl ?_
    obtain ⟨z1, hz1, h0⟩ := bind_some h0
    refine A_vI (As := [.int x1]) (rest := []) C 0 (c_2_isFree l D t qS bS x1 hz1) mw_2_isFree ml_2_35 im_2_isFree sl_2_isFree (rmok rfl rfl) (cut0 (wS t qS bS)) rfl (ci := 2) rfl rfl rfl (Nat.le_of_ble_eq_true rfl) dX2_lowestFree_9 (fun x w1 hw1 => ?_)
    obtain ⟨rfl, rfl⟩ := hw1
    refine A_perm (ws' := (wS t qS bS)) ((cut0 _).symm) ?_
    refine A_if_eq C 17 dX2_lowestFree_12 (by decide) h0 (fun h0 => ?_) (fun h0 => ?_)
    · refine A_iinc C 1 (x1 + (1 : Int32)) [(1, .int (x1 + (1 : Int32))), (0, .ref (qS 99))] dX2_lowestFree_17 rfl rfl (by decide) rfl ?_
      refine A_goto C 2 dX2_lowestFree_20 (by decide) ?_
      exact A_loc [1, 0] rfl (K2 (x1 + (1 : Int32)) h0)
    · refine A_iload_n C 1 dX2_lowestFree_15 rfl rfl ?_
      have h0 := Option.some.inj h0
      subst h0
      exact A_iret C dX2_lowestFree_16 ⟨rfl, rfl⟩
def f_2_lowestFree_2 (bS : BV) : Nat → Int32 → Option (Int32)
  | 0 => fun _ => none
  | n + 1 => f_2_lowestFree_2_b bS (f_2_lowestFree_2 bS n)
theorem t_2_lowestFree_2 (C : CX p s m args meth c cX2_lowestFree 2 (some .int) RX2 D t) (qS : Nat → Nat) (bS : BV) (r : Int32) : ∀ (n : Nat), ∀ (x1 : Int32), f_2_lowestFree_2 bS n x1 = some r → At p l e (rmD 1) s m args below meth c D 2 w0 (QI below args s D w0 (fun x w => r = x ∧ (wS t qS bS) = w) 0 0) 0 0 2 [(0, .ref (qS 99)), (1, .int x1)] [] (wS t qS bS) := by
  intro n
  induction n with
  | zero =>
    intro x1 h0
    have h0 : none = some r := h0
    cases h0
  | succ n ih =>
    intro x1 h0
    exact t_2_lowestFree_2_b C qS bS r _ ih x1 h0
def f_2_lowestFree (bS : BV) : Option (Int32) :=
  f_2_lowestFree_2 bS 200 (0 : Int32)
theorem c_2_lowestFree (l : Launch) (D : va_G) (t : ty4) (qS : Nat → Nat) (bS : BV) {r : Int32} (h0 : f_2_lowestFree bS = some r) : MetI l yX2_lowestFree cX2_lowestFree 2 (some .int) (rmD 1) D t [.ref (qS 99)] (wS t qS bS) (fun x w => r = x ∧ (wS t qS bS) = w) := by
  refine MetI_of (by decide +kernel) (Nat.le_of_ble_eq_true rfl) (fun p e s m below meth c C _ => ?_)
  unfold f_2_lowestFree at h0
  generalize hargs : (List.toArray [.ref (qS 99)] : Array Value) = args at C ⊢
  refine At.start (lv2 := [(0, .ref (qS 99))]) rfl ?_
  refine A_iconst C (0 : Int32) dX2_lowestFree_0 (by decide) ?_
  refine A_istore_n C [(1, .int (0 : Int32)), (0, .ref (qS 99))] dX2_lowestFree_1 rfl (by decide) rfl ?_
  exact A_loc [1, 0] rfl (t_2_lowestFree_2 C qS bS r 200 (0 : Int32) h0)
def f_2_pawn (bS : BV) (x1 : Int32) (x2 : Int32) (x3 : Int32) : Option (BV) :=
  ck (inb x1 4) (bs (pA bS 0 x1 x2) (fun b1 => ck (inb x1 4) (bs (pA b1 1 x1 x3) (fun b2 => ck (inb x1 4) (bs (pA b2 2 x1 (0 : Int32)) (fun b3 => some (pI b3 4 ((gI b3 4) + x3))))))))
theorem c_2_pawn (l : Launch) (D : va_G) (t : ty4) (qS : Nat → Nat) (bS : BV) (x1 : Int32) (x2 : Int32) (x3 : Int32) {r : BV} (h0 : f_2_pawn bS x1 x2 x3 = some r) : MetV l yX2_pawn cX2_pawn 4 none (rmD 0) D t [.ref (qS 99), .int x1, .int x2, .int x3] (wS t qS bS) (fun w => (wS t qS r) = w) := by
  refine MetV_of (by decide +kernel) (Nat.le_of_ble_eq_true rfl) (fun p e s m below meth c C _ => ?_)
  unfold f_2_pawn at h0
  generalize hargs : (List.toArray [.ref (qS 99), .int x1, .int x2, .int x3] : Array Value) = args at C ⊢
  refine At.start (lv2 := [(0, .ref (qS 99)), (1, .int x1), (2, .int x2), (3, .int x3)]) rfl ?_
  refine A_aload_n C 0 dX2_pawn_0 rfl rfl ?_
  refine A_get (v := .ref (qS 0)) C 0 0 inG2 (ci := 2) rfl (by decide) fl_2_9 rfl rfl rfl dX2_pawn_1 ?_
  refine A_iload_n C 1 dX2_pawn_4 rfl rfl ?_
  refine A_iload_n C 2 dX2_pawn_5 rfl rfl ?_
  refine A_iast C 1 (wS t qS (pA bS 0 x1 x2)) rfl rfl dX2_pawn_6 h0 (fun h0 => ?_)
  obtain ⟨b1, hb1, h0⟩ := bs_some h0
  refine A_weq (wS t qS b1) (by rw [hb1]) ?_
  refine A_aload_n C 0 dX2_pawn_7 rfl rfl ?_
  refine A_get (v := .ref (qS 1)) C 0 1 inG2 (ci := 2) rfl (by decide) fl_2_15 rfl rfl rfl dX2_pawn_8 ?_
  refine A_iload_n C 1 dX2_pawn_11 rfl rfl ?_
  refine A_iload_n C 3 dX2_pawn_12 rfl rfl ?_
  refine A_iast C 2 (wS t qS (pA b1 1 x1 x3)) rfl rfl dX2_pawn_13 h0 (fun h0 => ?_)
  obtain ⟨b2, hb2, h0⟩ := bs_some h0
  refine A_weq (wS t qS b2) (by rw [hb2]) ?_
  refine A_aload_n C 0 dX2_pawn_14 rfl rfl ?_
  refine A_get (v := .ref (qS 2)) C 0 2 inG2 (ci := 2) rfl (by decide) fl_2_18 rfl rfl rfl dX2_pawn_15 ?_
  refine A_iload_n C 1 dX2_pawn_18 rfl rfl ?_
  refine A_iconst C (0 : Int32) dX2_pawn_19 (by decide) ?_
  refine A_iast C 3 (wS t qS (pA b2 2 x1 (0 : Int32))) rfl rfl dX2_pawn_20 h0 (fun h0 => ?_)
  obtain ⟨b3, hb3, h0⟩ := bs_some h0
  refine A_weq (wS t qS b3) (by rw [hb3]) ?_
  refine A_aload_n C 0 dX2_pawn_21 rfl rfl ?_
  refine A_dup C dX2_pawn_22 rfl ?_
  refine A_get (v := .int (gI b3 4)) C 0 4 inG2 (ci := 2) rfl (by decide) fl_2_25 rfl rfl rfl dX2_pawn_23 ?_
  refine A_iload_n C 3 dX2_pawn_26 rfl rfl ?_
  refine A_iadd C dX2_pawn_27 ?_
  refine A_put C 0 4 (wS t qS (pI b3 4 ((gI b3 4) + x3))) tyX2 inG2 tyX2_ok nmX2 (ci := 2) rfl (by decide) fl_2_25 rfl rfl rfl rfl rfl (Nat.le_of_ble_eq_true rfl) rfl dX2_pawn_28 ?_
  have h0 := Option.some.inj h0
  subst h0
  exact A_vret C dX2_pawn_31 rfl
def f_2_setFree (bS : BV) (x1 : Int32) : Option (BV) :=
  ck (inb x1 4) (bs (pA bS 0 x1 (0 : Int32)) (fun b1 => ck (inb x1 4) (bs (pA b1 1 x1 (0 : Int32)) (fun b2 => ck (inb x1 4) (bs (pA b2 2 x1 (0 : Int32)) (fun b3 => some b3))))))
theorem c_2_setFree (l : Launch) (D : va_G) (t : ty4) (qS : Nat → Nat) (bS : BV) (x1 : Int32) {r : BV} (h0 : f_2_setFree bS x1 = some r) : MetV l yX2_setFree cX2_setFree 2 none (rmD 0) D t [.ref (qS 99), .int x1] (wS t qS bS) (fun w => (wS t qS r) = w) := by
  refine MetV_of (by decide +kernel) (Nat.le_of_ble_eq_true rfl) (fun p e s m below meth c C _ => ?_)
  unfold f_2_setFree at h0
  generalize hargs : (List.toArray [.ref (qS 99), .int x1] : Array Value) = args at C ⊢
  refine At.start (lv2 := [(0, .ref (qS 99)), (1, .int x1)]) rfl ?_
  refine A_aload_n C 0 dX2_setFree_0 rfl rfl ?_
  refine A_get (v := .ref (qS 0)) C 0 0 inG2 (ci := 2) rfl (by decide) fl_2_9 rfl rfl rfl dX2_setFree_1 ?_
  refine A_iload_n C 1 dX2_setFree_4 rfl rfl ?_
  refine A_iconst C (0 : Int32) dX2_setFree_5 (by decide) ?_
  refine A_iast C 1 (wS t qS (pA bS 0 x1 (0 : Int32))) rfl rfl dX2_setFree_6 h0 (fun h0 => ?_)
  obtain ⟨b1, hb1, h0⟩ := bs_some h0
  refine A_weq (wS t qS b1) (by rw [hb1]) ?_
  refine A_aload_n C 0 dX2_setFree_7 rfl rfl ?_
  refine A_get (v := .ref (qS 1)) C 0 1 inG2 (ci := 2) rfl (by decide) fl_2_15 rfl rfl rfl dX2_setFree_8 ?_
  refine A_iload_n C 1 dX2_setFree_11 rfl rfl ?_
  refine A_iconst C (0 : Int32) dX2_setFree_12 (by decide) ?_
  refine A_iast C 2 (wS t qS (pA b1 1 x1 (0 : Int32))) rfl rfl dX2_setFree_13 h0 (fun h0 => ?_)
  obtain ⟨b2, hb2, h0⟩ := bs_some h0
  refine A_weq (wS t qS b2) (by rw [hb2]) ?_
  refine A_aload_n C 0 dX2_setFree_14 rfl rfl ?_
  refine A_get (v := .ref (qS 2)) C 0 2 inG2 (ci := 2) rfl (by decide) fl_2_18 rfl rfl rfl dX2_setFree_15 ?_
  refine A_iload_n C 1 dX2_setFree_18 rfl rfl ?_
  refine A_iconst C (0 : Int32) dX2_setFree_19 (by decide) ?_
  refine A_iast C 3 (wS t qS (pA b2 2 x1 (0 : Int32))) rfl rfl dX2_setFree_20 h0 (fun h0 => ?_)
  obtain ⟨b3, hb3, h0⟩ := bs_some h0
  refine A_weq (wS t qS b3) (by rw [hb3]) ?_
  have h0 := Option.some.inj h0
  subst h0
  exact A_vret C dX2_setFree_21 rfl
def f_4_take (bT : BV) (x1 : Int32) : Option (Int32 × BV) :=
  if (gI bT 1) < (150 : Int32) then (ck (inb (gI bT 1) 150) (bs (pA bT 0 (gI bT 1) x1) (fun b1 => some ((1 : Int32), (pI b1 1 ((gI b1 1) + (1 : Int32))))))) else (some ((0 : Int32), bT))
theorem c_4_take (l : Launch) (D : va_G) (t : ty4) (qT : Nat → Nat) (bT : BV) (x1 : Int32) {r : Int32 × BV} (h0 : f_4_take bT x1 = some r) : MetI l yX4_take cX4_take 2 (some .boolean) (rmD 0) D t [.ref (qT 99), .int x1] (wTx t qT bT) (fun x w => r.1 = x ∧ (wTx t qT r.2) = w) := by
  refine MetI_of (by decide +kernel) (Nat.le_of_ble_eq_true rfl) (fun p e s m below meth c C _ => ?_)
  unfold f_4_take at h0
  generalize hargs : (List.toArray [.ref (qT 99), .int x1] : Array Value) = args at C ⊢
  refine At.start (lv2 := [(0, .ref (qT 99)), (1, .int x1)]) rfl ?_
  refine A_aload_n C 0 dX4_take_0 rfl rfl ?_
  refine A_get (v := .int (gI bT 1)) C 0 1 inG4 (ci := 4) rfl (by decide) fl_4_15 rfl rfl rfl dX4_take_1 ?_
  refine A_sipush C (150 : Int32) dX4_take_4 (by decide) ?_
  refine A_icmp_lt C 12 dX4_take_7 (by decide) h0 (fun h0 => ?_) (fun h0 => ?_)
  · refine A_aload_n C 0 dX4_take_12 rfl rfl ?_
    refine A_get (v := .ref (qT 0)) C 0 0 inG4 (ci := 4) rfl (by decide) fl_4_9 rfl rfl rfl dX4_take_13 ?_
    refine A_aload_n C 0 dX4_take_16 rfl rfl ?_
    refine A_get (v := .int (gI bT 1)) C 0 1 inG4 (ci := 4) rfl (by decide) fl_4_15 rfl rfl rfl dX4_take_17 ?_
    refine A_iload_n C 1 dX4_take_20 rfl rfl ?_
    refine A_iast C 1 (wTx t qT (pA bT 0 (gI bT 1) x1)) rfl rfl dX4_take_21 h0 (fun h0 => ?_)
    obtain ⟨b1, hb1, h0⟩ := bs_some h0
    refine A_weq (wTx t qT b1) (by rw [hb1]) ?_
    refine A_aload_n C 0 dX4_take_22 rfl rfl ?_
    refine A_dup C dX4_take_23 rfl ?_
    refine A_get (v := .int (gI b1 1)) C 0 1 inG4 (ci := 4) rfl (by decide) fl_4_15 rfl rfl rfl dX4_take_24 ?_
    refine A_iconst C (1 : Int32) dX4_take_27 (by decide) ?_
    refine A_iadd C dX4_take_28 ?_
    refine A_put C 0 1 (wTx t qT (pI b1 1 ((gI b1 1) + (1 : Int32)))) tyX4 inG4 tyX4_ok nmX4 (ci := 4) rfl (by decide) fl_4_15 rfl rfl rfl rfl rfl (Nat.le_of_ble_eq_true rfl) rfl dX4_take_29 ?_
    refine A_iconst C (1 : Int32) dX4_take_32 (by decide) ?_
    have h0 := Option.some.inj h0
    subst h0
    exact A_zret C dX4_take_33 rfl ⟨rfl, rfl⟩
  · refine A_iconst C (0 : Int32) dX4_take_10 (by decide) ?_
    have h0 := Option.some.inj h0
    subst h0
    exact A_zret C dX4_take_11 rfl ⟨rfl, rfl⟩
def f_4_drop (bT : BV) : Option (Int32 × BV) :=
  some ((gI bT 1), (pI bT 1 (0 : Int32)))
theorem c_4_drop (l : Launch) (D : va_G) (t : ty4) (qT : Nat → Nat) (bT : BV) {r : Int32 × BV} (h0 : f_4_drop bT = some r) : MetI l yX4_drop cX4_drop 2 (some .int) (rmD 0) D t [.ref (qT 99)] (wTx t qT bT) (fun x w => r.1 = x ∧ (wTx t qT r.2) = w) := by
  refine MetI_of (by decide +kernel) (Nat.le_of_ble_eq_true rfl) (fun p e s m below meth c C _ => ?_)
  unfold f_4_drop at h0
  generalize hargs : (List.toArray [.ref (qT 99)] : Array Value) = args at C ⊢
  refine At.start (lv2 := [(0, .ref (qT 99))]) rfl ?_
  refine A_aload_n C 0 dX4_drop_0 rfl rfl ?_
  refine A_get (v := .int (gI bT 1)) C 0 1 inG4 (ci := 4) rfl (by decide) fl_4_15 rfl rfl rfl dX4_drop_1 ?_
  refine A_istore_n C [(1, .int (gI bT 1)), (0, .ref (qT 99))] dX4_drop_4 rfl (by decide) rfl ?_
  refine A_aload_n C 1 dX4_drop_5 rfl rfl ?_
  refine A_iconst C (0 : Int32) dX4_drop_6 (by decide) ?_
  refine A_put C 0 1 (wTx t qT (pI bT 1 (0 : Int32))) tyX4 inG4 tyX4_ok nmX4 (ci := 4) rfl (by decide) fl_4_15 rfl rfl rfl rfl rfl (Nat.le_of_ble_eq_true rfl) rfl dX4_drop_7 ?_
  refine A_iload_n C 0 dX4_drop_10 rfl rfl ?_
  have h0 := Option.some.inj h0
  subst h0
  exact A_iret C dX4_drop_11 ⟨rfl, rfl⟩
def f_4_isLetter_17 (y0 : Int32) : Option (Int32) :=
  ck (isb y0) (some y0)
theorem t_4_isLetter_17 (C : CX p s m args meth c cX4_isLetter 1 (some .boolean) RX4 D t) (r : Int32) (y0 : Int32) (h0 : f_4_isLetter_17 y0 = some r) : At p l e (rmD 0) s m args below meth c D 1 w0 (QI below args s D w0 (fun x w => r = x ∧ [] = w) 0 0) 0 0 17 [] [.int y0] [] := by
  unfold f_4_isLetter_17 at h0
  obtain ⟨hz, h0⟩ := ck_some h0
  have h0 := Option.some.inj h0
  subst h0
  exact A_zret C dX4_isLetter_17 hz ⟨rfl, rfl⟩
def f_4_isLetter_16 : Option (Int32) :=
  f_4_isLetter_17 (0 : Int32)
theorem t_4_isLetter_16 (C : CX p s m args meth c cX4_isLetter 1 (some .boolean) RX4 D t) (r : Int32) (h0 : f_4_isLetter_16 = some r) : At p l e (rmD 0) s m args below meth c D 1 w0 (QI below args s D w0 (fun x w => r = x ∧ [] = w) 0 0) 0 0 16 [] [] [] := by
  unfold f_4_isLetter_16 at h0
  refine A_iconst C (0 : Int32) dX4_isLetter_16 (by decide) ?_
  exact A_loc [] rfl (t_4_isLetter_17 C r (0 : Int32) h0)
def f_4_isLetter (x0 : Int32) : Option (Int32) :=
  if x0 < (97 : Int32) then (f_4_isLetter_16) else (if (122 : Int32) < x0 then (f_4_isLetter_16) else (f_4_isLetter_17 (1 : Int32)))
theorem c_4_isLetter (l : Launch) (D : va_G) (t : ty4) (x0 : Int32) {r : Int32} (h0 : f_4_isLetter x0 = some r) : MetI l yX4_isLetter cX4_isLetter 1 (some .boolean) (rmD 0) D t [.int x0] [] (fun x w => r = x ∧ [] = w) := by
  refine MetI_of (by decide +kernel) (Nat.le_of_ble_eq_true rfl) (fun p e s m below meth c C _ => ?_)
  unfold f_4_isLetter at h0
  generalize hargs : (List.toArray [.int x0] : Array Value) = args at C ⊢
  refine At.start (lv2 := [(0, .int x0)]) rfl ?_
  refine A_iload_n C 0 dX4_isLetter_0 rfl rfl ?_
  refine A_bipush C (97 : Int32) dX4_isLetter_1 (by decide) ?_
  refine A_icmp_lt C 16 dX4_isLetter_3 (by decide) h0 (fun h0 => ?_) (fun h0 => ?_)
  · exact A_loc [] rfl (t_4_isLetter_16 C r h0)
  · refine A_iload_n C 0 dX4_isLetter_6 rfl rfl ?_
    refine A_bipush C (122 : Int32) dX4_isLetter_7 (by decide) ?_
    refine A_icmp_gt C 16 dX4_isLetter_9 (by decide) h0 (fun h0 => ?_) (fun h0 => ?_)
    · exact A_loc [] rfl (t_4_isLetter_16 C r h0)
    · refine A_iconst C (1 : Int32) dX4_isLetter_12 (by decide) ?_
      refine A_goto C 17 dX4_isLetter_13 (by decide) ?_
      exact A_loc [] rfl (t_4_isLetter_17 C r (1 : Int32) h0)
def f_4_isDigit_17 (y0 : Int32) : Option (Int32) :=
  ck (isb y0) (some y0)
theorem t_4_isDigit_17 (C : CX p s m args meth c cX4_isDigit 1 (some .boolean) RX4 D t) (r : Int32) (y0 : Int32) (h0 : f_4_isDigit_17 y0 = some r) : At p l e (rmD 0) s m args below meth c D 1 w0 (QI below args s D w0 (fun x w => r = x ∧ [] = w) 0 0) 0 0 17 [] [.int y0] [] := by
  unfold f_4_isDigit_17 at h0
  obtain ⟨hz, h0⟩ := ck_some h0
  have h0 := Option.some.inj h0
  subst h0
  exact A_zret C dX4_isDigit_17 hz ⟨rfl, rfl⟩
def f_4_isDigit_16 : Option (Int32) :=
  f_4_isDigit_17 (0 : Int32)
theorem t_4_isDigit_16 (C : CX p s m args meth c cX4_isDigit 1 (some .boolean) RX4 D t) (r : Int32) (h0 : f_4_isDigit_16 = some r) : At p l e (rmD 0) s m args below meth c D 1 w0 (QI below args s D w0 (fun x w => r = x ∧ [] = w) 0 0) 0 0 16 [] [] [] := by
  unfold f_4_isDigit_16 at h0
  refine A_iconst C (0 : Int32) dX4_isDigit_16 (by decide) ?_
  exact A_loc [] rfl (t_4_isDigit_17 C r (0 : Int32) h0)
def f_4_isDigit (x0 : Int32) : Option (Int32) :=
  if x0 < (48 : Int32) then (f_4_isDigit_16) else (if (57 : Int32) < x0 then (f_4_isDigit_16) else (f_4_isDigit_17 (1 : Int32)))
theorem c_4_isDigit (l : Launch) (D : va_G) (t : ty4) (x0 : Int32) {r : Int32} (h0 : f_4_isDigit x0 = some r) : MetI l yX4_isDigit cX4_isDigit 1 (some .boolean) (rmD 0) D t [.int x0] [] (fun x w => r = x ∧ [] = w) := by
  refine MetI_of (by decide +kernel) (Nat.le_of_ble_eq_true rfl) (fun p e s m below meth c C _ => ?_)
  unfold f_4_isDigit at h0
  generalize hargs : (List.toArray [.int x0] : Array Value) = args at C ⊢
  refine At.start (lv2 := [(0, .int x0)]) rfl ?_
  refine A_iload_n C 0 dX4_isDigit_0 rfl rfl ?_
  refine A_bipush C (48 : Int32) dX4_isDigit_1 (by decide) ?_
  refine A_icmp_lt C 16 dX4_isDigit_3 (by decide) h0 (fun h0 => ?_) (fun h0 => ?_)
  · exact A_loc [] rfl (t_4_isDigit_16 C r h0)
  · refine A_iload_n C 0 dX4_isDigit_6 rfl rfl ?_
    refine A_bipush C (57 : Int32) dX4_isDigit_7 (by decide) ?_
    refine A_icmp_gt C 16 dX4_isDigit_9 (by decide) h0 (fun h0 => ?_) (fun h0 => ?_)
    · exact A_loc [] rfl (t_4_isDigit_16 C r h0)
    · refine A_iconst C (1 : Int32) dX4_isDigit_12 (by decide) ?_
      refine A_goto C 17 dX4_isDigit_13 (by decide) ?_
      exact A_loc [] rfl (t_4_isDigit_17 C r (1 : Int32) h0)
def f_5_isWithin_15 (y0 : Int32) : Option (Int32) :=
  ck (isb y0) (some y0)
theorem t_5_isWithin_15 (C : CX p s m args meth c cX5_isWithin 3 (some .boolean) RX5 D t) (r : Int32) (y0 : Int32) (h0 : f_5_isWithin_15 y0 = some r) : At p l e (rmD 0) s m args below meth c D 3 w0 (QI below args s D w0 (fun x w => r = x ∧ [] = w) 0 0) 0 0 15 [] [.int y0] [] := by
  unfold f_5_isWithin_15 at h0
  obtain ⟨hz, h0⟩ := ck_some h0
  have h0 := Option.some.inj h0
  subst h0
  exact A_zret C dX5_isWithin_15 hz ⟨rfl, rfl⟩
def f_5_isWithin_14 : Option (Int32) :=
  f_5_isWithin_15 (0 : Int32)
theorem t_5_isWithin_14 (C : CX p s m args meth c cX5_isWithin 3 (some .boolean) RX5 D t) (r : Int32) (h0 : f_5_isWithin_14 = some r) : At p l e (rmD 0) s m args below meth c D 3 w0 (QI below args s D w0 (fun x w => r = x ∧ [] = w) 0 0) 0 0 14 [] [] [] := by
  unfold f_5_isWithin_14 at h0
  refine A_iconst C (0 : Int32) dX5_isWithin_14 (by decide) ?_
  exact A_loc [] rfl (t_5_isWithin_15 C r (0 : Int32) h0)
def f_5_isWithin (x0 : Int32) (x1 : Int32) (x2 : Int32) : Option (Int32) :=
  if x0 < x1 then (f_5_isWithin_14) else (if x2 < x0 then (f_5_isWithin_14) else (f_5_isWithin_15 (1 : Int32)))
theorem c_5_isWithin (l : Launch) (D : va_G) (t : ty4) (x0 : Int32) (x1 : Int32) (x2 : Int32) {r : Int32} (h0 : f_5_isWithin x0 x1 x2 = some r) : MetI l yX5_isWithin cX5_isWithin 3 (some .boolean) (rmD 0) D t [.int x0, .int x1, .int x2] [] (fun x w => r = x ∧ [] = w) := by
  refine MetI_of (by decide +kernel) (Nat.le_of_ble_eq_true rfl) (fun p e s m below meth c C _ => ?_)
  unfold f_5_isWithin at h0
  generalize hargs : (List.toArray [.int x0, .int x1, .int x2] : Array Value) = args at C ⊢
  refine At.start (lv2 := [(0, .int x0), (1, .int x1), (2, .int x2)]) rfl ?_
  refine A_iload_n C 0 dX5_isWithin_0 rfl rfl ?_
  refine A_iload_n C 1 dX5_isWithin_1 rfl rfl ?_
  refine A_icmp_lt C 14 dX5_isWithin_2 (by decide) h0 (fun h0 => ?_) (fun h0 => ?_)
  · exact A_loc [] rfl (t_5_isWithin_14 C r h0)
  · refine A_iload_n C 0 dX5_isWithin_5 rfl rfl ?_
    refine A_iload_n C 2 dX5_isWithin_6 rfl rfl ?_
    refine A_icmp_gt C 14 dX5_isWithin_7 (by decide) h0 (fun h0 => ?_) (fun h0 => ?_)
    · exact A_loc [] rfl (t_5_isWithin_14 C r h0)
    · refine A_iconst C (1 : Int32) dX5_isWithin_10 (by decide) ?_
      refine A_goto C 15 dX5_isWithin_11 (by decide) ?_
      exact A_loc [] rfl (t_5_isWithin_15 C r (1 : Int32) h0)
def f_5_isLoan (x0 : Int32) : Option (Int32) :=
  (f_5_isWithin x0 (0 : Int32) (3 : Int32)).bind (fun z1 => ck (isb z1) (some z1))
theorem c_5_isLoan (l : Launch) (D : va_G) (t : ty4) (x0 : Int32) {r : Int32} (h0 : f_5_isLoan x0 = some r) : MetI l yX5_isLoan cX5_isLoan 1 (some .boolean) (rmD 1) D t [.int x0] [] (fun x w => r = x ∧ [] = w) := by
  refine MetI_of (by decide +kernel) (Nat.le_of_ble_eq_true rfl) (fun p e s m below meth c C _ => ?_)
  unfold f_5_isLoan at h0
  generalize hargs : (List.toArray [.int x0] : Array Value) = args at C ⊢
  refine At.start (lv2 := [(0, .int x0)]) rfl ?_
  refine A_iload_n C 0 dX5_isLoan_0 rfl rfl ?_
  refine A_iconst C (0 : Int32) dX5_isLoan_1 (by decide) ?_
  refine A_iconst C (3 : Int32) dX5_isLoan_2 (by decide) ?_
  obtain ⟨z1, hz1, h0⟩ := bind_some h0
  refine A_sI (As := [.int x0, .int (0 : Int32), .int (3 : Int32)]) (rest := []) C (c_5_isWithin l D t x0 (0 : Int32) (3 : Int32) hz1) mw_5_isWithin ml_5_60 st_5_isWithin (rmok rfl rfl) (cutN []) rfl rfl (Nat.le_of_ble_eq_true rfl) dX5_isLoan_3 (fun x w1 hw1 => ?_)
  obtain ⟨rfl, rfl⟩ := hw1
  refine A_perm (ws' := []) ((cutN _).symm) ?_
  obtain ⟨hz, h0⟩ := ck_some h0
  have h0 := Option.some.inj h0
  subst h0
  exact A_zret C dX5_isLoan_6 hz ⟨rfl, rfl⟩
def f_5_has_13 (y0 : Int32) : Option (Int32) :=
  ck (isb y0) (some y0)
theorem t_5_has_13 (C : CX p s m args meth c cX5_has 2 (some .boolean) RX5 D t) (r : Int32) (y0 : Int32) (h0 : f_5_has_13 y0 = some r) : At p l e (rmD 0) s m args below meth c D 2 w0 (QI below args s D w0 (fun x w => r = x ∧ [] = w) 0 0) 0 0 13 [] [.int y0] [] := by
  unfold f_5_has_13 at h0
  obtain ⟨hz, h0⟩ := ck_some h0
  have h0 := Option.some.inj h0
  subst h0
  exact A_zret C dX5_has_13 hz ⟨rfl, rfl⟩
def f_5_has (x0 : Int32) (x1 : Int32) : Option (Int32) :=
  if ((x0 >>> (x1 &&& 31)) &&& (1 : Int32)) = 0 then (f_5_has_13 (0 : Int32)) else (f_5_has_13 (1 : Int32))
theorem c_5_has (l : Launch) (D : va_G) (t : ty4) (x0 : Int32) (x1 : Int32) {r : Int32} (h0 : f_5_has x0 x1 = some r) : MetI l yX5_has cX5_has 2 (some .boolean) (rmD 0) D t [.int x0, .int x1] [] (fun x w => r = x ∧ [] = w) := by
  refine MetI_of (by decide +kernel) (Nat.le_of_ble_eq_true rfl) (fun p e s m below meth c C _ => ?_)
  unfold f_5_has at h0
  generalize hargs : (List.toArray [.int x0, .int x1] : Array Value) = args at C ⊢
  refine At.start (lv2 := [(0, .int x0), (1, .int x1)]) rfl ?_
  refine A_iload_n C 0 dX5_has_0 rfl rfl ?_
  refine A_iload_n C 1 dX5_has_1 rfl rfl ?_
  refine A_ishr C dX5_has_2 ?_
  refine A_iconst C (1 : Int32) dX5_has_3 (by decide) ?_
  refine A_iand C dX5_has_4 ?_
  refine A_if_eq C 12 dX5_has_5 (by decide) h0 (fun h0 => ?_) (fun h0 => ?_)
  · refine A_iconst C (0 : Int32) dX5_has_12 (by decide) ?_
    exact A_loc [] rfl (t_5_has_13 C r (0 : Int32) h0)
  · refine A_iconst C (1 : Int32) dX5_has_8 (by decide) ?_
    refine A_goto C 13 dX5_has_9 (by decide) ?_
    exact A_loc [] rfl (t_5_has_13 C r (1 : Int32) h0)
def f_5_rowBits (x0 : Int32) (x1 : Int32) : Option (Int32) :=
  some ((((1 : Int32) <<< (x1 &&& 31)) - (1 : Int32)) <<< (x0 &&& 31))
theorem c_5_rowBits (l : Launch) (D : va_G) (t : ty4) (x0 : Int32) (x1 : Int32) {r : Int32} (h0 : f_5_rowBits x0 x1 = some r) : MetI l yX5_rowBits cX5_rowBits 2 (some .int) (rmD 0) D t [.int x0, .int x1] [] (fun x w => r = x ∧ [] = w) := by
  refine MetI_of (by decide +kernel) (Nat.le_of_ble_eq_true rfl) (fun p e s m below meth c C _ => ?_)
  unfold f_5_rowBits at h0
  generalize hargs : (List.toArray [.int x0, .int x1] : Array Value) = args at C ⊢
  refine At.start (lv2 := [(0, .int x0), (1, .int x1)]) rfl ?_
  refine A_iconst C (1 : Int32) dX5_rowBits_0 (by decide) ?_
  refine A_iload_n C 1 dX5_rowBits_1 rfl rfl ?_
  refine A_ishl C dX5_rowBits_2 ?_
  refine A_iconst C (1 : Int32) dX5_rowBits_3 (by decide) ?_
  refine A_isub C dX5_rowBits_4 ?_
  refine A_iload_n C 0 dX5_rowBits_5 rfl rfl ?_
  refine A_ishl C dX5_rowBits_6 ?_
  have h0 := Option.some.inj h0
  subst h0
  exact A_iret C dX5_rowBits_7 ⟨rfl, rfl⟩
def f_5_chancesOf_40 (k5 : Int32 → Int32 → Int32 → Int32 → Int32 → Option (Int32)) (x0 : Int32) (x1 : Int32) (x2 : Int32) (x3 : Int32) (x4 : Int32) : Option (Int32) :=
  k5 x0 x1 x2 x3 (x4 + (1 : Int32))
theorem t_5_chancesOf_40 (C : CX p s m args meth c cX5_chancesOf 5 (some .int) RX5 D t) (r : Int32) (k5 : Int32 → Int32 → Int32 → Int32 → Int32 → Option (Int32)) (K5 : ∀ (x0 : Int32) (x1 : Int32) (x2 : Int32) (x3 : Int32) (x4 : Int32), k5 x0 x1 x2 x3 x4 = some r → At p l e (rmD 1) s m args below meth c D 5 w0 (QI below args s D w0 (fun x w => r = x ∧ [] = w) 0 0) 0 0 5 [(0, .int x0), (1, .int x1), (2, .int x2), (3, .int x3), (4, .int x4)] [] []) (x0 : Int32) (x1 : Int32) (x2 : Int32) (x3 : Int32) (x4 : Int32) (h0 : f_5_chancesOf_40 k5 x0 x1 x2 x3 x4 = some r) : At p l e (rmD 1) s m args below meth c D 5 w0 (QI below args s D w0 (fun x w => r = x ∧ [] = w) 0 0) 0 0 40 [(0, .int x0), (1, .int x1), (2, .int x2), (3, .int x3), (4, .int x4)] [] [] := by
  unfold f_5_chancesOf_40 at h0
  refine A_iinc C 4 (x4 + (1 : Int32)) [(4, .int (x4 + (1 : Int32))), (0, .int x0), (1, .int x1), (2, .int x2), (3, .int x3)] dX5_chancesOf_40 rfl rfl (by decide) rfl ?_
  refine A_goto C 5 dX5_chancesOf_43 (by decide) ?_
  exact A_loc [1, 2, 3, 4, 0] rfl (K5 x0 x1 x2 x3 (x4 + (1 : Int32)) h0)
def f_5_chancesOf_38 (k5 : Int32 → Int32 → Int32 → Int32 → Int32 → Option (Int32)) (x0 : Int32) (x1 : Int32) (x2 : Int32) (x4 : Int32) (y0 : Int32) (y1 : Int32) : Option (Int32) :=
  f_5_chancesOf_40 k5 x0 x1 x2 (y1 * y0) x4
theorem t_5_chancesOf_38 (C : CX p s m args meth c cX5_chancesOf 5 (some .int) RX5 D t) (r : Int32) (k5 : Int32 → Int32 → Int32 → Int32 → Int32 → Option (Int32)) (K5 : ∀ (x0 : Int32) (x1 : Int32) (x2 : Int32) (x3 : Int32) (x4 : Int32), k5 x0 x1 x2 x3 x4 = some r → At p l e (rmD 1) s m args below meth c D 5 w0 (QI below args s D w0 (fun x w => r = x ∧ [] = w) 0 0) 0 0 5 [(0, .int x0), (1, .int x1), (2, .int x2), (3, .int x3), (4, .int x4)] [] []) (x0 : Int32) (x1 : Int32) (x2 : Int32) (x4 : Int32) (y0 : Int32) (y1 : Int32) (h0 : f_5_chancesOf_38 k5 x0 x1 x2 x4 y0 y1 = some r) : At p l e (rmD 1) s m args below meth c D 5 w0 (QI below args s D w0 (fun x w => r = x ∧ [] = w) 0 0) 0 0 38 [(0, .int x0), (1, .int x1), (2, .int x2), (4, .int x4)] [.int y0, .int y1] [] := by
  unfold f_5_chancesOf_38 at h0
  refine A_imul C dX5_chancesOf_38 ?_
  refine A_istore_n C [(3, .int (y1 * y0)), (0, .int x0), (1, .int x1), (2, .int x2), (4, .int x4)] dX5_chancesOf_39 rfl (by decide) rfl ?_
  exact A_loc [1, 2, 3, 0, 4] rfl (t_5_chancesOf_40 C r k5 K5 x0 x1 x2 (y1 * y0) x4 h0)
def f_5_chancesOf_5_b (k5 : Int32 → Int32 → Int32 → Int32 → Int32 → Option (Int32)) (x0 : Int32) (x1 : Int32) (x2 : Int32) (x3 : Int32) (x4 : Int32) : Option (Int32) :=
  if (4 : Int32) ≤ x4 then (some x3) else ((f_5_has x1 x4).bind (fun z1 => if z1 = 0 then (f_5_chancesOf_40 k5 x0 x1 x2 x3 x4) else ((f_5_has x0 x4).bind (fun z2 => if z2 = 0 then (f_5_chancesOf_38 k5 x0 x1 x2 x4 x2 x3) else (f_5_chancesOf_38 k5 x0 x1 x2 x4 ((10 : Int32) - x2) x3)))))
theorem t_5_chancesOf_5_b (C : CX p s m args meth c cX5_chancesOf 5 (some .int) RX5 D t) (r : Int32) (k5 : Int32 → Int32 → Int32 → Int32 → Int32 → Option (Int32)) (K5 : ∀ (x0 : Int32) (x1 : Int32) (x2 : Int32) (x3 : Int32) (x4 : Int32), k5 x0 x1 x2 x3 x4 = some r → At p l e (rmD 1) s m args below meth c D 5 w0 (QI below args s D w0 (fun x w => r = x ∧ [] = w) 0 0) 0 0 5 [(0, .int x0), (1, .int x1), (2, .int x2), (3, .int x3), (4, .int x4)] [] []) (x0 : Int32) (x1 : Int32) (x2 : Int32) (x3 : Int32) (x4 : Int32) (h0 : f_5_chancesOf_5_b k5 x0 x1 x2 x3 x4 = some r) : At p l e (rmD 1) s m args below meth c D 5 w0 (QI below args s D w0 (fun x w => r = x ∧ [] = w) 0 0) 0 0 5 [(0, .int x0), (1, .int x1), (2, .int x2), (3, .int x3), (4, .int x4)] [] [] := by
  unfold f_5_chancesOf_5_b at h0
  refine A_iload C 4 dX5_chancesOf_5 rfl ?_
  refine A_iconst C (4 : Int32) dX5_chancesOf_7 (by decide) ?_
  refine A_icmp_ge C 46 dX5_chancesOf_8 (by decide) h0 (fun h0 => ?_) (fun h0 => ?_)
  · refine A_iload_n C 3 dX5_chancesOf_46 rfl rfl ?_
    have h0 := Option.some.inj h0
    subst h0
    exact A_iret C dX5_chancesOf_47 ⟨rfl, rfl⟩
  · refine A_iload_n C 1 dX5_chancesOf_11 rfl rfl ?_
    refine A_iload C 4 dX5_chancesOf_12 rfl ?_
    obtain ⟨z1, hz1, h0⟩ := bind_some h0
    refine A_sI (As := [.int x1, .int x4]) (rest := []) C (c_5_has l D t x1 x4 hz1) mw_5_has ml_5_277 st_5_has (rmok rfl rfl) (cutN []) rfl rfl (Nat.le_of_ble_eq_true rfl) dX5_chancesOf_14 (fun x w1 hw1 => ?_)
    obtain ⟨rfl, rfl⟩ := hw1
    refine A_perm (ws' := []) ((cutN _).symm) ?_
    refine A_if_eq C 40 dX5_chancesOf_17 (by decide) h0 (fun h0 => ?_) (fun h0 => ?_)
    · exact A_loc [0, 1, 2, 3, 4] rfl (t_5_chancesOf_40 C r k5 K5 x0 x1 x2 x3 x4 h0)
    · refine A_iload_n C 3 dX5_chancesOf_20 rfl rfl ?_
      refine A_iload_n C 0 dX5_chancesOf_21 rfl rfl ?_
      refine A_iload C 4 dX5_chancesOf_22 rfl ?_
      obtain ⟨z2, hz2, h0⟩ := bind_some h0
      refine A_sI (As := [.int x0, .int x4]) (rest := [.int x3]) C (c_5_has l D t x0 x4 hz2) mw_5_has ml_5_277 st_5_has (rmok rfl rfl) (cutN []) rfl rfl (Nat.le_of_ble_eq_true rfl) dX5_chancesOf_24 (fun x w1 hw1 => ?_)
      obtain ⟨rfl, rfl⟩ := hw1
      refine A_perm (ws' := []) ((cutN _).symm) ?_
      refine A_if_eq C 37 dX5_chancesOf_27 (by decide) h0 (fun h0 => ?_) (fun h0 => ?_)
      · refine A_iload_n C 2 dX5_chancesOf_37 rfl rfl ?_
        exact A_loc [0, 1, 2, 4] rfl (t_5_chancesOf_38 C r k5 K5 x0 x1 x2 x4 x2 x3 h0)
      · refine A_bipush C (10 : Int32) dX5_chancesOf_30 (by decide) ?_
        refine A_iload_n C 2 dX5_chancesOf_32 rfl rfl ?_
        refine A_isub C dX5_chancesOf_33 ?_
        refine A_goto C 38 dX5_chancesOf_34 (by decide) ?_
        exact A_loc [0, 1, 2, 4] rfl (t_5_chancesOf_38 C r k5 K5 x0 x1 x2 x4 ((10 : Int32) - x2) x3 h0)
def f_5_chancesOf_5 : Nat → Int32 → Int32 → Int32 → Int32 → Int32 → Option (Int32)
  | 0 => fun _ _ _ _ _ => none
  | n + 1 => f_5_chancesOf_5_b (f_5_chancesOf_5 n)
theorem t_5_chancesOf_5 (C : CX p s m args meth c cX5_chancesOf 5 (some .int) RX5 D t) (r : Int32) : ∀ (n : Nat), ∀ (x0 : Int32) (x1 : Int32) (x2 : Int32) (x3 : Int32) (x4 : Int32), f_5_chancesOf_5 n x0 x1 x2 x3 x4 = some r → At p l e (rmD 1) s m args below meth c D 5 w0 (QI below args s D w0 (fun x w => r = x ∧ [] = w) 0 0) 0 0 5 [(0, .int x0), (1, .int x1), (2, .int x2), (3, .int x3), (4, .int x4)] [] [] := by
  intro n
  induction n with
  | zero =>
    intro x0 x1 x2 x3 x4 h0
    have h0 : none = some r := h0
    cases h0
  | succ n ih =>
    intro x0 x1 x2 x3 x4 h0
    exact t_5_chancesOf_5_b C r _ ih x0 x1 x2 x3 x4 h0
def f_5_chancesOf (x0 : Int32) (x1 : Int32) (x2 : Int32) : Option (Int32) :=
  f_5_chancesOf_5 200 x0 x1 x2 (1 : Int32) (0 : Int32)
theorem c_5_chancesOf (l : Launch) (D : va_G) (t : ty4) (x0 : Int32) (x1 : Int32) (x2 : Int32) {r : Int32} (h0 : f_5_chancesOf x0 x1 x2 = some r) : MetI l yX5_chancesOf cX5_chancesOf 5 (some .int) (rmD 1) D t [.int x0, .int x1, .int x2] [] (fun x w => r = x ∧ [] = w) := by
  refine MetI_of (by decide +kernel) (Nat.le_of_ble_eq_true rfl) (fun p e s m below meth c C _ => ?_)
  unfold f_5_chancesOf at h0
  generalize hargs : (List.toArray [.int x0, .int x1, .int x2] : Array Value) = args at C ⊢
  refine At.start (lv2 := [(0, .int x0), (1, .int x1), (2, .int x2)]) rfl ?_
  refine A_iconst C (1 : Int32) dX5_chancesOf_0 (by decide) ?_
  refine A_istore_n C [(3, .int (1 : Int32)), (0, .int x0), (1, .int x1), (2, .int x2)] dX5_chancesOf_1 rfl (by decide) rfl ?_
  refine A_iconst C (0 : Int32) dX5_chancesOf_2 (by decide) ?_
  refine A_istore C [(4, .int (0 : Int32)), (3, .int (1 : Int32)), (0, .int x0), (1, .int x1), (2, .int x2)] dX5_chancesOf_3 (by decide) rfl ?_
  exact A_loc [2, 3, 4, 1, 0] rfl (t_5_chancesOf_5 C r 200 x0 x1 x2 (1 : Int32) (0 : Int32) h0)
def f_5_greatestDivisor_34 (x2 : Int32) : Option (Int32) :=
  some x2
theorem t_5_greatestDivisor_34 (C : CX p s m args meth c cX5_greatestDivisor 6 (some .int) RX5 D t) (r : Int32) (x2 : Int32) (h0 : f_5_greatestDivisor_34 x2 = some r) : At p l e (rmD 0) s m args below meth c D 6 w0 (QI below args s D w0 (fun x w => r = x ∧ [] = w) 0 0) 0 0 34 [(2, .int x2)] [] [] := by
  unfold f_5_greatestDivisor_34 at h0
  refine A_iload_n C 0 dX5_greatestDivisor_34 rfl rfl ?_
  have h0 := Option.some.inj h0
  subst h0
  exact A_iret C dX5_greatestDivisor_35 ⟨rfl, rfl⟩
def f_5_greatestDivisor_7_b (k7 : Int32 → Int32 → Int32 → Option (Int32)) (x2 : Int32) (x3 : Int32) (x4 : Int32) : Option (Int32) :=
  if (64 : Int32) ≤ x4 then (f_5_greatestDivisor_34 x2) else (if x3 = 0 then (f_5_greatestDivisor_34 x2) else (ck (nz x3) (k7 x3 (x2 - x2 / x3 * x3) (x4 + (1 : Int32)))))
theorem t_5_greatestDivisor_7_b (C : CX p s m args meth c cX5_greatestDivisor 6 (some .int) RX5 D t) (r : Int32) (k7 : Int32 → Int32 → Int32 → Option (Int32)) (K7 : ∀ (x2 : Int32) (x3 : Int32) (x4 : Int32), k7 x2 x3 x4 = some r → At p l e (rmD 0) s m args below meth c D 6 w0 (QI below args s D w0 (fun x w => r = x ∧ [] = w) 0 0) 0 0 7 [(2, .int x2), (3, .int x3), (4, .int x4)] [] []) (x2 : Int32) (x3 : Int32) (x4 : Int32) (h0 : f_5_greatestDivisor_7_b k7 x2 x3 x4 = some r) : At p l e (rmD 0) s m args below meth c D 6 w0 (QI below args s D w0 (fun x w => r = x ∧ [] = w) 0 0) 0 0 7 [(2, .int x2), (3, .int x3), (4, .int x4)] [] [] := by
  unfold f_5_greatestDivisor_7_b at h0
  refine A_iload C 2 dX5_greatestDivisor_7 rfl ?_
  refine A_bipush C (64 : Int32) dX5_greatestDivisor_9 (by decide) ?_
  refine A_icmp_ge C 34 dX5_greatestDivisor_11 (by decide) h0 (fun h0 => ?_) (fun h0 => ?_)
  · exact A_loc [0] rfl (t_5_greatestDivisor_34 C r x2 h0)
  · refine A_iload_n C 1 dX5_greatestDivisor_14 rfl rfl ?_
    refine A_if_eq C 34 dX5_greatestDivisor_15 (by decide) h0 (fun h0 => ?_) (fun h0 => ?_)
    · exact A_loc [0] rfl (t_5_greatestDivisor_34 C r x2 h0)
    · refine A_iload_n C 0 dX5_greatestDivisor_18 rfl rfl ?_
      refine A_iload_n C 1 dX5_greatestDivisor_19 rfl rfl ?_
      refine A_irem C dX5_greatestDivisor_20 h0 (fun h0 => ?_)
      refine A_istore C [(5, .int (x2 - x2 / x3 * x3)), (2, .int x2), (3, .int x3), (4, .int x4)] dX5_greatestDivisor_21 (by decide) rfl ?_
      refine A_iload_n C 2 dX5_greatestDivisor_23 rfl rfl ?_
      refine A_istore_n C [(2, .int x3), (5, .int (x2 - x2 / x3 * x3)), (3, .int x3), (4, .int x4)] dX5_greatestDivisor_24 rfl (by decide) rfl ?_
      refine A_iload C 1 dX5_greatestDivisor_25 rfl ?_
      refine A_istore_n C [(3, .int (x2 - x2 / x3 * x3)), (2, .int x3), (5, .int (x2 - x2 / x3 * x3)), (4, .int x4)] dX5_greatestDivisor_27 rfl (by decide) rfl ?_
      refine A_iinc C 3 (x4 + (1 : Int32)) [(4, .int (x4 + (1 : Int32))), (3, .int (x2 - x2 / x3 * x3)), (2, .int x3), (5, .int (x2 - x2 / x3 * x3))] dX5_greatestDivisor_28 rfl rfl (by decide) rfl ?_
      refine A_goto C 7 dX5_greatestDivisor_31 (by decide) ?_
      exact A_loc [2, 1, 0] rfl (K7 x3 (x2 - x2 / x3 * x3) (x4 + (1 : Int32)) h0)
def f_5_greatestDivisor_7 : Nat → Int32 → Int32 → Int32 → Option (Int32)
  | 0 => fun _ _ _ => none
  | n + 1 => f_5_greatestDivisor_7_b (f_5_greatestDivisor_7 n)
theorem t_5_greatestDivisor_7 (C : CX p s m args meth c cX5_greatestDivisor 6 (some .int) RX5 D t) (r : Int32) : ∀ (n : Nat), ∀ (x2 : Int32) (x3 : Int32) (x4 : Int32), f_5_greatestDivisor_7 n x2 x3 x4 = some r → At p l e (rmD 0) s m args below meth c D 6 w0 (QI below args s D w0 (fun x w => r = x ∧ [] = w) 0 0) 0 0 7 [(2, .int x2), (3, .int x3), (4, .int x4)] [] [] := by
  intro n
  induction n with
  | zero =>
    intro x2 x3 x4 h0
    have h0 : none = some r := h0
    cases h0
  | succ n ih =>
    intro x2 x3 x4 h0
    exact t_5_greatestDivisor_7_b C r _ ih x2 x3 x4 h0
def f_5_greatestDivisor (x0 : Int32) (x1 : Int32) : Option (Int32) :=
  f_5_greatestDivisor_7 200 x0 x1 (0 : Int32)
theorem c_5_greatestDivisor (l : Launch) (D : va_G) (t : ty4) (x0 : Int32) (x1 : Int32) {r : Int32} (h0 : f_5_greatestDivisor x0 x1 = some r) : MetI l yX5_greatestDivisor cX5_greatestDivisor 6 (some .int) (rmD 0) D t [.int x0, .int x1] [] (fun x w => r = x ∧ [] = w) := by
  refine MetI_of (by decide +kernel) (Nat.le_of_ble_eq_true rfl) (fun p e s m below meth c C _ => ?_)
  unfold f_5_greatestDivisor at h0
  generalize hargs : (List.toArray [.int x0, .int x1] : Array Value) = args at C ⊢
  refine At.start (lv2 := [(0, .int x0), (1, .int x1)]) rfl ?_
  refine A_iload_n C 0 dX5_greatestDivisor_0 rfl rfl ?_
  refine A_istore_n C [(2, .int x0), (0, .int x0), (1, .int x1)] dX5_greatestDivisor_1 rfl (by decide) rfl ?_
  refine A_iload_n C 2 dX5_greatestDivisor_2 rfl rfl ?_
  refine A_istore_n C [(3, .int x1), (2, .int x0), (0, .int x0), (1, .int x1)] dX5_greatestDivisor_3 rfl (by decide) rfl ?_
  refine A_iconst C (0 : Int32) dX5_greatestDivisor_4 (by decide) ?_
  refine A_istore C [(4, .int (0 : Int32)), (3, .int x1), (2, .int x0), (0, .int x0), (1, .int x1)] dX5_greatestDivisor_5 (by decide) rfl ?_
  exact A_loc [2, 1, 0] rfl (t_5_greatestDivisor_7 C r 200 x0 x1 (0 : Int32) h0)
def f_0_allDays (bL : BV) : Option (Int32) :=
  (f_5_rowBits (0 : Int32) (gI bL 1)).bind (fun z1 => some z1)
theorem c_0_allDays (l : Launch) (D : va_G) (t : ty4) (qL : Nat → Nat) (bL : BV) {r : Int32} (h0 : f_0_allDays bL = some r) : MetI l yX0_allDays cX0_allDays 1 (some .int) (rmD 1) D t [.ref (qL 99)] (wL t qL bL) (fun x w => r = x ∧ (wL t qL bL) = w) := by
  refine MetI_of (by decide +kernel) (Nat.le_of_ble_eq_true rfl) (fun p e s m below meth c C _ => ?_)
  unfold f_0_allDays at h0
  generalize hargs : (List.toArray [.ref (qL 99)] : Array Value) = args at C ⊢
  refine At.start (lv2 := [(0, .ref (qL 99))]) rfl ?_
  refine A_iconst C (0 : Int32) dX0_allDays_0 (by decide) ?_
  refine A_aload_n C 0 dX0_allDays_1 rfl rfl ?_
  refine A_get (v := .int (gI bL 1)) C 0 1 inG0 (ci := 0) rfl (by decide) fl_0_15 rfl rfl rfl dX0_allDays_2 ?_
  obtain ⟨z1, hz1, h0⟩ := bind_some h0
  refine A_snI (As := [.int (0 : Int32), .int (gI bL 1)]) (rest := []) C (c_5_rowBits l D t (0 : Int32) (gI bL 1) hz1) mw_5_rowBits C.2.2.2.2.1.2.2.2.2.2.2.2.2.1 st_5_rowBits (rmok rfl rfl) (cutN (wL t qL bL)) rfl rfl (Nat.le_of_ble_eq_true rfl) dX0_allDays_5 (fun x w1 hw1 => ?_)
  obtain ⟨rfl, rfl⟩ := hw1
  refine A_perm (ws' := (wL t qL bL)) ((cutN _).symm) ?_
  have h0 := Option.some.inj h0
  subst h0
  exact A_iret C dX0_allDays_8 ⟨rfl, rfl⟩
def f_0_ripensOn_70 (bL : BV) (k21 : Int32 → Int32 → Int32 → Int32 → Int32 → Option (Int32)) (x2 : Int32) (x3 : Int32) (x4 : Int32) (x5 : Int32) (x6 : Int32) : Option (Int32) :=
  k21 x2 x3 x4 x5 (x6 + (1 : Int32))
theorem t_0_ripensOn_70 (C : CX p s m args meth c cX0_ripensOn 7 (some .int) RX0 D t) (qL : Nat → Nat) (bL : BV) (r : Int32) (k21 : Int32 → Int32 → Int32 → Int32 → Int32 → Option (Int32)) (K21 : ∀ (x2 : Int32) (x3 : Int32) (x4 : Int32) (x5 : Int32) (x6 : Int32), k21 x2 x3 x4 x5 x6 = some r → At p l e (rmD 1) s m args below meth c D 7 w0 (QI below args s D w0 (fun x w => r = x ∧ (wL t qL bL) = w) 0 0) 0 0 21 [(0, .ref (qL 99)), (2, .int x2), (3, .int x3), (4, .int x4), (5, .int x5), (6, .int x6)] [] (wL t qL bL)) (x2 : Int32) (x3 : Int32) (x4 : Int32) (x5 : Int32) (x6 : Int32) (h0 : f_0_ripensOn_70 bL k21 x2 x3 x4 x5 x6 = some r) : At p l e (rmD 1) s m args below meth c D 7 w0 (QI below args s D w0 (fun x w => r = x ∧ (wL t qL bL) = w) 0 0) 0 0 70 [(0, .ref (qL 99)), (2, .int x2), (3, .int x3), (4, .int x4), (5, .int x5), (6, .int x6)] [] (wL t qL bL) := by
  unfold f_0_ripensOn_70 at h0
  refine A_iinc C 5 (x6 + (1 : Int32)) [(6, .int (x6 + (1 : Int32))), (0, .ref (qL 99)), (2, .int x2), (3, .int x3), (4, .int x4), (5, .int x5)] dX0_ripensOn_70 rfl rfl (by decide) rfl ?_
  refine A_goto C 21 dX0_ripensOn_73 (by decide) ?_
  exact A_loc [1, 2, 3, 4, 5, 0] rfl (K21 x2 x3 x4 x5 (x6 + (1 : Int32)) h0)
def f_0_ripensOn_59 (bL : BV) (k21 : Int32 → Int32 → Int32 → Int32 → Int32 → Option (Int32)) (x2 : Int32) (x3 : Int32) (x4 : Int32) (x6 : Int32) (y0 : Int32) : Option (Int32) :=
  if y0 < x3 then (f_0_ripensOn_70 bL k21 x2 x3 x4 y0 x6) else (some x6)
theorem t_0_ripensOn_59 (C : CX p s m args meth c cX0_ripensOn 7 (some .int) RX0 D t) (qL : Nat → Nat) (bL : BV) (r : Int32) (k21 : Int32 → Int32 → Int32 → Int32 → Int32 → Option (Int32)) (K21 : ∀ (x2 : Int32) (x3 : Int32) (x4 : Int32) (x5 : Int32) (x6 : Int32), k21 x2 x3 x4 x5 x6 = some r → At p l e (rmD 1) s m args below meth c D 7 w0 (QI below args s D w0 (fun x w => r = x ∧ (wL t qL bL) = w) 0 0) 0 0 21 [(0, .ref (qL 99)), (2, .int x2), (3, .int x3), (4, .int x4), (5, .int x5), (6, .int x6)] [] (wL t qL bL)) (x2 : Int32) (x3 : Int32) (x4 : Int32) (x6 : Int32) (y0 : Int32) (h0 : f_0_ripensOn_59 bL k21 x2 x3 x4 x6 y0 = some r) : At p l e (rmD 1) s m args below meth c D 7 w0 (QI below args s D w0 (fun x w => r = x ∧ (wL t qL bL) = w) 0 0) 0 0 59 [(0, .ref (qL 99)), (2, .int x2), (3, .int x3), (4, .int x4), (6, .int x6)] [.int y0] (wL t qL bL) := by
  unfold f_0_ripensOn_59 at h0
  refine A_istore C [(5, .int y0), (0, .ref (qL 99)), (2, .int x2), (3, .int x3), (4, .int x4), (6, .int x6)] dX0_ripensOn_59 (by decide) rfl ?_
  refine A_iload C 0 dX0_ripensOn_61 rfl ?_
  refine A_iload_n C 3 dX0_ripensOn_63 rfl rfl ?_
  refine A_icmp_lt C 70 dX0_ripensOn_64 (by decide) h0 (fun h0 => ?_) (fun h0 => ?_)
  · exact A_loc [1, 2, 3, 4, 0, 5] rfl (t_0_ripensOn_70 C qL bL r k21 K21 x2 x3 x4 y0 x6 h0)
  · refine A_iload C 5 dX0_ripensOn_67 rfl ?_
    have h0 := Option.some.inj h0
    subst h0
    exact A_iret C dX0_ripensOn_69 ⟨rfl, rfl⟩
def f_0_ripensOn_21_b (bL : BV) (k21 : Int32 → Int32 → Int32 → Int32 → Int32 → Option (Int32)) (x2 : Int32) (x3 : Int32) (x4 : Int32) (x5 : Int32) (x6 : Int32) : Option (Int32) :=
  if (gI bL 1) ≤ x6 then (some (-9 : Int32)) else ((f_5_has x2 x6).bind (fun z1 => if z1 = 0 then (f_0_ripensOn_70 bL k21 x2 x3 x4 x5 x6) else (ck (inb x6 30) (if (gA bL 3 x6) < x4 then (f_0_ripensOn_59 bL k21 x2 x3 x4 x6 (0 : Int32)) else (f_0_ripensOn_59 bL k21 x2 x3 x4 x6 (x5 + (1 : Int32)))))))
theorem t_0_ripensOn_21_b (C : CX p s m args meth c cX0_ripensOn 7 (some .int) RX0 D t) (qL : Nat → Nat) (bL : BV) (r : Int32) (k21 : Int32 → Int32 → Int32 → Int32 → Int32 → Option (Int32)) (K21 : ∀ (x2 : Int32) (x3 : Int32) (x4 : Int32) (x5 : Int32) (x6 : Int32), k21 x2 x3 x4 x5 x6 = some r → At p l e (rmD 1) s m args below meth c D 7 w0 (QI below args s D w0 (fun x w => r = x ∧ (wL t qL bL) = w) 0 0) 0 0 21 [(0, .ref (qL 99)), (2, .int x2), (3, .int x3), (4, .int x4), (5, .int x5), (6, .int x6)] [] (wL t qL bL)) (x2 : Int32) (x3 : Int32) (x4 : Int32) (x5 : Int32) (x6 : Int32) (h0 : f_0_ripensOn_21_b bL k21 x2 x3 x4 x5 x6 = some r) : At p l e (rmD 1) s m args below meth c D 7 w0 (QI below args s D w0 (fun x w => r = x ∧ (wL t qL bL) = w) 0 0) 0 0 21 [(0, .ref (qL 99)), (2, .int x2), (3, .int x3), (4, .int x4), (5, .int x5), (6, .int x6)] [] (wL t qL bL) := by
  unfold f_0_ripensOn_21_b at h0
  refine A_iload C 5 dX0_ripensOn_21 rfl ?_
  refine A_aload_n C 0 dX0_ripensOn_23 rfl rfl ?_
  refine A_get (v := .int (gI bL 1)) C 0 1 inG0 (ci := 0) rfl (by decide) fl_0_15 rfl rfl rfl dX0_ripensOn_24 ?_
  refine A_icmp_ge C 76 dX0_ripensOn_27 (by decide) h0 (fun h0 => ?_) (fun h0 => ?_)
  · refine A_bipush C (-9 : Int32) dX0_ripensOn_76 (by decide) ?_
    have h0 := Option.some.inj h0
    subst h0
    exact A_iret C dX0_ripensOn_78 ⟨rfl, rfl⟩
  · refine A_iload_n C 1 dX0_ripensOn_30 rfl rfl ?_
    refine A_iload C 5 dX0_ripensOn_31 rfl ?_
    obtain ⟨z1, hz1, h0⟩ := bind_some h0
    refine A_snI (As := [.int x2, .int x6]) (rest := []) C (c_5_has l D t x2 x6 hz1) mw_5_has C.2.2.2.2.1.2.2.2.2.2.2.2.2.2 st_5_has (rmok rfl rfl) (cutN (wL t qL bL)) rfl rfl (Nat.le_of_ble_eq_true rfl) dX0_ripensOn_33 (fun x w1 hw1 => ?_)
    obtain ⟨rfl, rfl⟩ := hw1
    refine A_perm (ws' := (wL t qL bL)) ((cutN _).symm) ?_
    refine A_if_eq C 70 dX0_ripensOn_36 (by decide) h0 (fun h0 => ?_) (fun h0 => ?_)
    · exact A_loc [0, 1, 2, 3, 4, 5] rfl (t_0_ripensOn_70 C qL bL r k21 K21 x2 x3 x4 x5 x6 h0)
    · refine A_aload_n C 0 dX0_ripensOn_39 rfl rfl ?_
      refine A_get (v := .ref (qL 3)) C 0 3 inG0 (ci := 0) rfl (by decide) fl_0_22 rfl rfl rfl dX0_ripensOn_40 ?_
      refine A_iload C 5 dX0_ripensOn_43 rfl ?_
      refine A_iald C 2 (gA bL 3 x6) rfl rfl dX0_ripensOn_45 h0 (fun h0 => ?_)
      refine A_iload C 3 dX0_ripensOn_46 rfl ?_
      refine A_icmp_lt C 58 dX0_ripensOn_48 (by decide) h0 (fun h0 => ?_) (fun h0 => ?_)
      · refine A_iconst C (0 : Int32) dX0_ripensOn_58 (by decide) ?_
        exact A_loc [0, 1, 2, 3, 5] rfl (t_0_ripensOn_59 C qL bL r k21 K21 x2 x3 x4 x6 (0 : Int32) h0)
      · refine A_iload C 4 dX0_ripensOn_51 rfl ?_
        refine A_iconst C (1 : Int32) dX0_ripensOn_53 (by decide) ?_
        refine A_iadd C dX0_ripensOn_54 ?_
        refine A_goto C 59 dX0_ripensOn_55 (by decide) ?_
        exact A_loc [0, 1, 2, 3, 5] rfl (t_0_ripensOn_59 C qL bL r k21 K21 x2 x3 x4 x6 (x5 + (1 : Int32)) h0)
def f_0_ripensOn_21 (bL : BV) : Nat → Int32 → Int32 → Int32 → Int32 → Int32 → Option (Int32)
  | 0 => fun _ _ _ _ _ => none
  | n + 1 => f_0_ripensOn_21_b bL (f_0_ripensOn_21 bL n)
theorem t_0_ripensOn_21 (C : CX p s m args meth c cX0_ripensOn 7 (some .int) RX0 D t) (qL : Nat → Nat) (bL : BV) (r : Int32) : ∀ (n : Nat), ∀ (x2 : Int32) (x3 : Int32) (x4 : Int32) (x5 : Int32) (x6 : Int32), f_0_ripensOn_21 bL n x2 x3 x4 x5 x6 = some r → At p l e (rmD 1) s m args below meth c D 7 w0 (QI below args s D w0 (fun x w => r = x ∧ (wL t qL bL) = w) 0 0) 0 0 21 [(0, .ref (qL 99)), (2, .int x2), (3, .int x3), (4, .int x4), (5, .int x5), (6, .int x6)] [] (wL t qL bL) := by
  intro n
  induction n with
  | zero =>
    intro x2 x3 x4 x5 x6 h0
    have h0 : none = some r := h0
    cases h0
  | succ n ih =>
    intro x2 x3 x4 x5 x6 h0
    exact t_0_ripensOn_21_b C qL bL r _ ih x2 x3 x4 x5 x6 h0
def f_0_ripensOn (bL : BV) (x1 : Int32) (x2 : Int32) : Option (Int32) :=
  ck (inb x1 4) (ck (inb x1 4) (f_0_ripensOn_21 bL 200 x2 (gA bL 5 x1) (gA bL 6 x1) (0 : Int32) (0 : Int32)))
theorem c_0_ripensOn (l : Launch) (D : va_G) (t : ty4) (qL : Nat → Nat) (bL : BV) (x1 : Int32) (x2 : Int32) {r : Int32} (h0 : f_0_ripensOn bL x1 x2 = some r) : MetI l yX0_ripensOn cX0_ripensOn 7 (some .int) (rmD 1) D t [.ref (qL 99), .int x1, .int x2] (wL t qL bL) (fun x w => r = x ∧ (wL t qL bL) = w) := by
  refine MetI_of (by decide +kernel) (Nat.le_of_ble_eq_true rfl) (fun p e s m below meth c C _ => ?_)
  unfold f_0_ripensOn at h0
  generalize hargs : (List.toArray [.ref (qL 99), .int x1, .int x2] : Array Value) = args at C ⊢
  refine At.start (lv2 := [(0, .ref (qL 99)), (1, .int x1), (2, .int x2)]) rfl ?_
  refine A_aload_n C 0 dX0_ripensOn_0 rfl rfl ?_
  refine A_get (v := .ref (qL 5)) C 0 5 inG0 (ci := 0) rfl (by decide) fl_0_28 rfl rfl rfl dX0_ripensOn_1 ?_
  refine A_iload_n C 1 dX0_ripensOn_4 rfl rfl ?_
  refine A_iald C 3 (gA bL 5 x1) rfl rfl dX0_ripensOn_5 h0 (fun h0 => ?_)
  refine A_istore_n C [(3, .int (gA bL 5 x1)), (0, .ref (qL 99)), (1, .int x1), (2, .int x2)] dX0_ripensOn_6 rfl (by decide) rfl ?_
  refine A_aload_n C 1 dX0_ripensOn_7 rfl rfl ?_
  refine A_get (v := .ref (qL 6)) C 0 6 inG0 (ci := 0) rfl (by decide) fl_0_31 rfl rfl rfl dX0_ripensOn_8 ?_
  refine A_iload_n C 2 dX0_ripensOn_11 rfl rfl ?_
  refine A_iald C 4 (gA bL 6 x1) rfl rfl dX0_ripensOn_12 h0 (fun h0 => ?_)
  refine A_istore C [(4, .int (gA bL 6 x1)), (3, .int (gA bL 5 x1)), (0, .ref (qL 99)), (1, .int x1), (2, .int x2)] dX0_ripensOn_13 (by decide) rfl ?_
  refine A_iconst C (0 : Int32) dX0_ripensOn_15 (by decide) ?_
  refine A_istore C [(5, .int (0 : Int32)), (4, .int (gA bL 6 x1)), (3, .int (gA bL 5 x1)), (0, .ref (qL 99)), (1, .int x1), (2, .int x2)] dX0_ripensOn_16 (by decide) rfl ?_
  refine A_iconst C (0 : Int32) dX0_ripensOn_18 (by decide) ?_
  refine A_istore C [(6, .int (0 : Int32)), (5, .int (0 : Int32)), (4, .int (gA bL 6 x1)), (3, .int (gA bL 5 x1)), (0, .ref (qL 99)), (1, .int x1), (2, .int x2)] dX0_ripensOn_19 (by decide) rfl ?_
  exact A_loc [4, 6, 3, 2, 1, 0] rfl (t_0_ripensOn_21 C qL bL r 200 x2 (gA bL 5 x1) (gA bL 6 x1) (0 : Int32) (0 : Int32) h0)
def f_0_ripening_29 (bL : BV) (k4 : Int32 → Int32 → Int32 → Option (Int32)) (x1 : Int32) (x2 : Int32) (x3 : Int32) : Option (Int32) :=
  k4 x1 x2 (x3 + (1 : Int32))
theorem t_0_ripening_29 (C : CX p s m args meth c cX0_ripening 4 (some .int) RX0 D t) (qL : Nat → Nat) (bL : BV) (r : Int32) (k4 : Int32 → Int32 → Int32 → Option (Int32)) (K4 : ∀ (x1 : Int32) (x2 : Int32) (x3 : Int32), k4 x1 x2 x3 = some r → At p l e (rmD 2) s m args below meth c D 4 w0 (QI below args s D w0 (fun x w => r = x ∧ (wL t qL bL) = w) 0 0) 0 0 4 [(0, .ref (qL 99)), (1, .int x1), (2, .int x2), (3, .int x3)] [] (wL t qL bL)) (x1 : Int32) (x2 : Int32) (x3 : Int32) (h0 : f_0_ripening_29 bL k4 x1 x2 x3 = some r) : At p l e (rmD 2) s m args below meth c D 4 w0 (QI below args s D w0 (fun x w => r = x ∧ (wL t qL bL) = w) 0 0) 0 0 29 [(0, .ref (qL 99)), (1, .int x1), (2, .int x2), (3, .int x3)] [] (wL t qL bL) := by
  unfold f_0_ripening_29 at h0
  refine A_iinc C 3 (x3 + (1 : Int32)) [(3, .int (x3 + (1 : Int32))), (0, .ref (qL 99)), (1, .int x1), (2, .int x2)] dX0_ripening_29 rfl rfl (by decide) rfl ?_
  refine A_goto C 4 dX0_ripening_32 (by decide) ?_
  exact A_loc [1, 2, 3, 0] rfl (K4 x1 x2 (x3 + (1 : Int32)) h0)
def f_0_ripening_4_b (bL : BV) (k4 : Int32 → Int32 → Int32 → Option (Int32)) (x1 : Int32) (x2 : Int32) (x3 : Int32) : Option (Int32) :=
  if (gI bL 4) ≤ x3 then (some x2) else ((f_0_ripensOn bL x3 x1).bind (fun z1 => if z1 = (-9 : Int32) then (f_0_ripening_29 bL k4 x1 x2 x3) else (f_0_ripening_29 bL k4 x1 (x2 ||| ((1 : Int32) <<< (x3 &&& 31))) x3)))
theorem t_0_ripening_4_b (C : CX p s m args meth c cX0_ripening 4 (some .int) RX0 D t) (qL : Nat → Nat) (bL : BV) (r : Int32) (k4 : Int32 → Int32 → Int32 → Option (Int32)) (K4 : ∀ (x1 : Int32) (x2 : Int32) (x3 : Int32), k4 x1 x2 x3 = some r → At p l e (rmD 2) s m args below meth c D 4 w0 (QI below args s D w0 (fun x w => r = x ∧ (wL t qL bL) = w) 0 0) 0 0 4 [(0, .ref (qL 99)), (1, .int x1), (2, .int x2), (3, .int x3)] [] (wL t qL bL)) (x1 : Int32) (x2 : Int32) (x3 : Int32) (h0 : f_0_ripening_4_b bL k4 x1 x2 x3 = some r) : At p l e (rmD 2) s m args below meth c D 4 w0 (QI below args s D w0 (fun x w => r = x ∧ (wL t qL bL) = w) 0 0) 0 0 4 [(0, .ref (qL 99)), (1, .int x1), (2, .int x2), (3, .int x3)] [] (wL t qL bL) := by
  unfold f_0_ripening_4_b at h0
  refine A_iload_n C 3 dX0_ripening_4 rfl rfl ?_
  refine A_aload_n C 0 dX0_ripening_5 rfl rfl ?_
  refine A_get (v := .int (gI bL 4)) C 0 4 inG0 (ci := 0) rfl (by decide) fl_0_25 rfl rfl rfl dX0_ripening_6 ?_
  refine A_icmp_ge C 35 dX0_ripening_9 (by decide) h0 (fun h0 => ?_) (fun h0 => ?_)
  · refine A_iload_n C 2 dX0_ripening_35 rfl rfl ?_
    have h0 := Option.some.inj h0
    subst h0
    exact A_iret C dX0_ripening_36 ⟨rfl, rfl⟩
  · refine A_aload_n C 0 dX0_ripening_12 rfl rfl ?_
    refine A_iload_n C 3 dX0_ripening_13 rfl rfl ?_
    refine A_iload_n C 1 dX0_ripening_14 rfl rfl ?_
    obtain ⟨z1, hz1, h0⟩ := bind_some h0
    refine A_vI (As := [.int x3, .int x1]) (rest := []) C 0 (c_0_ripensOn l D t qL bL x3 x1 hz1) mw_0_ripensOn ml_0_54 im_0_ripensOn sl_0_ripensOn (rmok rfl rfl) (cut0 (wL t qL bL)) rfl (ci := 0) rfl rfl rfl (Nat.le_of_ble_eq_true rfl) dX0_ripening_15 (fun x w1 hw1 => ?_)
    obtain ⟨rfl, rfl⟩ := hw1
    refine A_perm (ws' := (wL t qL bL)) ((cut0 _).symm) ?_
    refine A_bipush C (-9 : Int32) dX0_ripening_18 (by decide) ?_
    refine A_icmp_eq C 29 dX0_ripening_20 (by decide) h0 (fun h0 => ?_) (fun h0 => ?_)
    · exact A_loc [0, 1, 2, 3] rfl (t_0_ripening_29 C qL bL r k4 K4 x1 x2 x3 h0)
    · refine A_iload_n C 2 dX0_ripening_23 rfl rfl ?_
      refine A_iconst C (1 : Int32) dX0_ripening_24 (by decide) ?_
      refine A_iload_n C 3 dX0_ripening_25 rfl rfl ?_
      refine A_ishl C dX0_ripening_26 ?_
      refine A_ior C dX0_ripening_27 ?_
      refine A_istore_n C [(2, .int (x2 ||| ((1 : Int32) <<< (x3 &&& 31)))), (0, .ref (qL 99)), (1, .int x1), (3, .int x3)] dX0_ripening_28 rfl (by decide) rfl ?_
      exact A_loc [1, 2, 0, 3] rfl (t_0_ripening_29 C qL bL r k4 K4 x1 (x2 ||| ((1 : Int32) <<< (x3 &&& 31))) x3 h0)
def f_0_ripening_4 (bL : BV) : Nat → Int32 → Int32 → Int32 → Option (Int32)
  | 0 => fun _ _ _ => none
  | n + 1 => f_0_ripening_4_b bL (f_0_ripening_4 bL n)
theorem t_0_ripening_4 (C : CX p s m args meth c cX0_ripening 4 (some .int) RX0 D t) (qL : Nat → Nat) (bL : BV) (r : Int32) : ∀ (n : Nat), ∀ (x1 : Int32) (x2 : Int32) (x3 : Int32), f_0_ripening_4 bL n x1 x2 x3 = some r → At p l e (rmD 2) s m args below meth c D 4 w0 (QI below args s D w0 (fun x w => r = x ∧ (wL t qL bL) = w) 0 0) 0 0 4 [(0, .ref (qL 99)), (1, .int x1), (2, .int x2), (3, .int x3)] [] (wL t qL bL) := by
  intro n
  induction n with
  | zero =>
    intro x1 x2 x3 h0
    have h0 : none = some r := h0
    cases h0
  | succ n ih =>
    intro x1 x2 x3 h0
    exact t_0_ripening_4_b C qL bL r _ ih x1 x2 x3 h0
def f_0_ripening (bL : BV) (x1 : Int32) : Option (Int32) :=
  f_0_ripening_4 bL 200 x1 (0 : Int32) (0 : Int32)
theorem c_0_ripening (l : Launch) (D : va_G) (t : ty4) (qL : Nat → Nat) (bL : BV) (x1 : Int32) {r : Int32} (h0 : f_0_ripening bL x1 = some r) : MetI l yX0_ripening cX0_ripening 4 (some .int) (rmD 2) D t [.ref (qL 99), .int x1] (wL t qL bL) (fun x w => r = x ∧ (wL t qL bL) = w) := by
  refine MetI_of (by decide +kernel) (Nat.le_of_ble_eq_true rfl) (fun p e s m below meth c C _ => ?_)
  unfold f_0_ripening at h0
  generalize hargs : (List.toArray [.ref (qL 99), .int x1] : Array Value) = args at C ⊢
  refine At.start (lv2 := [(0, .ref (qL 99)), (1, .int x1)]) rfl ?_
  refine A_iconst C (0 : Int32) dX0_ripening_0 (by decide) ?_
  refine A_istore_n C [(2, .int (0 : Int32)), (0, .ref (qL 99)), (1, .int x1)] dX0_ripening_1 rfl (by decide) rfl ?_
  refine A_iconst C (0 : Int32) dX0_ripening_2 (by decide) ?_
  refine A_istore_n C [(3, .int (0 : Int32)), (2, .int (0 : Int32)), (0, .ref (qL 99)), (1, .int x1)] dX0_ripening_3 rfl (by decide) rfl ?_
  exact A_loc [2, 3, 1, 0] rfl (t_0_ripening_4 C qL bL r 200 x1 (0 : Int32) (0 : Int32) h0)
def f_0_worthOf_29 (bL : BV) (k4 : Int32 → Int32 → Int32 → Option (Int32)) (x1 : Int32) (x2 : Int32) (x3 : Int32) : Option (Int32) :=
  k4 x1 x2 (x3 + (1 : Int32))
theorem t_0_worthOf_29 (C : CX p s m args meth c cX0_worthOf 4 (some .int) RX0 D t) (qL : Nat → Nat) (bL : BV) (r : Int32) (k4 : Int32 → Int32 → Int32 → Option (Int32)) (K4 : ∀ (x1 : Int32) (x2 : Int32) (x3 : Int32), k4 x1 x2 x3 = some r → At p l e (rmD 1) s m args below meth c D 4 w0 (QI below args s D w0 (fun x w => r = x ∧ (wL t qL bL) = w) 0 0) 0 0 4 [(0, .ref (qL 99)), (1, .int x1), (2, .int x2), (3, .int x3)] [] (wL t qL bL)) (x1 : Int32) (x2 : Int32) (x3 : Int32) (h0 : f_0_worthOf_29 bL k4 x1 x2 x3 = some r) : At p l e (rmD 1) s m args below meth c D 4 w0 (QI below args s D w0 (fun x w => r = x ∧ (wL t qL bL) = w) 0 0) 0 0 29 [(0, .ref (qL 99)), (1, .int x1), (2, .int x2), (3, .int x3)] [] (wL t qL bL) := by
  unfold f_0_worthOf_29 at h0
  refine A_iinc C 3 (x3 + (1 : Int32)) [(3, .int (x3 + (1 : Int32))), (0, .ref (qL 99)), (1, .int x1), (2, .int x2)] dX0_worthOf_29 rfl rfl (by decide) rfl ?_
  refine A_goto C 4 dX0_worthOf_32 (by decide) ?_
  exact A_loc [1, 2, 3, 0] rfl (K4 x1 x2 (x3 + (1 : Int32)) h0)
def f_0_worthOf_4_b (bL : BV) (k4 : Int32 → Int32 → Int32 → Option (Int32)) (x1 : Int32) (x2 : Int32) (x3 : Int32) : Option (Int32) :=
  if (gI bL 4) ≤ x3 then (some x2) else ((f_5_has x1 x3).bind (fun z1 => if z1 = 0 then (f_0_worthOf_29 bL k4 x1 x2 x3) else (ck (inb x3 4) (f_0_worthOf_29 bL k4 x1 (x2 + (gA bL 7 x3)) x3))))
theorem t_0_worthOf_4_b (C : CX p s m args meth c cX0_worthOf 4 (some .int) RX0 D t) (qL : Nat → Nat) (bL : BV) (r : Int32) (k4 : Int32 → Int32 → Int32 → Option (Int32)) (K4 : ∀ (x1 : Int32) (x2 : Int32) (x3 : Int32), k4 x1 x2 x3 = some r → At p l e (rmD 1) s m args below meth c D 4 w0 (QI below args s D w0 (fun x w => r = x ∧ (wL t qL bL) = w) 0 0) 0 0 4 [(0, .ref (qL 99)), (1, .int x1), (2, .int x2), (3, .int x3)] [] (wL t qL bL)) (x1 : Int32) (x2 : Int32) (x3 : Int32) (h0 : f_0_worthOf_4_b bL k4 x1 x2 x3 = some r) : At p l e (rmD 1) s m args below meth c D 4 w0 (QI below args s D w0 (fun x w => r = x ∧ (wL t qL bL) = w) 0 0) 0 0 4 [(0, .ref (qL 99)), (1, .int x1), (2, .int x2), (3, .int x3)] [] (wL t qL bL) := by
  unfold f_0_worthOf_4_b at h0
  refine A_iload_n C 3 dX0_worthOf_4 rfl rfl ?_
  refine A_aload_n C 0 dX0_worthOf_5 rfl rfl ?_
  refine A_get (v := .int (gI bL 4)) C 0 4 inG0 (ci := 0) rfl (by decide) fl_0_25 rfl rfl rfl dX0_worthOf_6 ?_
  refine A_icmp_ge C 35 dX0_worthOf_9 (by decide) h0 (fun h0 => ?_) (fun h0 => ?_)
  · refine A_iload_n C 2 dX0_worthOf_35 rfl rfl ?_
    have h0 := Option.some.inj h0
    subst h0
    exact A_iret C dX0_worthOf_36 ⟨rfl, rfl⟩
  · refine A_iload_n C 1 dX0_worthOf_12 rfl rfl ?_
    refine A_iload_n C 3 dX0_worthOf_13 rfl rfl ?_
    obtain ⟨z1, hz1, h0⟩ := bind_some h0
    refine A_snI (As := [.int x1, .int x3]) (rest := []) C (c_5_has l D t x1 x3 hz1) mw_5_has C.2.2.2.2.1.2.2.2.2.2.2.2.2.2 st_5_has (rmok rfl rfl) (cutN (wL t qL bL)) rfl rfl (Nat.le_of_ble_eq_true rfl) dX0_worthOf_14 (fun x w1 hw1 => ?_)
    obtain ⟨rfl, rfl⟩ := hw1
    refine A_perm (ws' := (wL t qL bL)) ((cutN _).symm) ?_
    refine A_if_eq C 29 dX0_worthOf_17 (by decide) h0 (fun h0 => ?_) (fun h0 => ?_)
    · exact A_loc [0, 1, 2, 3] rfl (t_0_worthOf_29 C qL bL r k4 K4 x1 x2 x3 h0)
    · refine A_iload_n C 2 dX0_worthOf_20 rfl rfl ?_
      refine A_aload_n C 0 dX0_worthOf_21 rfl rfl ?_
      refine A_get (v := .ref (qL 7)) C 0 7 inG0 (ci := 0) rfl (by decide) fl_0_34 rfl rfl rfl dX0_worthOf_22 ?_
      refine A_iload_n C 3 dX0_worthOf_25 rfl rfl ?_
      refine A_iald C 5 (gA bL 7 x3) rfl rfl dX0_worthOf_26 h0 (fun h0 => ?_)
      refine A_iadd C dX0_worthOf_27 ?_
      refine A_istore_n C [(2, .int (x2 + (gA bL 7 x3))), (0, .ref (qL 99)), (1, .int x1), (3, .int x3)] dX0_worthOf_28 rfl (by decide) rfl ?_
      exact A_loc [1, 2, 0, 3] rfl (t_0_worthOf_29 C qL bL r k4 K4 x1 (x2 + (gA bL 7 x3)) x3 h0)
def f_0_worthOf_4 (bL : BV) : Nat → Int32 → Int32 → Int32 → Option (Int32)
  | 0 => fun _ _ _ => none
  | n + 1 => f_0_worthOf_4_b bL (f_0_worthOf_4 bL n)
theorem t_0_worthOf_4 (C : CX p s m args meth c cX0_worthOf 4 (some .int) RX0 D t) (qL : Nat → Nat) (bL : BV) (r : Int32) : ∀ (n : Nat), ∀ (x1 : Int32) (x2 : Int32) (x3 : Int32), f_0_worthOf_4 bL n x1 x2 x3 = some r → At p l e (rmD 1) s m args below meth c D 4 w0 (QI below args s D w0 (fun x w => r = x ∧ (wL t qL bL) = w) 0 0) 0 0 4 [(0, .ref (qL 99)), (1, .int x1), (2, .int x2), (3, .int x3)] [] (wL t qL bL) := by
  intro n
  induction n with
  | zero =>
    intro x1 x2 x3 h0
    have h0 : none = some r := h0
    cases h0
  | succ n ih =>
    intro x1 x2 x3 h0
    exact t_0_worthOf_4_b C qL bL r _ ih x1 x2 x3 h0
def f_0_worthOf (bL : BV) (x1 : Int32) : Option (Int32) :=
  f_0_worthOf_4 bL 200 x1 (0 : Int32) (0 : Int32)
theorem c_0_worthOf (l : Launch) (D : va_G) (t : ty4) (qL : Nat → Nat) (bL : BV) (x1 : Int32) {r : Int32} (h0 : f_0_worthOf bL x1 = some r) : MetI l yX0_worthOf cX0_worthOf 4 (some .int) (rmD 1) D t [.ref (qL 99), .int x1] (wL t qL bL) (fun x w => r = x ∧ (wL t qL bL) = w) := by
  refine MetI_of (by decide +kernel) (Nat.le_of_ble_eq_true rfl) (fun p e s m below meth c C _ => ?_)
  unfold f_0_worthOf at h0
  generalize hargs : (List.toArray [.ref (qL 99), .int x1] : Array Value) = args at C ⊢
  refine At.start (lv2 := [(0, .ref (qL 99)), (1, .int x1)]) rfl ?_
  refine A_iconst C (0 : Int32) dX0_worthOf_0 (by decide) ?_
  refine A_istore_n C [(2, .int (0 : Int32)), (0, .ref (qL 99)), (1, .int x1)] dX0_worthOf_1 rfl (by decide) rfl ?_
  refine A_iconst C (0 : Int32) dX0_worthOf_2 (by decide) ?_
  refine A_istore_n C [(3, .int (0 : Int32)), (2, .int (0 : Int32)), (0, .ref (qL 99)), (1, .int x1)] dX0_worthOf_3 rfl (by decide) rfl ?_
  exact A_loc [2, 3, 1, 0] rfl (t_0_worthOf_4 C qL bL r 200 x1 (0 : Int32) (0 : Int32) h0)
def f_0_harvest (bL : BV) (x1 : Int32) : Option (Int32) :=
  (f_0_ripening bL x1).bind (fun z1 => (f_0_worthOf bL z1).bind (fun z2 => some z2))
theorem c_0_harvest (l : Launch) (D : va_G) (t : ty4) (qL : Nat → Nat) (bL : BV) (x1 : Int32) {r : Int32} (h0 : f_0_harvest bL x1 = some r) : MetI l yX0_harvest cX0_harvest 2 (some .int) (rmD 3) D t [.ref (qL 99), .int x1] (wL t qL bL) (fun x w => r = x ∧ (wL t qL bL) = w) := by
  refine MetI_of (by decide +kernel) (Nat.le_of_ble_eq_true rfl) (fun p e s m below meth c C _ => ?_)
  unfold f_0_harvest at h0
  generalize hargs : (List.toArray [.ref (qL 99), .int x1] : Array Value) = args at C ⊢
  refine At.start (lv2 := [(0, .ref (qL 99)), (1, .int x1)]) rfl ?_
  refine A_aload_n C 0 dX0_harvest_0 rfl rfl ?_
  refine A_aload_n C 0 dX0_harvest_1 rfl rfl ?_
  refine A_iload_n C 1 dX0_harvest_2 rfl rfl ?_
  obtain ⟨z1, hz1, h0⟩ := bind_some h0
  refine A_vI (As := [.int x1]) (rest := [.ref (qL 99)]) C 0 (c_0_ripening l D t qL bL x1 hz1) mw_0_ripening ml_0_57 im_0_ripening sl_0_ripening (rmok rfl rfl) (cut0 (wL t qL bL)) rfl (ci := 0) rfl rfl rfl (Nat.le_of_ble_eq_true rfl) dX0_harvest_3 (fun x w1 hw1 => ?_)
  obtain ⟨rfl, rfl⟩ := hw1
  refine A_perm (ws' := (wL t qL bL)) ((cut0 _).symm) ?_
  obtain ⟨z2, hz2, h0⟩ := bind_some h0
  refine A_vI (As := [.int z1]) (rest := []) C 0 (c_0_worthOf l D t qL bL z1 hz2) mw_0_worthOf ml_0_61 im_0_worthOf sl_0_worthOf (rmok rfl rfl) (cut0 (wL t qL bL)) rfl (ci := 0) rfl rfl rfl (Nat.le_of_ble_eq_true rfl) dX0_harvest_6 (fun x w1 hw1 => ?_)
  obtain ⟨rfl, rfl⟩ := hw1
  refine A_perm (ws' := (wL t qL bL)) ((cut0 _).symm) ?_
  have h0 := Option.some.inj h0
  subst h0
  exact A_iret C dX0_harvest_9 ⟨rfl, rfl⟩
def f_0_gap_32 (bL : BV) (k7 : Int32 → Int32 → Int32 → Int32 → Option (Int32)) (x1 : Int32) (x2 : Int32) (x4 : Int32) (y0 : Int32) : Option (Int32) :=
  k7 x1 (if x2 < y0 then y0 else x2) y0 (x4 + (1 : Int32))
theorem t_0_gap_32 (C : CX p s m args meth c cX0_gap 5 (some .int) RX0 D t) (qL : Nat → Nat) (bL : BV) (r : Int32) (k7 : Int32 → Int32 → Int32 → Int32 → Option (Int32)) (K7 : ∀ (x1 : Int32) (x2 : Int32) (x3 : Int32) (x4 : Int32), k7 x1 x2 x3 x4 = some r → At p l e (rmD 1) s m args below meth c D 5 w0 (QI below args s D w0 (fun x w => r = x ∧ (wL t qL bL) = w) 0 0) 0 0 7 [(0, .ref (qL 99)), (1, .int x1), (2, .int x2), (3, .int x3), (4, .int x4)] [] (wL t qL bL)) (x1 : Int32) (x2 : Int32) (x4 : Int32) (y0 : Int32) (h0 : f_0_gap_32 bL k7 x1 x2 x4 y0 = some r) : At p l e (rmD 1) s m args below meth c D 5 w0 (QI below args s D w0 (fun x w => r = x ∧ (wL t qL bL) = w) 0 0) 0 0 32 [(0, .ref (qL 99)), (1, .int x1), (2, .int x2), (4, .int x4)] [.int y0] (wL t qL bL) := by
  unfold f_0_gap_32 at h0
  refine A_istore_n C [(3, .int y0), (0, .ref (qL 99)), (1, .int x1), (2, .int x2), (4, .int x4)] dX0_gap_32 rfl (by decide) rfl ?_
  refine A_iload_n C 3 dX0_gap_33 rfl rfl ?_
  refine A_iload_n C 0 dX0_gap_34 rfl rfl ?_
  refine A_mmax C ml_0_64 st_max in_math cw_max (Nat.le_of_ble_eq_true rfl) (Nat.le_of_ble_eq_true rfl) (Nat.le_of_ble_eq_true rfl) (Nat.le_of_ble_eq_true rfl) dX0_gap_35 ?_
  refine A_istore_n C [(2, .int (if x2 < y0 then y0 else x2)), (3, .int y0), (0, .ref (qL 99)), (1, .int x1), (4, .int x4)] dX0_gap_38 rfl (by decide) rfl ?_
  refine A_iinc C 4 (x4 + (1 : Int32)) [(4, .int (x4 + (1 : Int32))), (2, .int (if x2 < y0 then y0 else x2)), (3, .int y0), (0, .ref (qL 99)), (1, .int x1)] dX0_gap_39 rfl rfl (by decide) rfl ?_
  refine A_goto C 7 dX0_gap_42 (by decide) ?_
  exact A_loc [3, 4, 1, 2, 0] rfl (K7 x1 (if x2 < y0 then y0 else x2) y0 (x4 + (1 : Int32)) h0)
def f_0_gap_7_b (bL : BV) (k7 : Int32 → Int32 → Int32 → Int32 → Option (Int32)) (x1 : Int32) (x2 : Int32) (x3 : Int32) (x4 : Int32) : Option (Int32) :=
  if (gI bL 1) ≤ x4 then (some x2) else ((f_5_has x1 x4).bind (fun z1 => if z1 = 0 then (f_0_gap_32 bL k7 x1 x2 x4 (x3 + (1 : Int32))) else (f_0_gap_32 bL k7 x1 x2 x4 (0 : Int32))))
theorem t_0_gap_7_b (C : CX p s m args meth c cX0_gap 5 (some .int) RX0 D t) (qL : Nat → Nat) (bL : BV) (r : Int32) (k7 : Int32 → Int32 → Int32 → Int32 → Option (Int32)) (K7 : ∀ (x1 : Int32) (x2 : Int32) (x3 : Int32) (x4 : Int32), k7 x1 x2 x3 x4 = some r → At p l e (rmD 1) s m args below meth c D 5 w0 (QI below args s D w0 (fun x w => r = x ∧ (wL t qL bL) = w) 0 0) 0 0 7 [(0, .ref (qL 99)), (1, .int x1), (2, .int x2), (3, .int x3), (4, .int x4)] [] (wL t qL bL)) (x1 : Int32) (x2 : Int32) (x3 : Int32) (x4 : Int32) (h0 : f_0_gap_7_b bL k7 x1 x2 x3 x4 = some r) : At p l e (rmD 1) s m args below meth c D 5 w0 (QI below args s D w0 (fun x w => r = x ∧ (wL t qL bL) = w) 0 0) 0 0 7 [(0, .ref (qL 99)), (1, .int x1), (2, .int x2), (3, .int x3), (4, .int x4)] [] (wL t qL bL) := by
  unfold f_0_gap_7_b at h0
  refine A_iload C 4 dX0_gap_7 rfl ?_
  refine A_aload_n C 0 dX0_gap_9 rfl rfl ?_
  refine A_get (v := .int (gI bL 1)) C 0 1 inG0 (ci := 0) rfl (by decide) fl_0_15 rfl rfl rfl dX0_gap_10 ?_
  refine A_icmp_ge C 45 dX0_gap_13 (by decide) h0 (fun h0 => ?_) (fun h0 => ?_)
  · refine A_iload_n C 2 dX0_gap_45 rfl rfl ?_
    have h0 := Option.some.inj h0
    subst h0
    exact A_iret C dX0_gap_46 ⟨rfl, rfl⟩
  · refine A_iload_n C 1 dX0_gap_16 rfl rfl ?_
    refine A_iload C 4 dX0_gap_17 rfl ?_
    obtain ⟨z1, hz1, h0⟩ := bind_some h0
    refine A_snI (As := [.int x1, .int x4]) (rest := []) C (c_5_has l D t x1 x4 hz1) mw_5_has C.2.2.2.2.1.2.2.2.2.2.2.2.2.2 st_5_has (rmok rfl rfl) (cutN (wL t qL bL)) rfl rfl (Nat.le_of_ble_eq_true rfl) dX0_gap_19 (fun x w1 hw1 => ?_)
    obtain ⟨rfl, rfl⟩ := hw1
    refine A_perm (ws' := (wL t qL bL)) ((cutN _).symm) ?_
    refine A_if_eq C 29 dX0_gap_22 (by decide) h0 (fun h0 => ?_) (fun h0 => ?_)
    · refine A_iload_n C 3 dX0_gap_29 rfl rfl ?_
      refine A_iconst C (1 : Int32) dX0_gap_30 (by decide) ?_
      refine A_iadd C dX0_gap_31 ?_
      exact A_loc [0, 1, 2, 4] rfl (t_0_gap_32 C qL bL r k7 K7 x1 x2 x4 (x3 + (1 : Int32)) h0)
    · refine A_iconst C (0 : Int32) dX0_gap_25 (by decide) ?_
      refine A_goto C 32 dX0_gap_26 (by decide) ?_
      exact A_loc [0, 1, 2, 4] rfl (t_0_gap_32 C qL bL r k7 K7 x1 x2 x4 (0 : Int32) h0)
def f_0_gap_7 (bL : BV) : Nat → Int32 → Int32 → Int32 → Int32 → Option (Int32)
  | 0 => fun _ _ _ _ => none
  | n + 1 => f_0_gap_7_b bL (f_0_gap_7 bL n)
theorem t_0_gap_7 (C : CX p s m args meth c cX0_gap 5 (some .int) RX0 D t) (qL : Nat → Nat) (bL : BV) (r : Int32) : ∀ (n : Nat), ∀ (x1 : Int32) (x2 : Int32) (x3 : Int32) (x4 : Int32), f_0_gap_7 bL n x1 x2 x3 x4 = some r → At p l e (rmD 1) s m args below meth c D 5 w0 (QI below args s D w0 (fun x w => r = x ∧ (wL t qL bL) = w) 0 0) 0 0 7 [(0, .ref (qL 99)), (1, .int x1), (2, .int x2), (3, .int x3), (4, .int x4)] [] (wL t qL bL) := by
  intro n
  induction n with
  | zero =>
    intro x1 x2 x3 x4 h0
    have h0 : none = some r := h0
    cases h0
  | succ n ih =>
    intro x1 x2 x3 x4 h0
    exact t_0_gap_7_b C qL bL r _ ih x1 x2 x3 x4 h0
def f_0_gap (bL : BV) (x1 : Int32) : Option (Int32) :=
  f_0_gap_7 bL 200 x1 (0 : Int32) (0 : Int32) (0 : Int32)
theorem c_0_gap (l : Launch) (D : va_G) (t : ty4) (qL : Nat → Nat) (bL : BV) (x1 : Int32) {r : Int32} (h0 : f_0_gap bL x1 = some r) : MetI l yX0_gap cX0_gap 5 (some .int) (rmD 1) D t [.ref (qL 99), .int x1] (wL t qL bL) (fun x w => r = x ∧ (wL t qL bL) = w) := by
  refine MetI_of (by decide +kernel) (Nat.le_of_ble_eq_true rfl) (fun p e s m below meth c C _ => ?_)
  unfold f_0_gap at h0
  generalize hargs : (List.toArray [.ref (qL 99), .int x1] : Array Value) = args at C ⊢
  refine At.start (lv2 := [(0, .ref (qL 99)), (1, .int x1)]) rfl ?_
  refine A_iconst C (0 : Int32) dX0_gap_0 (by decide) ?_
  refine A_istore_n C [(2, .int (0 : Int32)), (0, .ref (qL 99)), (1, .int x1)] dX0_gap_1 rfl (by decide) rfl ?_
  refine A_iconst C (0 : Int32) dX0_gap_2 (by decide) ?_
  refine A_istore_n C [(3, .int (0 : Int32)), (2, .int (0 : Int32)), (0, .ref (qL 99)), (1, .int x1)] dX0_gap_3 rfl (by decide) rfl ?_
  refine A_iconst C (0 : Int32) dX0_gap_4 (by decide) ?_
  refine A_istore C [(4, .int (0 : Int32)), (3, .int (0 : Int32)), (2, .int (0 : Int32)), (0, .ref (qL 99)), (1, .int x1)] dX0_gap_5 (by decide) rfl ?_
  exact A_loc [3, 4, 2, 1, 0] rfl (t_0_gap_7 C qL bL r 200 x1 (0 : Int32) (0 : Int32) (0 : Int32) h0)
def f_2_startAnew_2_b (k2 : BV → Int32 → Option (BV)) (bS : BV) (x1 : Int32) : Option (BV) :=
  if (4 : Int32) ≤ x1 then (some (pI (pI (pI bS 3 (0 : Int32)) 4 (0 : Int32)) 5 (0 : Int32))) else ((f_2_setFree bS x1).bind (fun z1 => k2 z1 (x1 + (1 : Int32))))
theorem t_2_startAnew_2_b (C : CX p s m args meth c cX2_startAnew 2 none RX2 D t) (qS : Nat → Nat) (r : BV) (k2 : BV → Int32 → Option (BV)) (K2 : ∀ (bS : BV) (x1 : Int32), k2 bS x1 = some r → At p l e (rmD 1) s m args below meth c D 2 w0 (QV below args s D w0 (fun w => (wS t qS r) = w) 0 0) 0 0 2 [(0, .ref (qS 99)), (1, .int x1)] [] (wS t qS bS)) (bS : BV) (x1 : Int32) (h0 : f_2_startAnew_2_b k2 bS x1 = some r) : At p l e (rmD 1) s m args below meth c D 2 w0 (QV below args s D w0 (fun w => (wS t qS r) = w) 0 0) 0 0 2 [(0, .ref (qS 99)), (1, .int x1)] [] (wS t qS bS) := by
  unfold f_2_startAnew_2_b at h0
  refine A_iload_n C 1 dX2_startAnew_2 rfl rfl ?_
  refine A_iconst C (4 : Int32) dX2_startAnew_3 (by decide) ?_
  refine A_icmp_ge C 18 dX2_startAnew_4 (by decide) h0 (fun h0 => ?_) (fun h0 => ?_)
  · refine A_aload_n C 0 dX2_startAnew_18 rfl rfl ?_
    refine A_iconst C (0 : Int32) dX2_startAnew_19 (by decide) ?_
    refine A_put C 0 3 (wS t qS (pI bS 3 (0 : Int32))) tyX2 inG2 tyX2_ok nmX2 (ci := 2) rfl (by decide) fl_2_21 rfl rfl rfl rfl rfl (Nat.le_of_ble_eq_true rfl) rfl dX2_startAnew_20 ?_
    refine A_aload_n C 0 dX2_startAnew_23 rfl rfl ?_
    refine A_iconst C (0 : Int32) dX2_startAnew_24 (by decide) ?_
    refine A_put C 0 4 (wS t qS (pI (pI bS 3 (0 : Int32)) 4 (0 : Int32))) tyX2 inG2 tyX2_ok nmX2 (ci := 2) rfl (by decide) fl_2_25 rfl rfl rfl rfl rfl (Nat.le_of_ble_eq_true rfl) rfl dX2_startAnew_25 ?_
    refine A_aload_n C 0 dX2_startAnew_28 rfl rfl ?_
    refine A_iconst C (0 : Int32) dX2_startAnew_29 (by decide) ?_
    refine A_put C 0 5 (wS t qS (pI (pI (pI bS 3 (0 : Int32)) 4 (0 : Int32)) 5 (0 : Int32))) tyX2 inG2 tyX2_ok nmX2 (ci := 2) rfl (by decide) fl_2_28 rfl rfl rfl rfl rfl (Nat.le_of_ble_eq_true rfl) rfl dX2_startAnew_30 ?_
    have h0 := Option.some.inj h0
    subst h0
    exact A_vret C dX2_startAnew_33 rfl
  · refine A_aload_n C 0 dX2_startAnew_7 rfl rfl ?_
    refine A_iload_n C 1 dX2_startAnew_8 rfl rfl ?_
    obtain ⟨z1, hz1, h0⟩ := bind_some h0
    refine A_vV (As := [.int x1]) (rest := []) C 0 (c_2_setFree l D t qS bS x1 hz1) mw_2_setFree ml_2_31 im_2_setFree sl_2_setFree (rmok rfl rfl) (cut0 (wS t qS bS)) rfl (ci := 2) rfl rfl rfl (Nat.le_of_ble_eq_true rfl) dX2_startAnew_9 (fun w1 hw1 => ?_)
    subst hw1
    refine A_perm (ws' := (wS t qS z1)) ((cut0 _).symm) ?_
    refine A_iinc C 1 (x1 + (1 : Int32)) [(1, .int (x1 + (1 : Int32))), (0, .ref (qS 99))] dX2_startAnew_12 rfl rfl (by decide) rfl ?_
    refine A_goto C 2 dX2_startAnew_15 (by decide) ?_
    exact A_loc [1, 0] rfl (K2 z1 (x1 + (1 : Int32)) h0)
def f_2_startAnew_2 : Nat → BV → Int32 → Option (BV)
  | 0 => fun _ _ => none
  | n + 1 => f_2_startAnew_2_b (f_2_startAnew_2 n)
theorem t_2_startAnew_2 (C : CX p s m args meth c cX2_startAnew 2 none RX2 D t) (qS : Nat → Nat) (r : BV) : ∀ (n : Nat), ∀ (bS : BV) (x1 : Int32), f_2_startAnew_2 n bS x1 = some r → At p l e (rmD 1) s m args below meth c D 2 w0 (QV below args s D w0 (fun w => (wS t qS r) = w) 0 0) 0 0 2 [(0, .ref (qS 99)), (1, .int x1)] [] (wS t qS bS) := by
  intro n
  induction n with
  | zero =>
    intro bS x1 h0
    have h0 : none = some r := h0
    cases h0
  | succ n ih =>
    intro bS x1 h0
    exact t_2_startAnew_2_b C qS r _ ih bS x1 h0
def f_2_startAnew (bS : BV) : Option (BV) :=
  f_2_startAnew_2 200 bS (0 : Int32)
theorem c_2_startAnew (l : Launch) (D : va_G) (t : ty4) (qS : Nat → Nat) (bS : BV) {r : BV} (h0 : f_2_startAnew bS = some r) : MetV l yX2_startAnew cX2_startAnew 2 none (rmD 1) D t [.ref (qS 99)] (wS t qS bS) (fun w => (wS t qS r) = w) := by
  refine MetV_of (by decide +kernel) (Nat.le_of_ble_eq_true rfl) (fun p e s m below meth c C _ => ?_)
  unfold f_2_startAnew at h0
  generalize hargs : (List.toArray [.ref (qS 99)] : Array Value) = args at C ⊢
  refine At.start (lv2 := [(0, .ref (qS 99))]) rfl ?_
  refine A_iconst C (0 : Int32) dX2_startAnew_0 (by decide) ?_
  refine A_istore_n C [(1, .int (0 : Int32)), (0, .ref (qS 99))] dX2_startAnew_1 rfl (by decide) rfl ?_
  exact A_loc [1, 0] rfl (t_2_startAnew_2 C qS r 200 bS (0 : Int32) h0)
def f_2_loanOf_2_b (bS : BV) (k2 : Int32 → Int32 → Option (Int32)) (x1 : Int32) (x2 : Int32) : Option (Int32) :=
  if (4 : Int32) ≤ x2 then (some (-9 : Int32)) else (ck (inb x2 4) ((f_5_has (gA bS 0 x2) x1).bind (fun z1 => if z1 = 0 then (k2 x1 (x2 + (1 : Int32))) else (some x2))))
theorem t_2_loanOf_2_b (C : CX p s m args meth c cX2_loanOf 3 (some .int) RX2 D t) (qS : Nat → Nat) (bS : BV) (r : Int32) (k2 : Int32 → Int32 → Option (Int32)) (K2 : ∀ (x1 : Int32) (x2 : Int32), k2 x1 x2 = some r → At p l e (rmD 1) s m args below meth c D 3 w0 (QI below args s D w0 (fun x w => r = x ∧ (wS t qS bS) = w) 0 0) 0 0 2 [(0, .ref (qS 99)), (1, .int x1), (2, .int x2)] [] (wS t qS bS)) (x1 : Int32) (x2 : Int32) (h0 : f_2_loanOf_2_b bS k2 x1 x2 = some r) : At p l e (rmD 1) s m args below meth c D 3 w0 (QI below args s D w0 (fun x w => r = x ∧ (wS t qS bS) = w) 0 0) 0 0 2 [(0, .ref (qS 99)), (1, .int x1), (2, .int x2)] [] (wS t qS bS) := by
  unfold f_2_loanOf_2_b at h0
  refine A_iload_n C 2 dX2_loanOf_2 rfl rfl ?_
  refine A_iconst C (4 : Int32) dX2_loanOf_3 (by decide) ?_
  refine A_icmp_ge C 28 dX2_loanOf_4 (by decide) h0 (fun h0 => ?_) (fun h0 => ?_)
  · refine A_bipush C (-9 : Int32) dX2_loanOf_28 (by decide) ?_
    have h0 := Option.some.inj h0
    subst h0
    exact A_iret C dX2_loanOf_30 ⟨rfl, rfl⟩
  · refine A_aload_n C 0 dX2_loanOf_7 rfl rfl ?_
    refine A_get (v := .ref (qS 0)) C 0 0 inG2 (ci := 2) rfl (by decide) fl_2_9 rfl rfl rfl dX2_loanOf_8 ?_
    refine A_iload_n C 2 dX2_loanOf_11 rfl rfl ?_
    refine A_iald C 1 (gA bS 0 x2) rfl rfl dX2_loanOf_12 h0 (fun h0 => ?_)
    refine A_iload_n C 1 dX2_loanOf_13 rfl rfl ?_
    obtain ⟨z1, hz1, h0⟩ := bind_some h0
    refine A_snI (As := [.int (gA bS 0 x2), .int x1]) (rest := []) C (c_5_has l D t (gA bS 0 x2) x1 hz1) mw_5_has C.2.2.2.2.1.2.2.2.2.2.2.2.1 st_5_has (rmok rfl rfl) (cutN (wS t qS bS)) rfl rfl (Nat.le_of_ble_eq_true rfl) dX2_loanOf_14 (fun x w1 hw1 => ?_)
    obtain ⟨rfl, rfl⟩ := hw1
    refine A_perm (ws' := (wS t qS bS)) ((cutN _).symm) ?_
    refine A_if_eq C 22 dX2_loanOf_17 (by decide) h0 (fun h0 => ?_) (fun h0 => ?_)
    · refine A_iinc C 2 (x2 + (1 : Int32)) [(2, .int (x2 + (1 : Int32))), (0, .ref (qS 99)), (1, .int x1)] dX2_loanOf_22 rfl rfl (by decide) rfl ?_
      refine A_goto C 2 dX2_loanOf_25 (by decide) ?_
      exact A_loc [1, 2, 0] rfl (K2 x1 (x2 + (1 : Int32)) h0)
    · refine A_iload_n C 2 dX2_loanOf_20 rfl rfl ?_
      have h0 := Option.some.inj h0
      subst h0
      exact A_iret C dX2_loanOf_21 ⟨rfl, rfl⟩
def f_2_loanOf_2 (bS : BV) : Nat → Int32 → Int32 → Option (Int32)
  | 0 => fun _ _ => none
  | n + 1 => f_2_loanOf_2_b bS (f_2_loanOf_2 bS n)
theorem t_2_loanOf_2 (C : CX p s m args meth c cX2_loanOf 3 (some .int) RX2 D t) (qS : Nat → Nat) (bS : BV) (r : Int32) : ∀ (n : Nat), ∀ (x1 : Int32) (x2 : Int32), f_2_loanOf_2 bS n x1 x2 = some r → At p l e (rmD 1) s m args below meth c D 3 w0 (QI below args s D w0 (fun x w => r = x ∧ (wS t qS bS) = w) 0 0) 0 0 2 [(0, .ref (qS 99)), (1, .int x1), (2, .int x2)] [] (wS t qS bS) := by
  intro n
  induction n with
  | zero =>
    intro x1 x2 h0
    have h0 : none = some r := h0
    cases h0
  | succ n ih =>
    intro x1 x2 h0
    exact t_2_loanOf_2_b C qS bS r _ ih x1 x2 h0
def f_2_loanOf (bS : BV) (x1 : Int32) : Option (Int32) :=
  f_2_loanOf_2 bS 200 x1 (0 : Int32)
theorem c_2_loanOf (l : Launch) (D : va_G) (t : ty4) (qS : Nat → Nat) (bS : BV) (x1 : Int32) {r : Int32} (h0 : f_2_loanOf bS x1 = some r) : MetI l yX2_loanOf cX2_loanOf 3 (some .int) (rmD 1) D t [.ref (qS 99), .int x1] (wS t qS bS) (fun x w => r = x ∧ (wS t qS bS) = w) := by
  refine MetI_of (by decide +kernel) (Nat.le_of_ble_eq_true rfl) (fun p e s m below meth c C _ => ?_)
  unfold f_2_loanOf at h0
  generalize hargs : (List.toArray [.ref (qS 99), .int x1] : Array Value) = args at C ⊢
  refine At.start (lv2 := [(0, .ref (qS 99)), (1, .int x1)]) rfl ?_
  refine A_iconst C (0 : Int32) dX2_loanOf_0 (by decide) ?_
  refine A_istore_n C [(2, .int (0 : Int32)), (0, .ref (qS 99)), (1, .int x1)] dX2_loanOf_1 rfl (by decide) rfl ?_
  exact A_loc [1, 2, 0] rfl (t_2_loanOf_2 C qS bS r 200 x1 (0 : Int32) h0)
def f_2_daysOfSet_26 (bS : BV) (k4 : Int32 → Int32 → Int32 → Option (Int32)) (x1 : Int32) (x2 : Int32) (x3 : Int32) : Option (Int32) :=
  k4 x1 x2 (x3 + (1 : Int32))
theorem t_2_daysOfSet_26 (C : CX p s m args meth c cX2_daysOfSet 4 (some .int) RX2 D t) (qS : Nat → Nat) (bS : BV) (r : Int32) (k4 : Int32 → Int32 → Int32 → Option (Int32)) (K4 : ∀ (x1 : Int32) (x2 : Int32) (x3 : Int32), k4 x1 x2 x3 = some r → At p l e (rmD 1) s m args below meth c D 4 w0 (QI below args s D w0 (fun x w => r = x ∧ (wS t qS bS) = w) 0 0) 0 0 4 [(0, .ref (qS 99)), (1, .int x1), (2, .int x2), (3, .int x3)] [] (wS t qS bS)) (x1 : Int32) (x2 : Int32) (x3 : Int32) (h0 : f_2_daysOfSet_26 bS k4 x1 x2 x3 = some r) : At p l e (rmD 1) s m args below meth c D 4 w0 (QI below args s D w0 (fun x w => r = x ∧ (wS t qS bS) = w) 0 0) 0 0 26 [(0, .ref (qS 99)), (1, .int x1), (2, .int x2), (3, .int x3)] [] (wS t qS bS) := by
  unfold f_2_daysOfSet_26 at h0
  refine A_iinc C 3 (x3 + (1 : Int32)) [(3, .int (x3 + (1 : Int32))), (0, .ref (qS 99)), (1, .int x1), (2, .int x2)] dX2_daysOfSet_26 rfl rfl (by decide) rfl ?_
  refine A_goto C 4 dX2_daysOfSet_29 (by decide) ?_
  exact A_loc [1, 2, 3, 0] rfl (K4 x1 x2 (x3 + (1 : Int32)) h0)
def f_2_daysOfSet_4_b (bS : BV) (k4 : Int32 → Int32 → Int32 → Option (Int32)) (x1 : Int32) (x2 : Int32) (x3 : Int32) : Option (Int32) :=
  if (4 : Int32) ≤ x3 then (some x2) else ((f_5_has x1 x3).bind (fun z1 => if z1 = 0 then (f_2_daysOfSet_26 bS k4 x1 x2 x3) else (ck (inb x3 4) (f_2_daysOfSet_26 bS k4 x1 (x2 ||| (gA bS 0 x3)) x3))))
theorem t_2_daysOfSet_4_b (C : CX p s m args meth c cX2_daysOfSet 4 (some .int) RX2 D t) (qS : Nat → Nat) (bS : BV) (r : Int32) (k4 : Int32 → Int32 → Int32 → Option (Int32)) (K4 : ∀ (x1 : Int32) (x2 : Int32) (x3 : Int32), k4 x1 x2 x3 = some r → At p l e (rmD 1) s m args below meth c D 4 w0 (QI below args s D w0 (fun x w => r = x ∧ (wS t qS bS) = w) 0 0) 0 0 4 [(0, .ref (qS 99)), (1, .int x1), (2, .int x2), (3, .int x3)] [] (wS t qS bS)) (x1 : Int32) (x2 : Int32) (x3 : Int32) (h0 : f_2_daysOfSet_4_b bS k4 x1 x2 x3 = some r) : At p l e (rmD 1) s m args below meth c D 4 w0 (QI below args s D w0 (fun x w => r = x ∧ (wS t qS bS) = w) 0 0) 0 0 4 [(0, .ref (qS 99)), (1, .int x1), (2, .int x2), (3, .int x3)] [] (wS t qS bS) := by
  unfold f_2_daysOfSet_4_b at h0
  refine A_iload_n C 3 dX2_daysOfSet_4 rfl rfl ?_
  refine A_iconst C (4 : Int32) dX2_daysOfSet_5 (by decide) ?_
  refine A_icmp_ge C 32 dX2_daysOfSet_6 (by decide) h0 (fun h0 => ?_) (fun h0 => ?_)
  · refine A_iload_n C 2 dX2_daysOfSet_32 rfl rfl ?_
    have h0 := Option.some.inj h0
    subst h0
    exact A_iret C dX2_daysOfSet_33 ⟨rfl, rfl⟩
  · refine A_iload_n C 1 dX2_daysOfSet_9 rfl rfl ?_
    refine A_iload_n C 3 dX2_daysOfSet_10 rfl rfl ?_
    obtain ⟨z1, hz1, h0⟩ := bind_some h0
    refine A_snI (As := [.int x1, .int x3]) (rest := []) C (c_5_has l D t x1 x3 hz1) mw_5_has C.2.2.2.2.1.2.2.2.2.2.2.2.1 st_5_has (rmok rfl rfl) (cutN (wS t qS bS)) rfl rfl (Nat.le_of_ble_eq_true rfl) dX2_daysOfSet_11 (fun x w1 hw1 => ?_)
    obtain ⟨rfl, rfl⟩ := hw1
    refine A_perm (ws' := (wS t qS bS)) ((cutN _).symm) ?_
    refine A_if_eq C 26 dX2_daysOfSet_14 (by decide) h0 (fun h0 => ?_) (fun h0 => ?_)
    · exact A_loc [0, 1, 2, 3] rfl (t_2_daysOfSet_26 C qS bS r k4 K4 x1 x2 x3 h0)
    · refine A_iload_n C 2 dX2_daysOfSet_17 rfl rfl ?_
      refine A_aload_n C 0 dX2_daysOfSet_18 rfl rfl ?_
      refine A_get (v := .ref (qS 0)) C 0 0 inG2 (ci := 2) rfl (by decide) fl_2_9 rfl rfl rfl dX2_daysOfSet_19 ?_
      refine A_iload_n C 3 dX2_daysOfSet_22 rfl rfl ?_
      refine A_iald C 1 (gA bS 0 x3) rfl rfl dX2_daysOfSet_23 h0 (fun h0 => ?_)
      refine A_ior C dX2_daysOfSet_24 ?_
      refine A_istore_n C [(2, .int (x2 ||| (gA bS 0 x3))), (0, .ref (qS 99)), (1, .int x1), (3, .int x3)] dX2_daysOfSet_25 rfl (by decide) rfl ?_
      exact A_loc [1, 2, 0, 3] rfl (t_2_daysOfSet_26 C qS bS r k4 K4 x1 (x2 ||| (gA bS 0 x3)) x3 h0)
def f_2_daysOfSet_4 (bS : BV) : Nat → Int32 → Int32 → Int32 → Option (Int32)
  | 0 => fun _ _ _ => none
  | n + 1 => f_2_daysOfSet_4_b bS (f_2_daysOfSet_4 bS n)
theorem t_2_daysOfSet_4 (C : CX p s m args meth c cX2_daysOfSet 4 (some .int) RX2 D t) (qS : Nat → Nat) (bS : BV) (r : Int32) : ∀ (n : Nat), ∀ (x1 : Int32) (x2 : Int32) (x3 : Int32), f_2_daysOfSet_4 bS n x1 x2 x3 = some r → At p l e (rmD 1) s m args below meth c D 4 w0 (QI below args s D w0 (fun x w => r = x ∧ (wS t qS bS) = w) 0 0) 0 0 4 [(0, .ref (qS 99)), (1, .int x1), (2, .int x2), (3, .int x3)] [] (wS t qS bS) := by
  intro n
  induction n with
  | zero =>
    intro x1 x2 x3 h0
    have h0 : none = some r := h0
    cases h0
  | succ n ih =>
    intro x1 x2 x3 h0
    exact t_2_daysOfSet_4_b C qS bS r _ ih x1 x2 x3 h0
def f_2_daysOfSet (bS : BV) (x1 : Int32) : Option (Int32) :=
  f_2_daysOfSet_4 bS 200 x1 (0 : Int32) (0 : Int32)
theorem c_2_daysOfSet (l : Launch) (D : va_G) (t : ty4) (qS : Nat → Nat) (bS : BV) (x1 : Int32) {r : Int32} (h0 : f_2_daysOfSet bS x1 = some r) : MetI l yX2_daysOfSet cX2_daysOfSet 4 (some .int) (rmD 1) D t [.ref (qS 99), .int x1] (wS t qS bS) (fun x w => r = x ∧ (wS t qS bS) = w) := by
  refine MetI_of (by decide +kernel) (Nat.le_of_ble_eq_true rfl) (fun p e s m below meth c C _ => ?_)
  unfold f_2_daysOfSet at h0
  generalize hargs : (List.toArray [.ref (qS 99), .int x1] : Array Value) = args at C ⊢
  refine At.start (lv2 := [(0, .ref (qS 99)), (1, .int x1)]) rfl ?_
  refine A_iconst C (0 : Int32) dX2_daysOfSet_0 (by decide) ?_
  refine A_istore_n C [(2, .int (0 : Int32)), (0, .ref (qS 99)), (1, .int x1)] dX2_daysOfSet_1 rfl (by decide) rfl ?_
  refine A_iconst C (0 : Int32) dX2_daysOfSet_2 (by decide) ?_
  refine A_istore_n C [(3, .int (0 : Int32)), (2, .int (0 : Int32)), (0, .ref (qS 99)), (1, .int x1)] dX2_daysOfSet_3 rfl (by decide) rfl ?_
  exact A_loc [2, 3, 1, 0] rfl (t_2_daysOfSet_4 C qS bS r 200 x1 (0 : Int32) (0 : Int32) h0)
def f_2_costOfSet_26 (bS : BV) (k4 : Int32 → Int32 → Int32 → Option (Int32)) (x1 : Int32) (x2 : Int32) (x3 : Int32) : Option (Int32) :=
  k4 x1 x2 (x3 + (1 : Int32))
theorem t_2_costOfSet_26 (C : CX p s m args meth c cX2_costOfSet 4 (some .int) RX2 D t) (qS : Nat → Nat) (bS : BV) (r : Int32) (k4 : Int32 → Int32 → Int32 → Option (Int32)) (K4 : ∀ (x1 : Int32) (x2 : Int32) (x3 : Int32), k4 x1 x2 x3 = some r → At p l e (rmD 1) s m args below meth c D 4 w0 (QI below args s D w0 (fun x w => r = x ∧ (wS t qS bS) = w) 0 0) 0 0 4 [(0, .ref (qS 99)), (1, .int x1), (2, .int x2), (3, .int x3)] [] (wS t qS bS)) (x1 : Int32) (x2 : Int32) (x3 : Int32) (h0 : f_2_costOfSet_26 bS k4 x1 x2 x3 = some r) : At p l e (rmD 1) s m args below meth c D 4 w0 (QI below args s D w0 (fun x w => r = x ∧ (wS t qS bS) = w) 0 0) 0 0 26 [(0, .ref (qS 99)), (1, .int x1), (2, .int x2), (3, .int x3)] [] (wS t qS bS) := by
  unfold f_2_costOfSet_26 at h0
  refine A_iinc C 3 (x3 + (1 : Int32)) [(3, .int (x3 + (1 : Int32))), (0, .ref (qS 99)), (1, .int x1), (2, .int x2)] dX2_costOfSet_26 rfl rfl (by decide) rfl ?_
  refine A_goto C 4 dX2_costOfSet_29 (by decide) ?_
  exact A_loc [1, 2, 3, 0] rfl (K4 x1 x2 (x3 + (1 : Int32)) h0)
def f_2_costOfSet_4_b (bS : BV) (k4 : Int32 → Int32 → Int32 → Option (Int32)) (x1 : Int32) (x2 : Int32) (x3 : Int32) : Option (Int32) :=
  if (4 : Int32) ≤ x3 then (some x2) else ((f_5_has x1 x3).bind (fun z1 => if z1 = 0 then (f_2_costOfSet_26 bS k4 x1 x2 x3) else (ck (inb x3 4) (f_2_costOfSet_26 bS k4 x1 (x2 + (gA bS 1 x3)) x3))))
theorem t_2_costOfSet_4_b (C : CX p s m args meth c cX2_costOfSet 4 (some .int) RX2 D t) (qS : Nat → Nat) (bS : BV) (r : Int32) (k4 : Int32 → Int32 → Int32 → Option (Int32)) (K4 : ∀ (x1 : Int32) (x2 : Int32) (x3 : Int32), k4 x1 x2 x3 = some r → At p l e (rmD 1) s m args below meth c D 4 w0 (QI below args s D w0 (fun x w => r = x ∧ (wS t qS bS) = w) 0 0) 0 0 4 [(0, .ref (qS 99)), (1, .int x1), (2, .int x2), (3, .int x3)] [] (wS t qS bS)) (x1 : Int32) (x2 : Int32) (x3 : Int32) (h0 : f_2_costOfSet_4_b bS k4 x1 x2 x3 = some r) : At p l e (rmD 1) s m args below meth c D 4 w0 (QI below args s D w0 (fun x w => r = x ∧ (wS t qS bS) = w) 0 0) 0 0 4 [(0, .ref (qS 99)), (1, .int x1), (2, .int x2), (3, .int x3)] [] (wS t qS bS) := by
  unfold f_2_costOfSet_4_b at h0
  refine A_iload_n C 3 dX2_costOfSet_4 rfl rfl ?_
  refine A_iconst C (4 : Int32) dX2_costOfSet_5 (by decide) ?_
  refine A_icmp_ge C 32 dX2_costOfSet_6 (by decide) h0 (fun h0 => ?_) (fun h0 => ?_)
  · refine A_iload_n C 2 dX2_costOfSet_32 rfl rfl ?_
    have h0 := Option.some.inj h0
    subst h0
    exact A_iret C dX2_costOfSet_33 ⟨rfl, rfl⟩
  · refine A_iload_n C 1 dX2_costOfSet_9 rfl rfl ?_
    refine A_iload_n C 3 dX2_costOfSet_10 rfl rfl ?_
    obtain ⟨z1, hz1, h0⟩ := bind_some h0
    refine A_snI (As := [.int x1, .int x3]) (rest := []) C (c_5_has l D t x1 x3 hz1) mw_5_has C.2.2.2.2.1.2.2.2.2.2.2.2.1 st_5_has (rmok rfl rfl) (cutN (wS t qS bS)) rfl rfl (Nat.le_of_ble_eq_true rfl) dX2_costOfSet_11 (fun x w1 hw1 => ?_)
    obtain ⟨rfl, rfl⟩ := hw1
    refine A_perm (ws' := (wS t qS bS)) ((cutN _).symm) ?_
    refine A_if_eq C 26 dX2_costOfSet_14 (by decide) h0 (fun h0 => ?_) (fun h0 => ?_)
    · exact A_loc [0, 1, 2, 3] rfl (t_2_costOfSet_26 C qS bS r k4 K4 x1 x2 x3 h0)
    · refine A_iload_n C 2 dX2_costOfSet_17 rfl rfl ?_
      refine A_aload_n C 0 dX2_costOfSet_18 rfl rfl ?_
      refine A_get (v := .ref (qS 1)) C 0 1 inG2 (ci := 2) rfl (by decide) fl_2_15 rfl rfl rfl dX2_costOfSet_19 ?_
      refine A_iload_n C 3 dX2_costOfSet_22 rfl rfl ?_
      refine A_iald C 2 (gA bS 1 x3) rfl rfl dX2_costOfSet_23 h0 (fun h0 => ?_)
      refine A_iadd C dX2_costOfSet_24 ?_
      refine A_istore_n C [(2, .int (x2 + (gA bS 1 x3))), (0, .ref (qS 99)), (1, .int x1), (3, .int x3)] dX2_costOfSet_25 rfl (by decide) rfl ?_
      exact A_loc [1, 2, 0, 3] rfl (t_2_costOfSet_26 C qS bS r k4 K4 x1 (x2 + (gA bS 1 x3)) x3 h0)
def f_2_costOfSet_4 (bS : BV) : Nat → Int32 → Int32 → Int32 → Option (Int32)
  | 0 => fun _ _ _ => none
  | n + 1 => f_2_costOfSet_4_b bS (f_2_costOfSet_4 bS n)
theorem t_2_costOfSet_4 (C : CX p s m args meth c cX2_costOfSet 4 (some .int) RX2 D t) (qS : Nat → Nat) (bS : BV) (r : Int32) : ∀ (n : Nat), ∀ (x1 : Int32) (x2 : Int32) (x3 : Int32), f_2_costOfSet_4 bS n x1 x2 x3 = some r → At p l e (rmD 1) s m args below meth c D 4 w0 (QI below args s D w0 (fun x w => r = x ∧ (wS t qS bS) = w) 0 0) 0 0 4 [(0, .ref (qS 99)), (1, .int x1), (2, .int x2), (3, .int x3)] [] (wS t qS bS) := by
  intro n
  induction n with
  | zero =>
    intro x1 x2 x3 h0
    have h0 : none = some r := h0
    cases h0
  | succ n ih =>
    intro x1 x2 x3 h0
    exact t_2_costOfSet_4_b C qS bS r _ ih x1 x2 x3 h0
def f_2_costOfSet (bS : BV) (x1 : Int32) : Option (Int32) :=
  f_2_costOfSet_4 bS 200 x1 (0 : Int32) (0 : Int32)
theorem c_2_costOfSet (l : Launch) (D : va_G) (t : ty4) (qS : Nat → Nat) (bS : BV) (x1 : Int32) {r : Int32} (h0 : f_2_costOfSet bS x1 = some r) : MetI l yX2_costOfSet cX2_costOfSet 4 (some .int) (rmD 1) D t [.ref (qS 99), .int x1] (wS t qS bS) (fun x w => r = x ∧ (wS t qS bS) = w) := by
  refine MetI_of (by decide +kernel) (Nat.le_of_ble_eq_true rfl) (fun p e s m below meth c C _ => ?_)
  unfold f_2_costOfSet at h0
  generalize hargs : (List.toArray [.ref (qS 99), .int x1] : Array Value) = args at C ⊢
  refine At.start (lv2 := [(0, .ref (qS 99)), (1, .int x1)]) rfl ?_
  refine A_iconst C (0 : Int32) dX2_costOfSet_0 (by decide) ?_
  refine A_istore_n C [(2, .int (0 : Int32)), (0, .ref (qS 99)), (1, .int x1)] dX2_costOfSet_1 rfl (by decide) rfl ?_
  refine A_iconst C (0 : Int32) dX2_costOfSet_2 (by decide) ?_
  refine A_istore_n C [(3, .int (0 : Int32)), (2, .int (0 : Int32)), (0, .ref (qS 99)), (1, .int x1)] dX2_costOfSet_3 rfl (by decide) rfl ?_
  exact A_loc [2, 3, 1, 0] rfl (t_2_costOfSet_4 C qS bS r 200 x1 (0 : Int32) (0 : Int32) h0)
def f_2_isSetOfLoans_25 (bS : BV) (k2 : Int32 → Int32 → Option (Int32)) (x1 : Int32) (x2 : Int32) : Option (Int32) :=
  k2 x1 (x2 + (1 : Int32))
theorem t_2_isSetOfLoans_25 (C : CX p s m args meth c cX2_isSetOfLoans 3 (some .boolean) RX2 D t) (qS : Nat → Nat) (bS : BV) (r : Int32) (k2 : Int32 → Int32 → Option (Int32)) (K2 : ∀ (x1 : Int32) (x2 : Int32), k2 x1 x2 = some r → At p l e (rmD 1) s m args below meth c D 3 w0 (QI below args s D w0 (fun x w => r = x ∧ (wS t qS bS) = w) 0 0) 0 0 2 [(0, .ref (qS 99)), (1, .int x1), (2, .int x2)] [] (wS t qS bS)) (x1 : Int32) (x2 : Int32) (h0 : f_2_isSetOfLoans_25 bS k2 x1 x2 = some r) : At p l e (rmD 1) s m args below meth c D 3 w0 (QI below args s D w0 (fun x w => r = x ∧ (wS t qS bS) = w) 0 0) 0 0 25 [(0, .ref (qS 99)), (1, .int x1), (2, .int x2)] [] (wS t qS bS) := by
  unfold f_2_isSetOfLoans_25 at h0
  refine A_iinc C 2 (x2 + (1 : Int32)) [(2, .int (x2 + (1 : Int32))), (0, .ref (qS 99)), (1, .int x1)] dX2_isSetOfLoans_25 rfl rfl (by decide) rfl ?_
  refine A_goto C 2 dX2_isSetOfLoans_28 (by decide) ?_
  exact A_loc [1, 2, 0] rfl (K2 x1 (x2 + (1 : Int32)) h0)
def f_2_isSetOfLoans_2_b (bS : BV) (k2 : Int32 → Int32 → Option (Int32)) (x1 : Int32) (x2 : Int32) : Option (Int32) :=
  if (4 : Int32) ≤ x2 then (some (1 : Int32)) else ((f_5_has x1 x2).bind (fun z1 => if z1 = 0 then (f_2_isSetOfLoans_25 bS k2 x1 x2) else ((f_2_isFree bS x2).bind (fun z2 => if z2 = 0 then (f_2_isSetOfLoans_25 bS k2 x1 x2) else (some (0 : Int32))))))
theorem t_2_isSetOfLoans_2_b (C : CX p s m args meth c cX2_isSetOfLoans 3 (some .boolean) RX2 D t) (qS : Nat → Nat) (bS : BV) (r : Int32) (k2 : Int32 → Int32 → Option (Int32)) (K2 : ∀ (x1 : Int32) (x2 : Int32), k2 x1 x2 = some r → At p l e (rmD 1) s m args below meth c D 3 w0 (QI below args s D w0 (fun x w => r = x ∧ (wS t qS bS) = w) 0 0) 0 0 2 [(0, .ref (qS 99)), (1, .int x1), (2, .int x2)] [] (wS t qS bS)) (x1 : Int32) (x2 : Int32) (h0 : f_2_isSetOfLoans_2_b bS k2 x1 x2 = some r) : At p l e (rmD 1) s m args below meth c D 3 w0 (QI below args s D w0 (fun x w => r = x ∧ (wS t qS bS) = w) 0 0) 0 0 2 [(0, .ref (qS 99)), (1, .int x1), (2, .int x2)] [] (wS t qS bS) := by
  unfold f_2_isSetOfLoans_2_b at h0
  refine A_iload_n C 2 dX2_isSetOfLoans_2 rfl rfl ?_
  refine A_iconst C (4 : Int32) dX2_isSetOfLoans_3 (by decide) ?_
  refine A_icmp_ge C 31 dX2_isSetOfLoans_4 (by decide) h0 (fun h0 => ?_) (fun h0 => ?_)
  · refine A_iconst C (1 : Int32) dX2_isSetOfLoans_31 (by decide) ?_
    have h0 := Option.some.inj h0
    subst h0
    exact A_zret C dX2_isSetOfLoans_32 rfl ⟨rfl, rfl⟩
  · refine A_iload_n C 1 dX2_isSetOfLoans_7 rfl rfl ?_
    refine A_iload_n C 2 dX2_isSetOfLoans_8 rfl rfl ?_
    obtain ⟨z1, hz1, h0⟩ := bind_some h0
    refine A_snI (As := [.int x1, .int x2]) (rest := []) C (c_5_has l D t x1 x2 hz1) mw_5_has C.2.2.2.2.1.2.2.2.2.2.2.2.1 st_5_has (rmok rfl rfl) (cutN (wS t qS bS)) rfl rfl (Nat.le_of_ble_eq_true rfl) dX2_isSetOfLoans_9 (fun x w1 hw1 => ?_)
    obtain ⟨rfl, rfl⟩ := hw1
    refine A_perm (ws' := (wS t qS bS)) ((cutN _).symm) ?_
    refine A_if_eq C 25 dX2_isSetOfLoans_12 (by decide) h0 (fun h0 => ?_) (fun h0 => ?_)
    · exact A_loc [0, 1, 2] rfl (t_2_isSetOfLoans_25 C qS bS r k2 K2 x1 x2 h0)
    · refine A_aload_n C 0 dX2_isSetOfLoans_15 rfl rfl ?_
      refine A_iload_n C 2 dX2_isSetOfLoans_16 rfl rfl ?_
      obtain ⟨z2, hz2, h0⟩ := bind_some h0
      refine A_vI (As := [.int x2]) (rest := []) C 0 (c_2_isFree l D t qS bS x2 hz2) mw_2_isFree ml_2_35 im_2_isFree sl_2_isFree (rmok rfl rfl) (cut0 (wS t qS bS)) rfl (ci := 2) rfl rfl rfl (Nat.le_of_ble_eq_true rfl) dX2_isSetOfLoans_17 (fun x w1 hw1 => ?_)
      obtain ⟨rfl, rfl⟩ := hw1
      refine A_perm (ws' := (wS t qS bS)) ((cut0 _).symm) ?_
      refine A_if_eq C 25 dX2_isSetOfLoans_20 (by decide) h0 (fun h0 => ?_) (fun h0 => ?_)
      · exact A_loc [0, 1, 2] rfl (t_2_isSetOfLoans_25 C qS bS r k2 K2 x1 x2 h0)
      · refine A_iconst C (0 : Int32) dX2_isSetOfLoans_23 (by decide) ?_
        have h0 := Option.some.inj h0
        subst h0
        exact A_zret C dX2_isSetOfLoans_24 rfl ⟨rfl, rfl⟩
def f_2_isSetOfLoans_2 (bS : BV) : Nat → Int32 → Int32 → Option (Int32)
  | 0 => fun _ _ => none
  | n + 1 => f_2_isSetOfLoans_2_b bS (f_2_isSetOfLoans_2 bS n)
theorem t_2_isSetOfLoans_2 (C : CX p s m args meth c cX2_isSetOfLoans 3 (some .boolean) RX2 D t) (qS : Nat → Nat) (bS : BV) (r : Int32) : ∀ (n : Nat), ∀ (x1 : Int32) (x2 : Int32), f_2_isSetOfLoans_2 bS n x1 x2 = some r → At p l e (rmD 1) s m args below meth c D 3 w0 (QI below args s D w0 (fun x w => r = x ∧ (wS t qS bS) = w) 0 0) 0 0 2 [(0, .ref (qS 99)), (1, .int x1), (2, .int x2)] [] (wS t qS bS) := by
  intro n
  induction n with
  | zero =>
    intro x1 x2 h0
    have h0 : none = some r := h0
    cases h0
  | succ n ih =>
    intro x1 x2 h0
    exact t_2_isSetOfLoans_2_b C qS bS r _ ih x1 x2 h0
def f_2_isSetOfLoans (bS : BV) (x1 : Int32) : Option (Int32) :=
  f_2_isSetOfLoans_2 bS 200 x1 (0 : Int32)
theorem c_2_isSetOfLoans (l : Launch) (D : va_G) (t : ty4) (qS : Nat → Nat) (bS : BV) (x1 : Int32) {r : Int32} (h0 : f_2_isSetOfLoans bS x1 = some r) : MetI l yX2_isSetOfLoans cX2_isSetOfLoans 3 (some .boolean) (rmD 1) D t [.ref (qS 99), .int x1] (wS t qS bS) (fun x w => r = x ∧ (wS t qS bS) = w) := by
  refine MetI_of (by decide +kernel) (Nat.le_of_ble_eq_true rfl) (fun p e s m below meth c C _ => ?_)
  unfold f_2_isSetOfLoans at h0
  generalize hargs : (List.toArray [.ref (qS 99), .int x1] : Array Value) = args at C ⊢
  refine At.start (lv2 := [(0, .ref (qS 99)), (1, .int x1)]) rfl ?_
  refine A_iconst C (0 : Int32) dX2_isSetOfLoans_0 (by decide) ?_
  refine A_istore_n C [(2, .int (0 : Int32)), (0, .ref (qS 99)), (1, .int x1)] dX2_isSetOfLoans_1 rfl (by decide) rfl ?_
  exact A_loc [1, 2, 0] rfl (t_2_isSetOfLoans_2 C qS bS r 200 x1 (0 : Int32) h0)
def f_2_redeem (bS : BV) (x1 : Int32) : Option (BV) :=
  ck (inb x1 4) ((f_2_setFree (pI bS 4 ((gI bS 4) - (gA bS 1 x1))) x1).bind (fun z1 => some z1))
theorem c_2_redeem (l : Launch) (D : va_G) (t : ty4) (qS : Nat → Nat) (bS : BV) (x1 : Int32) {r : BV} (h0 : f_2_redeem bS x1 = some r) : MetV l yX2_redeem cX2_redeem 2 none (rmD 1) D t [.ref (qS 99), .int x1] (wS t qS bS) (fun w => (wS t qS r) = w) := by
  refine MetV_of (by decide +kernel) (Nat.le_of_ble_eq_true rfl) (fun p e s m below meth c C _ => ?_)
  unfold f_2_redeem at h0
  generalize hargs : (List.toArray [.ref (qS 99), .int x1] : Array Value) = args at C ⊢
  refine At.start (lv2 := [(0, .ref (qS 99)), (1, .int x1)]) rfl ?_
  refine A_aload_n C 0 dX2_redeem_0 rfl rfl ?_
  refine A_dup C dX2_redeem_1 rfl ?_
  refine A_get (v := .int (gI bS 4)) C 0 4 inG2 (ci := 2) rfl (by decide) fl_2_25 rfl rfl rfl dX2_redeem_2 ?_
  refine A_aload_n C 0 dX2_redeem_5 rfl rfl ?_
  refine A_get (v := .ref (qS 1)) C 0 1 inG2 (ci := 2) rfl (by decide) fl_2_15 rfl rfl rfl dX2_redeem_6 ?_
  refine A_iload_n C 1 dX2_redeem_9 rfl rfl ?_
  refine A_iald C 2 (gA bS 1 x1) rfl rfl dX2_redeem_10 h0 (fun h0 => ?_)
  refine A_isub C dX2_redeem_11 ?_
  refine A_put C 0 4 (wS t qS (pI bS 4 ((gI bS 4) - (gA bS 1 x1)))) tyX2 inG2 tyX2_ok nmX2 (ci := 2) rfl (by decide) fl_2_25 rfl rfl rfl rfl rfl (Nat.le_of_ble_eq_true rfl) rfl dX2_redeem_12 ?_
  refine A_aload_n C 0 dX2_redeem_15 rfl rfl ?_
  refine A_iload_n C 1 dX2_redeem_16 rfl rfl ?_
  obtain ⟨z1, hz1, h0⟩ := bind_some h0
  refine A_vV (As := [.int x1]) (rest := []) C 0 (c_2_setFree l D t qS (pI bS 4 ((gI bS 4) - (gA bS 1 x1))) x1 hz1) mw_2_setFree ml_2_31 im_2_setFree sl_2_setFree (rmok rfl rfl) (cut0 (wS t qS (pI bS 4 ((gI bS 4) - (gA bS 1 x1))))) rfl (ci := 2) rfl rfl rfl (Nat.le_of_ble_eq_true rfl) dX2_redeem_17 (fun w1 hw1 => ?_)
  subst hw1
  refine A_perm (ws' := (wS t qS z1)) ((cut0 _).symm) ?_
  have h0 := Option.some.inj h0
  subst h0
  exact A_vret C dX2_redeem_20 rfl
def f_2_grow_43 (bL : BV) (bS : BV) : Option (BV) :=
  some bS
theorem t_2_grow_43 (C : CX p s m args meth c cX2_grow 3 none RX2 D t) (qL : Nat → Nat) (qS : Nat → Nat) (bL : BV) (r : BV) (bS : BV) (h0 : f_2_grow_43 bL bS = some r) : At p l e (rmD 1) s m args below meth c D 3 w0 (QV below args s D w0 (fun w => (wL t qL bL ++ (wS t qS r)) = w) 0 0) 0 0 43 [] [] (wL t qL bL ++ (wS t qS bS)) := by
  unfold f_2_grow_43 at h0
  have h0 := Option.some.inj h0
  subst h0
  exact A_vret C dX2_grow_43 rfl
def f_2_grow (bL : BV) (bS : BV) (x2 : Int32) : Option (BV) :=
  ck (inb x2 4) (ck (inb x2 4) (bs (pA bS 2 x2 ((gA bS 2 x2) + (1 : Int32))) (fun b1 => ck (inb x2 4) (if (gA b1 2 x2) < (gI bL 10) then (f_2_grow_43 bL b1) else (ck (inb x2 4) ((f_2_setFree (pI b1 3 ((gI b1 3) ||| (gA b1 0 x2))) x2).bind (fun z2 => f_2_grow_43 bL z2)))))))
theorem c_2_grow (l : Launch) (D : va_G) (t : ty4) (qL : Nat → Nat) (qS : Nat → Nat) (bL : BV) (bS : BV) (x2 : Int32) {r : BV} (h0 : f_2_grow bL bS x2 = some r) : MetV l yX2_grow cX2_grow 3 none (rmD 1) D t [.ref (qS 99), .ref (qL 99), .int x2] (wL t qL bL ++ (wS t qS bS)) (fun w => (wL t qL bL ++ (wS t qS r)) = w) := by
  refine MetV_of (by decide +kernel) (Nat.le_of_ble_eq_true rfl) (fun p e s m below meth c C _ => ?_)
  unfold f_2_grow at h0
  generalize hargs : (List.toArray [.ref (qS 99), .ref (qL 99), .int x2] : Array Value) = args at C ⊢
  refine At.start (lv2 := [(0, .ref (qS 99)), (1, .ref (qL 99)), (2, .int x2)]) rfl ?_
  refine A_aload_n C 0 dX2_grow_0 rfl rfl ?_
  refine A_get (v := .ref (qS 2)) C 6 2 inG2 (ci := 2) rfl (by decide) fl_2_18 rfl rfl rfl dX2_grow_1 ?_
  refine A_iload_n C 2 dX2_grow_4 rfl rfl ?_
  refine A_dup2 C dX2_grow_5 rfl rfl ?_
  refine A_iald C 9 (gA bS 2 x2) rfl rfl dX2_grow_6 h0 (fun h0 => ?_)
  refine A_iconst C (1 : Int32) dX2_grow_7 (by decide) ?_
  refine A_iadd C dX2_grow_8 ?_
  refine A_iast C 9 (wL t qL bL ++ (wS t qS (pA bS 2 x2 ((gA bS 2 x2) + (1 : Int32))))) rfl rfl dX2_grow_9 h0 (fun h0 => ?_)
  obtain ⟨b1, hb1, h0⟩ := bs_some h0
  refine A_weq (wL t qL bL ++ (wS t qS b1)) (by rw [hb1]) ?_
  refine A_aload_n C 0 dX2_grow_10 rfl rfl ?_
  refine A_get (v := .ref (qS 2)) C 6 2 inG2 (ci := 2) rfl (by decide) fl_2_18 rfl rfl rfl dX2_grow_11 ?_
  refine A_iload_n C 2 dX2_grow_14 rfl rfl ?_
  refine A_iald C 9 (gA b1 2 x2) rfl rfl dX2_grow_15 h0 (fun h0 => ?_)
  refine A_aload_n C 1 dX2_grow_16 rfl rfl ?_
  refine A_get (v := .int (gI bL 10)) C 0 10 inG0 (ci := 0) rfl (by decide) fl_2_82 rfl rfl rfl dX2_grow_17 ?_
  refine A_icmp_lt C 43 dX2_grow_20 (by decide) h0 (fun h0 => ?_) (fun h0 => ?_)
  · exact A_loc [] rfl (t_2_grow_43 C qL qS bL r b1 h0)
  · refine A_aload_n C 0 dX2_grow_23 rfl rfl ?_
    refine A_dup C dX2_grow_24 rfl ?_
    refine A_get (v := .int (gI b1 3)) C 6 3 inG2 (ci := 2) rfl (by decide) fl_2_21 rfl rfl rfl dX2_grow_25 ?_
    refine A_aload_n C 0 dX2_grow_28 rfl rfl ?_
    refine A_get (v := .ref (qS 0)) C 6 0 inG2 (ci := 2) rfl (by decide) fl_2_9 rfl rfl rfl dX2_grow_29 ?_
    refine A_iload_n C 2 dX2_grow_32 rfl rfl ?_
    refine A_iald C 7 (gA b1 0 x2) rfl rfl dX2_grow_33 h0 (fun h0 => ?_)
    refine A_ior C dX2_grow_34 ?_
    refine A_put C 6 3 (wL t qL bL ++ (wS t qS (pI b1 3 ((gI b1 3) ||| (gA b1 0 x2))))) tyX2 inG2 tyX2_ok nmX2 (ci := 2) rfl (by decide) fl_2_21 rfl rfl rfl rfl rfl (Nat.le_of_ble_eq_true rfl) rfl dX2_grow_35 ?_
    refine A_aload_n C 0 dX2_grow_38 rfl rfl ?_
    refine A_iload_n C 2 dX2_grow_39 rfl rfl ?_
    obtain ⟨z2, hz2, h0⟩ := bind_some h0
    refine A_vV (As := [.int x2]) (rest := []) C 0 (c_2_setFree l D t qS (pI b1 3 ((gI b1 3) ||| (gA b1 0 x2))) x2 hz2) mw_2_setFree ml_2_31 im_2_setFree sl_2_setFree (rmok rfl rfl) (cutA (wL t qL bL) (wS t qS (pI b1 3 ((gI b1 3) ||| (gA b1 0 x2)))) []) rfl (ci := 2) rfl rfl rfl (Nat.le_of_ble_eq_true rfl) dX2_grow_40 (fun w1 hw1 => ?_)
    subst hw1
    refine A_perm (ws' := (wL t qL bL ++ (wS t qS z2))) ((cutA (wL t qL bL) (wS t qS z2) []).symm) ?_
    exact A_loc [] rfl (t_2_grow_43 C qL qS bL r z2 h0)
def f_2_behindLast_22 (k4 : Int32 → Int32 → Int32 → Option (Int32)) (x0 : Int32) (x1 : Int32) (x2 : Int32) : Option (Int32) :=
  k4 x0 x1 (x2 + (1 : Int32))
theorem t_2_behindLast_22 (C : CX p s m args meth c cX2_behindLast 3 (some .int) RX2 D t) (r : Int32) (k4 : Int32 → Int32 → Int32 → Option (Int32)) (K4 : ∀ (x0 : Int32) (x1 : Int32) (x2 : Int32), k4 x0 x1 x2 = some r → At p l e (rmD 1) s m args below meth c D 3 w0 (QI below args s D w0 (fun x w => r = x ∧ [] = w) 0 0) 0 0 4 [(0, .int x0), (1, .int x1), (2, .int x2)] [] []) (x0 : Int32) (x1 : Int32) (x2 : Int32) (h0 : f_2_behindLast_22 k4 x0 x1 x2 = some r) : At p l e (rmD 1) s m args below meth c D 3 w0 (QI below args s D w0 (fun x w => r = x ∧ [] = w) 0 0) 0 0 22 [(0, .int x0), (1, .int x1), (2, .int x2)] [] [] := by
  unfold f_2_behindLast_22 at h0
  refine A_iinc C 2 (x2 + (1 : Int32)) [(2, .int (x2 + (1 : Int32))), (0, .int x0), (1, .int x1)] dX2_behindLast_22 rfl rfl (by decide) rfl ?_
  refine A_goto C 4 dX2_behindLast_25 (by decide) ?_
  exact A_loc [1, 2, 0] rfl (K4 x0 x1 (x2 + (1 : Int32)) h0)
def f_2_behindLast_4_b (k4 : Int32 → Int32 → Int32 → Option (Int32)) (x0 : Int32) (x1 : Int32) (x2 : Int32) : Option (Int32) :=
  if (30 : Int32) ≤ x2 then (some x1) else ((f_5_has x0 x2).bind (fun z1 => if z1 = 0 then (f_2_behindLast_22 k4 x0 x1 x2) else (f_2_behindLast_22 k4 x0 (x2 + (1 : Int32)) x2)))
theorem t_2_behindLast_4_b (C : CX p s m args meth c cX2_behindLast 3 (some .int) RX2 D t) (r : Int32) (k4 : Int32 → Int32 → Int32 → Option (Int32)) (K4 : ∀ (x0 : Int32) (x1 : Int32) (x2 : Int32), k4 x0 x1 x2 = some r → At p l e (rmD 1) s m args below meth c D 3 w0 (QI below args s D w0 (fun x w => r = x ∧ [] = w) 0 0) 0 0 4 [(0, .int x0), (1, .int x1), (2, .int x2)] [] []) (x0 : Int32) (x1 : Int32) (x2 : Int32) (h0 : f_2_behindLast_4_b k4 x0 x1 x2 = some r) : At p l e (rmD 1) s m args below meth c D 3 w0 (QI below args s D w0 (fun x w => r = x ∧ [] = w) 0 0) 0 0 4 [(0, .int x0), (1, .int x1), (2, .int x2)] [] [] := by
  unfold f_2_behindLast_4_b at h0
  refine A_iload_n C 2 dX2_behindLast_4 rfl rfl ?_
  refine A_bipush C (30 : Int32) dX2_behindLast_5 (by decide) ?_
  refine A_icmp_ge C 28 dX2_behindLast_7 (by decide) h0 (fun h0 => ?_) (fun h0 => ?_)
  · refine A_iload_n C 1 dX2_behindLast_28 rfl rfl ?_
    have h0 := Option.some.inj h0
    subst h0
    exact A_iret C dX2_behindLast_29 ⟨rfl, rfl⟩
  · refine A_iload_n C 0 dX2_behindLast_10 rfl rfl ?_
    refine A_iload_n C 2 dX2_behindLast_11 rfl rfl ?_
    obtain ⟨z1, hz1, h0⟩ := bind_some h0
    refine A_snI (As := [.int x0, .int x2]) (rest := []) C (c_5_has l D t x0 x2 hz1) mw_5_has C.2.2.2.2.1.2.2.2.2.2.2.2.1 st_5_has (rmok rfl rfl) (cutN []) rfl rfl (Nat.le_of_ble_eq_true rfl) dX2_behindLast_12 (fun x w1 hw1 => ?_)
    obtain ⟨rfl, rfl⟩ := hw1
    refine A_perm (ws' := []) ((cutN _).symm) ?_
    refine A_if_eq C 22 dX2_behindLast_15 (by decide) h0 (fun h0 => ?_) (fun h0 => ?_)
    · exact A_loc [0, 1, 2] rfl (t_2_behindLast_22 C r k4 K4 x0 x1 x2 h0)
    · refine A_iload_n C 2 dX2_behindLast_18 rfl rfl ?_
      refine A_iconst C (1 : Int32) dX2_behindLast_19 (by decide) ?_
      refine A_iadd C dX2_behindLast_20 ?_
      refine A_istore_n C [(1, .int (x2 + (1 : Int32))), (0, .int x0), (2, .int x2)] dX2_behindLast_21 rfl (by decide) rfl ?_
      exact A_loc [1, 0, 2] rfl (t_2_behindLast_22 C r k4 K4 x0 (x2 + (1 : Int32)) x2 h0)
def f_2_behindLast_4 : Nat → Int32 → Int32 → Int32 → Option (Int32)
  | 0 => fun _ _ _ => none
  | n + 1 => f_2_behindLast_4_b (f_2_behindLast_4 n)
theorem t_2_behindLast_4 (C : CX p s m args meth c cX2_behindLast 3 (some .int) RX2 D t) (r : Int32) : ∀ (n : Nat), ∀ (x0 : Int32) (x1 : Int32) (x2 : Int32), f_2_behindLast_4 n x0 x1 x2 = some r → At p l e (rmD 1) s m args below meth c D 3 w0 (QI below args s D w0 (fun x w => r = x ∧ [] = w) 0 0) 0 0 4 [(0, .int x0), (1, .int x1), (2, .int x2)] [] [] := by
  intro n
  induction n with
  | zero =>
    intro x0 x1 x2 h0
    have h0 : none = some r := h0
    cases h0
  | succ n ih =>
    intro x0 x1 x2 h0
    exact t_2_behindLast_4_b C r _ ih x0 x1 x2 h0
def f_2_behindLast (x0 : Int32) : Option (Int32) :=
  f_2_behindLast_4 200 x0 (0 : Int32) (0 : Int32)
theorem c_2_behindLast (l : Launch) (D : va_G) (t : ty4) (x0 : Int32) {r : Int32} (h0 : f_2_behindLast x0 = some r) : MetI l yX2_behindLast cX2_behindLast 3 (some .int) (rmD 1) D t [.int x0] [] (fun x w => r = x ∧ [] = w) := by
  refine MetI_of (by decide +kernel) (Nat.le_of_ble_eq_true rfl) (fun p e s m below meth c C _ => ?_)
  unfold f_2_behindLast at h0
  generalize hargs : (List.toArray [.int x0] : Array Value) = args at C ⊢
  refine At.start (lv2 := [(0, .int x0)]) rfl ?_
  refine A_iconst C (0 : Int32) dX2_behindLast_0 (by decide) ?_
  refine A_istore_n C [(1, .int (0 : Int32)), (0, .int x0)] dX2_behindLast_1 rfl (by decide) rfl ?_
  refine A_iconst C (0 : Int32) dX2_behindLast_2 (by decide) ?_
  refine A_istore_n C [(2, .int (0 : Int32)), (1, .int (0 : Int32)), (0, .int x0)] dX2_behindLast_3 rfl (by decide) rfl ?_
  exact A_loc [2, 1, 0] rfl (t_2_behindLast_4 C r 200 x0 (0 : Int32) (0 : Int32) h0)
def f_3_startAnew (bY : BV) (bN : BV) : Option (BV × BV) :=
  (f_2_startAnew bN).bind (fun z1 => some ((pI bY 2 (0 : Int32)), z1))
theorem c_3_startAnew (l : Launch) (D : va_G) (t : ty4) (qY : Nat → Nat) (qN : Nat → Nat) (fa : Nat → Option Nat) (bY : BV) (bN : BV) {r : BV × BV} (h0 : f_3_startAnew bY bN = some r) : MetV l yX3_startAnew cX3_startAnew 1 none (rmD 2) D t [.ref (qY 99)] (wY t qY qN fa bY ++ (wS t qN bN)) (fun w => (wY t qY qN fa r.1 ++ (wS t qN r.2)) = w) := by
  refine MetV_of (by decide +kernel) (Nat.le_of_ble_eq_true rfl) (fun p e s m below meth c C _ => ?_)
  unfold f_3_startAnew at h0
  generalize hargs : (List.toArray [.ref (qY 99)] : Array Value) = args at C ⊢
  refine At.start (lv2 := [(0, .ref (qY 99))]) rfl ?_
  refine A_aload_n C 0 dX3_startAnew_0 rfl rfl ?_
  refine A_get (v := .ref (qN 99)) C 0 0 inG3 (ci := 3) rfl (by decide) fl_3_12 rfl rfl rfl dX3_startAnew_1 ?_
  obtain ⟨z1, hz1, h0⟩ := bind_some h0
  refine A_vV (As := []) (rest := []) C 0 (c_2_startAnew l D t qN bN hz1) mw_2_startAnew ml_3_26 im_2_startAnew sl_2_startAnew (rmok rfl rfl) (cutA (wY t qY qN fa bY) (wS t qN bN) []) rfl (ci := 2) rfl rfl rfl (Nat.le_of_ble_eq_true rfl) dX3_startAnew_4 (fun w1 hw1 => ?_)
  subst hw1
  refine A_perm (ws' := (wY t qY qN fa bY ++ (wS t qN z1))) ((cutA (wY t qY qN fa bY) (wS t qN z1) []).symm) ?_
  refine A_aload_n C 0 dX3_startAnew_7 rfl rfl ?_
  refine A_iconst C (0 : Int32) dX3_startAnew_8 (by decide) ?_
  refine A_put C 0 2 (wY t qY qN fa (pI bY 2 (0 : Int32)) ++ (wS t qN z1)) tyX3 inG3 tyX3_ok nmX3 (ci := 3) rfl (by decide) fl_3_22 rfl rfl rfl rfl rfl (Nat.le_of_ble_eq_true rfl) rfl dX3_startAnew_9 ?_
  have h0 := Option.some.inj h0
  subst h0
  exact A_vret C dX3_startAnew_12 rfl
def f_4_scanLetters_72 (bT : BV) : Option (BV) :=
  some bT
theorem t_4_scanLetters_72 (C : CX p s m args meth c cX4_scanLetters 1 none RX4 D t) (qT : Nat → Nat) (r : BV) (bT : BV) (h0 : f_4_scanLetters_72 bT = some r) : At p l e (rmD 1) s m args below meth c D 1 w0 (QV below args s D w0 (fun w => (wTx t qT r) = w) 0 0) 0 0 72 [] [] (wTx t qT bT) := by
  unfold f_4_scanLetters_72 at h0
  have h0 := Option.some.inj h0
  subst h0
  exact A_vret C dX4_scanLetters_72 rfl
def f_4_scanLetters_28_b (k28 : BV → Option (BV)) (bT : BV) : Option (BV) :=
  if (gI bT 1) ≤ (gI bT 5) then (f_4_scanLetters_72 bT) else (ck (inb (gI bT 5) 150) ((f_4_isLetter (gA bT 0 (gI bT 5))).bind (fun z1 => if z1 = 0 then (f_4_scanLetters_72 bT) else (k28 (pI (pI bT 4 (0 : Int32)) 5 ((gI bT 5) + (1 : Int32)))))))
theorem t_4_scanLetters_28_b (C : CX p s m args meth c cX4_scanLetters 1 none RX4 D t) (qT : Nat → Nat) (r : BV) (k28 : BV → Option (BV)) (K28 : ∀ (bT : BV), k28 bT = some r → At p l e (rmD 1) s m args below meth c D 1 w0 (QV below args s D w0 (fun w => (wTx t qT r) = w) 0 0) 0 0 28 [(0, .ref (qT 99))] [] (wTx t qT bT)) (bT : BV) (h0 : f_4_scanLetters_28_b k28 bT = some r) : At p l e (rmD 1) s m args below meth c D 1 w0 (QV below args s D w0 (fun w => (wTx t qT r) = w) 0 0) 0 0 28 [(0, .ref (qT 99))] [] (wTx t qT bT) := by
  unfold f_4_scanLetters_28_b at h0
  refine A_aload_n C 0 dX4_scanLetters_28 rfl rfl ?_
  refine A_get (v := .int (gI bT 5)) C 0 5 inG4 (ci := 4) rfl (by decide) fl_4_28 rfl rfl rfl dX4_scanLetters_29 ?_
  refine A_aload_n C 0 dX4_scanLetters_32 rfl rfl ?_
  refine A_get (v := .int (gI bT 1)) C 0 1 inG4 (ci := 4) rfl (by decide) fl_4_15 rfl rfl rfl dX4_scanLetters_33 ?_
  refine A_icmp_ge C 72 dX4_scanLetters_36 (by decide) h0 (fun h0 => ?_) (fun h0 => ?_)
  · exact A_loc [] rfl (t_4_scanLetters_72 C qT r bT h0)
  · refine A_aload_n C 0 dX4_scanLetters_39 rfl rfl ?_
    refine A_get (v := .ref (qT 0)) C 0 0 inG4 (ci := 4) rfl (by decide) fl_4_9 rfl rfl rfl dX4_scanLetters_40 ?_
    refine A_aload_n C 0 dX4_scanLetters_43 rfl rfl ?_
    refine A_get (v := .int (gI bT 5)) C 0 5 inG4 (ci := 4) rfl (by decide) fl_4_28 rfl rfl rfl dX4_scanLetters_44 ?_
    refine A_iald C 1 (gA bT 0 (gI bT 5)) rfl rfl dX4_scanLetters_47 h0 (fun h0 => ?_)
    obtain ⟨z1, hz1, h0⟩ := bind_some h0
    refine A_sI (As := [.int (gA bT 0 (gI bT 5))]) (rest := []) C (c_4_isLetter l D t (gA bT 0 (gI bT 5)) hz1) mw_4_isLetter ml_4_34 st_4_isLetter (rmok rfl rfl) (cutN (wTx t qT bT)) rfl rfl (Nat.le_of_ble_eq_true rfl) dX4_scanLetters_48 (fun x w1 hw1 => ?_)
    obtain ⟨rfl, rfl⟩ := hw1
    refine A_perm (ws' := (wTx t qT bT)) ((cutN _).symm) ?_
    refine A_if_eq C 72 dX4_scanLetters_51 (by decide) h0 (fun h0 => ?_) (fun h0 => ?_)
    · exact A_loc [] rfl (t_4_scanLetters_72 C qT r bT h0)
    · refine A_aload_n C 0 dX4_scanLetters_54 rfl rfl ?_
      refine A_iconst C (0 : Int32) dX4_scanLetters_55 (by decide) ?_
      refine A_put C 0 4 (wTx t qT (pI bT 4 (0 : Int32))) tyX4 inG4 tyX4_ok nmX4 (ci := 4) rfl (by decide) fl_4_25 rfl rfl rfl rfl rfl (Nat.le_of_ble_eq_true rfl) rfl dX4_scanLetters_56 ?_
      refine A_aload_n C 0 dX4_scanLetters_59 rfl rfl ?_
      refine A_dup C dX4_scanLetters_60 rfl ?_
      refine A_get (v := .int (gI bT 5)) C 0 5 inG4 (ci := 4) rfl (by decide) fl_4_28 rfl rfl rfl dX4_scanLetters_61 ?_
      refine A_iconst C (1 : Int32) dX4_scanLetters_64 (by decide) ?_
      refine A_iadd C dX4_scanLetters_65 ?_
      refine A_put C 0 5 (wTx t qT (pI (pI bT 4 (0 : Int32)) 5 ((gI bT 5) + (1 : Int32)))) tyX4 inG4 tyX4_ok nmX4 (ci := 4) rfl (by decide) fl_4_28 rfl rfl rfl rfl rfl (Nat.le_of_ble_eq_true rfl) rfl dX4_scanLetters_66 ?_
      refine A_goto C 28 dX4_scanLetters_69 (by decide) ?_
      exact A_loc [0] rfl (K28 (pI (pI bT 4 (0 : Int32)) 5 ((gI bT 5) + (1 : Int32))) h0)
def f_4_scanLetters_28 : Nat → BV → Option (BV)
  | 0 => fun _ => none
  | n + 1 => f_4_scanLetters_28_b (f_4_scanLetters_28 n)
theorem t_4_scanLetters_28 (C : CX p s m args meth c cX4_scanLetters 1 none RX4 D t) (qT : Nat → Nat) (r : BV) : ∀ (n : Nat), ∀ (bT : BV), f_4_scanLetters_28 n bT = some r → At p l e (rmD 1) s m args below meth c D 1 w0 (QV below args s D w0 (fun w => (wTx t qT r) = w) 0 0) 0 0 28 [(0, .ref (qT 99))] [] (wTx t qT bT) := by
  intro n
  induction n with
  | zero =>
    intro bT h0
    have h0 : none = some r := h0
    cases h0
  | succ n ih =>
    intro bT h0
    exact t_4_scanLetters_28_b C qT r _ ih bT h0
def f_4_scanLetters (bT : BV) : Option (BV) :=
  ck (inb (gI bT 5) 150) (f_4_scanLetters_28 200 (pI (pI (pI bT 3 (1 : Int32)) 4 (gA bT 0 (gI bT 5))) 5 ((gI bT 5) + (1 : Int32))))
theorem c_4_scanLetters (l : Launch) (D : va_G) (t : ty4) (qT : Nat → Nat) (bT : BV) {r : BV} (h0 : f_4_scanLetters bT = some r) : MetV l yX4_scanLetters cX4_scanLetters 1 none (rmD 1) D t [.ref (qT 99)] (wTx t qT bT) (fun w => (wTx t qT r) = w) := by
  refine MetV_of (by decide +kernel) (Nat.le_of_ble_eq_true rfl) (fun p e s m below meth c C _ => ?_)
  unfold f_4_scanLetters at h0
  generalize hargs : (List.toArray [.ref (qT 99)] : Array Value) = args at C ⊢
  refine At.start (lv2 := [(0, .ref (qT 99))]) rfl ?_
  refine A_aload_n C 0 dX4_scanLetters_0 rfl rfl ?_
  refine A_iconst C (1 : Int32) dX4_scanLetters_1 (by decide) ?_
  refine A_put C 0 3 (wTx t qT (pI bT 3 (1 : Int32))) tyX4 inG4 tyX4_ok nmX4 (ci := 4) rfl (by decide) fl_4_22 rfl rfl rfl rfl rfl (Nat.le_of_ble_eq_true rfl) rfl dX4_scanLetters_2 ?_
  refine A_aload_n C 0 dX4_scanLetters_5 rfl rfl ?_
  refine A_aload_n C 0 dX4_scanLetters_6 rfl rfl ?_
  refine A_get (v := .ref (qT 0)) C 0 0 inG4 (ci := 4) rfl (by decide) fl_4_9 rfl rfl rfl dX4_scanLetters_7 ?_
  refine A_aload_n C 0 dX4_scanLetters_10 rfl rfl ?_
  refine A_get (v := .int (gI bT 5)) C 0 5 inG4 (ci := 4) rfl (by decide) fl_4_28 rfl rfl rfl dX4_scanLetters_11 ?_
  refine A_iald C 1 (gA bT 0 (gI bT 5)) rfl rfl dX4_scanLetters_14 h0 (fun h0 => ?_)
  refine A_put C 0 4 (wTx t qT (pI (pI bT 3 (1 : Int32)) 4 (gA bT 0 (gI bT 5)))) tyX4 inG4 tyX4_ok nmX4 (ci := 4) rfl (by decide) fl_4_25 rfl rfl rfl rfl rfl (Nat.le_of_ble_eq_true rfl) rfl dX4_scanLetters_15 ?_
  refine A_aload_n C 0 dX4_scanLetters_18 rfl rfl ?_
  refine A_dup C dX4_scanLetters_19 rfl ?_
  refine A_get (v := .int (gI bT 5)) C 0 5 inG4 (ci := 4) rfl (by decide) fl_4_28 rfl rfl rfl dX4_scanLetters_20 ?_
  refine A_iconst C (1 : Int32) dX4_scanLetters_23 (by decide) ?_
  refine A_iadd C dX4_scanLetters_24 ?_
  refine A_put C 0 5 (wTx t qT (pI (pI (pI bT 3 (1 : Int32)) 4 (gA bT 0 (gI bT 5))) 5 ((gI bT 5) + (1 : Int32)))) tyX4 inG4 tyX4_ok nmX4 (ci := 4) rfl (by decide) fl_4_28 rfl rfl rfl rfl rfl (Nat.le_of_ble_eq_true rfl) rfl dX4_scanLetters_25 ?_
  exact A_loc [0] rfl (t_4_scanLetters_28 C qT r 200 (pI (pI (pI bT 3 (1 : Int32)) 4 (gA bT 0 (gI bT 5))) 5 ((gI bT 5) + (1 : Int32))) h0)
def f_4_scanNumber_122 (bT : BV) (y0 : Int32) : Option (BV) :=
  some (pI bT 3 y0)
theorem t_4_scanNumber_122 (C : CX p s m args meth c cX4_scanNumber 2 none RX4 D t) (qT : Nat → Nat) (r : BV) (bT : BV) (y0 : Int32) (h0 : f_4_scanNumber_122 bT y0 = some r) : At p l e (rmD 1) s m args below meth c D 2 w0 (QV below args s D w0 (fun w => (wTx t qT r) = w) 0 0) 0 0 122 [] [.int y0, .ref (qT 99)] (wTx t qT bT) := by
  unfold f_4_scanNumber_122 at h0
  refine A_put C 0 3 (wTx t qT (pI bT 3 y0)) tyX4 inG4 tyX4_ok nmX4 (ci := 4) rfl (by decide) fl_4_22 rfl rfl rfl rfl rfl (Nat.le_of_ble_eq_true rfl) rfl dX4_scanNumber_122 ?_
  have h0 := Option.some.inj h0
  subst h0
  exact A_vret C dX4_scanNumber_125 rfl
def f_4_scanNumber_117 (bT : BV) : Option (BV) :=
  f_4_scanNumber_122 bT (4 : Int32)
theorem t_4_scanNumber_117 (C : CX p s m args meth c cX4_scanNumber 2 none RX4 D t) (qT : Nat → Nat) (r : BV) (bT : BV) (h0 : f_4_scanNumber_117 bT = some r) : At p l e (rmD 1) s m args below meth c D 2 w0 (QV below args s D w0 (fun w => (wTx t qT r) = w) 0 0) 0 0 117 [] [.ref (qT 99)] (wTx t qT bT) := by
  unfold f_4_scanNumber_117 at h0
  refine A_iconst C (4 : Int32) dX4_scanNumber_117 (by decide) ?_
  refine A_goto C 122 dX4_scanNumber_118 (by decide) ?_
  exact A_loc [] rfl (t_4_scanNumber_122 C qT r bT (4 : Int32) h0)
def f_4_scanNumber_103 (bT : BV) (x1 : Int32) : Option (BV) :=
  if x1 = 0 then (if (gI bT 4) ≤ (99 : Int32) then (f_4_scanNumber_122 bT (2 : Int32)) else (f_4_scanNumber_117 bT)) else (f_4_scanNumber_117 bT)
theorem t_4_scanNumber_103 (C : CX p s m args meth c cX4_scanNumber 2 none RX4 D t) (qT : Nat → Nat) (r : BV) (bT : BV) (x1 : Int32) (h0 : f_4_scanNumber_103 bT x1 = some r) : At p l e (rmD 1) s m args below meth c D 2 w0 (QV below args s D w0 (fun w => (wTx t qT r) = w) 0 0) 0 0 103 [(0, .ref (qT 99)), (1, .int x1)] [] (wTx t qT bT) := by
  unfold f_4_scanNumber_103 at h0
  refine A_aload_n C 0 dX4_scanNumber_103 rfl rfl ?_
  refine A_iload_n C 1 dX4_scanNumber_104 rfl rfl ?_
  refine A_if_ne C 117 dX4_scanNumber_105 (by decide) h0 (fun h0 => ?_) (fun h0 => ?_)
  · exact A_loc [] rfl (t_4_scanNumber_117 C qT r bT h0)
  · refine A_aload_n C 0 dX4_scanNumber_108 rfl rfl ?_
    refine A_get (v := .int (gI bT 4)) C 0 4 inG4 (ci := 4) rfl (by decide) fl_4_25 rfl rfl rfl dX4_scanNumber_109 ?_
    refine A_bipush C (99 : Int32) dX4_scanNumber_112 (by decide) ?_
    refine A_icmp_le C 121 dX4_scanNumber_114 (by decide) h0 (fun h0 => ?_) (fun h0 => ?_)
    · refine A_iconst C (2 : Int32) dX4_scanNumber_121 (by decide) ?_
      exact A_loc [] rfl (t_4_scanNumber_122 C qT r bT (2 : Int32) h0)
    · exact A_loc [] rfl (t_4_scanNumber_117 C qT r bT h0)
def f_4_scanNumber_60 (k7 : BV → Int32 → Option (BV)) (bT : BV) (y0 : Int32) : Option (BV) :=
  ck (inb (gI bT 5) 150) (k7 (pI (pI bT 4 (if (100 : Int32) < ((((gI bT 4) * (10 : Int32)) + (gA bT 0 (gI bT 5))) - (48 : Int32)) then (100 : Int32) else ((((gI bT 4) * (10 : Int32)) + (gA bT 0 (gI bT 5))) - (48 : Int32)))) 5 ((gI bT 5) + (1 : Int32))) y0)
theorem t_4_scanNumber_60 (C : CX p s m args meth c cX4_scanNumber 2 none RX4 D t) (qT : Nat → Nat) (r : BV) (k7 : BV → Int32 → Option (BV)) (K7 : ∀ (bT : BV) (x1 : Int32), k7 bT x1 = some r → At p l e (rmD 1) s m args below meth c D 2 w0 (QV below args s D w0 (fun w => (wTx t qT r) = w) 0 0) 0 0 7 [(0, .ref (qT 99)), (1, .int x1)] [] (wTx t qT bT)) (bT : BV) (y0 : Int32) (h0 : f_4_scanNumber_60 k7 bT y0 = some r) : At p l e (rmD 1) s m args below meth c D 2 w0 (QV below args s D w0 (fun w => (wTx t qT r) = w) 0 0) 0 0 60 [(0, .ref (qT 99))] [.int y0] (wTx t qT bT) := by
  unfold f_4_scanNumber_60 at h0
  refine A_istore_n C [(1, .int y0), (0, .ref (qT 99))] dX4_scanNumber_60 rfl (by decide) rfl ?_
  refine A_aload_n C 1 dX4_scanNumber_61 rfl rfl ?_
  refine A_aload_n C 1 dX4_scanNumber_62 rfl rfl ?_
  refine A_get (v := .int (gI bT 4)) C 0 4 inG4 (ci := 4) rfl (by decide) fl_4_25 rfl rfl rfl dX4_scanNumber_63 ?_
  refine A_bipush C (10 : Int32) dX4_scanNumber_66 (by decide) ?_
  refine A_imul C dX4_scanNumber_68 ?_
  refine A_aload_n C 1 dX4_scanNumber_69 rfl rfl ?_
  refine A_get (v := .ref (qT 0)) C 0 0 inG4 (ci := 4) rfl (by decide) fl_4_9 rfl rfl rfl dX4_scanNumber_70 ?_
  refine A_aload_n C 1 dX4_scanNumber_73 rfl rfl ?_
  refine A_get (v := .int (gI bT 5)) C 0 5 inG4 (ci := 4) rfl (by decide) fl_4_28 rfl rfl rfl dX4_scanNumber_74 ?_
  refine A_iald C 1 (gA bT 0 (gI bT 5)) rfl rfl dX4_scanNumber_77 h0 (fun h0 => ?_)
  refine A_iadd C dX4_scanNumber_78 ?_
  refine A_bipush C (48 : Int32) dX4_scanNumber_79 (by decide) ?_
  refine A_isub C dX4_scanNumber_81 ?_
  refine A_bipush C (100 : Int32) dX4_scanNumber_82 (by decide) ?_
  refine A_mmin C ml_4_47 st_min in_math cw_min (Nat.le_of_ble_eq_true rfl) (Nat.le_of_ble_eq_true rfl) (Nat.le_of_ble_eq_true rfl) (Nat.le_of_ble_eq_true rfl) dX4_scanNumber_84 ?_
  refine A_put C 0 4 (wTx t qT (pI bT 4 (if (100 : Int32) < ((((gI bT 4) * (10 : Int32)) + (gA bT 0 (gI bT 5))) - (48 : Int32)) then (100 : Int32) else ((((gI bT 4) * (10 : Int32)) + (gA bT 0 (gI bT 5))) - (48 : Int32))))) tyX4 inG4 tyX4_ok nmX4 (ci := 4) rfl (by decide) fl_4_25 rfl rfl rfl rfl rfl (Nat.le_of_ble_eq_true rfl) rfl dX4_scanNumber_87 ?_
  refine A_aload_n C 1 dX4_scanNumber_90 rfl rfl ?_
  refine A_dup C dX4_scanNumber_91 rfl ?_
  refine A_get (v := .int (gI bT 5)) C 0 5 inG4 (ci := 4) rfl (by decide) fl_4_28 rfl rfl rfl dX4_scanNumber_92 ?_
  refine A_iconst C (1 : Int32) dX4_scanNumber_95 (by decide) ?_
  refine A_iadd C dX4_scanNumber_96 ?_
  refine A_put C 0 5 (wTx t qT (pI (pI bT 4 (if (100 : Int32) < ((((gI bT 4) * (10 : Int32)) + (gA bT 0 (gI bT 5))) - (48 : Int32)) then (100 : Int32) else ((((gI bT 4) * (10 : Int32)) + (gA bT 0 (gI bT 5))) - (48 : Int32)))) 5 ((gI bT 5) + (1 : Int32)))) tyX4 inG4 tyX4_ok nmX4 (ci := 4) rfl (by decide) fl_4_28 rfl rfl rfl rfl rfl (Nat.le_of_ble_eq_true rfl) rfl dX4_scanNumber_97 ?_
  refine A_goto C 7 dX4_scanNumber_100 (by decide) ?_
  exact A_loc [1, 0] rfl (K7 (pI (pI bT 4 (if (100 : Int32) < ((((gI bT 4) * (10 : Int32)) + (gA bT 0 (gI bT 5))) - (48 : Int32)) then (100 : Int32) else ((((gI bT 4) * (10 : Int32)) + (gA bT 0 (gI bT 5))) - (48 : Int32)))) 5 ((gI bT 5) + (1 : Int32))) y0 h0)
def f_4_scanNumber_59 (k7 : BV → Int32 → Option (BV)) (bT : BV) : Option (BV) :=
  f_4_scanNumber_60 k7 bT (0 : Int32)
theorem t_4_scanNumber_59 (C : CX p s m args meth c cX4_scanNumber 2 none RX4 D t) (qT : Nat → Nat) (r : BV) (k7 : BV → Int32 → Option (BV)) (K7 : ∀ (bT : BV) (x1 : Int32), k7 bT x1 = some r → At p l e (rmD 1) s m args below meth c D 2 w0 (QV below args s D w0 (fun w => (wTx t qT r) = w) 0 0) 0 0 7 [(0, .ref (qT 99)), (1, .int x1)] [] (wTx t qT bT)) (bT : BV) (h0 : f_4_scanNumber_59 k7 bT = some r) : At p l e (rmD 1) s m args below meth c D 2 w0 (QV below args s D w0 (fun w => (wTx t qT r) = w) 0 0) 0 0 59 [(0, .ref (qT 99))] [] (wTx t qT bT) := by
  unfold f_4_scanNumber_59 at h0
  refine A_iconst C (0 : Int32) dX4_scanNumber_59 (by decide) ?_
  exact A_loc [0] rfl (t_4_scanNumber_60 C qT r k7 K7 bT (0 : Int32) h0)
def f_4_scanNumber_55 (k7 : BV → Int32 → Option (BV)) (bT : BV) : Option (BV) :=
  f_4_scanNumber_60 k7 bT (1 : Int32)
theorem t_4_scanNumber_55 (C : CX p s m args meth c cX4_scanNumber 2 none RX4 D t) (qT : Nat → Nat) (r : BV) (k7 : BV → Int32 → Option (BV)) (K7 : ∀ (bT : BV) (x1 : Int32), k7 bT x1 = some r → At p l e (rmD 1) s m args below meth c D 2 w0 (QV below args s D w0 (fun w => (wTx t qT r) = w) 0 0) 0 0 7 [(0, .ref (qT 99)), (1, .int x1)] [] (wTx t qT bT)) (bT : BV) (h0 : f_4_scanNumber_55 k7 bT = some r) : At p l e (rmD 1) s m args below meth c D 2 w0 (QV below args s D w0 (fun w => (wTx t qT r) = w) 0 0) 0 0 55 [(0, .ref (qT 99))] [] (wTx t qT bT) := by
  unfold f_4_scanNumber_55 at h0
  refine A_iconst C (1 : Int32) dX4_scanNumber_55 (by decide) ?_
  refine A_goto C 60 dX4_scanNumber_56 (by decide) ?_
  exact A_loc [0] rfl (t_4_scanNumber_60 C qT r k7 K7 bT (1 : Int32) h0)
def f_4_scanNumber_7_b (k7 : BV → Int32 → Option (BV)) (bT : BV) (x1 : Int32) : Option (BV) :=
  if (gI bT 1) ≤ (gI bT 5) then (f_4_scanNumber_103 bT x1) else (ck (inb (gI bT 5) 150) ((f_4_isDigit (gA bT 0 (gI bT 5))).bind (fun z1 => if z1 = 0 then (f_4_scanNumber_103 bT x1) else (if x1 = 0 then (if (gI bT 5) ≤ (gI bT 2) then (f_4_scanNumber_59 k7 bT) else (if (gI bT 4) = 0 then (f_4_scanNumber_55 k7 bT) else (f_4_scanNumber_59 k7 bT))) else (f_4_scanNumber_55 k7 bT)))))
theorem t_4_scanNumber_7_b (C : CX p s m args meth c cX4_scanNumber 2 none RX4 D t) (qT : Nat → Nat) (r : BV) (k7 : BV → Int32 → Option (BV)) (K7 : ∀ (bT : BV) (x1 : Int32), k7 bT x1 = some r → At p l e (rmD 1) s m args below meth c D 2 w0 (QV below args s D w0 (fun w => (wTx t qT r) = w) 0 0) 0 0 7 [(0, .ref (qT 99)), (1, .int x1)] [] (wTx t qT bT)) (bT : BV) (x1 : Int32) (h0 : f_4_scanNumber_7_b k7 bT x1 = some r) : At p l e (rmD 1) s m args below meth c D 2 w0 (QV below args s D w0 (fun w => (wTx t qT r) = w) 0 0) 0 0 7 [(0, .ref (qT 99)), (1, .int x1)] [] (wTx t qT bT) := by
  unfold f_4_scanNumber_7_b at h0
  refine A_aload_n C 0 dX4_scanNumber_7 rfl rfl ?_
  refine A_get (v := .int (gI bT 5)) C 0 5 inG4 (ci := 4) rfl (by decide) fl_4_28 rfl rfl rfl dX4_scanNumber_8 ?_
  refine A_aload_n C 0 dX4_scanNumber_11 rfl rfl ?_
  refine A_get (v := .int (gI bT 1)) C 0 1 inG4 (ci := 4) rfl (by decide) fl_4_15 rfl rfl rfl dX4_scanNumber_12 ?_
  refine A_icmp_ge C 103 dX4_scanNumber_15 (by decide) h0 (fun h0 => ?_) (fun h0 => ?_)
  · exact A_loc [0, 1] rfl (t_4_scanNumber_103 C qT r bT x1 h0)
  · refine A_aload_n C 0 dX4_scanNumber_18 rfl rfl ?_
    refine A_get (v := .ref (qT 0)) C 0 0 inG4 (ci := 4) rfl (by decide) fl_4_9 rfl rfl rfl dX4_scanNumber_19 ?_
    refine A_aload_n C 0 dX4_scanNumber_22 rfl rfl ?_
    refine A_get (v := .int (gI bT 5)) C 0 5 inG4 (ci := 4) rfl (by decide) fl_4_28 rfl rfl rfl dX4_scanNumber_23 ?_
    refine A_iald C 1 (gA bT 0 (gI bT 5)) rfl rfl dX4_scanNumber_26 h0 (fun h0 => ?_)
    obtain ⟨z1, hz1, h0⟩ := bind_some h0
    refine A_sI (As := [.int (gA bT 0 (gI bT 5))]) (rest := []) C (c_4_isDigit l D t (gA bT 0 (gI bT 5)) hz1) mw_4_isDigit ml_4_41 st_4_isDigit (rmok rfl rfl) (cutN (wTx t qT bT)) rfl rfl (Nat.le_of_ble_eq_true rfl) dX4_scanNumber_27 (fun x w1 hw1 => ?_)
    obtain ⟨rfl, rfl⟩ := hw1
    refine A_perm (ws' := (wTx t qT bT)) ((cutN _).symm) ?_
    refine A_if_eq C 103 dX4_scanNumber_30 (by decide) h0 (fun h0 => ?_) (fun h0 => ?_)
    · exact A_loc [0, 1] rfl (t_4_scanNumber_103 C qT r bT x1 h0)
    · refine A_iload_n C 1 dX4_scanNumber_33 rfl rfl ?_
      refine A_if_ne C 55 dX4_scanNumber_34 (by decide) h0 (fun h0 => ?_) (fun h0 => ?_)
      · exact A_loc [0] rfl (t_4_scanNumber_55 C qT r k7 K7 bT h0)
      · refine A_aload_n C 0 dX4_scanNumber_37 rfl rfl ?_
        refine A_get (v := .int (gI bT 5)) C 0 5 inG4 (ci := 4) rfl (by decide) fl_4_28 rfl rfl rfl dX4_scanNumber_38 ?_
        refine A_aload_n C 0 dX4_scanNumber_41 rfl rfl ?_
        refine A_get (v := .int (gI bT 2)) C 0 2 inG4 (ci := 4) rfl (by decide) fl_4_19 rfl rfl rfl dX4_scanNumber_42 ?_
        refine A_icmp_le C 59 dX4_scanNumber_45 (by decide) h0 (fun h0 => ?_) (fun h0 => ?_)
        · exact A_loc [0] rfl (t_4_scanNumber_59 C qT r k7 K7 bT h0)
        · refine A_aload_n C 0 dX4_scanNumber_48 rfl rfl ?_
          refine A_get (v := .int (gI bT 4)) C 0 4 inG4 (ci := 4) rfl (by decide) fl_4_25 rfl rfl rfl dX4_scanNumber_49 ?_
          refine A_if_ne C 59 dX4_scanNumber_52 (by decide) h0 (fun h0 => ?_) (fun h0 => ?_)
          · exact A_loc [0] rfl (t_4_scanNumber_59 C qT r k7 K7 bT h0)
          · exact A_loc [0] rfl (t_4_scanNumber_55 C qT r k7 K7 bT h0)
def f_4_scanNumber_7 : Nat → BV → Int32 → Option (BV)
  | 0 => fun _ _ => none
  | n + 1 => f_4_scanNumber_7_b (f_4_scanNumber_7 n)
theorem t_4_scanNumber_7 (C : CX p s m args meth c cX4_scanNumber 2 none RX4 D t) (qT : Nat → Nat) (r : BV) : ∀ (n : Nat), ∀ (bT : BV) (x1 : Int32), f_4_scanNumber_7 n bT x1 = some r → At p l e (rmD 1) s m args below meth c D 2 w0 (QV below args s D w0 (fun w => (wTx t qT r) = w) 0 0) 0 0 7 [(0, .ref (qT 99)), (1, .int x1)] [] (wTx t qT bT) := by
  intro n
  induction n with
  | zero =>
    intro bT x1 h0
    have h0 : none = some r := h0
    cases h0
  | succ n ih =>
    intro bT x1 h0
    exact t_4_scanNumber_7_b C qT r _ ih bT x1 h0
def f_4_scanNumber (bT : BV) : Option (BV) :=
  f_4_scanNumber_7 200 (pI bT 4 (0 : Int32)) (0 : Int32)
theorem c_4_scanNumber (l : Launch) (D : va_G) (t : ty4) (qT : Nat → Nat) (bT : BV) {r : BV} (h0 : f_4_scanNumber bT = some r) : MetV l yX4_scanNumber cX4_scanNumber 2 none (rmD 1) D t [.ref (qT 99)] (wTx t qT bT) (fun w => (wTx t qT r) = w) := by
  refine MetV_of (by decide +kernel) (Nat.le_of_ble_eq_true rfl) (fun p e s m below meth c C _ => ?_)
  unfold f_4_scanNumber at h0
  generalize hargs : (List.toArray [.ref (qT 99)] : Array Value) = args at C ⊢
  refine At.start (lv2 := [(0, .ref (qT 99))]) rfl ?_
  refine A_iconst C (0 : Int32) dX4_scanNumber_0 (by decide) ?_
  refine A_istore_n C [(1, .int (0 : Int32)), (0, .ref (qT 99))] dX4_scanNumber_1 rfl (by decide) rfl ?_
  refine A_aload_n C 1 dX4_scanNumber_2 rfl rfl ?_
  refine A_iconst C (0 : Int32) dX4_scanNumber_3 (by decide) ?_
  refine A_put C 0 4 (wTx t qT (pI bT 4 (0 : Int32))) tyX4 inG4 tyX4_ok nmX4 (ci := 4) rfl (by decide) fl_4_25 rfl rfl rfl rfl rfl (Nat.le_of_ble_eq_true rfl) rfl dX4_scanNumber_4 ?_
  exact A_loc [1, 0] rfl (t_4_scanNumber_7 C qT r 200 (pI bT 4 (0 : Int32)) (0 : Int32) h0)
def f_2_daysOut (bS : BV) : Option (Int32) :=
  (f_2_daysOfSet bS (15 : Int32)).bind (fun z1 => some z1)
theorem c_2_daysOut (l : Launch) (D : va_G) (t : ty4) (qS : Nat → Nat) (bS : BV) {r : Int32} (h0 : f_2_daysOut bS = some r) : MetI l yX2_daysOut cX2_daysOut 1 (some .int) (rmD 2) D t [.ref (qS 99)] (wS t qS bS) (fun x w => r = x ∧ (wS t qS bS) = w) := by
  refine MetI_of (by decide +kernel) (Nat.le_of_ble_eq_true rfl) (fun p e s m below meth c C _ => ?_)
  unfold f_2_daysOut at h0
  generalize hargs : (List.toArray [.ref (qS 99)] : Array Value) = args at C ⊢
  refine At.start (lv2 := [(0, .ref (qS 99))]) rfl ?_
  refine A_aload_n C 0 dX2_daysOut_0 rfl rfl ?_
  refine A_bipush C (15 : Int32) dX2_daysOut_1 (by decide) ?_
  obtain ⟨z1, hz1, h0⟩ := bind_some h0
  refine A_vI (As := [.int (15 : Int32)]) (rest := []) C 0 (c_2_daysOfSet l D t qS bS (15 : Int32) hz1) mw_2_daysOfSet ml_2_43 im_2_daysOfSet sl_2_daysOfSet (rmok rfl rfl) (cut0 (wS t qS bS)) rfl (ci := 2) rfl rfl rfl (Nat.le_of_ble_eq_true rfl) dX2_daysOut_3 (fun x w1 hw1 => ?_)
  obtain ⟨rfl, rfl⟩ := hw1
  refine A_perm (ws' := (wS t qS bS)) ((cut0 _).symm) ?_
  have h0 := Option.some.inj h0
  subst h0
  exact A_iret C dX2_daysOut_6 ⟨rfl, rfl⟩
def f_2_daysIn (bL : BV) (bS : BV) : Option (Int32) :=
  (f_0_allDays bL).bind (fun z1 => (f_2_daysOut bS).bind (fun z2 => some ((z1 &&& (z2 ^^^ (-1 : Int32))) &&& ((gI bS 3) ^^^ (-1 : Int32)))))
theorem c_2_daysIn (l : Launch) (D : va_G) (t : ty4) (qL : Nat → Nat) (qS : Nat → Nat) (bL : BV) (bS : BV) {r : Int32} (h0 : f_2_daysIn bL bS = some r) : MetI l yX2_daysIn cX2_daysIn 2 (some .int) (rmD 3) D t [.ref (qS 99), .ref (qL 99)] (wL t qL bL ++ (wS t qS bS)) (fun x w => r = x ∧ (wL t qL bL ++ (wS t qS bS)) = w) := by
  refine MetI_of (by decide +kernel) (Nat.le_of_ble_eq_true rfl) (fun p e s m below meth c C _ => ?_)
  unfold f_2_daysIn at h0
  generalize hargs : (List.toArray [.ref (qS 99), .ref (qL 99)] : Array Value) = args at C ⊢
  refine At.start (lv2 := [(0, .ref (qS 99)), (1, .ref (qL 99))]) rfl ?_
  refine A_aload_n C 1 dX2_daysIn_0 rfl rfl ?_
  obtain ⟨z1, hz1, h0⟩ := bind_some h0
  refine A_vI (As := []) (rest := []) C 0 (c_0_allDays l D t qL bL hz1) mw_0_allDays ml_2_47 im_0_allDays sl_0_allDays (rmok rfl rfl) (cutA [] (wL t qL bL) (wS t qS bS)) rfl (ci := 0) rfl rfl rfl (Nat.le_of_ble_eq_true rfl) dX2_daysIn_1 (fun x w1 hw1 => ?_)
  obtain ⟨rfl, rfl⟩ := hw1
  refine A_perm (ws' := (wL t qL bL ++ (wS t qS bS))) ((cutA [] (wL t qL bL) (wS t qS bS)).symm) ?_
  refine A_aload_n C 0 dX2_daysIn_4 rfl rfl ?_
  obtain ⟨z2, hz2, h0⟩ := bind_some h0
  refine A_vI (As := []) (rest := [.int z1]) C 0 (c_2_daysOut l D t qS bS hz2) mw_2_daysOut ml_2_53 im_2_daysOut sl_2_daysOut (rmok rfl rfl) (cutA (wL t qL bL) (wS t qS bS) []) rfl (ci := 2) rfl rfl rfl (Nat.le_of_ble_eq_true rfl) dX2_daysIn_5 (fun x w1 hw1 => ?_)
  obtain ⟨rfl, rfl⟩ := hw1
  refine A_perm (ws' := (wL t qL bL ++ (wS t qS bS))) ((cutA (wL t qL bL) (wS t qS bS) []).symm) ?_
  refine A_iconst C (-1 : Int32) dX2_daysIn_8 (by decide) ?_
  refine A_ixor C dX2_daysIn_9 ?_
  refine A_iand C dX2_daysIn_10 ?_
  refine A_aload_n C 0 dX2_daysIn_11 rfl rfl ?_
  refine A_get (v := .int (gI bS 3)) C 6 3 inG2 (ci := 2) rfl (by decide) fl_2_21 rfl rfl rfl dX2_daysIn_12 ?_
  refine A_iconst C (-1 : Int32) dX2_daysIn_15 (by decide) ?_
  refine A_ixor C dX2_daysIn_16 ?_
  refine A_iand C dX2_daysIn_17 ?_
  have h0 := Option.some.inj h0
  subst h0
  exact A_iret C dX2_daysIn_18 ⟨rfl, rfl⟩
def f_2_owed (bS : BV) : Option (Int32) :=
  (f_2_costOfSet bS (15 : Int32)).bind (fun z1 => some z1)
theorem c_2_owed (l : Launch) (D : va_G) (t : ty4) (qS : Nat → Nat) (bS : BV) {r : Int32} (h0 : f_2_owed bS = some r) : MetI l yX2_owed cX2_owed 1 (some .int) (rmD 2) D t [.ref (qS 99)] (wS t qS bS) (fun x w => r = x ∧ (wS t qS bS) = w) := by
  refine MetI_of (by decide +kernel) (Nat.le_of_ble_eq_true rfl) (fun p e s m below meth c C _ => ?_)
  unfold f_2_owed at h0
  generalize hargs : (List.toArray [.ref (qS 99)] : Array Value) = args at C ⊢
  refine At.start (lv2 := [(0, .ref (qS 99))]) rfl ?_
  refine A_aload_n C 0 dX2_owed_0 rfl rfl ?_
  refine A_bipush C (15 : Int32) dX2_owed_1 (by decide) ?_
  obtain ⟨z1, hz1, h0⟩ := bind_some h0
  refine A_vI (As := [.int (15 : Int32)]) (rest := []) C 0 (c_2_costOfSet l D t qS bS (15 : Int32) hz1) mw_2_costOfSet ml_2_56 im_2_costOfSet sl_2_costOfSet (rmok rfl rfl) (cut0 (wS t qS bS)) rfl (ci := 2) rfl rfl rfl (Nat.le_of_ble_eq_true rfl) dX2_owed_3 (fun x w1 hw1 => ?_)
  obtain ⟨rfl, rfl⟩ := hw1
  refine A_perm (ws' := (wS t qS bS)) ((cut0 _).symm) ?_
  have h0 := Option.some.inj h0
  subst h0
  exact A_iret C dX2_owed_6 ⟨rfl, rfl⟩
def f_2_takeInterest_69 (bL : BV) (bS : BV) : Option (BV) :=
  some bS
theorem t_2_takeInterest_69 (C : CX p s m args meth c cX2_takeInterest 6 none RX2 D t) (qL : Nat → Nat) (qS : Nat → Nat) (bL : BV) (r : BV) (bS : BV) (h0 : f_2_takeInterest_69 bL bS = some r) : At p l e (rmD 4) s m args below meth c D 6 w0 (QV below args s D w0 (fun w => (wL t qL bL ++ (wS t qS r)) = w) 0 0) 0 0 69 [] [] (wL t qL bL ++ (wS t qS bS)) := by
  unfold f_2_takeInterest_69 at h0
  have h0 := Option.some.inj h0
  subst h0
  exact A_vret C dX2_takeInterest_69 rfl
def f_2_takeInterest_63 (bL : BV) (k20 : BV → Int32 → Int32 → Int32 → Int32 → Option (BV)) (bS : BV) (x2 : Int32) (x3 : Int32) (x4 : Int32) (x5 : Int32) : Option (BV) :=
  k20 bS x2 x3 x4 (x5 + (1 : Int32))
theorem t_2_takeInterest_63 (C : CX p s m args meth c cX2_takeInterest 6 none RX2 D t) (qL : Nat → Nat) (qS : Nat → Nat) (bL : BV) (r : BV) (k20 : BV → Int32 → Int32 → Int32 → Int32 → Option (BV)) (K20 : ∀ (bS : BV) (x2 : Int32) (x3 : Int32) (x4 : Int32) (x5 : Int32), k20 bS x2 x3 x4 x5 = some r → At p l e (rmD 4) s m args below meth c D 6 w0 (QV below args s D w0 (fun w => (wL t qL bL ++ (wS t qS r)) = w) 0 0) 0 0 20 [(0, .ref (qS 99)), (1, .ref (qL 99)), (2, .int x2), (3, .int x3), (4, .int x4), (5, .int x5)] [] (wL t qL bL ++ (wS t qS bS))) (bS : BV) (x2 : Int32) (x3 : Int32) (x4 : Int32) (x5 : Int32) (h0 : f_2_takeInterest_63 bL k20 bS x2 x3 x4 x5 = some r) : At p l e (rmD 4) s m args below meth c D 6 w0 (QV below args s D w0 (fun w => (wL t qL bL ++ (wS t qS r)) = w) 0 0) 0 0 63 [(0, .ref (qS 99)), (1, .ref (qL 99)), (2, .int x2), (3, .int x3), (4, .int x4), (5, .int x5)] [] (wL t qL bL ++ (wS t qS bS)) := by
  unfold f_2_takeInterest_63 at h0
  refine A_iinc C 5 (x5 + (1 : Int32)) [(5, .int (x5 + (1 : Int32))), (0, .ref (qS 99)), (1, .ref (qL 99)), (2, .int x2), (3, .int x3), (4, .int x4)] dX2_takeInterest_63 rfl rfl (by decide) rfl ?_
  refine A_goto C 20 dX2_takeInterest_66 (by decide) ?_
  exact A_loc [1, 2, 3, 4, 5, 0] rfl (K20 bS x2 x3 x4 (x5 + (1 : Int32)) h0)
def f_2_takeInterest_20_b (bL : BV) (k20 : BV → Int32 → Int32 → Int32 → Int32 → Option (BV)) (bS : BV) (x2 : Int32) (x3 : Int32) (x4 : Int32) (x5 : Int32) : Option (BV) :=
  if (gI bL 1) ≤ x5 then (f_2_takeInterest_69 bL bS) else (if (gI bL 9) ≤ x4 then (f_2_takeInterest_69 bL bS) else ((f_5_has x3 x5).bind (fun z1 => if z1 = 0 then (f_2_takeInterest_63 bL k20 bS x2 x3 x4 x5) else (ck (inb x2 4) (ck (inb x2 4) (bs (pA bS 0 x2 ((gA bS 0 x2) ||| ((1 : Int32) <<< (x5 &&& 31)))) (fun b2 => f_2_takeInterest_63 bL k20 b2 x2 x3 (x4 + (1 : Int32)) x5)))))))
theorem t_2_takeInterest_20_b (C : CX p s m args meth c cX2_takeInterest 6 none RX2 D t) (qL : Nat → Nat) (qS : Nat → Nat) (bL : BV) (r : BV) (k20 : BV → Int32 → Int32 → Int32 → Int32 → Option (BV)) (K20 : ∀ (bS : BV) (x2 : Int32) (x3 : Int32) (x4 : Int32) (x5 : Int32), k20 bS x2 x3 x4 x5 = some r → At p l e (rmD 4) s m args below meth c D 6 w0 (QV below args s D w0 (fun w => (wL t qL bL ++ (wS t qS r)) = w) 0 0) 0 0 20 [(0, .ref (qS 99)), (1, .ref (qL 99)), (2, .int x2), (3, .int x3), (4, .int x4), (5, .int x5)] [] (wL t qL bL ++ (wS t qS bS))) (bS : BV) (x2 : Int32) (x3 : Int32) (x4 : Int32) (x5 : Int32) (h0 : f_2_takeInterest_20_b bL k20 bS x2 x3 x4 x5 = some r) : At p l e (rmD 4) s m args below meth c D 6 w0 (QV below args s D w0 (fun w => (wL t qL bL ++ (wS t qS r)) = w) 0 0) 0 0 20 [(0, .ref (qS 99)), (1, .ref (qL 99)), (2, .int x2), (3, .int x3), (4, .int x4), (5, .int x5)] [] (wL t qL bL ++ (wS t qS bS)) := by
  unfold f_2_takeInterest_20_b at h0
  refine A_iload C 5 dX2_takeInterest_20 rfl ?_
  refine A_aload_n C 1 dX2_takeInterest_22 rfl rfl ?_
  refine A_get (v := .int (gI bL 1)) C 0 1 inG0 (ci := 0) rfl (by decide) fl_2_76 rfl rfl rfl dX2_takeInterest_23 ?_
  refine A_icmp_ge C 69 dX2_takeInterest_26 (by decide) h0 (fun h0 => ?_) (fun h0 => ?_)
  · exact A_loc [] rfl (t_2_takeInterest_69 C qL qS bL r bS h0)
  · refine A_iload C 4 dX2_takeInterest_29 rfl ?_
    refine A_aload_n C 1 dX2_takeInterest_31 rfl rfl ?_
    refine A_get (v := .int (gI bL 9)) C 0 9 inG0 (ci := 0) rfl (by decide) fl_2_79 rfl rfl rfl dX2_takeInterest_32 ?_
    refine A_icmp_ge C 69 dX2_takeInterest_35 (by decide) h0 (fun h0 => ?_) (fun h0 => ?_)
    · exact A_loc [] rfl (t_2_takeInterest_69 C qL qS bL r bS h0)
    · refine A_iload_n C 3 dX2_takeInterest_38 rfl rfl ?_
      refine A_iload C 5 dX2_takeInterest_39 rfl ?_
      obtain ⟨z1, hz1, h0⟩ := bind_some h0
      refine A_snI (As := [.int x3, .int x5]) (rest := []) C (c_5_has l D t x3 x5 hz1) mw_5_has C.2.2.2.2.1.2.2.2.2.2.2.2.1 st_5_has (rmok rfl rfl) (cutN (wL t qL bL ++ (wS t qS bS))) rfl rfl (Nat.le_of_ble_eq_true rfl) dX2_takeInterest_41 (fun x w1 hw1 => ?_)
      obtain ⟨rfl, rfl⟩ := hw1
      refine A_perm (ws' := (wL t qL bL ++ (wS t qS bS))) ((cutN _).symm) ?_
      refine A_if_eq C 63 dX2_takeInterest_44 (by decide) h0 (fun h0 => ?_) (fun h0 => ?_)
      · exact A_loc [0, 1, 2, 3, 4, 5] rfl (t_2_takeInterest_63 C qL qS bL r k20 K20 bS x2 x3 x4 x5 h0)
      · refine A_aload_n C 0 dX2_takeInterest_47 rfl rfl ?_
        refine A_get (v := .ref (qS 0)) C 6 0 inG2 (ci := 2) rfl (by decide) fl_2_9 rfl rfl rfl dX2_takeInterest_48 ?_
        refine A_iload_n C 2 dX2_takeInterest_51 rfl rfl ?_
        refine A_dup2 C dX2_takeInterest_52 rfl rfl ?_
        refine A_iald C 7 (gA bS 0 x2) rfl rfl dX2_takeInterest_53 h0 (fun h0 => ?_)
        refine A_iconst C (1 : Int32) dX2_takeInterest_54 (by decide) ?_
        refine A_iload C 5 dX2_takeInterest_55 rfl ?_
        refine A_ishl C dX2_takeInterest_57 ?_
        refine A_ior C dX2_takeInterest_58 ?_
        refine A_iast C 7 (wL t qL bL ++ (wS t qS (pA bS 0 x2 ((gA bS 0 x2) ||| ((1 : Int32) <<< (x5 &&& 31)))))) rfl rfl dX2_takeInterest_59 h0 (fun h0 => ?_)
        obtain ⟨b2, hb2, h0⟩ := bs_some h0
        refine A_weq (wL t qL bL ++ (wS t qS b2)) (by rw [hb2]) ?_
        refine A_iinc C 4 (x4 + (1 : Int32)) [(4, .int (x4 + (1 : Int32))), (0, .ref (qS 99)), (1, .ref (qL 99)), (2, .int x2), (3, .int x3), (5, .int x5)] dX2_takeInterest_60 rfl rfl (by decide) rfl ?_
        exact A_loc [1, 2, 3, 4, 0, 5] rfl (t_2_takeInterest_63 C qL qS bL r k20 K20 b2 x2 x3 (x4 + (1 : Int32)) x5 h0)
def f_2_takeInterest_20 (bL : BV) : Nat → BV → Int32 → Int32 → Int32 → Int32 → Option (BV)
  | 0 => fun _ _ _ _ _ => none
  | n + 1 => f_2_takeInterest_20_b bL (f_2_takeInterest_20 bL n)
theorem t_2_takeInterest_20 (C : CX p s m args meth c cX2_takeInterest 6 none RX2 D t) (qL : Nat → Nat) (qS : Nat → Nat) (bL : BV) (r : BV) : ∀ (n : Nat), ∀ (bS : BV) (x2 : Int32) (x3 : Int32) (x4 : Int32) (x5 : Int32), f_2_takeInterest_20 bL n bS x2 x3 x4 x5 = some r → At p l e (rmD 4) s m args below meth c D 6 w0 (QV below args s D w0 (fun w => (wL t qL bL ++ (wS t qS r)) = w) 0 0) 0 0 20 [(0, .ref (qS 99)), (1, .ref (qL 99)), (2, .int x2), (3, .int x3), (4, .int x4), (5, .int x5)] [] (wL t qL bL ++ (wS t qS bS)) := by
  intro n
  induction n with
  | zero =>
    intro bS x2 x3 x4 x5 h0
    have h0 : none = some r := h0
    cases h0
  | succ n ih =>
    intro bS x2 x3 x4 x5 h0
    exact t_2_takeInterest_20_b C qL qS bL r _ ih bS x2 x3 x4 x5 h0
def f_2_takeInterest (bL : BV) (bS : BV) (x2 : Int32) : Option (BV) :=
  (f_2_daysIn bL bS).bind (fun z3 => ck (inb x2 4) ((f_2_behindLast (gA bS 0 x2)).bind (fun z4 => f_2_takeInterest_20 bL 200 bS x2 z3 (0 : Int32) z4)))
theorem c_2_takeInterest (l : Launch) (D : va_G) (t : ty4) (qL : Nat → Nat) (qS : Nat → Nat) (bL : BV) (bS : BV) (x2 : Int32) {r : BV} (h0 : f_2_takeInterest bL bS x2 = some r) : MetV l yX2_takeInterest cX2_takeInterest 6 none (rmD 4) D t [.ref (qS 99), .ref (qL 99), .int x2] (wL t qL bL ++ (wS t qS bS)) (fun w => (wL t qL bL ++ (wS t qS r)) = w) := by
  refine MetV_of (by decide +kernel) (Nat.le_of_ble_eq_true rfl) (fun p e s m below meth c C _ => ?_)
  unfold f_2_takeInterest at h0
  generalize hargs : (List.toArray [.ref (qS 99), .ref (qL 99), .int x2] : Array Value) = args at C ⊢
  refine At.start (lv2 := [(0, .ref (qS 99)), (1, .ref (qL 99)), (2, .int x2)]) rfl ?_
  refine A_aload_n C 0 dX2_takeInterest_0 rfl rfl ?_
  refine A_aload_n C 1 dX2_takeInterest_1 rfl rfl ?_
  obtain ⟨z3, hz3, h0⟩ := bind_some h0
  refine A_vI (As := [.ref (qL 99)]) (rest := []) C 6 (c_2_daysIn l D t qL qS bL bS hz3) mw_2_daysIn ml_2_59 im_2_daysIn sl_2_daysIn (rmok rfl rfl) (cut0 (wL t qL bL ++ (wS t qS bS))) rfl (ci := 2) rfl rfl rfl (Nat.le_of_ble_eq_true rfl) dX2_takeInterest_2 (fun x w1 hw1 => ?_)
  obtain ⟨rfl, rfl⟩ := hw1
  refine A_perm (ws' := (wL t qL bL ++ (wS t qS bS))) ((cut0 _).symm) ?_
  refine A_istore_n C [(3, .int z3), (0, .ref (qS 99)), (1, .ref (qL 99)), (2, .int x2)] dX2_takeInterest_5 rfl (by decide) rfl ?_
  refine A_iconst C (0 : Int32) dX2_takeInterest_6 (by decide) ?_
  refine A_istore C [(4, .int (0 : Int32)), (3, .int z3), (0, .ref (qS 99)), (1, .ref (qL 99)), (2, .int x2)] dX2_takeInterest_7 (by decide) rfl ?_
  refine A_aload_n C 2 dX2_takeInterest_9 rfl rfl ?_
  refine A_get (v := .ref (qS 0)) C 6 0 inG2 (ci := 2) rfl (by decide) fl_2_9 rfl rfl rfl dX2_takeInterest_10 ?_
  refine A_iload_n C 4 dX2_takeInterest_13 rfl rfl ?_
  refine A_iald C 7 (gA bS 0 x2) rfl rfl dX2_takeInterest_14 h0 (fun h0 => ?_)
  obtain ⟨z4, hz4, h0⟩ := bind_some h0
  refine A_sI (As := [.int (gA bS 0 x2)]) (rest := []) C (c_2_behindLast l D t (gA bS 0 x2) hz4) mw_2_behindLast ml_2_73 st_2_behindLast (rmok rfl rfl) (cutN (wL t qL bL ++ (wS t qS bS))) rfl rfl (Nat.le_of_ble_eq_true rfl) dX2_takeInterest_15 (fun x w1 hw1 => ?_)
  obtain ⟨rfl, rfl⟩ := hw1
  refine A_perm (ws' := (wL t qL bL ++ (wS t qS bS))) ((cutN _).symm) ?_
  refine A_istore C [(5, .int z4), (4, .int (0 : Int32)), (3, .int z3), (0, .ref (qS 99)), (1, .ref (qL 99)), (2, .int x2)] dX2_takeInterest_18 (by decide) rfl ?_
  exact A_loc [3, 4, 5, 2, 1, 0] rfl (t_2_takeInterest_20 C qL qS bL r 200 bS x2 z3 (0 : Int32) z4 h0)
def f_4_toNextToken_142 (bT : BV) : Option (BV) :=
  some bT
theorem t_4_toNextToken_142 (C : CX p s m args meth c cX4_toNextToken 1 none RX4 D t) (qT : Nat → Nat) (r : BV) (bT : BV) (h0 : f_4_toNextToken_142 bT = some r) : At p l e (rmD 2) s m args below meth c D 1 w0 (QV below args s D w0 (fun w => (wTx t qT r) = w) 0 0) 0 0 142 [] [] (wTx t qT bT) := by
  unfold f_4_toNextToken_142 at h0
  have h0 := Option.some.inj h0
  subst h0
  exact A_vret C dX4_toNextToken_142 rfl
def f_4_toNextToken_129 (bT : BV) (y0 : Int32) : Option (BV) :=
  f_4_toNextToken_142 (pI (pI bT 3 y0) 5 ((gI bT 5) + (1 : Int32)))
theorem t_4_toNextToken_129 (C : CX p s m args meth c cX4_toNextToken 1 none RX4 D t) (qT : Nat → Nat) (r : BV) (bT : BV) (y0 : Int32) (h0 : f_4_toNextToken_129 bT y0 = some r) : At p l e (rmD 2) s m args below meth c D 1 w0 (QV below args s D w0 (fun w => (wTx t qT r) = w) 0 0) 0 0 129 [(0, .ref (qT 99))] [.int y0, .ref (qT 99)] (wTx t qT bT) := by
  unfold f_4_toNextToken_129 at h0
  refine A_put C 0 3 (wTx t qT (pI bT 3 y0)) tyX4 inG4 tyX4_ok nmX4 (ci := 4) rfl (by decide) fl_4_22 rfl rfl rfl rfl rfl (Nat.le_of_ble_eq_true rfl) rfl dX4_toNextToken_129 ?_
  refine A_aload_n C 0 dX4_toNextToken_132 rfl rfl ?_
  refine A_dup C dX4_toNextToken_133 rfl ?_
  refine A_get (v := .int (gI bT 5)) C 0 5 inG4 (ci := 4) rfl (by decide) fl_4_28 rfl rfl rfl dX4_toNextToken_134 ?_
  refine A_iconst C (1 : Int32) dX4_toNextToken_137 (by decide) ?_
  refine A_iadd C dX4_toNextToken_138 ?_
  refine A_put C 0 5 (wTx t qT (pI (pI bT 3 y0) 5 ((gI bT 5) + (1 : Int32)))) tyX4 inG4 tyX4_ok nmX4 (ci := 4) rfl (by decide) fl_4_28 rfl rfl rfl rfl rfl (Nat.le_of_ble_eq_true rfl) rfl dX4_toNextToken_139 ?_
  exact A_loc [] rfl (t_4_toNextToken_142 C qT r (pI (pI bT 3 y0) 5 ((gI bT 5) + (1 : Int32))) h0)
def f_4_toNextToken_38 (bT : BV) : Option (BV) :=
  if (gI bT 5) < (gI bT 1) then (ck (inb (gI bT 5) 150) ((f_4_isLetter (gA bT 0 (gI bT 5))).bind (fun z1 => if z1 = 0 then (ck (inb (gI bT 5) 150) ((f_4_isDigit (gA bT 0 (gI bT 5))).bind (fun z2 => if z2 = 0 then (ck (inb (gI bT 5) 150) (if (gA bT 0 (gI bT 5)) = (59 : Int32) then (f_4_toNextToken_129 (pI bT 2 (gI bT 5)) (3 : Int32)) else (f_4_toNextToken_129 (pI bT 2 (gI bT 5)) (4 : Int32)))) else ((f_4_scanNumber (pI bT 2 (gI bT 5))).bind (fun z3 => f_4_toNextToken_142 z3))))) else ((f_4_scanLetters (pI bT 2 (gI bT 5))).bind (fun z4 => f_4_toNextToken_142 z4))))) else (f_4_toNextToken_142 (pI (pI bT 2 (gI bT 5)) 3 (0 : Int32)))
theorem t_4_toNextToken_38 (C : CX p s m args meth c cX4_toNextToken 1 none RX4 D t) (qT : Nat → Nat) (r : BV) (bT : BV) (h0 : f_4_toNextToken_38 bT = some r) : At p l e (rmD 2) s m args below meth c D 1 w0 (QV below args s D w0 (fun w => (wTx t qT r) = w) 0 0) 0 0 38 [(0, .ref (qT 99))] [] (wTx t qT bT) := by
  unfold f_4_toNextToken_38 at h0
  refine A_aload_n C 0 dX4_toNextToken_38 rfl rfl ?_
  refine A_aload_n C 0 dX4_toNextToken_39 rfl rfl ?_
  refine A_get (v := .int (gI bT 5)) C 0 5 inG4 (ci := 4) rfl (by decide) fl_4_28 rfl rfl rfl dX4_toNextToken_40 ?_
  refine A_put C 0 2 (wTx t qT (pI bT 2 (gI bT 5))) tyX4 inG4 tyX4_ok nmX4 (ci := 4) rfl (by decide) fl_4_19 rfl rfl rfl rfl rfl (Nat.le_of_ble_eq_true rfl) rfl dX4_toNextToken_43 ?_
  refine A_aload_n C 0 dX4_toNextToken_46 rfl rfl ?_
  refine A_get (v := .int (gI bT 5)) C 0 5 inG4 (ci := 4) rfl (by decide) fl_4_28 rfl rfl rfl dX4_toNextToken_47 ?_
  refine A_aload_n C 0 dX4_toNextToken_50 rfl rfl ?_
  refine A_get (v := .int (gI bT 1)) C 0 1 inG4 (ci := 4) rfl (by decide) fl_4_15 rfl rfl rfl dX4_toNextToken_51 ?_
  refine A_icmp_lt C 65 dX4_toNextToken_54 (by decide) h0 (fun h0 => ?_) (fun h0 => ?_)
  · refine A_aload_n C 0 dX4_toNextToken_65 rfl rfl ?_
    refine A_get (v := .ref (qT 0)) C 0 0 inG4 (ci := 4) rfl (by decide) fl_4_9 rfl rfl rfl dX4_toNextToken_66 ?_
    refine A_aload_n C 0 dX4_toNextToken_69 rfl rfl ?_
    refine A_get (v := .int (gI bT 5)) C 0 5 inG4 (ci := 4) rfl (by decide) fl_4_28 rfl rfl rfl dX4_toNextToken_70 ?_
    refine A_iald C 1 (gA bT 0 (gI bT 5)) rfl rfl dX4_toNextToken_73 h0 (fun h0 => ?_)
    obtain ⟨z1, hz1, h0⟩ := bind_some h0
    refine A_sI (As := [.int (gA bT 0 (gI bT 5))]) (rest := []) C (c_4_isLetter l D t (gA bT 0 (gI bT 5)) hz1) mw_4_isLetter ml_4_34 st_4_isLetter (rmok rfl rfl) (cutN (wTx t qT (pI bT 2 (gI bT 5)))) rfl rfl (Nat.le_of_ble_eq_true rfl) dX4_toNextToken_74 (fun x w1 hw1 => ?_)
    obtain ⟨rfl, rfl⟩ := hw1
    refine A_perm (ws' := (wTx t qT (pI bT 2 (gI bT 5)))) ((cutN _).symm) ?_
    refine A_if_eq C 87 dX4_toNextToken_77 (by decide) h0 (fun h0 => ?_) (fun h0 => ?_)
    · refine A_aload_n C 0 dX4_toNextToken_87 rfl rfl ?_
      refine A_get (v := .ref (qT 0)) C 0 0 inG4 (ci := 4) rfl (by decide) fl_4_9 rfl rfl rfl dX4_toNextToken_88 ?_
      refine A_aload_n C 0 dX4_toNextToken_91 rfl rfl ?_
      refine A_get (v := .int (gI bT 5)) C 0 5 inG4 (ci := 4) rfl (by decide) fl_4_28 rfl rfl rfl dX4_toNextToken_92 ?_
      refine A_iald C 1 (gA bT 0 (gI bT 5)) rfl rfl dX4_toNextToken_95 h0 (fun h0 => ?_)
      obtain ⟨z2, hz2, h0⟩ := bind_some h0
      refine A_sI (As := [.int (gA bT 0 (gI bT 5))]) (rest := []) C (c_4_isDigit l D t (gA bT 0 (gI bT 5)) hz2) mw_4_isDigit ml_4_41 st_4_isDigit (rmok rfl rfl) (cutN (wTx t qT (pI bT 2 (gI bT 5)))) rfl rfl (Nat.le_of_ble_eq_true rfl) dX4_toNextToken_96 (fun x w1 hw1 => ?_)
      obtain ⟨rfl, rfl⟩ := hw1
      refine A_perm (ws' := (wTx t qT (pI bT 2 (gI bT 5)))) ((cutN _).symm) ?_
      refine A_if_eq C 109 dX4_toNextToken_99 (by decide) h0 (fun h0 => ?_) (fun h0 => ?_)
      · refine A_aload_n C 0 dX4_toNextToken_109 rfl rfl ?_
        refine A_aload_n C 0 dX4_toNextToken_110 rfl rfl ?_
        refine A_get (v := .ref (qT 0)) C 0 0 inG4 (ci := 4) rfl (by decide) fl_4_9 rfl rfl rfl dX4_toNextToken_111 ?_
        refine A_aload_n C 0 dX4_toNextToken_114 rfl rfl ?_
        refine A_get (v := .int (gI bT 5)) C 0 5 inG4 (ci := 4) rfl (by decide) fl_4_28 rfl rfl rfl dX4_toNextToken_115 ?_
        refine A_iald C 1 (gA bT 0 (gI bT 5)) rfl rfl dX4_toNextToken_118 h0 (fun h0 => ?_)
        refine A_bipush C (59 : Int32) dX4_toNextToken_119 (by decide) ?_
        refine A_icmp_ne C 128 dX4_toNextToken_121 (by decide) h0 (fun h0 => ?_) (fun h0 => ?_)
        · refine A_iconst C (4 : Int32) dX4_toNextToken_128 (by decide) ?_
          exact A_loc [0] rfl (t_4_toNextToken_129 C qT r (pI bT 2 (gI bT 5)) (4 : Int32) h0)
        · refine A_iconst C (3 : Int32) dX4_toNextToken_124 (by decide) ?_
          refine A_goto C 129 dX4_toNextToken_125 (by decide) ?_
          exact A_loc [0] rfl (t_4_toNextToken_129 C qT r (pI bT 2 (gI bT 5)) (3 : Int32) h0)
      · refine A_aload_n C 0 dX4_toNextToken_102 rfl rfl ?_
        obtain ⟨z3, hz3, h0⟩ := bind_some h0
        refine A_vV (As := []) (rest := []) C 0 (c_4_scanNumber l D t qT (pI bT 2 (gI bT 5)) hz3) mw_4_scanNumber ml_4_44 im_4_scanNumber sl_4_scanNumber (rmok rfl rfl) (cut0 (wTx t qT (pI bT 2 (gI bT 5)))) rfl (ci := 4) rfl rfl rfl (Nat.le_of_ble_eq_true rfl) dX4_toNextToken_103 (fun w1 hw1 => ?_)
        subst hw1
        refine A_perm (ws' := (wTx t qT z3)) ((cut0 _).symm) ?_
        refine A_goto C 142 dX4_toNextToken_106 (by decide) ?_
        exact A_loc [] rfl (t_4_toNextToken_142 C qT r z3 h0)
    · refine A_aload_n C 0 dX4_toNextToken_80 rfl rfl ?_
      obtain ⟨z4, hz4, h0⟩ := bind_some h0
      refine A_vV (As := []) (rest := []) C 0 (c_4_scanLetters l D t qT (pI bT 2 (gI bT 5)) hz4) mw_4_scanLetters ml_4_38 im_4_scanLetters sl_4_scanLetters (rmok rfl rfl) (cut0 (wTx t qT (pI bT 2 (gI bT 5)))) rfl (ci := 4) rfl rfl rfl (Nat.le_of_ble_eq_true rfl) dX4_toNextToken_81 (fun w1 hw1 => ?_)
      subst hw1
      refine A_perm (ws' := (wTx t qT z4)) ((cut0 _).symm) ?_
      refine A_goto C 142 dX4_toNextToken_84 (by decide) ?_
      exact A_loc [] rfl (t_4_toNextToken_142 C qT r z4 h0)
  · refine A_aload_n C 0 dX4_toNextToken_57 rfl rfl ?_
    refine A_iconst C (0 : Int32) dX4_toNextToken_58 (by decide) ?_
    refine A_put C 0 3 (wTx t qT (pI (pI bT 2 (gI bT 5)) 3 (0 : Int32))) tyX4 inG4 tyX4_ok nmX4 (ci := 4) rfl (by decide) fl_4_22 rfl rfl rfl rfl rfl (Nat.le_of_ble_eq_true rfl) rfl dX4_toNextToken_59 ?_
    refine A_goto C 142 dX4_toNextToken_62 (by decide) ?_
    exact A_loc [] rfl (t_4_toNextToken_142 C qT r (pI (pI bT 2 (gI bT 5)) 3 (0 : Int32)) h0)
def f_4_toNextToken_0_b (k0 : BV → Option (BV)) (bT : BV) : Option (BV) :=
  if (gI bT 1) ≤ (gI bT 5) then (f_4_toNextToken_38 bT) else (ck (inb (gI bT 5) 150) (if (gA bT 0 (gI bT 5)) = (32 : Int32) then (k0 (pI bT 5 ((gI bT 5) + (1 : Int32)))) else (f_4_toNextToken_38 bT)))
theorem t_4_toNextToken_0_b (C : CX p s m args meth c cX4_toNextToken 1 none RX4 D t) (qT : Nat → Nat) (r : BV) (k0 : BV → Option (BV)) (K0 : ∀ (bT : BV), k0 bT = some r → At p l e (rmD 2) s m args below meth c D 1 w0 (QV below args s D w0 (fun w => (wTx t qT r) = w) 0 0) 0 0 0 [(0, .ref (qT 99))] [] (wTx t qT bT)) (bT : BV) (h0 : f_4_toNextToken_0_b k0 bT = some r) : At p l e (rmD 2) s m args below meth c D 1 w0 (QV below args s D w0 (fun w => (wTx t qT r) = w) 0 0) 0 0 0 [(0, .ref (qT 99))] [] (wTx t qT bT) := by
  unfold f_4_toNextToken_0_b at h0
  refine A_aload_n C 0 dX4_toNextToken_0 rfl rfl ?_
  refine A_get (v := .int (gI bT 5)) C 0 5 inG4 (ci := 4) rfl (by decide) fl_4_28 rfl rfl rfl dX4_toNextToken_1 ?_
  refine A_aload_n C 0 dX4_toNextToken_4 rfl rfl ?_
  refine A_get (v := .int (gI bT 1)) C 0 1 inG4 (ci := 4) rfl (by decide) fl_4_15 rfl rfl rfl dX4_toNextToken_5 ?_
  refine A_icmp_ge C 38 dX4_toNextToken_8 (by decide) h0 (fun h0 => ?_) (fun h0 => ?_)
  · exact A_loc [0] rfl (t_4_toNextToken_38 C qT r bT h0)
  · refine A_aload_n C 0 dX4_toNextToken_11 rfl rfl ?_
    refine A_get (v := .ref (qT 0)) C 0 0 inG4 (ci := 4) rfl (by decide) fl_4_9 rfl rfl rfl dX4_toNextToken_12 ?_
    refine A_aload_n C 0 dX4_toNextToken_15 rfl rfl ?_
    refine A_get (v := .int (gI bT 5)) C 0 5 inG4 (ci := 4) rfl (by decide) fl_4_28 rfl rfl rfl dX4_toNextToken_16 ?_
    refine A_iald C 1 (gA bT 0 (gI bT 5)) rfl rfl dX4_toNextToken_19 h0 (fun h0 => ?_)
    refine A_bipush C (32 : Int32) dX4_toNextToken_20 (by decide) ?_
    refine A_icmp_ne C 38 dX4_toNextToken_22 (by decide) h0 (fun h0 => ?_) (fun h0 => ?_)
    · exact A_loc [0] rfl (t_4_toNextToken_38 C qT r bT h0)
    · refine A_aload_n C 0 dX4_toNextToken_25 rfl rfl ?_
      refine A_dup C dX4_toNextToken_26 rfl ?_
      refine A_get (v := .int (gI bT 5)) C 0 5 inG4 (ci := 4) rfl (by decide) fl_4_28 rfl rfl rfl dX4_toNextToken_27 ?_
      refine A_iconst C (1 : Int32) dX4_toNextToken_30 (by decide) ?_
      refine A_iadd C dX4_toNextToken_31 ?_
      refine A_put C 0 5 (wTx t qT (pI bT 5 ((gI bT 5) + (1 : Int32)))) tyX4 inG4 tyX4_ok nmX4 (ci := 4) rfl (by decide) fl_4_28 rfl rfl rfl rfl rfl (Nat.le_of_ble_eq_true rfl) rfl dX4_toNextToken_32 ?_
      refine A_goto C 0 dX4_toNextToken_35 (by decide) ?_
      exact A_loc [0] rfl (K0 (pI bT 5 ((gI bT 5) + (1 : Int32))) h0)
def f_4_toNextToken_0 : Nat → BV → Option (BV)
  | 0 => fun _ => none
  | n + 1 => f_4_toNextToken_0_b (f_4_toNextToken_0 n)
theorem t_4_toNextToken_0 (C : CX p s m args meth c cX4_toNextToken 1 none RX4 D t) (qT : Nat → Nat) (r : BV) : ∀ (n : Nat), ∀ (bT : BV), f_4_toNextToken_0 n bT = some r → At p l e (rmD 2) s m args below meth c D 1 w0 (QV below args s D w0 (fun w => (wTx t qT r) = w) 0 0) 0 0 0 [(0, .ref (qT 99))] [] (wTx t qT bT) := by
  intro n
  induction n with
  | zero =>
    intro bT h0
    have h0 : none = some r := h0
    cases h0
  | succ n ih =>
    intro bT h0
    exact t_4_toNextToken_0_b C qT r _ ih bT h0
def f_4_toNextToken (bT : BV) : Option (BV) :=
  f_4_toNextToken_0 200 bT
theorem c_4_toNextToken (l : Launch) (D : va_G) (t : ty4) (qT : Nat → Nat) (bT : BV) {r : BV} (h0 : f_4_toNextToken bT = some r) : MetV l yX4_toNextToken cX4_toNextToken 1 none (rmD 2) D t [.ref (qT 99)] (wTx t qT bT) (fun w => (wTx t qT r) = w) := by
  refine MetV_of (by decide +kernel) (Nat.le_of_ble_eq_true rfl) (fun p e s m below meth c C _ => ?_)
  unfold f_4_toNextToken at h0
  generalize hargs : (List.toArray [.ref (qT 99)] : Array Value) = args at C ⊢
  refine At.start (lv2 := [(0, .ref (qT 99))]) rfl ?_
  exact A_loc [0] rfl (t_4_toNextToken_0 C qT r 200 bT h0)
def f_1_readLetter (bR : BV) (bT : BV) (x1 : Int32) : Option (BV × BV) :=
  (f_1_refuseUnless bR bT x1).bind (fun z1 => (f_4_toNextToken bT).bind (fun z2 => some (z1, z2)))
theorem c_1_readLetter (l : Launch) (D : va_G) (t : ty4) (qR : Nat → Nat) (qT : Nat → Nat) (qL : Nat → Nat) (bR : BV) (bT : BV) (bL : BV) (x1 : Int32) {r : BV × BV} (h0 : f_1_readLetter bR bT x1 = some r) : MetV l yX1_readLetter cX1_readLetter 2 none (rmD 3) D t [.ref (qR 99), .int x1] (wRd t qR qT qL bR ++ (wTx t qT bT ++ (wL t qL bL))) (fun w => (wRd t qR qT qL r.1 ++ (wTx t qT r.2 ++ (wL t qL bL))) = w) := by
  refine MetV_of (by decide +kernel) (Nat.le_of_ble_eq_true rfl) (fun p e s m below meth c C _ => ?_)
  unfold f_1_readLetter at h0
  generalize hargs : (List.toArray [.ref (qR 99), .int x1] : Array Value) = args at C ⊢
  refine At.start (lv2 := [(0, .ref (qR 99)), (1, .int x1)]) rfl ?_
  refine A_aload_n C 0 dX1_readLetter_0 rfl rfl ?_
  refine A_iload_n C 1 dX1_readLetter_1 rfl rfl ?_
  obtain ⟨z1, hz1, h0⟩ := bind_some h0
  refine A_vV (As := [.int x1]) (rest := []) C 0 (c_1_refuseUnless l D t qR qT qL bR bT bL x1 hz1) mw_1_refuseUnless ml_1_69 im_1_refuseUnless sl_1_refuseUnless (rmok rfl rfl) (cut0 (wRd t qR qT qL bR ++ (wTx t qT bT ++ (wL t qL bL)))) rfl (ci := 1) rfl rfl rfl (Nat.le_of_ble_eq_true rfl) dX1_readLetter_2 (fun w1 hw1 => ?_)
  subst hw1
  refine A_perm (ws' := (wRd t qR qT qL z1 ++ (wTx t qT bT ++ (wL t qL bL)))) ((cut0 _).symm) ?_
  refine A_aload_n C 0 dX1_readLetter_5 rfl rfl ?_
  refine A_get (v := .ref (qT 99)) C 0 0 inG1 (ci := 1) rfl (by decide) fl_1_12 rfl rfl rfl dX1_readLetter_6 ?_
  obtain ⟨z2, hz2, h0⟩ := bind_some h0
  refine A_vV (As := []) (rest := []) C 0 (c_4_toNextToken l D t qT bT hz2) mw_4_toNextToken ml_1_114 im_4_toNextToken sl_4_toNextToken (rmok rfl rfl) (cutA (wRd t qR qT qL z1) (wTx t qT bT) (wL t qL bL)) rfl (ci := 4) rfl rfl rfl (Nat.le_of_ble_eq_true rfl) dX1_readLetter_9 (fun w1 hw1 => ?_)
  subst hw1
  refine A_perm (ws' := (wRd t qR qT qL z1 ++ (wTx t qT z2 ++ (wL t qL bL)))) ((cutA (wRd t qR qT qL z1) (wTx t qT z2) (wL t qL bL)).symm) ?_
  have h0 := Option.some.inj h0
  subst h0
  exact A_vret C dX1_readLetter_12 rfl
def f_1_readNumber_34 (bR : BV) (bT : BV) (x3 : Int32) (y0 : Int32) : Option (Int32 × BV × BV) :=
  (f_1_refuseUnless bR bT y0).bind (fun z1 => (f_4_toNextToken bT).bind (fun z2 => some (x3, z1, z2)))
theorem t_1_readNumber_34 (C : CX p s m args meth c cX1_readNumber 4 (some .int) RX1 D t) (qR : Nat → Nat) (qT : Nat → Nat) (qL : Nat → Nat) (bL : BV) (r : Int32 × BV × BV) (bR : BV) (bT : BV) (x3 : Int32) (y0 : Int32) (h0 : f_1_readNumber_34 bR bT x3 y0 = some r) : At p l e (rmD 3) s m args below meth c D 4 w0 (QI below args s D w0 (fun x w => r.1 = x ∧ (wRd t qR qT qL r.2.1 ++ (wTx t qT r.2.2 ++ (wL t qL bL))) = w) 0 0) 0 0 34 [(0, .ref (qR 99)), (3, .int x3)] [.int y0, .ref (qR 99)] (wRd t qR qT qL bR ++ (wTx t qT bT ++ (wL t qL bL))) := by
  unfold f_1_readNumber_34 at h0
  obtain ⟨z1, hz1, h0⟩ := bind_some h0
  refine A_vV (As := [.int y0]) (rest := []) C 0 (c_1_refuseUnless l D t qR qT qL bR bT bL y0 hz1) mw_1_refuseUnless ml_1_69 im_1_refuseUnless sl_1_refuseUnless (rmok rfl rfl) (cut0 (wRd t qR qT qL bR ++ (wTx t qT bT ++ (wL t qL bL)))) rfl (ci := 1) rfl rfl rfl (Nat.le_of_ble_eq_true rfl) dX1_readNumber_34 (fun w1 hw1 => ?_)
  subst hw1
  refine A_perm (ws' := (wRd t qR qT qL z1 ++ (wTx t qT bT ++ (wL t qL bL)))) ((cut0 _).symm) ?_
  refine A_aload_n C 0 dX1_readNumber_37 rfl rfl ?_
  refine A_get (v := .ref (qT 99)) C 0 0 inG1 (ci := 1) rfl (by decide) fl_1_12 rfl rfl rfl dX1_readNumber_38 ?_
  obtain ⟨z2, hz2, h0⟩ := bind_some h0
  refine A_vV (As := []) (rest := []) C 0 (c_4_toNextToken l D t qT bT hz2) mw_4_toNextToken ml_1_114 im_4_toNextToken sl_4_toNextToken (rmok rfl rfl) (cutA (wRd t qR qT qL z1) (wTx t qT bT) (wL t qL bL)) rfl (ci := 4) rfl rfl rfl (Nat.le_of_ble_eq_true rfl) dX1_readNumber_41 (fun w1 hw1 => ?_)
  subst hw1
  refine A_perm (ws' := (wRd t qR qT qL z1 ++ (wTx t qT z2 ++ (wL t qL bL)))) ((cutA (wRd t qR qT qL z1) (wTx t qT z2) (wL t qL bL)).symm) ?_
  refine A_iload_n C 1 dX1_readNumber_44 rfl rfl ?_
  have h0 := Option.some.inj h0
  subst h0
  exact A_iret C dX1_readNumber_45 ⟨rfl, rfl⟩
def f_1_readNumber_33 (bR : BV) (bT : BV) (x3 : Int32) : Option (Int32 × BV × BV) :=
  f_1_readNumber_34 bR bT x3 (0 : Int32)
theorem t_1_readNumber_33 (C : CX p s m args meth c cX1_readNumber 4 (some .int) RX1 D t) (qR : Nat → Nat) (qT : Nat → Nat) (qL : Nat → Nat) (bL : BV) (r : Int32 × BV × BV) (bR : BV) (bT : BV) (x3 : Int32) (h0 : f_1_readNumber_33 bR bT x3 = some r) : At p l e (rmD 3) s m args below meth c D 4 w0 (QI below args s D w0 (fun x w => r.1 = x ∧ (wRd t qR qT qL r.2.1 ++ (wTx t qT r.2.2 ++ (wL t qL bL))) = w) 0 0) 0 0 33 [(0, .ref (qR 99)), (3, .int x3)] [.ref (qR 99)] (wRd t qR qT qL bR ++ (wTx t qT bT ++ (wL t qL bL))) := by
  unfold f_1_readNumber_33 at h0
  refine A_iconst C (0 : Int32) dX1_readNumber_33 (by decide) ?_
  exact A_loc [0, 1] rfl (t_1_readNumber_34 C qR qT qL bL r bR bT x3 (0 : Int32) h0)
def f_1_readNumber (bR : BV) (bT : BV) (x1 : Int32) (x2 : Int32) : Option (Int32 × BV × BV) :=
  if (gI bT 3) = (2 : Int32) then ((f_5_isWithin (gI bT 4) x1 x2).bind (fun z3 => if z3 = 0 then (f_1_readNumber_33 bR bT (gI bT 4)) else (f_1_readNumber_34 bR bT (gI bT 4) (1 : Int32)))) else (f_1_readNumber_33 bR bT (gI bT 4))
theorem c_1_readNumber (l : Launch) (D : va_G) (t : ty4) (qR : Nat → Nat) (qT : Nat → Nat) (qL : Nat → Nat) (bR : BV) (bT : BV) (bL : BV) (x1 : Int32) (x2 : Int32) {r : Int32 × BV × BV} (h0 : f_1_readNumber bR bT x1 x2 = some r) : MetI l yX1_readNumber cX1_readNumber 4 (some .int) (rmD 3) D t [.ref (qR 99), .int x1, .int x2] (wRd t qR qT qL bR ++ (wTx t qT bT ++ (wL t qL bL))) (fun x w => r.1 = x ∧ (wRd t qR qT qL r.2.1 ++ (wTx t qT r.2.2 ++ (wL t qL bL))) = w) := by
  refine MetI_of (by decide +kernel) (Nat.le_of_ble_eq_true rfl) (fun p e s m below meth c C _ => ?_)
  unfold f_1_readNumber at h0
  generalize hargs : (List.toArray [.ref (qR 99), .int x1, .int x2] : Array Value) = args at C ⊢
  refine At.start (lv2 := [(0, .ref (qR 99)), (1, .int x1), (2, .int x2)]) rfl ?_
  refine A_aload_n C 0 dX1_readNumber_0 rfl rfl ?_
  refine A_get (v := .ref (qT 99)) C 0 0 inG1 (ci := 1) rfl (by decide) fl_1_12 rfl rfl rfl dX1_readNumber_1 ?_
  refine A_get (v := .int (gI bT 4)) C 1 4 inG4 (ci := 4) rfl (by decide) fl_1_51 rfl rfl rfl dX1_readNumber_4 ?_
  refine A_istore_n C [(3, .int (gI bT 4)), (0, .ref (qR 99)), (1, .int x1), (2, .int x2)] dX1_readNumber_7 rfl (by decide) rfl ?_
  refine A_aload_n C 1 dX1_readNumber_8 rfl rfl ?_
  refine A_aload_n C 1 dX1_readNumber_9 rfl rfl ?_
  refine A_get (v := .ref (qT 99)) C 0 0 inG1 (ci := 1) rfl (by decide) fl_1_12 rfl rfl rfl dX1_readNumber_10 ?_
  refine A_get (v := .int (gI bT 3)) C 1 3 inG4 (ci := 4) rfl (by decide) fl_1_45 rfl rfl rfl dX1_readNumber_13 ?_
  refine A_iconst C (2 : Int32) dX1_readNumber_16 (by decide) ?_
  refine A_icmp_ne C 33 dX1_readNumber_17 (by decide) h0 (fun h0 => ?_) (fun h0 => ?_)
  · exact A_loc [1, 0] rfl (t_1_readNumber_33 C qR qT qL bL r bR bT (gI bT 4) h0)
  · refine A_iload_n C 0 dX1_readNumber_20 rfl rfl ?_
    refine A_iload_n C 2 dX1_readNumber_21 rfl rfl ?_
    refine A_iload_n C 3 dX1_readNumber_22 rfl rfl ?_
    obtain ⟨z3, hz3, h0⟩ := bind_some h0
    refine A_snI (As := [.int (gI bT 4), .int x1, .int x2]) (rest := [.ref (qR 99)]) C (c_5_isWithin l D t (gI bT 4) x1 x2 hz3) mw_5_isWithin C.2.2.2.2.1.2.2.2.2.2.2.1 st_5_isWithin (rmok rfl rfl) (cutN (wRd t qR qT qL bR ++ (wTx t qT bT ++ (wL t qL bL)))) rfl rfl (Nat.le_of_ble_eq_true rfl) dX1_readNumber_23 (fun x w1 hw1 => ?_)
    obtain ⟨rfl, rfl⟩ := hw1
    refine A_perm (ws' := (wRd t qR qT qL bR ++ (wTx t qT bT ++ (wL t qL bL)))) ((cutN _).symm) ?_
    refine A_if_eq C 33 dX1_readNumber_26 (by decide) h0 (fun h0 => ?_) (fun h0 => ?_)
    · exact A_loc [1, 0] rfl (t_1_readNumber_33 C qR qT qL bL r bR bT (gI bT 4) h0)
    · refine A_iconst C (1 : Int32) dX1_readNumber_29 (by decide) ?_
      refine A_goto C 34 dX1_readNumber_30 (by decide) ?_
      exact A_loc [1, 0] rfl (t_1_readNumber_34 C qR qT qL bL r bR bT (gI bT 4) (1 : Int32) h0)
def f_1_readEnd_17 (bR : BV) (bT : BV) (y0 : Int32) : Option (BV × BV) :=
  (f_1_refuseUnless bR bT y0).bind (fun z1 => (f_4_toNextToken bT).bind (fun z2 => some (z1, z2)))
theorem t_1_readEnd_17 (C : CX p s m args meth c cX1_readEnd 1 none RX1 D t) (qR : Nat → Nat) (qT : Nat → Nat) (qL : Nat → Nat) (bL : BV) (r : BV × BV) (bR : BV) (bT : BV) (y0 : Int32) (h0 : f_1_readEnd_17 bR bT y0 = some r) : At p l e (rmD 3) s m args below meth c D 1 w0 (QV below args s D w0 (fun w => (wRd t qR qT qL r.1 ++ (wTx t qT r.2 ++ (wL t qL bL))) = w) 0 0) 0 0 17 [(0, .ref (qR 99))] [.int y0, .ref (qR 99)] (wRd t qR qT qL bR ++ (wTx t qT bT ++ (wL t qL bL))) := by
  unfold f_1_readEnd_17 at h0
  obtain ⟨z1, hz1, h0⟩ := bind_some h0
  refine A_vV (As := [.int y0]) (rest := []) C 0 (c_1_refuseUnless l D t qR qT qL bR bT bL y0 hz1) mw_1_refuseUnless ml_1_69 im_1_refuseUnless sl_1_refuseUnless (rmok rfl rfl) (cut0 (wRd t qR qT qL bR ++ (wTx t qT bT ++ (wL t qL bL)))) rfl (ci := 1) rfl rfl rfl (Nat.le_of_ble_eq_true rfl) dX1_readEnd_17 (fun w1 hw1 => ?_)
  subst hw1
  refine A_perm (ws' := (wRd t qR qT qL z1 ++ (wTx t qT bT ++ (wL t qL bL)))) ((cut0 _).symm) ?_
  refine A_aload_n C 0 dX1_readEnd_20 rfl rfl ?_
  refine A_get (v := .ref (qT 99)) C 0 0 inG1 (ci := 1) rfl (by decide) fl_1_12 rfl rfl rfl dX1_readEnd_21 ?_
  obtain ⟨z2, hz2, h0⟩ := bind_some h0
  refine A_vV (As := []) (rest := []) C 0 (c_4_toNextToken l D t qT bT hz2) mw_4_toNextToken ml_1_114 im_4_toNextToken sl_4_toNextToken (rmok rfl rfl) (cutA (wRd t qR qT qL z1) (wTx t qT bT) (wL t qL bL)) rfl (ci := 4) rfl rfl rfl (Nat.le_of_ble_eq_true rfl) dX1_readEnd_24 (fun w1 hw1 => ?_)
  subst hw1
  refine A_perm (ws' := (wRd t qR qT qL z1 ++ (wTx t qT z2 ++ (wL t qL bL)))) ((cutA (wRd t qR qT qL z1) (wTx t qT z2) (wL t qL bL)).symm) ?_
  have h0 := Option.some.inj h0
  subst h0
  exact A_vret C dX1_readEnd_27 rfl
def f_1_readEnd (bR : BV) (bT : BV) : Option (BV × BV) :=
  if (gI bT 3) = (3 : Int32) then (f_1_readEnd_17 bR bT (1 : Int32)) else (f_1_readEnd_17 bR bT (0 : Int32))
theorem c_1_readEnd (l : Launch) (D : va_G) (t : ty4) (qR : Nat → Nat) (qT : Nat → Nat) (qL : Nat → Nat) (bR : BV) (bT : BV) (bL : BV) {r : BV × BV} (h0 : f_1_readEnd bR bT = some r) : MetV l yX1_readEnd cX1_readEnd 1 none (rmD 3) D t [.ref (qR 99)] (wRd t qR qT qL bR ++ (wTx t qT bT ++ (wL t qL bL))) (fun w => (wRd t qR qT qL r.1 ++ (wTx t qT r.2 ++ (wL t qL bL))) = w) := by
  refine MetV_of (by decide +kernel) (Nat.le_of_ble_eq_true rfl) (fun p e s m below meth c C _ => ?_)
  unfold f_1_readEnd at h0
  generalize hargs : (List.toArray [.ref (qR 99)] : Array Value) = args at C ⊢
  refine At.start (lv2 := [(0, .ref (qR 99))]) rfl ?_
  refine A_aload_n C 0 dX1_readEnd_0 rfl rfl ?_
  refine A_aload_n C 0 dX1_readEnd_1 rfl rfl ?_
  refine A_get (v := .ref (qT 99)) C 0 0 inG1 (ci := 1) rfl (by decide) fl_1_12 rfl rfl rfl dX1_readEnd_2 ?_
  refine A_get (v := .int (gI bT 3)) C 1 3 inG4 (ci := 4) rfl (by decide) fl_1_45 rfl rfl rfl dX1_readEnd_5 ?_
  refine A_iconst C (3 : Int32) dX1_readEnd_8 (by decide) ?_
  refine A_icmp_ne C 16 dX1_readEnd_9 (by decide) h0 (fun h0 => ?_) (fun h0 => ?_)
  · refine A_iconst C (0 : Int32) dX1_readEnd_16 (by decide) ?_
    exact A_loc [0] rfl (t_1_readEnd_17 C qR qT qL bL r bR bT (0 : Int32) h0)
  · refine A_iconst C (1 : Int32) dX1_readEnd_12 (by decide) ?_
    refine A_goto C 17 dX1_readEnd_13 (by decide) ?_
    exact A_loc [0] rfl (t_1_readEnd_17 C qR qT qL bL r bR bT (1 : Int32) h0)
def f_2_passYear_57 (bL : BV) (k32 : BV → Int32 → Int32 → Option (Int32 × BV)) (bS : BV) (x2 : Int32) (x3 : Int32) : Option (Int32 × BV) :=
  k32 bS x2 (x3 + (1 : Int32))
theorem t_2_passYear_57 (C : CX p s m args meth c cX2_passYear 4 (some .int) RX2 D t) (qL : Nat → Nat) (qS : Nat → Nat) (bL : BV) (r : Int32 × BV) (k32 : BV → Int32 → Int32 → Option (Int32 × BV)) (K32 : ∀ (bS : BV) (x2 : Int32) (x3 : Int32), k32 bS x2 x3 = some r → At p l e (rmD 5) s m args below meth c D 4 w0 (QI below args s D w0 (fun x w => r.1 = x ∧ (wL t qL bL ++ (wS t qS r.2)) = w) 0 0) 0 0 32 [(0, .ref (qS 99)), (1, .ref (qL 99)), (2, .int x2), (3, .int x3)] [] (wL t qL bL ++ (wS t qS bS))) (bS : BV) (x2 : Int32) (x3 : Int32) (h0 : f_2_passYear_57 bL k32 bS x2 x3 = some r) : At p l e (rmD 5) s m args below meth c D 4 w0 (QI below args s D w0 (fun x w => r.1 = x ∧ (wL t qL bL ++ (wS t qS r.2)) = w) 0 0) 0 0 57 [(0, .ref (qS 99)), (1, .ref (qL 99)), (2, .int x2), (3, .int x3)] [] (wL t qL bL ++ (wS t qS bS)) := by
  unfold f_2_passYear_57 at h0
  refine A_iinc C 3 (x3 + (1 : Int32)) [(3, .int (x3 + (1 : Int32))), (0, .ref (qS 99)), (1, .ref (qL 99)), (2, .int x2)] dX2_passYear_57 rfl rfl (by decide) rfl ?_
  refine A_goto C 32 dX2_passYear_60 (by decide) ?_
  exact A_loc [1, 2, 3, 0] rfl (K32 bS x2 (x3 + (1 : Int32)) h0)
def f_2_passYear_32_b (bL : BV) (k32 : BV → Int32 → Int32 → Option (Int32 × BV)) (bS : BV) (x2 : Int32) (x3 : Int32) : Option (Int32 × BV) :=
  if (4 : Int32) ≤ x3 then (some (x2, bS)) else ((f_2_isFree bS x3).bind (fun z1 => if z1 = 0 then ((f_2_takeInterest bL bS x3).bind (fun z2 => (f_2_grow bL z2 x3).bind (fun z3 => f_2_passYear_57 bL k32 z3 x2 x3))) else (f_2_passYear_57 bL k32 bS x2 x3)))
theorem t_2_passYear_32_b (C : CX p s m args meth c cX2_passYear 4 (some .int) RX2 D t) (qL : Nat → Nat) (qS : Nat → Nat) (bL : BV) (r : Int32 × BV) (k32 : BV → Int32 → Int32 → Option (Int32 × BV)) (K32 : ∀ (bS : BV) (x2 : Int32) (x3 : Int32), k32 bS x2 x3 = some r → At p l e (rmD 5) s m args below meth c D 4 w0 (QI below args s D w0 (fun x w => r.1 = x ∧ (wL t qL bL ++ (wS t qS r.2)) = w) 0 0) 0 0 32 [(0, .ref (qS 99)), (1, .ref (qL 99)), (2, .int x2), (3, .int x3)] [] (wL t qL bL ++ (wS t qS bS))) (bS : BV) (x2 : Int32) (x3 : Int32) (h0 : f_2_passYear_32_b bL k32 bS x2 x3 = some r) : At p l e (rmD 5) s m args below meth c D 4 w0 (QI below args s D w0 (fun x w => r.1 = x ∧ (wL t qL bL ++ (wS t qS r.2)) = w) 0 0) 0 0 32 [(0, .ref (qS 99)), (1, .ref (qL 99)), (2, .int x2), (3, .int x3)] [] (wL t qL bL ++ (wS t qS bS)) := by
  unfold f_2_passYear_32_b at h0
  refine A_iload_n C 3 dX2_passYear_32 rfl rfl ?_
  refine A_iconst C (4 : Int32) dX2_passYear_33 (by decide) ?_
  refine A_icmp_ge C 63 dX2_passYear_34 (by decide) h0 (fun h0 => ?_) (fun h0 => ?_)
  · refine A_iload_n C 2 dX2_passYear_63 rfl rfl ?_
    have h0 := Option.some.inj h0
    subst h0
    exact A_iret C dX2_passYear_64 ⟨rfl, rfl⟩
  · refine A_aload_n C 0 dX2_passYear_37 rfl rfl ?_
    refine A_iload_n C 3 dX2_passYear_38 rfl rfl ?_
    obtain ⟨z1, hz1, h0⟩ := bind_some h0
    refine A_vI (As := [.int x3]) (rest := []) C 0 (c_2_isFree l D t qS bS x3 hz1) mw_2_isFree ml_2_35 im_2_isFree sl_2_isFree (rmok rfl rfl) (cutA (wL t qL bL) (wS t qS bS) []) rfl (ci := 2) rfl rfl rfl (Nat.le_of_ble_eq_true rfl) dX2_passYear_39 (fun x w1 hw1 => ?_)
    obtain ⟨rfl, rfl⟩ := hw1
    refine A_perm (ws' := (wL t qL bL ++ (wS t qS bS))) ((cutA (wL t qL bL) (wS t qS bS) []).symm) ?_
    refine A_if_ne C 57 dX2_passYear_42 (by decide) h0 (fun h0 => ?_) (fun h0 => ?_)
    · exact A_loc [0, 1, 2, 3] rfl (t_2_passYear_57 C qL qS bL r k32 K32 bS x2 x3 h0)
    · refine A_aload_n C 0 dX2_passYear_45 rfl rfl ?_
      refine A_aload_n C 1 dX2_passYear_46 rfl rfl ?_
      refine A_iload_n C 3 dX2_passYear_47 rfl rfl ?_
      obtain ⟨z2, hz2, h0⟩ := bind_some h0
      refine A_vV (As := [.ref (qL 99), .int x3]) (rest := []) C 6 (c_2_takeInterest l D t qL qS bL bS x3 hz2) mw_2_takeInterest ml_2_66 im_2_takeInterest sl_2_takeInterest (rmok rfl rfl) (cut0 (wL t qL bL ++ (wS t qS bS))) rfl (ci := 2) rfl rfl rfl (Nat.le_of_ble_eq_true rfl) dX2_passYear_48 (fun w1 hw1 => ?_)
      subst hw1
      refine A_perm (ws' := (wL t qL bL ++ (wS t qS z2))) ((cut0 _).symm) ?_
      refine A_aload_n C 0 dX2_passYear_51 rfl rfl ?_
      refine A_aload_n C 1 dX2_passYear_52 rfl rfl ?_
      refine A_iload_n C 3 dX2_passYear_53 rfl rfl ?_
      obtain ⟨z3, hz3, h0⟩ := bind_some h0
      refine A_vV (As := [.ref (qL 99), .int x3]) (rest := []) C 6 (c_2_grow l D t qL qS bL z2 x3 hz3) mw_2_grow ml_2_70 im_2_grow sl_2_grow (rmok rfl rfl) (cut0 (wL t qL bL ++ (wS t qS z2))) rfl (ci := 2) rfl rfl rfl (Nat.le_of_ble_eq_true rfl) dX2_passYear_54 (fun w1 hw1 => ?_)
      subst hw1
      refine A_perm (ws' := (wL t qL bL ++ (wS t qS z3))) ((cut0 _).symm) ?_
      exact A_loc [0, 1, 2, 3] rfl (t_2_passYear_57 C qL qS bL r k32 K32 z3 x2 x3 h0)
def f_2_passYear_32 (bL : BV) : Nat → BV → Int32 → Int32 → Option (Int32 × BV)
  | 0 => fun _ _ _ => none
  | n + 1 => f_2_passYear_32_b bL (f_2_passYear_32 bL n)
theorem t_2_passYear_32 (C : CX p s m args meth c cX2_passYear 4 (some .int) RX2 D t) (qL : Nat → Nat) (qS : Nat → Nat) (bL : BV) (r : Int32 × BV) : ∀ (n : Nat), ∀ (bS : BV) (x2 : Int32) (x3 : Int32), f_2_passYear_32 bL n bS x2 x3 = some r → At p l e (rmD 5) s m args below meth c D 4 w0 (QI below args s D w0 (fun x w => r.1 = x ∧ (wL t qL bL ++ (wS t qS r.2)) = w) 0 0) 0 0 32 [(0, .ref (qS 99)), (1, .ref (qL 99)), (2, .int x2), (3, .int x3)] [] (wL t qL bL ++ (wS t qS bS)) := by
  intro n
  induction n with
  | zero =>
    intro bS x2 x3 h0
    have h0 : none = some r := h0
    cases h0
  | succ n ih =>
    intro bS x2 x3 h0
    exact t_2_passYear_32_b C qL qS bL r _ ih bS x2 x3 h0
def f_2_passYear (bL : BV) (bS : BV) : Option (Int32 × BV) :=
  (f_2_daysIn bL bS).bind (fun z4 => (f_0_harvest bL z4).bind (fun z5 => f_2_passYear_32 bL 200 (pI (pI bS 4 ((gI bS 4) + z5)) 5 ((gI bS 5) + (1 : Int32))) z5 (0 : Int32)))
theorem c_2_passYear (l : Launch) (D : va_G) (t : ty4) (qL : Nat → Nat) (qS : Nat → Nat) (bL : BV) (bS : BV) {r : Int32 × BV} (h0 : f_2_passYear bL bS = some r) : MetI l yX2_passYear cX2_passYear 4 (some .int) (rmD 5) D t [.ref (qS 99), .ref (qL 99)] (wL t qL bL ++ (wS t qS bS)) (fun x w => r.1 = x ∧ (wL t qL bL ++ (wS t qS r.2)) = w) := by
  refine MetI_of (by decide +kernel) (Nat.le_of_ble_eq_true rfl) (fun p e s m below meth c C _ => ?_)
  unfold f_2_passYear at h0
  generalize hargs : (List.toArray [.ref (qS 99), .ref (qL 99)] : Array Value) = args at C ⊢
  refine At.start (lv2 := [(0, .ref (qS 99)), (1, .ref (qL 99))]) rfl ?_
  refine A_aload_n C 1 dX2_passYear_0 rfl rfl ?_
  refine A_aload_n C 0 dX2_passYear_1 rfl rfl ?_
  refine A_aload_n C 1 dX2_passYear_2 rfl rfl ?_
  obtain ⟨z4, hz4, h0⟩ := bind_some h0
  refine A_vI (As := [.ref (qL 99)]) (rest := [.ref (qL 99)]) C 6 (c_2_daysIn l D t qL qS bL bS hz4) mw_2_daysIn ml_2_59 im_2_daysIn sl_2_daysIn (rmok rfl rfl) (cut0 (wL t qL bL ++ (wS t qS bS))) rfl (ci := 2) rfl rfl rfl (Nat.le_of_ble_eq_true rfl) dX2_passYear_3 (fun x w1 hw1 => ?_)
  obtain ⟨rfl, rfl⟩ := hw1
  refine A_perm (ws' := (wL t qL bL ++ (wS t qS bS))) ((cut0 _).symm) ?_
  obtain ⟨z5, hz5, h0⟩ := bind_some h0
  refine A_vI (As := [.int z4]) (rest := []) C 0 (c_0_harvest l D t qL bL z4 hz5) mw_0_harvest ml_2_63 im_0_harvest sl_0_harvest (rmok rfl rfl) (cutA [] (wL t qL bL) (wS t qS bS)) rfl (ci := 0) rfl rfl rfl (Nat.le_of_ble_eq_true rfl) dX2_passYear_6 (fun x w1 hw1 => ?_)
  obtain ⟨rfl, rfl⟩ := hw1
  refine A_perm (ws' := (wL t qL bL ++ (wS t qS bS))) ((cutA [] (wL t qL bL) (wS t qS bS)).symm) ?_
  refine A_istore_n C [(2, .int z5), (0, .ref (qS 99)), (1, .ref (qL 99))] dX2_passYear_9 rfl (by decide) rfl ?_
  refine A_aload_n C 1 dX2_passYear_10 rfl rfl ?_
  refine A_dup C dX2_passYear_11 rfl ?_
  refine A_get (v := .int (gI bS 4)) C 6 4 inG2 (ci := 2) rfl (by decide) fl_2_25 rfl rfl rfl dX2_passYear_12 ?_
  refine A_iload_n C 0 dX2_passYear_15 rfl rfl ?_
  refine A_iadd C dX2_passYear_16 ?_
  refine A_put C 6 4 (wL t qL bL ++ (wS t qS (pI bS 4 ((gI bS 4) + z5)))) tyX2 inG2 tyX2_ok nmX2 (ci := 2) rfl (by decide) fl_2_25 rfl rfl rfl rfl rfl (Nat.le_of_ble_eq_true rfl) rfl dX2_passYear_17 ?_
  refine A_aload_n C 1 dX2_passYear_20 rfl rfl ?_
  refine A_dup C dX2_passYear_21 rfl ?_
  refine A_get (v := .int (gI bS 5)) C 6 5 inG2 (ci := 2) rfl (by decide) fl_2_28 rfl rfl rfl dX2_passYear_22 ?_
  refine A_iconst C (1 : Int32) dX2_passYear_25 (by decide) ?_
  refine A_iadd C dX2_passYear_26 ?_
  refine A_put C 6 5 (wL t qL bL ++ (wS t qS (pI (pI bS 4 ((gI bS 4) + z5)) 5 ((gI bS 5) + (1 : Int32))))) tyX2 inG2 tyX2_ok nmX2 (ci := 2) rfl (by decide) fl_2_28 rfl rfl rfl rfl rfl (Nat.le_of_ble_eq_true rfl) rfl dX2_passYear_27 ?_
  refine A_iconst C (0 : Int32) dX2_passYear_30 (by decide) ?_
  refine A_istore_n C [(3, .int (0 : Int32)), (2, .int z5), (0, .ref (qS 99)), (1, .ref (qL 99))] dX2_passYear_31 rfl (by decide) rfl ?_
  exact A_loc [2, 3, 1, 0] rfl (t_2_passYear_32 C qL qS bL r 200 (pI (pI bS 4 ((gI bS 4) + z5)) 5 ((gI bS 5) + (1 : Int32))) z5 (0 : Int32) h0)
def f_4_toFirstToken (bT : BV) : Option (BV) :=
  (f_4_toNextToken (pI bT 5 (0 : Int32))).bind (fun z1 => some z1)
theorem c_4_toFirstToken (l : Launch) (D : va_G) (t : ty4) (qT : Nat → Nat) (bT : BV) {r : BV} (h0 : f_4_toFirstToken bT = some r) : MetV l yX4_toFirstToken cX4_toFirstToken 1 none (rmD 3) D t [.ref (qT 99)] (wTx t qT bT) (fun w => (wTx t qT r) = w) := by
  refine MetV_of (by decide +kernel) (Nat.le_of_ble_eq_true rfl) (fun p e s m below meth c C _ => ?_)
  unfold f_4_toFirstToken at h0
  generalize hargs : (List.toArray [.ref (qT 99)] : Array Value) = args at C ⊢
  refine At.start (lv2 := [(0, .ref (qT 99))]) rfl ?_
  refine A_aload_n C 0 dX4_toFirstToken_0 rfl rfl ?_
  refine A_iconst C (0 : Int32) dX4_toFirstToken_1 (by decide) ?_
  refine A_put C 0 5 (wTx t qT (pI bT 5 (0 : Int32))) tyX4 inG4 tyX4_ok nmX4 (ci := 4) rfl (by decide) fl_4_28 rfl rfl rfl rfl rfl (Nat.le_of_ble_eq_true rfl) rfl dX4_toFirstToken_2 ?_
  refine A_aload_n C 0 dX4_toFirstToken_5 rfl rfl ?_
  obtain ⟨z1, hz1, h0⟩ := bind_some h0
  refine A_vV (As := []) (rest := []) C 0 (c_4_toNextToken l D t qT (pI bT 5 (0 : Int32)) hz1) mw_4_toNextToken ml_4_31 im_4_toNextToken sl_4_toNextToken (rmok rfl rfl) (cut0 (wTx t qT (pI bT 5 (0 : Int32)))) rfl (ci := 4) rfl rfl rfl (Nat.le_of_ble_eq_true rfl) dX4_toFirstToken_6 (fun w1 hw1 => ?_)
  subst hw1
  refine A_perm (ws' := (wTx t qT z1)) ((cut0 _).symm) ?_
  have h0 := Option.some.inj h0
  subst h0
  exact A_vret C dX4_toFirstToken_9 rfl
def f_1_readSeason_67 (bR : BV) (bT : BV) (bL : BV) : Option (BV × BV × BV) :=
  some (bR, bT, bL)
theorem t_1_readSeason_67 (C : CX p s m args meth c cX1_readSeason 3 none RX1 D t) (qR : Nat → Nat) (qT : Nat → Nat) (qL : Nat → Nat) (r : BV × BV × BV) (bR : BV) (bT : BV) (bL : BV) (h0 : f_1_readSeason_67 bR bT bL = some r) : At p l e (rmD 4) s m args below meth c D 3 w0 (QV below args s D w0 (fun w => (wRd t qR qT qL r.1 ++ (wTx t qT r.2.1 ++ (wL t qL r.2.2))) = w) 0 0) 0 0 67 [] [] (wRd t qR qT qL bR ++ (wTx t qT bT ++ (wL t qL bL))) := by
  unfold f_1_readSeason_67 at h0
  have h0 := Option.some.inj h0
  subst h0
  exact A_vret C dX1_readSeason_67 rfl
def f_1_readSeason_17 (bR : BV) (bT : BV) (bL : BV) (y0 : Int32) : Option (BV × BV × BV) :=
  (f_1_readLetter bR bT y0).bind (fun z1 => (f_1_readNumber z1.1 z1.2 (1 : Int32) (if ((30 : Int32) - (gI bL 1)) < (9 : Int32) then ((30 : Int32) - (gI bL 1)) else (9 : Int32))).bind (fun z2 => (f_1_readNumber z2.2.1 z2.2.2 (0 : Int32) (9 : Int32)).bind (fun z3 => if (gI z3.2.1 2) = (-9 : Int32) then ((f_0_addSeason bL z2.1 z3.1).bind (fun z4 => f_1_readSeason_67 z3.2.1 z3.2.2 z4)) else (f_1_readSeason_67 z3.2.1 z3.2.2 bL))))
theorem t_1_readSeason_17 (C : CX p s m args meth c cX1_readSeason 3 none RX1 D t) (qR : Nat → Nat) (qT : Nat → Nat) (qL : Nat → Nat) (r : BV × BV × BV) (bR : BV) (bT : BV) (bL : BV) (y0 : Int32) (h0 : f_1_readSeason_17 bR bT bL y0 = some r) : At p l e (rmD 4) s m args below meth c D 3 w0 (QV below args s D w0 (fun w => (wRd t qR qT qL r.1 ++ (wTx t qT r.2.1 ++ (wL t qL r.2.2))) = w) 0 0) 0 0 17 [(0, .ref (qR 99))] [.int y0, .ref (qR 99)] (wRd t qR qT qL bR ++ (wTx t qT bT ++ (wL t qL bL))) := by
  unfold f_1_readSeason_17 at h0
  obtain ⟨z1, hz1, h0⟩ := bind_some h0
  refine A_vV (As := [.int y0]) (rest := []) C 0 (c_1_readLetter l D t qR qT qL bR bT bL y0 hz1) mw_1_readLetter ml_1_79 im_1_readLetter sl_1_readLetter (rmok rfl rfl) (cut0 (wRd t qR qT qL bR ++ (wTx t qT bT ++ (wL t qL bL)))) rfl (ci := 1) rfl rfl rfl (Nat.le_of_ble_eq_true rfl) dX1_readSeason_17 (fun w1 hw1 => ?_)
  subst hw1
  refine A_perm (ws' := (wRd t qR qT qL z1.1 ++ (wTx t qT z1.2 ++ (wL t qL bL)))) ((cut0 _).symm) ?_
  refine A_aload_n C 0 dX1_readSeason_20 rfl rfl ?_
  refine A_iconst C (1 : Int32) dX1_readSeason_21 (by decide) ?_
  refine A_bipush C (9 : Int32) dX1_readSeason_22 (by decide) ?_
  refine A_bipush C (30 : Int32) dX1_readSeason_24 (by decide) ?_
  refine A_aload_n C 0 dX1_readSeason_26 rfl rfl ?_
  refine A_get (v := .ref (qL 99)) C 0 1 inG1 (ci := 1) rfl (by decide) fl_1_21 rfl rfl rfl dX1_readSeason_27 ?_
  refine A_get (v := .int (gI bL 1)) C 3 1 inG0 (ci := 0) rfl (by decide) fl_1_82 rfl rfl rfl dX1_readSeason_30 ?_
  refine A_isub C dX1_readSeason_33 ?_
  refine A_mmin C ml_1_85 st_min in_math cw_min (Nat.le_of_ble_eq_true rfl) (Nat.le_of_ble_eq_true rfl) (Nat.le_of_ble_eq_true rfl) (Nat.le_of_ble_eq_true rfl) dX1_readSeason_34 ?_
  obtain ⟨z2, hz2, h0⟩ := bind_some h0
  refine A_vI (As := [.int (1 : Int32), .int (if ((30 : Int32) - (gI bL 1)) < (9 : Int32) then ((30 : Int32) - (gI bL 1)) else (9 : Int32))]) (rest := []) C 0 (c_1_readNumber l D t qR qT qL z1.1 z1.2 bL (1 : Int32) (if ((30 : Int32) - (gI bL 1)) < (9 : Int32) then ((30 : Int32) - (gI bL 1)) else (9 : Int32)) hz2) mw_1_readNumber ml_1_91 im_1_readNumber sl_1_readNumber (rmok rfl rfl) (cut0 (wRd t qR qT qL z1.1 ++ (wTx t qT z1.2 ++ (wL t qL bL)))) rfl (ci := 1) rfl rfl rfl (Nat.le_of_ble_eq_true rfl) dX1_readSeason_37 (fun x w1 hw1 => ?_)
  obtain ⟨rfl, rfl⟩ := hw1
  refine A_perm (ws' := (wRd t qR qT qL z2.2.1 ++ (wTx t qT z2.2.2 ++ (wL t qL bL)))) ((cut0 _).symm) ?_
  refine A_istore_n C [(1, .int z2.1), (0, .ref (qR 99))] dX1_readSeason_40 rfl (by decide) rfl ?_
  refine A_aload_n C 1 dX1_readSeason_41 rfl rfl ?_
  refine A_iconst C (0 : Int32) dX1_readSeason_42 (by decide) ?_
  refine A_bipush C (9 : Int32) dX1_readSeason_43 (by decide) ?_
  obtain ⟨z3, hz3, h0⟩ := bind_some h0
  refine A_vI (As := [.int (0 : Int32), .int (9 : Int32)]) (rest := []) C 0 (c_1_readNumber l D t qR qT qL z2.2.1 z2.2.2 bL (0 : Int32) (9 : Int32) hz3) mw_1_readNumber ml_1_91 im_1_readNumber sl_1_readNumber (rmok rfl rfl) (cut0 (wRd t qR qT qL z2.2.1 ++ (wTx t qT z2.2.2 ++ (wL t qL bL)))) rfl (ci := 1) rfl rfl rfl (Nat.le_of_ble_eq_true rfl) dX1_readSeason_45 (fun x w1 hw1 => ?_)
  obtain ⟨rfl, rfl⟩ := hw1
  refine A_perm (ws' := (wRd t qR qT qL z3.2.1 ++ (wTx t qT z3.2.2 ++ (wL t qL bL)))) ((cut0 _).symm) ?_
  refine A_istore_n C [(2, .int z3.1), (1, .int z2.1), (0, .ref (qR 99))] dX1_readSeason_48 rfl (by decide) rfl ?_
  refine A_aload_n C 2 dX1_readSeason_49 rfl rfl ?_
  refine A_get (v := .int (gI z3.2.1 2)) C 0 2 inG1 (ci := 1) rfl (by decide) fl_1_25 rfl rfl rfl dX1_readSeason_50 ?_
  refine A_bipush C (-9 : Int32) dX1_readSeason_53 (by decide) ?_
  refine A_icmp_ne C 67 dX1_readSeason_55 (by decide) h0 (fun h0 => ?_) (fun h0 => ?_)
  · exact A_loc [] rfl (t_1_readSeason_67 C qR qT qL r z3.2.1 z3.2.2 bL h0)
  · refine A_aload_n C 2 dX1_readSeason_58 rfl rfl ?_
    refine A_get (v := .ref (qL 99)) C 0 1 inG1 (ci := 1) rfl (by decide) fl_1_21 rfl rfl rfl dX1_readSeason_59 ?_
    refine A_iload_n C 1 dX1_readSeason_62 rfl rfl ?_
    refine A_iload_n C 0 dX1_readSeason_63 rfl rfl ?_
    obtain ⟨z4, hz4, h0⟩ := bind_some h0
    refine A_vV (As := [.int z2.1, .int z3.1]) (rest := []) C 0 (c_0_addSeason l D t qL bL z2.1 z3.1 hz4) mw_0_addSeason ml_1_94 im_0_addSeason sl_0_addSeason (rmok rfl rfl) (cutA (wRd t qR qT qL z3.2.1 ++ (wTx t qT z3.2.2)) (wL t qL bL) []) rfl (ci := 0) rfl rfl rfl (Nat.le_of_ble_eq_true rfl) dX1_readSeason_64 (fun w1 hw1 => ?_)
    subst hw1
    refine A_perm (ws' := (wRd t qR qT qL z3.2.1 ++ (wTx t qT z3.2.2 ++ (wL t qL z4)))) ((cutA (wRd t qR qT qL z3.2.1 ++ (wTx t qT z3.2.2)) (wL t qL z4) []).symm) ?_
    exact A_loc [] rfl (t_1_readSeason_67 C qR qT qL r z3.2.1 z3.2.2 z4 h0)
def f_1_readSeason (bR : BV) (bT : BV) (bL : BV) : Option (BV × BV × BV) :=
  if (5 : Int32) ≤ (gI bL 0) then (f_1_readSeason_17 bR bT bL (0 : Int32)) else (f_1_readSeason_17 bR bT bL (1 : Int32))
theorem c_1_readSeason (l : Launch) (D : va_G) (t : ty4) (qR : Nat → Nat) (qT : Nat → Nat) (qL : Nat → Nat) (bR : BV) (bT : BV) (bL : BV) {r : BV × BV × BV} (h0 : f_1_readSeason bR bT bL = some r) : MetV l yX1_readSeason cX1_readSeason 3 none (rmD 4) D t [.ref (qR 99)] (wRd t qR qT qL bR ++ (wTx t qT bT ++ (wL t qL bL))) (fun w => (wRd t qR qT qL r.1 ++ (wTx t qT r.2.1 ++ (wL t qL r.2.2))) = w) := by
  refine MetV_of (by decide +kernel) (Nat.le_of_ble_eq_true rfl) (fun p e s m below meth c C _ => ?_)
  unfold f_1_readSeason at h0
  generalize hargs : (List.toArray [.ref (qR 99)] : Array Value) = args at C ⊢
  refine At.start (lv2 := [(0, .ref (qR 99))]) rfl ?_
  refine A_aload_n C 0 dX1_readSeason_0 rfl rfl ?_
  refine A_aload_n C 0 dX1_readSeason_1 rfl rfl ?_
  refine A_get (v := .ref (qL 99)) C 0 1 inG1 (ci := 1) rfl (by decide) fl_1_21 rfl rfl rfl dX1_readSeason_2 ?_
  refine A_get (v := .int (gI bL 0)) C 3 0 inG0 (ci := 0) rfl (by decide) fl_1_76 rfl rfl rfl dX1_readSeason_5 ?_
  refine A_iconst C (5 : Int32) dX1_readSeason_8 (by decide) ?_
  refine A_icmp_ge C 16 dX1_readSeason_9 (by decide) h0 (fun h0 => ?_) (fun h0 => ?_)
  · refine A_iconst C (0 : Int32) dX1_readSeason_16 (by decide) ?_
    exact A_loc [0] rfl (t_1_readSeason_17 C qR qT qL r bR bT bL (0 : Int32) h0)
  · refine A_iconst C (1 : Int32) dX1_readSeason_12 (by decide) ?_
    refine A_goto C 17 dX1_readSeason_13 (by decide) ?_
    exact A_loc [0] rfl (t_1_readSeason_17 C qR qT qL r bR bT bL (1 : Int32) h0)
def f_1_readCrop_63 (bR : BV) (bT : BV) (bL : BV) : Option (BV × BV × BV) :=
  some (bR, bT, bL)
theorem t_1_readCrop_63 (C : CX p s m args meth c cX1_readCrop 4 none RX1 D t) (qR : Nat → Nat) (qT : Nat → Nat) (qL : Nat → Nat) (r : BV × BV × BV) (bR : BV) (bT : BV) (bL : BV) (h0 : f_1_readCrop_63 bR bT bL = some r) : At p l e (rmD 4) s m args below meth c D 4 w0 (QV below args s D w0 (fun w => (wRd t qR qT qL r.1 ++ (wTx t qT r.2.1 ++ (wL t qL r.2.2))) = w) 0 0) 0 0 63 [] [] (wRd t qR qT qL bR ++ (wTx t qT bT ++ (wL t qL bL))) := by
  unfold f_1_readCrop_63 at h0
  have h0 := Option.some.inj h0
  subst h0
  exact A_vret C dX1_readCrop_63 rfl
def f_1_readCrop_17 (bR : BV) (bT : BV) (bL : BV) (y0 : Int32) : Option (BV × BV × BV) :=
  (f_1_readLetter bR bT y0).bind (fun z1 => (f_1_readNumber z1.1 z1.2 (1 : Int32) (9 : Int32)).bind (fun z2 => (f_1_readNumber z2.2.1 z2.2.2 (0 : Int32) (9 : Int32)).bind (fun z3 => (f_1_readNumber z3.2.1 z3.2.2 (0 : Int32) (99 : Int32)).bind (fun z4 => if (gI z4.2.1 2) = (-9 : Int32) then ((f_0_addCrop bL z2.1 z3.1 z4.1).bind (fun z5 => f_1_readCrop_63 z4.2.1 z4.2.2 z5)) else (f_1_readCrop_63 z4.2.1 z4.2.2 bL)))))
theorem t_1_readCrop_17 (C : CX p s m args meth c cX1_readCrop 4 none RX1 D t) (qR : Nat → Nat) (qT : Nat → Nat) (qL : Nat → Nat) (r : BV × BV × BV) (bR : BV) (bT : BV) (bL : BV) (y0 : Int32) (h0 : f_1_readCrop_17 bR bT bL y0 = some r) : At p l e (rmD 4) s m args below meth c D 4 w0 (QV below args s D w0 (fun w => (wRd t qR qT qL r.1 ++ (wTx t qT r.2.1 ++ (wL t qL r.2.2))) = w) 0 0) 0 0 17 [(0, .ref (qR 99))] [.int y0, .ref (qR 99)] (wRd t qR qT qL bR ++ (wTx t qT bT ++ (wL t qL bL))) := by
  unfold f_1_readCrop_17 at h0
  obtain ⟨z1, hz1, h0⟩ := bind_some h0
  refine A_vV (As := [.int y0]) (rest := []) C 0 (c_1_readLetter l D t qR qT qL bR bT bL y0 hz1) mw_1_readLetter ml_1_79 im_1_readLetter sl_1_readLetter (rmok rfl rfl) (cut0 (wRd t qR qT qL bR ++ (wTx t qT bT ++ (wL t qL bL)))) rfl (ci := 1) rfl rfl rfl (Nat.le_of_ble_eq_true rfl) dX1_readCrop_17 (fun w1 hw1 => ?_)
  subst hw1
  refine A_perm (ws' := (wRd t qR qT qL z1.1 ++ (wTx t qT z1.2 ++ (wL t qL bL)))) ((cut0 _).symm) ?_
  refine A_aload_n C 0 dX1_readCrop_20 rfl rfl ?_
  refine A_iconst C (1 : Int32) dX1_readCrop_21 (by decide) ?_
  refine A_bipush C (9 : Int32) dX1_readCrop_22 (by decide) ?_
  obtain ⟨z2, hz2, h0⟩ := bind_some h0
  refine A_vI (As := [.int (1 : Int32), .int (9 : Int32)]) (rest := []) C 0 (c_1_readNumber l D t qR qT qL z1.1 z1.2 bL (1 : Int32) (9 : Int32) hz2) mw_1_readNumber ml_1_91 im_1_readNumber sl_1_readNumber (rmok rfl rfl) (cut0 (wRd t qR qT qL z1.1 ++ (wTx t qT z1.2 ++ (wL t qL bL)))) rfl (ci := 1) rfl rfl rfl (Nat.le_of_ble_eq_true rfl) dX1_readCrop_24 (fun x w1 hw1 => ?_)
  obtain ⟨rfl, rfl⟩ := hw1
  refine A_perm (ws' := (wRd t qR qT qL z2.2.1 ++ (wTx t qT z2.2.2 ++ (wL t qL bL)))) ((cut0 _).symm) ?_
  refine A_istore_n C [(1, .int z2.1), (0, .ref (qR 99))] dX1_readCrop_27 rfl (by decide) rfl ?_
  refine A_aload_n C 1 dX1_readCrop_28 rfl rfl ?_
  refine A_iconst C (0 : Int32) dX1_readCrop_29 (by decide) ?_
  refine A_bipush C (9 : Int32) dX1_readCrop_30 (by decide) ?_
  obtain ⟨z3, hz3, h0⟩ := bind_some h0
  refine A_vI (As := [.int (0 : Int32), .int (9 : Int32)]) (rest := []) C 0 (c_1_readNumber l D t qR qT qL z2.2.1 z2.2.2 bL (0 : Int32) (9 : Int32) hz3) mw_1_readNumber ml_1_91 im_1_readNumber sl_1_readNumber (rmok rfl rfl) (cut0 (wRd t qR qT qL z2.2.1 ++ (wTx t qT z2.2.2 ++ (wL t qL bL)))) rfl (ci := 1) rfl rfl rfl (Nat.le_of_ble_eq_true rfl) dX1_readCrop_32 (fun x w1 hw1 => ?_)
  obtain ⟨rfl, rfl⟩ := hw1
  refine A_perm (ws' := (wRd t qR qT qL z3.2.1 ++ (wTx t qT z3.2.2 ++ (wL t qL bL)))) ((cut0 _).symm) ?_
  refine A_istore_n C [(2, .int z3.1), (1, .int z2.1), (0, .ref (qR 99))] dX1_readCrop_35 rfl (by decide) rfl ?_
  refine A_aload_n C 2 dX1_readCrop_36 rfl rfl ?_
  refine A_iconst C (0 : Int32) dX1_readCrop_37 (by decide) ?_
  refine A_bipush C (99 : Int32) dX1_readCrop_38 (by decide) ?_
  obtain ⟨z4, hz4, h0⟩ := bind_some h0
  refine A_vI (As := [.int (0 : Int32), .int (99 : Int32)]) (rest := []) C 0 (c_1_readNumber l D t qR qT qL z3.2.1 z3.2.2 bL (0 : Int32) (99 : Int32) hz4) mw_1_readNumber ml_1_91 im_1_readNumber sl_1_readNumber (rmok rfl rfl) (cut0 (wRd t qR qT qL z3.2.1 ++ (wTx t qT z3.2.2 ++ (wL t qL bL)))) rfl (ci := 1) rfl rfl rfl (Nat.le_of_ble_eq_true rfl) dX1_readCrop_40 (fun x w1 hw1 => ?_)
  obtain ⟨rfl, rfl⟩ := hw1
  refine A_perm (ws' := (wRd t qR qT qL z4.2.1 ++ (wTx t qT z4.2.2 ++ (wL t qL bL)))) ((cut0 _).symm) ?_
  refine A_istore_n C [(3, .int z4.1), (2, .int z3.1), (1, .int z2.1), (0, .ref (qR 99))] dX1_readCrop_43 rfl (by decide) rfl ?_
  refine A_aload_n C 3 dX1_readCrop_44 rfl rfl ?_
  refine A_get (v := .int (gI z4.2.1 2)) C 0 2 inG1 (ci := 1) rfl (by decide) fl_1_25 rfl rfl rfl dX1_readCrop_45 ?_
  refine A_bipush C (-9 : Int32) dX1_readCrop_48 (by decide) ?_
  refine A_icmp_ne C 63 dX1_readCrop_50 (by decide) h0 (fun h0 => ?_) (fun h0 => ?_)
  · exact A_loc [] rfl (t_1_readCrop_63 C qR qT qL r z4.2.1 z4.2.2 bL h0)
  · refine A_aload_n C 3 dX1_readCrop_53 rfl rfl ?_
    refine A_get (v := .ref (qL 99)) C 0 1 inG1 (ci := 1) rfl (by decide) fl_1_21 rfl rfl rfl dX1_readCrop_54 ?_
    refine A_iload_n C 2 dX1_readCrop_57 rfl rfl ?_
    refine A_iload_n C 1 dX1_readCrop_58 rfl rfl ?_
    refine A_iload_n C 0 dX1_readCrop_59 rfl rfl ?_
    obtain ⟨z5, hz5, h0⟩ := bind_some h0
    refine A_vV (As := [.int z2.1, .int z3.1, .int z4.1]) (rest := []) C 0 (c_0_addCrop l D t qL bL z2.1 z3.1 z4.1 hz5) mw_0_addCrop ml_1_101 im_0_addCrop sl_0_addCrop (rmok rfl rfl) (cutA (wRd t qR qT qL z4.2.1 ++ (wTx t qT z4.2.2)) (wL t qL bL) []) rfl (ci := 0) rfl rfl rfl (Nat.le_of_ble_eq_true rfl) dX1_readCrop_60 (fun w1 hw1 => ?_)
    subst hw1
    refine A_perm (ws' := (wRd t qR qT qL z4.2.1 ++ (wTx t qT z4.2.2 ++ (wL t qL z5)))) ((cutA (wRd t qR qT qL z4.2.1 ++ (wTx t qT z4.2.2)) (wL t qL z5) []).symm) ?_
    exact A_loc [] rfl (t_1_readCrop_63 C qR qT qL r z4.2.1 z4.2.2 z5 h0)
def f_1_readCrop (bR : BV) (bT : BV) (bL : BV) : Option (BV × BV × BV) :=
  if (4 : Int32) ≤ (gI bL 4) then (f_1_readCrop_17 bR bT bL (0 : Int32)) else (f_1_readCrop_17 bR bT bL (1 : Int32))
theorem c_1_readCrop (l : Launch) (D : va_G) (t : ty4) (qR : Nat → Nat) (qT : Nat → Nat) (qL : Nat → Nat) (bR : BV) (bT : BV) (bL : BV) {r : BV × BV × BV} (h0 : f_1_readCrop bR bT bL = some r) : MetV l yX1_readCrop cX1_readCrop 4 none (rmD 4) D t [.ref (qR 99)] (wRd t qR qT qL bR ++ (wTx t qT bT ++ (wL t qL bL))) (fun w => (wRd t qR qT qL r.1 ++ (wTx t qT r.2.1 ++ (wL t qL r.2.2))) = w) := by
  refine MetV_of (by decide +kernel) (Nat.le_of_ble_eq_true rfl) (fun p e s m below meth c C _ => ?_)
  unfold f_1_readCrop at h0
  generalize hargs : (List.toArray [.ref (qR 99)] : Array Value) = args at C ⊢
  refine At.start (lv2 := [(0, .ref (qR 99))]) rfl ?_
  refine A_aload_n C 0 dX1_readCrop_0 rfl rfl ?_
  refine A_aload_n C 0 dX1_readCrop_1 rfl rfl ?_
  refine A_get (v := .ref (qL 99)) C 0 1 inG1 (ci := 1) rfl (by decide) fl_1_21 rfl rfl rfl dX1_readCrop_2 ?_
  refine A_get (v := .int (gI bL 4)) C 3 4 inG0 (ci := 0) rfl (by decide) fl_1_98 rfl rfl rfl dX1_readCrop_5 ?_
  refine A_iconst C (4 : Int32) dX1_readCrop_8 (by decide) ?_
  refine A_icmp_ge C 16 dX1_readCrop_9 (by decide) h0 (fun h0 => ?_) (fun h0 => ?_)
  · refine A_iconst C (0 : Int32) dX1_readCrop_16 (by decide) ?_
    exact A_loc [0] rfl (t_1_readCrop_17 C qR qT qL r bR bT bL (0 : Int32) h0)
  · refine A_iconst C (1 : Int32) dX1_readCrop_12 (by decide) ?_
    refine A_goto C 17 dX1_readCrop_13 (by decide) ?_
    exact A_loc [0] rfl (t_1_readCrop_17 C qR qT qL r bR bT bL (1 : Int32) h0)
def f_1_readPrice_13 (bR : BV) (bT : BV) (bL : BV) (y0 : Int32) : Option (BV × BV × BV) :=
  (f_1_readLetter bR bT y0).bind (fun z1 => (f_1_readNumber (pI z1.1 3 (1 : Int32)) z1.2 (1 : Int32) (9 : Int32)).bind (fun z2 => some (z2.2.1, z2.2.2, (pI bL 8 z2.1))))
theorem t_1_readPrice_13 (C : CX p s m args meth c cX1_readPrice 1 none RX1 D t) (qR : Nat → Nat) (qT : Nat → Nat) (qL : Nat → Nat) (r : BV × BV × BV) (bR : BV) (bT : BV) (bL : BV) (y0 : Int32) (h0 : f_1_readPrice_13 bR bT bL y0 = some r) : At p l e (rmD 4) s m args below meth c D 1 w0 (QV below args s D w0 (fun w => (wRd t qR qT qL r.1 ++ (wTx t qT r.2.1 ++ (wL t qL r.2.2))) = w) 0 0) 0 0 13 [(0, .ref (qR 99))] [.int y0, .ref (qR 99)] (wRd t qR qT qL bR ++ (wTx t qT bT ++ (wL t qL bL))) := by
  unfold f_1_readPrice_13 at h0
  obtain ⟨z1, hz1, h0⟩ := bind_some h0
  refine A_vV (As := [.int y0]) (rest := []) C 0 (c_1_readLetter l D t qR qT qL bR bT bL y0 hz1) mw_1_readLetter ml_1_79 im_1_readLetter sl_1_readLetter (rmok rfl rfl) (cut0 (wRd t qR qT qL bR ++ (wTx t qT bT ++ (wL t qL bL)))) rfl (ci := 1) rfl rfl rfl (Nat.le_of_ble_eq_true rfl) dX1_readPrice_13 (fun w1 hw1 => ?_)
  subst hw1
  refine A_perm (ws' := (wRd t qR qT qL z1.1 ++ (wTx t qT z1.2 ++ (wL t qL bL)))) ((cut0 _).symm) ?_
  refine A_aload_n C 0 dX1_readPrice_16 rfl rfl ?_
  refine A_iconst C (1 : Int32) dX1_readPrice_17 (by decide) ?_
  refine A_put C 0 3 (wRd t qR qT qL (pI z1.1 3 (1 : Int32)) ++ (wTx t qT z1.2 ++ (wL t qL bL))) tyX1 inG1 tyX1_ok nmX1 (ci := 1) rfl (by decide) fl_1_29 rfl rfl rfl rfl rfl (Nat.le_of_ble_eq_true rfl) rfl dX1_readPrice_18 ?_
  refine A_aload_n C 0 dX1_readPrice_21 rfl rfl ?_
  refine A_get (v := .ref (qL 99)) C 0 1 inG1 (ci := 1) rfl (by decide) fl_1_21 rfl rfl rfl dX1_readPrice_22 ?_
  refine A_aload_n C 0 dX1_readPrice_25 rfl rfl ?_
  refine A_iconst C (1 : Int32) dX1_readPrice_26 (by decide) ?_
  refine A_bipush C (9 : Int32) dX1_readPrice_27 (by decide) ?_
  obtain ⟨z2, hz2, h0⟩ := bind_some h0
  refine A_vI (As := [.int (1 : Int32), .int (9 : Int32)]) (rest := [.ref (qL 99)]) C 0 (c_1_readNumber l D t qR qT qL (pI z1.1 3 (1 : Int32)) z1.2 bL (1 : Int32) (9 : Int32) hz2) mw_1_readNumber ml_1_91 im_1_readNumber sl_1_readNumber (rmok rfl rfl) (cut0 (wRd t qR qT qL (pI z1.1 3 (1 : Int32)) ++ (wTx t qT z1.2 ++ (wL t qL bL)))) rfl (ci := 1) rfl rfl rfl (Nat.le_of_ble_eq_true rfl) dX1_readPrice_29 (fun x w1 hw1 => ?_)
  obtain ⟨rfl, rfl⟩ := hw1
  refine A_perm (ws' := (wRd t qR qT qL z2.2.1 ++ (wTx t qT z2.2.2 ++ (wL t qL bL)))) ((cut0 _).symm) ?_
  refine A_put C 3 8 (wRd t qR qT qL z2.2.1 ++ (wTx t qT z2.2.2 ++ (wL t qL (pI bL 8 z2.1)))) tyX0 inG0 tyX0_ok nmX0 (ci := 0) rfl (by decide) fl_1_105 rfl rfl rfl rfl rfl (Nat.le_of_ble_eq_true rfl) rfl dX1_readPrice_32 ?_
  have h0 := Option.some.inj h0
  subst h0
  exact A_vret C dX1_readPrice_35 rfl
def f_1_readPrice (bR : BV) (bT : BV) (bL : BV) : Option (BV × BV × BV) :=
  if (gI bR 3) = 0 then (f_1_readPrice_13 bR bT bL (1 : Int32)) else (f_1_readPrice_13 bR bT bL (0 : Int32))
theorem c_1_readPrice (l : Launch) (D : va_G) (t : ty4) (qR : Nat → Nat) (qT : Nat → Nat) (qL : Nat → Nat) (bR : BV) (bT : BV) (bL : BV) {r : BV × BV × BV} (h0 : f_1_readPrice bR bT bL = some r) : MetV l yX1_readPrice cX1_readPrice 1 none (rmD 4) D t [.ref (qR 99)] (wRd t qR qT qL bR ++ (wTx t qT bT ++ (wL t qL bL))) (fun w => (wRd t qR qT qL r.1 ++ (wTx t qT r.2.1 ++ (wL t qL r.2.2))) = w) := by
  refine MetV_of (by decide +kernel) (Nat.le_of_ble_eq_true rfl) (fun p e s m below meth c C _ => ?_)
  unfold f_1_readPrice at h0
  generalize hargs : (List.toArray [.ref (qR 99)] : Array Value) = args at C ⊢
  refine At.start (lv2 := [(0, .ref (qR 99))]) rfl ?_
  refine A_aload_n C 0 dX1_readPrice_0 rfl rfl ?_
  refine A_aload_n C 0 dX1_readPrice_1 rfl rfl ?_
  refine A_get (v := .int (gI bR 3)) C 0 3 inG1 (ci := 1) rfl (by decide) fl_1_29 rfl rfl rfl dX1_readPrice_2 ?_
  refine A_if_ne C 12 dX1_readPrice_5 (by decide) h0 (fun h0 => ?_) (fun h0 => ?_)
  · refine A_iconst C (0 : Int32) dX1_readPrice_12 (by decide) ?_
    exact A_loc [0] rfl (t_1_readPrice_13 C qR qT qL r bR bT bL (0 : Int32) h0)
  · refine A_iconst C (1 : Int32) dX1_readPrice_8 (by decide) ?_
    refine A_goto C 13 dX1_readPrice_9 (by decide) ?_
    exact A_loc [0] rfl (t_1_readPrice_13 C qR qT qL r bR bT bL (1 : Int32) h0)
def f_1_readInterest_13 (bR : BV) (bT : BV) (bL : BV) (y0 : Int32) : Option (BV × BV × BV) :=
  (f_1_readLetter bR bT y0).bind (fun z1 => (f_1_readNumber (pI z1.1 4 (1 : Int32)) z1.2 (0 : Int32) (5 : Int32)).bind (fun z2 => some (z2.2.1, z2.2.2, (pI bL 9 z2.1))))
theorem t_1_readInterest_13 (C : CX p s m args meth c cX1_readInterest 1 none RX1 D t) (qR : Nat → Nat) (qT : Nat → Nat) (qL : Nat → Nat) (r : BV × BV × BV) (bR : BV) (bT : BV) (bL : BV) (y0 : Int32) (h0 : f_1_readInterest_13 bR bT bL y0 = some r) : At p l e (rmD 4) s m args below meth c D 1 w0 (QV below args s D w0 (fun w => (wRd t qR qT qL r.1 ++ (wTx t qT r.2.1 ++ (wL t qL r.2.2))) = w) 0 0) 0 0 13 [(0, .ref (qR 99))] [.int y0, .ref (qR 99)] (wRd t qR qT qL bR ++ (wTx t qT bT ++ (wL t qL bL))) := by
  unfold f_1_readInterest_13 at h0
  obtain ⟨z1, hz1, h0⟩ := bind_some h0
  refine A_vV (As := [.int y0]) (rest := []) C 0 (c_1_readLetter l D t qR qT qL bR bT bL y0 hz1) mw_1_readLetter ml_1_79 im_1_readLetter sl_1_readLetter (rmok rfl rfl) (cut0 (wRd t qR qT qL bR ++ (wTx t qT bT ++ (wL t qL bL)))) rfl (ci := 1) rfl rfl rfl (Nat.le_of_ble_eq_true rfl) dX1_readInterest_13 (fun w1 hw1 => ?_)
  subst hw1
  refine A_perm (ws' := (wRd t qR qT qL z1.1 ++ (wTx t qT z1.2 ++ (wL t qL bL)))) ((cut0 _).symm) ?_
  refine A_aload_n C 0 dX1_readInterest_16 rfl rfl ?_
  refine A_iconst C (1 : Int32) dX1_readInterest_17 (by decide) ?_
  refine A_put C 0 4 (wRd t qR qT qL (pI z1.1 4 (1 : Int32)) ++ (wTx t qT z1.2 ++ (wL t qL bL))) tyX1 inG1 tyX1_ok nmX1 (ci := 1) rfl (by decide) fl_1_33 rfl rfl rfl rfl rfl (Nat.le_of_ble_eq_true rfl) rfl dX1_readInterest_18 ?_
  refine A_aload_n C 0 dX1_readInterest_21 rfl rfl ?_
  refine A_get (v := .ref (qL 99)) C 0 1 inG1 (ci := 1) rfl (by decide) fl_1_21 rfl rfl rfl dX1_readInterest_22 ?_
  refine A_aload_n C 0 dX1_readInterest_25 rfl rfl ?_
  refine A_iconst C (0 : Int32) dX1_readInterest_26 (by decide) ?_
  refine A_iconst C (5 : Int32) dX1_readInterest_27 (by decide) ?_
  obtain ⟨z2, hz2, h0⟩ := bind_some h0
  refine A_vI (As := [.int (0 : Int32), .int (5 : Int32)]) (rest := [.ref (qL 99)]) C 0 (c_1_readNumber l D t qR qT qL (pI z1.1 4 (1 : Int32)) z1.2 bL (0 : Int32) (5 : Int32) hz2) mw_1_readNumber ml_1_91 im_1_readNumber sl_1_readNumber (rmok rfl rfl) (cut0 (wRd t qR qT qL (pI z1.1 4 (1 : Int32)) ++ (wTx t qT z1.2 ++ (wL t qL bL)))) rfl (ci := 1) rfl rfl rfl (Nat.le_of_ble_eq_true rfl) dX1_readInterest_28 (fun x w1 hw1 => ?_)
  obtain ⟨rfl, rfl⟩ := hw1
  refine A_perm (ws' := (wRd t qR qT qL z2.2.1 ++ (wTx t qT z2.2.2 ++ (wL t qL bL)))) ((cut0 _).symm) ?_
  refine A_put C 3 9 (wRd t qR qT qL z2.2.1 ++ (wTx t qT z2.2.2 ++ (wL t qL (pI bL 9 z2.1)))) tyX0 inG0 tyX0_ok nmX0 (ci := 0) rfl (by decide) fl_1_108 rfl rfl rfl rfl rfl (Nat.le_of_ble_eq_true rfl) rfl dX1_readInterest_31 ?_
  have h0 := Option.some.inj h0
  subst h0
  exact A_vret C dX1_readInterest_34 rfl
def f_1_readInterest (bR : BV) (bT : BV) (bL : BV) : Option (BV × BV × BV) :=
  if (gI bR 4) = 0 then (f_1_readInterest_13 bR bT bL (1 : Int32)) else (f_1_readInterest_13 bR bT bL (0 : Int32))
theorem c_1_readInterest (l : Launch) (D : va_G) (t : ty4) (qR : Nat → Nat) (qT : Nat → Nat) (qL : Nat → Nat) (bR : BV) (bT : BV) (bL : BV) {r : BV × BV × BV} (h0 : f_1_readInterest bR bT bL = some r) : MetV l yX1_readInterest cX1_readInterest 1 none (rmD 4) D t [.ref (qR 99)] (wRd t qR qT qL bR ++ (wTx t qT bT ++ (wL t qL bL))) (fun w => (wRd t qR qT qL r.1 ++ (wTx t qT r.2.1 ++ (wL t qL r.2.2))) = w) := by
  refine MetV_of (by decide +kernel) (Nat.le_of_ble_eq_true rfl) (fun p e s m below meth c C _ => ?_)
  unfold f_1_readInterest at h0
  generalize hargs : (List.toArray [.ref (qR 99)] : Array Value) = args at C ⊢
  refine At.start (lv2 := [(0, .ref (qR 99))]) rfl ?_
  refine A_aload_n C 0 dX1_readInterest_0 rfl rfl ?_
  refine A_aload_n C 0 dX1_readInterest_1 rfl rfl ?_
  refine A_get (v := .int (gI bR 4)) C 0 4 inG1 (ci := 1) rfl (by decide) fl_1_33 rfl rfl rfl dX1_readInterest_2 ?_
  refine A_if_ne C 12 dX1_readInterest_5 (by decide) h0 (fun h0 => ?_) (fun h0 => ?_)
  · refine A_iconst C (0 : Int32) dX1_readInterest_12 (by decide) ?_
    exact A_loc [0] rfl (t_1_readInterest_13 C qR qT qL r bR bT bL (0 : Int32) h0)
  · refine A_iconst C (1 : Int32) dX1_readInterest_8 (by decide) ?_
    refine A_goto C 13 dX1_readInterest_9 (by decide) ?_
    exact A_loc [0] rfl (t_1_readInterest_13 C qR qT qL r bR bT bL (1 : Int32) h0)
def f_1_readLapse_13 (bR : BV) (bT : BV) (bL : BV) (y0 : Int32) : Option (BV × BV × BV) :=
  (f_1_readLetter bR bT y0).bind (fun z1 => (f_1_readNumber (pI z1.1 5 (1 : Int32)) z1.2 (1 : Int32) (9 : Int32)).bind (fun z2 => some (z2.2.1, z2.2.2, (pI bL 10 z2.1))))
theorem t_1_readLapse_13 (C : CX p s m args meth c cX1_readLapse 1 none RX1 D t) (qR : Nat → Nat) (qT : Nat → Nat) (qL : Nat → Nat) (r : BV × BV × BV) (bR : BV) (bT : BV) (bL : BV) (y0 : Int32) (h0 : f_1_readLapse_13 bR bT bL y0 = some r) : At p l e (rmD 4) s m args below meth c D 1 w0 (QV below args s D w0 (fun w => (wRd t qR qT qL r.1 ++ (wTx t qT r.2.1 ++ (wL t qL r.2.2))) = w) 0 0) 0 0 13 [(0, .ref (qR 99))] [.int y0, .ref (qR 99)] (wRd t qR qT qL bR ++ (wTx t qT bT ++ (wL t qL bL))) := by
  unfold f_1_readLapse_13 at h0
  obtain ⟨z1, hz1, h0⟩ := bind_some h0
  refine A_vV (As := [.int y0]) (rest := []) C 0 (c_1_readLetter l D t qR qT qL bR bT bL y0 hz1) mw_1_readLetter ml_1_79 im_1_readLetter sl_1_readLetter (rmok rfl rfl) (cut0 (wRd t qR qT qL bR ++ (wTx t qT bT ++ (wL t qL bL)))) rfl (ci := 1) rfl rfl rfl (Nat.le_of_ble_eq_true rfl) dX1_readLapse_13 (fun w1 hw1 => ?_)
  subst hw1
  refine A_perm (ws' := (wRd t qR qT qL z1.1 ++ (wTx t qT z1.2 ++ (wL t qL bL)))) ((cut0 _).symm) ?_
  refine A_aload_n C 0 dX1_readLapse_16 rfl rfl ?_
  refine A_iconst C (1 : Int32) dX1_readLapse_17 (by decide) ?_
  refine A_put C 0 5 (wRd t qR qT qL (pI z1.1 5 (1 : Int32)) ++ (wTx t qT z1.2 ++ (wL t qL bL))) tyX1 inG1 tyX1_ok nmX1 (ci := 1) rfl (by decide) fl_1_36 rfl rfl rfl rfl rfl (Nat.le_of_ble_eq_true rfl) rfl dX1_readLapse_18 ?_
  refine A_aload_n C 0 dX1_readLapse_21 rfl rfl ?_
  refine A_get (v := .ref (qL 99)) C 0 1 inG1 (ci := 1) rfl (by decide) fl_1_21 rfl rfl rfl dX1_readLapse_22 ?_
  refine A_aload_n C 0 dX1_readLapse_25 rfl rfl ?_
  refine A_iconst C (1 : Int32) dX1_readLapse_26 (by decide) ?_
  refine A_bipush C (9 : Int32) dX1_readLapse_27 (by decide) ?_
  obtain ⟨z2, hz2, h0⟩ := bind_some h0
  refine A_vI (As := [.int (1 : Int32), .int (9 : Int32)]) (rest := [.ref (qL 99)]) C 0 (c_1_readNumber l D t qR qT qL (pI z1.1 5 (1 : Int32)) z1.2 bL (1 : Int32) (9 : Int32) hz2) mw_1_readNumber ml_1_91 im_1_readNumber sl_1_readNumber (rmok rfl rfl) (cut0 (wRd t qR qT qL (pI z1.1 5 (1 : Int32)) ++ (wTx t qT z1.2 ++ (wL t qL bL)))) rfl (ci := 1) rfl rfl rfl (Nat.le_of_ble_eq_true rfl) dX1_readLapse_29 (fun x w1 hw1 => ?_)
  obtain ⟨rfl, rfl⟩ := hw1
  refine A_perm (ws' := (wRd t qR qT qL z2.2.1 ++ (wTx t qT z2.2.2 ++ (wL t qL bL)))) ((cut0 _).symm) ?_
  refine A_put C 3 10 (wRd t qR qT qL z2.2.1 ++ (wTx t qT z2.2.2 ++ (wL t qL (pI bL 10 z2.1)))) tyX0 inG0 tyX0_ok nmX0 (ci := 0) rfl (by decide) fl_1_111 rfl rfl rfl rfl rfl (Nat.le_of_ble_eq_true rfl) rfl dX1_readLapse_32 ?_
  have h0 := Option.some.inj h0
  subst h0
  exact A_vret C dX1_readLapse_35 rfl
def f_1_readLapse (bR : BV) (bT : BV) (bL : BV) : Option (BV × BV × BV) :=
  if (gI bR 5) = 0 then (f_1_readLapse_13 bR bT bL (1 : Int32)) else (f_1_readLapse_13 bR bT bL (0 : Int32))
theorem c_1_readLapse (l : Launch) (D : va_G) (t : ty4) (qR : Nat → Nat) (qT : Nat → Nat) (qL : Nat → Nat) (bR : BV) (bT : BV) (bL : BV) {r : BV × BV × BV} (h0 : f_1_readLapse bR bT bL = some r) : MetV l yX1_readLapse cX1_readLapse 1 none (rmD 4) D t [.ref (qR 99)] (wRd t qR qT qL bR ++ (wTx t qT bT ++ (wL t qL bL))) (fun w => (wRd t qR qT qL r.1 ++ (wTx t qT r.2.1 ++ (wL t qL r.2.2))) = w) := by
  refine MetV_of (by decide +kernel) (Nat.le_of_ble_eq_true rfl) (fun p e s m below meth c C _ => ?_)
  unfold f_1_readLapse at h0
  generalize hargs : (List.toArray [.ref (qR 99)] : Array Value) = args at C ⊢
  refine At.start (lv2 := [(0, .ref (qR 99))]) rfl ?_
  refine A_aload_n C 0 dX1_readLapse_0 rfl rfl ?_
  refine A_aload_n C 0 dX1_readLapse_1 rfl rfl ?_
  refine A_get (v := .int (gI bR 5)) C 0 5 inG1 (ci := 1) rfl (by decide) fl_1_36 rfl rfl rfl dX1_readLapse_2 ?_
  refine A_if_ne C 12 dX1_readLapse_5 (by decide) h0 (fun h0 => ?_) (fun h0 => ?_)
  · refine A_iconst C (0 : Int32) dX1_readLapse_12 (by decide) ?_
    exact A_loc [0] rfl (t_1_readLapse_13 C qR qT qL r bR bT bL (0 : Int32) h0)
  · refine A_iconst C (1 : Int32) dX1_readLapse_8 (by decide) ?_
    refine A_goto C 13 dX1_readLapse_9 (by decide) ?_
    exact A_loc [0] rfl (t_1_readLapse_13 C qR qT qL r bR bT bL (1 : Int32) h0)
def f_1_readItem_112 (bR : BV) (bT : BV) (bL : BV) : Option (BV × BV × BV) :=
  (f_1_readEnd bR bT).bind (fun z1 => some (z1.1, z1.2, bL))
theorem t_1_readItem_112 (C : CX p s m args meth c cX1_readItem 1 none RX1 D t) (qR : Nat → Nat) (qT : Nat → Nat) (qL : Nat → Nat) (r : BV × BV × BV) (bR : BV) (bT : BV) (bL : BV) (h0 : f_1_readItem_112 bR bT bL = some r) : At p l e (rmD 5) s m args below meth c D 1 w0 (QV below args s D w0 (fun w => (wRd t qR qT qL r.1 ++ (wTx t qT r.2.1 ++ (wL t qL r.2.2))) = w) 0 0) 0 0 112 [(0, .ref (qR 99))] [] (wRd t qR qT qL bR ++ (wTx t qT bT ++ (wL t qL bL))) := by
  unfold f_1_readItem_112 at h0
  refine A_aload_n C 0 dX1_readItem_112 rfl rfl ?_
  obtain ⟨z1, hz1, h0⟩ := bind_some h0
  refine A_vV (As := []) (rest := []) C 0 (c_1_readEnd l D t qR qT qL bR bT bL hz1) mw_1_readEnd ml_1_73 im_1_readEnd sl_1_readEnd (rmok rfl rfl) (cut0 (wRd t qR qT qL bR ++ (wTx t qT bT ++ (wL t qL bL)))) rfl (ci := 1) rfl rfl rfl (Nat.le_of_ble_eq_true rfl) dX1_readItem_113 (fun w1 hw1 => ?_)
  subst hw1
  refine A_perm (ws' := (wRd t qR qT qL z1.1 ++ (wTx t qT z1.2 ++ (wL t qL bL)))) ((cut0 _).symm) ?_
  have h0 := Option.some.inj h0
  subst h0
  exact A_vret C dX1_readItem_116 rfl
def f_1_readItem_22 (bR : BV) (bT : BV) (bL : BV) (y0 : Int32) : Option (BV × BV × BV) :=
  if y0 = (99 : Int32) then ((f_1_readCrop bR bT bL).bind (fun z2 => f_1_readItem_112 z2.1 z2.2.1 z2.2.2)) else (if y0 = (105 : Int32) then ((f_1_readInterest bR bT bL).bind (fun z3 => f_1_readItem_112 z3.1 z3.2.1 z3.2.2)) else (if y0 = (108 : Int32) then ((f_1_readLapse bR bT bL).bind (fun z4 => f_1_readItem_112 z4.1 z4.2.1 z4.2.2)) else (if y0 = (112 : Int32) then ((f_1_readPrice bR bT bL).bind (fun z5 => f_1_readItem_112 z5.1 z5.2.1 z5.2.2)) else (if y0 = (115 : Int32) then ((f_1_readSeason bR bT bL).bind (fun z6 => f_1_readItem_112 z6.1 z6.2.1 z6.2.2)) else ((f_1_refuseUnless bR bT (0 : Int32)).bind (fun z7 => f_1_readItem_112 z7 bT bL))))))
theorem t_1_readItem_22 (C : CX p s m args meth c cX1_readItem 1 none RX1 D t) (qR : Nat → Nat) (qT : Nat → Nat) (qL : Nat → Nat) (r : BV × BV × BV) (bR : BV) (bT : BV) (bL : BV) (y0 : Int32) (h0 : f_1_readItem_22 bR bT bL y0 = some r) : At p l e (rmD 5) s m args below meth c D 1 w0 (QV below args s D w0 (fun w => (wRd t qR qT qL r.1 ++ (wTx t qT r.2.1 ++ (wL t qL r.2.2))) = w) 0 0) 0 0 22 [(0, .ref (qR 99))] [.int y0] (wRd t qR qT qL bR ++ (wTx t qT bT ++ (wL t qL bL))) := by
  unfold f_1_readItem_22 at h0
  refine sw_split h0 (fun hx h0 => ?_) (fun hn99 h0 => ?_)
  · refine A_look (off := 57) C 79 dX1_readItem_22 (by decide) (by first | (rw [hx]; done) | (rw [hx]; rfl)) (by decide) ?_
    refine A_aload_n C 0 dX1_readItem_79 rfl rfl ?_
    obtain ⟨z2, hz2, h0⟩ := bind_some h0
    refine A_vV (As := []) (rest := []) C 0 (c_1_readCrop l D t qR qT qL bR bT bL hz2) mw_1_readCrop ml_1_57 im_1_readCrop sl_1_readCrop (rmok rfl rfl) (cut0 (wRd t qR qT qL bR ++ (wTx t qT bT ++ (wL t qL bL)))) rfl (ci := 1) rfl rfl rfl (Nat.le_of_ble_eq_true rfl) dX1_readItem_80 (fun w1 hw1 => ?_)
    subst hw1
    refine A_perm (ws' := (wRd t qR qT qL z2.1 ++ (wTx t qT z2.2.1 ++ (wL t qL z2.2.2)))) ((cut0 _).symm) ?_
    refine A_goto C 112 dX1_readItem_83 (by decide) ?_
    exact A_loc [0] rfl (t_1_readItem_112 C qR qT qL r z2.1 z2.2.1 z2.2.2 h0)
  ·
    refine sw_split h0 (fun hx h0 => ?_) (fun hn105 h0 => ?_)
    · refine A_look (off := 71) C 93 dX1_readItem_22 (by decide) (by first | (rw [hx]; done) | (rw [hx]; rfl)) (by decide) ?_
      refine A_aload_n C 0 dX1_readItem_93 rfl rfl ?_
      obtain ⟨z3, hz3, h0⟩ := bind_some h0
      refine A_vV (As := []) (rest := []) C 0 (c_1_readInterest l D t qR qT qL bR bT bL hz3) mw_1_readInterest ml_1_63 im_1_readInterest sl_1_readInterest (rmok rfl rfl) (cut0 (wRd t qR qT qL bR ++ (wTx t qT bT ++ (wL t qL bL)))) rfl (ci := 1) rfl rfl rfl (Nat.le_of_ble_eq_true rfl) dX1_readItem_94 (fun w1 hw1 => ?_)
      subst hw1
      refine A_perm (ws' := (wRd t qR qT qL z3.1 ++ (wTx t qT z3.2.1 ++ (wL t qL z3.2.2)))) ((cut0 _).symm) ?_
      refine A_goto C 112 dX1_readItem_97 (by decide) ?_
      exact A_loc [0] rfl (t_1_readItem_112 C qR qT qL r z3.1 z3.2.1 z3.2.2 h0)
    ·
      refine sw_split h0 (fun hx h0 => ?_) (fun hn108 h0 => ?_)
      · refine A_look (off := 78) C 100 dX1_readItem_22 (by decide) (by first | (rw [hx]; done) | (rw [hx]; rfl)) (by decide) ?_
        refine A_aload_n C 0 dX1_readItem_100 rfl rfl ?_
        obtain ⟨z4, hz4, h0⟩ := bind_some h0
        refine A_vV (As := []) (rest := []) C 0 (c_1_readLapse l D t qR qT qL bR bT bL hz4) mw_1_readLapse ml_1_66 im_1_readLapse sl_1_readLapse (rmok rfl rfl) (cut0 (wRd t qR qT qL bR ++ (wTx t qT bT ++ (wL t qL bL)))) rfl (ci := 1) rfl rfl rfl (Nat.le_of_ble_eq_true rfl) dX1_readItem_101 (fun w1 hw1 => ?_)
        subst hw1
        refine A_perm (ws' := (wRd t qR qT qL z4.1 ++ (wTx t qT z4.2.1 ++ (wL t qL z4.2.2)))) ((cut0 _).symm) ?_
        refine A_goto C 112 dX1_readItem_104 (by decide) ?_
        exact A_loc [0] rfl (t_1_readItem_112 C qR qT qL r z4.1 z4.2.1 z4.2.2 h0)
      ·
        refine sw_split h0 (fun hx h0 => ?_) (fun hn112 h0 => ?_)
        · refine A_look (off := 64) C 86 dX1_readItem_22 (by decide) (by first | (rw [hx]; done) | (rw [hx]; rfl)) (by decide) ?_
          refine A_aload_n C 0 dX1_readItem_86 rfl rfl ?_
          obtain ⟨z5, hz5, h0⟩ := bind_some h0
          refine A_vV (As := []) (rest := []) C 0 (c_1_readPrice l D t qR qT qL bR bT bL hz5) mw_1_readPrice ml_1_60 im_1_readPrice sl_1_readPrice (rmok rfl rfl) (cut0 (wRd t qR qT qL bR ++ (wTx t qT bT ++ (wL t qL bL)))) rfl (ci := 1) rfl rfl rfl (Nat.le_of_ble_eq_true rfl) dX1_readItem_87 (fun w1 hw1 => ?_)
          subst hw1
          refine A_perm (ws' := (wRd t qR qT qL z5.1 ++ (wTx t qT z5.2.1 ++ (wL t qL z5.2.2)))) ((cut0 _).symm) ?_
          refine A_goto C 112 dX1_readItem_90 (by decide) ?_
          exact A_loc [0] rfl (t_1_readItem_112 C qR qT qL r z5.1 z5.2.1 z5.2.2 h0)
        ·
          refine sw_split h0 (fun hx h0 => ?_) (fun hn115 h0 => ?_)
          · refine A_look (off := 50) C 72 dX1_readItem_22 (by decide) (by first | (rw [hx]; done) | (rw [hx]; rfl)) (by decide) ?_
            refine A_aload_n C 0 dX1_readItem_72 rfl rfl ?_
            obtain ⟨z6, hz6, h0⟩ := bind_some h0
            refine A_vV (As := []) (rest := []) C 0 (c_1_readSeason l D t qR qT qL bR bT bL hz6) mw_1_readSeason ml_1_54 im_1_readSeason sl_1_readSeason (rmok rfl rfl) (cut0 (wRd t qR qT qL bR ++ (wTx t qT bT ++ (wL t qL bL)))) rfl (ci := 1) rfl rfl rfl (Nat.le_of_ble_eq_true rfl) dX1_readItem_73 (fun w1 hw1 => ?_)
            subst hw1
            refine A_perm (ws' := (wRd t qR qT qL z6.1 ++ (wTx t qT z6.2.1 ++ (wL t qL z6.2.2)))) ((cut0 _).symm) ?_
            refine A_goto C 112 dX1_readItem_76 (by decide) ?_
            exact A_loc [0] rfl (t_1_readItem_112 C qR qT qL r z6.1 z6.2.1 z6.2.2 h0)
          ·
            refine A_look (off := 85) C 107 dX1_readItem_22 (by decide) (by show Op.lookupswitch.offset [(99, 57), (105, 71), (108, 78), (112, 64), (115, 50)] _ _ = _; first | (rw [lv_osw hn99 (a := 99) (by decide), lv_osw hn105 (a := 105) (by decide), lv_osw hn108 (a := 108) (by decide), lv_osw hn112 (a := 112) (by decide), lv_osw hn115 (a := 115) (by decide)]; done) | (rw [lv_osw hn99 (a := 99) (by decide), lv_osw hn105 (a := 105) (by decide), lv_osw hn108 (a := 108) (by decide), lv_osw hn112 (a := 112) (by decide), lv_osw hn115 (a := 115) (by decide)]; rfl)) (by decide) ?_
            refine A_aload_n C 0 dX1_readItem_107 rfl rfl ?_
            refine A_iconst C (0 : Int32) dX1_readItem_108 (by decide) ?_
            obtain ⟨z7, hz7, h0⟩ := bind_some h0
            refine A_vV (As := [.int (0 : Int32)]) (rest := []) C 0 (c_1_refuseUnless l D t qR qT qL bR bT bL (0 : Int32) hz7) mw_1_refuseUnless ml_1_69 im_1_refuseUnless sl_1_refuseUnless (rmok rfl rfl) (cut0 (wRd t qR qT qL bR ++ (wTx t qT bT ++ (wL t qL bL)))) rfl (ci := 1) rfl rfl rfl (Nat.le_of_ble_eq_true rfl) dX1_readItem_109 (fun w1 hw1 => ?_)
            subst hw1
            refine A_perm (ws' := (wRd t qR qT qL z7 ++ (wTx t qT bT ++ (wL t qL bL)))) ((cut0 _).symm) ?_
            exact A_loc [0] rfl (t_1_readItem_112 C qR qT qL r z7 bT bL h0)
def f_1_readItem (bR : BV) (bT : BV) (bL : BV) : Option (BV × BV × BV) :=
  if (gI bT 3) = (1 : Int32) then (f_1_readItem_22 bR bT bL (gI bT 4)) else (f_1_readItem_22 bR bT bL (0 : Int32))
theorem c_1_readItem (l : Launch) (D : va_G) (t : ty4) (qR : Nat → Nat) (qT : Nat → Nat) (qL : Nat → Nat) (bR : BV) (bT : BV) (bL : BV) {r : BV × BV × BV} (h0 : f_1_readItem bR bT bL = some r) : MetV l yX1_readItem cX1_readItem 1 none (rmD 5) D t [.ref (qR 99)] (wRd t qR qT qL bR ++ (wTx t qT bT ++ (wL t qL bL))) (fun w => (wRd t qR qT qL r.1 ++ (wTx t qT r.2.1 ++ (wL t qL r.2.2))) = w) := by
  refine MetV_of (by decide +kernel) (Nat.le_of_ble_eq_true rfl) (fun p e s m below meth c C _ => ?_)
  unfold f_1_readItem at h0
  generalize hargs : (List.toArray [.ref (qR 99)] : Array Value) = args at C ⊢
  refine At.start (lv2 := [(0, .ref (qR 99))]) rfl ?_
  refine A_aload_n C 0 dX1_readItem_0 rfl rfl ?_
  refine A_get (v := .ref (qT 99)) C 0 0 inG1 (ci := 1) rfl (by decide) fl_1_12 rfl rfl rfl dX1_readItem_1 ?_
  refine A_get (v := .int (gI bT 3)) C 1 3 inG4 (ci := 4) rfl (by decide) fl_1_45 rfl rfl rfl dX1_readItem_4 ?_
  refine A_iconst C (1 : Int32) dX1_readItem_7 (by decide) ?_
  refine A_icmp_ne C 21 dX1_readItem_8 (by decide) h0 (fun h0 => ?_) (fun h0 => ?_)
  · refine A_iconst C (0 : Int32) dX1_readItem_21 (by decide) ?_
    exact A_loc [0] rfl (t_1_readItem_22 C qR qT qL r bR bT bL (0 : Int32) h0)
  · refine A_aload_n C 0 dX1_readItem_11 rfl rfl ?_
    refine A_get (v := .ref (qT 99)) C 0 0 inG1 (ci := 1) rfl (by decide) fl_1_12 rfl rfl rfl dX1_readItem_12 ?_
    refine A_get (v := .int (gI bT 4)) C 1 4 inG4 (ci := 4) rfl (by decide) fl_1_51 rfl rfl rfl dX1_readItem_15 ?_
    refine A_goto C 22 dX1_readItem_18 (by decide) ?_
    exact A_loc [0] rfl (t_1_readItem_22 C qR qT qL r bR bT bL (gI bT 4) h0)
def f_1_readItems_93 (bR : BV) (bT : BV) (bL : BV) (y0 : Int32) : Option (Int32 × BV × BV × BV) :=
  some (y0, bR, bT, bL)
theorem t_1_readItems_93 (C : CX p s m args meth c cX1_readItems 2 (some .int) RX1 D t) (qR : Nat → Nat) (qT : Nat → Nat) (qL : Nat → Nat) (r : Int32 × BV × BV × BV) (bR : BV) (bT : BV) (bL : BV) (y0 : Int32) (h0 : f_1_readItems_93 bR bT bL y0 = some r) : At p l e (rmD 6) s m args below meth c D 2 w0 (QI below args s D w0 (fun x w => r.1 = x ∧ (wRd t qR qT qL r.2.1 ++ (wTx t qT r.2.2.1 ++ (wL t qL r.2.2.2))) = w) 0 0) 0 0 93 [] [.int y0] (wRd t qR qT qL bR ++ (wTx t qT bT ++ (wL t qL bL))) := by
  unfold f_1_readItems_93 at h0
  have h0 := Option.some.inj h0
  subst h0
  exact A_iret C dX1_readItems_93 ⟨rfl, rfl⟩
def f_1_readItems_73 (bR : BV) (bT : BV) (bL : BV) (x1 : Int32) : Option (Int32 × BV × BV × BV) :=
  if (gI bR 2) = (-9 : Int32) then (f_1_readItems_93 bR bT bL x1) else (f_1_readItems_93 bR bT bL ((-10 : Int32) - (gI bR 2)))
theorem t_1_readItems_73 (C : CX p s m args meth c cX1_readItems 2 (some .int) RX1 D t) (qR : Nat → Nat) (qT : Nat → Nat) (qL : Nat → Nat) (r : Int32 × BV × BV × BV) (bR : BV) (bT : BV) (bL : BV) (x1 : Int32) (h0 : f_1_readItems_73 bR bT bL x1 = some r) : At p l e (rmD 6) s m args below meth c D 2 w0 (QI below args s D w0 (fun x w => r.1 = x ∧ (wRd t qR qT qL r.2.1 ++ (wTx t qT r.2.2.1 ++ (wL t qL r.2.2.2))) = w) 0 0) 0 0 73 [(0, .ref (qR 99)), (1, .int x1)] [] (wRd t qR qT qL bR ++ (wTx t qT bT ++ (wL t qL bL))) := by
  unfold f_1_readItems_73 at h0
  refine A_aload_n C 0 dX1_readItems_73 rfl rfl ?_
  refine A_get (v := .int (gI bR 2)) C 0 2 inG1 (ci := 1) rfl (by decide) fl_1_25 rfl rfl rfl dX1_readItems_74 ?_
  refine A_bipush C (-9 : Int32) dX1_readItems_77 (by decide) ?_
  refine A_icmp_ne C 86 dX1_readItems_79 (by decide) h0 (fun h0 => ?_) (fun h0 => ?_)
  · refine A_bipush C (-10 : Int32) dX1_readItems_86 (by decide) ?_
    refine A_aload_n C 0 dX1_readItems_88 rfl rfl ?_
    refine A_get (v := .int (gI bR 2)) C 0 2 inG1 (ci := 1) rfl (by decide) fl_1_25 rfl rfl rfl dX1_readItems_89 ?_
    refine A_isub C dX1_readItems_92 ?_
    exact A_loc [] rfl (t_1_readItems_93 C qR qT qL r bR bT bL ((-10 : Int32) - (gI bR 2)) h0)
  · refine A_iload_n C 1 dX1_readItems_82 rfl rfl ?_
    refine A_goto C 93 dX1_readItems_83 (by decide) ?_
    exact A_loc [] rfl (t_1_readItems_93 C qR qT qL r bR bT bL x1 h0)
def f_1_readItems_37_b (k37 : BV → BV → BV → Int32 → Option (Int32 × BV × BV × BV)) (bR : BV) (bT : BV) (bL : BV) (x1 : Int32) : Option (Int32 × BV × BV × BV) :=
  if (150 : Int32) ≤ x1 then (f_1_readItems_73 bR bT bL x1) else (if (gI bR 2) = (-9 : Int32) then (if (gI bT 3) = 0 then (f_1_readItems_73 bR bT bL x1) else ((f_1_readItem bR bT bL).bind (fun z1 => k37 z1.1 z1.2.1 z1.2.2 (x1 + (1 : Int32))))) else (f_1_readItems_73 bR bT bL x1))
theorem t_1_readItems_37_b (C : CX p s m args meth c cX1_readItems 2 (some .int) RX1 D t) (qR : Nat → Nat) (qT : Nat → Nat) (qL : Nat → Nat) (r : Int32 × BV × BV × BV) (k37 : BV → BV → BV → Int32 → Option (Int32 × BV × BV × BV)) (K37 : ∀ (bR : BV) (bT : BV) (bL : BV) (x1 : Int32), k37 bR bT bL x1 = some r → At p l e (rmD 6) s m args below meth c D 2 w0 (QI below args s D w0 (fun x w => r.1 = x ∧ (wRd t qR qT qL r.2.1 ++ (wTx t qT r.2.2.1 ++ (wL t qL r.2.2.2))) = w) 0 0) 0 0 37 [(0, .ref (qR 99)), (1, .int x1)] [] (wRd t qR qT qL bR ++ (wTx t qT bT ++ (wL t qL bL)))) (bR : BV) (bT : BV) (bL : BV) (x1 : Int32) (h0 : f_1_readItems_37_b k37 bR bT bL x1 = some r) : At p l e (rmD 6) s m args below meth c D 2 w0 (QI below args s D w0 (fun x w => r.1 = x ∧ (wRd t qR qT qL r.2.1 ++ (wTx t qT r.2.2.1 ++ (wL t qL r.2.2.2))) = w) 0 0) 0 0 37 [(0, .ref (qR 99)), (1, .int x1)] [] (wRd t qR qT qL bR ++ (wTx t qT bT ++ (wL t qL bL))) := by
  unfold f_1_readItems_37_b at h0
  refine A_iload_n C 1 dX1_readItems_37 rfl rfl ?_
  refine A_sipush C (150 : Int32) dX1_readItems_38 (by decide) ?_
  refine A_icmp_ge C 73 dX1_readItems_41 (by decide) h0 (fun h0 => ?_) (fun h0 => ?_)
  · exact A_loc [0, 1] rfl (t_1_readItems_73 C qR qT qL r bR bT bL x1 h0)
  · refine A_aload_n C 0 dX1_readItems_44 rfl rfl ?_
    refine A_get (v := .int (gI bR 2)) C 0 2 inG1 (ci := 1) rfl (by decide) fl_1_25 rfl rfl rfl dX1_readItems_45 ?_
    refine A_bipush C (-9 : Int32) dX1_readItems_48 (by decide) ?_
    refine A_icmp_ne C 73 dX1_readItems_50 (by decide) h0 (fun h0 => ?_) (fun h0 => ?_)
    · exact A_loc [0, 1] rfl (t_1_readItems_73 C qR qT qL r bR bT bL x1 h0)
    · refine A_aload_n C 0 dX1_readItems_53 rfl rfl ?_
      refine A_get (v := .ref (qT 99)) C 0 0 inG1 (ci := 1) rfl (by decide) fl_1_12 rfl rfl rfl dX1_readItems_54 ?_
      refine A_get (v := .int (gI bT 3)) C 1 3 inG4 (ci := 4) rfl (by decide) fl_1_45 rfl rfl rfl dX1_readItems_57 ?_
      refine A_if_eq C 73 dX1_readItems_60 (by decide) h0 (fun h0 => ?_) (fun h0 => ?_)
      · exact A_loc [0, 1] rfl (t_1_readItems_73 C qR qT qL r bR bT bL x1 h0)
      · refine A_aload_n C 0 dX1_readItems_63 rfl rfl ?_
        obtain ⟨z1, hz1, h0⟩ := bind_some h0
        refine A_vV (As := []) (rest := []) C 0 (c_1_readItem l D t qR qT qL bR bT bL hz1) mw_1_readItem ml_1_48 im_1_readItem sl_1_readItem (rmok rfl rfl) (cut0 (wRd t qR qT qL bR ++ (wTx t qT bT ++ (wL t qL bL)))) rfl (ci := 1) rfl rfl rfl (Nat.le_of_ble_eq_true rfl) dX1_readItems_64 (fun w1 hw1 => ?_)
        subst hw1
        refine A_perm (ws' := (wRd t qR qT qL z1.1 ++ (wTx t qT z1.2.1 ++ (wL t qL z1.2.2)))) ((cut0 _).symm) ?_
        refine A_iinc C 1 (x1 + (1 : Int32)) [(1, .int (x1 + (1 : Int32))), (0, .ref (qR 99))] dX1_readItems_67 rfl rfl (by decide) rfl ?_
        refine A_goto C 37 dX1_readItems_70 (by decide) ?_
        exact A_loc [1, 0] rfl (K37 z1.1 z1.2.1 z1.2.2 (x1 + (1 : Int32)) h0)
def f_1_readItems_37 : Nat → BV → BV → BV → Int32 → Option (Int32 × BV × BV × BV)
  | 0 => fun _ _ _ _ => none
  | n + 1 => f_1_readItems_37_b (f_1_readItems_37 n)
theorem t_1_readItems_37 (C : CX p s m args meth c cX1_readItems 2 (some .int) RX1 D t) (qR : Nat → Nat) (qT : Nat → Nat) (qL : Nat → Nat) (r : Int32 × BV × BV × BV) : ∀ (n : Nat), ∀ (bR : BV) (bT : BV) (bL : BV) (x1 : Int32), f_1_readItems_37 n bR bT bL x1 = some r → At p l e (rmD 6) s m args below meth c D 2 w0 (QI below args s D w0 (fun x w => r.1 = x ∧ (wRd t qR qT qL r.2.1 ++ (wTx t qT r.2.2.1 ++ (wL t qL r.2.2.2))) = w) 0 0) 0 0 37 [(0, .ref (qR 99)), (1, .int x1)] [] (wRd t qR qT qL bR ++ (wTx t qT bT ++ (wL t qL bL))) := by
  intro n
  induction n with
  | zero =>
    intro bR bT bL x1 h0
    have h0 : none = some r := h0
    cases h0
  | succ n ih =>
    intro bR bT bL x1 h0
    exact t_1_readItems_37_b C qR qT qL r _ ih bR bT bL x1 h0
def f_1_readItems (bR : BV) (bT : BV) (bL : BV) : Option (Int32 × BV × BV × BV) :=
  (f_0_startAnew bL).bind (fun z2 => (f_4_toFirstToken bT).bind (fun z3 => f_1_readItems_37 200 (pI (pI (pI (pI bR 2 (-9 : Int32)) 3 (0 : Int32)) 4 (0 : Int32)) 5 (0 : Int32)) z3 z2 (0 : Int32)))
theorem c_1_readItems (l : Launch) (D : va_G) (t : ty4) (qR : Nat → Nat) (qT : Nat → Nat) (qL : Nat → Nat) (bR : BV) (bT : BV) (bL : BV) {r : Int32 × BV × BV × BV} (h0 : f_1_readItems bR bT bL = some r) : MetI l yX1_readItems cX1_readItems 2 (some .int) (rmD 6) D t [.ref (qR 99)] (wRd t qR qT qL bR ++ (wTx t qT bT ++ (wL t qL bL))) (fun x w => r.1 = x ∧ (wRd t qR qT qL r.2.1 ++ (wTx t qT r.2.2.1 ++ (wL t qL r.2.2.2))) = w) := by
  refine MetI_of (by decide +kernel) (Nat.le_of_ble_eq_true rfl) (fun p e s m below meth c C _ => ?_)
  unfold f_1_readItems at h0
  generalize hargs : (List.toArray [.ref (qR 99)] : Array Value) = args at C ⊢
  refine At.start (lv2 := [(0, .ref (qR 99))]) rfl ?_
  refine A_aload_n C 0 dX1_readItems_0 rfl rfl ?_
  refine A_bipush C (-9 : Int32) dX1_readItems_1 (by decide) ?_
  refine A_put C 0 2 (wRd t qR qT qL (pI bR 2 (-9 : Int32)) ++ (wTx t qT bT ++ (wL t qL bL))) tyX1 inG1 tyX1_ok nmX1 (ci := 1) rfl (by decide) fl_1_25 rfl rfl rfl rfl rfl (Nat.le_of_ble_eq_true rfl) rfl dX1_readItems_3 ?_
  refine A_aload_n C 0 dX1_readItems_6 rfl rfl ?_
  refine A_iconst C (0 : Int32) dX1_readItems_7 (by decide) ?_
  refine A_put C 0 3 (wRd t qR qT qL (pI (pI bR 2 (-9 : Int32)) 3 (0 : Int32)) ++ (wTx t qT bT ++ (wL t qL bL))) tyX1 inG1 tyX1_ok nmX1 (ci := 1) rfl (by decide) fl_1_29 rfl rfl rfl rfl rfl (Nat.le_of_ble_eq_true rfl) rfl dX1_readItems_8 ?_
  refine A_aload_n C 0 dX1_readItems_11 rfl rfl ?_
  refine A_iconst C (0 : Int32) dX1_readItems_12 (by decide) ?_
  refine A_put C 0 4 (wRd t qR qT qL (pI (pI (pI bR 2 (-9 : Int32)) 3 (0 : Int32)) 4 (0 : Int32)) ++ (wTx t qT bT ++ (wL t qL bL))) tyX1 inG1 tyX1_ok nmX1 (ci := 1) rfl (by decide) fl_1_33 rfl rfl rfl rfl rfl (Nat.le_of_ble_eq_true rfl) rfl dX1_readItems_13 ?_
  refine A_aload_n C 0 dX1_readItems_16 rfl rfl ?_
  refine A_iconst C (0 : Int32) dX1_readItems_17 (by decide) ?_
  refine A_put C 0 5 (wRd t qR qT qL (pI (pI (pI (pI bR 2 (-9 : Int32)) 3 (0 : Int32)) 4 (0 : Int32)) 5 (0 : Int32)) ++ (wTx t qT bT ++ (wL t qL bL))) tyX1 inG1 tyX1_ok nmX1 (ci := 1) rfl (by decide) fl_1_36 rfl rfl rfl rfl rfl (Nat.le_of_ble_eq_true rfl) rfl dX1_readItems_18 ?_
  refine A_aload_n C 0 dX1_readItems_21 rfl rfl ?_
  refine A_get (v := .ref (qL 99)) C 0 1 inG1 (ci := 1) rfl (by decide) fl_1_21 rfl rfl rfl dX1_readItems_22 ?_
  obtain ⟨z2, hz2, h0⟩ := bind_some h0
  refine A_vV (As := []) (rest := []) C 0 (c_0_startAnew l D t qL bL hz2) mw_0_startAnew ml_1_39 im_0_startAnew sl_0_startAnew (rmok rfl rfl) (cutA (wRd t qR qT qL (pI (pI (pI (pI bR 2 (-9 : Int32)) 3 (0 : Int32)) 4 (0 : Int32)) 5 (0 : Int32)) ++ (wTx t qT bT)) (wL t qL bL) []) rfl (ci := 0) rfl rfl rfl (Nat.le_of_ble_eq_true rfl) dX1_readItems_25 (fun w1 hw1 => ?_)
  subst hw1
  refine A_perm (ws' := (wRd t qR qT qL (pI (pI (pI (pI bR 2 (-9 : Int32)) 3 (0 : Int32)) 4 (0 : Int32)) 5 (0 : Int32)) ++ (wTx t qT bT ++ (wL t qL z2)))) ((cutA (wRd t qR qT qL (pI (pI (pI (pI bR 2 (-9 : Int32)) 3 (0 : Int32)) 4 (0 : Int32)) 5 (0 : Int32)) ++ (wTx t qT bT)) (wL t qL z2) []).symm) ?_
  refine A_aload_n C 0 dX1_readItems_28 rfl rfl ?_
  refine A_get (v := .ref (qT 99)) C 0 0 inG1 (ci := 1) rfl (by decide) fl_1_12 rfl rfl rfl dX1_readItems_29 ?_
  obtain ⟨z3, hz3, h0⟩ := bind_some h0
  refine A_vV (As := []) (rest := []) C 0 (c_4_toFirstToken l D t qT bT hz3) mw_4_toFirstToken ml_1_42 im_4_toFirstToken sl_4_toFirstToken (rmok rfl rfl) (cutA (wRd t qR qT qL (pI (pI (pI (pI bR 2 (-9 : Int32)) 3 (0 : Int32)) 4 (0 : Int32)) 5 (0 : Int32))) (wTx t qT bT) (wL t qL z2)) rfl (ci := 4) rfl rfl rfl (Nat.le_of_ble_eq_true rfl) dX1_readItems_32 (fun w1 hw1 => ?_)
  subst hw1
  refine A_perm (ws' := (wRd t qR qT qL (pI (pI (pI (pI bR 2 (-9 : Int32)) 3 (0 : Int32)) 4 (0 : Int32)) 5 (0 : Int32)) ++ (wTx t qT z3 ++ (wL t qL z2)))) ((cutA (wRd t qR qT qL (pI (pI (pI (pI bR 2 (-9 : Int32)) 3 (0 : Int32)) 4 (0 : Int32)) 5 (0 : Int32))) (wTx t qT z3) (wL t qL z2)).symm) ?_
  refine A_iconst C (0 : Int32) dX1_readItems_35 (by decide) ?_
  refine A_istore_n C [(1, .int (0 : Int32)), (0, .ref (qR 99))] dX1_readItems_36 rfl (by decide) rfl ?_
  exact A_loc [1, 0] rfl (t_1_readItems_37 C qR qT qL r 200 (pI (pI (pI (pI bR 2 (-9 : Int32)) 3 (0 : Int32)) 4 (0 : Int32)) 5 (0 : Int32)) z3 z2 (0 : Int32) h0)
end
