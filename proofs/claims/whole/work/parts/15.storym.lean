-- Story's methods and Reader.handOver, by hand
theorem i10s : ∀ i : Nat, i < 10 → 1 ≤ i → inb (Int32.ofNat i - 1) 10 = true ∧ (Int32.ofNat i - 1).toNatClampNeg = i - 1 := by decide
theorem wPs_mem {t : ty4} {qp : Nat → Nat → Nat} {P : Nat → BV} {i : Nat} (h : i < 10) : ∃ vs, (qp i 99, (.inr (2, vs) : va_E)) ∈ wPs t qp P r10 := ⟨_, List.mem_flatMap.mpr ⟨i, r10_mem h, List.mem_cons_self⟩⟩
theorem permR {F A B B' b : va_W} (h : B.Perm (B' ++ b)) : (F ++ (A ++ B)).Perm ((F ++ B') ++ (b ++ A)) := by
  rw [List.append_assoc]
  refine List.Perm.append_left F ?_
  refine List.perm_append_comm.trans ?_
  refine (List.Perm.append_right A h).trans ?_
  rw [List.append_assoc]
theorem inb_lt {i : Int32} {n : Nat} (h : inb i n = true) : i.toNatClampNeg < n := by
  have h2 := inb_in h
  unfold vp_in at h2
  omega
abbrev wSt (t : ty4) (qY qN : Nat → Nat) (fa : Nat → Option Nat) (qp : Nat → Nat → Nat) (Y N : BV) (P : Nat → BV) : va_W := wY t qY qN fa Y ++ (wS t qN N ++ wPs t qp P r10)
def Fa (fa : Nat → Option Nat) (qp : Nat → Nat → Nat) : Prop := ∀ j, j < 10 → fa j = some (qp j 99)
def f_3_rem2 (bY bN : BV) (P : Nat → BV) : Option (BV × (Nat → BV)) := ck (inb (gI bY 2) 10) ((f_2_become (P (gI bY 2).toNatClampNeg) bN).bind (fun z => some (pI bY 2 (gI bY 2 + 1), va_up P (gI bY 2).toNatClampNeg z)))
def f_3_remember (bY bN : BV) (P : Nat → BV) : Option (BV × (Nat → BV)) := if gI bY 2 < 10 then f_3_rem2 bY bN P else f_3_rem2 (pI bY 2 9) bN (fun i => P (rot i))
def f_3_goBack (bY bN : BV) (P : Nat → BV) : Option (Int32 × BV × BV) := if 0 < gI bY 2 then (ck (inb (gI bY 2 - 1) 10) ((f_2_become bN (P (gI bY 2 - 1).toNatClampNeg)).bind (fun z => some (1, pI bY 2 (gI bY 2 - 1), z)))) else some (0, bY, bN)
def f_3_bl (O : Nat → BV) : Nat → Nat → (Nat → BV) → Option (Nat → BV)
  | 0 => fun _ P => some P
  | k + 1 => fun i P => (f_2_become (P i) (O i)).bind (fun z => f_3_bl O k (i + 1) (va_up P i z))
def f_3_become (bY bN : BV) (P : Nat → BV) (bZ bM : BV) (O : Nat → BV) : Option (BV × BV × (Nat → BV)) := (f_2_become bN bM).bind (fun n => (f_3_bl O 10 0 P).bind (fun P' => some (pI bY 2 (gI bZ 2), n, P')))
section STM
variable {p : Program} {l : Launch} {e : Env} {s : State} {m : MethodId} {args : Array Value} {below : List Frame} {meth : Method} {c : Code} {D : va_G} {w0 : va_W} {t : ty4}
theorem t_3_lose_9 (C : CX p s m args meth c cX3_loseOldest 3 none RX3 D t) (qY qN : Nat → Nat) (qp : Nat → Nat → Nat) (bY bN : BV) (P : Nat → BV) : ∀ (k i : Nat) (f : Nat → Option Nat), i + k = 10 → 1 ≤ i → (∀ j, j < 10 → f j = some (qp (if j + 1 < i then j + 1 else j) 99)) → At p l e (rmD 0) s m args below meth c D 3 w0 (QV below args s D w0 (fun w => ∃ fa, Fa fa (fun j => qp (rot j)) ∧ wSt t qY qN fa qp (pI bY 2 9) bN P = w) 0 0) 0 0 9 [(0, .ref (qY 99)), (1, .ref (qp 0 99)), (2, .int (Int32.ofNat i))] [] (wSt t qY qN f qp bY bN P) := by
  intro k
  induction k with
  | zero =>
    intro i f hi h1 hf
    obtain rfl : i = 10 := by omega
    refine A_iload_n C 2 dX3_loseOldest_9 rfl rfl ?_
    refine A_bipush C (10 : Int32) dX3_loseOldest_10 (by decide) ?_
    refine A_icmp_ge (a := some ()) (b := none) (r := ()) C 35 dX3_loseOldest_12 (by decide) (by decide) (fun _ => ?_) (fun h => by cases h)
    refine A_aload_n C 0 dX3_loseOldest_35 rfl rfl ?_
    refine A_bipush C (9 : Int32) dX3_loseOldest_36 (by decide) ?_
    refine A_put C 0 2 (wSt t qY qN f qp (pI bY 2 9) bN P) tyX3 inG3 tyX3_ok nmX3 (ci := 3) rfl (by decide) fl_3_22 rfl rfl rfl rfl rfl (Nat.le_of_ble_eq_true rfl) rfl dX3_loseOldest_38 ?_
    refine A_aload_n C 0 dX3_loseOldest_41 rfl rfl ?_
    refine A_get (v := .ref (qY 1)) C 0 1 inG3 (ci := 3) rfl (by decide) fl_3_18 rfl rfl rfl dX3_loseOldest_42 ?_
    refine A_aload_n C 0 dX3_loseOldest_45 rfl rfl ?_
    refine A_get (v := .int (9 : Int32)) C 0 2 inG3 (ci := 3) rfl (by decide) fl_3_22 rfl rfl rfl dX3_loseOldest_46 ?_
    refine A_aload_n C 1 dX3_loseOldest_49 rfl rfl ?_
    obtain ⟨vs, hvs⟩ := wPs_mem (t := t) (qp := qp) (P := P) (i := 0) (by decide)
    refine A_aast C 1 2 2 (wSt t qY qN (va_up f (9 : Int32).toNatClampNeg (some (qp 0 99))) qp (pI bY 2 9) bN P) rfl rfl (List.mem_append_right _ (List.mem_append_right _ hvs)) rfl (by decide) rfl dX3_loseOldest_50 ?_
    refine A_vret C dX3_loseOldest_51 ⟨_, fun j hj => ?_, rfl⟩
    by_cases h9 : j = 9
    · subst h9
      rw [show (9 : Int32).toNatClampNeg = 9 from by decide, va_up_self]
      rfl
    · rw [show (9 : Int32).toNatClampNeg = 9 from by decide, va_up_ne _ _ h9, hf j hj, if_pos (by omega)]
      simp [rot, h9]
  | succ k ih =>
    intro i f hi h1 hf
    have hlt : i < 10 := by omega
    refine A_iload_n C 2 dX3_loseOldest_9 rfl rfl ?_
    refine A_bipush C (10 : Int32) dX3_loseOldest_10 (by decide) ?_
    refine A_icmp_ge (a := none) (b := some ()) (r := ()) C 35 dX3_loseOldest_12 (by decide) (by rw [if_neg (i10 i hlt).2.2.1]) (fun h => by cases h) (fun _ => ?_)
    refine A_aload_n C 0 dX3_loseOldest_15 rfl rfl ?_
    refine A_get (v := .ref (qY 1)) C 0 1 inG3 (ci := 3) rfl (by decide) fl_3_18 rfl rfl rfl dX3_loseOldest_16 ?_
    refine A_iload_n C 2 dX3_loseOldest_19 rfl rfl ?_
    refine A_iconst C (1 : Int32) dX3_loseOldest_20 (by decide) ?_
    refine A_isub C dX3_loseOldest_21 ?_
    refine A_aload_n C 0 dX3_loseOldest_22 rfl rfl ?_
    refine A_get (v := .ref (qY 1)) C 0 1 inG3 (ci := 3) rfl (by decide) fl_3_18 rfl rfl rfl dX3_loseOldest_23 ?_
    refine A_iload_n C 2 dX3_loseOldest_26 rfl rfl ?_
    refine A_aald C 1 2 (qp i 99) rfl rfl (by rw [(i10 i hlt).2.1, hf i hlt, if_neg (by omega)]) (i10 i hlt).1 dX3_loseOldest_27 ?_
    obtain ⟨vs, hvs⟩ := wPs_mem (t := t) (qp := qp) (P := P) (i := i) hlt
    refine A_aast C 1 2 2 (wSt t qY qN (va_up f (Int32.ofNat i - 1).toNatClampNeg (some (qp i 99))) qp bY bN P) rfl rfl (List.mem_append_right _ (List.mem_append_right _ hvs)) rfl (i10s i hlt h1).1 rfl dX3_loseOldest_28 ?_
    refine A_iinc C 2 (Int32.ofNat (i + 1)) [(2, .int (Int32.ofNat (i + 1))), (0, .ref (qY 99)), (1, .ref (qp 0 99))] dX3_loseOldest_29 rfl (i10 i hlt).2.2.2 (by decide) rfl ?_
    refine A_goto C 9 dX3_loseOldest_32 (by decide) ?_
    refine A_loc [1, 2, 0] rfl (ih (i + 1) _ (by omega) (by omega) (fun j hj => ?_))
    rw [(i10s i hlt h1).2]
    by_cases hj2 : j = i - 1
    · subst hj2
      rw [va_up_self, if_pos (by omega), show i - 1 + 1 = i by omega]
    · rw [va_up_ne _ _ hj2, hf j hj]
      by_cases h3 : j + 1 < i
      · rw [if_pos h3, if_pos (by omega)]
      · rw [if_neg h3, if_neg (by omega)]
theorem c_3_loseOldest (l : Launch) (D : va_G) (t : ty4) (qY qN : Nat → Nat) (fa : Nat → Option Nat) (qp : Nat → Nat → Nat) (bY bN : BV) (P : Nat → BV) (hfa : Fa fa qp) : MetV l yX3_loseOldest cX3_loseOldest 3 none (rmD 0) D t [.ref (qY 99)] (wSt t qY qN fa qp bY bN P) (fun w => ∃ fa, Fa fa (fun j => qp (rot j)) ∧ wSt t qY qN fa qp (pI bY 2 9) bN P = w) := by
  refine MetV_of (by decide +kernel) (Nat.le_of_ble_eq_true rfl) (fun p e s m below meth c C _ => ?_)
  refine At.start (lv2 := [(0, .ref (qY 99))]) rfl ?_
  refine A_aload_n C 0 dX3_loseOldest_0 rfl rfl ?_
  refine A_get (v := .ref (qY 1)) C 0 1 inG3 (ci := 3) rfl (by decide) fl_3_18 rfl rfl rfl dX3_loseOldest_1 ?_
  refine A_iconst C (0 : Int32) dX3_loseOldest_4 (by decide) ?_
  refine A_aald C 1 2 (qp 0 99) rfl rfl (hfa 0 (by decide)) (by decide) dX3_loseOldest_5 ?_
  refine A_astore_n C [(1, .ref (qp 0 99)), (0, .ref (qY 99))] dX3_loseOldest_6 rfl (by decide) rfl ?_
  refine A_iconst C (Int32.ofNat 1) dX3_loseOldest_7 (by decide) ?_
  refine A_istore_n C [(2, .int (Int32.ofNat 1)), (1, .ref (qp 0 99)), (0, .ref (qY 99))] dX3_loseOldest_8 rfl (by decide) rfl ?_
  refine A_loc [2, 1, 0] rfl (t_3_lose_9 C qY qN qp bY bN P 9 1 fa (by decide) (by decide) (fun j hj => ?_))
  rw [if_neg (by omega)]
  exact hfa j hj
theorem t_3_remember_13 (C : CX p s m args meth c cX3_remember 1 none RX3 D t) (qY qN : Nat → Nat) (fa : Nat → Option Nat) (qp : Nat → Nat → Nat) (bY bN : BV) (P : Nat → BV) (r : BV × (Nat → BV)) (hfa : Fa fa qp) (h0 : f_3_rem2 bY bN P = some r) : At p l e (rmD 1) s m args below meth c D 1 w0 (QV below args s D w0 (fun w => ∃ fa qp, Fa fa qp ∧ wSt t qY qN fa qp r.1 bN r.2 = w) 0 0) 0 0 13 [(0, .ref (qY 99))] [] (wSt t qY qN fa qp bY bN P) := by
  unfold f_3_rem2 at h0
  obtain ⟨hin, h0⟩ := ck_some h0
  obtain ⟨z, hz, h0⟩ := bind_some h0
  have hlt := inb_lt hin
  refine A_aload_n C 0 dX3_remember_13 rfl rfl ?_
  refine A_get (v := .ref (qY 1)) C 0 1 inG3 (ci := 3) rfl (by decide) fl_3_18 rfl rfl rfl dX3_remember_14 ?_
  refine A_aload_n C 0 dX3_remember_17 rfl rfl ?_
  refine A_get (v := .int (gI bY 2)) C 0 2 inG3 (ci := 3) rfl (by decide) fl_3_22 rfl rfl rfl dX3_remember_18 ?_
  refine A_aald C 1 2 (qp (gI bY 2).toNatClampNeg 99) rfl rfl (hfa _ hlt) hin dX3_remember_21 ?_
  refine A_aload_n C 0 dX3_remember_22 rfl rfl ?_
  refine A_get (v := .ref (qN 99)) C 0 0 inG3 (ci := 3) rfl (by decide) fl_3_12 rfl rfl rfl dX3_remember_23 ?_
  refine A_vV (As := [.ref (qN 99)]) (rest := []) C 0 (c_2_become l D t (qp (gI bY 2).toNatClampNeg) qN (P (gI bY 2).toNatClampNeg) bN hz) mw_2_become ml_3_29 im_2_become sl_2_become (rmok rfl rfl) (permR (wPs_cut hlt)) rfl (ci := 2) rfl rfl rfl (Nat.le_of_ble_eq_true rfl) dX3_remember_26 (fun w1 hw1 => ?_)
  subst hw1
  refine A_perm (ws' := wSt t qY qN fa qp bY bN (va_up P (gI bY 2).toNatClampNeg z)) (permR (wPs_back hlt).symm).symm ?_
  refine A_aload_n C 0 dX3_remember_29 rfl rfl ?_
  refine A_dup C dX3_remember_30 rfl ?_
  refine A_get (v := .int (gI bY 2)) C 0 2 inG3 (ci := 3) rfl (by decide) fl_3_22 rfl rfl rfl dX3_remember_31 ?_
  refine A_iconst C (1 : Int32) dX3_remember_34 (by decide) ?_
  refine A_iadd C dX3_remember_35 ?_
  refine A_put C 0 2 (wSt t qY qN fa qp (pI bY 2 (gI bY 2 + 1)) bN (va_up P (gI bY 2).toNatClampNeg z)) tyX3 inG3 tyX3_ok nmX3 (ci := 3) rfl (by decide) fl_3_22 rfl rfl rfl rfl rfl (Nat.le_of_ble_eq_true rfl) rfl dX3_remember_36 ?_
  have h0 := Option.some.inj h0
  subst h0
  exact A_vret C dX3_remember_39 ⟨fa, qp, hfa, rfl⟩
theorem c_3_remember (l : Launch) (D : va_G) (t : ty4) (qY qN : Nat → Nat) (fa : Nat → Option Nat) (qp : Nat → Nat → Nat) (bY bN : BV) (P : Nat → BV) {r : BV × (Nat → BV)} (hfa : Fa fa qp) (h0 : f_3_remember bY bN P = some r) : MetV l yX3_remember cX3_remember 1 none (rmD 1) D t [.ref (qY 99)] (wSt t qY qN fa qp bY bN P) (fun w => ∃ fa qp, Fa fa qp ∧ wSt t qY qN fa qp r.1 bN r.2 = w) := by
  refine MetV_of (by decide +kernel) (Nat.le_of_ble_eq_true rfl) (fun p e s m below meth c C _ => ?_)
  unfold f_3_remember at h0
  refine At.start (lv2 := [(0, .ref (qY 99))]) rfl ?_
  refine A_aload_n C 0 dX3_remember_0 rfl rfl ?_
  refine A_get (v := .int (gI bY 2)) C 0 2 inG3 (ci := 3) rfl (by decide) fl_3_22 rfl rfl rfl dX3_remember_1 ?_
  refine A_bipush C (10 : Int32) dX3_remember_4 (by decide) ?_
  refine A_icmp_lt C 13 dX3_remember_6 (by decide) h0 (fun h0 => ?_) (fun h0 => ?_)
  · exact t_3_remember_13 C qY qN fa qp bY bN P r hfa h0
  · refine A_aload_n C 0 dX3_remember_9 rfl rfl ?_
    refine A_vV (As := []) (rest := []) C 0 (c_3_loseOldest l D t qY qN fa qp bY bN P hfa) mw_3_loseOldest ml_3_33 im_3_loseOldest sl_3_loseOldest (rmok rfl rfl) (cut0 _) rfl (ci := 3) rfl rfl rfl (Nat.le_of_ble_eq_true rfl) dX3_remember_10 (fun w1 hw1 => ?_)
    obtain ⟨fa', hfa', rfl⟩ := hw1
    refine A_perm (ws' := wSt t qY qN fa' (fun j => qp (rot j)) (pI bY 2 9) bN (fun i => P (rot i))) ((cut0 _).symm.trans (List.Perm.append_left (wY t qY qN fa' (pI bY 2 9)) (List.Perm.append_left (wS t qN bN) wPs_rot))) ?_
    exact t_3_remember_13 C qY qN fa' (fun j => qp (rot j)) (pI bY 2 9) bN (fun i => P (rot i)) r hfa' h0
theorem c_3_goBack (l : Launch) (D : va_G) (t : ty4) (qY qN : Nat → Nat) (fa : Nat → Option Nat) (qp : Nat → Nat → Nat) (bY bN : BV) (P : Nat → BV) {r : Int32 × BV × BV} (hfa : Fa fa qp) (h0 : f_3_goBack bY bN P = some r) : MetI l yX3_goBack cX3_goBack 1 (some .boolean) (rmD 1) D t [.ref (qY 99)] (wSt t qY qN fa qp bY bN P) (fun x w => r.1 = x ∧ wSt t qY qN fa qp r.2.1 r.2.2 P = w) := by
  refine MetI_of (by decide +kernel) (Nat.le_of_ble_eq_true rfl) (fun p e s m below meth c C _ => ?_)
  unfold f_3_goBack at h0
  refine At.start (lv2 := [(0, .ref (qY 99))]) rfl ?_
  refine A_aload_n C 0 dX3_goBack_0 rfl rfl ?_
  refine A_get (v := .int (gI bY 2)) C 0 2 inG3 (ci := 3) rfl (by decide) fl_3_22 rfl rfl rfl dX3_goBack_1 ?_
  refine A_if_gt C 9 dX3_goBack_4 (by decide) h0 (fun h0 => ?_) (fun h0 => ?_)
  · obtain ⟨hin, h0⟩ := ck_some h0
    obtain ⟨z, hz, h0⟩ := bind_some h0
    have hlt := inb_lt hin
    refine A_aload_n C 0 dX3_goBack_9 rfl rfl ?_
    refine A_dup C dX3_goBack_10 rfl ?_
    refine A_get (v := .int (gI bY 2)) C 0 2 inG3 (ci := 3) rfl (by decide) fl_3_22 rfl rfl rfl dX3_goBack_11 ?_
    refine A_iconst C (1 : Int32) dX3_goBack_14 (by decide) ?_
    refine A_isub C dX3_goBack_15 ?_
    refine A_put C 0 2 (wSt t qY qN fa qp (pI bY 2 (gI bY 2 - 1)) bN P) tyX3 inG3 tyX3_ok nmX3 (ci := 3) rfl (by decide) fl_3_22 rfl rfl rfl rfl rfl (Nat.le_of_ble_eq_true rfl) rfl dX3_goBack_16 ?_
    refine A_aload_n C 0 dX3_goBack_19 rfl rfl ?_
    refine A_get (v := .ref (qN 99)) C 0 0 inG3 (ci := 3) rfl (by decide) fl_3_12 rfl rfl rfl dX3_goBack_20 ?_
    refine A_aload_n C 0 dX3_goBack_23 rfl rfl ?_
    refine A_get (v := .ref (qY 1)) C 0 1 inG3 (ci := 3) rfl (by decide) fl_3_18 rfl rfl rfl dX3_goBack_24 ?_
    refine A_aload_n C 0 dX3_goBack_27 rfl rfl ?_
    refine A_get (v := .int (gI bY 2 - 1)) C 0 2 inG3 (ci := 3) rfl (by decide) fl_3_22 rfl rfl rfl dX3_goBack_28 ?_
    refine A_aald C 1 2 (qp (gI bY 2 - 1).toNatClampNeg 99) rfl rfl (hfa _ hlt) hin dX3_goBack_31 ?_
    refine A_vV (As := [.ref (qp (gI bY 2 - 1).toNatClampNeg 99)]) (rest := []) C 0 (c_2_become l D t qN (qp (gI bY 2 - 1).toNatClampNeg) bN (P (gI bY 2 - 1).toNatClampNeg) hz) mw_2_become ml_3_29 im_2_become sl_2_become (rmok rfl rfl) (permQ (A' := []) (List.Perm.refl _) (wPs_cut hlt)) rfl (ci := 2) rfl rfl rfl (Nat.le_of_ble_eq_true rfl) dX3_goBack_32 (fun w1 hw1 => ?_)
    subst hw1
    refine A_perm (ws' := wSt t qY qN fa qp (pI bY 2 (gI bY 2 - 1)) z P) (permQ' (A' := []) (List.Perm.refl _) (wPs_cut hlt).symm) ?_
    refine A_iconst C (1 : Int32) dX3_goBack_35 (by decide) ?_
    have h0 := Option.some.inj h0
    subst h0
    exact A_zret C dX3_goBack_36 rfl ⟨rfl, rfl⟩
  · refine A_iconst C (0 : Int32) dX3_goBack_7 (by decide) ?_
    have h0 := Option.some.inj h0
    subst h0
    exact A_zret C dX3_goBack_8 rfl ⟨rfl, rfl⟩
/-- the world of two stories -/
abbrev wSS (t : ty4) (qY qN : Nat → Nat) (fa : Nat → Option Nat) (qp : Nat → Nat → Nat) (qZ qM : Nat → Nat) (fb : Nat → Option Nat) (qo : Nat → Nat → Nat) (Y N : BV) (P : Nat → BV) (Z M : BV) (O : Nat → BV) : va_W := wY t qY qN fa Y ++ (wS t qN N ++ (wY t qZ qM fb Z ++ (wS t qM M ++ (wPs t qp P r10 ++ wPs t qo O r10))))
theorem t_3_become_21 (C : CX p s m args meth c cX3_become 3 none RX3 D t) (qY qN : Nat → Nat) (fa : Nat → Option Nat) (qp : Nat → Nat → Nat) (qZ qM : Nat → Nat) (fb : Nat → Option Nat) (qo : Nat → Nat → Nat) (bY bN bZ bM : BV) (O : Nat → BV) (hfa : Fa fa qp) (hfb : Fa fb qo) (r : Nat → BV) : ∀ (k i : Nat) (P : Nat → BV), i + k = 10 → f_3_bl O k i P = some r → At p l e (rmD 1) s m args below meth c D 3 w0 (QV below args s D w0 (fun w => wSS t qY qN fa qp qZ qM fb qo bY bN r bZ bM O = w) 0 0) 0 0 21 [(0, .ref (qY 99)), (1, .ref (qZ 99)), (2, .int (Int32.ofNat i))] [] (wSS t qY qN fa qp qZ qM fb qo bY bN P bZ bM O) := by
  intro k
  induction k with
  | zero =>
    intro i P hi h0
    obtain rfl : i = 10 := by omega
    have h0 : P = r := Option.some.inj h0
    subst h0
    refine A_iload_n C 2 dX3_become_21 rfl rfl ?_
    refine A_bipush C (10 : Int32) dX3_become_22 (by decide) ?_
    refine A_icmp_ge (a := some ()) (b := none) (r := ()) C 48 dX3_become_24 (by decide) (by decide) (fun _ => ?_) (fun h => by cases h)
    exact A_vret C dX3_become_48 rfl
  | succ k ih =>
    intro i P hi h0
    have hlt : i < 10 := by omega
    have h0 : (f_2_become (P i) (O i)).bind (fun z => f_3_bl O k (i + 1) (va_up P i z)) = some r := h0
    obtain ⟨z, hz, h0⟩ := bind_some h0
    refine A_iload_n C 2 dX3_become_21 rfl rfl ?_
    refine A_bipush C (10 : Int32) dX3_become_22 (by decide) ?_
    refine A_icmp_ge (a := none) (b := some ()) (r := ()) C 48 dX3_become_24 (by decide) (by rw [if_neg (i10 i hlt).2.2.1]) (fun h => by cases h) (fun _ => ?_)
    refine A_aload_n C 0 dX3_become_27 rfl rfl ?_
    refine A_get (v := .ref (qY 1)) C 0 1 inG3 (ci := 3) rfl (by decide) fl_3_18 rfl rfl rfl dX3_become_28 ?_
    refine A_iload_n C 2 dX3_become_31 rfl rfl ?_
    refine A_aald C 1 2 (qp i 99) rfl rfl (by rw [(i10 i hlt).2.1, hfa i hlt]) (i10 i hlt).1 dX3_become_32 ?_
    refine A_aload_n C 1 dX3_become_33 rfl rfl ?_
    refine A_get (v := .ref (qZ 1)) C 6 1 inG3 (ci := 3) rfl (by decide) fl_3_18 rfl rfl rfl dX3_become_34 ?_
    refine A_iload_n C 2 dX3_become_37 rfl rfl ?_
    refine A_aald C 7 2 (qo i 99) rfl rfl (by rw [(i10 i hlt).2.1, hfb i hlt]) (i10 i hlt).1 dX3_become_38 ?_
    refine A_vV (As := [.ref (qo i 99)]) (rest := []) C 0 (c_2_become l D t (qp i) (qo i) (P i) (O i) hz) mw_2_become ml_3_29 im_2_become sl_2_become (rmok rfl rfl) (permQ (F := wY t qY qN fa bY ++ (wS t qN bN ++ (wY t qZ qM fb bZ ++ wS t qM bM))) (wPs_cut hlt) (wPs_cut hlt)) rfl (ci := 2) rfl rfl rfl (Nat.le_of_ble_eq_true rfl) dX3_become_39 (fun w1 hw1 => ?_)
    subst hw1
    refine A_perm (ws' := wSS t qY qN fa qp qZ qM fb qo bY bN (va_up P i z) bZ bM O) (permQ' (wPs_back hlt) (wPs_cut hlt).symm) ?_
    refine A_iinc C 2 (Int32.ofNat (i + 1)) [(2, .int (Int32.ofNat (i + 1))), (0, .ref (qY 99)), (1, .ref (qZ 99))] dX3_become_42 rfl (i10 i hlt).2.2.2 (by decide) rfl ?_
    refine A_goto C 21 dX3_become_45 (by decide) ?_
    exact A_loc [1, 2, 0] rfl (ih (i + 1) _ (by omega) h0)
theorem c_3_become (l : Launch) (D : va_G) (t : ty4) (qY qN : Nat → Nat) (fa : Nat → Option Nat) (qp : Nat → Nat → Nat) (qZ qM : Nat → Nat) (fb : Nat → Option Nat) (qo : Nat → Nat → Nat) (bY bN : BV) (P : Nat → BV) (bZ bM : BV) (O : Nat → BV) {r : BV × BV × (Nat → BV)} (hfa : Fa fa qp) (hfb : Fa fb qo) (h0 : f_3_become bY bN P bZ bM O = some r) : MetV l yX3_become cX3_become 3 none (rmD 1) D t [.ref (qY 99), .ref (qZ 99)] (wSS t qY qN fa qp qZ qM fb qo bY bN P bZ bM O) (fun w => wSS t qY qN fa qp qZ qM fb qo r.1 r.2.1 r.2.2 bZ bM O = w) := by
  refine MetV_of (by decide +kernel) (Nat.le_of_ble_eq_true rfl) (fun p e s m below meth c C _ => ?_)
  unfold f_3_become at h0
  obtain ⟨z, hz, h0⟩ := bind_some h0
  obtain ⟨P', hP', h0⟩ := bind_some h0
  have h0 := Option.some.inj h0
  subst h0
  refine At.start (lv2 := [(0, .ref (qY 99)), (1, .ref (qZ 99))]) rfl ?_
  refine A_aload_n C 0 dX3_become_0 rfl rfl ?_
  refine A_get (v := .ref (qN 99)) C 0 0 inG3 (ci := 3) rfl (by decide) fl_3_12 rfl rfl rfl dX3_become_1 ?_
  refine A_aload_n C 1 dX3_become_4 rfl rfl ?_
  refine A_get (v := .ref (qM 99)) C 6 0 inG3 (ci := 3) rfl (by decide) fl_3_12 rfl rfl rfl dX3_become_5 ?_
  refine A_vV (As := [.ref (qM 99)]) (rest := []) C 0 (c_2_become l D t qN qM bN bM hz) mw_2_become ml_3_29 im_2_become sl_2_become (rmok rfl rfl) (cutB (wY t qY qN fa bY) (wS t qN bN) (wY t qZ qM fb bZ) (wS t qM bM) (wPs t qp P r10 ++ wPs t qo O r10)) rfl (ci := 2) rfl rfl rfl (Nat.le_of_ble_eq_true rfl) dX3_become_8 (fun w1 hw1 => ?_)
  subst hw1
  refine A_perm (ws' := wSS t qY qN fa qp qZ qM fb qo bY z P bZ bM O) (cutB (wY t qY qN fa bY) (wS t qN z) (wY t qZ qM fb bZ) (wS t qM bM) (wPs t qp P r10 ++ wPs t qo O r10)).symm ?_
  refine A_aload_n C 0 dX3_become_11 rfl rfl ?_
  refine A_aload_n C 1 dX3_become_12 rfl rfl ?_
  refine A_get (v := .int (gI bZ 2)) C 6 2 inG3 (ci := 3) rfl (by decide) fl_3_22 rfl rfl rfl dX3_become_13 ?_
  refine A_put C 0 2 (wSS t qY qN fa qp qZ qM fb qo (pI bY 2 (gI bZ 2)) z P bZ bM O) tyX3 inG3 tyX3_ok nmX3 (ci := 3) rfl (by decide) fl_3_22 rfl rfl rfl rfl rfl (Nat.le_of_ble_eq_true rfl) rfl dX3_become_16 ?_
  refine A_iconst C (Int32.ofNat 0) dX3_become_19 (by decide) ?_
  refine A_istore_n C [(2, .int (Int32.ofNat 0)), (0, .ref (qY 99)), (1, .ref (qZ 99))] dX3_become_20 rfl (by decide) rfl ?_
  exact A_loc [1, 2, 0] rfl (t_3_become_21 C qY qN fa qp qZ qM fb qo (pI bY 2 (gI bZ 2)) z bZ bM O hfa hfb P' 10 0 P (by decide) hP')
theorem c_1_handOver (l : Launch) (D : va_G) (t : ty4) (qR qT qG qL : Nat → Nat) (bR : BV) : MetR l yX1_handOver cX1_handOver 3 (some (.object "SpringPawn$Land")) (rmD 0) D t [.ref (qR 99), .ref (qL 99)] (wRd t qR qT qG bR) (fun x w => qG 99 = x ∧ wRd t qR qT qL bR = w) := by
  refine MetR_of (by decide +kernel) (Nat.le_of_ble_eq_true rfl) (fun p e s m below meth c C _ => ?_)
  refine At.start (lv2 := [(0, .ref (qR 99)), (1, .ref (qL 99))]) rfl ?_
  refine A_aload_n C 0 dX1_handOver_0 rfl rfl ?_
  refine A_get (v := .ref (qG 99)) C 0 1 inG1 (ci := 1) rfl (by decide) fl_1_21 rfl rfl rfl dX1_handOver_1 ?_
  refine A_astore_n C [(2, .ref (qG 99)), (0, .ref (qR 99)), (1, .ref (qL 99))] dX1_handOver_4 rfl (by decide) rfl ?_
  refine A_aload_n C 1 dX1_handOver_5 rfl rfl ?_
  refine A_aload_n C 2 dX1_handOver_6 rfl rfl ?_
  refine A_put C 0 1 (wRd t qR qT qL bR) tyX1 inG1 tyX1_ok nmX1 (ci := 1) rfl (by decide) fl_1_21 rfl rfl rfl rfl rfl (Nat.le_of_ble_eq_true rfl) rfl dX1_handOver_7 ?_
  refine A_aload_n C 0 dX1_handOver_10 rfl rfl ?_
  exact A_aret C rfl dX1_handOver_11 ⟨rfl, rfl⟩
end STM
