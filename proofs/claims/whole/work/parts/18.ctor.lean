-- constructors
theorem oi_im : Cond.instanceMethod objectInit ∈ GW := gw_t1 15 rfl rfl
theorem oi_cw : Cond.code objectInit ⟨#[0xb1]⟩ 1 none ∈ GW := gw_t1 16 rfl rfl
theorem ac_int : Cond.arrayClass .int ∈ GW := gw_t1 52 rfl rfl
theorem ac_bool : Cond.arrayClass .boolean ∈ GW := gw_t1 219 rfl rfl
theorem ins_0 : Cond.instantiable RX0 11 ∈ GW := gw_t1 54 rfl rfl
theorem ini_0 : Cond.initialized RX0 ∈ GW := gw_t1 4 rfl rfl
theorem ins_1 : Cond.instantiable RX1 6 ∈ GW := gw_t1 18 rfl rfl
theorem ini_1 : Cond.initialized RX1 ∈ GW := gw_t1 2 rfl rfl
theorem ins_2 : Cond.instantiable RX2 6 ∈ GW := gw_t1 142 rfl rfl
theorem ini_2 : Cond.initialized RX2 ∈ GW := gw_t1 6 rfl rfl
theorem ins_3 : Cond.instantiable RX3 3 ∈ GW := gw_t1 136 rfl rfl
theorem ini_3 : Cond.initialized RX3 ∈ GW := gw_t1 5 rfl rfl
theorem ins_4 : Cond.instantiable RX4 6 ∈ GW := gw_t1 24 rfl rfl
theorem ini_4 : Cond.initialized RX4 ∈ GW := gw_t1 3 rfl rfl
theorem ins_5 : Cond.instantiable RX5 10 ∈ GW := gw_t1 10 rfl rfl
theorem ini_5 : Cond.initialized RX5 ∈ GW := gw_t1 1 rfl rfl
theorem ins_6 : Cond.instantiable RX6 17 ∈ GW := gw_t3 157 rfl rfl
theorem ini_6 : Cond.initialized RX6 ∈ GW := gw_t1 7 rfl rfl
def rmC (d c s : Nat) : Room := { frames := d, cells := c, slots := s, locals := 34 * d }
theorem rmokC {d d' c s C S mL kc ks : Nat} (h : Nat.ble (d' + 1) d = true) (h2 : Nat.ble mL 15 = true) (h3 : Nat.ble (kc + c) C = true) (h4 : Nat.ble (ks + s) S = true) : RmOk (rmC d' c s) (rmC d C S) mL kc ks := by
  have h := Nat.le_of_ble_eq_true h
  have h2 := Nat.le_of_ble_eq_true h2
  refine ⟨h, ?_, Nat.le_of_ble_eq_true h3, Nat.le_of_ble_eq_true h4⟩
  show 8 + (mL + 11) + 34 * d' ≤ 34 * d
  omega
section CT
variable {p : Program} {l : Launch} {e : Env} {R : Room} {s : State} {m : MethodId} {args : Array Value} {below : List Frame} {meth : Method} {c : Code} {D : va_G} {nL : Nat} {w0 : va_W} {Q : State → Prop} {cc : ByteArray} {ret : Option FieldType} {own : String} {t : ty4} {pc : Nat} {lv : List (Nat × Value)} {st : List Value} {ws : va_W} {kc ks : Nat}
theorem A_objInit (C : CX p s m args meth c cc nL ret own D t) {idx ad : Nat} {rest : List Value} (hl : Cond.methodLink own idx objectInit ∈ GW) (hf : 1 ≤ R.frames) (hlo : (rest.map fun v => v.category).sum + 12 ≤ R.locals) (d : decode cc pc = .ok (.invokespecial idx, 3)) (k : At p l e R s m args below meth c D nL w0 Q kc ks (pc + 3) lv rest ws) : At p l e R s m args below meth c D nL w0 Q kc ks pc lv (.ref ad :: rest) ws := fun H locs ls hP hD hS hlv => W.objInit C.1.1 C.1.2.1 C.1.2.2.2.1 (C.1.2.2.2.2 _ hl) (C.1.2.2.2.2 _ oi_im) (C.1.2.2.2.2 _ oi_cw) (g := F0 m pc ls (.ref ad :: rest)) rfl (by show ls.size = _; rw [C.1.2.2.1, hlv.1]) (a := ad) (rest := rest) rfl d hf (by show 2 * 0 + _ + 12 ≤ _; omega) (k H locs ls hP hD hS hlv)
theorem A_newI (C : CX p s m args meth c cc nL ret own D t) {n : Int32} (N : Nat) (hn : ¬ n < 0) (hN : n.toNatClampNeg = N) (hb : N * 4 ≤ 536870912) (hkc : kc + 1 ≤ R.cells) (hks : ks + N ≤ R.slots) (d : decode cc pc = .ok (.newarray .int, 2)) (k : ∀ q : Nat, At p l e R s m args below meth c D nL w0 Q (kc + 1) (ks + N) (pc + 2) lv (.ref q :: st) (ws ++ [(q, .inl (t.1, N, .inl (fun _ => 0)))])) : At p l e R s m args below meth c D nL w0 Q kc ks pc lv (.int n :: st) ws := by
  intro H locs ls hP hD hS hlv
  refine va_newa (atype := .int) (ty := .int) (a0 := (N, .inl (fun _ => 0))) C.1.1 C.1.2.1 (C.1.2.2.2.2 _ ac_int) rfl C.2.2.2.1 hP hD hS (fun q h => Or.inr h) (fun _ => rfl) hn hN hb hkc hks d (fun q cA H1 hK hP hD hS => ?_)
  have e1 := (hK.2 4 _ rfl).2
  have e2 := (C.2.2.2.1.2 0 _ rfl).2
  obtain rfl : cA = t.1 := Option.some.inj (e1.symm.trans e2)
  exact k q H1 locs ls hP hD hS hlv
theorem A_newZ (C : CX p s m args meth c cc nL ret own D t) {n : Int32} (N : Nat) (hn : ¬ n < 0) (hN : n.toNatClampNeg = N) (hb : N * 1 ≤ 536870912) (hkc : kc + 1 ≤ R.cells) (hks : ks + N ≤ R.slots) (d : decode cc pc = .ok (.newarray .boolean, 2)) (k : ∀ q : Nat, At p l e R s m args below meth c D nL w0 Q (kc + 1) (ks + N) (pc + 2) lv (.ref q :: st) (ws ++ [(q, .inl (t.2.1, N, .inl (fun _ => 0)))])) : At p l e R s m args below meth c D nL w0 Q kc ks pc lv (.int n :: st) ws := by
  intro H locs ls hP hD hS hlv
  refine va_newa (atype := .boolean) (ty := .boolean) (a0 := (N, .inl (fun _ => 0))) C.1.1 C.1.2.1 (C.1.2.2.2.2 _ ac_bool) rfl C.2.2.2.1 hP hD hS (fun q h => Or.inr h) (fun _ => rfl) hn hN hb hkc hks d (fun q cA H1 hK hP hD hS => ?_)
  have e1 := (hK.2 4 _ rfl).2
  have e2 := (C.2.2.2.1.2 1 _ rfl).2
  obtain rfl : cA = t.2.1 := Option.some.inj (e1.symm.trans e2)
  exact k q H1 locs ls hP hD hS hlv
theorem ra_same {s : State} {C : String} {a b : ClassId} (h : va_RA s a (.object C)) (h2 : va_RA s b (.object C)) : a = b := by
  obtain ⟨_, _, _, _, _, e1⟩ := h
  obtain ⟨_, _, _, _, _, e2⟩ := h2
  exact Option.some.inj (e1.symm.trans e2)
theorem A_newQ2 (C : CX p s m args meth c cc nL ret own D t) {n : Int32} {index : Nat} (N : Nat) (hn : ¬ n < 0) (hN : n.toNatClampNeg = N) (hb : N * 4 ≤ 536870912) (hw : Cond.classLink own index RX2 ∈ GW) (hkc : kc + 1 ≤ R.cells) (hks : ks + N ≤ R.slots) (d : decode cc pc = .ok (.anewarray index, 3)) (k : ∀ q : Nat, At p l e R s m args below meth c D nL w0 Q (kc + 1) (ks + N) (pc + 3) lv (.ref q :: st) (ws ++ [(q, .inl (t.2.2.1, N, .inr (.inr (.inr (.inr (fun _ => none))))))])) : At p l e R s m args below meth c D nL w0 Q kc ks pc lv (.int n :: st) ws := by
  intro H locs ls hP hD hS hlv
  refine va_newq (C := RX2) C.1.1 C.1.2.1 C.1.2.2.2.1 (C.1.2.2.2.2 _ hw) C.2.2.2.2.2.1 C.2.2.2.1 hP hD hS (fun q h => Or.inr h) hn hN hb hkc hks d (fun q cA H1 hK hP hD hS => ?_)
  have e1 := (hK.2 4 _ rfl).2
  have e2 := (C.2.2.2.1.2 2 _ rfl).2
  obtain rfl : cA = t.2.2.1 := ra_same e1 e2
  exact k q H1 locs ls hP hD hS hlv
theorem A_newQ3 (C : CX p s m args meth c cc nL ret own D t) {n : Int32} {index : Nat} (N : Nat) (hn : ¬ n < 0) (hN : n.toNatClampNeg = N) (hb : N * 4 ≤ 536870912) (hw : Cond.classLink own index RX3 ∈ GW) (hkc : kc + 1 ≤ R.cells) (hks : ks + N ≤ R.slots) (d : decode cc pc = .ok (.anewarray index, 3)) (k : ∀ q : Nat, At p l e R s m args below meth c D nL w0 Q (kc + 1) (ks + N) (pc + 3) lv (.ref q :: st) (ws ++ [(q, .inl (t.2.2.2, N, .inr (.inr (.inr (.inr (fun _ => none))))))])) : At p l e R s m args below meth c D nL w0 Q kc ks pc lv (.int n :: st) ws := by
  intro H locs ls hP hD hS hlv
  refine va_newq (C := RX3) C.1.1 C.1.2.1 C.1.2.2.2.1 (C.1.2.2.2.2 _ hw) C.2.2.2.2.2.2 C.2.2.2.1 hP hD hS (fun q h => Or.inr h) hn hN hb hkc hks d (fun q cA H1 hK hP hD hS => ?_)
  have e1 := (hK.2 4 _ rfl).2
  have e2 := (C.2.2.2.1.2 3 _ rfl).2
  obtain rfl : cA = t.2.2.2 := ra_same e1 e2
  exact k q H1 locs ls hP hD hS hlv
theorem A_new (C : CX p s m args meth c cc nL ret own D t) {Cn : String} {Tn : u_T} {N ci index : Nat} (ty : Nat → FieldType) (fs : List Value) (hin : ∀ w ∈ u_ws Cn Tn N, w ∈ GW) (hty : ∀ k, k < N → parseFieldDescriptor (Tn k).2.2.1 = some (ty k)) (hcl : Cond.classLink own index Cn ∈ GW) (hi : Cond.instantiable Cn N ∈ GW) (hini : Cond.initialized Cn ∈ GW) (hc : classes[ci]? = some (Cn, Tn, N)) (hfs : ∀ j, j < N → defaultValue (ty j) = vp_V fs j) (hkc : kc + 1 ≤ R.cells) (hks : ks + N ≤ R.slots) (d : decode cc pc = .ok (.new index, 3)) (k : ∀ q : Nat, At p l e R s m args below meth c D nL w0 Q (kc + 1) (ks + N) (pc + 3) lv (.ref q :: st) (ws ++ [(q, .inr (ci, fs))])) : At p l e R s m args below meth c D nL w0 Q kc ks pc lv st ws := fun H locs ls hP hD hS hlv => va_new (Ts := GW) C.1.1 C.1.2.1 C.1.2.2.2.2 hin ty hty C.1.2.2.2.1 (C.1.2.2.2.2 _ hcl) (C.1.2.2.2.2 _ hi) (C.1.2.2.2.2 _ hini) C.2.2.2.1 hP hD hS (fun q h => Or.inr h) hc hfs hkc hks d (fun q H1 hP hD hS => k q H1 locs ls hP hD hS hlv)
theorem A_putF (C : CX p s m args meth c cc nL ret own D t) {ref Cn : String} {T : u_T} {N ci index ad : Nat} {fs : List Value} {v : Value} (q0 k : Nat) (ws' : va_W) (ty0 : Nat → FieldType) (hin : ∀ w ∈ u_ws Cn T N, w ∈ GW) (hty : ∀ k, k < N → parseFieldDescriptor (T k).2.2.1 = some (ty0 k)) (hnm : ∀ a, a < N → ∀ b, b < N → a ≠ b → (T a).2.1 ≠ (T b).2.1) (hc : classes[ci]? = some (Cn, T, N)) (hk : k < N) (hw : Cond.fieldLink own index ref (T k).2.1 (T k).2.2.1 ∈ GW) (hs : (T k).1 = ref) (hfin : (T k).2.2.2 = true) (hmi : meth.name = "<init>") (hdecl : (T k).1 = own) (hn : narrow (ty0 k) v = v) (hfit : fits (ty0 k) v = true) (he : ws[q0]? = some (ad, .inr (ci, fs))) (hl : k < fs.length) (hws : ws.set q0 (ad, .inr (ci, fs.set k v)) = ws') (d : decode cc pc = .ok (.putfield index, 3)) (kk : At p l e R s m args below meth c D nL w0 Q kc ks (pc + 3) lv st ws') : At p l e R s m args below meth c D nL w0 Q kc ks pc lv (v :: .ref ad :: st) ws := fun H locs ls hP hD hS hlv => va_putF C.1.1 C.1.2.1 C.1.2.2.2.2 hin ty0 hty hnm C.1.2.2.2.1 C.2.2.2.1 hP hD hS q0 he hc k hk (C.1.2.2.2.2 _ hw) (fun x hx => by rw [← hs]; exact hx) hfin hmi hdecl (hty k hk) hn hfit hl d (fun H1 locs1 hP1 hD1 hS1 => kk H1 locs1 ls (by rw [← hws]; exact hP1) (by rw [← hws]; exact hD1) hS1 hlv)
end CT
def zz : BV := (fun _ => 0, fun _ _ => 0, 0)
def z0 : BV := pI (pI (pI zz 8 2) 9 3) 10 9
def z1 : BV := pI zz 2 (-9)
theorem df_0 : ∀ j, j < 11 → defaultValue (tyX0 j) = vp_V [.int 0, .int 0, .null, .null, .int 0, .null, .null, .null, .int 0, .int 0, .int 0] j := fun j hj => by rcases (show j = 0 ∨ j = 1 ∨ j = 2 ∨ j = 3 ∨ j = 4 ∨ j = 5 ∨ j = 6 ∨ j = 7 ∨ j = 8 ∨ j = 9 ∨ j = 10 by omega) with rfl | rfl | rfl | rfl | rfl | rfl | rfl | rfl | rfl | rfl | rfl <;> rfl
theorem df_1 : ∀ j, j < 6 → defaultValue (tyX1 j) = vp_V [.null, .null, .int 0, .int 0, .int 0, .int 0] j := fun j hj => by rcases (show j = 0 ∨ j = 1 ∨ j = 2 ∨ j = 3 ∨ j = 4 ∨ j = 5 by omega) with rfl | rfl | rfl | rfl | rfl | rfl <;> rfl
theorem df_2 : ∀ j, j < 6 → defaultValue (tyX2 j) = vp_V [.null, .null, .null, .int 0, .int 0, .int 0] j := fun j hj => by rcases (show j = 0 ∨ j = 1 ∨ j = 2 ∨ j = 3 ∨ j = 4 ∨ j = 5 by omega) with rfl | rfl | rfl | rfl | rfl | rfl <;> rfl
theorem df_3 : ∀ j, j < 3 → defaultValue (tyX3 j) = vp_V [.null, .null, .int 0] j := fun j hj => by rcases (show j = 0 ∨ j = 1 ∨ j = 2 by omega) with rfl | rfl | rfl <;> rfl
theorem df_4 : ∀ j, j < 6 → defaultValue (tyX4 j) = vp_V [.null, .int 0, .int 0, .int 0, .int 0, .int 0] j := fun j hj => by rcases (show j = 0 ∨ j = 1 ∨ j = 2 ∨ j = 3 ∨ j = 4 ∨ j = 5 by omega) with rfl | rfl | rfl | rfl | rfl | rfl <;> rfl
theorem df_5 : ∀ j, j < 10 → defaultValue (tyX5 j) = vp_V [.null, .null, .null, .null, .null, .null, .null, .null, .int 0, .long 0] j := fun j hj => by rcases (show j = 0 ∨ j = 1 ∨ j = 2 ∨ j = 3 ∨ j = 4 ∨ j = 5 ∨ j = 6 ∨ j = 7 ∨ j = 8 ∨ j = 9 by omega) with rfl | rfl | rfl | rfl | rfl | rfl | rfl | rfl | rfl | rfl <;> rfl
theorem df_6 : ∀ j, j < 17 → defaultValue (tyX6 j) = vp_V [.null, .int 0, .int 0, .int 0, .int 0, .int 0, .null, .null, .null, .null, .int 0, .null, .int 0, .null, .null, .long 0, .null] j := fun j hj => by rcases (show j = 0 ∨ j = 1 ∨ j = 2 ∨ j = 3 ∨ j = 4 ∨ j = 5 ∨ j = 6 ∨ j = 7 ∨ j = 8 ∨ j = 9 ∨ j = 10 ∨ j = 11 ∨ j = 12 ∨ j = 13 ∨ j = 14 ∨ j = 15 ∨ j = 16 by omega) with rfl | rfl | rfl | rfl | rfl | rfl | rfl | rfl | rfl | rfl | rfl | rfl | rfl | rfl | rfl | rfl | rfl <;> rfl
theorem c_0_init (l : Launch) (D : va_G) (t : ty4) (o : Nat) : MetV l yX0_init cX0_init 1 none (rmC 1 5 72) D t [.ref o] [(o, .inr (0, [.int 0, .int 0, .null, .null, .int 0, .null, .null, .null, .int 0, .int 0, .int 0]))] (fun w => ∃ q : Nat → Nat, q 99 = o ∧ wL t q z0 = w) := by
  refine MetV_of (by decide +kernel) (Nat.le_of_ble_eq_true rfl) (fun p e s m below meth c C hinit => ?_)
  refine At.start (lv2 := [(0, .ref o)]) rfl ?_
  refine A_aload_n C 0 dX0_init_0 rfl rfl ?_
  refine A_objInit C ml_0_3 (Nat.le_of_ble_eq_true rfl) (Nat.le_of_ble_eq_true rfl) dX0_init_1 ?_
  refine A_aload_n C 0 dX0_init_4 rfl rfl ?_
  refine A_iconst C (0 : Int32) dX0_init_5 (by decide) ?_
  refine A_put C 0 0 [(o, .inr (0, [.int (0 : Int32), .int 0, .null, .null, .int 0, .null, .null, .null, .int 0, .int 0, .int 0]))] tyX0 inG0 tyX0_ok nmX0 (ci := 0) rfl (by decide) fl_0_9 rfl rfl rfl rfl rfl (Nat.le_of_ble_eq_true rfl) rfl dX0_init_6 ?_
  refine A_aload_n C 0 dX0_init_9 rfl rfl ?_
  refine A_iconst C (0 : Int32) dX0_init_10 (by decide) ?_
  refine A_put C 0 1 [(o, .inr (0, [.int (0 : Int32), .int (0 : Int32), .null, .null, .int 0, .null, .null, .null, .int 0, .int 0, .int 0]))] tyX0 inG0 tyX0_ok nmX0 (ci := 0) rfl (by decide) fl_0_15 rfl rfl rfl rfl rfl (Nat.le_of_ble_eq_true rfl) rfl dX0_init_11 ?_
  refine A_aload_n C 0 dX0_init_14 rfl rfl ?_
  refine A_bipush C (30 : Int32) dX0_init_15 (by decide) ?_
  refine A_newI C 30 (by decide) (by decide) (by decide) (Nat.le_of_ble_eq_true rfl) (Nat.le_of_ble_eq_true rfl) dX0_init_17 (fun a0 => ?_)
  refine A_putF C 0 2 [(o, .inr (0, [.int (0 : Int32), .int (0 : Int32), .ref a0, .null, .int 0, .null, .null, .null, .int 0, .int 0, .int 0])), (a0, .inl (t.1, 30, .inl (fun _ => 0)))] tyX0 inG0 tyX0_ok nmX0 (ci := 0) rfl (by decide) fl_0_18 rfl rfl (hinit rfl) rfl rfl rfl rfl (Nat.le_of_ble_eq_true rfl) rfl dX0_init_19 ?_
  refine A_aload_n C 0 dX0_init_22 rfl rfl ?_
  refine A_bipush C (30 : Int32) dX0_init_23 (by decide) ?_
  refine A_newI C 30 (by decide) (by decide) (by decide) (Nat.le_of_ble_eq_true rfl) (Nat.le_of_ble_eq_true rfl) dX0_init_25 (fun a1 => ?_)
  refine A_putF C 0 3 [(o, .inr (0, [.int (0 : Int32), .int (0 : Int32), .ref a0, .ref a1, .int 0, .null, .null, .null, .int 0, .int 0, .int 0])), (a0, .inl (t.1, 30, .inl (fun _ => 0))), (a1, .inl (t.1, 30, .inl (fun _ => 0)))] tyX0 inG0 tyX0_ok nmX0 (ci := 0) rfl (by decide) fl_0_22 rfl rfl (hinit rfl) rfl rfl rfl rfl (Nat.le_of_ble_eq_true rfl) rfl dX0_init_27 ?_
  refine A_aload_n C 0 dX0_init_30 rfl rfl ?_
  refine A_iconst C (0 : Int32) dX0_init_31 (by decide) ?_
  refine A_put C 0 4 [(o, .inr (0, [.int (0 : Int32), .int (0 : Int32), .ref a0, .ref a1, .int (0 : Int32), .null, .null, .null, .int 0, .int 0, .int 0])), (a0, .inl (t.1, 30, .inl (fun _ => 0))), (a1, .inl (t.1, 30, .inl (fun _ => 0)))] tyX0 inG0 tyX0_ok nmX0 (ci := 0) rfl (by decide) fl_0_25 rfl rfl rfl rfl rfl (Nat.le_of_ble_eq_true rfl) rfl dX0_init_32 ?_
  refine A_aload_n C 0 dX0_init_35 rfl rfl ?_
  refine A_iconst C (4 : Int32) dX0_init_36 (by decide) ?_
  refine A_newI C 4 (by decide) (by decide) (by decide) (Nat.le_of_ble_eq_true rfl) (Nat.le_of_ble_eq_true rfl) dX0_init_37 (fun a2 => ?_)
  refine A_putF C 0 5 [(o, .inr (0, [.int (0 : Int32), .int (0 : Int32), .ref a0, .ref a1, .int (0 : Int32), .ref a2, .null, .null, .int 0, .int 0, .int 0])), (a0, .inl (t.1, 30, .inl (fun _ => 0))), (a1, .inl (t.1, 30, .inl (fun _ => 0))), (a2, .inl (t.1, 4, .inl (fun _ => 0)))] tyX0 inG0 tyX0_ok nmX0 (ci := 0) rfl (by decide) fl_0_28 rfl rfl (hinit rfl) rfl rfl rfl rfl (Nat.le_of_ble_eq_true rfl) rfl dX0_init_39 ?_
  refine A_aload_n C 0 dX0_init_42 rfl rfl ?_
  refine A_iconst C (4 : Int32) dX0_init_43 (by decide) ?_
  refine A_newI C 4 (by decide) (by decide) (by decide) (Nat.le_of_ble_eq_true rfl) (Nat.le_of_ble_eq_true rfl) dX0_init_44 (fun a3 => ?_)
  refine A_putF C 0 6 [(o, .inr (0, [.int (0 : Int32), .int (0 : Int32), .ref a0, .ref a1, .int (0 : Int32), .ref a2, .ref a3, .null, .int 0, .int 0, .int 0])), (a0, .inl (t.1, 30, .inl (fun _ => 0))), (a1, .inl (t.1, 30, .inl (fun _ => 0))), (a2, .inl (t.1, 4, .inl (fun _ => 0))), (a3, .inl (t.1, 4, .inl (fun _ => 0)))] tyX0 inG0 tyX0_ok nmX0 (ci := 0) rfl (by decide) fl_0_31 rfl rfl (hinit rfl) rfl rfl rfl rfl (Nat.le_of_ble_eq_true rfl) rfl dX0_init_46 ?_
  refine A_aload_n C 0 dX0_init_49 rfl rfl ?_
  refine A_iconst C (4 : Int32) dX0_init_50 (by decide) ?_
  refine A_newI C 4 (by decide) (by decide) (by decide) (Nat.le_of_ble_eq_true rfl) (Nat.le_of_ble_eq_true rfl) dX0_init_51 (fun a4 => ?_)
  refine A_putF C 0 7 [(o, .inr (0, [.int (0 : Int32), .int (0 : Int32), .ref a0, .ref a1, .int (0 : Int32), .ref a2, .ref a3, .ref a4, .int 0, .int 0, .int 0])), (a0, .inl (t.1, 30, .inl (fun _ => 0))), (a1, .inl (t.1, 30, .inl (fun _ => 0))), (a2, .inl (t.1, 4, .inl (fun _ => 0))), (a3, .inl (t.1, 4, .inl (fun _ => 0))), (a4, .inl (t.1, 4, .inl (fun _ => 0)))] tyX0 inG0 tyX0_ok nmX0 (ci := 0) rfl (by decide) fl_0_34 rfl rfl (hinit rfl) rfl rfl rfl rfl (Nat.le_of_ble_eq_true rfl) rfl dX0_init_53 ?_
  refine A_aload_n C 0 dX0_init_56 rfl rfl ?_
  refine A_iconst C (2 : Int32) dX0_init_57 (by decide) ?_
  refine A_put C 0 8 [(o, .inr (0, [.int (0 : Int32), .int (0 : Int32), .ref a0, .ref a1, .int (0 : Int32), .ref a2, .ref a3, .ref a4, .int (2 : Int32), .int 0, .int 0])), (a0, .inl (t.1, 30, .inl (fun _ => 0))), (a1, .inl (t.1, 30, .inl (fun _ => 0))), (a2, .inl (t.1, 4, .inl (fun _ => 0))), (a3, .inl (t.1, 4, .inl (fun _ => 0))), (a4, .inl (t.1, 4, .inl (fun _ => 0)))] tyX0 inG0 tyX0_ok nmX0 (ci := 0) rfl (by decide) fl_0_37 rfl rfl rfl rfl rfl (Nat.le_of_ble_eq_true rfl) rfl dX0_init_58 ?_
  refine A_aload_n C 0 dX0_init_61 rfl rfl ?_
  refine A_iconst C (3 : Int32) dX0_init_62 (by decide) ?_
  refine A_put C 0 9 [(o, .inr (0, [.int (0 : Int32), .int (0 : Int32), .ref a0, .ref a1, .int (0 : Int32), .ref a2, .ref a3, .ref a4, .int (2 : Int32), .int (3 : Int32), .int 0])), (a0, .inl (t.1, 30, .inl (fun _ => 0))), (a1, .inl (t.1, 30, .inl (fun _ => 0))), (a2, .inl (t.1, 4, .inl (fun _ => 0))), (a3, .inl (t.1, 4, .inl (fun _ => 0))), (a4, .inl (t.1, 4, .inl (fun _ => 0)))] tyX0 inG0 tyX0_ok nmX0 (ci := 0) rfl (by decide) fl_0_40 rfl rfl rfl rfl rfl (Nat.le_of_ble_eq_true rfl) rfl dX0_init_63 ?_
  refine A_aload_n C 0 dX0_init_66 rfl rfl ?_
  refine A_bipush C (9 : Int32) dX0_init_67 (by decide) ?_
  refine A_put C 0 10 [(o, .inr (0, [.int (0 : Int32), .int (0 : Int32), .ref a0, .ref a1, .int (0 : Int32), .ref a2, .ref a3, .ref a4, .int (2 : Int32), .int (3 : Int32), .int (9 : Int32)])), (a0, .inl (t.1, 30, .inl (fun _ => 0))), (a1, .inl (t.1, 30, .inl (fun _ => 0))), (a2, .inl (t.1, 4, .inl (fun _ => 0))), (a3, .inl (t.1, 4, .inl (fun _ => 0))), (a4, .inl (t.1, 4, .inl (fun _ => 0)))] tyX0 inG0 tyX0_ok nmX0 (ci := 0) rfl (by decide) fl_0_43 rfl rfl rfl rfl rfl (Nat.le_of_ble_eq_true rfl) rfl dX0_init_69 ?_
  exact A_vret C dX0_init_72 ⟨(fun k => if k = 99 then o else if k = 2 then a0 else if k = 3 then a1 else if k = 5 then a2 else if k = 6 then a3 else if k = 7 then a4 else 0), rfl, rfl⟩
theorem c_4_init (l : Launch) (D : va_G) (t : ty4) (o : Nat) : MetV l yX4_init cX4_init 1 none (rmC 1 1 150) D t [.ref o] [(o, .inr (4, [.null, .int 0, .int 0, .int 0, .int 0, .int 0]))] (fun w => ∃ q : Nat → Nat, q 99 = o ∧ wTx t q zz = w) := by
  refine MetV_of (by decide +kernel) (Nat.le_of_ble_eq_true rfl) (fun p e s m below meth c C hinit => ?_)
  refine At.start (lv2 := [(0, .ref o)]) rfl ?_
  refine A_aload_n C 0 dX4_init_0 rfl rfl ?_
  refine A_objInit C ml_4_3 (Nat.le_of_ble_eq_true rfl) (Nat.le_of_ble_eq_true rfl) dX4_init_1 ?_
  refine A_aload_n C 0 dX4_init_4 rfl rfl ?_
  refine A_sipush C (150 : Int32) dX4_init_5 (by decide) ?_
  refine A_newI C 150 (by decide) (by decide) (by decide) (Nat.le_of_ble_eq_true rfl) (Nat.le_of_ble_eq_true rfl) dX4_init_8 (fun a0 => ?_)
  refine A_putF C 0 0 [(o, .inr (4, [.ref a0, .int 0, .int 0, .int 0, .int 0, .int 0])), (a0, .inl (t.1, 150, .inl (fun _ => 0)))] tyX4 inG4 tyX4_ok nmX4 (ci := 4) rfl (by decide) fl_4_9 rfl rfl (hinit rfl) rfl rfl rfl rfl (Nat.le_of_ble_eq_true rfl) rfl dX4_init_10 ?_
  refine A_aload_n C 0 dX4_init_13 rfl rfl ?_
  refine A_iconst C (0 : Int32) dX4_init_14 (by decide) ?_
  refine A_put C 0 1 [(o, .inr (4, [.ref a0, .int (0 : Int32), .int 0, .int 0, .int 0, .int 0])), (a0, .inl (t.1, 150, .inl (fun _ => 0)))] tyX4 inG4 tyX4_ok nmX4 (ci := 4) rfl (by decide) fl_4_15 rfl rfl rfl rfl rfl (Nat.le_of_ble_eq_true rfl) rfl dX4_init_15 ?_
  refine A_aload_n C 0 dX4_init_18 rfl rfl ?_
  refine A_iconst C (0 : Int32) dX4_init_19 (by decide) ?_
  refine A_put C 0 2 [(o, .inr (4, [.ref a0, .int (0 : Int32), .int (0 : Int32), .int 0, .int 0, .int 0])), (a0, .inl (t.1, 150, .inl (fun _ => 0)))] tyX4 inG4 tyX4_ok nmX4 (ci := 4) rfl (by decide) fl_4_19 rfl rfl rfl rfl rfl (Nat.le_of_ble_eq_true rfl) rfl dX4_init_20 ?_
  refine A_aload_n C 0 dX4_init_23 rfl rfl ?_
  refine A_iconst C (0 : Int32) dX4_init_24 (by decide) ?_
  refine A_put C 0 3 [(o, .inr (4, [.ref a0, .int (0 : Int32), .int (0 : Int32), .int (0 : Int32), .int 0, .int 0])), (a0, .inl (t.1, 150, .inl (fun _ => 0)))] tyX4 inG4 tyX4_ok nmX4 (ci := 4) rfl (by decide) fl_4_22 rfl rfl rfl rfl rfl (Nat.le_of_ble_eq_true rfl) rfl dX4_init_25 ?_
  refine A_aload_n C 0 dX4_init_28 rfl rfl ?_
  refine A_iconst C (0 : Int32) dX4_init_29 (by decide) ?_
  refine A_put C 0 4 [(o, .inr (4, [.ref a0, .int (0 : Int32), .int (0 : Int32), .int (0 : Int32), .int (0 : Int32), .int 0])), (a0, .inl (t.1, 150, .inl (fun _ => 0)))] tyX4 inG4 tyX4_ok nmX4 (ci := 4) rfl (by decide) fl_4_25 rfl rfl rfl rfl rfl (Nat.le_of_ble_eq_true rfl) rfl dX4_init_30 ?_
  refine A_aload_n C 0 dX4_init_33 rfl rfl ?_
  refine A_iconst C (0 : Int32) dX4_init_34 (by decide) ?_
  refine A_put C 0 5 [(o, .inr (4, [.ref a0, .int (0 : Int32), .int (0 : Int32), .int (0 : Int32), .int (0 : Int32), .int (0 : Int32)])), (a0, .inl (t.1, 150, .inl (fun _ => 0)))] tyX4 inG4 tyX4_ok nmX4 (ci := 4) rfl (by decide) fl_4_28 rfl rfl rfl rfl rfl (Nat.le_of_ble_eq_true rfl) rfl dX4_init_35 ?_
  exact A_vret C dX4_init_38 ⟨(fun k => if k = 99 then o else if k = 0 then a0 else 0), rfl, rfl⟩
theorem c_2_init (l : Launch) (D : va_G) (t : ty4) (o : Nat) : MetV l yX2_init cX2_init 1 none (rmC 1 3 12) D t [.ref o] [(o, .inr (2, [.null, .null, .null, .int 0, .int 0, .int 0]))] (fun w => ∃ q : Nat → Nat, q 99 = o ∧ wS t q zz = w) := by
  refine MetV_of (by decide +kernel) (Nat.le_of_ble_eq_true rfl) (fun p e s m below meth c C hinit => ?_)
  refine At.start (lv2 := [(0, .ref o)]) rfl ?_
  refine A_aload_n C 0 dX2_init_0 rfl rfl ?_
  refine A_objInit C ml_2_3 (Nat.le_of_ble_eq_true rfl) (Nat.le_of_ble_eq_true rfl) dX2_init_1 ?_
  refine A_aload_n C 0 dX2_init_4 rfl rfl ?_
  refine A_iconst C (4 : Int32) dX2_init_5 (by decide) ?_
  refine A_newI C 4 (by decide) (by decide) (by decide) (Nat.le_of_ble_eq_true rfl) (Nat.le_of_ble_eq_true rfl) dX2_init_6 (fun a0 => ?_)
  refine A_putF C 0 0 [(o, .inr (2, [.ref a0, .null, .null, .int 0, .int 0, .int 0])), (a0, .inl (t.1, 4, .inl (fun _ => 0)))] tyX2 inG2 tyX2_ok nmX2 (ci := 2) rfl (by decide) fl_2_9 rfl rfl (hinit rfl) rfl rfl rfl rfl (Nat.le_of_ble_eq_true rfl) rfl dX2_init_8 ?_
  refine A_aload_n C 0 dX2_init_11 rfl rfl ?_
  refine A_iconst C (4 : Int32) dX2_init_12 (by decide) ?_
  refine A_newI C 4 (by decide) (by decide) (by decide) (Nat.le_of_ble_eq_true rfl) (Nat.le_of_ble_eq_true rfl) dX2_init_13 (fun a1 => ?_)
  refine A_putF C 0 1 [(o, .inr (2, [.ref a0, .ref a1, .null, .int 0, .int 0, .int 0])), (a0, .inl (t.1, 4, .inl (fun _ => 0))), (a1, .inl (t.1, 4, .inl (fun _ => 0)))] tyX2 inG2 tyX2_ok nmX2 (ci := 2) rfl (by decide) fl_2_15 rfl rfl (hinit rfl) rfl rfl rfl rfl (Nat.le_of_ble_eq_true rfl) rfl dX2_init_15 ?_
  refine A_aload_n C 0 dX2_init_18 rfl rfl ?_
  refine A_iconst C (4 : Int32) dX2_init_19 (by decide) ?_
  refine A_newI C 4 (by decide) (by decide) (by decide) (Nat.le_of_ble_eq_true rfl) (Nat.le_of_ble_eq_true rfl) dX2_init_20 (fun a2 => ?_)
  refine A_putF C 0 2 [(o, .inr (2, [.ref a0, .ref a1, .ref a2, .int 0, .int 0, .int 0])), (a0, .inl (t.1, 4, .inl (fun _ => 0))), (a1, .inl (t.1, 4, .inl (fun _ => 0))), (a2, .inl (t.1, 4, .inl (fun _ => 0)))] tyX2 inG2 tyX2_ok nmX2 (ci := 2) rfl (by decide) fl_2_18 rfl rfl (hinit rfl) rfl rfl rfl rfl (Nat.le_of_ble_eq_true rfl) rfl dX2_init_22 ?_
  refine A_aload_n C 0 dX2_init_25 rfl rfl ?_
  refine A_iconst C (0 : Int32) dX2_init_26 (by decide) ?_
  refine A_put C 0 3 [(o, .inr (2, [.ref a0, .ref a1, .ref a2, .int (0 : Int32), .int 0, .int 0])), (a0, .inl (t.1, 4, .inl (fun _ => 0))), (a1, .inl (t.1, 4, .inl (fun _ => 0))), (a2, .inl (t.1, 4, .inl (fun _ => 0)))] tyX2 inG2 tyX2_ok nmX2 (ci := 2) rfl (by decide) fl_2_21 rfl rfl rfl rfl rfl (Nat.le_of_ble_eq_true rfl) rfl dX2_init_27 ?_
  refine A_aload_n C 0 dX2_init_30 rfl rfl ?_
  refine A_iconst C (0 : Int32) dX2_init_31 (by decide) ?_
  refine A_put C 0 4 [(o, .inr (2, [.ref a0, .ref a1, .ref a2, .int (0 : Int32), .int (0 : Int32), .int 0])), (a0, .inl (t.1, 4, .inl (fun _ => 0))), (a1, .inl (t.1, 4, .inl (fun _ => 0))), (a2, .inl (t.1, 4, .inl (fun _ => 0)))] tyX2 inG2 tyX2_ok nmX2 (ci := 2) rfl (by decide) fl_2_25 rfl rfl rfl rfl rfl (Nat.le_of_ble_eq_true rfl) rfl dX2_init_32 ?_
  refine A_aload_n C 0 dX2_init_35 rfl rfl ?_
  refine A_iconst C (0 : Int32) dX2_init_36 (by decide) ?_
  refine A_put C 0 5 [(o, .inr (2, [.ref a0, .ref a1, .ref a2, .int (0 : Int32), .int (0 : Int32), .int (0 : Int32)])), (a0, .inl (t.1, 4, .inl (fun _ => 0))), (a1, .inl (t.1, 4, .inl (fun _ => 0))), (a2, .inl (t.1, 4, .inl (fun _ => 0)))] tyX2 inG2 tyX2_ok nmX2 (ci := 2) rfl (by decide) fl_2_28 rfl rfl rfl rfl rfl (Nat.le_of_ble_eq_true rfl) rfl dX2_init_37 ?_
  exact A_vret C dX2_init_40 ⟨(fun k => if k = 99 then o else if k = 0 then a0 else if k = 1 then a1 else if k = 2 then a2 else 0), rfl, rfl⟩
theorem c_6_init (l : Launch) (D : va_G) (t : ty4) (o : Nat) (zplain ztakes : BV) (hplain : f_6_plain zz = some zplain) (htakes : f_6_takes zplain = some ztakes) : MetV l yX6_init cX6_init 1 none (rmC 1 9 834) D t [.ref o] [(o, .inr (6, [.null, .int 0, .int 0, .int 0, .int 0, .int 0, .null, .null, .null, .null, .int 0, .null, .int 0, .null, .null, .long 0, .null]))] (fun w => ∃ q : Nat → Nat, q 99 = o ∧ wM t q ztakes = w) := by
  refine MetV_of (by decide +kernel) (Nat.le_of_ble_eq_true rfl) (fun p e s m below meth c C hinit => ?_)
  refine At.start (lv2 := [(0, .ref o)]) rfl ?_
  refine A_aload_n C 0 dX6_init_0 rfl rfl ?_
  refine A_objInit C ml_6_1 (Nat.le_of_ble_eq_true rfl) (Nat.le_of_ble_eq_true rfl) dX6_init_1 ?_
  refine A_aload_n C 0 dX6_init_4 rfl rfl ?_
  refine A_sipush C (150 : Int32) dX6_init_5 (by decide) ?_
  refine A_newI C 150 (by decide) (by decide) (by decide) (Nat.le_of_ble_eq_true rfl) (Nat.le_of_ble_eq_true rfl) dX6_init_8 (fun a0 => ?_)
  refine A_putF C 0 0 [(o, .inr (6, [.ref a0, .int 0, .int 0, .int 0, .int 0, .int 0, .null, .null, .null, .null, .int 0, .null, .int 0, .null, .null, .long 0, .null])), (a0, .inl (t.1, 150, .inl (fun _ => 0)))] tyX6 inG6 tyX6_ok nmX6 (ci := 6) rfl (by decide) fl_6_7 rfl rfl (hinit rfl) rfl rfl rfl rfl (Nat.le_of_ble_eq_true rfl) rfl dX6_init_10 ?_
  refine A_aload_n C 0 dX6_init_13 rfl rfl ?_
  refine A_bipush C (79 : Int32) dX6_init_14 (by decide) ?_
  refine A_newI C 79 (by decide) (by decide) (by decide) (Nat.le_of_ble_eq_true rfl) (Nat.le_of_ble_eq_true rfl) dX6_init_16 (fun a1 => ?_)
  refine A_putF C 0 6 [(o, .inr (6, [.ref a0, .int 0, .int 0, .int 0, .int 0, .int 0, .ref a1, .null, .null, .null, .int 0, .null, .int 0, .null, .null, .long 0, .null])), (a0, .inl (t.1, 150, .inl (fun _ => 0))), (a1, .inl (t.1, 79, .inl (fun _ => 0)))] tyX6 inG6 tyX6_ok nmX6 (ci := 6) rfl (by decide) fl_6_13 rfl rfl (hinit rfl) rfl rfl rfl rfl (Nat.le_of_ble_eq_true rfl) rfl dX6_init_18 ?_
  refine A_aload_n C 0 dX6_init_21 rfl rfl ?_
  refine A_bipush C (79 : Int32) dX6_init_22 (by decide) ?_
  refine A_newI C 79 (by decide) (by decide) (by decide) (Nat.le_of_ble_eq_true rfl) (Nat.le_of_ble_eq_true rfl) dX6_init_24 (fun a2 => ?_)
  refine A_putF C 0 7 [(o, .inr (6, [.ref a0, .int 0, .int 0, .int 0, .int 0, .int 0, .ref a1, .ref a2, .null, .null, .int 0, .null, .int 0, .null, .null, .long 0, .null])), (a0, .inl (t.1, 150, .inl (fun _ => 0))), (a1, .inl (t.1, 79, .inl (fun _ => 0))), (a2, .inl (t.1, 79, .inl (fun _ => 0)))] tyX6 inG6 tyX6_ok nmX6 (ci := 6) rfl (by decide) fl_6_16 rfl rfl (hinit rfl) rfl rfl rfl rfl (Nat.le_of_ble_eq_true rfl) rfl dX6_init_26 ?_
  refine A_aload_n C 0 dX6_init_29 rfl rfl ?_
  refine A_bipush C (15 : Int32) dX6_init_30 (by decide) ?_
  refine A_newI C 15 (by decide) (by decide) (by decide) (Nat.le_of_ble_eq_true rfl) (Nat.le_of_ble_eq_true rfl) dX6_init_32 (fun a3 => ?_)
  refine A_putF C 0 8 [(o, .inr (6, [.ref a0, .int 0, .int 0, .int 0, .int 0, .int 0, .ref a1, .ref a2, .ref a3, .null, .int 0, .null, .int 0, .null, .null, .long 0, .null])), (a0, .inl (t.1, 150, .inl (fun _ => 0))), (a1, .inl (t.1, 79, .inl (fun _ => 0))), (a2, .inl (t.1, 79, .inl (fun _ => 0))), (a3, .inl (t.1, 15, .inl (fun _ => 0)))] tyX6 inG6 tyX6_ok nmX6 (ci := 6) rfl (by decide) fl_6_19 rfl rfl (hinit rfl) rfl rfl rfl rfl (Nat.le_of_ble_eq_true rfl) rfl dX6_init_34 ?_
  refine A_aload_n C 0 dX6_init_37 rfl rfl ?_
  refine A_sipush C (150 : Int32) dX6_init_38 (by decide) ?_
  refine A_newI C 150 (by decide) (by decide) (by decide) (Nat.le_of_ble_eq_true rfl) (Nat.le_of_ble_eq_true rfl) dX6_init_41 (fun a4 => ?_)
  refine A_putF C 0 9 [(o, .inr (6, [.ref a0, .int 0, .int 0, .int 0, .int 0, .int 0, .ref a1, .ref a2, .ref a3, .ref a4, .int 0, .null, .int 0, .null, .null, .long 0, .null])), (a0, .inl (t.1, 150, .inl (fun _ => 0))), (a1, .inl (t.1, 79, .inl (fun _ => 0))), (a2, .inl (t.1, 79, .inl (fun _ => 0))), (a3, .inl (t.1, 15, .inl (fun _ => 0))), (a4, .inl (t.1, 150, .inl (fun _ => 0)))] tyX6 inG6 tyX6_ok nmX6 (ci := 6) rfl (by decide) fl_6_22 rfl rfl (hinit rfl) rfl rfl rfl rfl (Nat.le_of_ble_eq_true rfl) rfl dX6_init_43 ?_
  refine A_aload_n C 0 dX6_init_46 rfl rfl ?_
  refine A_bipush C (15 : Int32) dX6_init_47 (by decide) ?_
  refine A_newI C 15 (by decide) (by decide) (by decide) (Nat.le_of_ble_eq_true rfl) (Nat.le_of_ble_eq_true rfl) dX6_init_49 (fun a5 => ?_)
  refine A_putF C 0 11 [(o, .inr (6, [.ref a0, .int 0, .int 0, .int 0, .int 0, .int 0, .ref a1, .ref a2, .ref a3, .ref a4, .int 0, .ref a5, .int 0, .null, .null, .long 0, .null])), (a0, .inl (t.1, 150, .inl (fun _ => 0))), (a1, .inl (t.1, 79, .inl (fun _ => 0))), (a2, .inl (t.1, 79, .inl (fun _ => 0))), (a3, .inl (t.1, 15, .inl (fun _ => 0))), (a4, .inl (t.1, 150, .inl (fun _ => 0))), (a5, .inl (t.1, 15, .inl (fun _ => 0)))] tyX6 inG6 tyX6_ok nmX6 (ci := 6) rfl (by decide) fl_6_25 rfl rfl (hinit rfl) rfl rfl rfl rfl (Nat.le_of_ble_eq_true rfl) rfl dX6_init_51 ?_
  refine A_aload_n C 0 dX6_init_54 rfl rfl ?_
  refine A_bipush C (6 : Int32) dX6_init_55 (by decide) ?_
  refine A_newI C 6 (by decide) (by decide) (by decide) (Nat.le_of_ble_eq_true rfl) (Nat.le_of_ble_eq_true rfl) dX6_init_57 (fun a6 => ?_)
  refine A_putF C 0 13 [(o, .inr (6, [.ref a0, .int 0, .int 0, .int 0, .int 0, .int 0, .ref a1, .ref a2, .ref a3, .ref a4, .int 0, .ref a5, .int 0, .ref a6, .null, .long 0, .null])), (a0, .inl (t.1, 150, .inl (fun _ => 0))), (a1, .inl (t.1, 79, .inl (fun _ => 0))), (a2, .inl (t.1, 79, .inl (fun _ => 0))), (a3, .inl (t.1, 15, .inl (fun _ => 0))), (a4, .inl (t.1, 150, .inl (fun _ => 0))), (a5, .inl (t.1, 15, .inl (fun _ => 0))), (a6, .inl (t.1, 6, .inl (fun _ => 0)))] tyX6 inG6 tyX6_ok nmX6 (ci := 6) rfl (by decide) fl_6_28 rfl rfl (hinit rfl) rfl rfl rfl rfl (Nat.le_of_ble_eq_true rfl) rfl dX6_init_59 ?_
  refine A_aload_n C 0 dX6_init_62 rfl rfl ?_
  refine A_bipush C (6 : Int32) dX6_init_63 (by decide) ?_
  refine A_newI C 6 (by decide) (by decide) (by decide) (Nat.le_of_ble_eq_true rfl) (Nat.le_of_ble_eq_true rfl) dX6_init_65 (fun a7 => ?_)
  refine A_putF C 0 14 [(o, .inr (6, [.ref a0, .int 0, .int 0, .int 0, .int 0, .int 0, .ref a1, .ref a2, .ref a3, .ref a4, .int 0, .ref a5, .int 0, .ref a6, .ref a7, .long 0, .null])), (a0, .inl (t.1, 150, .inl (fun _ => 0))), (a1, .inl (t.1, 79, .inl (fun _ => 0))), (a2, .inl (t.1, 79, .inl (fun _ => 0))), (a3, .inl (t.1, 15, .inl (fun _ => 0))), (a4, .inl (t.1, 150, .inl (fun _ => 0))), (a5, .inl (t.1, 15, .inl (fun _ => 0))), (a6, .inl (t.1, 6, .inl (fun _ => 0))), (a7, .inl (t.1, 6, .inl (fun _ => 0)))] tyX6 inG6 tyX6_ok nmX6 (ci := 6) rfl (by decide) fl_6_31 rfl rfl (hinit rfl) rfl rfl rfl rfl (Nat.le_of_ble_eq_true rfl) rfl dX6_init_67 ?_
  refine A_aload_n C 0 dX6_init_70 rfl rfl ?_
  refine A_sipush C (334 : Int32) dX6_init_71 (by decide) ?_
  refine A_newI C 334 (by decide) (by decide) (by decide) (Nat.le_of_ble_eq_true rfl) (Nat.le_of_ble_eq_true rfl) dX6_init_74 (fun a8 => ?_)
  refine A_putF C 0 16 [(o, .inr (6, [.ref a0, .int 0, .int 0, .int 0, .int 0, .int 0, .ref a1, .ref a2, .ref a3, .ref a4, .int 0, .ref a5, .int 0, .ref a6, .ref a7, .long 0, .ref a8])), (a0, .inl (t.1, 150, .inl (fun _ => 0))), (a1, .inl (t.1, 79, .inl (fun _ => 0))), (a2, .inl (t.1, 79, .inl (fun _ => 0))), (a3, .inl (t.1, 15, .inl (fun _ => 0))), (a4, .inl (t.1, 150, .inl (fun _ => 0))), (a5, .inl (t.1, 15, .inl (fun _ => 0))), (a6, .inl (t.1, 6, .inl (fun _ => 0))), (a7, .inl (t.1, 6, .inl (fun _ => 0))), (a8, .inl (t.1, 334, .inl (fun _ => 0)))] tyX6 inG6 tyX6_ok nmX6 (ci := 6) rfl (by decide) fl_6_34 rfl rfl (hinit rfl) rfl rfl rfl rfl (Nat.le_of_ble_eq_true rfl) rfl dX6_init_76 ?_
  refine A_aload_n C 0 dX6_init_79 rfl rfl ?_
  refine A_weq (wM t (fun k => if k = 99 then o else if k = 0 then a0 else if k = 6 then a1 else if k = 7 then a2 else if k = 8 then a3 else if k = 9 then a4 else if k = 11 then a5 else if k = 13 then a6 else if k = 14 then a7 else if k = 16 then a8 else 0) zz) rfl ?_
  refine A_vV (As := []) (rest := []) C 0 (c_6_plain l D t (fun k => if k = 99 then o else if k = 0 then a0 else if k = 6 then a1 else if k = 7 then a2 else if k = 8 then a3 else if k = 9 then a4 else if k = 11 then a5 else if k = 13 then a6 else if k = 14 then a7 else if k = 16 then a8 else 0) zz hplain) mw_6_plain ml_6_37 im_6_plain sl_6_plain (rmokC (c := 0) (s := 0) rfl rfl rfl rfl) (cut0 _) rfl (ci := 6) rfl rfl rfl (Nat.le_of_ble_eq_true rfl) dX6_init_80 (fun w1 hw1 => ?_)
  subst hw1
  refine A_perm (ws' := wM t (fun k => if k = 99 then o else if k = 0 then a0 else if k = 6 then a1 else if k = 7 then a2 else if k = 8 then a3 else if k = 9 then a4 else if k = 11 then a5 else if k = 13 then a6 else if k = 14 then a7 else if k = 16 then a8 else 0) zplain) ((cut0 _).symm) ?_
  refine A_aload_n C 0 dX6_init_83 rfl rfl ?_
  refine A_vV (As := []) (rest := []) C 0 (c_6_takes l D t (fun k => if k = 99 then o else if k = 0 then a0 else if k = 6 then a1 else if k = 7 then a2 else if k = 8 then a3 else if k = 9 then a4 else if k = 11 then a5 else if k = 13 then a6 else if k = 14 then a7 else if k = 16 then a8 else 0) zplain htakes) mw_6_takes ml_6_40 im_6_takes sl_6_takes (rmokC (c := 0) (s := 0) rfl rfl rfl rfl) (cut0 _) rfl (ci := 6) rfl rfl rfl (Nat.le_of_ble_eq_true rfl) dX6_init_84 (fun w1 hw1 => ?_)
  subst hw1
  refine A_perm (ws' := wM t (fun k => if k = 99 then o else if k = 0 then a0 else if k = 6 then a1 else if k = 7 then a2 else if k = 8 then a3 else if k = 9 then a4 else if k = 11 then a5 else if k = 13 then a6 else if k = 14 then a7 else if k = 16 then a8 else 0) ztakes) ((cut0 _).symm) ?_
  exact A_vret C dX6_init_87 ⟨(fun k => if k = 99 then o else if k = 0 then a0 else if k = 6 then a1 else if k = 7 then a2 else if k = 8 then a3 else if k = 9 then a4 else if k = 11 then a5 else if k = 13 then a6 else if k = 14 then a7 else if k = 16 then a8 else 0), rfl, rfl⟩
