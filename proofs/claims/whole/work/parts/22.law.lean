-- the law, over any relation that the calls keep; its head is the skeleton's
/-! THE CLAIM OUT OF ONE WALK OF THE LAW'S BODY. Your part is whole_start (and what it stands on); all else here is the same for every law, but numbers. -/
def R_law : String := "SpringPawnLaw"
def lw_P (b : Addr) (xs : List Int32) (args : Array Value) (s : State) : Prop := args = #[.ref b] ∧ s.IntsAt b xs ∧ xs.length ≤ 256 ∧ (Jvm.Cond.and given_1 narrow_1).before args s = true
def lw_Q (_ : Array Value) (s : State) (o : Outcome) (t : State) : Prop := o = .returned (some (.int 1)) ∧ Framed s o t [] 600000 7302250
def lw_Z (below : List Frame) (a : Array Value) (s : State) : State → Prop := fun t => ∃ o, t.status = .running ∧ Ended t below o ∧ lw_Q a s o t
/-- the law's own end, with 1 on the stack, nothing written that was there before, its room as the claim has it -/
theorem lw_ret {p : Program} {l : Launch} {e : Env} {s : State} {m : MethodId} {below : List Frame} {meth : Method} {c : Code} {b : Nat} (hx : p.tables.exec = Jvm.exec) (hb : c.code = code) (hr : meth.sig.returnType = ret) (hlocks : meth.locks = false) {pc : Nat} {H : Heap} {ls : Array Slot} (hdg : decode code pc = .ok (.ireturn, 1)) : W p l e room_1 s m #[Value.ref b] below meth c H [] 600000 7302250 (lw_Z below #[Value.ref b] s) (F0 m pc ls [.int 1]) := by
  intro T hT X
  obtain ⟨fs, hret, hrun, hended, hW, hframe⟩ := X.leave (v := some (.int 1)) (hlocks := hlocks) (fun h => by rw [hr] at h; cases h)
  have hmeth' : T.vm.method? m = some meth := X.method'
  refine ⟨T.setFrames fs, ?_, .returned (some (.int 1)), hrun, hended, rfl, ⟨_, rfl⟩, hW, hframe⟩
  jvm_step X.here [X.here.top, hx, hb, hdg, hmeth', hr, ret, narrow_b1]
  (try refine ⟨rfl, ?_⟩); (try refine ⟨rfl, ?_⟩)
  first | (intro acts; rw [hret _ acts rfl rfl rfl]) | rw [hret _ _ rfl rfl rfl]
  exact Steps.refl _
/-- what holds at the law's entry: the machine, the code, the tables' words (any of lw_tbl by 'hts w (by decide +kernel)'), the script of L ints xs at the cell b, what the Statement gives of the start (any of its parts by flat_of_before) -/
def lw_At (p : Program) (s : State) (m : MethodId) (meth : Method) (c : Code) (b L : Nat) (xs : Nat → Int32) : Prop :=
  p.tables.exec = Jvm.exec ∧ c.code = code ∧ meth.sig.returnType = ret ∧ c.maxLocals = 4 ∧ s.vm.findClass R_law = some m.cls ∧ (∀ w ∈ lw_tbl, w.before #[Value.ref b] s = true) ∧ va_X b L xs s s.heap ∧ b < s.heap.size ∧ meth.locks = false ∧ (Jvm.Cond.and given_1 narrow_1).before #[Value.ref b] s = true
def Sim0 {α : Type} (Rel : XS → BV → Nat → Prop) (F : XS → Option (α × XS)) (G : BV → Option (α × BV)) : Prop := ∀ (σ : XS) (b : BV) (n : Nat), n < 64 → Rel σ b n → ∃ r σ2 b2, F σ = some (r, σ2) ∧ G b = some (r, b2) ∧ Rel σ2 b2 (n + 1)
def Sim1 {α : Type} (Rel : XS → BV → Nat → Prop) (F : XS → Int32 → Option (α × XS)) (G : BV → Int32 → Option (α × BV)) : Prop := ∀ (σ : XS) (b : BV) (n : Nat) (x1 : Int32), n < 64 → Rel σ b n → ∃ r σ2 b2, F σ x1 = some (r, σ2) ∧ G b x1 = some (r, b2) ∧ Rel σ2 b2 (n + 1)
def Sim2 {α : Type} (Rel : XS → BV → Nat → Prop) (F : XS → Int32 → Int32 → Option (α × XS)) (G : BV → Int32 → Int32 → Option (α × BV)) : Prop := ∀ (σ : XS) (b : BV) (n : Nat) (x1 : Int32) (x2 : Int32), n < 64 → Rel σ b n → ∃ r σ2 b2, F σ x1 x2 = some (r, σ2) ∧ G b x1 x2 = some (r, b2) ∧ Rel σ2 b2 (n + 1)
def Sim3 {α : Type} (Rel : XS → BV → Nat → Prop) (F : XS → Int32 → Int32 → Int32 → Option (α × XS)) (G : BV → Int32 → Int32 → Int32 → Option (α × BV)) : Prop := ∀ (σ : XS) (b : BV) (n : Nat) (x1 : Int32) (x2 : Int32) (x3 : Int32), n < 64 → Rel σ b n → ∃ r σ2 b2, F σ x1 x2 x3 = some (r, σ2) ∧ G b x1 x2 x3 = some (r, b2) ∧ Rel σ2 b2 (n + 1)
def AllSim (Rel : XS → BV → Nat → Prop) : Prop := Sim1 Rel F_type G_type ∧ Sim0 Rel F_clear G_clear ∧ Sim0 Rel F_valley G_valley ∧ Sim2 Rel F_day G_day ∧ Sim2 Rel F_crop G_crop ∧ Sim2 Rel F_loan G_loan ∧ Sim2 Rel F_pawns G_pawns ∧ Sim1 Rel F_redeems G_redeems ∧ Sim0 Rel F_year G_year ∧ Sim0 Rel F_undo G_undo ∧ Sim1 Rel F_now G_now ∧ Sim2 Rel F_lends G_lends ∧ Sim2 Rel F_cheap G_cheap ∧ Sim1 Rel F_freeing G_freeing ∧ Sim1 Rel F_rich G_rich ∧ Sim0 Rel F_bare G_bare ∧ Sim2 Rel F_tells G_tells ∧ Sim0 Rel F_forget G_forget ∧ Sim1 Rel F_fits G_fits ∧ Sim3 Rel F_odds G_odds ∧ Sim2 Rel F_mark G_mark ∧ Sim1 Rel F_keep G_keep ∧ Sim1 Rel F_back G_back ∧ Sim1 Rel F_count G_count ∧ Sim0 Rel F_trace G_trace
section LW
variable {p : Program} {l : Launch} {e : Env} {s : State} {m : MethodId} {args : Array Value} {below : List Frame} {meth : Method} {c : Code} {D : va_G} {t : ty4} {Q : State → Prop} {R : Room} {nL : Nat} {cc : ByteArray} {rt : Option FieldType} {own : String} {pc : Nat} {lv : List (Nat × Value)} {st : List Value} {ws : va_W} {kc ks : Nat}
theorem A_sld (C : CX p s m args meth c cc nL rt own D t) {b L : Nat} {xs : Nat → Int32} (hX : va_X b L xs s s.heap) (hbl : b < s.heap.size) {i : Int32} (j : Nat) (hi : i = nI j) (hj : j < L) (hL : L ≤ 256) (d : decode cc pc = .ok (.iaload, 1)) (k : At p l e R s m args below meth c D nL [] Q kc ks (pc + 1) lv (.int (xs j) :: st) ws) : At p l e R s m args below meth c D nL [] Q kc ks pc lv (.int i :: .ref b :: st) ws := by
  intro H locs ls hP hD hS hl
  have hbA : ¬ va_A [] s.heap.size b := by
    rintro (⟨k, e, h⟩ | h)
    · simp at h
    · omega
  refine va_sld C.1.1 C.1.2.1 hX hbl hbA hS (by rw [hi]; exact vp_in_nI hj (by omega)) d ?_
  rw [hi, nI_clamp (by omega)]
  exact k H locs ls hP hD hS hl
theorem A_slen (C : CX p s m args meth c cc nL rt own D t) {b L : Nat} {xs : Nat → Int32} (hX : va_X b L xs s s.heap) (hbl : b < s.heap.size) (d : decode cc pc = .ok (.arraylength, 1)) (k : At p l e R s m args below meth c D nL [] Q kc ks (pc + 1) lv (.int (nI L) :: st) ws) : At p l e R s m args below meth c D nL [] Q kc ks pc lv (.ref b :: st) ws := by
  intro H locs ls hP hD hS hl
  have hbA : ¬ va_A [] s.heap.size b := by
    rintro (⟨k, e, h⟩ | h)
    · simp at h
    · omega
  exact va_slen C.1.1 C.1.2.1 hX hbl hbA hS d (k H locs ls hP hD hS hl)
theorem rm1 {d mL : Nat} (h : Nat.ble d 9 = true) (h2 : Nat.ble mL 15 = true) : RmOk (rmD d) room_1 mL 172 1856 := by
  have h := Nat.le_of_ble_eq_true h
  have h2 := Nat.le_of_ble_eq_true h2
  refine ⟨?_, ?_, Nat.le_of_ble_eq_true rfl, Nat.le_of_ble_eq_true rfl⟩
  · show d + 1 ≤ 10
    omega
  · show 8 + (mL + 11) + 34 * d ≤ 344
    omega
theorem law_type {b L n ox om : Nat} {xs : Nat → Int32} {σ : XS} {bm : BV} {wx wm : va_W} {Rel : XS → BV → Nat → Prop} (C : CX p s m #[Value.ref b] meth c cL_law 4 ret RL D t) (hS : va_X b L xs s s.heap) (hbl : b < s.heap.size) (hL : L ≤ 256) (hn : 4 * n + 4 ≤ L) (hx : HasX t σ ox wx) (hm : HasM t bm om wm) (hr : Rel σ bm n) (hs : Sim1 Rel F_type G_type) (K : ∀ (σ2 : XS) (b2 : BV) (w1 w2 : va_W), Rel σ2 b2 (n + 1) → HasX t σ2 ox w1 → HasM t b2 om w2 → At p l e room_1 s m #[Value.ref b] below meth c D 4 [] (lw_Z below #[Value.ref b] s) 172 1856 754 [(0, .ref b), (1, .ref ox), (2, .ref om), (3, .int (nI (4 * n)))] [] (w1 ++ w2)) : At p l e room_1 s m #[Value.ref b] below meth c D 4 [] (lw_Z below #[Value.ref b] s) 172 1856 148 [(0, .ref b), (1, .ref ox), (2, .ref om), (3, .int (nI (4 * n)))] [] (wx ++ wm) := by
  obtain ⟨r, σ2, b2, h1, h2, h3⟩ := hs σ bm n (xs (4 * n + 1)) (by omega) hr
  obtain ⟨Φ, hM, hΦ⟩ := C_type l D t σ ox wx (xs (4 * n + 1)) hx h1
  obtain ⟨Ψ, hN, hΨ⟩ := D_type l D t bm om wm (xs (4 * n + 1)) hm h2
  obtain ⟨fx, hfx⟩ := hx.recv
  obtain ⟨fm, hfm⟩ := hm.recv
  refine A_aload_n C 1 dL_law_148 rfl rfl ?_
  refine A_aload_n C 0 dL_law_149 rfl rfl ?_
  refine A_iload_n C 3 dL_law_150 rfl rfl ?_
  refine A_iconst C (1 : Int32) dL_law_151 (by decide) ?_
  refine A_iadd C dL_law_152 ?_
  refine A_sld C hS hbl (4 * n + 1) (nI_add (4 * n) 1) (by omega) hL dL_law_153 ?_
  refine A_vI (As := [.int (xs (4 * n + 1))]) (rest := []) C 0 hM mw_5_type ml_L_13 im_5_type sl_5_type (rm1 rfl rfl) (List.perm_append_comm) hfx (ci := 5) rfl rfl rfl (Nat.le_of_ble_eq_true rfl) dL_law_154 (fun x w1 hw1 => ?_)
  obtain ⟨rfl, hx1⟩ := hΦ x w1 hw1
  refine A_perm (ws' := w1 ++ wm) (List.perm_append_comm) ?_
  refine A_aload_n C 2 dL_law_157 rfl rfl ?_
  refine A_aload_n C 0 dL_law_158 rfl rfl ?_
  refine A_iload_n C 3 dL_law_159 rfl rfl ?_
  refine A_iconst C (1 : Int32) dL_law_160 (by decide) ?_
  refine A_iadd C dL_law_161 ?_
  refine A_sld C hS hbl (4 * n + 1) (nI_add (4 * n) 1) (by omega) hL dL_law_162 ?_
  refine A_vI (As := [.int (xs (4 * n + 1))]) (rest := [.int r]) C 0 hN mw_6_type ml_L_17 im_6_type sl_6_type (rm1 rfl rfl) (List.Perm.refl _) hfm (ci := 6) rfl rfl rfl (Nat.le_of_ble_eq_true rfl) dL_law_163 (fun x w2 hw2 => ?_)
  obtain ⟨rfl, hm1⟩ := hΨ x w2 hw2
  refine A_icmp_eq (a := some ()) (b := none) (r := ()) C 754 dL_law_166 (by decide) (by rw [if_pos rfl]) (fun _ => ?_) (fun h => by cases h)
  exact K σ2 b2 w1 w2 h3 hx1 hm1
theorem law_clear {b L n ox om : Nat} {xs : Nat → Int32} {σ : XS} {bm : BV} {wx wm : va_W} {Rel : XS → BV → Nat → Prop} (C : CX p s m #[Value.ref b] meth c cL_law 4 ret RL D t) (hS : va_X b L xs s s.heap) (hbl : b < s.heap.size) (hL : L ≤ 256) (hn : 4 * n + 4 ≤ L) (hx : HasX t σ ox wx) (hm : HasM t bm om wm) (hr : Rel σ bm n) (hs : Sim0 Rel F_clear G_clear) (K : ∀ (σ2 : XS) (b2 : BV) (w1 w2 : va_W), Rel σ2 b2 (n + 1) → HasX t σ2 ox w1 → HasM t b2 om w2 → At p l e room_1 s m #[Value.ref b] below meth c D 4 [] (lw_Z below #[Value.ref b] s) 172 1856 754 [(0, .ref b), (1, .ref ox), (2, .ref om), (3, .int (nI (4 * n)))] [] (w1 ++ w2)) : At p l e room_1 s m #[Value.ref b] below meth c D 4 [] (lw_Z below #[Value.ref b] s) 172 1856 171 [(0, .ref b), (1, .ref ox), (2, .ref om), (3, .int (nI (4 * n)))] [] (wx ++ wm) := by
  obtain ⟨r, σ2, b2, h1, h2, h3⟩ := hs σ bm n (by omega) hr
  obtain ⟨Φ, hM, hΦ⟩ := C_clear l D t σ ox wx hx h1
  obtain ⟨Ψ, hN, hΨ⟩ := D_clear l D t bm om wm hm h2
  obtain ⟨fx, hfx⟩ := hx.recv
  obtain ⟨fm, hfm⟩ := hm.recv
  refine A_aload_n C 1 dL_law_171 rfl rfl ?_
  refine A_vI (As := []) (rest := []) C 0 hM mw_5_clear ml_L_18 im_5_clear sl_5_clear (rm1 rfl rfl) (List.perm_append_comm) hfx (ci := 5) rfl rfl rfl (Nat.le_of_ble_eq_true rfl) dL_law_172 (fun x w1 hw1 => ?_)
  obtain ⟨rfl, hx1⟩ := hΦ x w1 hw1
  refine A_perm (ws' := w1 ++ wm) (List.perm_append_comm) ?_
  refine A_aload_n C 2 dL_law_175 rfl rfl ?_
  refine A_vI (As := []) (rest := [.int r]) C 0 hN mw_6_clear ml_L_22 im_6_clear sl_6_clear (rm1 rfl rfl) (List.Perm.refl _) hfm (ci := 6) rfl rfl rfl (Nat.le_of_ble_eq_true rfl) dL_law_176 (fun x w2 hw2 => ?_)
  obtain ⟨rfl, hm1⟩ := hΨ x w2 hw2
  refine A_icmp_eq (a := some ()) (b := none) (r := ()) C 754 dL_law_179 (by decide) (by rw [if_pos rfl]) (fun _ => ?_) (fun h => by cases h)
  exact K σ2 b2 w1 w2 h3 hx1 hm1
theorem law_valley {b L n ox om : Nat} {xs : Nat → Int32} {σ : XS} {bm : BV} {wx wm : va_W} {Rel : XS → BV → Nat → Prop} (C : CX p s m #[Value.ref b] meth c cL_law 4 ret RL D t) (hS : va_X b L xs s s.heap) (hbl : b < s.heap.size) (hL : L ≤ 256) (hn : 4 * n + 4 ≤ L) (hx : HasX t σ ox wx) (hm : HasM t bm om wm) (hr : Rel σ bm n) (hs : Sim0 Rel F_valley G_valley) (K : ∀ (σ2 : XS) (b2 : BV) (w1 w2 : va_W), Rel σ2 b2 (n + 1) → HasX t σ2 ox w1 → HasM t b2 om w2 → At p l e room_1 s m #[Value.ref b] below meth c D 4 [] (lw_Z below #[Value.ref b] s) 172 1856 754 [(0, .ref b), (1, .ref ox), (2, .ref om), (3, .int (nI (4 * n)))] [] (w1 ++ w2)) : At p l e room_1 s m #[Value.ref b] below meth c D 4 [] (lw_Z below #[Value.ref b] s) 172 1856 184 [(0, .ref b), (1, .ref ox), (2, .ref om), (3, .int (nI (4 * n)))] [] (wx ++ wm) := by
  obtain ⟨r, σ2, b2, h1, h2, h3⟩ := hs σ bm n (by omega) hr
  obtain ⟨Φ, hM, hΦ⟩ := C_valley l D t σ ox wx hx h1
  obtain ⟨Ψ, hN, hΨ⟩ := D_valley l D t bm om wm hm h2
  obtain ⟨fx, hfx⟩ := hx.recv
  obtain ⟨fm, hfm⟩ := hm.recv
  refine A_aload_n C 1 dL_law_184 rfl rfl ?_
  refine A_vI (As := []) (rest := []) C 0 hM mw_5_valley ml_L_23 im_5_valley sl_5_valley (rm1 rfl rfl) (List.perm_append_comm) hfx (ci := 5) rfl rfl rfl (Nat.le_of_ble_eq_true rfl) dL_law_185 (fun x w1 hw1 => ?_)
  obtain ⟨rfl, hx1⟩ := hΦ x w1 hw1
  refine A_perm (ws' := w1 ++ wm) (List.perm_append_comm) ?_
  refine A_aload_n C 2 dL_law_188 rfl rfl ?_
  refine A_vI (As := []) (rest := [.int r]) C 0 hN mw_6_valley ml_L_26 im_6_valley sl_6_valley (rm1 rfl rfl) (List.Perm.refl _) hfm (ci := 6) rfl rfl rfl (Nat.le_of_ble_eq_true rfl) dL_law_189 (fun x w2 hw2 => ?_)
  obtain ⟨rfl, hm1⟩ := hΨ x w2 hw2
  refine A_icmp_eq (a := some ()) (b := none) (r := ()) C 754 dL_law_192 (by decide) (by rw [if_pos rfl]) (fun _ => ?_) (fun h => by cases h)
  exact K σ2 b2 w1 w2 h3 hx1 hm1
theorem law_day {b L n ox om : Nat} {xs : Nat → Int32} {σ : XS} {bm : BV} {wx wm : va_W} {Rel : XS → BV → Nat → Prop} (C : CX p s m #[Value.ref b] meth c cL_law 4 ret RL D t) (hS : va_X b L xs s s.heap) (hbl : b < s.heap.size) (hL : L ≤ 256) (hn : 4 * n + 4 ≤ L) (hx : HasX t σ ox wx) (hm : HasM t bm om wm) (hr : Rel σ bm n) (hs : Sim2 Rel F_day G_day) (K : ∀ (σ2 : XS) (b2 : BV) (w1 w2 : va_W), Rel σ2 b2 (n + 1) → HasX t σ2 ox w1 → HasM t b2 om w2 → At p l e room_1 s m #[Value.ref b] below meth c D 4 [] (lw_Z below #[Value.ref b] s) 172 1856 754 [(0, .ref b), (1, .ref ox), (2, .ref om), (3, .int (nI (4 * n)))] [] (w1 ++ w2)) : At p l e room_1 s m #[Value.ref b] below meth c D 4 [] (lw_Z below #[Value.ref b] s) 172 1856 197 [(0, .ref b), (1, .ref ox), (2, .ref om), (3, .int (nI (4 * n)))] [] (wx ++ wm) := by
  obtain ⟨r, σ2, b2, h1, h2, h3⟩ := hs σ bm n (xs (4 * n + 1)) (xs (4 * n + 2)) (by omega) hr
  obtain ⟨Φ, hM, hΦ⟩ := C_day l D t σ ox wx (xs (4 * n + 1)) (xs (4 * n + 2)) hx h1
  obtain ⟨Ψ, hN, hΨ⟩ := D_day l D t bm om wm (xs (4 * n + 1)) (xs (4 * n + 2)) hm h2
  obtain ⟨fx, hfx⟩ := hx.recv
  obtain ⟨fm, hfm⟩ := hm.recv
  refine A_aload_n C 1 dL_law_197 rfl rfl ?_
  refine A_aload_n C 0 dL_law_198 rfl rfl ?_
  refine A_iload_n C 3 dL_law_199 rfl rfl ?_
  refine A_iconst C (1 : Int32) dL_law_200 (by decide) ?_
  refine A_iadd C dL_law_201 ?_
  refine A_sld C hS hbl (4 * n + 1) (nI_add (4 * n) 1) (by omega) hL dL_law_202 ?_
  refine A_aload_n C 0 dL_law_203 rfl rfl ?_
  refine A_iload_n C 3 dL_law_204 rfl rfl ?_
  refine A_iconst C (2 : Int32) dL_law_205 (by decide) ?_
  refine A_iadd C dL_law_206 ?_
  refine A_sld C hS hbl (4 * n + 2) (nI_add (4 * n) 2) (by omega) hL dL_law_207 ?_
  refine A_vI (As := [.int (xs (4 * n + 1)), .int (xs (4 * n + 2))]) (rest := []) C 0 hM mw_5_day ml_L_27 im_5_day sl_5_day (rm1 rfl rfl) (List.perm_append_comm) hfx (ci := 5) rfl rfl rfl (Nat.le_of_ble_eq_true rfl) dL_law_208 (fun x w1 hw1 => ?_)
  obtain ⟨rfl, hx1⟩ := hΦ x w1 hw1
  refine A_perm (ws' := w1 ++ wm) (List.perm_append_comm) ?_
  refine A_aload_n C 2 dL_law_211 rfl rfl ?_
  refine A_aload_n C 0 dL_law_212 rfl rfl ?_
  refine A_iload_n C 3 dL_law_213 rfl rfl ?_
  refine A_iconst C (1 : Int32) dL_law_214 (by decide) ?_
  refine A_iadd C dL_law_215 ?_
  refine A_sld C hS hbl (4 * n + 1) (nI_add (4 * n) 1) (by omega) hL dL_law_216 ?_
  refine A_aload_n C 0 dL_law_217 rfl rfl ?_
  refine A_iload_n C 3 dL_law_218 rfl rfl ?_
  refine A_iconst C (2 : Int32) dL_law_219 (by decide) ?_
  refine A_iadd C dL_law_220 ?_
  refine A_sld C hS hbl (4 * n + 2) (nI_add (4 * n) 2) (by omega) hL dL_law_221 ?_
  refine A_vI (As := [.int (xs (4 * n + 1)), .int (xs (4 * n + 2))]) (rest := [.int r]) C 0 hN mw_6_day ml_L_31 im_6_day sl_6_day (rm1 rfl rfl) (List.Perm.refl _) hfm (ci := 6) rfl rfl rfl (Nat.le_of_ble_eq_true rfl) dL_law_222 (fun x w2 hw2 => ?_)
  obtain ⟨rfl, hm1⟩ := hΨ x w2 hw2
  refine A_icmp_eq (a := some ()) (b := none) (r := ()) C 754 dL_law_225 (by decide) (by rw [if_pos rfl]) (fun _ => ?_) (fun h => by cases h)
  exact K σ2 b2 w1 w2 h3 hx1 hm1
theorem law_crop {b L n ox om : Nat} {xs : Nat → Int32} {σ : XS} {bm : BV} {wx wm : va_W} {Rel : XS → BV → Nat → Prop} (C : CX p s m #[Value.ref b] meth c cL_law 4 ret RL D t) (hS : va_X b L xs s s.heap) (hbl : b < s.heap.size) (hL : L ≤ 256) (hn : 4 * n + 4 ≤ L) (hx : HasX t σ ox wx) (hm : HasM t bm om wm) (hr : Rel σ bm n) (hs : Sim2 Rel F_crop G_crop) (K : ∀ (σ2 : XS) (b2 : BV) (w1 w2 : va_W), Rel σ2 b2 (n + 1) → HasX t σ2 ox w1 → HasM t b2 om w2 → At p l e room_1 s m #[Value.ref b] below meth c D 4 [] (lw_Z below #[Value.ref b] s) 172 1856 754 [(0, .ref b), (1, .ref ox), (2, .ref om), (3, .int (nI (4 * n)))] [] (w1 ++ w2)) : At p l e room_1 s m #[Value.ref b] below meth c D 4 [] (lw_Z below #[Value.ref b] s) 172 1856 230 [(0, .ref b), (1, .ref ox), (2, .ref om), (3, .int (nI (4 * n)))] [] (wx ++ wm) := by
  obtain ⟨r, σ2, b2, h1, h2, h3⟩ := hs σ bm n (xs (4 * n + 1)) (xs (4 * n + 2)) (by omega) hr
  obtain ⟨Φ, hM, hΦ⟩ := C_crop l D t σ ox wx (xs (4 * n + 1)) (xs (4 * n + 2)) hx h1
  obtain ⟨Ψ, hN, hΨ⟩ := D_crop l D t bm om wm (xs (4 * n + 1)) (xs (4 * n + 2)) hm h2
  obtain ⟨fx, hfx⟩ := hx.recv
  obtain ⟨fm, hfm⟩ := hm.recv
  refine A_aload_n C 1 dL_law_230 rfl rfl ?_
  refine A_aload_n C 0 dL_law_231 rfl rfl ?_
  refine A_iload_n C 3 dL_law_232 rfl rfl ?_
  refine A_iconst C (1 : Int32) dL_law_233 (by decide) ?_
  refine A_iadd C dL_law_234 ?_
  refine A_sld C hS hbl (4 * n + 1) (nI_add (4 * n) 1) (by omega) hL dL_law_235 ?_
  refine A_aload_n C 0 dL_law_236 rfl rfl ?_
  refine A_iload_n C 3 dL_law_237 rfl rfl ?_
  refine A_iconst C (2 : Int32) dL_law_238 (by decide) ?_
  refine A_iadd C dL_law_239 ?_
  refine A_sld C hS hbl (4 * n + 2) (nI_add (4 * n) 2) (by omega) hL dL_law_240 ?_
  refine A_vI (As := [.int (xs (4 * n + 1)), .int (xs (4 * n + 2))]) (rest := []) C 0 hM mw_5_crop ml_L_32 im_5_crop sl_5_crop (rm1 rfl rfl) (List.perm_append_comm) hfx (ci := 5) rfl rfl rfl (Nat.le_of_ble_eq_true rfl) dL_law_241 (fun x w1 hw1 => ?_)
  obtain ⟨rfl, hx1⟩ := hΦ x w1 hw1
  refine A_perm (ws' := w1 ++ wm) (List.perm_append_comm) ?_
  refine A_aload_n C 2 dL_law_244 rfl rfl ?_
  refine A_aload_n C 0 dL_law_245 rfl rfl ?_
  refine A_iload_n C 3 dL_law_246 rfl rfl ?_
  refine A_iconst C (1 : Int32) dL_law_247 (by decide) ?_
  refine A_iadd C dL_law_248 ?_
  refine A_sld C hS hbl (4 * n + 1) (nI_add (4 * n) 1) (by omega) hL dL_law_249 ?_
  refine A_aload_n C 0 dL_law_250 rfl rfl ?_
  refine A_iload_n C 3 dL_law_251 rfl rfl ?_
  refine A_iconst C (2 : Int32) dL_law_252 (by decide) ?_
  refine A_iadd C dL_law_253 ?_
  refine A_sld C hS hbl (4 * n + 2) (nI_add (4 * n) 2) (by omega) hL dL_law_254 ?_
  refine A_vI (As := [.int (xs (4 * n + 1)), .int (xs (4 * n + 2))]) (rest := [.int r]) C 0 hN mw_6_crop ml_L_35 im_6_crop sl_6_crop (rm1 rfl rfl) (List.Perm.refl _) hfm (ci := 6) rfl rfl rfl (Nat.le_of_ble_eq_true rfl) dL_law_255 (fun x w2 hw2 => ?_)
  obtain ⟨rfl, hm1⟩ := hΨ x w2 hw2
  refine A_icmp_eq (a := some ()) (b := none) (r := ()) C 754 dL_law_258 (by decide) (by rw [if_pos rfl]) (fun _ => ?_) (fun h => by cases h)
  exact K σ2 b2 w1 w2 h3 hx1 hm1
theorem law_loan {b L n ox om : Nat} {xs : Nat → Int32} {σ : XS} {bm : BV} {wx wm : va_W} {Rel : XS → BV → Nat → Prop} (C : CX p s m #[Value.ref b] meth c cL_law 4 ret RL D t) (hS : va_X b L xs s s.heap) (hbl : b < s.heap.size) (hL : L ≤ 256) (hn : 4 * n + 4 ≤ L) (hx : HasX t σ ox wx) (hm : HasM t bm om wm) (hr : Rel σ bm n) (hs : Sim2 Rel F_loan G_loan) (K : ∀ (σ2 : XS) (b2 : BV) (w1 w2 : va_W), Rel σ2 b2 (n + 1) → HasX t σ2 ox w1 → HasM t b2 om w2 → At p l e room_1 s m #[Value.ref b] below meth c D 4 [] (lw_Z below #[Value.ref b] s) 172 1856 754 [(0, .ref b), (1, .ref ox), (2, .ref om), (3, .int (nI (4 * n)))] [] (w1 ++ w2)) : At p l e room_1 s m #[Value.ref b] below meth c D 4 [] (lw_Z below #[Value.ref b] s) 172 1856 263 [(0, .ref b), (1, .ref ox), (2, .ref om), (3, .int (nI (4 * n)))] [] (wx ++ wm) := by
  obtain ⟨r, σ2, b2, h1, h2, h3⟩ := hs σ bm n (xs (4 * n + 1)) (xs (4 * n + 2)) (by omega) hr
  obtain ⟨Φ, hM, hΦ⟩ := C_loan l D t σ ox wx (xs (4 * n + 1)) (xs (4 * n + 2)) hx h1
  obtain ⟨Ψ, hN, hΨ⟩ := D_loan l D t bm om wm (xs (4 * n + 1)) (xs (4 * n + 2)) hm h2
  obtain ⟨fx, hfx⟩ := hx.recv
  obtain ⟨fm, hfm⟩ := hm.recv
  refine A_aload_n C 1 dL_law_263 rfl rfl ?_
  refine A_aload_n C 0 dL_law_264 rfl rfl ?_
  refine A_iload_n C 3 dL_law_265 rfl rfl ?_
  refine A_iconst C (1 : Int32) dL_law_266 (by decide) ?_
  refine A_iadd C dL_law_267 ?_
  refine A_sld C hS hbl (4 * n + 1) (nI_add (4 * n) 1) (by omega) hL dL_law_268 ?_
  refine A_aload_n C 0 dL_law_269 rfl rfl ?_
  refine A_iload_n C 3 dL_law_270 rfl rfl ?_
  refine A_iconst C (2 : Int32) dL_law_271 (by decide) ?_
  refine A_iadd C dL_law_272 ?_
  refine A_sld C hS hbl (4 * n + 2) (nI_add (4 * n) 2) (by omega) hL dL_law_273 ?_
  refine A_vI (As := [.int (xs (4 * n + 1)), .int (xs (4 * n + 2))]) (rest := []) C 0 hM mw_5_loan ml_L_36 im_5_loan sl_5_loan (rm1 rfl rfl) (List.perm_append_comm) hfx (ci := 5) rfl rfl rfl (Nat.le_of_ble_eq_true rfl) dL_law_274 (fun x w1 hw1 => ?_)
  obtain ⟨rfl, hx1⟩ := hΦ x w1 hw1
  refine A_perm (ws' := w1 ++ wm) (List.perm_append_comm) ?_
  refine A_aload_n C 2 dL_law_277 rfl rfl ?_
  refine A_aload_n C 0 dL_law_278 rfl rfl ?_
  refine A_iload_n C 3 dL_law_279 rfl rfl ?_
  refine A_iconst C (1 : Int32) dL_law_280 (by decide) ?_
  refine A_iadd C dL_law_281 ?_
  refine A_sld C hS hbl (4 * n + 1) (nI_add (4 * n) 1) (by omega) hL dL_law_282 ?_
  refine A_aload_n C 0 dL_law_283 rfl rfl ?_
  refine A_iload_n C 3 dL_law_284 rfl rfl ?_
  refine A_iconst C (2 : Int32) dL_law_285 (by decide) ?_
  refine A_iadd C dL_law_286 ?_
  refine A_sld C hS hbl (4 * n + 2) (nI_add (4 * n) 2) (by omega) hL dL_law_287 ?_
  refine A_vI (As := [.int (xs (4 * n + 1)), .int (xs (4 * n + 2))]) (rest := [.int r]) C 0 hN mw_6_loan ml_L_39 im_6_loan sl_6_loan (rm1 rfl rfl) (List.Perm.refl _) hfm (ci := 6) rfl rfl rfl (Nat.le_of_ble_eq_true rfl) dL_law_288 (fun x w2 hw2 => ?_)
  obtain ⟨rfl, hm1⟩ := hΨ x w2 hw2
  refine A_icmp_eq (a := some ()) (b := none) (r := ()) C 754 dL_law_291 (by decide) (by rw [if_pos rfl]) (fun _ => ?_) (fun h => by cases h)
  exact K σ2 b2 w1 w2 h3 hx1 hm1
theorem law_pawns {b L n ox om : Nat} {xs : Nat → Int32} {σ : XS} {bm : BV} {wx wm : va_W} {Rel : XS → BV → Nat → Prop} (C : CX p s m #[Value.ref b] meth c cL_law 4 ret RL D t) (hS : va_X b L xs s s.heap) (hbl : b < s.heap.size) (hL : L ≤ 256) (hn : 4 * n + 4 ≤ L) (hx : HasX t σ ox wx) (hm : HasM t bm om wm) (hr : Rel σ bm n) (hs : Sim2 Rel F_pawns G_pawns) (K : ∀ (σ2 : XS) (b2 : BV) (w1 w2 : va_W), Rel σ2 b2 (n + 1) → HasX t σ2 ox w1 → HasM t b2 om w2 → At p l e room_1 s m #[Value.ref b] below meth c D 4 [] (lw_Z below #[Value.ref b] s) 172 1856 754 [(0, .ref b), (1, .ref ox), (2, .ref om), (3, .int (nI (4 * n)))] [] (w1 ++ w2)) : At p l e room_1 s m #[Value.ref b] below meth c D 4 [] (lw_Z below #[Value.ref b] s) 172 1856 296 [(0, .ref b), (1, .ref ox), (2, .ref om), (3, .int (nI (4 * n)))] [] (wx ++ wm) := by
  obtain ⟨r, σ2, b2, h1, h2, h3⟩ := hs σ bm n (xs (4 * n + 1)) (xs (4 * n + 2)) (by omega) hr
  obtain ⟨Φ, hM, hΦ⟩ := C_pawns l D t σ ox wx (xs (4 * n + 1)) (xs (4 * n + 2)) hx h1
  obtain ⟨Ψ, hN, hΨ⟩ := D_pawns l D t bm om wm (xs (4 * n + 1)) (xs (4 * n + 2)) hm h2
  obtain ⟨fx, hfx⟩ := hx.recv
  obtain ⟨fm, hfm⟩ := hm.recv
  refine A_aload_n C 1 dL_law_296 rfl rfl ?_
  refine A_aload_n C 0 dL_law_297 rfl rfl ?_
  refine A_iload_n C 3 dL_law_298 rfl rfl ?_
  refine A_iconst C (1 : Int32) dL_law_299 (by decide) ?_
  refine A_iadd C dL_law_300 ?_
  refine A_sld C hS hbl (4 * n + 1) (nI_add (4 * n) 1) (by omega) hL dL_law_301 ?_
  refine A_aload_n C 0 dL_law_302 rfl rfl ?_
  refine A_iload_n C 3 dL_law_303 rfl rfl ?_
  refine A_iconst C (2 : Int32) dL_law_304 (by decide) ?_
  refine A_iadd C dL_law_305 ?_
  refine A_sld C hS hbl (4 * n + 2) (nI_add (4 * n) 2) (by omega) hL dL_law_306 ?_
  refine A_vI (As := [.int (xs (4 * n + 1)), .int (xs (4 * n + 2))]) (rest := []) C 0 hM mw_5_pawns ml_L_40 im_5_pawns sl_5_pawns (rm1 rfl rfl) (List.perm_append_comm) hfx (ci := 5) rfl rfl rfl (Nat.le_of_ble_eq_true rfl) dL_law_307 (fun x w1 hw1 => ?_)
  obtain ⟨rfl, hx1⟩ := hΦ x w1 hw1
  refine A_perm (ws' := w1 ++ wm) (List.perm_append_comm) ?_
  refine A_aload_n C 2 dL_law_310 rfl rfl ?_
  refine A_aload_n C 0 dL_law_311 rfl rfl ?_
  refine A_iload_n C 3 dL_law_312 rfl rfl ?_
  refine A_iconst C (1 : Int32) dL_law_313 (by decide) ?_
  refine A_iadd C dL_law_314 ?_
  refine A_sld C hS hbl (4 * n + 1) (nI_add (4 * n) 1) (by omega) hL dL_law_315 ?_
  refine A_aload_n C 0 dL_law_316 rfl rfl ?_
  refine A_iload_n C 3 dL_law_317 rfl rfl ?_
  refine A_iconst C (2 : Int32) dL_law_318 (by decide) ?_
  refine A_iadd C dL_law_319 ?_
  refine A_sld C hS hbl (4 * n + 2) (nI_add (4 * n) 2) (by omega) hL dL_law_320 ?_
  refine A_vI (As := [.int (xs (4 * n + 1)), .int (xs (4 * n + 2))]) (rest := [.int r]) C 0 hN mw_6_pawns ml_L_43 im_6_pawns sl_6_pawns (rm1 rfl rfl) (List.Perm.refl _) hfm (ci := 6) rfl rfl rfl (Nat.le_of_ble_eq_true rfl) dL_law_321 (fun x w2 hw2 => ?_)
  obtain ⟨rfl, hm1⟩ := hΨ x w2 hw2
  refine A_icmp_eq (a := some ()) (b := none) (r := ()) C 754 dL_law_324 (by decide) (by rw [if_pos rfl]) (fun _ => ?_) (fun h => by cases h)
  exact K σ2 b2 w1 w2 h3 hx1 hm1
theorem law_redeems {b L n ox om : Nat} {xs : Nat → Int32} {σ : XS} {bm : BV} {wx wm : va_W} {Rel : XS → BV → Nat → Prop} (C : CX p s m #[Value.ref b] meth c cL_law 4 ret RL D t) (hS : va_X b L xs s s.heap) (hbl : b < s.heap.size) (hL : L ≤ 256) (hn : 4 * n + 4 ≤ L) (hx : HasX t σ ox wx) (hm : HasM t bm om wm) (hr : Rel σ bm n) (hs : Sim1 Rel F_redeems G_redeems) (K : ∀ (σ2 : XS) (b2 : BV) (w1 w2 : va_W), Rel σ2 b2 (n + 1) → HasX t σ2 ox w1 → HasM t b2 om w2 → At p l e room_1 s m #[Value.ref b] below meth c D 4 [] (lw_Z below #[Value.ref b] s) 172 1856 754 [(0, .ref b), (1, .ref ox), (2, .ref om), (3, .int (nI (4 * n)))] [] (w1 ++ w2)) : At p l e room_1 s m #[Value.ref b] below meth c D 4 [] (lw_Z below #[Value.ref b] s) 172 1856 329 [(0, .ref b), (1, .ref ox), (2, .ref om), (3, .int (nI (4 * n)))] [] (wx ++ wm) := by
  obtain ⟨r, σ2, b2, h1, h2, h3⟩ := hs σ bm n (xs (4 * n + 1)) (by omega) hr
  obtain ⟨Φ, hM, hΦ⟩ := C_redeems l D t σ ox wx (xs (4 * n + 1)) hx h1
  obtain ⟨Ψ, hN, hΨ⟩ := D_redeems l D t bm om wm (xs (4 * n + 1)) hm h2
  obtain ⟨fx, hfx⟩ := hx.recv
  obtain ⟨fm, hfm⟩ := hm.recv
  refine A_aload_n C 1 dL_law_329 rfl rfl ?_
  refine A_aload_n C 0 dL_law_330 rfl rfl ?_
  refine A_iload_n C 3 dL_law_331 rfl rfl ?_
  refine A_iconst C (1 : Int32) dL_law_332 (by decide) ?_
  refine A_iadd C dL_law_333 ?_
  refine A_sld C hS hbl (4 * n + 1) (nI_add (4 * n) 1) (by omega) hL dL_law_334 ?_
  refine A_vI (As := [.int (xs (4 * n + 1))]) (rest := []) C 0 hM mw_5_redeems ml_L_44 im_5_redeems sl_5_redeems (rm1 rfl rfl) (List.perm_append_comm) hfx (ci := 5) rfl rfl rfl (Nat.le_of_ble_eq_true rfl) dL_law_335 (fun x w1 hw1 => ?_)
  obtain ⟨rfl, hx1⟩ := hΦ x w1 hw1
  refine A_perm (ws' := w1 ++ wm) (List.perm_append_comm) ?_
  refine A_aload_n C 2 dL_law_338 rfl rfl ?_
  refine A_aload_n C 0 dL_law_339 rfl rfl ?_
  refine A_iload_n C 3 dL_law_340 rfl rfl ?_
  refine A_iconst C (1 : Int32) dL_law_341 (by decide) ?_
  refine A_iadd C dL_law_342 ?_
  refine A_sld C hS hbl (4 * n + 1) (nI_add (4 * n) 1) (by omega) hL dL_law_343 ?_
  refine A_vI (As := [.int (xs (4 * n + 1))]) (rest := [.int r]) C 0 hN mw_6_redeems ml_L_47 im_6_redeems sl_6_redeems (rm1 rfl rfl) (List.Perm.refl _) hfm (ci := 6) rfl rfl rfl (Nat.le_of_ble_eq_true rfl) dL_law_344 (fun x w2 hw2 => ?_)
  obtain ⟨rfl, hm1⟩ := hΨ x w2 hw2
  refine A_icmp_eq (a := some ()) (b := none) (r := ()) C 754 dL_law_347 (by decide) (by rw [if_pos rfl]) (fun _ => ?_) (fun h => by cases h)
  exact K σ2 b2 w1 w2 h3 hx1 hm1
theorem law_year {b L n ox om : Nat} {xs : Nat → Int32} {σ : XS} {bm : BV} {wx wm : va_W} {Rel : XS → BV → Nat → Prop} (C : CX p s m #[Value.ref b] meth c cL_law 4 ret RL D t) (hS : va_X b L xs s s.heap) (hbl : b < s.heap.size) (hL : L ≤ 256) (hn : 4 * n + 4 ≤ L) (hx : HasX t σ ox wx) (hm : HasM t bm om wm) (hr : Rel σ bm n) (hs : Sim0 Rel F_year G_year) (K : ∀ (σ2 : XS) (b2 : BV) (w1 w2 : va_W), Rel σ2 b2 (n + 1) → HasX t σ2 ox w1 → HasM t b2 om w2 → At p l e room_1 s m #[Value.ref b] below meth c D 4 [] (lw_Z below #[Value.ref b] s) 172 1856 754 [(0, .ref b), (1, .ref ox), (2, .ref om), (3, .int (nI (4 * n)))] [] (w1 ++ w2)) : At p l e room_1 s m #[Value.ref b] below meth c D 4 [] (lw_Z below #[Value.ref b] s) 172 1856 352 [(0, .ref b), (1, .ref ox), (2, .ref om), (3, .int (nI (4 * n)))] [] (wx ++ wm) := by
  obtain ⟨r, σ2, b2, h1, h2, h3⟩ := hs σ bm n (by omega) hr
  obtain ⟨Φ, hM, hΦ⟩ := C_year l D t σ ox wx hx h1
  obtain ⟨Ψ, hN, hΨ⟩ := D_year l D t bm om wm hm h2
  obtain ⟨fx, hfx⟩ := hx.recv
  obtain ⟨fm, hfm⟩ := hm.recv
  refine A_aload_n C 1 dL_law_352 rfl rfl ?_
  refine A_vI (As := []) (rest := []) C 0 hM mw_5_year ml_L_48 im_5_year sl_5_year (rm1 rfl rfl) (List.perm_append_comm) hfx (ci := 5) rfl rfl rfl (Nat.le_of_ble_eq_true rfl) dL_law_353 (fun x w1 hw1 => ?_)
  obtain ⟨rfl, hx1⟩ := hΦ x w1 hw1
  refine A_perm (ws' := w1 ++ wm) (List.perm_append_comm) ?_
  refine A_aload_n C 2 dL_law_356 rfl rfl ?_
  refine A_vI (As := []) (rest := [.int r]) C 0 hN mw_6_year ml_L_51 im_6_year sl_6_year (rm1 rfl rfl) (List.Perm.refl _) hfm (ci := 6) rfl rfl rfl (Nat.le_of_ble_eq_true rfl) dL_law_357 (fun x w2 hw2 => ?_)
  obtain ⟨rfl, hm1⟩ := hΨ x w2 hw2
  refine A_icmp_eq (a := some ()) (b := none) (r := ()) C 754 dL_law_360 (by decide) (by rw [if_pos rfl]) (fun _ => ?_) (fun h => by cases h)
  exact K σ2 b2 w1 w2 h3 hx1 hm1
theorem law_undo {b L n ox om : Nat} {xs : Nat → Int32} {σ : XS} {bm : BV} {wx wm : va_W} {Rel : XS → BV → Nat → Prop} (C : CX p s m #[Value.ref b] meth c cL_law 4 ret RL D t) (hS : va_X b L xs s s.heap) (hbl : b < s.heap.size) (hL : L ≤ 256) (hn : 4 * n + 4 ≤ L) (hx : HasX t σ ox wx) (hm : HasM t bm om wm) (hr : Rel σ bm n) (hs : Sim0 Rel F_undo G_undo) (K : ∀ (σ2 : XS) (b2 : BV) (w1 w2 : va_W), Rel σ2 b2 (n + 1) → HasX t σ2 ox w1 → HasM t b2 om w2 → At p l e room_1 s m #[Value.ref b] below meth c D 4 [] (lw_Z below #[Value.ref b] s) 172 1856 754 [(0, .ref b), (1, .ref ox), (2, .ref om), (3, .int (nI (4 * n)))] [] (w1 ++ w2)) : At p l e room_1 s m #[Value.ref b] below meth c D 4 [] (lw_Z below #[Value.ref b] s) 172 1856 365 [(0, .ref b), (1, .ref ox), (2, .ref om), (3, .int (nI (4 * n)))] [] (wx ++ wm) := by
  obtain ⟨r, σ2, b2, h1, h2, h3⟩ := hs σ bm n (by omega) hr
  obtain ⟨Φ, hM, hΦ⟩ := C_undo l D t σ ox wx hx h1
  obtain ⟨Ψ, hN, hΨ⟩ := D_undo l D t bm om wm hm h2
  obtain ⟨fx, hfx⟩ := hx.recv
  obtain ⟨fm, hfm⟩ := hm.recv
  refine A_aload_n C 1 dL_law_365 rfl rfl ?_
  refine A_vI (As := []) (rest := []) C 0 hM mw_5_undo ml_L_52 im_5_undo sl_5_undo (rm1 rfl rfl) (List.perm_append_comm) hfx (ci := 5) rfl rfl rfl (Nat.le_of_ble_eq_true rfl) dL_law_366 (fun x w1 hw1 => ?_)
  obtain ⟨rfl, hx1⟩ := hΦ x w1 hw1
  refine A_perm (ws' := w1 ++ wm) (List.perm_append_comm) ?_
  refine A_aload_n C 2 dL_law_369 rfl rfl ?_
  refine A_vI (As := []) (rest := [.int r]) C 0 hN mw_6_undo ml_L_55 im_6_undo sl_6_undo (rm1 rfl rfl) (List.Perm.refl _) hfm (ci := 6) rfl rfl rfl (Nat.le_of_ble_eq_true rfl) dL_law_370 (fun x w2 hw2 => ?_)
  obtain ⟨rfl, hm1⟩ := hΨ x w2 hw2
  refine A_icmp_eq (a := some ()) (b := none) (r := ()) C 754 dL_law_373 (by decide) (by rw [if_pos rfl]) (fun _ => ?_) (fun h => by cases h)
  exact K σ2 b2 w1 w2 h3 hx1 hm1
theorem law_now {b L n ox om : Nat} {xs : Nat → Int32} {σ : XS} {bm : BV} {wx wm : va_W} {Rel : XS → BV → Nat → Prop} (C : CX p s m #[Value.ref b] meth c cL_law 4 ret RL D t) (hS : va_X b L xs s s.heap) (hbl : b < s.heap.size) (hL : L ≤ 256) (hn : 4 * n + 4 ≤ L) (hx : HasX t σ ox wx) (hm : HasM t bm om wm) (hr : Rel σ bm n) (hs : Sim1 Rel F_now G_now) (K : ∀ (σ2 : XS) (b2 : BV) (w1 w2 : va_W), Rel σ2 b2 (n + 1) → HasX t σ2 ox w1 → HasM t b2 om w2 → At p l e room_1 s m #[Value.ref b] below meth c D 4 [] (lw_Z below #[Value.ref b] s) 172 1856 754 [(0, .ref b), (1, .ref ox), (2, .ref om), (3, .int (nI (4 * n)))] [] (w1 ++ w2)) : At p l e room_1 s m #[Value.ref b] below meth c D 4 [] (lw_Z below #[Value.ref b] s) 172 1856 378 [(0, .ref b), (1, .ref ox), (2, .ref om), (3, .int (nI (4 * n)))] [] (wx ++ wm) := by
  obtain ⟨r, σ2, b2, h1, h2, h3⟩ := hs σ bm n (xs (4 * n + 1)) (by omega) hr
  obtain ⟨Φ, hM, hΦ⟩ := C_now l D t σ ox wx (xs (4 * n + 1)) hx h1
  obtain ⟨Ψ, hN, hΨ⟩ := D_now l D t bm om wm (xs (4 * n + 1)) hm h2
  obtain ⟨fx, hfx⟩ := hx.recv
  obtain ⟨fm, hfm⟩ := hm.recv
  refine A_aload_n C 1 dL_law_378 rfl rfl ?_
  refine A_aload_n C 0 dL_law_379 rfl rfl ?_
  refine A_iload_n C 3 dL_law_380 rfl rfl ?_
  refine A_iconst C (1 : Int32) dL_law_381 (by decide) ?_
  refine A_iadd C dL_law_382 ?_
  refine A_sld C hS hbl (4 * n + 1) (nI_add (4 * n) 1) (by omega) hL dL_law_383 ?_
  refine A_vI (As := [.int (xs (4 * n + 1))]) (rest := []) C 0 hM mw_5_now ml_L_56 im_5_now sl_5_now (rm1 rfl rfl) (List.perm_append_comm) hfx (ci := 5) rfl rfl rfl (Nat.le_of_ble_eq_true rfl) dL_law_384 (fun x w1 hw1 => ?_)
  obtain ⟨rfl, hx1⟩ := hΦ x w1 hw1
  refine A_perm (ws' := w1 ++ wm) (List.perm_append_comm) ?_
  refine A_aload_n C 2 dL_law_387 rfl rfl ?_
  refine A_aload_n C 0 dL_law_388 rfl rfl ?_
  refine A_iload_n C 3 dL_law_389 rfl rfl ?_
  refine A_iconst C (1 : Int32) dL_law_390 (by decide) ?_
  refine A_iadd C dL_law_391 ?_
  refine A_sld C hS hbl (4 * n + 1) (nI_add (4 * n) 1) (by omega) hL dL_law_392 ?_
  refine A_vI (As := [.int (xs (4 * n + 1))]) (rest := [.int r]) C 0 hN mw_6_now ml_L_59 im_6_now sl_6_now (rm1 rfl rfl) (List.Perm.refl _) hfm (ci := 6) rfl rfl rfl (Nat.le_of_ble_eq_true rfl) dL_law_393 (fun x w2 hw2 => ?_)
  obtain ⟨rfl, hm1⟩ := hΨ x w2 hw2
  refine A_icmp_eq (a := some ()) (b := none) (r := ()) C 754 dL_law_396 (by decide) (by rw [if_pos rfl]) (fun _ => ?_) (fun h => by cases h)
  exact K σ2 b2 w1 w2 h3 hx1 hm1
theorem law_lends {b L n ox om : Nat} {xs : Nat → Int32} {σ : XS} {bm : BV} {wx wm : va_W} {Rel : XS → BV → Nat → Prop} (C : CX p s m #[Value.ref b] meth c cL_law 4 ret RL D t) (hS : va_X b L xs s s.heap) (hbl : b < s.heap.size) (hL : L ≤ 256) (hn : 4 * n + 4 ≤ L) (hx : HasX t σ ox wx) (hm : HasM t bm om wm) (hr : Rel σ bm n) (hs : Sim2 Rel F_lends G_lends) (K : ∀ (σ2 : XS) (b2 : BV) (w1 w2 : va_W), Rel σ2 b2 (n + 1) → HasX t σ2 ox w1 → HasM t b2 om w2 → At p l e room_1 s m #[Value.ref b] below meth c D 4 [] (lw_Z below #[Value.ref b] s) 172 1856 754 [(0, .ref b), (1, .ref ox), (2, .ref om), (3, .int (nI (4 * n)))] [] (w1 ++ w2)) : At p l e room_1 s m #[Value.ref b] below meth c D 4 [] (lw_Z below #[Value.ref b] s) 172 1856 401 [(0, .ref b), (1, .ref ox), (2, .ref om), (3, .int (nI (4 * n)))] [] (wx ++ wm) := by
  obtain ⟨r, σ2, b2, h1, h2, h3⟩ := hs σ bm n (xs (4 * n + 1)) (xs (4 * n + 2)) (by omega) hr
  obtain ⟨Φ, hM, hΦ⟩ := C_lends l D t σ ox wx (xs (4 * n + 1)) (xs (4 * n + 2)) hx h1
  obtain ⟨Ψ, hN, hΨ⟩ := D_lends l D t bm om wm (xs (4 * n + 1)) (xs (4 * n + 2)) hm h2
  obtain ⟨fx, hfx⟩ := hx.recv
  obtain ⟨fm, hfm⟩ := hm.recv
  refine A_aload_n C 1 dL_law_401 rfl rfl ?_
  refine A_aload_n C 0 dL_law_402 rfl rfl ?_
  refine A_iload_n C 3 dL_law_403 rfl rfl ?_
  refine A_iconst C (1 : Int32) dL_law_404 (by decide) ?_
  refine A_iadd C dL_law_405 ?_
  refine A_sld C hS hbl (4 * n + 1) (nI_add (4 * n) 1) (by omega) hL dL_law_406 ?_
  refine A_aload_n C 0 dL_law_407 rfl rfl ?_
  refine A_iload_n C 3 dL_law_408 rfl rfl ?_
  refine A_iconst C (2 : Int32) dL_law_409 (by decide) ?_
  refine A_iadd C dL_law_410 ?_
  refine A_sld C hS hbl (4 * n + 2) (nI_add (4 * n) 2) (by omega) hL dL_law_411 ?_
  refine A_vI (As := [.int (xs (4 * n + 1)), .int (xs (4 * n + 2))]) (rest := []) C 0 hM mw_5_lends ml_L_60 im_5_lends sl_5_lends (rm1 rfl rfl) (List.perm_append_comm) hfx (ci := 5) rfl rfl rfl (Nat.le_of_ble_eq_true rfl) dL_law_412 (fun x w1 hw1 => ?_)
  obtain ⟨rfl, hx1⟩ := hΦ x w1 hw1
  refine A_perm (ws' := w1 ++ wm) (List.perm_append_comm) ?_
  refine A_aload_n C 2 dL_law_415 rfl rfl ?_
  refine A_aload_n C 0 dL_law_416 rfl rfl ?_
  refine A_iload_n C 3 dL_law_417 rfl rfl ?_
  refine A_iconst C (1 : Int32) dL_law_418 (by decide) ?_
  refine A_iadd C dL_law_419 ?_
  refine A_sld C hS hbl (4 * n + 1) (nI_add (4 * n) 1) (by omega) hL dL_law_420 ?_
  refine A_aload_n C 0 dL_law_421 rfl rfl ?_
  refine A_iload_n C 3 dL_law_422 rfl rfl ?_
  refine A_iconst C (2 : Int32) dL_law_423 (by decide) ?_
  refine A_iadd C dL_law_424 ?_
  refine A_sld C hS hbl (4 * n + 2) (nI_add (4 * n) 2) (by omega) hL dL_law_425 ?_
  refine A_vI (As := [.int (xs (4 * n + 1)), .int (xs (4 * n + 2))]) (rest := [.int r]) C 0 hN mw_6_lends ml_L_63 im_6_lends sl_6_lends (rm1 rfl rfl) (List.Perm.refl _) hfm (ci := 6) rfl rfl rfl (Nat.le_of_ble_eq_true rfl) dL_law_426 (fun x w2 hw2 => ?_)
  obtain ⟨rfl, hm1⟩ := hΨ x w2 hw2
  refine A_icmp_eq (a := some ()) (b := none) (r := ()) C 754 dL_law_429 (by decide) (by rw [if_pos rfl]) (fun _ => ?_) (fun h => by cases h)
  exact K σ2 b2 w1 w2 h3 hx1 hm1
theorem law_cheap {b L n ox om : Nat} {xs : Nat → Int32} {σ : XS} {bm : BV} {wx wm : va_W} {Rel : XS → BV → Nat → Prop} (C : CX p s m #[Value.ref b] meth c cL_law 4 ret RL D t) (hS : va_X b L xs s s.heap) (hbl : b < s.heap.size) (hL : L ≤ 256) (hn : 4 * n + 4 ≤ L) (hx : HasX t σ ox wx) (hm : HasM t bm om wm) (hr : Rel σ bm n) (hs : Sim2 Rel F_cheap G_cheap) (K : ∀ (σ2 : XS) (b2 : BV) (w1 w2 : va_W), Rel σ2 b2 (n + 1) → HasX t σ2 ox w1 → HasM t b2 om w2 → At p l e room_1 s m #[Value.ref b] below meth c D 4 [] (lw_Z below #[Value.ref b] s) 172 1856 754 [(0, .ref b), (1, .ref ox), (2, .ref om), (3, .int (nI (4 * n)))] [] (w1 ++ w2)) : At p l e room_1 s m #[Value.ref b] below meth c D 4 [] (lw_Z below #[Value.ref b] s) 172 1856 434 [(0, .ref b), (1, .ref ox), (2, .ref om), (3, .int (nI (4 * n)))] [] (wx ++ wm) := by
  obtain ⟨r, σ2, b2, h1, h2, h3⟩ := hs σ bm n (xs (4 * n + 1)) (xs (4 * n + 2)) (by omega) hr
  obtain ⟨Φ, hM, hΦ⟩ := C_cheap l D t σ ox wx (xs (4 * n + 1)) (xs (4 * n + 2)) hx h1
  obtain ⟨Ψ, hN, hΨ⟩ := D_cheap l D t bm om wm (xs (4 * n + 1)) (xs (4 * n + 2)) hm h2
  obtain ⟨fx, hfx⟩ := hx.recv
  obtain ⟨fm, hfm⟩ := hm.recv
  refine A_aload_n C 1 dL_law_434 rfl rfl ?_
  refine A_aload_n C 0 dL_law_435 rfl rfl ?_
  refine A_iload_n C 3 dL_law_436 rfl rfl ?_
  refine A_iconst C (1 : Int32) dL_law_437 (by decide) ?_
  refine A_iadd C dL_law_438 ?_
  refine A_sld C hS hbl (4 * n + 1) (nI_add (4 * n) 1) (by omega) hL dL_law_439 ?_
  refine A_aload_n C 0 dL_law_440 rfl rfl ?_
  refine A_iload_n C 3 dL_law_441 rfl rfl ?_
  refine A_iconst C (2 : Int32) dL_law_442 (by decide) ?_
  refine A_iadd C dL_law_443 ?_
  refine A_sld C hS hbl (4 * n + 2) (nI_add (4 * n) 2) (by omega) hL dL_law_444 ?_
  refine A_vI (As := [.int (xs (4 * n + 1)), .int (xs (4 * n + 2))]) (rest := []) C 0 hM mw_5_cheap ml_L_64 im_5_cheap sl_5_cheap (rm1 rfl rfl) (List.perm_append_comm) hfx (ci := 5) rfl rfl rfl (Nat.le_of_ble_eq_true rfl) dL_law_445 (fun x w1 hw1 => ?_)
  obtain ⟨rfl, hx1⟩ := hΦ x w1 hw1
  refine A_perm (ws' := w1 ++ wm) (List.perm_append_comm) ?_
  refine A_aload_n C 2 dL_law_448 rfl rfl ?_
  refine A_aload_n C 0 dL_law_449 rfl rfl ?_
  refine A_iload_n C 3 dL_law_450 rfl rfl ?_
  refine A_iconst C (1 : Int32) dL_law_451 (by decide) ?_
  refine A_iadd C dL_law_452 ?_
  refine A_sld C hS hbl (4 * n + 1) (nI_add (4 * n) 1) (by omega) hL dL_law_453 ?_
  refine A_aload_n C 0 dL_law_454 rfl rfl ?_
  refine A_iload_n C 3 dL_law_455 rfl rfl ?_
  refine A_iconst C (2 : Int32) dL_law_456 (by decide) ?_
  refine A_iadd C dL_law_457 ?_
  refine A_sld C hS hbl (4 * n + 2) (nI_add (4 * n) 2) (by omega) hL dL_law_458 ?_
  refine A_vI (As := [.int (xs (4 * n + 1)), .int (xs (4 * n + 2))]) (rest := [.int r]) C 0 hN mw_6_cheap ml_L_67 im_6_cheap sl_6_cheap (rm1 rfl rfl) (List.Perm.refl _) hfm (ci := 6) rfl rfl rfl (Nat.le_of_ble_eq_true rfl) dL_law_459 (fun x w2 hw2 => ?_)
  obtain ⟨rfl, hm1⟩ := hΨ x w2 hw2
  refine A_icmp_eq (a := some ()) (b := none) (r := ()) C 754 dL_law_462 (by decide) (by rw [if_pos rfl]) (fun _ => ?_) (fun h => by cases h)
  exact K σ2 b2 w1 w2 h3 hx1 hm1
theorem law_freeing {b L n ox om : Nat} {xs : Nat → Int32} {σ : XS} {bm : BV} {wx wm : va_W} {Rel : XS → BV → Nat → Prop} (C : CX p s m #[Value.ref b] meth c cL_law 4 ret RL D t) (hS : va_X b L xs s s.heap) (hbl : b < s.heap.size) (hL : L ≤ 256) (hn : 4 * n + 4 ≤ L) (hx : HasX t σ ox wx) (hm : HasM t bm om wm) (hr : Rel σ bm n) (hs : Sim1 Rel F_freeing G_freeing) (K : ∀ (σ2 : XS) (b2 : BV) (w1 w2 : va_W), Rel σ2 b2 (n + 1) → HasX t σ2 ox w1 → HasM t b2 om w2 → At p l e room_1 s m #[Value.ref b] below meth c D 4 [] (lw_Z below #[Value.ref b] s) 172 1856 754 [(0, .ref b), (1, .ref ox), (2, .ref om), (3, .int (nI (4 * n)))] [] (w1 ++ w2)) : At p l e room_1 s m #[Value.ref b] below meth c D 4 [] (lw_Z below #[Value.ref b] s) 172 1856 467 [(0, .ref b), (1, .ref ox), (2, .ref om), (3, .int (nI (4 * n)))] [] (wx ++ wm) := by
  obtain ⟨r, σ2, b2, h1, h2, h3⟩ := hs σ bm n (xs (4 * n + 1)) (by omega) hr
  obtain ⟨Φ, hM, hΦ⟩ := C_freeing l D t σ ox wx (xs (4 * n + 1)) hx h1
  obtain ⟨Ψ, hN, hΨ⟩ := D_freeing l D t bm om wm (xs (4 * n + 1)) hm h2
  obtain ⟨fx, hfx⟩ := hx.recv
  obtain ⟨fm, hfm⟩ := hm.recv
  refine A_aload_n C 1 dL_law_467 rfl rfl ?_
  refine A_aload_n C 0 dL_law_468 rfl rfl ?_
  refine A_iload_n C 3 dL_law_469 rfl rfl ?_
  refine A_iconst C (1 : Int32) dL_law_470 (by decide) ?_
  refine A_iadd C dL_law_471 ?_
  refine A_sld C hS hbl (4 * n + 1) (nI_add (4 * n) 1) (by omega) hL dL_law_472 ?_
  refine A_vI (As := [.int (xs (4 * n + 1))]) (rest := []) C 0 hM mw_5_freeing ml_L_68 im_5_freeing sl_5_freeing (rm1 rfl rfl) (List.perm_append_comm) hfx (ci := 5) rfl rfl rfl (Nat.le_of_ble_eq_true rfl) dL_law_473 (fun x w1 hw1 => ?_)
  obtain ⟨rfl, hx1⟩ := hΦ x w1 hw1
  refine A_perm (ws' := w1 ++ wm) (List.perm_append_comm) ?_
  refine A_aload_n C 2 dL_law_476 rfl rfl ?_
  refine A_aload_n C 0 dL_law_477 rfl rfl ?_
  refine A_iload_n C 3 dL_law_478 rfl rfl ?_
  refine A_iconst C (1 : Int32) dL_law_479 (by decide) ?_
  refine A_iadd C dL_law_480 ?_
  refine A_sld C hS hbl (4 * n + 1) (nI_add (4 * n) 1) (by omega) hL dL_law_481 ?_
  refine A_vI (As := [.int (xs (4 * n + 1))]) (rest := [.int r]) C 0 hN mw_6_freeing ml_L_71 im_6_freeing sl_6_freeing (rm1 rfl rfl) (List.Perm.refl _) hfm (ci := 6) rfl rfl rfl (Nat.le_of_ble_eq_true rfl) dL_law_482 (fun x w2 hw2 => ?_)
  obtain ⟨rfl, hm1⟩ := hΨ x w2 hw2
  refine A_icmp_eq (a := some ()) (b := none) (r := ()) C 754 dL_law_485 (by decide) (by rw [if_pos rfl]) (fun _ => ?_) (fun h => by cases h)
  exact K σ2 b2 w1 w2 h3 hx1 hm1
theorem law_rich {b L n ox om : Nat} {xs : Nat → Int32} {σ : XS} {bm : BV} {wx wm : va_W} {Rel : XS → BV → Nat → Prop} (C : CX p s m #[Value.ref b] meth c cL_law 4 ret RL D t) (hS : va_X b L xs s s.heap) (hbl : b < s.heap.size) (hL : L ≤ 256) (hn : 4 * n + 4 ≤ L) (hx : HasX t σ ox wx) (hm : HasM t bm om wm) (hr : Rel σ bm n) (hs : Sim1 Rel F_rich G_rich) (K : ∀ (σ2 : XS) (b2 : BV) (w1 w2 : va_W), Rel σ2 b2 (n + 1) → HasX t σ2 ox w1 → HasM t b2 om w2 → At p l e room_1 s m #[Value.ref b] below meth c D 4 [] (lw_Z below #[Value.ref b] s) 172 1856 754 [(0, .ref b), (1, .ref ox), (2, .ref om), (3, .int (nI (4 * n)))] [] (w1 ++ w2)) : At p l e room_1 s m #[Value.ref b] below meth c D 4 [] (lw_Z below #[Value.ref b] s) 172 1856 490 [(0, .ref b), (1, .ref ox), (2, .ref om), (3, .int (nI (4 * n)))] [] (wx ++ wm) := by
  obtain ⟨r, σ2, b2, h1, h2, h3⟩ := hs σ bm n (xs (4 * n + 1)) (by omega) hr
  obtain ⟨Φ, hM, hΦ⟩ := C_rich l D t σ ox wx (xs (4 * n + 1)) hx h1
  obtain ⟨Ψ, hN, hΨ⟩ := D_rich l D t bm om wm (xs (4 * n + 1)) hm h2
  obtain ⟨fx, hfx⟩ := hx.recv
  obtain ⟨fm, hfm⟩ := hm.recv
  refine A_aload_n C 1 dL_law_490 rfl rfl ?_
  refine A_aload_n C 0 dL_law_491 rfl rfl ?_
  refine A_iload_n C 3 dL_law_492 rfl rfl ?_
  refine A_iconst C (1 : Int32) dL_law_493 (by decide) ?_
  refine A_iadd C dL_law_494 ?_
  refine A_sld C hS hbl (4 * n + 1) (nI_add (4 * n) 1) (by omega) hL dL_law_495 ?_
  refine A_vI (As := [.int (xs (4 * n + 1))]) (rest := []) C 0 hM mw_5_rich ml_L_72 im_5_rich sl_5_rich (rm1 rfl rfl) (List.perm_append_comm) hfx (ci := 5) rfl rfl rfl (Nat.le_of_ble_eq_true rfl) dL_law_496 (fun x w1 hw1 => ?_)
  obtain ⟨rfl, hx1⟩ := hΦ x w1 hw1
  refine A_perm (ws' := w1 ++ wm) (List.perm_append_comm) ?_
  refine A_aload_n C 2 dL_law_499 rfl rfl ?_
  refine A_aload_n C 0 dL_law_500 rfl rfl ?_
  refine A_iload_n C 3 dL_law_501 rfl rfl ?_
  refine A_iconst C (1 : Int32) dL_law_502 (by decide) ?_
  refine A_iadd C dL_law_503 ?_
  refine A_sld C hS hbl (4 * n + 1) (nI_add (4 * n) 1) (by omega) hL dL_law_504 ?_
  refine A_vI (As := [.int (xs (4 * n + 1))]) (rest := [.int r]) C 0 hN mw_6_rich ml_L_75 im_6_rich sl_6_rich (rm1 rfl rfl) (List.Perm.refl _) hfm (ci := 6) rfl rfl rfl (Nat.le_of_ble_eq_true rfl) dL_law_505 (fun x w2 hw2 => ?_)
  obtain ⟨rfl, hm1⟩ := hΨ x w2 hw2
  refine A_icmp_eq (a := some ()) (b := none) (r := ()) C 754 dL_law_508 (by decide) (by rw [if_pos rfl]) (fun _ => ?_) (fun h => by cases h)
  exact K σ2 b2 w1 w2 h3 hx1 hm1
theorem law_bare {b L n ox om : Nat} {xs : Nat → Int32} {σ : XS} {bm : BV} {wx wm : va_W} {Rel : XS → BV → Nat → Prop} (C : CX p s m #[Value.ref b] meth c cL_law 4 ret RL D t) (hS : va_X b L xs s s.heap) (hbl : b < s.heap.size) (hL : L ≤ 256) (hn : 4 * n + 4 ≤ L) (hx : HasX t σ ox wx) (hm : HasM t bm om wm) (hr : Rel σ bm n) (hs : Sim0 Rel F_bare G_bare) (K : ∀ (σ2 : XS) (b2 : BV) (w1 w2 : va_W), Rel σ2 b2 (n + 1) → HasX t σ2 ox w1 → HasM t b2 om w2 → At p l e room_1 s m #[Value.ref b] below meth c D 4 [] (lw_Z below #[Value.ref b] s) 172 1856 754 [(0, .ref b), (1, .ref ox), (2, .ref om), (3, .int (nI (4 * n)))] [] (w1 ++ w2)) : At p l e room_1 s m #[Value.ref b] below meth c D 4 [] (lw_Z below #[Value.ref b] s) 172 1856 513 [(0, .ref b), (1, .ref ox), (2, .ref om), (3, .int (nI (4 * n)))] [] (wx ++ wm) := by
  obtain ⟨r, σ2, b2, h1, h2, h3⟩ := hs σ bm n (by omega) hr
  obtain ⟨Φ, hM, hΦ⟩ := C_bare l D t σ ox wx hx h1
  obtain ⟨Ψ, hN, hΨ⟩ := D_bare l D t bm om wm hm h2
  obtain ⟨fx, hfx⟩ := hx.recv
  obtain ⟨fm, hfm⟩ := hm.recv
  refine A_aload_n C 1 dL_law_513 rfl rfl ?_
  refine A_vI (As := []) (rest := []) C 0 hM mw_5_bare ml_L_76 im_5_bare sl_5_bare (rm1 rfl rfl) (List.perm_append_comm) hfx (ci := 5) rfl rfl rfl (Nat.le_of_ble_eq_true rfl) dL_law_514 (fun x w1 hw1 => ?_)
  obtain ⟨rfl, hx1⟩ := hΦ x w1 hw1
  refine A_perm (ws' := w1 ++ wm) (List.perm_append_comm) ?_
  refine A_aload_n C 2 dL_law_517 rfl rfl ?_
  refine A_vI (As := []) (rest := [.int r]) C 0 hN mw_6_bare ml_L_79 im_6_bare sl_6_bare (rm1 rfl rfl) (List.Perm.refl _) hfm (ci := 6) rfl rfl rfl (Nat.le_of_ble_eq_true rfl) dL_law_518 (fun x w2 hw2 => ?_)
  obtain ⟨rfl, hm1⟩ := hΨ x w2 hw2
  refine A_icmp_eq (a := some ()) (b := none) (r := ()) C 754 dL_law_521 (by decide) (by rw [if_pos rfl]) (fun _ => ?_) (fun h => by cases h)
  exact K σ2 b2 w1 w2 h3 hx1 hm1
theorem law_tells {b L n ox om : Nat} {xs : Nat → Int32} {σ : XS} {bm : BV} {wx wm : va_W} {Rel : XS → BV → Nat → Prop} (C : CX p s m #[Value.ref b] meth c cL_law 4 ret RL D t) (hS : va_X b L xs s s.heap) (hbl : b < s.heap.size) (hL : L ≤ 256) (hn : 4 * n + 4 ≤ L) (hx : HasX t σ ox wx) (hm : HasM t bm om wm) (hr : Rel σ bm n) (hs : Sim2 Rel F_tells G_tells) (K : ∀ (σ2 : XS) (b2 : BV) (w1 w2 : va_W), Rel σ2 b2 (n + 1) → HasX t σ2 ox w1 → HasM t b2 om w2 → At p l e room_1 s m #[Value.ref b] below meth c D 4 [] (lw_Z below #[Value.ref b] s) 172 1856 754 [(0, .ref b), (1, .ref ox), (2, .ref om), (3, .int (nI (4 * n)))] [] (w1 ++ w2)) : At p l e room_1 s m #[Value.ref b] below meth c D 4 [] (lw_Z below #[Value.ref b] s) 172 1856 526 [(0, .ref b), (1, .ref ox), (2, .ref om), (3, .int (nI (4 * n)))] [] (wx ++ wm) := by
  obtain ⟨r, σ2, b2, h1, h2, h3⟩ := hs σ bm n (xs (4 * n + 1)) (xs (4 * n + 2)) (by omega) hr
  obtain ⟨Φ, hM, hΦ⟩ := C_tells l D t σ ox wx (xs (4 * n + 1)) (xs (4 * n + 2)) hx h1
  obtain ⟨Ψ, hN, hΨ⟩ := D_tells l D t bm om wm (xs (4 * n + 1)) (xs (4 * n + 2)) hm h2
  obtain ⟨fx, hfx⟩ := hx.recv
  obtain ⟨fm, hfm⟩ := hm.recv
  refine A_aload_n C 1 dL_law_526 rfl rfl ?_
  refine A_aload_n C 0 dL_law_527 rfl rfl ?_
  refine A_iload_n C 3 dL_law_528 rfl rfl ?_
  refine A_iconst C (1 : Int32) dL_law_529 (by decide) ?_
  refine A_iadd C dL_law_530 ?_
  refine A_sld C hS hbl (4 * n + 1) (nI_add (4 * n) 1) (by omega) hL dL_law_531 ?_
  refine A_aload_n C 0 dL_law_532 rfl rfl ?_
  refine A_iload_n C 3 dL_law_533 rfl rfl ?_
  refine A_iconst C (2 : Int32) dL_law_534 (by decide) ?_
  refine A_iadd C dL_law_535 ?_
  refine A_sld C hS hbl (4 * n + 2) (nI_add (4 * n) 2) (by omega) hL dL_law_536 ?_
  refine A_vI (As := [.int (xs (4 * n + 1)), .int (xs (4 * n + 2))]) (rest := []) C 0 hM mw_5_tells ml_L_80 im_5_tells sl_5_tells (rm1 rfl rfl) (List.perm_append_comm) hfx (ci := 5) rfl rfl rfl (Nat.le_of_ble_eq_true rfl) dL_law_537 (fun x w1 hw1 => ?_)
  obtain ⟨rfl, hx1⟩ := hΦ x w1 hw1
  refine A_perm (ws' := w1 ++ wm) (List.perm_append_comm) ?_
  refine A_aload_n C 2 dL_law_540 rfl rfl ?_
  refine A_aload_n C 0 dL_law_541 rfl rfl ?_
  refine A_iload_n C 3 dL_law_542 rfl rfl ?_
  refine A_iconst C (1 : Int32) dL_law_543 (by decide) ?_
  refine A_iadd C dL_law_544 ?_
  refine A_sld C hS hbl (4 * n + 1) (nI_add (4 * n) 1) (by omega) hL dL_law_545 ?_
  refine A_aload_n C 0 dL_law_546 rfl rfl ?_
  refine A_iload_n C 3 dL_law_547 rfl rfl ?_
  refine A_iconst C (2 : Int32) dL_law_548 (by decide) ?_
  refine A_iadd C dL_law_549 ?_
  refine A_sld C hS hbl (4 * n + 2) (nI_add (4 * n) 2) (by omega) hL dL_law_550 ?_
  refine A_vI (As := [.int (xs (4 * n + 1)), .int (xs (4 * n + 2))]) (rest := [.int r]) C 0 hN mw_6_tells ml_L_83 im_6_tells sl_6_tells (rm1 rfl rfl) (List.Perm.refl _) hfm (ci := 6) rfl rfl rfl (Nat.le_of_ble_eq_true rfl) dL_law_551 (fun x w2 hw2 => ?_)
  obtain ⟨rfl, hm1⟩ := hΨ x w2 hw2
  refine A_icmp_eq (a := some ()) (b := none) (r := ()) C 754 dL_law_554 (by decide) (by rw [if_pos rfl]) (fun _ => ?_) (fun h => by cases h)
  exact K σ2 b2 w1 w2 h3 hx1 hm1
theorem law_forget {b L n ox om : Nat} {xs : Nat → Int32} {σ : XS} {bm : BV} {wx wm : va_W} {Rel : XS → BV → Nat → Prop} (C : CX p s m #[Value.ref b] meth c cL_law 4 ret RL D t) (hS : va_X b L xs s s.heap) (hbl : b < s.heap.size) (hL : L ≤ 256) (hn : 4 * n + 4 ≤ L) (hx : HasX t σ ox wx) (hm : HasM t bm om wm) (hr : Rel σ bm n) (hs : Sim0 Rel F_forget G_forget) (K : ∀ (σ2 : XS) (b2 : BV) (w1 w2 : va_W), Rel σ2 b2 (n + 1) → HasX t σ2 ox w1 → HasM t b2 om w2 → At p l e room_1 s m #[Value.ref b] below meth c D 4 [] (lw_Z below #[Value.ref b] s) 172 1856 754 [(0, .ref b), (1, .ref ox), (2, .ref om), (3, .int (nI (4 * n)))] [] (w1 ++ w2)) : At p l e room_1 s m #[Value.ref b] below meth c D 4 [] (lw_Z below #[Value.ref b] s) 172 1856 559 [(0, .ref b), (1, .ref ox), (2, .ref om), (3, .int (nI (4 * n)))] [] (wx ++ wm) := by
  obtain ⟨r, σ2, b2, h1, h2, h3⟩ := hs σ bm n (by omega) hr
  obtain ⟨Φ, hM, hΦ⟩ := C_forget l D t σ ox wx hx h1
  obtain ⟨Ψ, hN, hΨ⟩ := D_forget l D t bm om wm hm h2
  obtain ⟨fx, hfx⟩ := hx.recv
  obtain ⟨fm, hfm⟩ := hm.recv
  refine A_aload_n C 1 dL_law_559 rfl rfl ?_
  refine A_vI (As := []) (rest := []) C 0 hM mw_5_forget ml_L_84 im_5_forget sl_5_forget (rm1 rfl rfl) (List.perm_append_comm) hfx (ci := 5) rfl rfl rfl (Nat.le_of_ble_eq_true rfl) dL_law_560 (fun x w1 hw1 => ?_)
  obtain ⟨rfl, hx1⟩ := hΦ x w1 hw1
  refine A_perm (ws' := w1 ++ wm) (List.perm_append_comm) ?_
  refine A_aload_n C 2 dL_law_563 rfl rfl ?_
  refine A_vI (As := []) (rest := [.int r]) C 0 hN mw_6_forget ml_L_87 im_6_forget sl_6_forget (rm1 rfl rfl) (List.Perm.refl _) hfm (ci := 6) rfl rfl rfl (Nat.le_of_ble_eq_true rfl) dL_law_564 (fun x w2 hw2 => ?_)
  obtain ⟨rfl, hm1⟩ := hΨ x w2 hw2
  refine A_icmp_eq (a := some ()) (b := none) (r := ()) C 754 dL_law_567 (by decide) (by rw [if_pos rfl]) (fun _ => ?_) (fun h => by cases h)
  exact K σ2 b2 w1 w2 h3 hx1 hm1
theorem law_fits {b L n ox om : Nat} {xs : Nat → Int32} {σ : XS} {bm : BV} {wx wm : va_W} {Rel : XS → BV → Nat → Prop} (C : CX p s m #[Value.ref b] meth c cL_law 4 ret RL D t) (hS : va_X b L xs s s.heap) (hbl : b < s.heap.size) (hL : L ≤ 256) (hn : 4 * n + 4 ≤ L) (hx : HasX t σ ox wx) (hm : HasM t bm om wm) (hr : Rel σ bm n) (hs : Sim1 Rel F_fits G_fits) (K : ∀ (σ2 : XS) (b2 : BV) (w1 w2 : va_W), Rel σ2 b2 (n + 1) → HasX t σ2 ox w1 → HasM t b2 om w2 → At p l e room_1 s m #[Value.ref b] below meth c D 4 [] (lw_Z below #[Value.ref b] s) 172 1856 754 [(0, .ref b), (1, .ref ox), (2, .ref om), (3, .int (nI (4 * n)))] [] (w1 ++ w2)) : At p l e room_1 s m #[Value.ref b] below meth c D 4 [] (lw_Z below #[Value.ref b] s) 172 1856 572 [(0, .ref b), (1, .ref ox), (2, .ref om), (3, .int (nI (4 * n)))] [] (wx ++ wm) := by
  obtain ⟨r, σ2, b2, h1, h2, h3⟩ := hs σ bm n (xs (4 * n + 1)) (by omega) hr
  obtain ⟨Φ, hM, hΦ⟩ := C_fits l D t σ ox wx (xs (4 * n + 1)) hx h1
  obtain ⟨Ψ, hN, hΨ⟩ := D_fits l D t bm om wm (xs (4 * n + 1)) hm h2
  obtain ⟨fx, hfx⟩ := hx.recv
  obtain ⟨fm, hfm⟩ := hm.recv
  refine A_aload_n C 1 dL_law_572 rfl rfl ?_
  refine A_aload_n C 0 dL_law_573 rfl rfl ?_
  refine A_iload_n C 3 dL_law_574 rfl rfl ?_
  refine A_iconst C (1 : Int32) dL_law_575 (by decide) ?_
  refine A_iadd C dL_law_576 ?_
  refine A_sld C hS hbl (4 * n + 1) (nI_add (4 * n) 1) (by omega) hL dL_law_577 ?_
  refine A_vI (As := [.int (xs (4 * n + 1))]) (rest := []) C 0 hM mw_5_fits ml_L_88 im_5_fits sl_5_fits (rm1 rfl rfl) (List.perm_append_comm) hfx (ci := 5) rfl rfl rfl (Nat.le_of_ble_eq_true rfl) dL_law_578 (fun x w1 hw1 => ?_)
  obtain ⟨rfl, hx1⟩ := hΦ x w1 hw1
  refine A_perm (ws' := w1 ++ wm) (List.perm_append_comm) ?_
  refine A_aload_n C 2 dL_law_581 rfl rfl ?_
  refine A_aload_n C 0 dL_law_582 rfl rfl ?_
  refine A_iload_n C 3 dL_law_583 rfl rfl ?_
  refine A_iconst C (1 : Int32) dL_law_584 (by decide) ?_
  refine A_iadd C dL_law_585 ?_
  refine A_sld C hS hbl (4 * n + 1) (nI_add (4 * n) 1) (by omega) hL dL_law_586 ?_
  refine A_vI (As := [.int (xs (4 * n + 1))]) (rest := [.int r]) C 0 hN mw_6_fits ml_L_91 im_6_fits sl_6_fits (rm1 rfl rfl) (List.Perm.refl _) hfm (ci := 6) rfl rfl rfl (Nat.le_of_ble_eq_true rfl) dL_law_587 (fun x w2 hw2 => ?_)
  obtain ⟨rfl, hm1⟩ := hΨ x w2 hw2
  refine A_icmp_eq (a := some ()) (b := none) (r := ()) C 754 dL_law_590 (by decide) (by rw [if_pos rfl]) (fun _ => ?_) (fun h => by cases h)
  exact K σ2 b2 w1 w2 h3 hx1 hm1
theorem law_odds {b L n ox om : Nat} {xs : Nat → Int32} {σ : XS} {bm : BV} {wx wm : va_W} {Rel : XS → BV → Nat → Prop} (C : CX p s m #[Value.ref b] meth c cL_law 4 ret RL D t) (hS : va_X b L xs s s.heap) (hbl : b < s.heap.size) (hL : L ≤ 256) (hn : 4 * n + 4 ≤ L) (hx : HasX t σ ox wx) (hm : HasM t bm om wm) (hr : Rel σ bm n) (hs : Sim3 Rel F_odds G_odds) (K : ∀ (σ2 : XS) (b2 : BV) (w1 w2 : va_W), Rel σ2 b2 (n + 1) → HasX t σ2 ox w1 → HasM t b2 om w2 → At p l e room_1 s m #[Value.ref b] below meth c D 4 [] (lw_Z below #[Value.ref b] s) 172 1856 754 [(0, .ref b), (1, .ref ox), (2, .ref om), (3, .int (nI (4 * n)))] [] (w1 ++ w2)) : At p l e room_1 s m #[Value.ref b] below meth c D 4 [] (lw_Z below #[Value.ref b] s) 172 1856 595 [(0, .ref b), (1, .ref ox), (2, .ref om), (3, .int (nI (4 * n)))] [] (wx ++ wm) := by
  obtain ⟨r, σ2, b2, h1, h2, h3⟩ := hs σ bm n (xs (4 * n + 1)) (xs (4 * n + 2)) (xs (4 * n + 3)) (by omega) hr
  obtain ⟨Φ, hM, hΦ⟩ := C_odds l D t σ ox wx (xs (4 * n + 1)) (xs (4 * n + 2)) (xs (4 * n + 3)) hx h1
  obtain ⟨Ψ, hN, hΨ⟩ := D_odds l D t bm om wm (xs (4 * n + 1)) (xs (4 * n + 2)) (xs (4 * n + 3)) hm h2
  obtain ⟨fx, hfx⟩ := hx.recv
  obtain ⟨fm, hfm⟩ := hm.recv
  refine A_aload_n C 1 dL_law_595 rfl rfl ?_
  refine A_aload_n C 0 dL_law_596 rfl rfl ?_
  refine A_iload_n C 3 dL_law_597 rfl rfl ?_
  refine A_iconst C (1 : Int32) dL_law_598 (by decide) ?_
  refine A_iadd C dL_law_599 ?_
  refine A_sld C hS hbl (4 * n + 1) (nI_add (4 * n) 1) (by omega) hL dL_law_600 ?_
  refine A_aload_n C 0 dL_law_601 rfl rfl ?_
  refine A_iload_n C 3 dL_law_602 rfl rfl ?_
  refine A_iconst C (2 : Int32) dL_law_603 (by decide) ?_
  refine A_iadd C dL_law_604 ?_
  refine A_sld C hS hbl (4 * n + 2) (nI_add (4 * n) 2) (by omega) hL dL_law_605 ?_
  refine A_aload_n C 0 dL_law_606 rfl rfl ?_
  refine A_iload_n C 3 dL_law_607 rfl rfl ?_
  refine A_iconst C (3 : Int32) dL_law_608 (by decide) ?_
  refine A_iadd C dL_law_609 ?_
  refine A_sld C hS hbl (4 * n + 3) (nI_add (4 * n) 3) (by omega) hL dL_law_610 ?_
  refine A_vI (As := [.int (xs (4 * n + 1)), .int (xs (4 * n + 2)), .int (xs (4 * n + 3))]) (rest := []) C 0 hM mw_5_odds ml_L_92 im_5_odds sl_5_odds (rm1 rfl rfl) (List.perm_append_comm) hfx (ci := 5) rfl rfl rfl (Nat.le_of_ble_eq_true rfl) dL_law_611 (fun x w1 hw1 => ?_)
  obtain ⟨rfl, hx1⟩ := hΦ x w1 hw1
  refine A_perm (ws' := w1 ++ wm) (List.perm_append_comm) ?_
  refine A_aload_n C 2 dL_law_614 rfl rfl ?_
  refine A_aload_n C 0 dL_law_615 rfl rfl ?_
  refine A_iload_n C 3 dL_law_616 rfl rfl ?_
  refine A_iconst C (1 : Int32) dL_law_617 (by decide) ?_
  refine A_iadd C dL_law_618 ?_
  refine A_sld C hS hbl (4 * n + 1) (nI_add (4 * n) 1) (by omega) hL dL_law_619 ?_
  refine A_aload_n C 0 dL_law_620 rfl rfl ?_
  refine A_iload_n C 3 dL_law_621 rfl rfl ?_
  refine A_iconst C (2 : Int32) dL_law_622 (by decide) ?_
  refine A_iadd C dL_law_623 ?_
  refine A_sld C hS hbl (4 * n + 2) (nI_add (4 * n) 2) (by omega) hL dL_law_624 ?_
  refine A_aload_n C 0 dL_law_625 rfl rfl ?_
  refine A_iload_n C 3 dL_law_626 rfl rfl ?_
  refine A_iconst C (3 : Int32) dL_law_627 (by decide) ?_
  refine A_iadd C dL_law_628 ?_
  refine A_sld C hS hbl (4 * n + 3) (nI_add (4 * n) 3) (by omega) hL dL_law_629 ?_
  refine A_vI (As := [.int (xs (4 * n + 1)), .int (xs (4 * n + 2)), .int (xs (4 * n + 3))]) (rest := [.int r]) C 0 hN mw_6_odds ml_L_96 im_6_odds sl_6_odds (rm1 rfl rfl) (List.Perm.refl _) hfm (ci := 6) rfl rfl rfl (Nat.le_of_ble_eq_true rfl) dL_law_630 (fun x w2 hw2 => ?_)
  obtain ⟨rfl, hm1⟩ := hΨ x w2 hw2
  refine A_icmp_eq (a := some ()) (b := none) (r := ()) C 754 dL_law_633 (by decide) (by rw [if_pos rfl]) (fun _ => ?_) (fun h => by cases h)
  exact K σ2 b2 w1 w2 h3 hx1 hm1
theorem law_mark {b L n ox om : Nat} {xs : Nat → Int32} {σ : XS} {bm : BV} {wx wm : va_W} {Rel : XS → BV → Nat → Prop} (C : CX p s m #[Value.ref b] meth c cL_law 4 ret RL D t) (hS : va_X b L xs s s.heap) (hbl : b < s.heap.size) (hL : L ≤ 256) (hn : 4 * n + 4 ≤ L) (hx : HasX t σ ox wx) (hm : HasM t bm om wm) (hr : Rel σ bm n) (hs : Sim2 Rel F_mark G_mark) (K : ∀ (σ2 : XS) (b2 : BV) (w1 w2 : va_W), Rel σ2 b2 (n + 1) → HasX t σ2 ox w1 → HasM t b2 om w2 → At p l e room_1 s m #[Value.ref b] below meth c D 4 [] (lw_Z below #[Value.ref b] s) 172 1856 754 [(0, .ref b), (1, .ref ox), (2, .ref om), (3, .int (nI (4 * n)))] [] (w1 ++ w2)) : At p l e room_1 s m #[Value.ref b] below meth c D 4 [] (lw_Z below #[Value.ref b] s) 172 1856 638 [(0, .ref b), (1, .ref ox), (2, .ref om), (3, .int (nI (4 * n)))] [] (wx ++ wm) := by
  obtain ⟨r, σ2, b2, h1, h2, h3⟩ := hs σ bm n (xs (4 * n + 1)) (xs (4 * n + 2)) (by omega) hr
  obtain ⟨Φ, hM, hΦ⟩ := C_mark l D t σ ox wx (xs (4 * n + 1)) (xs (4 * n + 2)) hx h1
  obtain ⟨Ψ, hN, hΨ⟩ := D_mark l D t bm om wm (xs (4 * n + 1)) (xs (4 * n + 2)) hm h2
  obtain ⟨fx, hfx⟩ := hx.recv
  obtain ⟨fm, hfm⟩ := hm.recv
  refine A_aload_n C 1 dL_law_638 rfl rfl ?_
  refine A_aload_n C 0 dL_law_639 rfl rfl ?_
  refine A_iload_n C 3 dL_law_640 rfl rfl ?_
  refine A_iconst C (1 : Int32) dL_law_641 (by decide) ?_
  refine A_iadd C dL_law_642 ?_
  refine A_sld C hS hbl (4 * n + 1) (nI_add (4 * n) 1) (by omega) hL dL_law_643 ?_
  refine A_aload_n C 0 dL_law_644 rfl rfl ?_
  refine A_iload_n C 3 dL_law_645 rfl rfl ?_
  refine A_iconst C (2 : Int32) dL_law_646 (by decide) ?_
  refine A_iadd C dL_law_647 ?_
  refine A_sld C hS hbl (4 * n + 2) (nI_add (4 * n) 2) (by omega) hL dL_law_648 ?_
  refine A_vI (As := [.int (xs (4 * n + 1)), .int (xs (4 * n + 2))]) (rest := []) C 0 hM mw_5_mark ml_L_97 im_5_mark sl_5_mark (rm1 rfl rfl) (List.perm_append_comm) hfx (ci := 5) rfl rfl rfl (Nat.le_of_ble_eq_true rfl) dL_law_649 (fun x w1 hw1 => ?_)
  obtain ⟨rfl, hx1⟩ := hΦ x w1 hw1
  refine A_perm (ws' := w1 ++ wm) (List.perm_append_comm) ?_
  refine A_aload_n C 2 dL_law_652 rfl rfl ?_
  refine A_aload_n C 0 dL_law_653 rfl rfl ?_
  refine A_iload_n C 3 dL_law_654 rfl rfl ?_
  refine A_iconst C (1 : Int32) dL_law_655 (by decide) ?_
  refine A_iadd C dL_law_656 ?_
  refine A_sld C hS hbl (4 * n + 1) (nI_add (4 * n) 1) (by omega) hL dL_law_657 ?_
  refine A_aload_n C 0 dL_law_658 rfl rfl ?_
  refine A_iload_n C 3 dL_law_659 rfl rfl ?_
  refine A_iconst C (2 : Int32) dL_law_660 (by decide) ?_
  refine A_iadd C dL_law_661 ?_
  refine A_sld C hS hbl (4 * n + 2) (nI_add (4 * n) 2) (by omega) hL dL_law_662 ?_
  refine A_vI (As := [.int (xs (4 * n + 1)), .int (xs (4 * n + 2))]) (rest := [.int r]) C 0 hN mw_6_mark ml_L_100 im_6_mark sl_6_mark (rm1 rfl rfl) (List.Perm.refl _) hfm (ci := 6) rfl rfl rfl (Nat.le_of_ble_eq_true rfl) dL_law_663 (fun x w2 hw2 => ?_)
  obtain ⟨rfl, hm1⟩ := hΨ x w2 hw2
  refine A_icmp_eq (a := some ()) (b := none) (r := ()) C 754 dL_law_666 (by decide) (by rw [if_pos rfl]) (fun _ => ?_) (fun h => by cases h)
  exact K σ2 b2 w1 w2 h3 hx1 hm1
theorem law_keep {b L n ox om : Nat} {xs : Nat → Int32} {σ : XS} {bm : BV} {wx wm : va_W} {Rel : XS → BV → Nat → Prop} (C : CX p s m #[Value.ref b] meth c cL_law 4 ret RL D t) (hS : va_X b L xs s s.heap) (hbl : b < s.heap.size) (hL : L ≤ 256) (hn : 4 * n + 4 ≤ L) (hx : HasX t σ ox wx) (hm : HasM t bm om wm) (hr : Rel σ bm n) (hs : Sim1 Rel F_keep G_keep) (K : ∀ (σ2 : XS) (b2 : BV) (w1 w2 : va_W), Rel σ2 b2 (n + 1) → HasX t σ2 ox w1 → HasM t b2 om w2 → At p l e room_1 s m #[Value.ref b] below meth c D 4 [] (lw_Z below #[Value.ref b] s) 172 1856 754 [(0, .ref b), (1, .ref ox), (2, .ref om), (3, .int (nI (4 * n)))] [] (w1 ++ w2)) : At p l e room_1 s m #[Value.ref b] below meth c D 4 [] (lw_Z below #[Value.ref b] s) 172 1856 671 [(0, .ref b), (1, .ref ox), (2, .ref om), (3, .int (nI (4 * n)))] [] (wx ++ wm) := by
  obtain ⟨r, σ2, b2, h1, h2, h3⟩ := hs σ bm n (xs (4 * n + 1)) (by omega) hr
  obtain ⟨Φ, hM, hΦ⟩ := C_keep l D t σ ox wx (xs (4 * n + 1)) hx h1
  obtain ⟨Ψ, hN, hΨ⟩ := D_keep l D t bm om wm (xs (4 * n + 1)) hm h2
  obtain ⟨fx, hfx⟩ := hx.recv
  obtain ⟨fm, hfm⟩ := hm.recv
  refine A_aload_n C 1 dL_law_671 rfl rfl ?_
  refine A_aload_n C 0 dL_law_672 rfl rfl ?_
  refine A_iload_n C 3 dL_law_673 rfl rfl ?_
  refine A_iconst C (1 : Int32) dL_law_674 (by decide) ?_
  refine A_iadd C dL_law_675 ?_
  refine A_sld C hS hbl (4 * n + 1) (nI_add (4 * n) 1) (by omega) hL dL_law_676 ?_
  refine A_vI (As := [.int (xs (4 * n + 1))]) (rest := []) C 0 hM mw_5_keep ml_L_101 im_5_keep sl_5_keep (rm1 rfl rfl) (List.perm_append_comm) hfx (ci := 5) rfl rfl rfl (Nat.le_of_ble_eq_true rfl) dL_law_677 (fun x w1 hw1 => ?_)
  obtain ⟨rfl, hx1⟩ := hΦ x w1 hw1
  refine A_perm (ws' := w1 ++ wm) (List.perm_append_comm) ?_
  refine A_aload_n C 2 dL_law_680 rfl rfl ?_
  refine A_aload_n C 0 dL_law_681 rfl rfl ?_
  refine A_iload_n C 3 dL_law_682 rfl rfl ?_
  refine A_iconst C (1 : Int32) dL_law_683 (by decide) ?_
  refine A_iadd C dL_law_684 ?_
  refine A_sld C hS hbl (4 * n + 1) (nI_add (4 * n) 1) (by omega) hL dL_law_685 ?_
  refine A_vI (As := [.int (xs (4 * n + 1))]) (rest := [.int r]) C 0 hN mw_6_keep ml_L_104 im_6_keep sl_6_keep (rm1 rfl rfl) (List.Perm.refl _) hfm (ci := 6) rfl rfl rfl (Nat.le_of_ble_eq_true rfl) dL_law_686 (fun x w2 hw2 => ?_)
  obtain ⟨rfl, hm1⟩ := hΨ x w2 hw2
  refine A_icmp_eq (a := some ()) (b := none) (r := ()) C 754 dL_law_689 (by decide) (by rw [if_pos rfl]) (fun _ => ?_) (fun h => by cases h)
  exact K σ2 b2 w1 w2 h3 hx1 hm1
theorem law_back {b L n ox om : Nat} {xs : Nat → Int32} {σ : XS} {bm : BV} {wx wm : va_W} {Rel : XS → BV → Nat → Prop} (C : CX p s m #[Value.ref b] meth c cL_law 4 ret RL D t) (hS : va_X b L xs s s.heap) (hbl : b < s.heap.size) (hL : L ≤ 256) (hn : 4 * n + 4 ≤ L) (hx : HasX t σ ox wx) (hm : HasM t bm om wm) (hr : Rel σ bm n) (hs : Sim1 Rel F_back G_back) (K : ∀ (σ2 : XS) (b2 : BV) (w1 w2 : va_W), Rel σ2 b2 (n + 1) → HasX t σ2 ox w1 → HasM t b2 om w2 → At p l e room_1 s m #[Value.ref b] below meth c D 4 [] (lw_Z below #[Value.ref b] s) 172 1856 754 [(0, .ref b), (1, .ref ox), (2, .ref om), (3, .int (nI (4 * n)))] [] (w1 ++ w2)) : At p l e room_1 s m #[Value.ref b] below meth c D 4 [] (lw_Z below #[Value.ref b] s) 172 1856 694 [(0, .ref b), (1, .ref ox), (2, .ref om), (3, .int (nI (4 * n)))] [] (wx ++ wm) := by
  obtain ⟨r, σ2, b2, h1, h2, h3⟩ := hs σ bm n (xs (4 * n + 1)) (by omega) hr
  obtain ⟨Φ, hM, hΦ⟩ := C_back l D t σ ox wx (xs (4 * n + 1)) hx h1
  obtain ⟨Ψ, hN, hΨ⟩ := D_back l D t bm om wm (xs (4 * n + 1)) hm h2
  obtain ⟨fx, hfx⟩ := hx.recv
  obtain ⟨fm, hfm⟩ := hm.recv
  refine A_aload_n C 1 dL_law_694 rfl rfl ?_
  refine A_aload_n C 0 dL_law_695 rfl rfl ?_
  refine A_iload_n C 3 dL_law_696 rfl rfl ?_
  refine A_iconst C (1 : Int32) dL_law_697 (by decide) ?_
  refine A_iadd C dL_law_698 ?_
  refine A_sld C hS hbl (4 * n + 1) (nI_add (4 * n) 1) (by omega) hL dL_law_699 ?_
  refine A_vI (As := [.int (xs (4 * n + 1))]) (rest := []) C 0 hM mw_5_back ml_L_105 im_5_back sl_5_back (rm1 rfl rfl) (List.perm_append_comm) hfx (ci := 5) rfl rfl rfl (Nat.le_of_ble_eq_true rfl) dL_law_700 (fun x w1 hw1 => ?_)
  obtain ⟨rfl, hx1⟩ := hΦ x w1 hw1
  refine A_perm (ws' := w1 ++ wm) (List.perm_append_comm) ?_
  refine A_aload_n C 2 dL_law_703 rfl rfl ?_
  refine A_aload_n C 0 dL_law_704 rfl rfl ?_
  refine A_iload_n C 3 dL_law_705 rfl rfl ?_
  refine A_iconst C (1 : Int32) dL_law_706 (by decide) ?_
  refine A_iadd C dL_law_707 ?_
  refine A_sld C hS hbl (4 * n + 1) (nI_add (4 * n) 1) (by omega) hL dL_law_708 ?_
  refine A_vI (As := [.int (xs (4 * n + 1))]) (rest := [.int r]) C 0 hN mw_6_back ml_L_108 im_6_back sl_6_back (rm1 rfl rfl) (List.Perm.refl _) hfm (ci := 6) rfl rfl rfl (Nat.le_of_ble_eq_true rfl) dL_law_709 (fun x w2 hw2 => ?_)
  obtain ⟨rfl, hm1⟩ := hΨ x w2 hw2
  refine A_icmp_eq (a := some ()) (b := none) (r := ()) C 754 dL_law_712 (by decide) (by rw [if_pos rfl]) (fun _ => ?_) (fun h => by cases h)
  exact K σ2 b2 w1 w2 h3 hx1 hm1
theorem law_count {b L n ox om : Nat} {xs : Nat → Int32} {σ : XS} {bm : BV} {wx wm : va_W} {Rel : XS → BV → Nat → Prop} (C : CX p s m #[Value.ref b] meth c cL_law 4 ret RL D t) (hS : va_X b L xs s s.heap) (hbl : b < s.heap.size) (hL : L ≤ 256) (hn : 4 * n + 4 ≤ L) (hx : HasX t σ ox wx) (hm : HasM t bm om wm) (hr : Rel σ bm n) (hs : Sim1 Rel F_count G_count) (K : ∀ (σ2 : XS) (b2 : BV) (w1 w2 : va_W), Rel σ2 b2 (n + 1) → HasX t σ2 ox w1 → HasM t b2 om w2 → At p l e room_1 s m #[Value.ref b] below meth c D 4 [] (lw_Z below #[Value.ref b] s) 172 1856 754 [(0, .ref b), (1, .ref ox), (2, .ref om), (3, .int (nI (4 * n)))] [] (w1 ++ w2)) : At p l e room_1 s m #[Value.ref b] below meth c D 4 [] (lw_Z below #[Value.ref b] s) 172 1856 717 [(0, .ref b), (1, .ref ox), (2, .ref om), (3, .int (nI (4 * n)))] [] (wx ++ wm) := by
  obtain ⟨r, σ2, b2, h1, h2, h3⟩ := hs σ bm n (xs (4 * n + 1)) (by omega) hr
  obtain ⟨Φ, hM, hΦ⟩ := C_count l D t σ ox wx (xs (4 * n + 1)) hx h1
  obtain ⟨Ψ, hN, hΨ⟩ := D_count l D t bm om wm (xs (4 * n + 1)) hm h2
  obtain ⟨fx, hfx⟩ := hx.recv
  obtain ⟨fm, hfm⟩ := hm.recv
  refine A_aload_n C 1 dL_law_717 rfl rfl ?_
  refine A_aload_n C 0 dL_law_718 rfl rfl ?_
  refine A_iload_n C 3 dL_law_719 rfl rfl ?_
  refine A_iconst C (1 : Int32) dL_law_720 (by decide) ?_
  refine A_iadd C dL_law_721 ?_
  refine A_sld C hS hbl (4 * n + 1) (nI_add (4 * n) 1) (by omega) hL dL_law_722 ?_
  refine A_vI (As := [.int (xs (4 * n + 1))]) (rest := []) C 0 hM mw_5_count ml_L_109 im_5_count sl_5_count (rm1 rfl rfl) (List.perm_append_comm) hfx (ci := 5) rfl rfl rfl (Nat.le_of_ble_eq_true rfl) dL_law_723 (fun x w1 hw1 => ?_)
  obtain ⟨rfl, hx1⟩ := hΦ x w1 hw1
  refine A_perm (ws' := w1 ++ wm) (List.perm_append_comm) ?_
  refine A_aload_n C 2 dL_law_726 rfl rfl ?_
  refine A_aload_n C 0 dL_law_727 rfl rfl ?_
  refine A_iload_n C 3 dL_law_728 rfl rfl ?_
  refine A_iconst C (1 : Int32) dL_law_729 (by decide) ?_
  refine A_iadd C dL_law_730 ?_
  refine A_sld C hS hbl (4 * n + 1) (nI_add (4 * n) 1) (by omega) hL dL_law_731 ?_
  refine A_vI (As := [.int (xs (4 * n + 1))]) (rest := [.int r]) C 0 hN mw_6_count ml_L_112 im_6_count sl_6_count (rm1 rfl rfl) (List.Perm.refl _) hfm (ci := 6) rfl rfl rfl (Nat.le_of_ble_eq_true rfl) dL_law_732 (fun x w2 hw2 => ?_)
  obtain ⟨rfl, hm1⟩ := hΨ x w2 hw2
  refine A_icmp_eq (a := some ()) (b := none) (r := ()) C 754 dL_law_735 (by decide) (by rw [if_pos rfl]) (fun _ => ?_) (fun h => by cases h)
  exact K σ2 b2 w1 w2 h3 hx1 hm1
theorem lcmp_self (x : Int64) : lg_cmp x x = 0 := by
  unfold lg_cmp
  simp
theorem law_trace {b L n ox om : Nat} {xs : Nat → Int32} {σ : XS} {bm : BV} {wx wm : va_W} {Rel : XS → BV → Nat → Prop} (C : CX p s m #[Value.ref b] meth c cL_law 4 ret RL D t) (hS : va_X b L xs s s.heap) (hbl : b < s.heap.size) (hL : L ≤ 256) (hn : 4 * n + 4 ≤ L) (hx : HasX t σ ox wx) (hm : HasM t bm om wm) (hr : Rel σ bm n) (hs : Sim0 Rel F_trace G_trace) (K : ∀ (σ2 : XS) (b2 : BV) (w1 w2 : va_W), Rel σ2 b2 (n + 1) → HasX t σ2 ox w1 → HasM t b2 om w2 → At p l e room_1 s m #[Value.ref b] below meth c D 4 [] (lw_Z below #[Value.ref b] s) 172 1856 754 [(0, .ref b), (1, .ref ox), (2, .ref om), (3, .int (nI (4 * n)))] [] (w1 ++ w2)) : At p l e room_1 s m #[Value.ref b] below meth c D 4 [] (lw_Z below #[Value.ref b] s) 172 1856 740 [(0, .ref b), (1, .ref ox), (2, .ref om), (3, .int (nI (4 * n)))] [] (wx ++ wm) := by
  obtain ⟨r, σ2, b2, h1, h2, h3⟩ := hs σ bm n (by omega) hr
  obtain ⟨Φ, hM, hΦ⟩ := C_trace l D t σ ox wx hx h1
  obtain ⟨Ψ, hN, hΨ⟩ := D_trace l D t bm om wm hm h2
  obtain ⟨fx, hfx⟩ := hx.recv
  obtain ⟨fm, hfm⟩ := hm.recv
  refine A_aload_n C 1 dL_law_740 rfl rfl ?_
  refine A_vL (As := []) (rest := []) C 0 hM mw_5_trace ml_L_113 im_5_trace sl_5_trace (rm1 rfl rfl) (List.perm_append_comm) hfx (ci := 5) rfl rfl rfl (Nat.le_of_ble_eq_true rfl) dL_law_741 (fun x w1 hw1 => ?_)
  obtain ⟨rfl, hx1⟩ := hΦ x w1 hw1
  refine A_perm (ws' := w1 ++ wm) (List.perm_append_comm) ?_
  refine A_aload_n C 2 dL_law_744 rfl rfl ?_
  refine A_vL (As := []) (rest := [.long r]) C 0 hN mw_6_trace ml_L_117 im_6_trace sl_6_trace (rm1 rfl rfl) (List.Perm.refl _) hfm (ci := 6) rfl rfl rfl (Nat.le_of_ble_eq_true rfl) dL_law_745 (fun x w2 hw2 => ?_)
  obtain ⟨rfl, hm1⟩ := hΨ x w2 hw2
  refine A_lcmp C dL_law_748 ?_
  refine A_if_eq (a := some ()) (b := none) (r := ()) C 754 dL_law_749 (by decide) (by rw [if_pos (lcmp_self r)]) (fun _ => ?_) (fun h => by cases h)
  exact K σ2 b2 w1 w2 h3 hx1 hm1
end LW
