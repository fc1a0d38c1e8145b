-- blocks' values; contracts; the frame by permutation; rows for fields, rows of numbers, calls, ends
abbrev BV : Type := (Nat → Int32) × (Nat → Nat → Int32) × Int64
def gI (S : BV) (k : Nat) : Int32 := S.1 k
def gA (S : BV) (k : Nat) (i : Int32) : Int32 := S.2.1 k i.toNatClampNeg
def gJ (S : BV) : Int64 := S.2.2
def pI (S : BV) (k : Nat) (v : Int32) : BV := (upd S.1 k v, S.2)
def pA (S : BV) (k : Nat) (i v : Int32) : BV := (S.1, va_up S.2.1 k (upd (S.2.1 k) i.toNatClampNeg v), S.2.2)
def pJ (S : BV) (v : Int64) : BV := (S.1, S.2.1, v)
def rmD (d : Nat) : Room := { frames := d, cells := 0, slots := 0, locals := 34 * d }
def PoI (D : va_G) (ws : va_W) (sz : Nat) (Φ : Int32 → va_W → Prop) : Array Value → State → Outcome → State → Prop := va_Qi Φ (fun u t => va_P D classes u t.heap ∧ va_D (va_A ws sz) u) (va_A ws sz)
def PoL (D : va_G) (ws : va_W) (sz : Nat) (Φ : Int64 → va_W → Prop) : Array Value → State → Outcome → State → Prop := va_Ql Φ (fun u t => va_P D classes u t.heap ∧ va_D (va_A ws sz) u) (va_A ws sz)
def PoV (D : va_G) (ws : va_W) (sz : Nat) (Φ : va_W → Prop) : Array Value → State → Outcome → State → Prop := va_Qv Φ (fun u t => va_P D classes u t.heap ∧ va_D (va_A ws sz) u) (va_A ws sz)
def PoR (D : va_G) (ws : va_W) (sz : Nat) (Φ : Nat → va_W → Prop) : Array Value → State → Outcome → State → Prop := va_Qr (fun (_ : va_W) => True) (fun u a t => Φ a u ∧ va_P D classes u t.heap ∧ va_D (va_A ws sz) u) (va_A ws sz)
/-- contracts: from the world ws the method answers x and leaves the world w with Φ x w -/
def MetI (l : Launch) (y : MethodName) (cb : ByteArray) (mL : Nat) (ret : Option FieldType) (rm : Room) (D : va_G) (t : ty4) (av : List Value) (ws : va_W) (Φ : Int32 → va_W → Prop) : Prop := ∀ sz : Nat, Met l y (Cond.code y cb mL ret :: GW) rm (PreW D t av ws sz) (PoI D ws sz Φ) rm.cells rm.slots (va_A ws sz)
def MetL (l : Launch) (y : MethodName) (cb : ByteArray) (mL : Nat) (ret : Option FieldType) (rm : Room) (D : va_G) (t : ty4) (av : List Value) (ws : va_W) (Φ : Int64 → va_W → Prop) : Prop := ∀ sz : Nat, Met l y (Cond.code y cb mL ret :: GW) rm (PreW D t av ws sz) (PoL D ws sz Φ) rm.cells rm.slots (va_A ws sz)
def MetV (l : Launch) (y : MethodName) (cb : ByteArray) (mL : Nat) (ret : Option FieldType) (rm : Room) (D : va_G) (t : ty4) (av : List Value) (ws : va_W) (Φ : va_W → Prop) : Prop := ∀ sz : Nat, Met l y (Cond.code y cb mL ret :: GW) rm (PreW D t av ws sz) (PoV D ws sz Φ) rm.cells rm.slots (va_A ws sz)
def MetR (l : Launch) (y : MethodName) (cb : ByteArray) (mL : Nat) (ret : Option FieldType) (rm : Room) (D : va_G) (t : ty4) (av : List Value) (ws : va_W) (Φ : Nat → va_W → Prop) : Prop := ∀ sz : Nat, Met l y (Cond.code y cb mL ret :: GW) rm (PreW D t av ws sz) (PoR D ws sz Φ) rm.cells rm.slots (va_A ws sz)
abbrev QI (below : List Frame) (args : Array Value) (s : State) (D : va_G) (w0 : va_W) (Φ : Int32 → va_W → Prop) (mc ms : Nat) : State → Prop := MQ below (PoI D w0 s.heap.size Φ) args s mc ms (va_A w0 s.heap.size)
abbrev QL (below : List Frame) (args : Array Value) (s : State) (D : va_G) (w0 : va_W) (Φ : Int64 → va_W → Prop) (mc ms : Nat) : State → Prop := MQ below (PoL D w0 s.heap.size Φ) args s mc ms (va_A w0 s.heap.size)
abbrev QV (below : List Frame) (args : Array Value) (s : State) (D : va_G) (w0 : va_W) (Φ : va_W → Prop) (mc ms : Nat) : State → Prop := MQ below (PoV D w0 s.heap.size Φ) args s mc ms (va_A w0 s.heap.size)
abbrev QR (below : List Frame) (args : Array Value) (s : State) (D : va_G) (w0 : va_W) (Φ : Nat → va_W → Prop) (mc ms : Nat) : State → Prop := MQ below (PoR D w0 s.heap.size Φ) args s mc ms (va_A w0 s.heap.size)
theorem preW_blind {D : va_G} {t : ty4} {av : List Value} {ws : va_W} {sz : Nat} : FrameBlind (PreW D t av ws sz) := by
  intro a U g mk h
  obtain ⟨h1, h2, h3, h4, h5⟩ := h
  exact ⟨h1, h2, h3, ⟨va_K.moved (u := U) (U := U.calling g mk a) (Vm.Alike.refl U.vm) h4.1, NW.same (u := U) (U := U.calling g mk a) rfl h4.2.1, va_AO.moved (u := U) (U := U.calling g mk a) (Vm.Alike.refl U.vm) h4.2.2.1, va_AO.moved (u := U) (U := U.calling g mk a) (Vm.Alike.refl U.vm) h4.2.2.2⟩, h5⟩
theorem vaP_iff {D : va_G} {cl : List vw_C} {ws : va_W} {H : Heap} : va_P D cl ws H ↔ ∀ q ∈ ws, va_at D cl q H := ⟨fun h q hq => by obtain ⟨k, hk⟩ := List.getElem?_of_mem hq; exact h k q hk, fun h k q hk => h q (List.mem_of_getElem? hk)⟩
theorem vaD_iff {A : Nat → Prop} {ws : va_W} : va_D A ws ↔ (ws.map (fun q => q.1)).Nodup ∧ ∀ q ∈ ws, A q.1 := by
  constructor
  · intro h
    refine ⟨?_, fun q hq => by obtain ⟨k, hk⟩ := List.getElem?_of_mem hq; exact h.2 k q hk⟩
    rw [List.nodup_iff_pairwise_ne, List.pairwise_iff_getElem]
    intro i j hi hj hij he
    have hi' : i < ws.length := by simpa using hi
    have hj' : j < ws.length := by simpa using hj
    rw [List.getElem_map, List.getElem_map] at he
    have := h.1 i j ws[i] ws[j] (List.getElem?_eq_getElem hi') (List.getElem?_eq_getElem hj') he
    omega
  · intro h
    refine ⟨fun i j p q hp hq he => ?_, fun k q hk => h.2 q (List.mem_of_getElem? hk)⟩
    have hn := h.1
    rw [List.nodup_iff_pairwise_ne, List.pairwise_iff_getElem] at hn
    obtain ⟨hi, hp⟩ := List.getElem?_eq_some_iff.mp hp
    obtain ⟨hj, hq⟩ := List.getElem?_eq_some_iff.mp hq
    rcases Nat.lt_trichotomy i j with h1 | h1 | h1
    · exact absurd (by rw [List.getElem_map, List.getElem_map, hp, hq]; exact he) (hn i j (by simpa using hi) (by simpa using hj) h1)
    · exact h1
    · exact absurd (by rw [List.getElem_map, List.getElem_map, hp, hq]; exact he.symm) (hn j i (by simpa using hj) (by simpa using hi) h1)
theorem vaP_perm {D : va_G} {cl : List vw_C} {ws ws' : va_W} {H : Heap} (h : ws.Perm ws') (hP : va_P D cl ws H) : va_P D cl ws' H := vaP_iff.mpr (fun q hq => vaP_iff.mp hP q (h.mem_iff.mpr hq))
theorem vaD_perm {A : Nat → Prop} {ws ws' : va_W} (h : ws.Perm ws') (hD : va_D A ws) : va_D A ws' := vaD_iff.mpr ⟨(h.map _).nodup (vaD_iff.mp hD).1, fun q hq => (vaD_iff.mp hD).2 q (h.mem_iff.mpr hq)⟩
theorem cut_pre {D : va_G} {cl : List vw_C} {A : Nat → Prop} {ws wr wc : va_W} {H : Heap} (h : ws.Perm (wr ++ wc)) (hP : va_P D cl ws H) (hD : va_D A ws) : va_P D cl wc H ∧ va_D A wc := by
  have hP' := vaP_iff.mp (vaP_perm h hP)
  have hD' := vaD_iff.mp (vaD_perm h hD)
  refine ⟨vaP_iff.mpr (fun q hq => hP' q (List.mem_append_right _ hq)), vaD_iff.mpr ⟨?_, fun q hq => hD'.2 q (List.mem_append_right _ hq)⟩⟩
  have := hD'.1
  rw [List.map_append] at this
  exact (List.nodup_append.mp this).2.1
theorem cut_free {D : va_G} {cl : List vw_C} {A : Nat → Prop} {wc : va_W} {H0 H : Heap} {locs : List Loc} (hD : va_D A wc) (hS : va_S A H0 H locs) (hA : ∀ q, H0.size ≤ q → A q) : ∀ q, va_A wc H.size q → A q := by
  intro q h
  rcases h with ⟨k, e, h⟩ | h
  · exact hD.2 k (q, e) h
  · exact hA q (Nat.le_trans hS.1 h)
theorem cut_post {D : va_G} {cl : List vw_C} {A : Nat → Prop} {ws wr wc w1 : va_W} {H H1 : Heap} (h : ws.Perm (wr ++ wc)) (hP : va_P D cl ws H) (hD : va_D A ws) (hk : ∀ q : Nat, q < H.size → ¬ va_A wc H.size q → H1[q]? = H[q]?) (hF : ∀ q, va_A wc H.size q → A q) (hP1 : va_P D cl w1 H1) (hD1 : va_D (va_A wc H.size) w1) : va_P D cl (wr ++ w1) H1 ∧ va_D A (wr ++ w1) := by
  have hP' := vaP_iff.mp (vaP_perm h hP)
  have hD' := vaD_iff.mp (vaD_perm h hD)
  have hD1' := vaD_iff.mp hD1
  have hnd := hD'.1
  rw [List.map_append] at hnd
  obtain ⟨n1, n2, n3⟩ := List.nodup_append.mp hnd
  have apart : ∀ q ∈ wr, q.1 < H.size ∧ ¬ va_A wc H.size q.1 := by
    intro q hq
    have hlt := (hP' q (List.mem_append_left _ hq)).lt
    refine ⟨hlt, fun hh => ?_⟩
    rcases hh with ⟨k, e, hh⟩ | hh
    · exact n3 q.1 (List.mem_map.mpr ⟨q, hq, rfl⟩) q.1 (List.mem_map.mpr ⟨(q.1, e), List.mem_of_getElem? hh, rfl⟩) rfl
    · omega
  refine ⟨vaP_iff.mpr (fun q hq => ?_), vaD_iff.mpr ⟨?_, fun q hq => ?_⟩⟩
  · rcases List.mem_append.mp hq with hq | hq
    · exact (hP' q (List.mem_append_left _ hq)).kept (hk q.1 (apart q hq).1 (apart q hq).2)
    · exact vaP_iff.mp hP1 q hq
  · rw [List.map_append]
    refine List.nodup_append.mpr ⟨n1, hD1'.1, ?_⟩
    intro a ha b hb hab
    obtain ⟨q, hq, rfl⟩ := List.mem_map.mp ha
    obtain ⟨q2, hq2, rfl⟩ := List.mem_map.mp hb
    exact (apart q hq).2 (by rw [hab]; exact hD1'.2 q2 hq2)
  · rcases List.mem_append.mp hq with hq | hq
    · exact hD'.2 q (List.mem_append_left _ hq)
    · exact hF _ (hD1'.2 q hq)
theorem cutA (u b v : va_W) : (u ++ (b ++ v)).Perm ((u ++ v) ++ b) := by
  rw [List.append_assoc]
  exact List.Perm.append_left u List.perm_append_comm
theorem cutB (u b v c w : va_W) : (u ++ (b ++ (v ++ (c ++ w)))).Perm ((u ++ (v ++ w)) ++ (b ++ c)) := by
  rw [List.append_assoc]
  refine List.Perm.append_left u ?_
  have h1 : (b ++ (v ++ (c ++ w))).Perm (b ++ ((v ++ w) ++ c)) := List.Perm.append_left b (cutA v c w)
  refine h1.trans ?_
  refine (List.perm_append_comm_assoc b (v ++ w) c).trans ?_
  exact List.Perm.refl _
def MwOk (y : MethodName) (cb : ByteArray) (mL : Nat) (ret : Option FieldType) (n : Nat) : Prop := Cond.code y cb mL ret ∈ GW ∧ Cond.initialized y.cls ∈ GW ∧ y.cls ≠ "java/lang/invoke/MethodHandle" ∧ y.cls ≠ "java/lang/invoke/VarHandle" ∧ (parseMethodDescriptor y.desc).map (fun d => d.parameters.length) = some n
theorem mw_good {y : MethodName} {cb : ByteArray} {mL : Nat} {ret : Option FieldType} {n : Nat} (h : MwOk y cb mL ret n) : GoodIn GW (Cond.code y cb mL ret :: GW) := gw_all (fun w hw => by
  rcases List.mem_cons.mp hw with h1 | h1
  · rw [h1]; exact h.1
  · exact h1)
/-- the room that a callee asks for is there -/
def RmOk (rm R : Room) (mL kc ks : Nat) : Prop := rm.frames + 1 ≤ R.frames ∧ 8 + (mL + 11) + rm.locals ≤ R.locals ∧ kc + rm.cells ≤ R.cells ∧ ks + rm.slots ≤ R.slots
theorem inb_in {i : Int32} {n : Nat} (h : inb i n = true) : vp_in i n := by
  unfold inb at h
  have h2 := of_decide_eq_true h
  exact h2
section ROWS2
variable {p : Program} {l : Launch} {e : Env} {R : Room} {s : State} {m : MethodId} {args : Array Value} {below : List Frame} {meth : Method} {c : Code} {D : va_G} {nL : Nat} {w0 : va_W} {Q : State → Prop} {cc : ByteArray} {ret : Option FieldType} {own : String} {t : ty4} {pc : Nat} {lv : List (Nat × Value)} {st : List Value} {ws : va_W} {α : Type} {a b : Option α} {r : α} {kc ks : Nat}
theorem A_perm {ws' : va_W} (h : ws.Perm ws') (k : At p l e R s m args below meth c D nL w0 Q kc ks pc lv st ws') : At p l e R s m args below meth c D nL w0 Q kc ks pc lv st ws := fun H locs ls hP hD hS hl => k H locs ls (vaP_perm h hP) (vaD_perm h hD) hS hl
/-- fields -/
theorem A_get (C : CX p s m args meth c cc nL ret own D t) {ref Cn : String} {T : u_T} {N ci index ad : Nat} {fs : List Value} {v : Value} (q0 k : Nat) (hin : ∀ w ∈ u_ws Cn T N, w ∈ GW) (hc : classes[ci]? = some (Cn, T, N)) (hk : k < N) (hw : Cond.fieldLink own index ref (T k).2.1 (T k).2.2.1 ∈ GW) (hs : (T k).1 = ref) (he : ws[q0]? = some (ad, .inr (ci, fs))) (hv : fs[k]? = some v) (d : decode cc pc = .ok (.getfield index, 3)) (kk : At p l e R s m args below meth c D nL w0 Q kc ks (pc + 3) lv (v :: st) ws) : At p l e R s m args below meth c D nL w0 Q kc ks pc lv (.ref ad :: st) ws := fun H locs ls hP hD hS hl => va_get C.1.1 C.1.2.1 C.1.2.2.2.2 hin C.1.2.2.2.1 C.2.2.2.1 hP q0 he hc k hk (C.1.2.2.2.2 _ hw) (fun x hx => by rw [← hs]; exact hx) hv d (kk H locs ls hP hD hS hl)
theorem A_put (C : CX p s m args meth c cc nL ret own D t) {ref Cn : String} {T : u_T} {N ci index ad : Nat} {fs : List Value} {v : Value} (q0 k : Nat) (ws' : va_W) (ty0 : Nat → FieldType) (hin : ∀ w ∈ u_ws Cn T N, w ∈ GW) (hty : ∀ k, k < N → parseFieldDescriptor (T k).2.2.1 = some (ty0 k)) (hnm : ∀ a, a < N → ∀ b, b < N → a ≠ b → (T a).2.1 ≠ (T b).2.1) (hc : classes[ci]? = some (Cn, T, N)) (hk : k < N) (hw : Cond.fieldLink own index ref (T k).2.1 (T k).2.2.1 ∈ GW) (hs : (T k).1 = ref) (hfin : (T k).2.2.2 = false) (hn : narrow (ty0 k) v = v) (hfit : fits (ty0 k) v = true) (he : ws[q0]? = some (ad, .inr (ci, fs))) (hl : k < fs.length) (hws : ws.set q0 (ad, .inr (ci, fs.set k v)) = ws') (d : decode cc pc = .ok (.putfield index, 3)) (kk : At p l e R s m args below meth c D nL w0 Q kc ks (pc + 3) lv st ws') : At p l e R s m args below meth c D nL w0 Q kc ks pc lv (v :: .ref ad :: st) ws := fun H locs ls hP hD hS hlv => va_put C.1.1 C.1.2.1 C.1.2.2.2.2 hin ty0 hty hnm C.1.2.2.2.1 C.2.2.2.1 hP hD hS q0 he hc k hk (C.1.2.2.2.2 _ hw) (fun x hx => by rw [← hs]; exact hx) hfin (hty k hk) hn hfit hl d (fun H1 locs1 hP1 hD1 hS1 => kk H1 locs1 ls (by rw [← hws]; exact hP1) (by rw [← hws]; exact hD1) hS1 hlv)
/-- rows of numbers -/
theorem A_iald (C : CX p s m args meth c cc nL ret own D t) {n : Nat} {f : Nat → Int32} {i : Int32} {ad : Nat} (q0 : Nat) (v : Int32) (ha : ws[q0]? = some (ad, .inl (t.1, n, .inl f))) (hv : f i.toNatClampNeg = v) (d : decode cc pc = .ok (.iaload, 1)) (h0 : ck (inb i n) a = some r) (kk : a = some r → At p l e R s m args below meth c D nL w0 Q kc ks (pc + 1) lv (.int v :: st) ws) : At p l e R s m args below meth c D nL w0 Q kc ks pc lv (.int i :: .ref ad :: st) ws := fun H locs ls hP hD hS hl => va_iald C.1.1 C.1.2.1 C.2.2.2.1 hP q0 0 ha rfl (inb_in (ck_some h0).1) d (by rw [hv]; exact kk (ck_some h0).2 H locs ls hP hD hS hl)
theorem A_iast (C : CX p s m args meth c cc nL ret own D t) {n : Nat} {f : Nat → Int32} {i x : Int32} {ad : Nat} (q0 : Nat) (ws' : va_W) (ha : ws[q0]? = some (ad, .inl (t.1, n, .inl f))) (hws : ws.set q0 (ad, .inl (t.1, n, .inl (upd f i.toNatClampNeg x))) = ws') (d : decode cc pc = .ok (.iastore, 1)) (h0 : ck (inb i n) a = some r) (kk : a = some r → At p l e R s m args below meth c D nL w0 Q kc ks (pc + 1) lv st ws') : At p l e R s m args below meth c D nL w0 Q kc ks pc lv (.int x :: .int i :: .ref ad :: st) ws := fun H locs ls hP hD hS hl => va_iast C.1.1 C.1.2.1 C.2.2.2.1 hP hD hS q0 0 ha rfl (inb_in (ck_some h0).1) d (fun H1 locs1 hP1 hD1 hS1 => kk (ck_some h0).2 H1 locs1 ls (by rw [← hws]; exact hP1) (by rw [← hws]; exact hD1) hS1 hl)
theorem A_zald (C : CX p s m args meth c cc nL ret own D t) {n : Nat} {f : Nat → Int32} {i : Int32} {ad : Nat} (q0 : Nat) (v : Int32) (ha : ws[q0]? = some (ad, .inl (t.2.1, n, .inl f))) (hv : f i.toNatClampNeg = v) (d : decode cc pc = .ok (.baload, 1)) (h0 : ck (inb i n) a = some r) (kk : a = some r → At p l e R s m args below meth c D nL w0 Q kc ks (pc + 1) lv (.int v :: st) ws) : At p l e R s m args below meth c D nL w0 Q kc ks pc lv (.int i :: .ref ad :: st) ws := fun H locs ls hP hD hS hl => va_zald C.1.1 C.1.2.1 C.2.2.2.1 hP q0 1 ha rfl (inb_in (ck_some h0).1) d (by rw [hv]; exact kk (ck_some h0).2 H locs ls hP hD hS hl)
theorem A_zast (C : CX p s m args meth c cc nL ret own D t) {n : Nat} {f : Nat → Int32} {i x : Int32} {ad : Nat} (q0 : Nat) (ws' : va_W) (ha : ws[q0]? = some (ad, .inl (t.2.1, n, .inl f))) (hx : vp_nar .boolean x = x) (hws : ws.set q0 (ad, .inl (t.2.1, n, .inl (upd f i.toNatClampNeg x))) = ws') (d : decode cc pc = .ok (.bastore, 1)) (h0 : ck (inb i n) a = some r) (kk : a = some r → At p l e R s m args below meth c D nL w0 Q kc ks (pc + 1) lv st ws') : At p l e R s m args below meth c D nL w0 Q kc ks pc lv (.int x :: .int i :: .ref ad :: st) ws := fun H locs ls hP hD hS hl => va_zast C.1.1 C.1.2.1 C.2.2.2.1 hP hD hS q0 1 ha rfl (inb_in (ck_some h0).1) d (fun H1 locs1 hP1 hD1 hS1 => kk (ck_some h0).2 H1 locs1 ls (by rw [← hws, ← hx]; rw [hx] at hP1 ⊢; exact hP1) (by rw [← hws]; rw [hx] at hD1; exact hD1) hS1 hl)
/-- ends -/
theorem A_iret (C : CX p s m args meth c cc nL (some .int) own D t) {Φ : Int32 → va_W → Prop} {x : Int32} (d : decode cc pc = .ok (.ireturn, 1)) (hΦ : Φ x ws) : At p l e R s m args below meth c D nL w0 (QI below args s D w0 Φ kc ks) kc ks pc lv [.int x] ws := fun H locs ls hP hD hS hl => W.iret C.1.1 C.1.2.1 C.2.1 (fun t ht hW => ⟨⟨x, ws, rfl, hΦ, by rw [ht]; exact hP, hD⟩, hS.F ht⟩) hS.2.2 d C.2.2.1
theorem A_zret (C : CX p s m args meth c cc nL (some .boolean) own D t) {Φ : Int32 → va_W → Prop} {x : Int32} (d : decode cc pc = .ok (.ireturn, 1)) (hz : isb x = true) (hΦ : Φ x ws) : At p l e R s m args below meth c D nL w0 (QI below args s D w0 Φ kc ks) kc ks pc lv [.int x] ws := fun H locs ls hP hD hS hl => W.zret C.1.1 C.1.2.1 C.2.1 (of_decide_eq_true hz) (fun t ht hW => ⟨⟨x, ws, rfl, hΦ, by rw [ht]; exact hP, hD⟩, hS.F ht⟩) hS.2.2 d C.2.2.1
theorem A_lret (C : CX p s m args meth c cc nL (some .long) own D t) {Φ : Int64 → va_W → Prop} {x : Int64} (d : decode cc pc = .ok (.lreturn, 1)) (hΦ : Φ x ws) : At p l e R s m args below meth c D nL w0 (QL below args s D w0 Φ kc ks) kc ks pc lv [.long x] ws := fun H locs ls hP hD hS hl => W.lret C.1.1 C.1.2.1 C.2.1 (fun t ht hW => ⟨⟨x, ws, rfl, hΦ, by rw [ht]; exact hP, hD⟩, hS.F ht⟩) hS.2.2 d C.2.2.1
theorem A_vret (C : CX p s m args meth c cc nL none own D t) {Φ : va_W → Prop} (d : decode cc pc = .ok (.return_, 1)) (hΦ : Φ ws) : At p l e R s m args below meth c D nL w0 (QV below args s D w0 Φ kc ks) kc ks pc lv [] ws := fun H locs ls hP hD hS hl => W.vret C.1.1 C.1.2.1 C.2.1 (fun t ht hW => ⟨⟨ws, rfl, hΦ, by rw [ht]; exact hP, hD⟩, hS.F ht⟩) hS.2.2 d C.2.2.1
theorem A_aret (C : CX p s m args meth c cc nL ret own D t) {Φ : Nat → va_W → Prop} {x : Nat} {nm : String} (hret : ret = some (.object nm)) (d : decode cc pc = .ok (.areturn, 1)) (hΦ : Φ x ws) : At p l e R s m args below meth c D nL w0 (QR below args s D w0 Φ kc ks) kc ks pc lv [.ref x] ws := fun H locs ls hP hD hS hl => W.aret C.1.1 C.1.2.1 (by rw [C.2.1, hret]) (Or.inl ⟨_, rfl⟩) (Or.inr ⟨x, rfl⟩) (fun t ht hW => ⟨⟨ws, x, rfl, trivial, hΦ, by rw [ht]; exact hP, hD⟩, hS.F ht⟩) hS.2.2 d C.2.2.1
theorem A_callI {wc wr : va_W} {Φ : Int32 → va_W → Prop} {rm : Room} {av : Array Value} {rest : List Value} (hA0 : ws.Perm (wr ++ wc)) (hrun : ∀ (H : Heap) (locs : List Loc) (ls : Array Slot), va_P D classes wc H → va_D (fun _ => True) wc → lv_has ls nL lv → va_Run p l e R s m args below meth c H locs kc ks rm.cells rm.slots (F0 m pc ls st) rest (PoI D wc H.size Φ av) (va_A wc H.size))
    (k : ∀ (x : Int32) (w1 : va_W), Φ x w1 → At p l e R s m args below meth c D nL w0 Q (kc + rm.cells) (ks + rm.slots) (pc + 3) lv (.int x :: rest) (wr ++ w1)) : At p l e R s m args below meth c D nL w0 Q kc ks pc lv st ws := by
  intro H locs ls hP hD hS hl
  obtain ⟨hPc, hDc⟩ := cut_pre hA0 hP hD
  have hF := cut_free (D := D) (cl := classes) hDc hS (fun q h => Or.inr h)
  refine va_calli (hrun H locs ls hPc (hDc.weaken (fun _ _ _ _ => trivial)) hl) hS (fun q _ h => hF q h) hF (fun x u t1 H1 locs1 ht hvm hw hB hz1 hk1 hS1 => ?_)
  obtain ⟨hP1, hD1⟩ := hB
  rw [ht] at hP1
  obtain ⟨hP2, hD2⟩ := cut_post hA0 hP hD hk1 hF hP1 hD1
  exact k x u hw H1 locs1 ls hP2 hD2 hS1 hl
theorem A_callL {wc wr : va_W} {Φ : Int64 → va_W → Prop} {rm : Room} {av : Array Value} {rest : List Value} (hA0 : ws.Perm (wr ++ wc)) (hrun : ∀ (H : Heap) (locs : List Loc) (ls : Array Slot), va_P D classes wc H → va_D (fun _ => True) wc → lv_has ls nL lv → va_Run p l e R s m args below meth c H locs kc ks rm.cells rm.slots (F0 m pc ls st) rest (PoL D wc H.size Φ av) (va_A wc H.size))
    (k : ∀ (x : Int64) (w1 : va_W), Φ x w1 → At p l e R s m args below meth c D nL w0 Q (kc + rm.cells) (ks + rm.slots) (pc + 3) lv (.long x :: rest) (wr ++ w1)) : At p l e R s m args below meth c D nL w0 Q kc ks pc lv st ws := by
  intro H locs ls hP hD hS hl
  obtain ⟨hPc, hDc⟩ := cut_pre hA0 hP hD
  have hF := cut_free (D := D) (cl := classes) hDc hS (fun q h => Or.inr h)
  refine va_calll (hrun H locs ls hPc (hDc.weaken (fun _ _ _ _ => trivial)) hl) hS (fun q _ h => hF q h) hF (fun x u t1 H1 locs1 ht hvm hw hB hz1 hk1 hS1 => ?_)
  obtain ⟨hP1, hD1⟩ := hB
  rw [ht] at hP1
  obtain ⟨hP2, hD2⟩ := cut_post hA0 hP hD hk1 hF hP1 hD1
  exact k x u hw H1 locs1 ls hP2 hD2 hS1 hl
theorem A_callV {wc wr : va_W} {Φ : va_W → Prop} {rm : Room} {av : Array Value} {rest : List Value} (hA0 : ws.Perm (wr ++ wc)) (hrun : ∀ (H : Heap) (locs : List Loc) (ls : Array Slot), va_P D classes wc H → va_D (fun _ => True) wc → lv_has ls nL lv → va_Run p l e R s m args below meth c H locs kc ks rm.cells rm.slots (F0 m pc ls st) rest (PoV D wc H.size Φ av) (va_A wc H.size))
    (k : ∀ (w1 : va_W), Φ w1 → At p l e R s m args below meth c D nL w0 Q (kc + rm.cells) (ks + rm.slots) (pc + 3) lv rest (wr ++ w1)) : At p l e R s m args below meth c D nL w0 Q kc ks pc lv st ws := by
  intro H locs ls hP hD hS hl
  obtain ⟨hPc, hDc⟩ := cut_pre hA0 hP hD
  have hF := cut_free (D := D) (cl := classes) hDc hS (fun q h => Or.inr h)
  refine va_callv (hrun H locs ls hPc (hDc.weaken (fun _ _ _ _ => trivial)) hl) hS (fun q _ h => hF q h) hF (fun u t1 H1 locs1 ht hvm hw hB hz1 hk1 hS1 => ?_)
  obtain ⟨hP1, hD1⟩ := hB
  rw [ht] at hP1
  obtain ⟨hP2, hD2⟩ := cut_post hA0 hP hD hk1 hF hP1 hD1
  exact k u hw H1 locs1 ls hP2 hD2 hS1 hl
theorem A_callR {wc wr : va_W} {Φ : Nat → va_W → Prop} {rm : Room} {av : Array Value} {rest : List Value} (hA0 : ws.Perm (wr ++ wc)) (hrun : ∀ (H : Heap) (locs : List Loc) (ls : Array Slot), va_P D classes wc H → va_D (fun _ => True) wc → lv_has ls nL lv → va_Run p l e R s m args below meth c H locs kc ks rm.cells rm.slots (F0 m pc ls st) rest (PoR D wc H.size Φ av) (va_A wc H.size))
    (k : ∀ (x : Nat) (w1 : va_W), Φ x w1 → At p l e R s m args below meth c D nL w0 Q (kc + rm.cells) (ks + rm.slots) (pc + 3) lv (.ref x :: rest) (wr ++ w1)) : At p l e R s m args below meth c D nL w0 Q kc ks pc lv st ws := by
  intro H locs ls hP hD hS hl
  obtain ⟨hPc, hDc⟩ := cut_pre hA0 hP hD
  have hF := cut_free (D := D) (cl := classes) hDc hS (fun q h => Or.inr h)
  refine va_callr (hrun H locs ls hPc (hDc.weaken (fun _ _ _ _ => trivial)) hl) hS (fun q _ h => hF q h) hF (fun u x t1 H1 locs1 ht hvm _ hB hz1 hk1 hS1 => ?_)
  obtain ⟨hw, hP1, hD1⟩ := hB
  rw [ht] at hP1
  obtain ⟨hP2, hD2⟩ := cut_post hA0 hP hD hk1 hF hP1 hD1
  exact k x u hw H1 locs1 ls hP2 hD2 hS1 hl
theorem A_vI (C : CX p s m args meth c cc nL ret own D t) {y : MethodName} {cb : ByteArray} {mL : Nat} {ret2 : Option FieldType} {rm : Room} {As rest : List Value} {wc wr : va_W} {index n : Nat} {Φ : Int32 → va_W → Prop} {b0 ci : Nat} {Cn : String} {T : u_T} {N : Nat} {fs : List Value} (q0 : Nat) (hM : MetI l y cb mL ret2 rm D t (.ref b0 :: As) wc Φ) (hw : MwOk y cb mL ret2 n) (hl : Cond.methodLink own index y ∈ GW) (hi : Cond.instanceMethod y ∈ GW) (hsel : Cond.selects Cn y y ∈ GW) (hR : RmOk rm R mL kc ks) (hcut : ws.Perm (wr ++ wc)) (hrecv : wc[q0]? = some (b0, .inr (ci, fs))) (hc : classes[ci]? = some (Cn, T, N)) (hn : As.length = n) (hst : st = As.reverse ++ .ref b0 :: rest) (hcat : (rest.map fun v => v.category).sum ≤ 8) (d : decode cc pc = .ok (.invokevirtual index, 3)) (k : ∀ (x : Int32) (w1 : va_W), Φ x w1 → At p l e R s m args below meth c D nL w0 Q (kc + rm.cells) (ks + rm.slots) (pc + 3) lv (.int x :: rest) (wr ++ w1)) : At p l e R s m args below meth c D nL w0 Q kc ks pc lv st ws :=
  A_callI hcut (fun H locs ls hPc hDc hlv => va_runV (As := As) (rest := rest) (C := Cn) C.1 (hM H.size) ⟨callB_of n C.1.2.2.2.2 (mw_good hw) rfl rfl rfl (C.1.2.2.2.2 _ hw.2.1) (C.1.2.2.2.2 _ hl) hw.2.2 ⟨hR.1, hR.2.1⟩, C.1.2.2.2.2 _ hi, C.1.2.2.2.2 _ hsel⟩ ⟨preW_blind, va_recv C.2.2.2.1 hPc hc hrecv, fun U hU hW => ⟨rfl, by rw [hU], by rw [hU]; exact hPc, KB.warm hW C.2.2.2, hDc⟩⟩ rfl hn hlv.1 hst (lv_room hcat) d ⟨hR.2.2.1, hR.2.2.2⟩) k
theorem A_sI (C : CX p s m args meth c cc nL ret own D t) {y : MethodName} {cb : ByteArray} {mL : Nat} {ret2 : Option FieldType} {rm : Room} {As rest : List Value} {wc wr : va_W} {index n : Nat} {Φ : Int32 → va_W → Prop} (hM : MetI l y cb mL ret2 rm D t As wc Φ) (hw : MwOk y cb mL ret2 n) (hl : Cond.methodLink own index y ∈ GW) (hi : Cond.static y ∈ GW) (hR : RmOk rm R mL kc ks) (hcut : ws.Perm (wr ++ wc)) (hn : As.length = n) (hst : st = As.reverse ++ rest) (hcat : (rest.map fun v => v.category).sum ≤ 8) (d : decode cc pc = .ok (.invokestatic index, 3)) (k : ∀ (x : Int32) (w1 : va_W), Φ x w1 → At p l e R s m args below meth c D nL w0 Q (kc + rm.cells) (ks + rm.slots) (pc + 3) lv (.int x :: rest) (wr ++ w1)) : At p l e R s m args below meth c D nL w0 Q kc ks pc lv st ws :=
  A_callI hcut (fun H locs ls hPc hDc hlv => va_runS (As := As) (rest := rest) C.1 (hM H.size) ⟨callB_of n C.1.2.2.2.2 (mw_good hw) rfl rfl rfl (C.1.2.2.2.2 _ hw.2.1) (C.1.2.2.2.2 _ hl) hw.2.2 ⟨hR.1, hR.2.1⟩, C.1.2.2.2.2 _ hi⟩ ⟨preW_blind, fun U hU hW => ⟨rfl, by rw [hU], by rw [hU]; exact hPc, KB.warm hW C.2.2.2, hDc⟩⟩ rfl hn hlv.1 hst (lv_room hcat) d ⟨hR.2.2.1, hR.2.2.2⟩) k
theorem A_snI (C : CX p s m args meth c cc nL ret own D t) {y : MethodName} {cb : ByteArray} {mL : Nat} {ret2 : Option FieldType} {rm : Room} {As rest : List Value} {wc wr : va_W} {index n : Nat} {Φ : Int32 → va_W → Prop} {host : String} (hM : MetI l y cb mL ret2 rm D t As wc Φ) (hw : MwOk y cb mL ret2 n) (hl : va_Nw (.methodLinkNest own index y host) s) (hi : Cond.static y ∈ GW) (hR : RmOk rm R mL kc ks) (hcut : ws.Perm (wr ++ wc)) (hn : As.length = n) (hst : st = As.reverse ++ rest) (hcat : (rest.map fun v => v.category).sum ≤ 8) (d : decode cc pc = .ok (.invokestatic index, 3)) (k : ∀ (x : Int32) (w1 : va_W), Φ x w1 → At p l e R s m args below meth c D nL w0 Q (kc + rm.cells) (ks + rm.slots) (pc + 3) lv (.int x :: rest) (wr ++ w1)) : At p l e R s m args below meth c D nL w0 Q kc ks pc lv st ws :=
  A_callI hcut (fun H locs ls hPc hDc hlv => va_runSN (As := As) (rest := rest) C.1 (hM H.size) ⟨va_cnB n C.1.2.2.2.2 (mw_good hw) rfl rfl rfl hl (C.1.2.2.2.2 _ hw.2.1) hw.2.2 ⟨hR.1, hR.2.1⟩, C.1.2.2.2.2 _ hi, trivial⟩ ⟨preW_blind, fun U hU hW => ⟨rfl, by rw [hU], by rw [hU]; exact hPc, KB.warm hW C.2.2.2, hDc⟩⟩ rfl hn hlv.1 hst (lv_room hcat) d ⟨hR.2.2.1, hR.2.2.2⟩) k
theorem A_vL (C : CX p s m args meth c cc nL ret own D t) {y : MethodName} {cb : ByteArray} {mL : Nat} {ret2 : Option FieldType} {rm : Room} {As rest : List Value} {wc wr : va_W} {index n : Nat} {Φ : Int64 → va_W → Prop} {b0 ci : Nat} {Cn : String} {T : u_T} {N : Nat} {fs : List Value} (q0 : Nat) (hM : MetL l y cb mL ret2 rm D t (.ref b0 :: As) wc Φ) (hw : MwOk y cb mL ret2 n) (hl : Cond.methodLink own index y ∈ GW) (hi : Cond.instanceMethod y ∈ GW) (hsel : Cond.selects Cn y y ∈ GW) (hR : RmOk rm R mL kc ks) (hcut : ws.Perm (wr ++ wc)) (hrecv : wc[q0]? = some (b0, .inr (ci, fs))) (hc : classes[ci]? = some (Cn, T, N)) (hn : As.length = n) (hst : st = As.reverse ++ .ref b0 :: rest) (hcat : (rest.map fun v => v.category).sum ≤ 8) (d : decode cc pc = .ok (.invokevirtual index, 3)) (k : ∀ (x : Int64) (w1 : va_W), Φ x w1 → At p l e R s m args below meth c D nL w0 Q (kc + rm.cells) (ks + rm.slots) (pc + 3) lv (.long x :: rest) (wr ++ w1)) : At p l e R s m args below meth c D nL w0 Q kc ks pc lv st ws :=
  A_callL hcut (fun H locs ls hPc hDc hlv => va_runV (As := As) (rest := rest) (C := Cn) C.1 (hM H.size) ⟨callB_of n C.1.2.2.2.2 (mw_good hw) rfl rfl rfl (C.1.2.2.2.2 _ hw.2.1) (C.1.2.2.2.2 _ hl) hw.2.2 ⟨hR.1, hR.2.1⟩, C.1.2.2.2.2 _ hi, C.1.2.2.2.2 _ hsel⟩ ⟨preW_blind, va_recv C.2.2.2.1 hPc hc hrecv, fun U hU hW => ⟨rfl, by rw [hU], by rw [hU]; exact hPc, KB.warm hW C.2.2.2, hDc⟩⟩ rfl hn hlv.1 hst (lv_room hcat) d ⟨hR.2.2.1, hR.2.2.2⟩) k
theorem A_vV (C : CX p s m args meth c cc nL ret own D t) {y : MethodName} {cb : ByteArray} {mL : Nat} {ret2 : Option FieldType} {rm : Room} {As rest : List Value} {wc wr : va_W} {index n : Nat} {Φ : va_W → Prop} {b0 ci : Nat} {Cn : String} {T : u_T} {N : Nat} {fs : List Value} (q0 : Nat) (hM : MetV l y cb mL ret2 rm D t (.ref b0 :: As) wc Φ) (hw : MwOk y cb mL ret2 n) (hl : Cond.methodLink own index y ∈ GW) (hi : Cond.instanceMethod y ∈ GW) (hsel : Cond.selects Cn y y ∈ GW) (hR : RmOk rm R mL kc ks) (hcut : ws.Perm (wr ++ wc)) (hrecv : wc[q0]? = some (b0, .inr (ci, fs))) (hc : classes[ci]? = some (Cn, T, N)) (hn : As.length = n) (hst : st = As.reverse ++ .ref b0 :: rest) (hcat : (rest.map fun v => v.category).sum ≤ 8) (d : decode cc pc = .ok (.invokevirtual index, 3)) (k : ∀ (w1 : va_W), Φ w1 → At p l e R s m args below meth c D nL w0 Q (kc + rm.cells) (ks + rm.slots) (pc + 3) lv rest (wr ++ w1)) : At p l e R s m args below meth c D nL w0 Q kc ks pc lv st ws :=
  A_callV hcut (fun H locs ls hPc hDc hlv => va_runV (As := As) (rest := rest) (C := Cn) C.1 (hM H.size) ⟨callB_of n C.1.2.2.2.2 (mw_good hw) rfl rfl rfl (C.1.2.2.2.2 _ hw.2.1) (C.1.2.2.2.2 _ hl) hw.2.2 ⟨hR.1, hR.2.1⟩, C.1.2.2.2.2 _ hi, C.1.2.2.2.2 _ hsel⟩ ⟨preW_blind, va_recv C.2.2.2.1 hPc hc hrecv, fun U hU hW => ⟨rfl, by rw [hU], by rw [hU]; exact hPc, KB.warm hW C.2.2.2, hDc⟩⟩ rfl hn hlv.1 hst (lv_room hcat) d ⟨hR.2.2.1, hR.2.2.2⟩) k
theorem A_iV (C : CX p s m args meth c cc nL ret own D t) {y : MethodName} {cb : ByteArray} {mL : Nat} {rm : Room} {As rest : List Value} {wc wr : va_W} {index n : Nat} {Φ : va_W → Prop} {b0 : Nat} (hM : MetV l y cb mL none rm D t (.ref b0 :: As) wc Φ) (hw : MwOk y cb mL none n) (hl : Cond.methodLink own index y ∈ GW) (hi : Cond.instanceMethod y ∈ GW) (hy : y.name = "<init>") (hR : RmOk rm R mL kc ks) (hcut : ws.Perm (wr ++ wc)) (hn : As.length = n) (hst : st = As.reverse ++ .ref b0 :: rest) (hcat : (rest.map fun v => v.category).sum ≤ 8) (d : decode cc pc = .ok (.invokespecial index, 3)) (k : ∀ (w1 : va_W), Φ w1 → At p l e R s m args below meth c D nL w0 Q (kc + rm.cells) (ks + rm.slots) (pc + 3) lv rest (wr ++ w1)) : At p l e R s m args below meth c D nL w0 Q kc ks pc lv st ws :=
  A_callV hcut (fun H locs ls hPc hDc hlv => va_runI (As := As) (rest := rest) C.1 (hM H.size) ⟨callB_of n C.1.2.2.2.2 (mw_good hw) rfl rfl rfl (C.1.2.2.2.2 _ hw.2.1) (C.1.2.2.2.2 _ hl) hw.2.2 ⟨hR.1, hR.2.1⟩, hy, C.1.2.2.2.2 _ hi⟩ ⟨preW_blind, fun U hU hW => ⟨rfl, by rw [hU], by rw [hU]; exact hPc, KB.warm hW C.2.2.2, hDc⟩⟩ rfl hn hlv.1 hst (lv_room hcat) d ⟨hR.2.2.1, hR.2.2.2⟩) k
theorem A_inV (C : CX p s m args meth c cc nL ret own D t) {y : MethodName} {cb : ByteArray} {mL : Nat} {rm : Room} {As rest : List Value} {wc wr : va_W} {index n : Nat} {Φ : va_W → Prop} {b0 : Nat} {host : String} (hM : MetV l y cb mL none rm D t (.ref b0 :: As) wc Φ) (hw : MwOk y cb mL none n) (hl : va_Nw (.methodLinkNest own index y host) s) (hi : Cond.instanceMethod y ∈ GW) (hy : y.name = "<init>") (hR : RmOk rm R mL kc ks) (hcut : ws.Perm (wr ++ wc)) (hn : As.length = n) (hst : st = As.reverse ++ .ref b0 :: rest) (hcat : (rest.map fun v => v.category).sum ≤ 8) (d : decode cc pc = .ok (.invokespecial index, 3)) (k : ∀ (w1 : va_W), Φ w1 → At p l e R s m args below meth c D nL w0 Q (kc + rm.cells) (ks + rm.slots) (pc + 3) lv rest (wr ++ w1)) : At p l e R s m args below meth c D nL w0 Q kc ks pc lv st ws :=
  A_callV hcut (fun H locs ls hPc hDc hlv => va_runIN (As := As) (rest := rest) C.1 (hM H.size) ⟨va_cnB n C.1.2.2.2.2 (mw_good hw) rfl rfl rfl hl (C.1.2.2.2.2 _ hw.2.1) hw.2.2 ⟨hR.1, hR.2.1⟩, hy, C.1.2.2.2.2 _ hi⟩ ⟨preW_blind, fun U hU hW => ⟨rfl, by rw [hU], by rw [hU]; exact hPc, KB.warm hW C.2.2.2, hDc⟩⟩ rfl hn hlv.1 hst (lv_room hcat) d ⟨hR.2.2.1, hR.2.2.2⟩) k
theorem A_vR (C : CX p s m args meth c cc nL ret own D t) {y : MethodName} {cb : ByteArray} {mL : Nat} {ret2 : Option FieldType} {rm : Room} {As rest : List Value} {wc wr : va_W} {index n : Nat} {Φ : Nat → va_W → Prop} {b0 ci : Nat} {Cn : String} {T : u_T} {N : Nat} {fs : List Value} (q0 : Nat) (hM : MetR l y cb mL ret2 rm D t (.ref b0 :: As) wc Φ) (hw : MwOk y cb mL ret2 n) (hl : Cond.methodLink own index y ∈ GW) (hi : Cond.instanceMethod y ∈ GW) (hsel : Cond.selects Cn y y ∈ GW) (hR : RmOk rm R mL kc ks) (hcut : ws.Perm (wr ++ wc)) (hrecv : wc[q0]? = some (b0, .inr (ci, fs))) (hc : classes[ci]? = some (Cn, T, N)) (hn : As.length = n) (hst : st = As.reverse ++ .ref b0 :: rest) (hcat : (rest.map fun v => v.category).sum ≤ 8) (d : decode cc pc = .ok (.invokevirtual index, 3)) (k : ∀ (x : Nat) (w1 : va_W), Φ x w1 → At p l e R s m args below meth c D nL w0 Q (kc + rm.cells) (ks + rm.slots) (pc + 3) lv (.ref x :: rest) (wr ++ w1)) : At p l e R s m args below meth c D nL w0 Q kc ks pc lv st ws :=
  A_callR hcut (fun H locs ls hPc hDc hlv => va_runV (As := As) (rest := rest) (C := Cn) C.1 (hM H.size) ⟨callB_of n C.1.2.2.2.2 (mw_good hw) rfl rfl rfl (C.1.2.2.2.2 _ hw.2.1) (C.1.2.2.2.2 _ hl) hw.2.2 ⟨hR.1, hR.2.1⟩, C.1.2.2.2.2 _ hi, C.1.2.2.2.2 _ hsel⟩ ⟨preW_blind, va_recv C.2.2.2.1 hPc hc hrecv, fun U hU hW => ⟨rfl, by rw [hU], by rw [hU]; exact hPc, KB.warm hW C.2.2.2, hDc⟩⟩ rfl hn hlv.1 hst (lv_room hcat) d ⟨hR.2.2.1, hR.2.2.2⟩) k
theorem A_mmax (C : CX p s m args meth c cc nL ret own D t) {x y : Int32} {index : Nat} {rest : List Value} (hl : Cond.methodLink own index Lib.Math.max.name ∈ GW) (hi : Cond.static Lib.Math.max.name ∈ GW) (h2 : Cond.initialized "java/lang/Math" ∈ GW) (h3 : Cond.code Lib.Math.max.name Lib.Math.max.code 2 (some .int) ∈ GW) (hf : 1 ≤ R.frames) (hlo : (rest.map fun v => v.category).sum + 13 ≤ R.locals) (hkc : kc ≤ R.cells) (hks : ks ≤ R.slots) (d : decode cc pc = .ok (.invokestatic index, 3)) (k : At p l e R s m args below meth c D nL w0 Q kc ks (pc + 3) lv (.int (if x < y then y else x) :: rest) ws) : At p l e R s m args below meth c D nL w0 Q kc ks pc lv (.int y :: .int x :: rest) ws := fun H locs ls hP hD hS hlv => va_mmax C.1.1 C.1.2.1 (by rw [C.1.2.2.1, hlv.1]) C.1.2.2.2.1 (C.1.2.2.2.2 _ hl) (C.1.2.2.2.2 _ hi) (C.1.2.2.2.2 _ h2) (C.1.2.2.2.2 _ h3) hf hlo hkc hks d (k H locs ls hP hD hS hlv)
theorem A_mmin (C : CX p s m args meth c cc nL ret own D t) {x y : Int32} {index : Nat} {rest : List Value} (hl : Cond.methodLink own index Lib.Math.min.name ∈ GW) (hi : Cond.static Lib.Math.min.name ∈ GW) (h2 : Cond.initialized "java/lang/Math" ∈ GW) (h3 : Cond.code Lib.Math.min.name Lib.Math.min.code 2 (some .int) ∈ GW) (hf : 1 ≤ R.frames) (hlo : (rest.map fun v => v.category).sum + 13 ≤ R.locals) (hkc : kc ≤ R.cells) (hks : ks ≤ R.slots) (d : decode cc pc = .ok (.invokestatic index, 3)) (k : At p l e R s m args below meth c D nL w0 Q kc ks (pc + 3) lv (.int (if y < x then y else x) :: rest) ws) : At p l e R s m args below meth c D nL w0 Q kc ks pc lv (.int y :: .int x :: rest) ws := fun H locs ls hP hD hS hlv => va_mmin C.1.1 C.1.2.1 (by rw [C.1.2.2.1, hlv.1]) C.1.2.2.2.1 (C.1.2.2.2.2 _ hl) (C.1.2.2.2.2 _ hi) (C.1.2.2.2.2 _ h2) (C.1.2.2.2.2 _ h3) hf hlo hkc hks d (k H locs ls hP hD hS hlv)
theorem A_tabIn (C : CX p s m args meth c cc nL ret own D t) {dflt lo hi : Int} {offs : Array Int} {len : Nat} {x : Int32} {off : Int} (tgt : Nat) (d : decode cc pc = .ok (.tableswitch dflt lo hi offs, len)) (h1 : ¬ x.toInt < lo) (h2 : ¬ hi < x.toInt) (ho : offs[(x.toInt - lo).toNat]? = some off) (ht : (pc : Int) + off = (tgt : Int)) (k : At p l e R s m args below meth c D nL w0 Q kc ks tgt lv st ws) : At p l e R s m args below meth c D nL w0 Q kc ks pc lv (.int x :: st) ws := fun H locs ls hP hD hS hl => lv_tableIn C.1.1 C.1.2.1 d h1 h2 ho ht (k H locs ls hP hD hS hl)
theorem A_tabOut (C : CX p s m args meth c cc nL ret own D t) {dflt lo hi : Int} {offs : Array Int} {len : Nat} {x : Int32} (tgt : Nat) (d : decode cc pc = .ok (.tableswitch dflt lo hi offs, len)) (h : x.toInt < lo ∨ hi < x.toInt) (ht : (pc : Int) + dflt = (tgt : Int)) (k : At p l e R s m args below meth c D nL w0 Q kc ks tgt lv st ws) : At p l e R s m args below meth c D nL w0 Q kc ks pc lv (.int x :: st) ws := fun H locs ls hP hD hS hl => lv_tableOut C.1.1 C.1.2.1 d h ht (k H locs ls hP hD hS hl)
theorem A_look (C : CX p s m args meth c cc nL ret own D t) {dflt : Int} {ps : Array (Int × Int)} {len : Nat} {x : Int32} {off : Int} (tgt : Nat) (d : decode cc pc = .ok (.lookupswitch dflt ps, len)) (hp : (ps.toList.zip (ps.toList.drop 1)).all (fun (a, next) => a.1 < next.1) = true) (ho : Op.lookupswitch.offset ps.toList dflt x.toInt = off) (ht : (pc : Int) + off = (tgt : Int)) (k : At p l e R s m args below meth c D nL w0 Q kc ks tgt lv st ws) : At p l e R s m args below meth c D nL w0 Q kc ks pc lv (.int x :: st) ws := fun H locs ls hP hD hS hl => lv_lookup C.1.1 C.1.2.1 d hp ho ht (k H locs ls hP hD hS hl)
theorem sw_split {x k : Int32} {P : Prop} (h0 : (if x = k then a else b) = some r) (ht : x = k → a = some r → P) (hf : ¬ x = k → b = some r → P) : P := by
  by_cases h : x = k
  · rw [if_pos h] at h0; exact ht h h0
  · rw [if_neg h] at h0; exact hf h h0
theorem MetI_of {y : MethodName} {cb : ByteArray} {mL : Nat} {ret : Option FieldType} {rm : Room} {av : List Value} {ws : va_W} {Φ : Int32 → va_W → Prop} (hy : plainName y.cls = true) (hlen : (lg_sl av).length ≤ mL) (body : ∀ (p : Program) (e : Env) (s : State) (m : MethodId) (below : List Frame) (meth : Method) (c : Code), CX p s m av.toArray meth c cb mL ret y.cls D t → (y.name = "<init>" → meth.name = "<init>") → At p l e rm s m av.toArray below meth c D mL ws (QI below av.toArray s D ws Φ rm.cells rm.slots) 0 0 0 (lv_args 0 av) [] ws) : MetI l y cb mL ret rm D t av ws Φ := by
  intro sz
  refine Met.ofW (cc := cb) (maxL := mL) (ret := ret) hy rfl ?_
  intro p e s m args below meth c s₁ B hml hv
  obtain ⟨rfl, hsz, hP, hK, hD0⟩ := hv
  subst hsz
  have hts := atoms_spec (ws := Cond.code y cb mL ret :: GW) B.pre
  have hlv := lv_entry av (n := mL) hlen
  rw [lg_entry_eq]
  exact body p e s m below meth c ⟨⟨B.exec, B.bytes, hml, findClass_of_methodNamed B.named, fun w hw => hts w (List.mem_cons_of_mem _ hw)⟩, B.returns, B.notSynchronized, hK⟩ (fun h => (name_of_methodNamed B.named B.method).1.trans h) s.heap [] _ hP hD0.self va_S.rf hlv
theorem MetL_of {y : MethodName} {cb : ByteArray} {mL : Nat} {ret : Option FieldType} {rm : Room} {av : List Value} {ws : va_W} {Φ : Int64 → va_W → Prop} (hy : plainName y.cls = true) (hlen : (lg_sl av).length ≤ mL) (body : ∀ (p : Program) (e : Env) (s : State) (m : MethodId) (below : List Frame) (meth : Method) (c : Code), CX p s m av.toArray meth c cb mL ret y.cls D t → (y.name = "<init>" → meth.name = "<init>") → At p l e rm s m av.toArray below meth c D mL ws (QL below av.toArray s D ws Φ rm.cells rm.slots) 0 0 0 (lv_args 0 av) [] ws) : MetL l y cb mL ret rm D t av ws Φ := by
  intro sz
  refine Met.ofW (cc := cb) (maxL := mL) (ret := ret) hy rfl ?_
  intro p e s m args below meth c s₁ B hml hv
  obtain ⟨rfl, hsz, hP, hK, hD0⟩ := hv
  subst hsz
  have hts := atoms_spec (ws := Cond.code y cb mL ret :: GW) B.pre
  have hlv := lv_entry av (n := mL) hlen
  rw [lg_entry_eq]
  exact body p e s m below meth c ⟨⟨B.exec, B.bytes, hml, findClass_of_methodNamed B.named, fun w hw => hts w (List.mem_cons_of_mem _ hw)⟩, B.returns, B.notSynchronized, hK⟩ (fun h => (name_of_methodNamed B.named B.method).1.trans h) s.heap [] _ hP hD0.self va_S.rf hlv
theorem MetV_of {y : MethodName} {cb : ByteArray} {mL : Nat} {ret : Option FieldType} {rm : Room} {av : List Value} {ws : va_W} {Φ : va_W → Prop} (hy : plainName y.cls = true) (hlen : (lg_sl av).length ≤ mL) (body : ∀ (p : Program) (e : Env) (s : State) (m : MethodId) (below : List Frame) (meth : Method) (c : Code), CX p s m av.toArray meth c cb mL ret y.cls D t → (y.name = "<init>" → meth.name = "<init>") → At p l e rm s m av.toArray below meth c D mL ws (QV below av.toArray s D ws Φ rm.cells rm.slots) 0 0 0 (lv_args 0 av) [] ws) : MetV l y cb mL ret rm D t av ws Φ := by
  intro sz
  refine Met.ofW (cc := cb) (maxL := mL) (ret := ret) hy rfl ?_
  intro p e s m args below meth c s₁ B hml hv
  obtain ⟨rfl, hsz, hP, hK, hD0⟩ := hv
  subst hsz
  have hts := atoms_spec (ws := Cond.code y cb mL ret :: GW) B.pre
  have hlv := lv_entry av (n := mL) hlen
  rw [lg_entry_eq]
  exact body p e s m below meth c ⟨⟨B.exec, B.bytes, hml, findClass_of_methodNamed B.named, fun w hw => hts w (List.mem_cons_of_mem _ hw)⟩, B.returns, B.notSynchronized, hK⟩ (fun h => (name_of_methodNamed B.named B.method).1.trans h) s.heap [] _ hP hD0.self va_S.rf hlv
theorem MetR_of {y : MethodName} {cb : ByteArray} {mL : Nat} {ret : Option FieldType} {rm : Room} {av : List Value} {ws : va_W} {Φ : Nat → va_W → Prop} (hy : plainName y.cls = true) (hlen : (lg_sl av).length ≤ mL) (body : ∀ (p : Program) (e : Env) (s : State) (m : MethodId) (below : List Frame) (meth : Method) (c : Code), CX p s m av.toArray meth c cb mL ret y.cls D t → (y.name = "<init>" → meth.name = "<init>") → At p l e rm s m av.toArray below meth c D mL ws (QR below av.toArray s D ws Φ rm.cells rm.slots) 0 0 0 (lv_args 0 av) [] ws) : MetR l y cb mL ret rm D t av ws Φ := by
  intro sz
  refine Met.ofW (cc := cb) (maxL := mL) (ret := ret) hy rfl ?_
  intro p e s m args below meth c s₁ B hml hv
  obtain ⟨rfl, hsz, hP, hK, hD0⟩ := hv
  subst hsz
  have hts := atoms_spec (ws := Cond.code y cb mL ret :: GW) B.pre
  have hlv := lv_entry av (n := mL) hlen
  rw [lg_entry_eq]
  exact body p e s m below meth c ⟨⟨B.exec, B.bytes, hml, findClass_of_methodNamed B.named, fun w hw => hts w (List.mem_cons_of_mem _ hw)⟩, B.returns, B.notSynchronized, hK⟩ (fun h => (name_of_methodNamed B.named B.method).1.trans h) s.heap [] _ hP hD0.self va_S.rf hlv
end ROWS2
theorem rmok {d d' mL : Nat} (h : Nat.ble (d' + 1) d = true) (h2 : Nat.ble mL 15 = true) : RmOk (rmD d') (rmD d) mL 0 0 := by
  have h := Nat.le_of_ble_eq_true h
  have h2 := Nat.le_of_ble_eq_true h2
  refine ⟨h, ?_, Nat.le_refl 0, Nat.le_refl 0⟩
  show 8 + (mL + 11) + 34 * d' ≤ 34 * d
  omega
theorem cutN (ws : va_W) : ws.Perm (ws ++ []) := by rw [List.append_nil]
theorem At.start {p : Program} {l : Launch} {e : Env} {R : Room} {s : State} {m : MethodId} {args : Array Value} {below : List Frame} {meth : Method} {c : Code} {D : va_G} {nL : Nat} {w0 : va_W} {Q : State → Prop} {pc : Nat} {lv lv2 : List (Nat × Value)} {st : List Value} {ws : va_W} {kc ks : Nat} (h : lv = lv2) (k : At p l e R s m args below meth c D nL w0 Q kc ks pc lv2 st ws) : At p l e R s m args below meth c D nL w0 Q kc ks pc lv st ws := by
  rw [h]; exact k
theorem cut0 (ws : va_W) : ws.Perm ([] ++ ws) := List.Perm.refl _
def bs {α β : Type} (x : α) (k : α → Option β) : Option β := k x
theorem bs_some {α β : Type} {x : α} {k : α → Option β} {r : β} (h : bs x k = some r) : ∃ y, x = y ∧ k y = some r := ⟨x, rfl, h⟩
theorem A_weq {p : Program} {l : Launch} {e : Env} {R : Room} {s : State} {m : MethodId} {args : Array Value} {below : List Frame} {meth : Method} {c : Code} {D : va_G} {nL : Nat} {w0 : va_W} {Q : State → Prop} {pc : Nat} {lv : List (Nat × Value)} {st : List Value} {ws : va_W} {kc ks : Nat} (ws' : va_W) (h : ws = ws') (k : At p l e R s m args below meth c D nL w0 Q kc ks pc lv st ws') : At p l e R s m args below meth c D nL w0 Q kc ks pc lv st ws := by
  rw [h]; exact k
