-- Story: the past standings are a pool in the order of the row that names them
def wPs (t : ty4) (qp : Nat → Nat → Nat) (P : Nat → BV) (is : List Nat) : va_W := is.flatMap (fun i => wS t (qp i) (P i))
abbrev r10 : List Nat := [0, 1, 2, 3, 4, 5, 6, 7, 8, 9]
theorem r10_mem {i : Nat} (h : i < 10) : i ∈ r10 := by
  have h2 : ∀ i, i < 10 → i ∈ r10 := by decide
  exact h2 i h
theorem wPs_perm {t : ty4} {qp : Nat → Nat → Nat} {P : Nat → BV} {is js : List Nat} (h : is.Perm js) : (wPs t qp P is).Perm (wPs t qp P js) := h.flatMap_right _
theorem wPs_cut {t : ty4} {qp : Nat → Nat → Nat} {P : Nat → BV} {i : Nat} (h : i < 10) : (wPs t qp P r10).Perm (wPs t qp P (r10.erase i) ++ wS t (qp i) (P i)) := by
  have h1 : r10.Perm (i :: r10.erase i) := List.perm_cons_erase (r10_mem h)
  refine (wPs_perm h1).trans ?_
  have h2 : wPs t qp P (i :: r10.erase i) = wS t (qp i) (P i) ++ wPs t qp P (r10.erase i) := by simp [wPs]
  rw [h2]
  exact List.perm_append_comm
theorem r10_erase {i : Nat} (h : i < 10) : ∀ j ∈ r10.erase i, j ≠ i := by
  have h2 : ∀ i, i < 10 → ∀ j ∈ r10.erase i, j ≠ i := by decide
  exact h2 i h
theorem wPs_congr {t : ty4} {qp qp' : Nat → Nat → Nat} {P P' : Nat → BV} {is : List Nat} (h : ∀ j ∈ is, qp j = qp' j ∧ P j = P' j) : wPs t qp P is = wPs t qp' P' is := by
  induction is with
  | nil => rfl
  | cons a l ih =>
    have ha := h a List.mem_cons_self
    have hl := ih (fun j hj => h j (List.mem_cons_of_mem _ hj))
    unfold wPs at hl ⊢
    rw [List.flatMap_cons, List.flatMap_cons, hl, ha.1, ha.2]
theorem wPs_back {t : ty4} {qp : Nat → Nat → Nat} {P : Nat → BV} {i : Nat} {S : BV} (h : i < 10) : (wPs t qp P (r10.erase i) ++ wS t (qp i) S).Perm (wPs t qp (va_up P i S) r10) := by
  refine List.Perm.trans ?_ (wPs_cut (P := va_up P i S) h).symm
  rw [va_up_self, wPs_congr (P' := va_up P i S) (qp' := qp) (fun j hj => ⟨rfl, (va_up_ne P S (r10_erase h j hj)).symm⟩)]
theorem permA {F A A' a B : va_W} (h : A.Perm (A' ++ a)) : (F ++ (A ++ B)).Perm ((F ++ (A' ++ B)) ++ a) := by
  rw [List.append_assoc, List.append_assoc]
  refine List.Perm.append_left F ?_
  refine (List.Perm.append_right B h).trans ?_
  rw [List.append_assoc]
  exact List.Perm.append_left A' List.perm_append_comm
theorem permQ {F A A' a B B' b : va_W} (h : A.Perm (A' ++ a)) (h2 : B.Perm (B' ++ b)) : (F ++ (A ++ B)).Perm ((F ++ (A' ++ B')) ++ (a ++ b)) := by
  rw [List.append_assoc]
  refine List.Perm.append_left F ?_
  refine (h.append h2).trans ?_
  rw [List.append_assoc, List.append_assoc]
  refine List.Perm.append_left A' ?_
  have h3 : (a ++ (B' ++ b)).Perm (B' ++ (a ++ b)) := List.perm_append_comm_assoc a B' b
  exact h3
theorem permQ' {F A A' a B B' b : va_W} (h : (A' ++ a).Perm A) (h2 : (B' ++ b).Perm B) : ((F ++ (A' ++ B')) ++ (a ++ b)).Perm (F ++ (A ++ B)) := (permQ h.symm h2.symm).symm
theorem i10 : ∀ i : Nat, i < 10 → inb (Int32.ofNat i) 10 = true ∧ (Int32.ofNat i).toNatClampNeg = i ∧ ¬ ((10 : Int32) ≤ Int32.ofNat i) ∧ Int32.ofNat i + 1 = Int32.ofNat (i + 1) := by decide
def rot (i : Nat) : Nat := if i = 9 then 0 else i + 1
theorem wPs_rot {t : ty4} {qp : Nat → Nat → Nat} {P : Nat → BV} : (wPs t qp P r10).Perm (wPs t (fun i => qp (rot i)) (fun i => P (rot i)) r10) := by
  have h1 : r10.Perm [1, 2, 3, 4, 5, 6, 7, 8, 9, 0] := by decide
  exact wPs_perm h1
section ST
variable {p : Program} {l : Launch} {e : Env} {R : Room} {s : State} {m : MethodId} {args : Array Value} {below : List Frame} {meth : Method} {c : Code} {D : va_G} {nL : Nat} {w0 : va_W} {Q : State → Prop} {cc : ByteArray} {ret : Option FieldType} {own : String} {t : ty4} {pc : Nat} {lv : List (Nat × Value)} {st : List Value} {ws : va_W} {kc ks : Nat}
theorem A_aald (C : CX p s m args meth c cc nL ret own D t) {n : Nat} {f : Nat → Option Nat} {i : Int32} {ad : Nat} {cA : ClassId} {Cn : String} (q0 t0 : Nat) (x : Nat) (ha : ws[q0]? = some (ad, .inl (cA, n, .inr (.inr (.inr (.inr f)))))) (ht : (tysOf t)[t0]? = some (cA, .object Cn)) (hx : f i.toNatClampNeg = some x) (hin : inb i n = true) (d : decode cc pc = .ok (.aaload, 1)) (k : At p l e R s m args below meth c D nL w0 Q kc ks (pc + 1) lv (.ref x :: st) ws) : At p l e R s m args below meth c D nL w0 Q kc ks pc lv (.int i :: .ref ad :: st) ws := fun H locs ls hP hD hS hl => va_aldq C.1.1 C.1.2.1 C.2.2.2.1 hP q0 t0 ha ht (inb_in hin) d (by rw [hx]; exact k H locs ls hP hD hS hl)
theorem A_aast (C : CX p s m args meth c cc nL ret own D t) {n v : Nat} {f : Nat → Option Nat} {i : Int32} {ad : Nat} {cA : ClassId} {rr : vw_C} {vs : List Value} (q0 t0 ci : Nat) (ws' : va_W) (ha : ws[q0]? = some (ad, .inl (cA, n, .inr (.inr (.inr (.inr f)))))) (ht : (tysOf t)[t0]? = some (cA, .object rr.1)) (hv : (v, .inr (ci, vs)) ∈ ws) (hc : classes[ci]? = some rr) (hin : inb i n = true) (hws : ws.set q0 (ad, .inl (cA, n, .inr (.inr (.inr (.inr (va_up f i.toNatClampNeg (some v))))))) = ws') (d : decode cc pc = .ok (.aastore, 1)) (k : At p l e R s m args below meth c D nL w0 Q kc ks (pc + 1) lv st ws') : At p l e R s m args below meth c D nL w0 Q kc ks pc lv (.ref v :: .int i :: .ref ad :: st) ws := by
  intro H locs ls hP hD hS hl
  obtain ⟨qk, hqk⟩ := List.getElem?_of_mem hv
  exact va_astq C.1.1 C.1.2.1 C.2.2.2.1 hP hD hS q0 t0 qk ci ha ht hqk hc (inb_in hin) d (fun H1 locs1 hP1 hD1 hS1 => k H1 locs1 ls (by rw [← hws]; exact hP1) (by rw [← hws]; exact hD1) hS1 hl)
end ST
