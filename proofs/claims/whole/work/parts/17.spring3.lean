section
variable {p : Program} {l : Launch} {e : Env} {s : State} {m : MethodId} {args : Array Value} {below : List Frame} {meth : Method} {c : Code} {D : va_G} {w0 : va_W} {t : ty4}
def f_5_valley (bX bR bT bG bY bN : BV) : Option (Int32 × BV × BV × BV × BV × BV × BV) :=
  (f_1_readItems bR bT bG).bind (fun z => if 0 ≤ z.1 then ((f_4_drop z.2.2.1).bind (fun d => (f_3_startAnew bY bN).bind (fun y => some (z.1, pA (pA (pI bX 8 0) 4 0 0) 4 1 0, z.2.1, d.2, z.2.2.2, y.1, y.2)))) else some (z.1, bX, z.2.1, z.2.2.1, z.2.2.2, bY, bN))
theorem permS (F a b v : va_W) : (F ++ (a ++ (b ++ v))).Perm (F ++ (b ++ (a ++ v))) := List.Perm.append_left F (List.perm_append_comm_assoc a b v)
theorem c_5_valley (l : Launch) (D : va_G) (t : ty4) (qX qR qT qG qL qA qY qN : Nat → Nat) (im fa : Nat → Option Nat) (tail : va_W) (bX bR bT bG bL bA bY bN : BV) {r : Int32 × BV × BV × BV × BV × BV × BV} (h0 : f_5_valley bX bR bT bG bY bN = some r) : MetI l yX5_valley cX5_valley 3 (some .int) (rmD 8) D t [.ref (qX 99)] (wX t qX qR qL qY qA im bX ++ (wRd t qR qT qG bR ++ (wTx t qT bT ++ (wL t qG bG ++ (wL t qL bL ++ (wS t qA bA ++ (wY t qY qN fa bY ++ (wS t qN bN ++ (tail))))))))) (fun x w => r.1 = x ∧ (if 0 ≤ r.1 then (wX t qX qR qG qY qA im r.2.1 ++ (wRd t qR qT qL r.2.2.1 ++ (wTx t qT r.2.2.2.1 ++ (wL t qL bL ++ (wL t qG r.2.2.2.2.1 ++ (wS t qA bA ++ (wY t qY qN fa r.2.2.2.2.2.1 ++ (wS t qN r.2.2.2.2.2.2 ++ (tail))))))))) else (wX t qX qR qL qY qA im r.2.1 ++ (wRd t qR qT qG r.2.2.1 ++ (wTx t qT r.2.2.2.1 ++ (wL t qG r.2.2.2.2.1 ++ (wL t qL bL ++ (wS t qA bA ++ (wY t qY qN fa r.2.2.2.2.2.1 ++ (wS t qN r.2.2.2.2.2.2 ++ (tail)))))))))) = w) := by
  refine MetI_of (by decide +kernel) (Nat.le_of_ble_eq_true rfl) (fun p e s m below meth c C _ => ?_)
  unfold f_5_valley at h0
  obtain ⟨z, hz, h0⟩ := bind_some h0
  refine At.start (lv2 := [(0, .ref (qX 99))]) rfl ?_
  refine A_aload_n C 0 dX5_valley_0 rfl rfl ?_
  refine A_get (v := .ref (qR 99)) C 0 0 inG5 (ci := 5) rfl (by decide) fl_5_12 rfl rfl rfl dX5_valley_1 ?_
  refine A_vI (As := []) (rest := []) C 0 (c_1_readItems l D t qR qT qG bR bT bG hz) mw_1_readItems ml_5_81 im_1_readItems sl_1_readItems (rmok rfl rfl) (cutA (wX t qX qR qL qY qA im bX) (wRd t qR qT qG bR ++ (wTx t qT bT ++ (wL t qG bG))) (wL t qL bL ++ (wS t qA bA ++ (wY t qY qN fa bY ++ (wS t qN bN ++ (tail)))))) rfl (ci := 1) rfl rfl rfl (Nat.le_of_ble_eq_true rfl) dX5_valley_4 (fun x w1 hw1 => ?_)
  obtain ⟨rfl, rfl⟩ := hw1
  refine A_perm (ws' := (wX t qX qR qL qY qA im bX ++ (wRd t qR qT qG z.2.1 ++ (wTx t qT z.2.2.1 ++ (wL t qG z.2.2.2 ++ (wL t qL bL ++ (wS t qA bA ++ (wY t qY qN fa bY ++ (wS t qN bN ++ (tail)))))))))) ((cutA (wX t qX qR qL qY qA im bX) (wRd t qR qT qG z.2.1 ++ (wTx t qT z.2.2.1 ++ (wL t qG z.2.2.2))) (wL t qL bL ++ (wS t qA bA ++ (wY t qY qN fa bY ++ (wS t qN bN ++ (tail)))))).symm) ?_
  refine A_istore_n C [(1, .int z.1), (0, .ref (qX 99))] dX5_valley_7 rfl (by decide) rfl ?_
  refine A_iload_n C 0 dX5_valley_8 rfl rfl ?_
  by_cases hc : 0 ≤ z.1
  · rw [if_pos hc] at h0
    refine A_if_ge (a := some ()) (b := none) (r := ()) C 14 dX5_valley_9 (by decide) (by rw [if_pos hc]) (fun _ => ?_) (fun h => by cases h)
    obtain ⟨dd, hd, h0⟩ := bind_some h0
    obtain ⟨y, hy, h0⟩ := bind_some h0
    refine A_aload_n C 1 dX5_valley_14 rfl rfl ?_
    refine A_aload_n C 1 dX5_valley_15 rfl rfl ?_
    refine A_get (v := .ref (qR 99)) C 0 0 inG5 (ci := 5) rfl (by decide) fl_5_12 rfl rfl rfl dX5_valley_16 ?_
    refine A_aload_n C 1 dX5_valley_19 rfl rfl ?_
    refine A_get (v := .ref (qL 99)) C 0 1 inG5 (ci := 5) rfl (by decide) fl_5_19 rfl rfl rfl dX5_valley_20 ?_
    refine A_vR (As := [.ref (qL 99)]) (rest := [.ref (qX 99)]) C 0 (c_1_handOver l D t qR qT qG qL z.2.1) mw_1_handOver ml_5_84 im_1_handOver sl_1_handOver (rmok rfl rfl) (cutA (wX t qX qR qL qY qA im bX) (wRd t qR qT qG z.2.1) (wTx t qT z.2.2.1 ++ (wL t qG z.2.2.2 ++ (wL t qL bL ++ (wS t qA bA ++ (wY t qY qN fa bY ++ (wS t qN bN ++ (tail)))))))) rfl (ci := 1) rfl rfl rfl (Nat.le_of_ble_eq_true rfl) dX5_valley_23 (fun x w1 hw1 => ?_)
    obtain ⟨rfl, rfl⟩ := hw1
    refine A_perm (ws' := (wX t qX qR qL qY qA im bX ++ (wRd t qR qT qL z.2.1 ++ (wTx t qT z.2.2.1 ++ (wL t qG z.2.2.2 ++ (wL t qL bL ++ (wS t qA bA ++ (wY t qY qN fa bY ++ (wS t qN bN ++ (tail)))))))))) ((cutA (wX t qX qR qL qY qA im bX) (wRd t qR qT qL z.2.1) (wTx t qT z.2.2.1 ++ (wL t qG z.2.2.2 ++ (wL t qL bL ++ (wS t qA bA ++ (wY t qY qN fa bY ++ (wS t qN bN ++ (tail)))))))).symm) ?_
    refine A_put C 0 1 (wX t qX qR qG qY qA im bX ++ (wRd t qR qT qL z.2.1 ++ (wTx t qT z.2.2.1 ++ (wL t qG z.2.2.2 ++ (wL t qL bL ++ (wS t qA bA ++ (wY t qY qN fa bY ++ (wS t qN bN ++ (tail))))))))) tyX5 inG5 tyX5_ok nmX5 (ci := 5) rfl (by decide) fl_5_19 rfl rfl rfl rfl rfl (Nat.le_of_ble_eq_true rfl) rfl dX5_valley_26 ?_
    refine A_aload_n C 1 dX5_valley_29 rfl rfl ?_
    refine A_get (v := .ref (qR 99)) C 0 0 inG5 (ci := 5) rfl (by decide) fl_5_12 rfl rfl rfl dX5_valley_30 ?_
    refine A_get (v := .ref (qT 99)) C 5 0 inG1 (ci := 1) rfl (by decide) fl_5_64 rfl rfl rfl dX5_valley_33 ?_
    refine A_vI (As := []) (rest := []) C 0 (c_4_drop l D t qT z.2.2.1 hd) mw_4_drop ml_5_77 im_4_drop sl_4_drop (rmok rfl rfl) (cutA (wX t qX qR qG qY qA im bX ++ wRd t qR qT qL z.2.1) (wTx t qT z.2.2.1) (wL t qG z.2.2.2 ++ (wL t qL bL ++ (wS t qA bA ++ (wY t qY qN fa bY ++ (wS t qN bN ++ (tail))))))) rfl (ci := 4) rfl rfl rfl (Nat.le_of_ble_eq_true rfl) dX5_valley_36 (fun x w1 hw1 => ?_)
    obtain ⟨rfl, rfl⟩ := hw1
    refine A_perm (ws' := (wX t qX qR qG qY qA im bX ++ (wRd t qR qT qL z.2.1 ++ (wTx t qT dd.2 ++ (wL t qG z.2.2.2 ++ (wL t qL bL ++ (wS t qA bA ++ (wY t qY qN fa bY ++ (wS t qN bN ++ (tail)))))))))) ((cutA (wX t qX qR qG qY qA im bX ++ wRd t qR qT qL z.2.1) (wTx t qT dd.2) (wL t qG z.2.2.2 ++ (wL t qL bL ++ (wS t qA bA ++ (wY t qY qN fa bY ++ (wS t qN bN ++ (tail))))))).symm) ?_
    refine A_pop C dX5_valley_39 rfl ?_
    refine A_aload_n C 1 dX5_valley_40 rfl rfl ?_
    refine A_get (v := .ref (qY 99)) C 0 2 inG5 (ci := 5) rfl (by decide) fl_5_26 rfl rfl rfl dX5_valley_41 ?_
    refine A_vV (As := []) (rest := []) C 0 (c_3_startAnew l D t qY qN fa bY bN hy) mw_3_startAnew ml_5_88 im_3_startAnew sl_3_startAnew (rmok rfl rfl) (cutA (wX t qX qR qG qY qA im bX ++ (wRd t qR qT qL z.2.1 ++ (wTx t qT dd.2 ++ (wL t qG z.2.2.2 ++ (wL t qL bL ++ wS t qA bA))))) (wY t qY qN fa bY ++ wS t qN bN) tail) rfl (ci := 3) rfl rfl rfl (Nat.le_of_ble_eq_true rfl) dX5_valley_44 (fun w1 hw1 => ?_)
    subst hw1
    refine A_perm (ws' := (wX t qX qR qG qY qA im bX ++ (wRd t qR qT qL z.2.1 ++ (wTx t qT dd.2 ++ (wL t qG z.2.2.2 ++ (wL t qL bL ++ (wS t qA bA ++ (wY t qY qN fa y.1 ++ (wS t qN y.2 ++ (tail)))))))))) ((cutA (wX t qX qR qG qY qA im bX ++ (wRd t qR qT qL z.2.1 ++ (wTx t qT dd.2 ++ (wL t qG z.2.2.2 ++ (wL t qL bL ++ wS t qA bA))))) (wY t qY qN fa y.1 ++ wS t qN y.2) tail).symm) ?_
    refine A_aload_n C 1 dX5_valley_47 rfl rfl ?_
    refine A_iconst C (0 : Int32) dX5_valley_48 (by decide) ?_
    refine A_put C 0 8 (wX t qX qR qG qY qA im (pI bX 8 0) ++ (wRd t qR qT qL z.2.1 ++ (wTx t qT dd.2 ++ (wL t qG z.2.2.2 ++ (wL t qL bL ++ (wS t qA bA ++ (wY t qY qN fa y.1 ++ (wS t qN y.2 ++ (tail))))))))) tyX5 inG5 tyX5_ok nmX5 (ci := 5) rfl (by decide) fl_5_52 rfl rfl rfl rfl rfl (Nat.le_of_ble_eq_true rfl) rfl dX5_valley_49 ?_
    refine A_iconst C (0 : Int32) dX5_valley_52 (by decide) ?_
    refine A_istore_n C [(2, .int (0 : Int32)), (1, .int z.1), (0, .ref (qX 99))] dX5_valley_53 rfl (by decide) rfl ?_
    refine A_iload_n C 0 dX5_valley_54 rfl rfl ?_
    refine A_iconst C (2 : Int32) dX5_valley_55 (by decide) ?_
    refine A_icmp_ge (a := none) (b := some ()) (r := ()) C 72 dX5_valley_56 (by decide) (by decide) (fun h => by cases h) (fun _ => ?_)
    refine A_aload_n C 2 dX5_valley_59 rfl rfl ?_
    refine A_get (v := .ref (qX 4)) C 0 4 inG5 (ci := 5) rfl (by decide) fl_5_34 rfl rfl rfl dX5_valley_60 ?_
    refine A_iload_n C 0 dX5_valley_63 rfl rfl ?_
    refine A_iconst C (0 : Int32) dX5_valley_64 (by decide) ?_
    refine A_zast (a := some ()) (r := ()) C 2 (wX t qX qR qG qY qA im (pA (pI bX 8 0) 4 0 0) ++ (wRd t qR qT qL z.2.1 ++ (wTx t qT dd.2 ++ (wL t qG z.2.2.2 ++ (wL t qL bL ++ (wS t qA bA ++ (wY t qY qN fa y.1 ++ (wS t qN y.2 ++ (tail))))))))) rfl rfl rfl dX5_valley_65 (by decide) (fun _ => ?_)
    refine A_iinc C 0 (1 : Int32) [(2, .int (1 : Int32)), (1, .int z.1), (0, .ref (qX 99))] dX5_valley_66 rfl (by decide) (by decide) rfl ?_
    refine A_goto C 54 dX5_valley_69 (by decide) ?_
    refine A_iload_n C 0 dX5_valley_54 rfl rfl ?_
    refine A_iconst C (2 : Int32) dX5_valley_55 (by decide) ?_
    refine A_icmp_ge (a := none) (b := some ()) (r := ()) C 72 dX5_valley_56 (by decide) (by decide) (fun h => by cases h) (fun _ => ?_)
    refine A_aload_n C 2 dX5_valley_59 rfl rfl ?_
    refine A_get (v := .ref (qX 4)) C 0 4 inG5 (ci := 5) rfl (by decide) fl_5_34 rfl rfl rfl dX5_valley_60 ?_
    refine A_iload_n C 0 dX5_valley_63 rfl rfl ?_
    refine A_iconst C (0 : Int32) dX5_valley_64 (by decide) ?_
    refine A_zast (a := some ()) (r := ()) C 2 (wX t qX qR qG qY qA im (pA (pA (pI bX 8 0) 4 0 0) 4 1 0) ++ (wRd t qR qT qL z.2.1 ++ (wTx t qT dd.2 ++ (wL t qG z.2.2.2 ++ (wL t qL bL ++ (wS t qA bA ++ (wY t qY qN fa y.1 ++ (wS t qN y.2 ++ (tail))))))))) rfl rfl rfl dX5_valley_65 (by decide) (fun _ => ?_)
    refine A_iinc C 0 (2 : Int32) [(2, .int (2 : Int32)), (1, .int z.1), (0, .ref (qX 99))] dX5_valley_66 rfl (by decide) (by decide) rfl ?_
    refine A_goto C 54 dX5_valley_69 (by decide) ?_
    refine A_iload_n C 0 dX5_valley_54 rfl rfl ?_
    refine A_iconst C (2 : Int32) dX5_valley_55 (by decide) ?_
    refine A_icmp_ge (a := some ()) (b := none) (r := ()) C 72 dX5_valley_56 (by decide) (by decide) (fun _ => ?_) (fun h => by cases h)
    refine A_iload_n C 1 dX5_valley_72 rfl rfl ?_
    have h0 := Option.some.inj h0
    subst h0
    refine A_perm (ws' := (wX t qX qR qG qY qA im (pA (pA (pI bX 8 0) 4 0 0) 4 1 0) ++ (wRd t qR qT qL z.2.1 ++ (wTx t qT dd.2 ++ (wL t qL bL ++ (wL t qG z.2.2.2 ++ (wS t qA bA ++ (wY t qY qN fa y.1 ++ (wS t qN y.2 ++ (tail)))))))))) (permS (wX t qX qR qG qY qA im (pA (pA (pI bX 8 0) 4 0 0) 4 1 0) ++ (wRd t qR qT qL z.2.1 ++ wTx t qT dd.2)) (wL t qG z.2.2.2) (wL t qL bL) (wS t qA bA ++ (wY t qY qN fa y.1 ++ (wS t qN y.2 ++ tail)))) ?_
    exact A_iret C dX5_valley_73 ⟨rfl, if_pos hc⟩
  · rw [if_neg hc] at h0
    refine A_if_ge (a := none) (b := some ()) (r := ()) C 14 dX5_valley_9 (by decide) (by rw [if_neg hc]) (fun h => by cases h) (fun _ => ?_)
    refine A_iload_n C 0 dX5_valley_12 rfl rfl ?_
    have h0 := Option.some.inj h0
    subst h0
    exact A_iret C dX5_valley_13 ⟨rfl, if_neg hc⟩
def wIm (t : ty4) (qZ qM : Nat → Nat → Nat) (fb : Nat → Nat → Option Nat) (qo : Nat → Nat → Nat → Nat) (Z M : Nat → BV) (O : Nat → Nat → BV) (is : List Nat) : va_W := is.flatMap (fun i => wSt t (qZ i) (qM i) (fb i) (qo i) (Z i) (M i) (O i))
abbrev r2 : List Nat := [0, 1]
def Im (im : Nat → Option Nat) (qZ : Nat → Nat → Nat) (fb : Nat → Nat → Option Nat) (qo : Nat → Nat → Nat → Nat) : Prop := ∀ i, i < 2 → im i = some (qZ i 99) ∧ Fa (fb i) (qo i)
theorem wIm_cut {t : ty4} {qZ qM : Nat → Nat → Nat} {fb : Nat → Nat → Option Nat} {qo : Nat → Nat → Nat → Nat} {Z M : Nat → BV} {O : Nat → Nat → BV} {i : Nat} (h : i < 2) : (wIm t qZ qM fb qo Z M O r2).Perm (wIm t qZ qM fb qo Z M O (r2.erase i) ++ wSt t (qZ i) (qM i) (fb i) (qo i) (Z i) (M i) (O i)) := by
  have h2 : ∀ i, i < 2 → i ∈ r2 := by decide
  have h1 : r2.Perm (i :: r2.erase i) := List.perm_cons_erase (h2 i h)
  refine (h1.flatMap_right _).trans ?_
  show (wSt t (qZ i) (qM i) (fb i) (qo i) (Z i) (M i) (O i) ++ wIm t qZ qM fb qo Z M O (r2.erase i)).Perm _
  exact List.perm_append_comm
theorem wIm_back {t : ty4} {qZ qM : Nat → Nat → Nat} {fb : Nat → Nat → Option Nat} {qo : Nat → Nat → Nat → Nat} {Z M : Nat → BV} {O : Nat → Nat → BV} {i : Nat} {z m : BV} {o : Nat → BV} (h : i < 2) : (wIm t qZ qM fb qo Z M O (r2.erase i) ++ wSt t (qZ i) (qM i) (fb i) (qo i) z m o).Perm (wIm t qZ qM fb qo (va_up Z i z) (va_up M i m) (va_up O i o) r2) := by
  refine List.Perm.trans ?_ (wIm_cut (Z := va_up Z i z) (M := va_up M i m) (O := va_up O i o) h).symm
  rw [va_up_self, va_up_self, va_up_self]
  have h3 : ∀ i, i < 2 → ∀ j ∈ r2.erase i, j ≠ i := by decide
  have h4 : ∀ is : List Nat, (∀ j ∈ is, j ≠ i) → wIm t qZ qM fb qo Z M O is = wIm t qZ qM fb qo (va_up Z i z) (va_up M i m) (va_up O i o) is := by
    intro is
    induction is with
    | nil => intro _; rfl
    | cons a l ih =>
      intro hh
      have hl := ih (fun j hj => hh j (List.mem_cons_of_mem _ hj))
      have ha := hh a List.mem_cons_self
      unfold wIm at hl ⊢
      rw [List.flatMap_cons, List.flatMap_cons, hl, va_up_ne _ _ ha, va_up_ne _ _ ha, va_up_ne _ _ ha]
  rw [h4 _ (h3 i h)]
/-- the story and an image out of the whole, as Story.become wants them: the image first -/
theorem permK {F b1 b2 b3 I I' a1 a2 a3 : va_W} (h : I.Perm (I' ++ (a1 ++ (a2 ++ a3)))) : (F ++ (b1 ++ (b2 ++ (b3 ++ I)))).Perm ((F ++ I') ++ (a1 ++ (a2 ++ (b1 ++ (b2 ++ (a3 ++ b3)))))) := by
  have : DecidableEq (Nat × va_E) := fun a b => Classical.propDecidable (a = b)
  rw [List.perm_iff_count] at h ⊢
  intro x
  have h := h x
  simp only [List.count_append] at h ⊢
  omega
/-- the story first -/
theorem permL {F b1 b2 b3 I I' a1 a2 a3 : va_W} (h : I.Perm (I' ++ (a1 ++ (a2 ++ a3)))) : (F ++ (b1 ++ (b2 ++ (b3 ++ I)))).Perm ((F ++ I') ++ (b1 ++ (b2 ++ (a1 ++ (a2 ++ (b3 ++ a3)))))) := by
  have : DecidableEq (Nat × va_E) := fun a b => Classical.propDecidable (a = b)
  rw [List.perm_iff_count] at h ⊢
  intro x
  have h := h x
  simp only [List.count_append] at h ⊢
  omega
def f_5_keep (bX bY bN : BV) (P : Nat → BV) (Z M : Nat → BV) (O : Nat → Nat → BV) (x1 : Int32) : Option (Int32 × BV × (Nat → BV) × (Nat → BV) × (Nat → Nat → BV)) :=
  (f_5_isWithin x1 0 1).bind (fun z1 => if z1 = 0 then some (-1, bX, Z, M, O) else ck (inb x1 2) ((f_3_become (Z x1.toNatClampNeg) (M x1.toNatClampNeg) (O x1.toNatClampNeg) bY bN P).bind (fun z => some (gI bN 4, pA bX 4 x1 1, va_up Z x1.toNatClampNeg z.1, va_up M x1.toNatClampNeg z.2.1, va_up O x1.toNatClampNeg z.2.2))))
def f_5_back (bX bY bN : BV) (P : Nat → BV) (Z M : Nat → BV) (O : Nat → Nat → BV) (x1 : Int32) : Option (Int32 × BV × BV × (Nat → BV)) :=
  (f_5_isWithin x1 0 1).bind (fun z1 => if z1 = 0 then some (-1, bY, bN, P) else ck (inb x1 2) (if gA bX 4 x1 = 0 then some (-2, bY, bN, P) else (f_3_become bY bN P (Z x1.toNatClampNeg) (M x1.toNatClampNeg) (O x1.toNatClampNeg)).bind (fun z => some (gI z.2.1 4, z.1, z.2.1, z.2.2))))
theorem c_5_keep (l : Launch) (D : va_G) (t : ty4) (qX qR qT qG qL qA qY qN : Nat → Nat) (im fa : Nat → Option Nat) (qp : Nat → Nat → Nat) (qZ qM : Nat → Nat → Nat) (fb : Nat → Nat → Option Nat) (qo : Nat → Nat → Nat → Nat) (bX bR bT bG bL bA bY bN : BV) (P : Nat → BV) (Z M : Nat → BV) (O : Nat → Nat → BV) (x1 : Int32) {r : Int32 × BV × (Nat → BV) × (Nat → BV) × (Nat → Nat → BV)} (hfa : Fa fa qp) (him : Im im qZ fb qo) (h0 : f_5_keep bX bY bN P Z M O x1 = some r) : MetI l yX5_keep cX5_keep 2 (some .int) (rmD 2) D t [.ref (qX 99), .int x1] (wX t qX qR qL qY qA im bX ++ (wRd t qR qT qG bR ++ (wTx t qT bT ++ (wL t qG bG ++ (wL t qL bL ++ (wS t qA bA ++ (wY t qY qN fa bY ++ (wS t qN bN ++ (wPs t qp P r10 ++ (wIm t qZ qM fb qo Z M O r2)))))))))) (fun x w => r.1 = x ∧ (wX t qX qR qL qY qA im r.2.1 ++ (wRd t qR qT qG bR ++ (wTx t qT bT ++ (wL t qG bG ++ (wL t qL bL ++ (wS t qA bA ++ (wY t qY qN fa bY ++ (wS t qN bN ++ (wPs t qp P r10 ++ (wIm t qZ qM fb qo r.2.2.1 r.2.2.2.1 r.2.2.2.2 r2)))))))))) = w) := by
  refine MetI_of (by decide +kernel) (Nat.le_of_ble_eq_true rfl) (fun p e s m below meth c C _ => ?_)
  unfold f_5_keep at h0
  obtain ⟨z1, hz1, h0⟩ := bind_some h0
  refine At.start (lv2 := [(0, .ref (qX 99)), (1, .int x1)]) rfl ?_
  refine A_iload_n C 1 dX5_keep_0 rfl rfl ?_
  refine A_iconst C (0 : Int32) dX5_keep_1 (by decide) ?_
  refine A_iconst C (1 : Int32) dX5_keep_2 (by decide) ?_
  refine A_sI (As := [.int x1, .int (0 : Int32), .int (1 : Int32)]) (rest := []) C (c_5_isWithin l D t x1 (0 : Int32) (1 : Int32) hz1) mw_5_isWithin ml_5_60 st_5_isWithin (rmok rfl rfl) (cutN (wX t qX qR qL qY qA im bX ++ (wRd t qR qT qG bR ++ (wTx t qT bT ++ (wL t qG bG ++ (wL t qL bL ++ (wS t qA bA ++ (wY t qY qN fa bY ++ (wS t qN bN ++ (wPs t qp P r10 ++ (wIm t qZ qM fb qo Z M O r2))))))))))) rfl rfl (Nat.le_of_ble_eq_true rfl) dX5_keep_3 (fun x w1 hw1 => ?_)
  obtain ⟨rfl, rfl⟩ := hw1
  refine A_perm (ws' := (wX t qX qR qL qY qA im bX ++ (wRd t qR qT qG bR ++ (wTx t qT bT ++ (wL t qG bG ++ (wL t qL bL ++ (wS t qA bA ++ (wY t qY qN fa bY ++ (wS t qN bN ++ (wPs t qp P r10 ++ (wIm t qZ qM fb qo Z M O r2))))))))))) ((cutN _).symm) ?_
  refine A_if_ne C 11 dX5_keep_6 (by decide) h0 (fun h0 => ?_) (fun h0 => ?_)
  rotate_left
  · refine A_iconst C (-1 : Int32) dX5_keep_9 (by decide) ?_
    have h0 := Option.some.inj h0
    subst h0
    exact A_iret C dX5_keep_10 ⟨rfl, rfl⟩
  obtain ⟨hin, h0⟩ := ck_some h0
  have hlt := inb_lt hin
  obtain ⟨z, hz, h0⟩ := bind_some h0
  refine A_aload_n C 0 dX5_keep_11 rfl rfl ?_
  refine A_get (v := .ref (qX 3)) C 0 3 inG5 (ci := 5) rfl (by decide) fl_5_30 rfl rfl rfl dX5_keep_12 ?_
  refine A_iload_n C 1 dX5_keep_15 rfl rfl ?_
  refine A_aald C 1 3 (qZ x1.toNatClampNeg 99) rfl rfl (him _ hlt).1 hin dX5_keep_16 ?_
  refine A_aload_n C 0 dX5_keep_17 rfl rfl ?_
  refine A_get (v := .ref (qY 99)) C 0 2 inG5 (ci := 5) rfl (by decide) fl_5_26 rfl rfl rfl dX5_keep_18 ?_
  refine A_vV (As := [.ref (qY 99)]) (rest := []) C 0 (c_3_become l D t (qZ x1.toNatClampNeg) (qM x1.toNatClampNeg) (fb x1.toNatClampNeg) (qo x1.toNatClampNeg) qY qN fa qp (Z x1.toNatClampNeg) (M x1.toNatClampNeg) (O x1.toNatClampNeg) bY bN P (him _ hlt).2 hfa hz) mw_3_become ml_5_259 im_3_become sl_3_become (rmok rfl rfl) (permK (F := (wX t qX qR qL qY qA im bX ++ (wRd t qR qT qG bR ++ (wTx t qT bT ++ (wL t qG bG ++ (wL t qL bL ++ (wS t qA bA))))))) (wIm_cut hlt)) rfl (ci := 3) rfl rfl rfl (Nat.le_of_ble_eq_true rfl) dX5_keep_21 (fun w1 hw1 => ?_)
  subst hw1
  refine A_perm (ws' := (wX t qX qR qL qY qA im bX ++ (wRd t qR qT qG bR ++ (wTx t qT bT ++ (wL t qG bG ++ (wL t qL bL ++ (wS t qA bA ++ (wY t qY qN fa bY ++ (wS t qN bN ++ (wPs t qp P r10 ++ (wIm t qZ qM fb qo (va_up Z x1.toNatClampNeg z.1) (va_up M x1.toNatClampNeg z.2.1) (va_up O x1.toNatClampNeg z.2.2) r2))))))))))) (permK (F := (wX t qX qR qL qY qA im bX ++ (wRd t qR qT qG bR ++ (wTx t qT bT ++ (wL t qG bG ++ (wL t qL bL ++ (wS t qA bA))))))) (wIm_back hlt).symm).symm ?_
  refine A_aload_n C 0 dX5_keep_24 rfl rfl ?_
  refine A_get (v := .ref (qX 4)) C 0 4 inG5 (ci := 5) rfl (by decide) fl_5_34 rfl rfl rfl dX5_keep_25 ?_
  refine A_iload_n C 1 dX5_keep_28 rfl rfl ?_
  refine A_iconst C (1 : Int32) dX5_keep_29 (by decide) ?_
  refine A_zast (a := some ()) (r := ()) C 2 (wX t qX qR qL qY qA im (pA bX 4 x1 1) ++ (wRd t qR qT qG bR ++ (wTx t qT bT ++ (wL t qG bG ++ (wL t qL bL ++ (wS t qA bA ++ (wY t qY qN fa bY ++ (wS t qN bN ++ (wPs t qp P r10 ++ (wIm t qZ qM fb qo (va_up Z x1.toNatClampNeg z.1) (va_up M x1.toNatClampNeg z.2.1) (va_up O x1.toNatClampNeg z.2.2) r2)))))))))) rfl rfl rfl dX5_keep_30 (by rw [hin]; rfl) (fun _ => ?_)
  refine A_aload_n C 0 dX5_keep_31 rfl rfl ?_
  refine A_get (v := .ref (qY 99)) C 0 2 inG5 (ci := 5) rfl (by decide) fl_5_26 rfl rfl rfl dX5_keep_32 ?_
  refine A_get (v := .ref (qN 99)) C 24 0 inG3 (ci := 3) rfl (by decide) fl_5_104 rfl rfl rfl dX5_keep_35 ?_
  refine A_get (v := .int (gI bN 4)) C 26 4 inG2 (ci := 2) rfl (by decide) fl_5_167 rfl rfl rfl dX5_keep_38 ?_
  have h0 := Option.some.inj h0
  subst h0
  exact A_iret C dX5_keep_41 ⟨rfl, rfl⟩
theorem c_5_back (l : Launch) (D : va_G) (t : ty4) (qX qR qT qG qL qA qY qN : Nat → Nat) (im fa : Nat → Option Nat) (qp : Nat → Nat → Nat) (qZ qM : Nat → Nat → Nat) (fb : Nat → Nat → Option Nat) (qo : Nat → Nat → Nat → Nat) (bX bR bT bG bL bA bY bN : BV) (P : Nat → BV) (Z M : Nat → BV) (O : Nat → Nat → BV) (x1 : Int32) {r : Int32 × BV × BV × (Nat → BV)} (hfa : Fa fa qp) (him : Im im qZ fb qo) (h0 : f_5_back bX bY bN P Z M O x1 = some r) : MetI l yX5_back cX5_back 2 (some .int) (rmD 2) D t [.ref (qX 99), .int x1] (wX t qX qR qL qY qA im bX ++ (wRd t qR qT qG bR ++ (wTx t qT bT ++ (wL t qG bG ++ (wL t qL bL ++ (wS t qA bA ++ (wY t qY qN fa bY ++ (wS t qN bN ++ (wPs t qp P r10 ++ (wIm t qZ qM fb qo Z M O r2)))))))))) (fun x w => r.1 = x ∧ (wX t qX qR qL qY qA im bX ++ (wRd t qR qT qG bR ++ (wTx t qT bT ++ (wL t qG bG ++ (wL t qL bL ++ (wS t qA bA ++ (wY t qY qN fa r.2.1 ++ (wS t qN r.2.2.1 ++ (wPs t qp r.2.2.2 r10 ++ (wIm t qZ qM fb qo Z M O r2)))))))))) = w) := by
  refine MetI_of (by decide +kernel) (Nat.le_of_ble_eq_true rfl) (fun p e s m below meth c C _ => ?_)
  unfold f_5_back at h0
  obtain ⟨z1, hz1, h0⟩ := bind_some h0
  refine At.start (lv2 := [(0, .ref (qX 99)), (1, .int x1)]) rfl ?_
  refine A_iload_n C 1 dX5_back_0 rfl rfl ?_
  refine A_iconst C (0 : Int32) dX5_back_1 (by decide) ?_
  refine A_iconst C (1 : Int32) dX5_back_2 (by decide) ?_
  refine A_sI (As := [.int x1, .int (0 : Int32), .int (1 : Int32)]) (rest := []) C (c_5_isWithin l D t x1 (0 : Int32) (1 : Int32) hz1) mw_5_isWithin ml_5_60 st_5_isWithin (rmok rfl rfl) (cutN (wX t qX qR qL qY qA im bX ++ (wRd t qR qT qG bR ++ (wTx t qT bT ++ (wL t qG bG ++ (wL t qL bL ++ (wS t qA bA ++ (wY t qY qN fa bY ++ (wS t qN bN ++ (wPs t qp P r10 ++ (wIm t qZ qM fb qo Z M O r2))))))))))) rfl rfl (Nat.le_of_ble_eq_true rfl) dX5_back_3 (fun x w1 hw1 => ?_)
  obtain ⟨rfl, rfl⟩ := hw1
  refine A_perm (ws' := (wX t qX qR qL qY qA im bX ++ (wRd t qR qT qG bR ++ (wTx t qT bT ++ (wL t qG bG ++ (wL t qL bL ++ (wS t qA bA ++ (wY t qY qN fa bY ++ (wS t qN bN ++ (wPs t qp P r10 ++ (wIm t qZ qM fb qo Z M O r2))))))))))) ((cutN _).symm) ?_
  refine A_if_ne C 11 dX5_back_6 (by decide) h0 (fun h0 => ?_) (fun h0 => ?_)
  rotate_left
  · refine A_iconst C (-1 : Int32) dX5_back_9 (by decide) ?_
    have h0 := Option.some.inj h0
    subst h0
    exact A_iret C dX5_back_10 ⟨rfl, rfl⟩
  obtain ⟨hin, h0⟩ := ck_some h0
  have hlt := inb_lt hin
  refine A_aload_n C 0 dX5_back_11 rfl rfl ?_
  refine A_get (v := .ref (qX 4)) C 0 4 inG5 (ci := 5) rfl (by decide) fl_5_34 rfl rfl rfl dX5_back_12 ?_
  refine A_iload_n C 1 dX5_back_15 rfl rfl ?_
  refine A_zald (a := some ()) (r := ()) C 2 (gA bX 4 x1) rfl rfl dX5_back_16 (by rw [hin]; rfl) (fun _ => ?_)
  refine A_if_ne C 23 dX5_back_17 (by decide) h0 (fun h0 => ?_) (fun h0 => ?_)
  rotate_left
  · refine A_bipush C (-2 : Int32) dX5_back_20 (by decide) ?_
    have h0 := Option.some.inj h0
    subst h0
    exact A_iret C dX5_back_22 ⟨rfl, rfl⟩
  obtain ⟨z, hz, h0⟩ := bind_some h0
  refine A_aload_n C 0 dX5_back_23 rfl rfl ?_
  refine A_get (v := .ref (qY 99)) C 0 2 inG5 (ci := 5) rfl (by decide) fl_5_26 rfl rfl rfl dX5_back_24 ?_
  refine A_aload_n C 0 dX5_back_27 rfl rfl ?_
  refine A_get (v := .ref (qX 3)) C 0 3 inG5 (ci := 5) rfl (by decide) fl_5_30 rfl rfl rfl dX5_back_28 ?_
  refine A_iload_n C 1 dX5_back_31 rfl rfl ?_
  refine A_aald C 1 3 (qZ x1.toNatClampNeg 99) rfl rfl (him _ hlt).1 hin dX5_back_32 ?_
  refine A_vV (As := [.ref (qZ x1.toNatClampNeg 99)]) (rest := []) C 0 (c_3_become l D t qY qN fa qp (qZ x1.toNatClampNeg) (qM x1.toNatClampNeg) (fb x1.toNatClampNeg) (qo x1.toNatClampNeg) bY bN P (Z x1.toNatClampNeg) (M x1.toNatClampNeg) (O x1.toNatClampNeg) hfa (him _ hlt).2 hz) mw_3_become ml_5_259 im_3_become sl_3_become (rmok rfl rfl) (permL (F := (wX t qX qR qL qY qA im bX ++ (wRd t qR qT qG bR ++ (wTx t qT bT ++ (wL t qG bG ++ (wL t qL bL ++ (wS t qA bA))))))) (wIm_cut hlt)) rfl (ci := 3) rfl rfl rfl (Nat.le_of_ble_eq_true rfl) dX5_back_33 (fun w1 hw1 => ?_)
  subst hw1
  refine A_perm (ws' := (wX t qX qR qL qY qA im bX ++ (wRd t qR qT qG bR ++ (wTx t qT bT ++ (wL t qG bG ++ (wL t qL bL ++ (wS t qA bA ++ (wY t qY qN fa z.1 ++ (wS t qN z.2.1 ++ (wPs t qp z.2.2 r10 ++ (wIm t qZ qM fb qo Z M O r2))))))))))) (permL (F := (wX t qX qR qL qY qA im bX ++ (wRd t qR qT qG bR ++ (wTx t qT bT ++ (wL t qG bG ++ (wL t qL bL ++ (wS t qA bA))))))) (wIm_cut hlt)).symm ?_
  refine A_aload_n C 0 dX5_back_36 rfl rfl ?_
  refine A_get (v := .ref (qY 99)) C 0 2 inG5 (ci := 5) rfl (by decide) fl_5_26 rfl rfl rfl dX5_back_37 ?_
  refine A_get (v := .ref (qN 99)) C 24 0 inG3 (ci := 3) rfl (by decide) fl_5_104 rfl rfl rfl dX5_back_40 ?_
  refine A_get (v := .int (gI z.2.1 4)) C 26 4 inG2 (ci := 2) rfl (by decide) fl_5_167 rfl rfl rfl dX5_back_43 ?_
  have h0 := Option.some.inj h0
  subst h0
  exact A_iret C dX5_back_46 ⟨rfl, rfl⟩
end
