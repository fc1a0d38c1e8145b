-- the state of the whole class, one function a public method, and its contract
abbrev XS : Type := BV × BV × BV × BV × BV × BV × BV × BV × (Nat → BV) × (Nat → BV) × (Nat → BV) × (Nat → Nat → BV)
def HasX (t : ty4) (σ : XS) (o : Nat) (w : va_W) : Prop := ∃ (qX qR qT qG qL qA qY qN : Nat → Nat) (im fa : Nat → Option Nat) (qp : Nat → Nat → Nat) (qZ qM : Nat → Nat → Nat) (fb : Nat → Nat → Option Nat) (qo : Nat → Nat → Nat → Nat), Fa fa qp ∧ Im im qZ fb qo ∧ qX 99 = o ∧ wX t qX qR qL qY qA im σ.1 ++ (wRd t qR qT qG σ.2.1 ++ (wTx t qT σ.2.2.1 ++ (wL t qG σ.2.2.2.1 ++ (wL t qL σ.2.2.2.2.1 ++ (wS t qA σ.2.2.2.2.2.1 ++ (wY t qY qN fa σ.2.2.2.2.2.2.1 ++ (wS t qN σ.2.2.2.2.2.2.2.1 ++ (wPs t qp σ.2.2.2.2.2.2.2.2.1 r10 ++ wIm t qZ qM fb qo σ.2.2.2.2.2.2.2.2.2.1 σ.2.2.2.2.2.2.2.2.2.2.1 σ.2.2.2.2.2.2.2.2.2.2.2 r2)))))))) = w
def HasM (t : ty4) (b : BV) (o : Nat) (w : va_W) : Prop := ∃ q : Nat → Nat, q 99 = o ∧ wM t q b = w
theorem HasX.recv {t : ty4} {σ : XS} {o : Nat} {w : va_W} (h : HasX t σ o w) : ∃ fs, w[0]? = some (o, .inr (5, fs)) := by
  obtain ⟨qX, qR, qT, qG, qL, qA, qY, qN, im, fa, qp, qZ, qM, fb, qo, -, -, rfl, rfl⟩ := h
  exact ⟨_, rfl⟩
theorem HasM.recv {t : ty4} {b : BV} {o : Nat} {w : va_W} (h : HasM t b o w) : ∃ fs, w[0]? = some (o, .inr (6, fs)) := by
  obtain ⟨q, rfl, rfl⟩ := h
  exact ⟨_, rfl⟩
def F_type (σ : XS) (x1 : Int32) : Option (Int32 × XS) := (f_5_type σ.2.2.1 x1).bind (fun z => some (z.1, (σ.1, σ.2.1, z.2, σ.2.2.2.1, σ.2.2.2.2.1, σ.2.2.2.2.2.1, σ.2.2.2.2.2.2.1, σ.2.2.2.2.2.2.2.1, σ.2.2.2.2.2.2.2.2.1, σ.2.2.2.2.2.2.2.2.2.1, σ.2.2.2.2.2.2.2.2.2.2.1, σ.2.2.2.2.2.2.2.2.2.2.2)))
theorem C_type (l : Launch) (D : va_G) (t : ty4) (σ : XS) (o : Nat) (ws : va_W) (x1 : Int32) {r : Int32 × XS} (hX : HasX t σ o ws) (h0 : F_type σ x1 = some r) : ∃ Φ, MetI l yX5_type cX5_type 2 (some .int) (rmD 1) D t [.ref o, .int x1] ws Φ ∧ ∀ x w, Φ x w → r.1 = x ∧ HasX t r.2 o w := by
  obtain ⟨qX, qR, qT, qG, qL, qA, qY, qN, im, fa, qp, qZ, qM, fb, qo, hfa, him, rfl, rfl⟩ := hX
  unfold F_type at h0
  obtain ⟨z, hz, h0⟩ := bind_some h0
  have h0 := Option.some.inj h0
  subst h0
  refine ⟨_, c_5_type l D t qX qR qT qG qL qA qY qN im fa (wPs t qp σ.2.2.2.2.2.2.2.2.1 r10 ++ wIm t qZ qM fb qo σ.2.2.2.2.2.2.2.2.2.1 σ.2.2.2.2.2.2.2.2.2.2.1 σ.2.2.2.2.2.2.2.2.2.2.2 r2) σ.1 σ.2.1 σ.2.2.1 σ.2.2.2.1 σ.2.2.2.2.1 σ.2.2.2.2.2.1 σ.2.2.2.2.2.2.1 σ.2.2.2.2.2.2.2.1 x1 hz, fun x w hw => ?_⟩
  obtain ⟨rfl, rfl⟩ := hw
  exact ⟨rfl, qX, qR, qT, qG, qL, qA, qY, qN, im, fa, qp, qZ, qM, fb, qo, hfa, him, rfl, rfl⟩
def G_type (b : BV) (x1 : Int32) : Option (Int32 × BV) := (f_6_type b x1).bind (fun z => some (z.1, z.2))
theorem D_type (l : Launch) (D : va_G) (t : ty4) (b : BV) (o : Nat) (ws : va_W) (x1 : Int32) {r : Int32 × BV} (hX : HasM t b o ws) (h0 : G_type b x1 = some r) : ∃ Φ, MetI l yX6_type cX6_type 2 (some .int) (rmD 1) D t [.ref o, .int x1] ws Φ ∧ ∀ x w, Φ x w → r.1 = x ∧ HasM t r.2 o w := by
  obtain ⟨q, rfl, rfl⟩ := hX
  unfold G_type at h0
  obtain ⟨z, hz, h0⟩ := bind_some h0
  have h0 := Option.some.inj h0
  subst h0
  refine ⟨_, c_6_type l D t q b x1 hz, fun x w hw => ?_⟩
  obtain ⟨rfl, rfl⟩ := hw
  exact ⟨rfl, q, rfl, rfl⟩
def F_clear (σ : XS) : Option (Int32 × XS) := (f_5_clear σ.2.2.1).bind (fun z => some (z.1, (σ.1, σ.2.1, z.2, σ.2.2.2.1, σ.2.2.2.2.1, σ.2.2.2.2.2.1, σ.2.2.2.2.2.2.1, σ.2.2.2.2.2.2.2.1, σ.2.2.2.2.2.2.2.2.1, σ.2.2.2.2.2.2.2.2.2.1, σ.2.2.2.2.2.2.2.2.2.2.1, σ.2.2.2.2.2.2.2.2.2.2.2)))
theorem C_clear (l : Launch) (D : va_G) (t : ty4) (σ : XS) (o : Nat) (ws : va_W) {r : Int32 × XS} (hX : HasX t σ o ws) (h0 : F_clear σ = some r) : ∃ Φ, MetI l yX5_clear cX5_clear 1 (some .int) (rmD 1) D t [.ref o] ws Φ ∧ ∀ x w, Φ x w → r.1 = x ∧ HasX t r.2 o w := by
  obtain ⟨qX, qR, qT, qG, qL, qA, qY, qN, im, fa, qp, qZ, qM, fb, qo, hfa, him, rfl, rfl⟩ := hX
  unfold F_clear at h0
  obtain ⟨z, hz, h0⟩ := bind_some h0
  have h0 := Option.some.inj h0
  subst h0
  refine ⟨_, c_5_clear l D t qX qR qT qG qL qA qY qN im fa (wPs t qp σ.2.2.2.2.2.2.2.2.1 r10 ++ wIm t qZ qM fb qo σ.2.2.2.2.2.2.2.2.2.1 σ.2.2.2.2.2.2.2.2.2.2.1 σ.2.2.2.2.2.2.2.2.2.2.2 r2) σ.1 σ.2.1 σ.2.2.1 σ.2.2.2.1 σ.2.2.2.2.1 σ.2.2.2.2.2.1 σ.2.2.2.2.2.2.1 σ.2.2.2.2.2.2.2.1 hz, fun x w hw => ?_⟩
  obtain ⟨rfl, rfl⟩ := hw
  exact ⟨rfl, qX, qR, qT, qG, qL, qA, qY, qN, im, fa, qp, qZ, qM, fb, qo, hfa, him, rfl, rfl⟩
def G_clear (b : BV) : Option (Int32 × BV) := (f_6_clear b).bind (fun z => some (z.1, z.2))
theorem D_clear (l : Launch) (D : va_G) (t : ty4) (b : BV) (o : Nat) (ws : va_W) {r : Int32 × BV} (hX : HasM t b o ws) (h0 : G_clear b = some r) : ∃ Φ, MetI l yX6_clear cX6_clear 2 (some .int) (rmD 0) D t [.ref o] ws Φ ∧ ∀ x w, Φ x w → r.1 = x ∧ HasM t r.2 o w := by
  obtain ⟨q, rfl, rfl⟩ := hX
  unfold G_clear at h0
  obtain ⟨z, hz, h0⟩ := bind_some h0
  have h0 := Option.some.inj h0
  subst h0
  refine ⟨_, c_6_clear l D t q b hz, fun x w hw => ?_⟩
  obtain ⟨rfl, rfl⟩ := hw
  exact ⟨rfl, q, rfl, rfl⟩
def F_valley (σ : XS) : Option (Int32 × XS) := (f_5_valley σ.1 σ.2.1 σ.2.2.1 σ.2.2.2.1 σ.2.2.2.2.2.2.1 σ.2.2.2.2.2.2.2.1).bind (fun z => some (z.1, if 0 ≤ z.1 then (z.2.1, z.2.2.1, z.2.2.2.1, σ.2.2.2.2.1, z.2.2.2.2.1, σ.2.2.2.2.2.1, z.2.2.2.2.2.1, z.2.2.2.2.2.2, σ.2.2.2.2.2.2.2.2.1, σ.2.2.2.2.2.2.2.2.2.1, σ.2.2.2.2.2.2.2.2.2.2.1, σ.2.2.2.2.2.2.2.2.2.2.2) else (z.2.1, z.2.2.1, z.2.2.2.1, z.2.2.2.2.1, σ.2.2.2.2.1, σ.2.2.2.2.2.1, z.2.2.2.2.2.1, z.2.2.2.2.2.2, σ.2.2.2.2.2.2.2.2.1, σ.2.2.2.2.2.2.2.2.2.1, σ.2.2.2.2.2.2.2.2.2.2.1, σ.2.2.2.2.2.2.2.2.2.2.2)))
theorem C_valley (l : Launch) (D : va_G) (t : ty4) (σ : XS) (o : Nat) (ws : va_W) {r : Int32 × XS} (hX : HasX t σ o ws) (h0 : F_valley σ = some r) : ∃ Φ, MetI l yX5_valley cX5_valley 3 (some .int) (rmD 8) D t [.ref o] ws Φ ∧ ∀ x w, Φ x w → r.1 = x ∧ HasX t r.2 o w := by
  obtain ⟨qX, qR, qT, qG, qL, qA, qY, qN, im, fa, qp, qZ, qM, fb, qo, hfa, him, rfl, rfl⟩ := hX
  unfold F_valley at h0
  obtain ⟨z, hz, h0⟩ := bind_some h0
  have h0 := Option.some.inj h0
  subst h0
  refine ⟨_, c_5_valley l D t qX qR qT qG qL qA qY qN im fa (wPs t qp σ.2.2.2.2.2.2.2.2.1 r10 ++ wIm t qZ qM fb qo σ.2.2.2.2.2.2.2.2.2.1 σ.2.2.2.2.2.2.2.2.2.2.1 σ.2.2.2.2.2.2.2.2.2.2.2 r2) σ.1 σ.2.1 σ.2.2.1 σ.2.2.2.1 σ.2.2.2.2.1 σ.2.2.2.2.2.1 σ.2.2.2.2.2.2.1 σ.2.2.2.2.2.2.2.1 hz, fun x w hw => ?_⟩
  obtain ⟨rfl, rfl⟩ := hw
  refine ⟨rfl, ?_⟩
  by_cases hc : 0 ≤ z.1
  · simp only [if_pos hc]
    exact ⟨qX, qR, qT, qL, qG, qA, qY, qN, im, fa, qp, qZ, qM, fb, qo, hfa, him, rfl, rfl⟩
  · simp only [if_neg hc]
    exact ⟨qX, qR, qT, qG, qL, qA, qY, qN, im, fa, qp, qZ, qM, fb, qo, hfa, him, rfl, rfl⟩
def G_valley (b : BV) : Option (Int32 × BV) := (f_6_valley b).bind (fun z => some (z.1, z.2))
theorem D_valley (l : Launch) (D : va_G) (t : ty4) (b : BV) (o : Nat) (ws : va_W) {r : Int32 × BV} (hX : HasM t b o ws) (h0 : G_valley b = some r) : ∃ Φ, MetI l yX6_valley cX6_valley 2 (some .int) (rmD 7) D t [.ref o] ws Φ ∧ ∀ x w, Φ x w → r.1 = x ∧ HasM t r.2 o w := by
  obtain ⟨q, rfl, rfl⟩ := hX
  unfold G_valley at h0
  obtain ⟨z, hz, h0⟩ := bind_some h0
  have h0 := Option.some.inj h0
  subst h0
  refine ⟨_, c_6_valley l D t q b hz, fun x w hw => ?_⟩
  obtain ⟨rfl, rfl⟩ := hw
  exact ⟨rfl, q, rfl, rfl⟩
def F_day (σ : XS) (x1 : Int32) (x2 : Int32) : Option (Int32 × XS) := (f_5_day σ.2.2.2.2.1 σ.2.2.2.2.2.2.2.1 x1 x2).bind (fun z => some (z, (σ.1, σ.2.1, σ.2.2.1, σ.2.2.2.1, σ.2.2.2.2.1, σ.2.2.2.2.2.1, σ.2.2.2.2.2.2.1, σ.2.2.2.2.2.2.2.1, σ.2.2.2.2.2.2.2.2.1, σ.2.2.2.2.2.2.2.2.2.1, σ.2.2.2.2.2.2.2.2.2.2.1, σ.2.2.2.2.2.2.2.2.2.2.2)))
theorem C_day (l : Launch) (D : va_G) (t : ty4) (σ : XS) (o : Nat) (ws : va_W) (x1 : Int32) (x2 : Int32) {r : Int32 × XS} (hX : HasX t σ o ws) (h0 : F_day σ x1 x2 = some r) : ∃ Φ, MetI l yX5_day cX5_day 3 (some .int) (rmD 3) D t [.ref o, .int x1, .int x2] ws Φ ∧ ∀ x w, Φ x w → r.1 = x ∧ HasX t r.2 o w := by
  obtain ⟨qX, qR, qT, qG, qL, qA, qY, qN, im, fa, qp, qZ, qM, fb, qo, hfa, him, rfl, rfl⟩ := hX
  unfold F_day at h0
  obtain ⟨z, hz, h0⟩ := bind_some h0
  have h0 := Option.some.inj h0
  subst h0
  refine ⟨_, c_5_day l D t qX qR qT qG qL qA qY qN im fa (wPs t qp σ.2.2.2.2.2.2.2.2.1 r10 ++ wIm t qZ qM fb qo σ.2.2.2.2.2.2.2.2.2.1 σ.2.2.2.2.2.2.2.2.2.2.1 σ.2.2.2.2.2.2.2.2.2.2.2 r2) σ.1 σ.2.1 σ.2.2.1 σ.2.2.2.1 σ.2.2.2.2.1 σ.2.2.2.2.2.1 σ.2.2.2.2.2.2.1 σ.2.2.2.2.2.2.2.1 x1 x2 hz, fun x w hw => ?_⟩
  obtain ⟨rfl, rfl⟩ := hw
  exact ⟨rfl, qX, qR, qT, qG, qL, qA, qY, qN, im, fa, qp, qZ, qM, fb, qo, hfa, him, rfl, rfl⟩
def G_day (b : BV) (x1 : Int32) (x2 : Int32) : Option (Int32 × BV) := (f_6_day b x1 x2).bind (fun z => some (z, b))
theorem D_day (l : Launch) (D : va_G) (t : ty4) (b : BV) (o : Nat) (ws : va_W) (x1 : Int32) (x2 : Int32) {r : Int32 × BV} (hX : HasM t b o ws) (h0 : G_day b x1 x2 = some r) : ∃ Φ, MetI l yX6_day cX6_day 5 (some .int) (rmD 2) D t [.ref o, .int x1, .int x2] ws Φ ∧ ∀ x w, Φ x w → r.1 = x ∧ HasM t r.2 o w := by
  obtain ⟨q, rfl, rfl⟩ := hX
  unfold G_day at h0
  obtain ⟨z, hz, h0⟩ := bind_some h0
  have h0 := Option.some.inj h0
  subst h0
  refine ⟨_, c_6_day l D t q b x1 x2 hz, fun x w hw => ?_⟩
  obtain ⟨rfl, rfl⟩ := hw
  exact ⟨rfl, q, rfl, rfl⟩
def F_crop (σ : XS) (x1 : Int32) (x2 : Int32) : Option (Int32 × XS) := (f_5_crop σ.2.2.2.2.1 σ.2.2.2.2.2.2.2.1 x1 x2).bind (fun z => some (z, (σ.1, σ.2.1, σ.2.2.1, σ.2.2.2.1, σ.2.2.2.2.1, σ.2.2.2.2.2.1, σ.2.2.2.2.2.2.1, σ.2.2.2.2.2.2.2.1, σ.2.2.2.2.2.2.2.2.1, σ.2.2.2.2.2.2.2.2.2.1, σ.2.2.2.2.2.2.2.2.2.2.1, σ.2.2.2.2.2.2.2.2.2.2.2)))
theorem C_crop (l : Launch) (D : va_G) (t : ty4) (σ : XS) (o : Nat) (ws : va_W) (x1 : Int32) (x2 : Int32) {r : Int32 × XS} (hX : HasX t σ o ws) (h0 : F_crop σ x1 x2 = some r) : ∃ Φ, MetI l yX5_crop cX5_crop 3 (some .int) (rmD 6) D t [.ref o, .int x1, .int x2] ws Φ ∧ ∀ x w, Φ x w → r.1 = x ∧ HasX t r.2 o w := by
  obtain ⟨qX, qR, qT, qG, qL, qA, qY, qN, im, fa, qp, qZ, qM, fb, qo, hfa, him, rfl, rfl⟩ := hX
  unfold F_crop at h0
  obtain ⟨z, hz, h0⟩ := bind_some h0
  have h0 := Option.some.inj h0
  subst h0
  refine ⟨_, c_5_crop l D t qX qR qT qG qL qA qY qN im fa (wPs t qp σ.2.2.2.2.2.2.2.2.1 r10 ++ wIm t qZ qM fb qo σ.2.2.2.2.2.2.2.2.2.1 σ.2.2.2.2.2.2.2.2.2.2.1 σ.2.2.2.2.2.2.2.2.2.2.2 r2) σ.1 σ.2.1 σ.2.2.1 σ.2.2.2.1 σ.2.2.2.2.1 σ.2.2.2.2.2.1 σ.2.2.2.2.2.2.1 σ.2.2.2.2.2.2.2.1 x1 x2 hz, fun x w hw => ?_⟩
  obtain ⟨rfl, rfl⟩ := hw
  exact ⟨rfl, qX, qR, qT, qG, qL, qA, qY, qN, im, fa, qp, qZ, qM, fb, qo, hfa, him, rfl, rfl⟩
def G_crop (b : BV) (x1 : Int32) (x2 : Int32) : Option (Int32 × BV) := (f_6_crop b x1 x2).bind (fun z => some (z, b))
theorem D_crop (l : Launch) (D : va_G) (t : ty4) (b : BV) (o : Nat) (ws : va_W) (x1 : Int32) (x2 : Int32) {r : Int32 × BV} (hX : HasM t b o ws) (h0 : G_crop b x1 x2 = some r) : ∃ Φ, MetI l yX6_crop cX6_crop 4 (some .int) (rmD 3) D t [.ref o, .int x1, .int x2] ws Φ ∧ ∀ x w, Φ x w → r.1 = x ∧ HasM t r.2 o w := by
  obtain ⟨q, rfl, rfl⟩ := hX
  unfold G_crop at h0
  obtain ⟨z, hz, h0⟩ := bind_some h0
  have h0 := Option.some.inj h0
  subst h0
  refine ⟨_, c_6_crop l D t q b x1 x2 hz, fun x w hw => ?_⟩
  obtain ⟨rfl, rfl⟩ := hw
  exact ⟨rfl, q, rfl, rfl⟩
def F_loan (σ : XS) (x1 : Int32) (x2 : Int32) : Option (Int32 × XS) := (f_5_loan σ.2.2.2.2.2.2.2.1 x1 x2).bind (fun z => some (z, (σ.1, σ.2.1, σ.2.2.1, σ.2.2.2.1, σ.2.2.2.2.1, σ.2.2.2.2.2.1, σ.2.2.2.2.2.2.1, σ.2.2.2.2.2.2.2.1, σ.2.2.2.2.2.2.2.2.1, σ.2.2.2.2.2.2.2.2.2.1, σ.2.2.2.2.2.2.2.2.2.2.1, σ.2.2.2.2.2.2.2.2.2.2.2)))
theorem C_loan (l : Launch) (D : va_G) (t : ty4) (σ : XS) (o : Nat) (ws : va_W) (x1 : Int32) (x2 : Int32) {r : Int32 × XS} (hX : HasX t σ o ws) (h0 : F_loan σ x1 x2 = some r) : ∃ Φ, MetI l yX5_loan cX5_loan 4 (some .int) (rmD 2) D t [.ref o, .int x1, .int x2] ws Φ ∧ ∀ x w, Φ x w → r.1 = x ∧ HasX t r.2 o w := by
  obtain ⟨qX, qR, qT, qG, qL, qA, qY, qN, im, fa, qp, qZ, qM, fb, qo, hfa, him, rfl, rfl⟩ := hX
  unfold F_loan at h0
  obtain ⟨z, hz, h0⟩ := bind_some h0
  have h0 := Option.some.inj h0
  subst h0
  refine ⟨_, c_5_loan l D t qX qR qT qG qL qA qY qN im fa (wPs t qp σ.2.2.2.2.2.2.2.2.1 r10 ++ wIm t qZ qM fb qo σ.2.2.2.2.2.2.2.2.2.1 σ.2.2.2.2.2.2.2.2.2.2.1 σ.2.2.2.2.2.2.2.2.2.2.2 r2) σ.1 σ.2.1 σ.2.2.1 σ.2.2.2.1 σ.2.2.2.2.1 σ.2.2.2.2.2.1 σ.2.2.2.2.2.2.1 σ.2.2.2.2.2.2.2.1 x1 x2 hz, fun x w hw => ?_⟩
  obtain ⟨rfl, rfl⟩ := hw
  exact ⟨rfl, qX, qR, qT, qG, qL, qA, qY, qN, im, fa, qp, qZ, qM, fb, qo, hfa, him, rfl, rfl⟩
def G_loan (b : BV) (x1 : Int32) (x2 : Int32) : Option (Int32 × BV) := (f_6_loan b x1 x2).bind (fun z => some (z, b))
theorem D_loan (l : Launch) (D : va_G) (t : ty4) (b : BV) (o : Nat) (ws : va_W) (x1 : Int32) (x2 : Int32) {r : Int32 × BV} (hX : HasM t b o ws) (h0 : G_loan b x1 x2 = some r) : ∃ Φ, MetI l yX6_loan cX6_loan 3 (some .int) (rmD 2) D t [.ref o, .int x1, .int x2] ws Φ ∧ ∀ x w, Φ x w → r.1 = x ∧ HasM t r.2 o w := by
  obtain ⟨q, rfl, rfl⟩ := hX
  unfold G_loan at h0
  obtain ⟨z, hz, h0⟩ := bind_some h0
  have h0 := Option.some.inj h0
  subst h0
  refine ⟨_, c_6_loan l D t q b x1 x2 hz, fun x w hw => ?_⟩
  obtain ⟨rfl, rfl⟩ := hw
  exact ⟨rfl, q, rfl, rfl⟩
def F_pawns (σ : XS) (x1 : Int32) (x2 : Int32) : Option (Int32 × XS) := (f_5_pawns σ.2.2.2.2.1 σ.2.2.2.2.2.2.1 σ.2.2.2.2.2.2.2.1 σ.2.2.2.2.2.2.2.2.1 x1 x2).bind (fun z => some (z.1, (σ.1, σ.2.1, σ.2.2.1, σ.2.2.2.1, σ.2.2.2.2.1, σ.2.2.2.2.2.1, z.2.1, z.2.2.1, z.2.2.2, σ.2.2.2.2.2.2.2.2.2.1, σ.2.2.2.2.2.2.2.2.2.2.1, σ.2.2.2.2.2.2.2.2.2.2.2)))
theorem C_pawns (l : Launch) (D : va_G) (t : ty4) (σ : XS) (o : Nat) (ws : va_W) (x1 : Int32) (x2 : Int32) {r : Int32 × XS} (hX : HasX t σ o ws) (h0 : F_pawns σ x1 x2 = some r) : ∃ Φ, MetI l yX5_pawns cX5_pawns 5 (some .int) (rmD 6) D t [.ref o, .int x1, .int x2] ws Φ ∧ ∀ x w, Φ x w → r.1 = x ∧ HasX t r.2 o w := by
  obtain ⟨qX, qR, qT, qG, qL, qA, qY, qN, im, fa, qp, qZ, qM, fb, qo, hfa, him, rfl, rfl⟩ := hX
  unfold F_pawns at h0
  obtain ⟨z, hz, h0⟩ := bind_some h0
  have h0 := Option.some.inj h0
  subst h0
  refine ⟨_, c_5_pawns l D t qX qR qT qG qL qA qY qN im fa qp hfa (wIm t qZ qM fb qo σ.2.2.2.2.2.2.2.2.2.1 σ.2.2.2.2.2.2.2.2.2.2.1 σ.2.2.2.2.2.2.2.2.2.2.2 r2) σ.1 σ.2.1 σ.2.2.1 σ.2.2.2.1 σ.2.2.2.2.1 σ.2.2.2.2.2.1 σ.2.2.2.2.2.2.1 σ.2.2.2.2.2.2.2.1 σ.2.2.2.2.2.2.2.2.1 x1 x2 hz, fun x w hw => ?_⟩
  obtain ⟨fa, qp, hfa, rfl, rfl⟩ := hw
  exact ⟨rfl, qX, qR, qT, qG, qL, qA, qY, qN, im, fa, qp, qZ, qM, fb, qo, hfa, him, rfl, rfl⟩
def G_pawns (b : BV) (x1 : Int32) (x2 : Int32) : Option (Int32 × BV) := (f_6_pawns b x1 x2).bind (fun z => some (z.1, z.2))
theorem D_pawns (l : Launch) (D : va_G) (t : ty4) (b : BV) (o : Nat) (ws : va_W) (x1 : Int32) (x2 : Int32) {r : Int32 × BV} (hX : HasM t b o ws) (h0 : G_pawns b x1 x2 = some r) : ∃ Φ, MetI l yX6_pawns cX6_pawns 5 (some .int) (rmD 4) D t [.ref o, .int x1, .int x2] ws Φ ∧ ∀ x w, Φ x w → r.1 = x ∧ HasM t r.2 o w := by
  obtain ⟨q, rfl, rfl⟩ := hX
  unfold G_pawns at h0
  obtain ⟨z, hz, h0⟩ := bind_some h0
  have h0 := Option.some.inj h0
  subst h0
  refine ⟨_, c_6_pawns l D t q b x1 x2 hz, fun x w hw => ?_⟩
  obtain ⟨rfl, rfl⟩ := hw
  exact ⟨rfl, q, rfl, rfl⟩
def F_redeems (σ : XS) (x1 : Int32) : Option (Int32 × XS) := (f_5_redeems σ.2.2.2.2.2.2.1 σ.2.2.2.2.2.2.2.1 σ.2.2.2.2.2.2.2.2.1 x1).bind (fun z => some (z.1, (σ.1, σ.2.1, σ.2.2.1, σ.2.2.2.1, σ.2.2.2.2.1, σ.2.2.2.2.2.1, z.2.1, z.2.2.1, z.2.2.2, σ.2.2.2.2.2.2.2.2.2.1, σ.2.2.2.2.2.2.2.2.2.2.1, σ.2.2.2.2.2.2.2.2.2.2.2)))
theorem C_redeems (l : Launch) (D : va_G) (t : ty4) (σ : XS) (o : Nat) (ws : va_W) (x1 : Int32) {r : Int32 × XS} (hX : HasX t σ o ws) (h0 : F_redeems σ x1 = some r) : ∃ Φ, MetI l yX5_redeems cX5_redeems 3 (some .int) (rmD 2) D t [.ref o, .int x1] ws Φ ∧ ∀ x w, Φ x w → r.1 = x ∧ HasX t r.2 o w := by
  obtain ⟨qX, qR, qT, qG, qL, qA, qY, qN, im, fa, qp, qZ, qM, fb, qo, hfa, him, rfl, rfl⟩ := hX
  unfold F_redeems at h0
  obtain ⟨z, hz, h0⟩ := bind_some h0
  have h0 := Option.some.inj h0
  subst h0
  refine ⟨_, c_5_redeems l D t qX qR qT qG qL qA qY qN im fa qp hfa (wIm t qZ qM fb qo σ.2.2.2.2.2.2.2.2.2.1 σ.2.2.2.2.2.2.2.2.2.2.1 σ.2.2.2.2.2.2.2.2.2.2.2 r2) σ.1 σ.2.1 σ.2.2.1 σ.2.2.2.1 σ.2.2.2.2.1 σ.2.2.2.2.2.1 σ.2.2.2.2.2.2.1 σ.2.2.2.2.2.2.2.1 σ.2.2.2.2.2.2.2.2.1 x1 hz, fun x w hw => ?_⟩
  obtain ⟨fa, qp, hfa, rfl, rfl⟩ := hw
  exact ⟨rfl, qX, qR, qT, qG, qL, qA, qY, qN, im, fa, qp, qZ, qM, fb, qo, hfa, him, rfl, rfl⟩
def G_redeems (b : BV) (x1 : Int32) : Option (Int32 × BV) := (f_6_redeems b x1).bind (fun z => some (z.1, z.2))
theorem D_redeems (l : Launch) (D : va_G) (t : ty4) (b : BV) (o : Nat) (ws : va_W) (x1 : Int32) {r : Int32 × BV} (hX : HasM t b o ws) (h0 : G_redeems b x1 = some r) : ∃ Φ, MetI l yX6_redeems cX6_redeems 2 (some .int) (rmD 2) D t [.ref o, .int x1] ws Φ ∧ ∀ x w, Φ x w → r.1 = x ∧ HasM t r.2 o w := by
  obtain ⟨q, rfl, rfl⟩ := hX
  unfold G_redeems at h0
  obtain ⟨z, hz, h0⟩ := bind_some h0
  have h0 := Option.some.inj h0
  subst h0
  refine ⟨_, c_6_redeems l D t q b x1 hz, fun x w hw => ?_⟩
  obtain ⟨rfl, rfl⟩ := hw
  exact ⟨rfl, q, rfl, rfl⟩
def F_year (σ : XS) : Option (Int32 × XS) := (f_5_year σ.2.2.2.2.1 σ.2.2.2.2.2.2.1 σ.2.2.2.2.2.2.2.1 σ.2.2.2.2.2.2.2.2.1).bind (fun z => some (z.1, (σ.1, σ.2.1, σ.2.2.1, σ.2.2.2.1, σ.2.2.2.2.1, σ.2.2.2.2.2.1, z.2.1, z.2.2.1, z.2.2.2, σ.2.2.2.2.2.2.2.2.2.1, σ.2.2.2.2.2.2.2.2.2.2.1, σ.2.2.2.2.2.2.2.2.2.2.2)))
theorem C_year (l : Launch) (D : va_G) (t : ty4) (σ : XS) (o : Nat) (ws : va_W) {r : Int32 × XS} (hX : HasX t σ o ws) (h0 : F_year σ = some r) : ∃ Φ, MetI l yX5_year cX5_year 1 (some .int) (rmD 6) D t [.ref o] ws Φ ∧ ∀ x w, Φ x w → r.1 = x ∧ HasX t r.2 o w := by
  obtain ⟨qX, qR, qT, qG, qL, qA, qY, qN, im, fa, qp, qZ, qM, fb, qo, hfa, him, rfl, rfl⟩ := hX
  unfold F_year at h0
  obtain ⟨z, hz, h0⟩ := bind_some h0
  have h0 := Option.some.inj h0
  subst h0
  refine ⟨_, c_5_year l D t qX qR qT qG qL qA qY qN im fa qp hfa (wIm t qZ qM fb qo σ.2.2.2.2.2.2.2.2.2.1 σ.2.2.2.2.2.2.2.2.2.2.1 σ.2.2.2.2.2.2.2.2.2.2.2 r2) σ.1 σ.2.1 σ.2.2.1 σ.2.2.2.1 σ.2.2.2.2.1 σ.2.2.2.2.2.1 σ.2.2.2.2.2.2.1 σ.2.2.2.2.2.2.2.1 σ.2.2.2.2.2.2.2.2.1 hz, fun x w hw => ?_⟩
  obtain ⟨fa, qp, hfa, rfl, rfl⟩ := hw
  exact ⟨rfl, qX, qR, qT, qG, qL, qA, qY, qN, im, fa, qp, qZ, qM, fb, qo, hfa, him, rfl, rfl⟩
def G_year (b : BV) : Option (Int32 × BV) := (f_6_year b).bind (fun z => some (z.1, z.2))
theorem D_year (l : Launch) (D : va_G) (t : ty4) (b : BV) (o : Nat) (ws : va_W) {r : Int32 × BV} (hX : HasM t b o ws) (h0 : G_year b = some r) : ∃ Φ, MetI l yX6_year cX6_year 1 (some .int) (rmD 5) D t [.ref o] ws Φ ∧ ∀ x w, Φ x w → r.1 = x ∧ HasM t r.2 o w := by
  obtain ⟨q, rfl, rfl⟩ := hX
  unfold G_year at h0
  obtain ⟨z, hz, h0⟩ := bind_some h0
  have h0 := Option.some.inj h0
  subst h0
  refine ⟨_, c_6_year l D t q b hz, fun x w hw => ?_⟩
  obtain ⟨rfl, rfl⟩ := hw
  exact ⟨rfl, q, rfl, rfl⟩
def F_undo (σ : XS) : Option (Int32 × XS) := (f_5_undo σ.2.2.2.2.2.2.1 σ.2.2.2.2.2.2.2.1 σ.2.2.2.2.2.2.2.2.1).bind (fun z => some (z.1, (σ.1, σ.2.1, σ.2.2.1, σ.2.2.2.1, σ.2.2.2.2.1, σ.2.2.2.2.2.1, z.2.1, z.2.2, σ.2.2.2.2.2.2.2.2.1, σ.2.2.2.2.2.2.2.2.2.1, σ.2.2.2.2.2.2.2.2.2.2.1, σ.2.2.2.2.2.2.2.2.2.2.2)))
theorem C_undo (l : Launch) (D : va_G) (t : ty4) (σ : XS) (o : Nat) (ws : va_W) {r : Int32 × XS} (hX : HasX t σ o ws) (h0 : F_undo σ = some r) : ∃ Φ, MetI l yX5_undo cX5_undo 1 (some .int) (rmD 2) D t [.ref o] ws Φ ∧ ∀ x w, Φ x w → r.1 = x ∧ HasX t r.2 o w := by
  obtain ⟨qX, qR, qT, qG, qL, qA, qY, qN, im, fa, qp, qZ, qM, fb, qo, hfa, him, rfl, rfl⟩ := hX
  unfold F_undo at h0
  obtain ⟨z, hz, h0⟩ := bind_some h0
  have h0 := Option.some.inj h0
  subst h0
  refine ⟨_, c_5_undo l D t qX qR qT qG qL qA qY qN im fa qp hfa (wIm t qZ qM fb qo σ.2.2.2.2.2.2.2.2.2.1 σ.2.2.2.2.2.2.2.2.2.2.1 σ.2.2.2.2.2.2.2.2.2.2.2 r2) σ.1 σ.2.1 σ.2.2.1 σ.2.2.2.1 σ.2.2.2.2.1 σ.2.2.2.2.2.1 σ.2.2.2.2.2.2.1 σ.2.2.2.2.2.2.2.1 σ.2.2.2.2.2.2.2.2.1 hz, fun x w hw => ?_⟩
  obtain ⟨fa, qp, hfa, rfl, rfl⟩ := hw
  exact ⟨rfl, qX, qR, qT, qG, qL, qA, qY, qN, im, fa, qp, qZ, qM, fb, qo, hfa, him, rfl, rfl⟩
def G_undo (b : BV) : Option (Int32 × BV) := (f_6_undo b).bind (fun z => some (z.1, z.2))
theorem D_undo (l : Launch) (D : va_G) (t : ty4) (b : BV) (o : Nat) (ws : va_W) {r : Int32 × BV} (hX : HasM t b o ws) (h0 : G_undo b = some r) : ∃ Φ, MetI l yX6_undo cX6_undo 2 (some .int) (rmD 0) D t [.ref o] ws Φ ∧ ∀ x w, Φ x w → r.1 = x ∧ HasM t r.2 o w := by
  obtain ⟨q, rfl, rfl⟩ := hX
  unfold G_undo at h0
  obtain ⟨z, hz, h0⟩ := bind_some h0
  have h0 := Option.some.inj h0
  subst h0
  refine ⟨_, c_6_undo l D t q b hz, fun x w hw => ?_⟩
  obtain ⟨rfl, rfl⟩ := hw
  exact ⟨rfl, q, rfl, rfl⟩
def F_now (σ : XS) (x1 : Int32) : Option (Int32 × XS) := (f_5_now σ.2.2.2.2.1 σ.2.2.2.2.2.2.2.1 x1).bind (fun z => some (z, (σ.1, σ.2.1, σ.2.2.1, σ.2.2.2.1, σ.2.2.2.2.1, σ.2.2.2.2.2.1, σ.2.2.2.2.2.2.1, σ.2.2.2.2.2.2.2.1, σ.2.2.2.2.2.2.2.2.1, σ.2.2.2.2.2.2.2.2.2.1, σ.2.2.2.2.2.2.2.2.2.2.1, σ.2.2.2.2.2.2.2.2.2.2.2)))
theorem C_now (l : Launch) (D : va_G) (t : ty4) (σ : XS) (o : Nat) (ws : va_W) (x1 : Int32) {r : Int32 × XS} (hX : HasX t σ o ws) (h0 : F_now σ x1 = some r) : ∃ Φ, MetI l yX5_now cX5_now 3 (some .int) (rmD 5) D t [.ref o, .int x1] ws Φ ∧ ∀ x w, Φ x w → r.1 = x ∧ HasX t r.2 o w := by
  obtain ⟨qX, qR, qT, qG, qL, qA, qY, qN, im, fa, qp, qZ, qM, fb, qo, hfa, him, rfl, rfl⟩ := hX
  unfold F_now at h0
  obtain ⟨z, hz, h0⟩ := bind_some h0
  have h0 := Option.some.inj h0
  subst h0
  refine ⟨_, c_5_now l D t qX qR qT qG qL qA qY qN im fa (wPs t qp σ.2.2.2.2.2.2.2.2.1 r10 ++ wIm t qZ qM fb qo σ.2.2.2.2.2.2.2.2.2.1 σ.2.2.2.2.2.2.2.2.2.2.1 σ.2.2.2.2.2.2.2.2.2.2.2 r2) σ.1 σ.2.1 σ.2.2.1 σ.2.2.2.1 σ.2.2.2.2.1 σ.2.2.2.2.2.1 σ.2.2.2.2.2.2.1 σ.2.2.2.2.2.2.2.1 x1 hz, fun x w hw => ?_⟩
  obtain ⟨rfl, rfl⟩ := hw
  exact ⟨rfl, qX, qR, qT, qG, qL, qA, qY, qN, im, fa, qp, qZ, qM, fb, qo, hfa, him, rfl, rfl⟩
def G_now (b : BV) (x1 : Int32) : Option (Int32 × BV) := (f_6_now b x1).bind (fun z => some (z, b))
theorem D_now (l : Launch) (D : va_G) (t : ty4) (b : BV) (o : Nat) (ws : va_W) (x1 : Int32) {r : Int32 × BV} (hX : HasM t b o ws) (h0 : G_now b x1 = some r) : ∃ Φ, MetI l yX6_now cX6_now 2 (some .int) (rmD 4) D t [.ref o, .int x1] ws Φ ∧ ∀ x w, Φ x w → r.1 = x ∧ HasM t r.2 o w := by
  obtain ⟨q, rfl, rfl⟩ := hX
  unfold G_now at h0
  obtain ⟨z, hz, h0⟩ := bind_some h0
  have h0 := Option.some.inj h0
  subst h0
  refine ⟨_, c_6_now l D t q b x1 hz, fun x w hw => ?_⟩
  obtain ⟨rfl, rfl⟩ := hw
  exact ⟨rfl, q, rfl, rfl⟩
def F_lends (σ : XS) (x1 : Int32) (x2 : Int32) : Option (Int32 × XS) := (f_5_lends σ.2.2.2.2.1 x1 x2).bind (fun z => some (z, (σ.1, σ.2.1, σ.2.2.1, σ.2.2.2.1, σ.2.2.2.2.1, σ.2.2.2.2.2.1, σ.2.2.2.2.2.2.1, σ.2.2.2.2.2.2.2.1, σ.2.2.2.2.2.2.2.2.1, σ.2.2.2.2.2.2.2.2.2.1, σ.2.2.2.2.2.2.2.2.2.2.1, σ.2.2.2.2.2.2.2.2.2.2.2)))
theorem C_lends (l : Launch) (D : va_G) (t : ty4) (σ : XS) (o : Nat) (ws : va_W) (x1 : Int32) (x2 : Int32) {r : Int32 × XS} (hX : HasX t σ o ws) (h0 : F_lends σ x1 x2 = some r) : ∃ Φ, MetI l yX5_lends cX5_lends 3 (some .int) (rmD 2) D t [.ref o, .int x1, .int x2] ws Φ ∧ ∀ x w, Φ x w → r.1 = x ∧ HasX t r.2 o w := by
  obtain ⟨qX, qR, qT, qG, qL, qA, qY, qN, im, fa, qp, qZ, qM, fb, qo, hfa, him, rfl, rfl⟩ := hX
  unfold F_lends at h0
  obtain ⟨z, hz, h0⟩ := bind_some h0
  have h0 := Option.some.inj h0
  subst h0
  refine ⟨_, c_5_lends l D t qX qR qT qG qL qA qY qN im fa (wPs t qp σ.2.2.2.2.2.2.2.2.1 r10 ++ wIm t qZ qM fb qo σ.2.2.2.2.2.2.2.2.2.1 σ.2.2.2.2.2.2.2.2.2.2.1 σ.2.2.2.2.2.2.2.2.2.2.2 r2) σ.1 σ.2.1 σ.2.2.1 σ.2.2.2.1 σ.2.2.2.2.1 σ.2.2.2.2.2.1 σ.2.2.2.2.2.2.1 σ.2.2.2.2.2.2.2.1 x1 x2 hz, fun x w hw => ?_⟩
  obtain ⟨rfl, rfl⟩ := hw
  exact ⟨rfl, qX, qR, qT, qG, qL, qA, qY, qN, im, fa, qp, qZ, qM, fb, qo, hfa, him, rfl, rfl⟩
def G_lends (b : BV) (x1 : Int32) (x2 : Int32) : Option (Int32 × BV) := (f_6_lends b x1 x2).bind (fun z => some (z, b))
theorem D_lends (l : Launch) (D : va_G) (t : ty4) (b : BV) (o : Nat) (ws : va_W) (x1 : Int32) (x2 : Int32) {r : Int32 × BV} (hX : HasM t b o ws) (h0 : G_lends b x1 x2 = some r) : ∃ Φ, MetI l yX6_lends cX6_lends 3 (some .int) (rmD 2) D t [.ref o, .int x1, .int x2] ws Φ ∧ ∀ x w, Φ x w → r.1 = x ∧ HasM t r.2 o w := by
  obtain ⟨q, rfl, rfl⟩ := hX
  unfold G_lends at h0
  obtain ⟨z, hz, h0⟩ := bind_some h0
  have h0 := Option.some.inj h0
  subst h0
  refine ⟨_, c_6_lends l D t q b x1 x2 hz, fun x w hw => ?_⟩
  obtain ⟨rfl, rfl⟩ := hw
  exact ⟨rfl, q, rfl, rfl⟩
def F_cheap (σ : XS) (x1 : Int32) (x2 : Int32) : Option (Int32 × XS) := (f_5_cheap σ.2.2.2.2.1 σ.2.2.2.2.2.2.2.1 x1 x2).bind (fun z => some (z, (σ.1, σ.2.1, σ.2.2.1, σ.2.2.2.1, σ.2.2.2.2.1, σ.2.2.2.2.2.1, σ.2.2.2.2.2.2.1, σ.2.2.2.2.2.2.2.1, σ.2.2.2.2.2.2.2.2.1, σ.2.2.2.2.2.2.2.2.2.1, σ.2.2.2.2.2.2.2.2.2.2.1, σ.2.2.2.2.2.2.2.2.2.2.2)))
theorem C_cheap (l : Launch) (D : va_G) (t : ty4) (σ : XS) (o : Nat) (ws : va_W) (x1 : Int32) (x2 : Int32) {r : Int32 × XS} (hX : HasX t σ o ws) (h0 : F_cheap σ x1 x2 = some r) : ∃ Φ, MetI l yX5_cheap cX5_cheap 6 (some .int) (rmD 6) D t [.ref o, .int x1, .int x2] ws Φ ∧ ∀ x w, Φ x w → r.1 = x ∧ HasX t r.2 o w := by
  obtain ⟨qX, qR, qT, qG, qL, qA, qY, qN, im, fa, qp, qZ, qM, fb, qo, hfa, him, rfl, rfl⟩ := hX
  unfold F_cheap at h0
  obtain ⟨z, hz, h0⟩ := bind_some h0
  have h0 := Option.some.inj h0
  subst h0
  refine ⟨_, c_5_cheap l D t qX qR qT qG qL qA qY qN im fa (wPs t qp σ.2.2.2.2.2.2.2.2.1 r10 ++ wIm t qZ qM fb qo σ.2.2.2.2.2.2.2.2.2.1 σ.2.2.2.2.2.2.2.2.2.2.1 σ.2.2.2.2.2.2.2.2.2.2.2 r2) σ.1 σ.2.1 σ.2.2.1 σ.2.2.2.1 σ.2.2.2.2.1 σ.2.2.2.2.2.1 σ.2.2.2.2.2.2.1 σ.2.2.2.2.2.2.2.1 x1 x2 hz, fun x w hw => ?_⟩
  obtain ⟨rfl, rfl⟩ := hw
  exact ⟨rfl, qX, qR, qT, qG, qL, qA, qY, qN, im, fa, qp, qZ, qM, fb, qo, hfa, him, rfl, rfl⟩
def G_cheap (b : BV) (x1 : Int32) (x2 : Int32) : Option (Int32 × BV) := (f_6_cheap b x1 x2).bind (fun z => some (z, b))
theorem D_cheap (l : Launch) (D : va_G) (t : ty4) (b : BV) (o : Nat) (ws : va_W) (x1 : Int32) (x2 : Int32) {r : Int32 × BV} (hX : HasM t b o ws) (h0 : G_cheap b x1 x2 = some r) : ∃ Φ, MetI l yX6_cheap cX6_cheap 10 (some .int) (rmD 4) D t [.ref o, .int x1, .int x2] ws Φ ∧ ∀ x w, Φ x w → r.1 = x ∧ HasM t r.2 o w := by
  obtain ⟨q, rfl, rfl⟩ := hX
  unfold G_cheap at h0
  obtain ⟨z, hz, h0⟩ := bind_some h0
  have h0 := Option.some.inj h0
  subst h0
  refine ⟨_, c_6_cheap l D t q b x1 x2 hz, fun x w hw => ?_⟩
  obtain ⟨rfl, rfl⟩ := hw
  exact ⟨rfl, q, rfl, rfl⟩
def F_freeing (σ : XS) (x1 : Int32) : Option (Int32 × XS) := (f_5_freeing σ.2.2.2.2.1 σ.2.2.2.2.2.2.2.1 x1).bind (fun z => some (z, (σ.1, σ.2.1, σ.2.2.1, σ.2.2.2.1, σ.2.2.2.2.1, σ.2.2.2.2.2.1, σ.2.2.2.2.2.2.1, σ.2.2.2.2.2.2.2.1, σ.2.2.2.2.2.2.2.2.1, σ.2.2.2.2.2.2.2.2.2.1, σ.2.2.2.2.2.2.2.2.2.2.1, σ.2.2.2.2.2.2.2.2.2.2.2)))
theorem C_freeing (l : Launch) (D : va_G) (t : ty4) (σ : XS) (o : Nat) (ws : va_W) (x1 : Int32) {r : Int32 × XS} (hX : HasX t σ o ws) (h0 : F_freeing σ x1 = some r) : ∃ Φ, MetI l yX5_freeing cX5_freeing 3 (some .int) (rmD 6) D t [.ref o, .int x1] ws Φ ∧ ∀ x w, Φ x w → r.1 = x ∧ HasX t r.2 o w := by
  obtain ⟨qX, qR, qT, qG, qL, qA, qY, qN, im, fa, qp, qZ, qM, fb, qo, hfa, him, rfl, rfl⟩ := hX
  unfold F_freeing at h0
  obtain ⟨z, hz, h0⟩ := bind_some h0
  have h0 := Option.some.inj h0
  subst h0
  refine ⟨_, c_5_freeing l D t qX qR qT qG qL qA qY qN im fa (wPs t qp σ.2.2.2.2.2.2.2.2.1 r10 ++ wIm t qZ qM fb qo σ.2.2.2.2.2.2.2.2.2.1 σ.2.2.2.2.2.2.2.2.2.2.1 σ.2.2.2.2.2.2.2.2.2.2.2 r2) σ.1 σ.2.1 σ.2.2.1 σ.2.2.2.1 σ.2.2.2.2.1 σ.2.2.2.2.2.1 σ.2.2.2.2.2.2.1 σ.2.2.2.2.2.2.2.1 x1 hz, fun x w hw => ?_⟩
  obtain ⟨rfl, rfl⟩ := hw
  exact ⟨rfl, qX, qR, qT, qG, qL, qA, qY, qN, im, fa, qp, qZ, qM, fb, qo, hfa, him, rfl, rfl⟩
def G_freeing (b : BV) (x1 : Int32) : Option (Int32 × BV) := (f_6_freeing b x1).bind (fun z => some (z, b))
theorem D_freeing (l : Launch) (D : va_G) (t : ty4) (b : BV) (o : Nat) (ws : va_W) (x1 : Int32) {r : Int32 × BV} (hX : HasM t b o ws) (h0 : G_freeing b x1 = some r) : ∃ Φ, MetI l yX6_freeing cX6_freeing 11 (some .int) (rmD 3) D t [.ref o, .int x1] ws Φ ∧ ∀ x w, Φ x w → r.1 = x ∧ HasM t r.2 o w := by
  obtain ⟨q, rfl, rfl⟩ := hX
  unfold G_freeing at h0
  obtain ⟨z, hz, h0⟩ := bind_some h0
  have h0 := Option.some.inj h0
  subst h0
  refine ⟨_, c_6_freeing l D t q b x1 hz, fun x w hw => ?_⟩
  obtain ⟨rfl, rfl⟩ := hw
  exact ⟨rfl, q, rfl, rfl⟩
def F_rich (σ : XS) (x1 : Int32) : Option (Int32 × XS) := (f_5_rich σ.2.2.2.2.1 σ.2.2.2.2.2.1 σ.2.2.2.2.2.2.2.1 x1).bind (fun z => some (z.1, (σ.1, σ.2.1, σ.2.2.1, σ.2.2.2.1, σ.2.2.2.2.1, z.2, σ.2.2.2.2.2.2.1, σ.2.2.2.2.2.2.2.1, σ.2.2.2.2.2.2.2.2.1, σ.2.2.2.2.2.2.2.2.2.1, σ.2.2.2.2.2.2.2.2.2.2.1, σ.2.2.2.2.2.2.2.2.2.2.2)))
theorem C_rich (l : Launch) (D : va_G) (t : ty4) (σ : XS) (o : Nat) (ws : va_W) (x1 : Int32) {r : Int32 × XS} (hX : HasX t σ o ws) (h0 : F_rich σ x1 = some r) : ∃ Φ, MetI l yX5_rich cX5_rich 3 (some .int) (rmD 6) D t [.ref o, .int x1] ws Φ ∧ ∀ x w, Φ x w → r.1 = x ∧ HasX t r.2 o w := by
  obtain ⟨qX, qR, qT, qG, qL, qA, qY, qN, im, fa, qp, qZ, qM, fb, qo, hfa, him, rfl, rfl⟩ := hX
  unfold F_rich at h0
  obtain ⟨z, hz, h0⟩ := bind_some h0
  have h0 := Option.some.inj h0
  subst h0
  refine ⟨_, c_5_rich l D t qX qR qT qG qL qA qY qN im fa (wPs t qp σ.2.2.2.2.2.2.2.2.1 r10 ++ wIm t qZ qM fb qo σ.2.2.2.2.2.2.2.2.2.1 σ.2.2.2.2.2.2.2.2.2.2.1 σ.2.2.2.2.2.2.2.2.2.2.2 r2) σ.1 σ.2.1 σ.2.2.1 σ.2.2.2.1 σ.2.2.2.2.1 σ.2.2.2.2.2.1 σ.2.2.2.2.2.2.1 σ.2.2.2.2.2.2.2.1 x1 hz, fun x w hw => ?_⟩
  obtain ⟨rfl, rfl⟩ := hw
  exact ⟨rfl, qX, qR, qT, qG, qL, qA, qY, qN, im, fa, qp, qZ, qM, fb, qo, hfa, him, rfl, rfl⟩
def G_rich (b : BV) (x1 : Int32) : Option (Int32 × BV) := (f_6_rich b x1).bind (fun z => some (z.1, z.2))
theorem D_rich (l : Launch) (D : va_G) (t : ty4) (b : BV) (o : Nat) (ws : va_W) (x1 : Int32) {r : Int32 × BV} (hX : HasM t b o ws) (h0 : G_rich b x1 = some r) : ∃ Φ, MetI l yX6_rich cX6_rich 3 (some .int) (rmD 5) D t [.ref o, .int x1] ws Φ ∧ ∀ x w, Φ x w → r.1 = x ∧ HasM t r.2 o w := by
  obtain ⟨q, rfl, rfl⟩ := hX
  unfold G_rich at h0
  obtain ⟨z, hz, h0⟩ := bind_some h0
  have h0 := Option.some.inj h0
  subst h0
  refine ⟨_, c_6_rich l D t q b x1 hz, fun x w hw => ?_⟩
  obtain ⟨rfl, rfl⟩ := hw
  exact ⟨rfl, q, rfl, rfl⟩
def F_bare (σ : XS) : Option (Int32 × XS) := (f_5_bare σ.2.2.2.2.1 σ.2.2.2.2.2.1 σ.2.2.2.2.2.2.2.1).bind (fun z => some (z.1, (σ.1, σ.2.1, σ.2.2.1, σ.2.2.2.1, σ.2.2.2.2.1, z.2, σ.2.2.2.2.2.2.1, σ.2.2.2.2.2.2.2.1, σ.2.2.2.2.2.2.2.2.1, σ.2.2.2.2.2.2.2.2.2.1, σ.2.2.2.2.2.2.2.2.2.2.1, σ.2.2.2.2.2.2.2.2.2.2.2)))
theorem C_bare (l : Launch) (D : va_G) (t : ty4) (σ : XS) (o : Nat) (ws : va_W) {r : Int32 × XS} (hX : HasX t σ o ws) (h0 : F_bare σ = some r) : ∃ Φ, MetI l yX5_bare cX5_bare 2 (some .int) (rmD 6) D t [.ref o] ws Φ ∧ ∀ x w, Φ x w → r.1 = x ∧ HasX t r.2 o w := by
  obtain ⟨qX, qR, qT, qG, qL, qA, qY, qN, im, fa, qp, qZ, qM, fb, qo, hfa, him, rfl, rfl⟩ := hX
  unfold F_bare at h0
  obtain ⟨z, hz, h0⟩ := bind_some h0
  have h0 := Option.some.inj h0
  subst h0
  refine ⟨_, c_5_bare l D t qX qR qT qG qL qA qY qN im fa (wPs t qp σ.2.2.2.2.2.2.2.2.1 r10 ++ wIm t qZ qM fb qo σ.2.2.2.2.2.2.2.2.2.1 σ.2.2.2.2.2.2.2.2.2.2.1 σ.2.2.2.2.2.2.2.2.2.2.2 r2) σ.1 σ.2.1 σ.2.2.1 σ.2.2.2.1 σ.2.2.2.2.1 σ.2.2.2.2.2.1 σ.2.2.2.2.2.2.1 σ.2.2.2.2.2.2.2.1 hz, fun x w hw => ?_⟩
  obtain ⟨rfl, rfl⟩ := hw
  exact ⟨rfl, qX, qR, qT, qG, qL, qA, qY, qN, im, fa, qp, qZ, qM, fb, qo, hfa, him, rfl, rfl⟩
def G_bare (b : BV) : Option (Int32 × BV) := (f_6_bare b).bind (fun z => some (z.1, z.2))
theorem D_bare (l : Launch) (D : va_G) (t : ty4) (b : BV) (o : Nat) (ws : va_W) {r : Int32 × BV} (hX : HasM t b o ws) (h0 : G_bare b = some r) : ∃ Φ, MetI l yX6_bare cX6_bare 2 (some .int) (rmD 5) D t [.ref o] ws Φ ∧ ∀ x w, Φ x w → r.1 = x ∧ HasM t r.2 o w := by
  obtain ⟨q, rfl, rfl⟩ := hX
  unfold G_bare at h0
  obtain ⟨z, hz, h0⟩ := bind_some h0
  have h0 := Option.some.inj h0
  subst h0
  refine ⟨_, c_6_bare l D t q b hz, fun x w hw => ?_⟩
  obtain ⟨rfl, rfl⟩ := hw
  exact ⟨rfl, q, rfl, rfl⟩
def F_tells (σ : XS) (x1 : Int32) (x2 : Int32) : Option (Int32 × XS) := (f_5_tells σ.1 σ.2.2.2.2.1 x1 x2).bind (fun z => some (z.1, (z.2, σ.2.1, σ.2.2.1, σ.2.2.2.1, σ.2.2.2.2.1, σ.2.2.2.2.2.1, σ.2.2.2.2.2.2.1, σ.2.2.2.2.2.2.2.1, σ.2.2.2.2.2.2.2.2.1, σ.2.2.2.2.2.2.2.2.2.1, σ.2.2.2.2.2.2.2.2.2.2.1, σ.2.2.2.2.2.2.2.2.2.2.2)))
theorem C_tells (l : Launch) (D : va_G) (t : ty4) (σ : XS) (o : Nat) (ws : va_W) (x1 : Int32) (x2 : Int32) {r : Int32 × XS} (hX : HasX t σ o ws) (h0 : F_tells σ x1 x2 = some r) : ∃ Φ, MetI l yX5_tells cX5_tells 3 (some .int) (rmD 2) D t [.ref o, .int x1, .int x2] ws Φ ∧ ∀ x w, Φ x w → r.1 = x ∧ HasX t r.2 o w := by
  obtain ⟨qX, qR, qT, qG, qL, qA, qY, qN, im, fa, qp, qZ, qM, fb, qo, hfa, him, rfl, rfl⟩ := hX
  unfold F_tells at h0
  obtain ⟨z, hz, h0⟩ := bind_some h0
  have h0 := Option.some.inj h0
  subst h0
  refine ⟨_, c_5_tells l D t qX qR qT qG qL qA qY qN im fa (wPs t qp σ.2.2.2.2.2.2.2.2.1 r10 ++ wIm t qZ qM fb qo σ.2.2.2.2.2.2.2.2.2.1 σ.2.2.2.2.2.2.2.2.2.2.1 σ.2.2.2.2.2.2.2.2.2.2.2 r2) σ.1 σ.2.1 σ.2.2.1 σ.2.2.2.1 σ.2.2.2.2.1 σ.2.2.2.2.2.1 σ.2.2.2.2.2.2.1 σ.2.2.2.2.2.2.2.1 x1 x2 hz, fun x w hw => ?_⟩
  obtain ⟨rfl, rfl⟩ := hw
  exact ⟨rfl, qX, qR, qT, qG, qL, qA, qY, qN, im, fa, qp, qZ, qM, fb, qo, hfa, him, rfl, rfl⟩
def G_tells (b : BV) (x1 : Int32) (x2 : Int32) : Option (Int32 × BV) := (f_6_tells b x1 x2).bind (fun z => some (z.1, z.2))
theorem D_tells (l : Launch) (D : va_G) (t : ty4) (b : BV) (o : Nat) (ws : va_W) (x1 : Int32) (x2 : Int32) {r : Int32 × BV} (hX : HasM t b o ws) (h0 : G_tells b x1 x2 = some r) : ∃ Φ, MetI l yX6_tells cX6_tells 3 (some .int) (rmD 2) D t [.ref o, .int x1, .int x2] ws Φ ∧ ∀ x w, Φ x w → r.1 = x ∧ HasM t r.2 o w := by
  obtain ⟨q, rfl, rfl⟩ := hX
  unfold G_tells at h0
  obtain ⟨z, hz, h0⟩ := bind_some h0
  have h0 := Option.some.inj h0
  subst h0
  refine ⟨_, c_6_tells l D t q b x1 x2 hz, fun x w hw => ?_⟩
  obtain ⟨rfl, rfl⟩ := hw
  exact ⟨rfl, q, rfl, rfl⟩
def F_forget (σ : XS) : Option (Int32 × XS) := (f_5_forget σ.1).bind (fun z => some (z.1, (z.2, σ.2.1, σ.2.2.1, σ.2.2.2.1, σ.2.2.2.2.1, σ.2.2.2.2.2.1, σ.2.2.2.2.2.2.1, σ.2.2.2.2.2.2.2.1, σ.2.2.2.2.2.2.2.2.1, σ.2.2.2.2.2.2.2.2.2.1, σ.2.2.2.2.2.2.2.2.2.2.1, σ.2.2.2.2.2.2.2.2.2.2.2)))
theorem C_forget (l : Launch) (D : va_G) (t : ty4) (σ : XS) (o : Nat) (ws : va_W) {r : Int32 × XS} (hX : HasX t σ o ws) (h0 : F_forget σ = some r) : ∃ Φ, MetI l yX5_forget cX5_forget 2 (some .int) (rmD 0) D t [.ref o] ws Φ ∧ ∀ x w, Φ x w → r.1 = x ∧ HasX t r.2 o w := by
  obtain ⟨qX, qR, qT, qG, qL, qA, qY, qN, im, fa, qp, qZ, qM, fb, qo, hfa, him, rfl, rfl⟩ := hX
  unfold F_forget at h0
  obtain ⟨z, hz, h0⟩ := bind_some h0
  have h0 := Option.some.inj h0
  subst h0
  refine ⟨_, c_5_forget l D t qX qR qT qG qL qA qY qN im fa (wPs t qp σ.2.2.2.2.2.2.2.2.1 r10 ++ wIm t qZ qM fb qo σ.2.2.2.2.2.2.2.2.2.1 σ.2.2.2.2.2.2.2.2.2.2.1 σ.2.2.2.2.2.2.2.2.2.2.2 r2) σ.1 σ.2.1 σ.2.2.1 σ.2.2.2.1 σ.2.2.2.2.1 σ.2.2.2.2.2.1 σ.2.2.2.2.2.2.1 σ.2.2.2.2.2.2.2.1 hz, fun x w hw => ?_⟩
  obtain ⟨rfl, rfl⟩ := hw
  exact ⟨rfl, qX, qR, qT, qG, qL, qA, qY, qN, im, fa, qp, qZ, qM, fb, qo, hfa, him, rfl, rfl⟩
def G_forget (b : BV) : Option (Int32 × BV) := (f_6_forget b).bind (fun z => some (z.1, z.2))
theorem D_forget (l : Launch) (D : va_G) (t : ty4) (b : BV) (o : Nat) (ws : va_W) {r : Int32 × BV} (hX : HasM t b o ws) (h0 : G_forget b = some r) : ∃ Φ, MetI l yX6_forget cX6_forget 2 (some .int) (rmD 0) D t [.ref o] ws Φ ∧ ∀ x w, Φ x w → r.1 = x ∧ HasM t r.2 o w := by
  obtain ⟨q, rfl, rfl⟩ := hX
  unfold G_forget at h0
  obtain ⟨z, hz, h0⟩ := bind_some h0
  have h0 := Option.some.inj h0
  subst h0
  refine ⟨_, c_6_forget l D t q b hz, fun x w hw => ?_⟩
  obtain ⟨rfl, rfl⟩ := hw
  exact ⟨rfl, q, rfl, rfl⟩
def F_fits (σ : XS) (x1 : Int32) : Option (Int32 × XS) := (f_5_fits σ.1 σ.2.2.2.2.1 x1).bind (fun z => some (z, (σ.1, σ.2.1, σ.2.2.1, σ.2.2.2.1, σ.2.2.2.2.1, σ.2.2.2.2.2.1, σ.2.2.2.2.2.2.1, σ.2.2.2.2.2.2.2.1, σ.2.2.2.2.2.2.2.2.1, σ.2.2.2.2.2.2.2.2.2.1, σ.2.2.2.2.2.2.2.2.2.2.1, σ.2.2.2.2.2.2.2.2.2.2.2)))
theorem C_fits (l : Launch) (D : va_G) (t : ty4) (σ : XS) (o : Nat) (ws : va_W) (x1 : Int32) {r : Int32 × XS} (hX : HasX t σ o ws) (h0 : F_fits σ x1 = some r) : ∃ Φ, MetI l yX5_fits cX5_fits 8 (some .int) (rmD 3) D t [.ref o, .int x1] ws Φ ∧ ∀ x w, Φ x w → r.1 = x ∧ HasX t r.2 o w := by
  obtain ⟨qX, qR, qT, qG, qL, qA, qY, qN, im, fa, qp, qZ, qM, fb, qo, hfa, him, rfl, rfl⟩ := hX
  unfold F_fits at h0
  obtain ⟨z, hz, h0⟩ := bind_some h0
  have h0 := Option.some.inj h0
  subst h0
  refine ⟨_, c_5_fits l D t qX qR qT qG qL qA qY qN im fa (wPs t qp σ.2.2.2.2.2.2.2.2.1 r10 ++ wIm t qZ qM fb qo σ.2.2.2.2.2.2.2.2.2.1 σ.2.2.2.2.2.2.2.2.2.2.1 σ.2.2.2.2.2.2.2.2.2.2.2 r2) σ.1 σ.2.1 σ.2.2.1 σ.2.2.2.1 σ.2.2.2.2.1 σ.2.2.2.2.2.1 σ.2.2.2.2.2.2.1 σ.2.2.2.2.2.2.2.1 x1 hz, fun x w hw => ?_⟩
  obtain ⟨rfl, rfl⟩ := hw
  exact ⟨rfl, qX, qR, qT, qG, qL, qA, qY, qN, im, fa, qp, qZ, qM, fb, qo, hfa, him, rfl, rfl⟩
def G_fits (b : BV) (x1 : Int32) : Option (Int32 × BV) := (f_6_fits b x1).bind (fun z => some (z, b))
theorem D_fits (l : Launch) (D : va_G) (t : ty4) (b : BV) (o : Nat) (ws : va_W) (x1 : Int32) {r : Int32 × BV} (hX : HasM t b o ws) (h0 : G_fits b x1 = some r) : ∃ Φ, MetI l yX6_fits cX6_fits 7 (some .int) (rmD 3) D t [.ref o, .int x1] ws Φ ∧ ∀ x w, Φ x w → r.1 = x ∧ HasM t r.2 o w := by
  obtain ⟨q, rfl, rfl⟩ := hX
  unfold G_fits at h0
  obtain ⟨z, hz, h0⟩ := bind_some h0
  have h0 := Option.some.inj h0
  subst h0
  refine ⟨_, c_6_fits l D t q b x1 hz, fun x w hw => ?_⟩
  obtain ⟨rfl, rfl⟩ := hw
  exact ⟨rfl, q, rfl, rfl⟩
def F_odds (σ : XS) (x1 : Int32) (x2 : Int32) (x3 : Int32) : Option (Int32 × XS) := (f_5_odds σ.2.2.2.2.1 σ.2.2.2.2.2.2.2.1 x1 x2 x3).bind (fun z => some (z, (σ.1, σ.2.1, σ.2.2.1, σ.2.2.2.1, σ.2.2.2.2.1, σ.2.2.2.2.2.1, σ.2.2.2.2.2.2.1, σ.2.2.2.2.2.2.2.1, σ.2.2.2.2.2.2.2.2.1, σ.2.2.2.2.2.2.2.2.2.1, σ.2.2.2.2.2.2.2.2.2.2.1, σ.2.2.2.2.2.2.2.2.2.2.2)))
theorem C_odds (l : Launch) (D : va_G) (t : ty4) (σ : XS) (o : Nat) (ws : va_W) (x1 : Int32) (x2 : Int32) (x3 : Int32) {r : Int32 × XS} (hX : HasX t σ o ws) (h0 : F_odds σ x1 x2 x3 = some r) : ∃ Φ, MetI l yX5_odds cX5_odds 9 (some .int) (rmD 5) D t [.ref o, .int x1, .int x2, .int x3] ws Φ ∧ ∀ x w, Φ x w → r.1 = x ∧ HasX t r.2 o w := by
  obtain ⟨qX, qR, qT, qG, qL, qA, qY, qN, im, fa, qp, qZ, qM, fb, qo, hfa, him, rfl, rfl⟩ := hX
  unfold F_odds at h0
  obtain ⟨z, hz, h0⟩ := bind_some h0
  have h0 := Option.some.inj h0
  subst h0
  refine ⟨_, c_5_odds l D t qX qR qT qG qL qA qY qN im fa (wPs t qp σ.2.2.2.2.2.2.2.2.1 r10 ++ wIm t qZ qM fb qo σ.2.2.2.2.2.2.2.2.2.1 σ.2.2.2.2.2.2.2.2.2.2.1 σ.2.2.2.2.2.2.2.2.2.2.2 r2) σ.1 σ.2.1 σ.2.2.1 σ.2.2.2.1 σ.2.2.2.2.1 σ.2.2.2.2.2.1 σ.2.2.2.2.2.2.1 σ.2.2.2.2.2.2.2.1 x1 x2 x3 hz, fun x w hw => ?_⟩
  obtain ⟨rfl, rfl⟩ := hw
  exact ⟨rfl, qX, qR, qT, qG, qL, qA, qY, qN, im, fa, qp, qZ, qM, fb, qo, hfa, him, rfl, rfl⟩
def G_odds (b : BV) (x1 : Int32) (x2 : Int32) (x3 : Int32) : Option (Int32 × BV) := (f_6_odds b x1 x2 x3).bind (fun z => some (z, b))
theorem D_odds (l : Launch) (D : va_G) (t : ty4) (b : BV) (o : Nat) (ws : va_W) (x1 : Int32) (x2 : Int32) (x3 : Int32) {r : Int32 × BV} (hX : HasM t b o ws) (h0 : G_odds b x1 x2 x3 = some r) : ∃ Φ, MetI l yX6_odds cX6_odds 12 (some .int) (rmD 3) D t [.ref o, .int x1, .int x2, .int x3] ws Φ ∧ ∀ x w, Φ x w → r.1 = x ∧ HasM t r.2 o w := by
  obtain ⟨q, rfl, rfl⟩ := hX
  unfold G_odds at h0
  obtain ⟨z, hz, h0⟩ := bind_some h0
  have h0 := Option.some.inj h0
  subst h0
  refine ⟨_, c_6_odds l D t q b x1 x2 x3 hz, fun x w hw => ?_⟩
  obtain ⟨rfl, rfl⟩ := hw
  exact ⟨rfl, q, rfl, rfl⟩
def F_mark (σ : XS) (x1 : Int32) (x2 : Int32) : Option (Int32 × XS) := (f_5_mark σ.1 σ.2.2.2.2.1 σ.2.2.2.2.2.2.2.1 x1 x2).bind (fun z => some (z.1, (z.2, σ.2.1, σ.2.2.1, σ.2.2.2.1, σ.2.2.2.2.1, σ.2.2.2.2.2.1, σ.2.2.2.2.2.2.1, σ.2.2.2.2.2.2.2.1, σ.2.2.2.2.2.2.2.2.1, σ.2.2.2.2.2.2.2.2.2.1, σ.2.2.2.2.2.2.2.2.2.2.1, σ.2.2.2.2.2.2.2.2.2.2.2)))
theorem C_mark (l : Launch) (D : va_G) (t : ty4) (σ : XS) (o : Nat) (ws : va_W) (x1 : Int32) (x2 : Int32) {r : Int32 × XS} (hX : HasX t σ o ws) (h0 : F_mark σ x1 x2 = some r) : ∃ Φ, MetI l yX5_mark cX5_mark 3 (some .int) (rmD 7) D t [.ref o, .int x1, .int x2] ws Φ ∧ ∀ x w, Φ x w → r.1 = x ∧ HasX t r.2 o w := by
  obtain ⟨qX, qR, qT, qG, qL, qA, qY, qN, im, fa, qp, qZ, qM, fb, qo, hfa, him, rfl, rfl⟩ := hX
  unfold F_mark at h0
  obtain ⟨z, hz, h0⟩ := bind_some h0
  have h0 := Option.some.inj h0
  subst h0
  refine ⟨_, c_5_mark l D t qX qR qT qG qL qA qY qN im fa (wPs t qp σ.2.2.2.2.2.2.2.2.1 r10 ++ wIm t qZ qM fb qo σ.2.2.2.2.2.2.2.2.2.1 σ.2.2.2.2.2.2.2.2.2.2.1 σ.2.2.2.2.2.2.2.2.2.2.2 r2) σ.1 σ.2.1 σ.2.2.1 σ.2.2.2.1 σ.2.2.2.2.1 σ.2.2.2.2.2.1 σ.2.2.2.2.2.2.1 σ.2.2.2.2.2.2.2.1 x1 x2 hz, fun x w hw => ?_⟩
  obtain ⟨rfl, rfl⟩ := hw
  exact ⟨rfl, qX, qR, qT, qG, qL, qA, qY, qN, im, fa, qp, qZ, qM, fb, qo, hfa, him, rfl, rfl⟩
def G_mark (b : BV) (x1 : Int32) (x2 : Int32) : Option (Int32 × BV) := (f_6_mark b x1 x2).bind (fun z => some (z.1, z.2))
theorem D_mark (l : Launch) (D : va_G) (t : ty4) (b : BV) (o : Nat) (ws : va_W) (x1 : Int32) (x2 : Int32) {r : Int32 × BV} (hX : HasM t b o ws) (h0 : G_mark b x1 x2 = some r) : ∃ Φ, MetI l yX6_mark cX6_mark 4 (some .int) (rmD 3) D t [.ref o, .int x1, .int x2] ws Φ ∧ ∀ x w, Φ x w → r.1 = x ∧ HasM t r.2 o w := by
  obtain ⟨q, rfl, rfl⟩ := hX
  unfold G_mark at h0
  obtain ⟨z, hz, h0⟩ := bind_some h0
  have h0 := Option.some.inj h0
  subst h0
  refine ⟨_, c_6_mark l D t q b x1 x2 hz, fun x w hw => ?_⟩
  obtain ⟨rfl, rfl⟩ := hw
  exact ⟨rfl, q, rfl, rfl⟩
def F_keep (σ : XS) (x1 : Int32) : Option (Int32 × XS) := (f_5_keep σ.1 σ.2.2.2.2.2.2.1 σ.2.2.2.2.2.2.2.1 σ.2.2.2.2.2.2.2.2.1 σ.2.2.2.2.2.2.2.2.2.1 σ.2.2.2.2.2.2.2.2.2.2.1 σ.2.2.2.2.2.2.2.2.2.2.2 x1).bind (fun z => some (z.1, (z.2.1, σ.2.1, σ.2.2.1, σ.2.2.2.1, σ.2.2.2.2.1, σ.2.2.2.2.2.1, σ.2.2.2.2.2.2.1, σ.2.2.2.2.2.2.2.1, σ.2.2.2.2.2.2.2.2.1, z.2.2.1, z.2.2.2.1, z.2.2.2.2)))
theorem C_keep (l : Launch) (D : va_G) (t : ty4) (σ : XS) (o : Nat) (ws : va_W) (x1 : Int32) {r : Int32 × XS} (hX : HasX t σ o ws) (h0 : F_keep σ x1 = some r) : ∃ Φ, MetI l yX5_keep cX5_keep 2 (some .int) (rmD 2) D t [.ref o, .int x1] ws Φ ∧ ∀ x w, Φ x w → r.1 = x ∧ HasX t r.2 o w := by
  obtain ⟨qX, qR, qT, qG, qL, qA, qY, qN, im, fa, qp, qZ, qM, fb, qo, hfa, him, rfl, rfl⟩ := hX
  unfold F_keep at h0
  obtain ⟨z, hz, h0⟩ := bind_some h0
  have h0 := Option.some.inj h0
  subst h0
  refine ⟨_, c_5_keep l D t qX qR qT qG qL qA qY qN im fa qp qZ qM fb qo σ.1 σ.2.1 σ.2.2.1 σ.2.2.2.1 σ.2.2.2.2.1 σ.2.2.2.2.2.1 σ.2.2.2.2.2.2.1 σ.2.2.2.2.2.2.2.1 σ.2.2.2.2.2.2.2.2.1 σ.2.2.2.2.2.2.2.2.2.1 σ.2.2.2.2.2.2.2.2.2.2.1 σ.2.2.2.2.2.2.2.2.2.2.2 x1 hfa him hz, fun x w hw => ?_⟩
  obtain ⟨rfl, rfl⟩ := hw
  exact ⟨rfl, qX, qR, qT, qG, qL, qA, qY, qN, im, fa, qp, qZ, qM, fb, qo, hfa, him, rfl, rfl⟩
def G_keep (b : BV) (x1 : Int32) : Option (Int32 × BV) := (f_6_keep b x1).bind (fun z => some (z.1, z.2))
theorem D_keep (l : Launch) (D : va_G) (t : ty4) (b : BV) (o : Nat) (ws : va_W) (x1 : Int32) {r : Int32 × BV} (hX : HasM t b o ws) (h0 : G_keep b x1 = some r) : ∃ Φ, MetI l yX6_keep cX6_keep 4 (some .int) (rmD 1) D t [.ref o, .int x1] ws Φ ∧ ∀ x w, Φ x w → r.1 = x ∧ HasM t r.2 o w := by
  obtain ⟨q, rfl, rfl⟩ := hX
  unfold G_keep at h0
  obtain ⟨z, hz, h0⟩ := bind_some h0
  have h0 := Option.some.inj h0
  subst h0
  refine ⟨_, c_6_keep l D t q b x1 hz, fun x w hw => ?_⟩
  obtain ⟨rfl, rfl⟩ := hw
  exact ⟨rfl, q, rfl, rfl⟩
def F_back (σ : XS) (x1 : Int32) : Option (Int32 × XS) := (f_5_back σ.1 σ.2.2.2.2.2.2.1 σ.2.2.2.2.2.2.2.1 σ.2.2.2.2.2.2.2.2.1 σ.2.2.2.2.2.2.2.2.2.1 σ.2.2.2.2.2.2.2.2.2.2.1 σ.2.2.2.2.2.2.2.2.2.2.2 x1).bind (fun z => some (z.1, (σ.1, σ.2.1, σ.2.2.1, σ.2.2.2.1, σ.2.2.2.2.1, σ.2.2.2.2.2.1, z.2.1, z.2.2.1, z.2.2.2, σ.2.2.2.2.2.2.2.2.2.1, σ.2.2.2.2.2.2.2.2.2.2.1, σ.2.2.2.2.2.2.2.2.2.2.2)))
theorem C_back (l : Launch) (D : va_G) (t : ty4) (σ : XS) (o : Nat) (ws : va_W) (x1 : Int32) {r : Int32 × XS} (hX : HasX t σ o ws) (h0 : F_back σ x1 = some r) : ∃ Φ, MetI l yX5_back cX5_back 2 (some .int) (rmD 2) D t [.ref o, .int x1] ws Φ ∧ ∀ x w, Φ x w → r.1 = x ∧ HasX t r.2 o w := by
  obtain ⟨qX, qR, qT, qG, qL, qA, qY, qN, im, fa, qp, qZ, qM, fb, qo, hfa, him, rfl, rfl⟩ := hX
  unfold F_back at h0
  obtain ⟨z, hz, h0⟩ := bind_some h0
  have h0 := Option.some.inj h0
  subst h0
  refine ⟨_, c_5_back l D t qX qR qT qG qL qA qY qN im fa qp qZ qM fb qo σ.1 σ.2.1 σ.2.2.1 σ.2.2.2.1 σ.2.2.2.2.1 σ.2.2.2.2.2.1 σ.2.2.2.2.2.2.1 σ.2.2.2.2.2.2.2.1 σ.2.2.2.2.2.2.2.2.1 σ.2.2.2.2.2.2.2.2.2.1 σ.2.2.2.2.2.2.2.2.2.2.1 σ.2.2.2.2.2.2.2.2.2.2.2 x1 hfa him hz, fun x w hw => ?_⟩
  obtain ⟨rfl, rfl⟩ := hw
  exact ⟨rfl, qX, qR, qT, qG, qL, qA, qY, qN, im, fa, qp, qZ, qM, fb, qo, hfa, him, rfl, rfl⟩
def G_back (b : BV) (x1 : Int32) : Option (Int32 × BV) := (f_6_back b x1).bind (fun z => some (z.1, z.2))
theorem D_back (l : Launch) (D : va_G) (t : ty4) (b : BV) (o : Nat) (ws : va_W) (x1 : Int32) {r : Int32 × BV} (hX : HasM t b o ws) (h0 : G_back b x1 = some r) : ∃ Φ, MetI l yX6_back cX6_back 4 (some .int) (rmD 1) D t [.ref o, .int x1] ws Φ ∧ ∀ x w, Φ x w → r.1 = x ∧ HasM t r.2 o w := by
  obtain ⟨q, rfl, rfl⟩ := hX
  unfold G_back at h0
  obtain ⟨z, hz, h0⟩ := bind_some h0
  have h0 := Option.some.inj h0
  subst h0
  refine ⟨_, c_6_back l D t q b x1 hz, fun x w hw => ?_⟩
  obtain ⟨rfl, rfl⟩ := hw
  exact ⟨rfl, q, rfl, rfl⟩
def F_count (σ : XS) (x1 : Int32) : Option (Int32 × XS) := (f_5_count σ.1 σ.2.2.1 σ.2.2.2.2.1 σ.2.2.2.2.2.2.1 x1).bind (fun z => some (z, (σ.1, σ.2.1, σ.2.2.1, σ.2.2.2.1, σ.2.2.2.2.1, σ.2.2.2.2.2.1, σ.2.2.2.2.2.2.1, σ.2.2.2.2.2.2.2.1, σ.2.2.2.2.2.2.2.2.1, σ.2.2.2.2.2.2.2.2.2.1, σ.2.2.2.2.2.2.2.2.2.2.1, σ.2.2.2.2.2.2.2.2.2.2.2)))
theorem C_count (l : Launch) (D : va_G) (t : ty4) (σ : XS) (o : Nat) (ws : va_W) (x1 : Int32) {r : Int32 × XS} (hX : HasX t σ o ws) (h0 : F_count σ x1 = some r) : ∃ Φ, MetI l yX5_count cX5_count 2 (some .int) (rmD 0) D t [.ref o, .int x1] ws Φ ∧ ∀ x w, Φ x w → r.1 = x ∧ HasX t r.2 o w := by
  obtain ⟨qX, qR, qT, qG, qL, qA, qY, qN, im, fa, qp, qZ, qM, fb, qo, hfa, him, rfl, rfl⟩ := hX
  unfold F_count at h0
  obtain ⟨z, hz, h0⟩ := bind_some h0
  have h0 := Option.some.inj h0
  subst h0
  refine ⟨_, c_5_count l D t qX qR qT qG qL qA qY qN im fa (wPs t qp σ.2.2.2.2.2.2.2.2.1 r10 ++ wIm t qZ qM fb qo σ.2.2.2.2.2.2.2.2.2.1 σ.2.2.2.2.2.2.2.2.2.2.1 σ.2.2.2.2.2.2.2.2.2.2.2 r2) σ.1 σ.2.1 σ.2.2.1 σ.2.2.2.1 σ.2.2.2.2.1 σ.2.2.2.2.2.1 σ.2.2.2.2.2.2.1 σ.2.2.2.2.2.2.2.1 x1 hz, fun x w hw => ?_⟩
  obtain ⟨rfl, rfl⟩ := hw
  exact ⟨rfl, qX, qR, qT, qG, qL, qA, qY, qN, im, fa, qp, qZ, qM, fb, qo, hfa, him, rfl, rfl⟩
def G_count (b : BV) (x1 : Int32) : Option (Int32 × BV) := (f_6_count b x1).bind (fun z => some (z, b))
theorem D_count (l : Launch) (D : va_G) (t : ty4) (b : BV) (o : Nat) (ws : va_W) (x1 : Int32) {r : Int32 × BV} (hX : HasM t b o ws) (h0 : G_count b x1 = some r) : ∃ Φ, MetI l yX6_count cX6_count 2 (some .int) (rmD 0) D t [.ref o, .int x1] ws Φ ∧ ∀ x w, Φ x w → r.1 = x ∧ HasM t r.2 o w := by
  obtain ⟨q, rfl, rfl⟩ := hX
  unfold G_count at h0
  obtain ⟨z, hz, h0⟩ := bind_some h0
  have h0 := Option.some.inj h0
  subst h0
  refine ⟨_, c_6_count l D t q b x1 hz, fun x w hw => ?_⟩
  obtain ⟨rfl, rfl⟩ := hw
  exact ⟨rfl, q, rfl, rfl⟩
def F_trace (σ : XS) : Option (Int64 × XS) := (f_5_trace σ.1).bind (fun z => some (z, (σ.1, σ.2.1, σ.2.2.1, σ.2.2.2.1, σ.2.2.2.2.1, σ.2.2.2.2.2.1, σ.2.2.2.2.2.2.1, σ.2.2.2.2.2.2.2.1, σ.2.2.2.2.2.2.2.2.1, σ.2.2.2.2.2.2.2.2.2.1, σ.2.2.2.2.2.2.2.2.2.2.1, σ.2.2.2.2.2.2.2.2.2.2.2)))
theorem C_trace (l : Launch) (D : va_G) (t : ty4) (σ : XS) (o : Nat) (ws : va_W) {r : Int64 × XS} (hX : HasX t σ o ws) (h0 : F_trace σ = some r) : ∃ Φ, MetL l yX5_trace cX5_trace 1 (some .long) (rmD 0) D t [.ref o] ws Φ ∧ ∀ x w, Φ x w → r.1 = x ∧ HasX t r.2 o w := by
  obtain ⟨qX, qR, qT, qG, qL, qA, qY, qN, im, fa, qp, qZ, qM, fb, qo, hfa, him, rfl, rfl⟩ := hX
  unfold F_trace at h0
  obtain ⟨z, hz, h0⟩ := bind_some h0
  have h0 := Option.some.inj h0
  subst h0
  refine ⟨_, c_5_trace l D t qX qR qT qG qL qA qY qN im fa (wPs t qp σ.2.2.2.2.2.2.2.2.1 r10 ++ wIm t qZ qM fb qo σ.2.2.2.2.2.2.2.2.2.1 σ.2.2.2.2.2.2.2.2.2.2.1 σ.2.2.2.2.2.2.2.2.2.2.2 r2) σ.1 σ.2.1 σ.2.2.1 σ.2.2.2.1 σ.2.2.2.2.1 σ.2.2.2.2.2.1 σ.2.2.2.2.2.2.1 σ.2.2.2.2.2.2.2.1 hz, fun x w hw => ?_⟩
  obtain ⟨rfl, rfl⟩ := hw
  exact ⟨rfl, qX, qR, qT, qG, qL, qA, qY, qN, im, fa, qp, qZ, qM, fb, qo, hfa, him, rfl, rfl⟩
def G_trace (b : BV) : Option (Int64 × BV) := (f_6_trace b).bind (fun z => some (z, b))
theorem D_trace (l : Launch) (D : va_G) (t : ty4) (b : BV) (o : Nat) (ws : va_W) {r : Int64 × BV} (hX : HasM t b o ws) (h0 : G_trace b = some r) : ∃ Φ, MetL l yX6_trace cX6_trace 1 (some .long) (rmD 0) D t [.ref o] ws Φ ∧ ∀ x w, Φ x w → r.1 = x ∧ HasM t r.2 o w := by
  obtain ⟨q, rfl, rfl⟩ := hX
  unfold G_trace at h0
  obtain ⟨z, hz, h0⟩ := bind_some h0
  have h0 := Option.some.inj h0
  subst h0
  refine ⟨_, c_6_trace l D t q b hz, fun x w hw => ?_⟩
  obtain ⟨rfl, rfl⟩ := hw
  exact ⟨rfl, q, rfl, rfl⟩
