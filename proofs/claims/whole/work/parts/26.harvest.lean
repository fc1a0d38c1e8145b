-- harvest, gap, what is lent; the standing as numbers
def sumN (f : Nat → Nat) : Nat → Nat
  | 0 => 0
  | n + 1 => sumN f n + f n
theorem sumN_s (f : Nat → Nat) (n : Nat) : sumN f (n + 1) = sumN f n + f n := rfl
theorem sumN_congr {f g : Nat → Nat} : ∀ n, (∀ j, j < n → f j = g j) → sumN f n = sumN g n := by
  intro n
  induction n with
  | zero => intro _; rfl
  | succ n ih =>
    intro h
    unfold sumN
    rw [ih (fun j hj => h j (by omega)), h n (by omega)]
theorem sumN_le {f : Nat → Nat} {B : Nat} : ∀ n, (∀ j, j < n → f j ≤ B) → sumN f n ≤ B * n := by
  intro n
  induction n with
  | zero => intro _; exact Nat.zero_le _
  | succ n ih =>
    intro h
    have h1 := ih (fun j hj => h j (by omega))
    have h2 := h n (by omega)
    unfold sumN
    rw [Nat.mul_succ]
    omega
def rpe (v : LV) (q : Nat → Bool) (c : Nat) : Bool := (rip v c q).isSome
theorem rpe_congr {v : LV} {c : Nat} {q q' : Nat → Bool} (h : ∀ j, j < v.1 1 → q j = q' j) : rpe v q c = rpe v q' c := by
  unfold rpe
  rw [rip_congr h]
def harv (v : LV) (q : Nat → Bool) : Nat := sumN (fun c => if rpe v q c = true then v.2 7 c else 0) (v.1 4)
theorem harv_congr {v : LV} {q q' : Nat → Bool} (h : ∀ j, j < v.1 1 → q j = q' j) : harv v q = harv v q' := sumN_congr _ (fun c _ => by rw [rpe_congr h])
theorem harv_le {v : LV} (ok : OkL v) (q : Nat → Bool) : harv v q ≤ 396 := by
  have h1 := sumN_le (f := fun c => if rpe v q c = true then v.2 7 c else 0) (B := 99) (v.1 4) (fun j hj => by
    have := (ok.crop hj).2.2.2
    show (if _ then _ else _) ≤ 99
    split <;> omega)
  have h2 := ok.crops
  unfold harv
  omega
def rmsk (v : LV) (q : Nat → Bool) : Nat → Int32
  | 0 => 0
  | n + 1 => if rpe v q n = true then rmsk v q n ||| (1 <<< (nI n &&& 31)) else rmsk v q n
theorem one_shl {n i : Nat} (hn : n < 32) (hi : i < 32) : bt (1 <<< (nI n &&& 31)) i = decide (i = n) := by
  rw [b_shl n hn 1 hi]
  have h1 : ∀ k, k < 32 → bt 1 k = decide (k = 0) := by decide +kernel
  rw [h1 (i - n) (by omega)]
  by_cases h : i = n
  · subst h; simp
  · by_cases h2 : n ≤ i
    · have : ¬ (i - n = 0) := by omega
      simp [h, this]
    · simp [h, h2]
theorem rmsk_bt {v : LV} {q : Nat → Bool} : ∀ n, n ≤ 4 → ∀ i, i < 32 → bt (rmsk v q n) i = (decide (i < n) && rpe v q i) := by
  intro n
  induction n with
  | zero => intro _ i _; unfold rmsk; rw [b_0]; simp
  | succ n ih =>
    intro hn i hi
    have h1 := ih (by omega) i hi
    unfold rmsk
    by_cases hr : rpe v q n = true
    · rw [if_pos hr, b_or, h1, one_shl (by omega) hi]
      by_cases h : i = n
      · subst h; simp [hr]
      · by_cases h2 : i < n
        · have : i < n + 1 := by omega
          simp [h, h2, this]
        · have : ¬ i < n + 1 := by omega
          simp [h, h2, this]
    · rw [if_neg hr, h1]
      by_cases h : i = n
      · subst h; simp [hr]
      · by_cases h2 : i < n
        · have : i < n + 1 := by omega
          simp [h2, this]
        · have : ¬ i < n + 1 := by omega
          simp [h2, this]
theorem rpC {L : BV} {v : LV} (hL : LC L v) (ok : OkL v) (w : Int32) : ∀ (k n c : Nat), c + k = v.1 4 → k < n → f_0_ripening_4 L n w (rmsk v (bt w) c) (nI c) = some (rmsk v (bt w) (v.1 4)) := by
  have h4 := ok.crops
  intro k
  induction k with
  | zero =>
    intro n c hc hn
    obtain ⟨n, rfl⟩ : ∃ m, n = m + 1 := ⟨n - 1, by omega⟩
    show f_0_ripening_4_b L (f_0_ripening_4 L n) _ _ _ = _
    unfold f_0_ripening_4_b
    rw [hL.crops, if_pos (nI_le (by omega) (by omega)), ← hc]
    rfl
  | succ k ih =>
    intro n c hc hn
    obtain ⟨n, rfl⟩ : ∃ m, n = m + 1 := ⟨n - 1, by omega⟩
    show f_0_ripening_4_b L (f_0_ripening_4 L n) _ _ _ = _
    unfold f_0_ripening_4_b f_0_ripening_29
    rw [hL.crops, if_neg (nI_ge (by omega) (by omega)), ripC hL ok (by omega) w, Option.bind_some]
    simp only [oI_none ok, nI_1]
    have h2 := ih n (c + 1) (by omega) (by omega)
    unfold rmsk at h2
    by_cases hr : rpe v (bt w) c = true
    · rw [if_pos hr] at h2
      rw [if_neg (by unfold rpe at hr; rw [hr]; decide)]
      rw [h2]
      conv => lhs; rw [← hc]
      conv => rhs; rw [← hc]
      rfl
    · rw [if_neg hr] at h2
      rw [if_pos (by unfold rpe at hr; simpa using hr)]
      rw [h2]
      conv => lhs; rw [← hc]
      conv => rhs; rw [← hc]
      rfl
theorem ripeningC {L : BV} {v : LV} (hL : LC L v) (ok : OkL v) (w : Int32) : f_0_ripening L w = some (rmsk v (bt w) (v.1 4)) := rpC hL ok w (v.1 4) 200 0 (by omega) (by have := ok.crops; omega)
theorem wC {L : BV} {v : LV} (hL : LC L v) (ok : OkL v) (w : Int32) : ∀ (k n c : Nat), c + k = v.1 4 → k < n → f_0_worthOf_4 L n w (nI (sumN (fun c => if bt w c = true then v.2 7 c else 0) c)) (nI c) = some (nI (sumN (fun c => if bt w c = true then v.2 7 c else 0) (v.1 4))) := by
  have h4 := ok.crops
  intro k
  induction k with
  | zero =>
    intro n c hc hn
    obtain ⟨n, rfl⟩ : ∃ m, n = m + 1 := ⟨n - 1, by omega⟩
    show f_0_worthOf_4_b L (f_0_worthOf_4 L n) _ _ _ = _
    unfold f_0_worthOf_4_b
    rw [hL.crops, if_pos (nI_le (by omega) (by omega)), ← hc]
    rfl
  | succ k ih =>
    intro n c hc hn
    obtain ⟨n, rfl⟩ : ∃ m, n = m + 1 := ⟨n - 1, by omega⟩
    show f_0_worthOf_4_b L (f_0_worthOf_4 L n) _ _ _ = _
    unfold f_0_worthOf_4_b f_0_worthOf_29
    rw [hL.crops, if_neg (nI_ge (by omega) (by omega)), has_eq w (by omega), Option.bind_some]
    simp only [ite10, nI_1]
    have h2 := ih n (c + 1) (by omega) (by omega)
    by_cases hb : bt w c = true
    · rw [if_neg (fun h => h hb), ck_inb (by omega) (by omega), hL.worth ok (by omega), nI_add]
      rw [← h2]
      congr 2
      rw [sumN_s]
      simp only [hb, if_true]
    · rw [if_pos hb]
      rw [← h2]
      congr 2
      rw [sumN_s]
      simp only [hb, if_false]
      rfl
theorem worthC {L : BV} {v : LV} (hL : LC L v) (ok : OkL v) (w : Int32) : f_0_worthOf L w = some (nI (sumN (fun c => if bt w c = true then v.2 7 c else 0) (v.1 4))) := wC hL ok w (v.1 4) 200 0 (by omega) (by have := ok.crops; omega)
theorem harvC {L : BV} {v : LV} (hL : LC L v) (ok : OkL v) (w : Int32) : f_0_harvest L w = some (nI (harv v (bt w))) := by
  have h4 := ok.crops
  unfold f_0_harvest
  rw [ripeningC hL ok, Option.bind_some, worthC hL ok, Option.bind_some]
  congr 2
  refine sumN_congr _ (fun c hc => ?_)
  rw [rmsk_bt _ (by omega) c (by omega)]
  simp [hc]
theorem hM {b : BV} {v : LV} (hL : LM (b.2.1 7) v) (ok : OkL v) (w : Int32) : ∀ (k n c : Nat), c + k = v.1 4 → k < n → f_6_harvest_4 b n w (nI (sumN (fun c => if rpe v (fun j => !bt w j) c = true then v.2 7 c else 0) c)) (nI c) = some (nI (harv v (fun j => !bt w j))) := by
  have h4 := ok.crops
  intro k
  induction k with
  | zero =>
    intro n c hc hn
    obtain ⟨n, rfl⟩ : ∃ m, n = m + 1 := ⟨n - 1, by omega⟩
    show f_6_harvest_4_b b (f_6_harvest_4 b n) _ _ _ = _
    unfold f_6_harvest_4_b
    rw [ck_inbL (by decide), hL.crops, if_pos (nI_le (by omega) (by omega))]
    unfold harv
    rw [← hc]
    rfl
  | succ k ih =>
    intro n c hc hn
    obtain ⟨n, rfl⟩ : ∃ m, n = m + 1 := ⟨n - 1, by omega⟩
    show f_6_harvest_4_b b (f_6_harvest_4 b n) _ _ _ = _
    unfold f_6_harvest_4_b f_6_harvest_35 f_6_worth
    rw [ck_inbL (by decide), hL.crops, if_neg (nI_ge (by omega) (by omega)), ripM hL ok (by omega) w, Option.bind_some]
    simp only [oI_none ok, nI_1]
    have h2 := ih n (c + 1) (by omega) (by omega)
    have e1 : (67 : Int32) + 3 * nI c + 2 = nI (69 + 3 * c) := by
      rw [show (67 : Int32) = nI 67 from rfl, show (3 : Int32) = nI 3 from rfl, show (2 : Int32) = nI 2 from rfl, ix3, nI_add]
      congr 1; omega
    rw [e1, ck_inb (by omega) (by omega), hL.worth ok (by omega), Option.bind_some]
    by_cases hr : rpe v (fun j => !bt w j) c = true
    · rw [if_neg (by unfold rpe at hr; rw [hr]; decide), nI_add, ← h2]
      congr 2
      rw [sumN_s]
      simp only [hr, if_true]
    · rw [if_pos (by unfold rpe at hr; simpa using hr), show (0 : Int32) = nI 0 from rfl, nI_add, ← h2]
      congr 2
      rw [sumN_s]
      simp [hr]
theorem harvM {b : BV} {v : LV} (hL : LM (b.2.1 7) v) (ok : OkL v) (w : Int32) : f_6_harvest b w = some (nI (harv v (fun j => !bt w j))) := hM hL ok w (v.1 4) 200 0 (by omega) (by have := ok.crops; omega)
/-- the row of days behind one another that are not in, and the longest till now -/
def gpN (q : Nat → Bool) : Nat → Nat × Nat
  | 0 => (0, 0)
  | d + 1 => (if q d = true then 0 else (gpN q d).1 + 1, max (gpN q d).2 (if q d = true then 0 else (gpN q d).1 + 1))
theorem gpN_congr {q q' : Nat → Bool} : ∀ n, (∀ j, j < n → q j = q' j) → gpN q n = gpN q' n := by
  intro n
  induction n with
  | zero => intro _; rfl
  | succ n ih =>
    intro h
    unfold gpN
    rw [ih (fun j hj => h j (by omega)), h n (by omega)]
theorem gpN_le {q : Nat → Bool} : ∀ n, (gpN q n).1 ≤ n ∧ (gpN q n).2 ≤ n := by
  intro n
  induction n with
  | zero => exact ⟨Nat.le_refl _, Nat.le_refl _⟩
  | succ n ih =>
    unfold gpN
    by_cases h : q n = true
    · simp only [h, if_true]; omega
    · simp only [h]; simp; omega
theorem gC {L : BV} {v : LV} (hL : LC L v) (ok : OkL v) (w : Int32) : ∀ (k n d : Nat), d + k = v.1 1 → k < n → f_0_gap_7 L n w (nI (gpN (bt w) d).2) (nI (gpN (bt w) d).1) (nI d) = some (nI (gpN (bt w) (v.1 1)).2) := by
  have h4 := ok.days
  intro k
  induction k with
  | zero =>
    intro n d hd hn
    obtain ⟨n, rfl⟩ : ∃ m, n = m + 1 := ⟨n - 1, by omega⟩
    show f_0_gap_7_b L (f_0_gap_7 L n) _ _ _ _ = _
    unfold f_0_gap_7_b
    rw [hL.days, if_pos (nI_le (by omega) (by omega)), ← hd]
    rfl
  | succ k ih =>
    intro n d hd hn
    obtain ⟨n, rfl⟩ : ∃ m, n = m + 1 := ⟨n - 1, by omega⟩
    show f_0_gap_7_b L (f_0_gap_7 L n) _ _ _ _ = _
    have hle := gpN_le (q := bt w) d
    unfold f_0_gap_7_b f_0_gap_32
    rw [hL.days, if_neg (nI_ge (by omega) (by omega)), has_eq w (by omega), Option.bind_some]
    simp only [ite10, nI_1]
    rw [← ih n (d + 1) (by omega) (by omega)]
    by_cases hb : bt w d = true
    · rw [if_neg (fun h => h hb)]
      have e1 : (gpN (bt w) (d + 1)).1 = 0 := by unfold gpN; simp [hb]
      have e2 : (gpN (bt w) (d + 1)).2 = (gpN (bt w) d).2 := by
        show max _ _ = _
        rw [if_pos hb]; omega
      have g0 : ¬ nI (gpN (bt w) d).2 < 0 := nI_pos (by omega)
      rw [e1, e2, if_neg g0]
      rfl
    · rw [if_pos hb]
      have e1 : (gpN (bt w) (d + 1)).1 = (gpN (bt w) d).1 + 1 := by
        show (if _ then _ else _) = _
        rw [if_neg hb]
      have e2 : (gpN (bt w) (d + 1)).2 = max (gpN (bt w) d).2 ((gpN (bt w) d).1 + 1) := by
        show max _ _ = _
        rw [if_neg hb]
      rw [e1, e2]
      congr 1
      by_cases hm : (gpN (bt w) d).2 < (gpN (bt w) d).1 + 1
      · rw [if_pos (nI_lt hm (by omega))]; congr 1; omega
      · rw [if_neg (nI_nlt (by omega) (by omega))]; congr 1; omega
theorem gapC {L : BV} {v : LV} (hL : LC L v) (ok : OkL v) (w : Int32) : f_0_gap L w = some (nI (gpN (bt w) (v.1 1)).2) := gC hL ok w (v.1 1) 200 0 (by omega) (by have := ok.days; omega)
/-- the gifts of n days from d on, those that are there -/
def giftN (v : LV) (d : Nat) : Nat → Nat
  | 0 => 0
  | n + 1 => giftN v d n + (if d + n < v.1 1 then v.2 3 (d + n) else 0)
theorem giftN_le {v : LV} (ok : OkL v) (d : Nat) : ∀ n, giftN v d n ≤ 9 * n := by
  intro n
  induction n with
  | zero => exact Nat.zero_le _
  | succ n ih =>
    unfold giftN
    by_cases h : d + n < v.1 1
    · have := ok.gift h
      rw [if_pos h]; omega
    · rw [if_neg h]; omega
theorem giftN_past {v : LV} {d m : Nat} (h : v.1 1 ≤ d + m) : ∀ j, giftN v d (m + j) = giftN v d m := by
  intro j
  induction j with
  | zero => rfl
  | succ j ih =>
    have hj : ¬ (d + (m + j) < v.1 1) := by omega
    show giftN v d (m + j) + (if d + (m + j) < v.1 1 then v.2 3 (d + (m + j)) else 0) = _
    rw [if_neg hj, ih, Nat.add_zero]
def lentN (v : LV) (d n : Nat) : Nat := giftN v d n * v.1 8
theorem lentN_le {v : LV} (ok : OkL v) {d n : Nat} (hn : n ≤ 9) : lentN v d n ≤ 729 := by
  have h1 := giftN_le ok d n
  have h2 := ok.2.2.2.1.2
  unfold lentN
  calc giftN v d n * v.1 8 ≤ 81 * 9 := Nat.mul_le_mul (by omega) h2
    _ = 729 := rfl
theorem lC {L : BV} {v : LV} (hL : LC L v) (ok : OkL v) {d m : Nat} (hd : d ≤ 30) (hm : m ≤ 9) : ∀ (k n j : Nat), j + k = m → k < n → f_0_lentFor_5 L n (nI d) (nI m) (nI (giftN v d j)) (nI (d + j)) = some (nI (lentN v d m)) := by
  have h4 := ok.days
  have h8 := ok.2.2.2.1.2
  intro k
  induction k with
  | zero =>
    intro n j hj hn
    obtain ⟨n, rfl⟩ : ∃ m, n = m + 1 := ⟨n - 1, by omega⟩
    show f_0_lentFor_5_b L (f_0_lentFor_5 L n) _ _ _ _ = _
    unfold f_0_lentFor_5_b f_0_lentFor_38
    rw [nI_add, if_pos (nI_le (by omega) (by omega)), hL.price, pk_mul]
    unfold lentN
    rw [← hj]
    rfl
  | succ k ih =>
    intro n j hj hn
    obtain ⟨n, rfl⟩ : ∃ m, n = m + 1 := ⟨n - 1, by omega⟩
    show f_0_lentFor_5_b L (f_0_lentFor_5 L n) _ _ _ _ = _
    unfold f_0_lentFor_5_b f_0_lentFor_38
    rw [nI_add, if_neg (nI_ge (by omega) (by omega)), hL.days]
    by_cases hp : v.1 1 ≤ d + j
    · rw [if_pos (nI_le hp (by omega)), hL.price, pk_mul]
      unfold lentN
      rw [← hj, giftN_past hp]
    · rw [if_neg (nI_ge (by omega) (by omega)), ck_inb (by omega) (by omega), hL.gift ok (by omega), nI_add, nI_1]
      rw [← ih n (j + 1) (by omega) (by omega)]
      congr 2
      show _ = giftN v d j + _
      rw [if_pos (by omega)]
theorem lentC {L : BV} {v : LV} (hL : LC L v) (ok : OkL v) {d m : Nat} (hd : d ≤ 30) (hm : m ≤ 9) : f_0_lentFor L (nI d) (nI m) = some (nI (lentN v d m)) := lC hL ok hd hm m 200 0 (by omega) (by omega)
theorem lM {b : BV} {v : LV} (hL : LM (b.2.1 7) v) (ok : OkL v) {d m : Nat} (hd : d ≤ 30) (hm : m ≤ 9) : ∀ (k n j : Nat), j + k = m → k < n → f_6_lendsOf_5 b n (nI d) (nI m) (nI (giftN v d j)) (nI (d + j)) = some (nI (lentN v d m)) := by
  have h4 := ok.days
  have h8 := ok.2.2.2.1.2
  intro k
  induction k with
  | zero =>
    intro n j hj hn
    obtain ⟨n, rfl⟩ : ∃ m, n = m + 1 := ⟨n - 1, by omega⟩
    show f_6_lendsOf_5_b b (f_6_lendsOf_5 b n) _ _ _ _ = _
    unfold f_6_lendsOf_5_b f_6_lendsOf_41
    rw [nI_add, if_pos (nI_le (by omega) (by omega)), ck_inbL (by decide), hL.price, pk_mul]
    unfold lentN
    rw [← hj, Nat.mul_comm]
    rfl
  | succ k ih =>
    intro n j hj hn
    obtain ⟨n, rfl⟩ : ∃ m, n = m + 1 := ⟨n - 1, by omega⟩
    show f_6_lendsOf_5_b b (f_6_lendsOf_5 b n) _ _ _ _ = _
    unfold f_6_lendsOf_5_b f_6_lendsOf_41 f_6_days
    rw [nI_add, if_neg (nI_ge (by omega) (by omega)), ck_inbL (by decide), Option.bind_some, hL.days]
    by_cases hp : v.1 1 ≤ d + j
    · rw [if_pos (nI_le hp (by omega)), ck_inbL (by decide), hL.price, pk_mul]
      unfold lentN
      rw [← hj, giftN_past hp, Nat.mul_comm]
    · rw [if_neg (nI_ge (by omega) (by omega)), show (7 : Int32) = nI 7 from rfl, nI_add, ck_inb (by omega) (by omega), hL.gift ok (by omega), nI_add, nI_1]
      rw [← ih n (j + 1) (by omega) (by omega)]
      congr 2
      show _ = giftN v d j + _
      rw [if_pos (by omega)]
theorem lentM {b : BV} {v : LV} (hL : LM (b.2.1 7) v) (ok : OkL v) {d m : Nat} (hd : d ≤ 30) (hm : m ≤ 9) : f_6_lendsOf b (nI d) (nI m) = some (nI (lentN v d m)) := lM hL ok hd hm m 200 0 (by omega) (by omega)
