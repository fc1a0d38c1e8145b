-- a standing as numbers: days of each loan (bits), lent, age, lapsed (bits), purse, years
abbrev SV : Type := (Nat → Int32) × (Nat → Nat) × (Nat → Nat) × Int32 × Nat × Nat
def SC (S : BV) (w : SV) : Prop := (∀ l, l < 4 → S.2.1 0 l = w.1 l ∧ S.2.1 1 l = nI (w.2.1 l) ∧ S.2.1 2 l = nI (w.2.2.1 l)) ∧ S.1 3 = w.2.2.2.1 ∧ S.1 4 = nI w.2.2.2.2.1 ∧ S.1 5 = nI w.2.2.2.2.2
def SM (m : Nat → Int32) (o : Nat) (w : SV) : Prop := (∀ l, l < 4 → m (o + 3 + 3 * l) = w.1 l ∧ m (o + 4 + 3 * l) = nI (w.2.1 l) ∧ m (o + 5 + 3 * l) = nI (w.2.2.1 l)) ∧ m (o + 2) = w.2.2.2.1 ∧ m o = nI w.2.2.2.2.1 ∧ m (o + 1) = nI w.2.2.2.2.2
/-- the days of loans and the lapsed ones are days of the year, and apart; lent and ages are small -/
def OkS (v : LV) (w : SV) : Prop := (∀ l, l < 4 → w.2.1 l ≤ 729 ∧ w.2.2.1 l ≤ 9 ∧ (w.1 l ≠ 0 → w.2.2.1 l < v.1 10)) ∧ (∀ l, l < 4 → ∀ d, bt (w.1 l) d = true → d < v.1 1) ∧ (∀ d, bt w.2.2.2.1 d = true → d < v.1 1) ∧ (∀ l k, l < 4 → k < 4 → l ≠ k → ∀ d, bt (w.1 l) d = true → bt (w.1 k) d = false) ∧ (∀ l, l < 4 → ∀ d, bt (w.1 l) d = true → bt w.2.2.2.1 d = false)
theorem pA_same (S : BV) (k : Nat) (i v : Int32) : (pA S k i v).2.1 k = upd (S.2.1 k) i.toNatClampNeg v := by simp [pA, va_up]
theorem pA_ne (S : BV) {k j : Nat} (i v : Int32) (h : j ≠ k) : (pA S k i v).2.1 j = S.2.1 j := by simp [pA, va_up, h]
theorem pA_1 (S : BV) (k : Nat) (i v : Int32) : (pA S k i v).1 = S.1 := rfl
theorem pA_J (S : BV) (k : Nat) (i v : Int32) : (pA S k i v).2.2 = S.2.2 := rfl
theorem pI_1 (S : BV) (k : Nat) (v : Int32) : (pI S k v).1 = upd S.1 k v := rfl
theorem pI_2 (S : BV) (k : Nat) (v : Int32) : (pI S k v).2 = S.2 := rfl
theorem upd_s (f : Nat → Int32) (k : Nat) (v : Int32) : upd f k v k = v := by simp [upd]
theorem upd_n (f : Nat → Int32) {k j : Nat} (v : Int32) (h : j ≠ k) : upd f k v j = f j := by simp [upd, h]
theorem and0 (x y : Int32) : (x &&& y = 0) ↔ ∀ j, j < 32 → bt x j = true → bt y j = false := by
  constructor
  · intro h j hj hx
    have h1 := congrArg (fun z => bt z j) h
    simp only [b_and, b_0, hx, Bool.true_and] at h1
    exact h1
  · intro h
    refine b_ext (fun j hj => ?_)
    rw [b_and, b_0]
    cases hx : bt x j
    · rfl
    · rw [h j hj hx]; rfl
theorem bt0 {x : Int32} : x = 0 ↔ ∀ j, j < 32 → bt x j = false := by
  constructor
  · intro h j _; rw [h, b_0]
  · intro h; exact b_ext (fun j hj => by rw [h j hj, b_0])
theorem bnot (x : Int32) {j : Nat} (h : j < 32) : bt (x ^^^ (-1)) j = !bt x j := by
  rw [b_xor, b_m1 j h]; cases bt x j <;> rfl
def rowI (d n : Nat) : Int32 := ((1 <<< (nI n &&& 31)) - 1) <<< (nI d &&& 31)
theorem low_bt : ∀ n, n < 31 → ∀ j, j < 32 → bt ((1 <<< (nI n &&& 31)) - 1) j = decide (j < n) := by decide +kernel
theorem row_bt {d n j : Nat} (hd : d < 32) (hn : n < 31) (hj : j < 32) : bt (rowI d n) j = decide (d ≤ j ∧ j < d + n) := by
  unfold rowI
  rw [b_shl d hd _ hj]
  by_cases h : d ≤ j
  · rw [low_bt n hn (j - d) (by omega)]
    have : (j - d < n) ↔ (j < d + n) := by omega
    simp [h, this]
  · simp [h]
theorem rowC {d n : Nat} : f_5_rowBits (nI d) (nI n) = some (rowI d n) := rfl
theorem rowM {d n : Nat} : f_6_row (nI d) (nI n) = some (rowI d n) := rfl
def outW (w : SV) : Int32 := ((w.1 0 ||| w.1 1) ||| w.1 2) ||| w.1 3
def orS (x : Nat → Int32) (s : Nat → Bool) : Nat → Int32
  | 0 => 0
  | l + 1 => if s l = true then orS x s l ||| x l else orS x s l
theorem orS_s (x : Nat → Int32) (s : Nat → Bool) (l : Nat) : orS x s (l + 1) = if s l = true then orS x s l ||| x l else orS x s l := rfl
theorem SC.days {S : BV} {w : SV} (h : SC S w) {l : Nat} (hl : l < 4) : gA S 0 (nI l) = w.1 l := by
  rw [gA_nI _ _ (by omega)]; exact (h.1 l hl).1
theorem SC.lent {S : BV} {w : SV} (h : SC S w) {l : Nat} (hl : l < 4) : gA S 1 (nI l) = nI (w.2.1 l) := by
  rw [gA_nI _ _ (by omega)]; exact (h.1 l hl).2.1
theorem SC.age {S : BV} {w : SV} (h : SC S w) {l : Nat} (hl : l < 4) : gA S 2 (nI l) = nI (w.2.2.1 l) := by
  rw [gA_nI _ _ (by omega)]; exact (h.1 l hl).2.2
theorem SC.lapsed {S : BV} {w : SV} (h : SC S w) : gI S 3 = w.2.2.2.1 := h.2.1
theorem SC.purse {S : BV} {w : SV} (h : SC S w) : gI S 4 = nI w.2.2.2.2.1 := h.2.2.1
theorem SC.years {S : BV} {w : SV} (h : SC S w) : gI S 5 = nI w.2.2.2.2.2 := h.2.2.2
theorem SM.days {b : BV} {w : SV} (h : SM (b.2.1 8) 0 w) {l : Nat} (hl : l < 4) : gA b 8 (nI (3 + 3 * l)) = w.1 l := by
  rw [gA_nI _ _ (by omega)]
  have := (h.1 l hl).1
  rw [show 0 + 3 + 3 * l = 3 + 3 * l by omega] at this
  exact this
theorem SM.lent {b : BV} {w : SV} (h : SM (b.2.1 8) 0 w) {l : Nat} (hl : l < 4) : gA b 8 (nI (4 + 3 * l)) = nI (w.2.1 l) := by
  rw [gA_nI _ _ (by omega)]
  have := (h.1 l hl).2.1
  rw [show 0 + 4 + 3 * l = 4 + 3 * l by omega] at this
  exact this
theorem SM.age {b : BV} {w : SV} (h : SM (b.2.1 8) 0 w) {l : Nat} (hl : l < 4) : gA b 8 (nI (5 + 3 * l)) = nI (w.2.2.1 l) := by
  rw [gA_nI _ _ (by omega)]
  have := (h.1 l hl).2.2
  rw [show 0 + 5 + 3 * l = 5 + 3 * l by omega] at this
  exact this
theorem SM.lapsed {b : BV} {w : SV} (h : SM (b.2.1 8) 0 w) : gA b 8 2 = w.2.2.2.1 := h.2.1
theorem SM.purse {b : BV} {w : SV} (h : SM (b.2.1 8) 0 w) : gA b 8 0 = nI w.2.2.2.2.1 := h.2.2.1
theorem SM.years {b : BV} {w : SV} (h : SM (b.2.1 8) 0 w) : gA b 8 1 = nI w.2.2.2.2.2 := h.2.2.2
theorem dosC {S : BV} {w : SV} (hS : SC S w) (s : Int32) : ∀ (k n l : Nat), l + k = 4 → k < n → f_2_daysOfSet_4 S n s (orS w.1 (bt s) l) (nI l) = some (orS w.1 (bt s) 4) := by
  intro k
  induction k with
  | zero =>
    intro n l hl hn
    obtain ⟨n, rfl⟩ : ∃ m, n = m + 1 := ⟨n - 1, by omega⟩
    obtain rfl : l = 4 := by omega
    rfl
  | succ k ih =>
    intro n l hl hn
    obtain ⟨n, rfl⟩ : ∃ m, n = m + 1 := ⟨n - 1, by omega⟩
    show f_2_daysOfSet_4_b S (f_2_daysOfSet_4 S n) _ _ _ = _
    unfold f_2_daysOfSet_4_b f_2_daysOfSet_26
    rw [show (4 : Int32) = nI 4 from rfl, if_neg (nI_ge (by omega) (by omega)), has_eq s (by omega), Option.bind_some, ck_inb (by omega) (by omega), hS.days (by omega)]
    simp only [ite10, nI_1]
    rw [← ih n (l + 1) (by omega) (by omega), orS_s]
    by_cases hb : bt s l = true
    · simp [hb]
    · simp [hb]
theorem daysOfSetC {S : BV} {w : SV} (hS : SC S w) (s : Int32) : f_2_daysOfSet S s = some (orS w.1 (bt s) 4) := dosC hS s 4 200 0 (by omega) (by omega)
theorem or0 (x : Int32) : 0 ||| x = x := b_ext (fun i _ => by rw [b_or, b_0, Bool.false_or])
theorem or_all (x : Nat → Int32) : orS x (bt 15) 4 = ((x 0 ||| x 1) ||| x 2) ||| x 3 := by
  have h : ∀ l, l < 4 → bt 15 l = true := by decide
  rw [orS_s, orS_s, orS_s, orS_s, h 0 (by decide), h 1 (by decide), h 2 (by decide), h 3 (by decide)]
  simp only [if_true, orS, or0]
theorem daysOutC {S : BV} {w : SV} (hS : SC S w) : f_2_daysOut S = some (outW w) := by
  unfold f_2_daysOut
  rw [daysOfSetC hS, Option.bind_some, or_all]
  rfl
theorem csC {S : BV} {w : SV} (hS : SC S w) (s : Int32) : ∀ (k n l : Nat), l + k = 4 → k < n → f_2_costOfSet_4 S n s (nI (sumN (fun l => if bt s l = true then w.2.1 l else 0) l)) (nI l) = some (nI (sumN (fun l => if bt s l = true then w.2.1 l else 0) 4)) := by
  intro k
  induction k with
  | zero =>
    intro n l hl hn
    obtain ⟨n, rfl⟩ : ∃ m, n = m + 1 := ⟨n - 1, by omega⟩
    obtain rfl : l = 4 := by omega
    rfl
  | succ k ih =>
    intro n l hl hn
    obtain ⟨n, rfl⟩ : ∃ m, n = m + 1 := ⟨n - 1, by omega⟩
    show f_2_costOfSet_4_b S (f_2_costOfSet_4 S n) _ _ _ = _
    unfold f_2_costOfSet_4_b f_2_costOfSet_26
    rw [show (4 : Int32) = nI 4 from rfl, if_neg (nI_ge (by omega) (by omega)), has_eq s (by omega), Option.bind_some, ck_inb (by omega) (by omega), hS.lent (by omega)]
    simp only [ite10, nI_1, nI_add]
    rw [← ih n (l + 1) (by omega) (by omega), sumN_s]
    by_cases hb : bt s l = true
    · simp [hb]
    · simp [hb]
theorem costC {S : BV} {w : SV} (hS : SC S w) (s : Int32) : f_2_costOfSet S s = some (nI (sumN (fun l => if bt s l = true then w.2.1 l else 0) 4)) := csC hS s 4 200 0 (by omega) (by omega)
/-- a day is in -/
def inD (v : LV) (w : SV) (d : Nat) : Bool := decide (d < v.1 1) && !bt (outW w) d && !bt w.2.2.2.1 d
theorem allDaysC {L : BV} {v : LV} (hL : LC L v) : f_0_allDays L = some (rowI 0 (v.1 1)) := by
  unfold f_0_allDays
  rw [hL.days]
  rfl
theorem daysInC {L S : BV} {v : LV} {w : SV} (hL : LC L v) (ok : OkL v) (hS : SC S w) : ∃ x, f_2_daysIn L S = some x ∧ ∀ d, d < 32 → bt x d = inD v w d := by
  unfold f_2_daysIn
  rw [allDaysC hL, Option.bind_some, daysOutC hS, Option.bind_some, hS.lapsed]
  refine ⟨_, rfl, fun d hd => ?_⟩
  have h1 := ok.days
  rw [b_and, b_and, bnot _ hd, bnot _ hd, row_bt (by omega) (by omega) hd]
  unfold inD
  simp
theorem daysInX {L N : BV} {v : LV} {w : SV} (hL : LC L v) (ok : OkL v) (hS : SC N w) : ∃ x, f_5_daysIn L N = some x ∧ ∀ d, d < 32 → bt x d = inD v w d := by
  obtain ⟨x, hx, h⟩ := daysInC hL ok hS
  unfold f_5_daysIn
  rw [hx]
  exact ⟨x, rfl, h⟩
theorem loanDaysM {b : BV} {w : SV} (h : SM (b.2.1 8) 0 w) {l : Nat} (hl : l < 4) : f_6_loanDays b (nI l) = some (w.1 l) := by
  unfold f_6_loanDays
  rw [show (3 : Int32) = nI 3 from rfl, ix3, ck_inb (by omega) (by omega), h.days hl]
theorem lentLM {b : BV} {w : SV} (h : SM (b.2.1 8) 0 w) {l : Nat} (hl : l < 4) : f_6_lent b (nI l) = some (nI (w.2.1 l)) := by
  unfold f_6_lent
  rw [show (3 : Int32) = nI 3 from rfl, ix3, nI_1, show 3 + 3 * l + 1 = 4 + 3 * l by omega, ck_inb (by omega) (by omega), h.lent hl]
theorem outM {b : BV} {w : SV} (h : SM (b.2.1 8) 0 w) : f_6_out b = some (outW w) := by
  unfold f_6_out
  rw [show (0 : Int32) = nI 0 from rfl, show (1 : Int32) = nI 1 from rfl, show (2 : Int32) = nI 2 from rfl, show (3 : Int32) = nI 3 from rfl, loanDaysM h (by omega), loanDaysM h (by omega), loanDaysM h (by omega), loanDaysM h (by omega)]
  rfl
def awayW (w : SV) : Int32 := outW w ||| w.2.2.2.1
theorem notInM {b : BV} {w : SV} (h : SM (b.2.1 8) 0 w) : f_6_notIn b = some (awayW w) := by
  unfold f_6_notIn
  rw [outM h, Option.bind_some, ck_inbL (by decide), h.lapsed]
  rfl
theorem away_in {v : LV} (w : SV) {d : Nat} (hd : d < v.1 1) : inD v w d = !bt (awayW w) d := by
  unfold inD awayW
  rw [b_or]
  simp [hd]
theorem isFreeC {S : BV} {w : SV} (h : SC S w) {l : Nat} (hl : l < 4) : f_2_isFree S (nI l) = some (if w.1 l = 0 then 1 else 0) := by
  unfold f_2_isFree f_2_isFree_14
  rw [ck_inb (by omega) (by omega), h.days hl, isb0, isb1]
  by_cases h0 : w.1 l = 0 <;> simp [h0]
/-- the lowest loan that is free from l on -/
def lowF (x : Nat → Int32) : Nat → Nat → Nat
  | 0, l => l
  | k + 1, l => if x l = 0 then l else lowF x k (l + 1)
theorem lowF_le {x : Nat → Int32} : ∀ k l, lowF x k l ≤ l + k ∧ l ≤ lowF x k l ∧ (lowF x k l < l + k → x (lowF x k l) = 0) := by
  intro k
  induction k with
  | zero => intro l; exact ⟨Nat.le_refl _, Nat.le_refl _, fun h => absurd h (Nat.lt_irrefl _)⟩
  | succ k ih =>
    intro l
    unfold lowF
    by_cases h : x l = 0
    · rw [if_pos h]; exact ⟨by omega, by omega, fun _ => h⟩
    · rw [if_neg h]
      obtain ⟨h1, h2, h3⟩ := ih (l + 1)
      exact ⟨by omega, by omega, fun h4 => h3 (by omega)⟩
theorem lfC {S : BV} {w : SV} (hS : SC S w) : ∀ (k n l : Nat), l + k = 4 → k < n → f_2_lowestFree_2 S n (nI l) = some (if lowF w.1 k l = 4 then -9 else nI (lowF w.1 k l)) := by
  intro k
  induction k with
  | zero =>
    intro n l hl hn
    obtain ⟨n, rfl⟩ : ∃ m, n = m + 1 := ⟨n - 1, by omega⟩
    obtain rfl : l = 4 := by omega
    rfl
  | succ k ih =>
    intro n l hl hn
    obtain ⟨n, rfl⟩ : ∃ m, n = m + 1 := ⟨n - 1, by omega⟩
    show f_2_lowestFree_2_b S (f_2_lowestFree_2 S n) _ = _
    unfold f_2_lowestFree_2_b lowF
    rw [show (4 : Int32) = nI 4 from rfl, if_neg (nI_ge (by omega) (by omega)), isFreeC hS (by omega), Option.bind_some, nI_1]
    by_cases h0 : w.1 l = 0
    · have hl4 : ¬ l = 4 := by omega
      simp [h0, hl4]
    · simp only [h0, if_false, if_true]
      exact ih n (l + 1) (by omega) (by omega)
theorem lowestFreeC {S : BV} {w : SV} (hS : SC S w) : f_2_lowestFree S = some (if lowF w.1 4 0 = 4 then -9 else nI (lowF w.1 4 0)) := lfC hS 4 200 0 (by omega) (by omega)
/-- n days from d on are there, and in -/
def rowOk (v : LV) (w : SV) (d n : Nat) : Prop := d + n ≤ v.1 1 ∧ ∀ j, d ≤ j → j < d + n → inD v w j = true
theorem isRowInC {L N : BV} {v : LV} {w : SV} (hL : LC L v) (ok : OkL v) (hS : SC N w) {d n : Nat} (hd : d < 30) (hn : n ≤ 9) : ∃ z, f_5_isRowIn L N (nI d) (nI n) = some z ∧ (z = 0 ↔ ¬ rowOk v w d n) := by
  have h30 := ok.days
  unfold f_5_isRowIn f_5_isRowIn_32 f_5_isRowIn_33
  rw [hL.days, nI_add, isb0, isb1]
  by_cases h1 : v.1 1 < d + n
  · rw [if_pos (nI_lt h1 (by omega))]
    exact ⟨0, rfl, fun _ h => by have := h.1; omega, fun _ => rfl⟩
  · rw [if_neg (nI_nlt (by omega) (by omega)), rowC, Option.bind_some]
    obtain ⟨x, hx, hb⟩ := daysInX hL ok hS
    rw [hx, Option.bind_some]
    by_cases h2 : rowI d n &&& (x ^^^ (-1)) = 0
    · rw [if_pos h2]
      refine ⟨1, rfl, fun h => absurd h (by decide), fun h => absurd ⟨by omega, fun j h3 h4 => ?_⟩ h⟩
      have h5 := (and0 _ _).mp h2 j (by omega) (by rw [row_bt (by omega) (by omega) (by omega)]; simp; omega)
      rw [bnot _ (by omega), hb j (by omega)] at h5
      simpa using h5
    · rw [if_neg h2]
      refine ⟨0, rfl, fun _ h => h2 ((and0 _ _).mpr (fun j hj hbj => ?_)), fun _ => rfl⟩
      rw [row_bt (by omega) (by omega) hj] at hbj
      have h3 := of_decide_eq_true hbj
      rw [bnot _ hj, hb j hj, h.2 j h3.1 h3.2]
      rfl
theorem daysM {b : BV} {v : LV} (hL : LM (b.2.1 7) v) : f_6_days b = some (nI (v.1 1)) := by
  unfold f_6_days
  rw [ck_inbL (by decide), hL.days]
theorem isFreeRM {b : BV} {v : LV} {w : SV} (hL : LM (b.2.1 7) v) (ok : OkL v) (hS : SM (b.2.1 8) 0 w) {d n : Nat} (hd : d < 30) (hn : n ≤ 9) : ∃ z, f_6_isFree b (nI d) (nI n) = some z ∧ (z = 0 ↔ ¬ rowOk v w d n) := by
  have h30 := ok.days
  unfold f_6_isFree f_6_isFree_27 f_6_isFree_28
  rw [daysM hL, Option.bind_some, nI_add, isb0, isb1]
  by_cases h1 : v.1 1 < d + n
  · rw [if_pos (nI_lt h1 (by omega))]
    exact ⟨0, rfl, fun _ h => by have := h.1; omega, fun _ => rfl⟩
  · rw [if_neg (nI_nlt (by omega) (by omega)), rowM, Option.bind_some, notInM hS, Option.bind_some]
    by_cases h2 : rowI d n &&& awayW w = 0
    · rw [if_pos h2]
      refine ⟨1, rfl, fun h => absurd h (by decide), fun h => absurd ⟨by omega, fun j h3 h4 => ?_⟩ h⟩
      have h5 := (and0 _ _).mp h2 j (by omega) (by rw [row_bt (by omega) (by omega) (by omega)]; simp; omega)
      rw [away_in w (by omega), h5]
      rfl
    · rw [if_neg h2]
      refine ⟨0, rfl, fun _ h => h2 ((and0 _ _).mpr (fun j hj hbj => ?_)), fun _ => rfl⟩
      rw [row_bt (by omega) (by omega) hj] at hbj
      have h3 := of_decide_eq_true hbj
      have h4 := h.2 j h3.1 h3.2
      have h5 := h.1
      rw [away_in w (by omega)] at h4
      simpa using h4
