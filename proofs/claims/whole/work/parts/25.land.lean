-- a land as numbers: v.1 by the slots of Land, v.2 its rows; the class's and the reference's read of it
abbrev LV : Type := (Nat → Nat) × (Nat → Nat → Nat)
def OkL (v : LV) : Prop := v.1 0 ≤ 5 ∧ v.1 1 ≤ 30 ∧ v.1 4 ≤ 4 ∧ (1 ≤ v.1 8 ∧ v.1 8 ≤ 9) ∧ v.1 9 ≤ 5 ∧ (1 ≤ v.1 10 ∧ v.1 10 ≤ 9) ∧ (∀ d, d < v.1 1 → v.2 3 d ≤ 9) ∧ (∀ c, c < v.1 4 → 1 ≤ v.2 5 c ∧ v.2 5 c ≤ 9 ∧ v.2 6 c ≤ 9 ∧ v.2 7 c ≤ 99)
def LC (L : BV) (v : LV) : Prop := L.1 0 = nI (v.1 0) ∧ L.1 1 = nI (v.1 1) ∧ L.1 4 = nI (v.1 4) ∧ L.1 8 = nI (v.1 8) ∧ L.1 9 = nI (v.1 9) ∧ L.1 10 = nI (v.1 10) ∧ (∀ d, d < v.1 1 → L.2.1 2 d = nI (v.2 2 d) ∧ L.2.1 3 d = nI (v.2 3 d)) ∧ (∀ c, c < v.1 4 → L.2.1 5 c = nI (v.2 5 c) ∧ L.2.1 6 c = nI (v.2 6 c) ∧ L.2.1 7 c = nI (v.2 7 c))
def LM (p : Nat → Int32) (v : LV) : Prop := p 0 = nI (v.1 1) ∧ p 1 = nI (v.1 0) ∧ p 2 = nI (v.1 4) ∧ p 3 = nI (v.1 8) ∧ p 4 = nI (v.1 9) ∧ p 5 = nI (v.1 10) ∧ (∀ d, d < v.1 1 → p (37 + d) = nI (v.2 2 d) ∧ p (7 + d) = nI (v.2 3 d)) ∧ (∀ c, c < v.1 4 → p (67 + 3 * c) = nI (v.2 5 c) ∧ p (68 + 3 * c) = nI (v.2 6 c) ∧ p (69 + 3 * c) = nI (v.2 7 c))
theorem OkL.days {v : LV} (h : OkL v) : v.1 1 ≤ 30 := h.2.1
theorem OkL.crops {v : LV} (h : OkL v) : v.1 4 ≤ 4 := h.2.2.1
theorem OkL.gift {v : LV} (h : OkL v) {d : Nat} (hd : d < v.1 1) : v.2 3 d ≤ 9 := h.2.2.2.2.2.2.1 d hd
theorem OkL.crop {v : LV} (h : OkL v) {c : Nat} (hc : c < v.1 4) : 1 ≤ v.2 5 c ∧ v.2 5 c ≤ 9 ∧ v.2 6 c ≤ 9 ∧ v.2 7 c ≤ 99 := h.2.2.2.2.2.2.2 c hc
theorem LC.days {L : BV} {v : LV} (h : LC L v) : gI L 1 = nI (v.1 1) := h.2.1
theorem LC.crops {L : BV} {v : LV} (h : LC L v) : gI L 4 = nI (v.1 4) := h.2.2.1
theorem LC.price {L : BV} {v : LV} (h : LC L v) : gI L 8 = nI (v.1 8) := h.2.2.2.1
theorem LC.gift {L : BV} {v : LV} (h : LC L v) (ok : OkL v) {d : Nat} (hd : d < v.1 1) : gA L 3 (nI d) = nI (v.2 3 d) := by
  have := ok.days
  rw [gA_nI _ _ (by omega)]; exact (h.2.2.2.2.2.2.1 d hd).2
theorem LC.season {L : BV} {v : LV} (h : LC L v) (ok : OkL v) {d : Nat} (hd : d < v.1 1) : gA L 2 (nI d) = nI (v.2 2 d) := by
  have := ok.days
  rw [gA_nI _ _ (by omega)]; exact (h.2.2.2.2.2.2.1 d hd).1
theorem LC.needs {L : BV} {v : LV} (h : LC L v) (ok : OkL v) {c : Nat} (hc : c < v.1 4) : gA L 5 (nI c) = nI (v.2 5 c) := by
  have := ok.crops
  rw [gA_nI _ _ (by omega)]; exact (h.2.2.2.2.2.2.2 c hc).1
theorem LC.least {L : BV} {v : LV} (h : LC L v) (ok : OkL v) {c : Nat} (hc : c < v.1 4) : gA L 6 (nI c) = nI (v.2 6 c) := by
  have := ok.crops
  rw [gA_nI _ _ (by omega)]; exact (h.2.2.2.2.2.2.2 c hc).2.1
theorem LC.worth {L : BV} {v : LV} (h : LC L v) (ok : OkL v) {c : Nat} (hc : c < v.1 4) : gA L 7 (nI c) = nI (v.2 7 c) := by
  have := ok.crops
  rw [gA_nI _ _ (by omega)]; exact (h.2.2.2.2.2.2.2 c hc).2.2
theorem LM.days {b : BV} {v : LV} (h : LM (b.2.1 7) v) : gA b 7 0 = nI (v.1 1) := h.1
theorem LM.crops {b : BV} {v : LV} (h : LM (b.2.1 7) v) : gA b 7 2 = nI (v.1 4) := h.2.2.1
theorem LM.price {b : BV} {v : LV} (h : LM (b.2.1 7) v) : gA b 7 3 = nI (v.1 8) := h.2.2.2.1
theorem LM.gift {b : BV} {v : LV} (h : LM (b.2.1 7) v) (ok : OkL v) {d : Nat} (hd : d < v.1 1) : gA b 7 (nI (7 + d)) = nI (v.2 3 d) := by
  have := ok.days
  rw [gA_nI _ _ (by omega)]; exact (h.2.2.2.2.2.2.1 d hd).2
theorem LM.season {b : BV} {v : LV} (h : LM (b.2.1 7) v) (ok : OkL v) {d : Nat} (hd : d < v.1 1) : gA b 7 (nI (37 + d)) = nI (v.2 2 d) := by
  have := ok.days
  rw [gA_nI _ _ (by omega)]; exact (h.2.2.2.2.2.2.1 d hd).1
theorem LM.needs {b : BV} {v : LV} (h : LM (b.2.1 7) v) (ok : OkL v) {c : Nat} (hc : c < v.1 4) : gA b 7 (nI (67 + 3 * c)) = nI (v.2 5 c) := by
  have := ok.crops
  rw [gA_nI _ _ (by omega)]; exact (h.2.2.2.2.2.2.2 c hc).1
theorem LM.least {b : BV} {v : LV} (h : LM (b.2.1 7) v) (ok : OkL v) {c : Nat} (hc : c < v.1 4) : gA b 7 (nI (68 + 3 * c)) = nI (v.2 6 c) := by
  have := ok.crops
  rw [gA_nI _ _ (by omega)]; exact (h.2.2.2.2.2.2.2 c hc).2.1
theorem LM.worth {b : BV} {v : LV} (h : LM (b.2.1 7) v) (ok : OkL v) {c : Nat} (hc : c < v.1 4) : gA b 7 (nI (69 + 3 * c)) = nI (v.2 7 c) := by
  have := ok.crops
  rw [gA_nI _ _ (by omega)]; exact (h.2.2.2.2.2.2.2 c hc).2.2
def ripL (v : LV) (c : Nat) (q : Nat → Bool) : Nat → Nat → Nat → Option Nat
  | 0, _, _ => none
  | k + 1, d, row => if q d = true then (if (if v.2 3 d < v.2 6 c then 0 else row + 1) = v.2 5 c then some d else ripL v c q k (d + 1) (if v.2 3 d < v.2 6 c then 0 else row + 1)) else ripL v c q k (d + 1) row
def rip (v : LV) (c : Nat) (q : Nat → Bool) : Option Nat := ripL v c q (v.1 1) 0 0
def oI (o : Option Nat) : Int32 := match o with
  | none => -9
  | some d => nI d
theorem ripL_congr {v : LV} {c : Nat} {q q' : Nat → Bool} : ∀ (k d row : Nat), (∀ j, d ≤ j → j < d + k → q j = q' j) → ripL v c q k d row = ripL v c q' k d row := by
  intro k
  induction k with
  | zero => intro d row _; rfl
  | succ k ih =>
    intro d row h
    unfold ripL
    rw [h d (by omega) (by omega)]
    rw [ih (d + 1) _ (fun j h1 h2 => h j (by omega) (by omega)), ih (d + 1) row (fun j h1 h2 => h j (by omega) (by omega))]
theorem rip_congr {v : LV} {c : Nat} {q q' : Nat → Bool} (h : ∀ j, j < v.1 1 → q j = q' j) : rip v c q = rip v c q' := ripL_congr _ _ _ (fun j _ h2 => h j (by omega))
theorem ripL_lt {v : LV} {c : Nat} {q : Nat → Bool} : ∀ (k d row x : Nat), ripL v c q k d row = some x → x < d + k := by
  intro k
  induction k with
  | zero => intro d row x h; cases h
  | succ k ih =>
    intro d row x h
    unfold ripL at h
    split at h
    · by_cases hr : (if v.2 3 d < v.2 6 c then 0 else row + 1) = v.2 5 c
      · rw [if_pos hr] at h
        cases h; omega
      · rw [if_neg hr] at h
        have := ih _ _ _ h; omega
    · have := ih _ _ _ h; omega
theorem rip_lt {v : LV} {c : Nat} {q : Nat → Bool} {x : Nat} (h : rip v c q = some x) : x < v.1 1 := by
  have := ripL_lt _ _ _ _ h; omega
theorem oI_none {v : LV} {c : Nat} {q : Nat → Bool} (ok : OkL v) : (oI (rip v c q) = -9) ↔ (rip v c q).isSome = false := by
  cases h : rip v c q with
  | none => simp [oI]
  | some d =>
    have h1 := rip_lt h
    have h2 := ok.days
    simp only [oI, Option.isSome_some]
    constructor
    · intro e
      have e2 := congrArg Int32.toInt e
      rw [nI_toInt (by omega)] at e2
      have : (-9 : Int32).toInt = -9 := by decide
      omega
    · intro e; cases e
theorem rC {L : BV} {v : LV} (hL : LC L v) (ok : OkL v) {c : Nat} (hc : c < v.1 4) (w : Int32) : ∀ (k n d row : Nat), d + k = v.1 1 → k < n → row < v.2 5 c → f_0_ripensOn_21 L n w (nI (v.2 5 c)) (nI (v.2 6 c)) (nI row) (nI d) = some (oI (ripL v c (bt w) k d row)) := by
  have hd30 := ok.days
  have hcr := ok.crop hc
  intro k
  induction k with
  | zero =>
    intro n d row hd hn hrow
    obtain ⟨n, rfl⟩ : ∃ m, n = m + 1 := ⟨n - 1, by omega⟩
    show f_0_ripensOn_21_b L (f_0_ripensOn_21 L n) _ _ _ _ _ = _
    unfold f_0_ripensOn_21_b
    rw [hL.days, if_pos (nI_le (by omega) (by omega))]
    rfl
  | succ k ih =>
    intro n d row hd hn hrow
    obtain ⟨n, rfl⟩ : ∃ m, n = m + 1 := ⟨n - 1, by omega⟩
    have hgf := ok.gift (d := d) (by omega)
    show f_0_ripensOn_21_b L (f_0_ripensOn_21 L n) _ _ _ _ _ = _
    unfold f_0_ripensOn_21_b f_0_ripensOn_59 f_0_ripensOn_70 ripL
    rw [hL.days, if_neg (nI_ge (by omega) (by omega)), has_eq w (by omega), Option.bind_some]
    simp only [ite10, nI_1]
    by_cases hb : bt w d = true
    · rw [if_neg (fun h => h hb), if_pos hb, ck_inb (by omega) (by omega), hL.gift ok (by omega)]
      by_cases hg : v.2 3 d < v.2 6 c
      · have g1 : nI (v.2 3 d) < nI (v.2 6 c) := nI_lt hg (by omega)
        have g2 : (0 : Int32) < nI (v.2 5 c) := nI_lt (a := 0) (by omega) (by omega)
        have g3 : ¬ (0 = v.2 5 c) := by omega
        simp only [g1, g2, g3, hg, if_true, if_false]
        exact ih n (d + 1) 0 (by omega) (by omega) (by omega)
      · have g1 : ¬ nI (v.2 3 d) < nI (v.2 6 c) := nI_nlt (by omega) (by omega)
        by_cases hr : row + 1 = v.2 5 c
        · have g2 : ¬ nI (row + 1) < nI (v.2 5 c) := nI_nlt (by omega) (by omega)
          simp only [g1, hg, if_false]
          rw [if_neg g2, if_pos hr]
          rfl
        · have g2 : nI (row + 1) < nI (v.2 5 c) := nI_lt (by omega) (by omega)
          simp only [g1, g2, hg, hr, if_true, if_false]
          exact ih n (d + 1) (row + 1) (by omega) (by omega) (by omega)
    · rw [if_pos hb, if_neg hb]
      exact ih n (d + 1) row (by omega) (by omega) hrow
theorem ripC {L : BV} {v : LV} (hL : LC L v) (ok : OkL v) {c : Nat} (hc : c < v.1 4) (w : Int32) : f_0_ripensOn L (nI c) w = some (oI (rip v c (bt w))) := by
  have h4 := ok.crops
  have hcr := ok.crop hc
  unfold f_0_ripensOn
  rw [ck_inb (by omega) (by omega), ck_inb (by omega) (by omega), hL.needs ok hc, hL.least ok hc]
  exact rC hL ok hc w (v.1 1) 200 0 0 (by omega) (by have := ok.days; omega) (by omega)
theorem rM {b : BV} {v : LV} (hL : LM (b.2.1 7) v) (ok : OkL v) {c : Nat} (hc : c < v.1 4) (w : Int32) : ∀ (k n d row : Nat), d + k = v.1 1 → k < n → row < v.2 5 c → f_6_ripens_33 b n w (nI (v.2 5 c)) (nI (v.2 6 c)) (nI row) (nI d) = some (oI (ripL v c (fun j => !bt w j) k d row)) := by
  have hd30 := ok.days
  have hcr := ok.crop hc
  intro k
  induction k with
  | zero =>
    intro n d row hd hn hrow
    obtain ⟨n, rfl⟩ : ∃ m, n = m + 1 := ⟨n - 1, by omega⟩
    show f_6_ripens_33_b b (f_6_ripens_33 b n) _ _ _ _ _ = _
    unfold f_6_ripens_33_b f_6_days
    rw [ck_inbL (by decide), Option.bind_some, hL.days, if_pos (nI_le (by omega) (by omega))]
    rfl
  | succ k ih =>
    intro n d row hd hn hrow
    obtain ⟨n, rfl⟩ : ∃ m, n = m + 1 := ⟨n - 1, by omega⟩
    have hgf := ok.gift (d := d) (by omega)
    show f_6_ripens_33_b b (f_6_ripens_33 b n) _ _ _ _ _ = _
    unfold f_6_ripens_33_b f_6_days f_6_ripens_74 f_6_ripens_85 ripL
    rw [ck_inbL (by decide), Option.bind_some, hL.days, if_neg (nI_ge (by omega) (by omega))]
    simp only [nI_1]
    by_cases hb : bt w d = true
    · rw [if_neg (by rw [bit_test w (by omega), hb]; decide), if_neg (by rw [hb]; decide)]
      exact ih n (d + 1) row (by omega) (by omega) hrow
    · have hb' : bt w d = false := by simpa using hb
      have g0 : (w >>> (nI d &&& 31)) &&& 1 = 0 := (bit_test w (by omega)).mpr hb'
      have g5 : inb (7 + nI d) 79 = true := by rw [show (7 : Int32) = nI 7 from rfl, nI_add]; exact inb_nI (by omega) (by omega)
      have g6 : gA b 7 (7 + nI d) = nI (v.2 3 d) := by rw [show (7 : Int32) = nI 7 from rfl, nI_add]; exact hL.gift ok (by omega)
      simp only [g0, g5, g6, ck_t, hb', Bool.not_false, if_true]
      by_cases hg : v.2 3 d < v.2 6 c
      · have g1 : ¬ nI (v.2 6 c) ≤ nI (v.2 3 d) := nI_ge hg (by omega)
        have g2 : ¬ ((0 : Int32) = nI (v.2 5 c)) := by
          rw [show (0 : Int32) = nI 0 from rfl, nI_eq (by omega) (by omega)]; omega
        have g3 : ¬ (0 = v.2 5 c) := by omega
        simp only [g1, g2, g3, hg, if_true, if_false]
        exact ih n (d + 1) 0 (by omega) (by omega) (by omega)
      · have g1 : nI (v.2 6 c) ≤ nI (v.2 3 d) := nI_le (by omega) (by omega)
        by_cases hr : row + 1 = v.2 5 c
        · simp only [g1, hg, hr, if_true, if_false]
          rfl
        · have g2 : ¬ (nI (row + 1) = nI (v.2 5 c)) := by rw [nI_eq (by omega) (by omega)]; exact hr
          simp only [g1, g2, hg, hr, if_true, if_false]
          exact ih n (d + 1) (row + 1) (by omega) (by omega) (by omega)
theorem ix3 (c k : Nat) : nI k + nI 3 * nI c = nI (k + 3 * c) := by rw [pk_mul, nI_add]
theorem ripM {b : BV} {v : LV} (hL : LM (b.2.1 7) v) (ok : OkL v) {c : Nat} (hc : c < v.1 4) (w : Int32) : f_6_ripens b (nI c) w = some (oI (rip v c (fun j => !bt w j))) := by
  have h4 := ok.crops
  have hcr := ok.crop hc
  unfold f_6_ripens
  rw [show (67 : Int32) = nI 67 from rfl, show (3 : Int32) = nI 3 from rfl, ix3, nI_1, show 67 + 3 * c + 1 = 68 + 3 * c by omega, ck_inb (by omega) (by omega), ck_inb (by omega) (by omega), hL.needs ok hc, hL.least ok hc]
  exact rM hL ok hc w (v.1 1) 200 0 0 (by omega) (by have := ok.days; omega) (by omega)
