-- odds
theorem bt_nI : ∀ s, s < 16 → ∀ c, c < 32 → bt (nI s) c = s.testBit c := by decide +kernel
def chN (r s : Nat → Bool) (x : Nat) : Nat → Nat
  | 0 => 1
  | c + 1 => if r c = true then chN r s x c * (if s c = true then 10 - x else x) else chN r s x c
theorem chN_s (r s : Nat → Bool) (x c : Nat) : chN r s x (c + 1) = if r c = true then chN r s x c * (if s c = true then 10 - x else x) else chN r s x c := rfl
def ptN (r s : Nat → Bool) (x : Nat) : Nat → Nat
  | 0 => 1
  | c + 1 => ptN r s x c * (if r c = true then (if s c = true then x else 10 - x) else (if s c = true then 0 else 1))
theorem ptN_s (r s : Nat → Bool) (x c : Nat) : ptN r s x (c + 1) = ptN r s x c * (if r c = true then (if s c = true then x else 10 - x) else (if s c = true then 0 else 1)) := rfl
def smN (r s : Nat → Bool) (wo : Nat → Nat) : Nat → Nat
  | 0 => 0
  | c + 1 => smN r s wo c + (if (r c && !s c) = true then wo c else 0)
theorem smN_s (r s : Nat → Bool) (wo : Nat → Nat) (c : Nat) : smN r s wo (c + 1) = smN r s wo c + (if (r c && !s c) = true then wo c else 0) := rfl
def subB (r : Nat → Bool) (s : Nat) : Bool := (!s.testBit 0 || r 0) && (!s.testBit 1 || r 1) && (!s.testBit 2 || r 2) && (!s.testBit 3 || r 3)
def wsN (wo : Nat → Nat) (k s : Nat) : Nat := sumN (fun c => if s.testBit c = true then wo c else 0) k
def loN (r : Nat → Bool) (x s : Nat) : Nat := if subB r s = true then chN r s.testBit x 4 else 0
def upN (r : Nat → Bool) (wo : Nat → Nat) (x V k s : Nat) : Nat := if subB r s = true then (if wsN wo k s < V then 0 else chN r s.testBit x 4) else 0
def beN (r : Nat → Bool) (x k s : Nat) : Nat := ptN r s.testBit x k
def abN (r : Nat → Bool) (wo : Nat → Nat) (x V k s : Nat) : Nat := if smN r s.testBit wo k < V then 0 else ptN r s.testBit x k
theorem chC {r s : Int32} {x : Nat} (hx : x ≤ 10) : ∀ (k n c : Nat), c + k = 4 → k < n → f_5_chancesOf_5 n s r (nI x) (nI (chN (bt r) (bt s) x c)) (nI c) = some (nI (chN (bt r) (bt s) x 4)) := by
  intro k
  induction k with
  | zero =>
    intro n c hc hn
    obtain ⟨n, rfl⟩ : ∃ m, n = m + 1 := ⟨n - 1, by omega⟩
    obtain rfl : c = 4 := by omega
    show f_5_chancesOf_5_b (f_5_chancesOf_5 n) _ _ _ _ _ = _
    unfold f_5_chancesOf_5_b
    rw [if_pos (show (4 : Int32) ≤ nI 4 by decide)]
  | succ k ih =>
    intro n c hc hn
    obtain ⟨n, rfl⟩ : ∃ m, n = m + 1 := ⟨n - 1, by omega⟩
    show f_5_chancesOf_5_b (f_5_chancesOf_5 n) _ _ _ _ _ = _
    unfold f_5_chancesOf_5_b f_5_chancesOf_38 f_5_chancesOf_40
    rw [← ih n (c + 1) (by omega) (by omega), chN_s, if_neg (show ¬ (4 : Int32) ≤ nI c from nI_ge (b := 4) (by omega) (by decide)), has_eq r (by omega), Option.bind_some, has_eq s (by omega), Option.bind_some, nI_1, show (10 : Int32) - nI x = nI (10 - x) from pk_sub hx]
    by_cases hr : bt r c = true
    · rw [if_pos hr, if1, if_pos hr]
      by_cases hs : bt s c = true
      · rw [if_pos hs, if1, if_pos hs, pk_mul]
      · rw [if_neg hs, if0, if_neg hs, pk_mul]
    · rw [if_neg hr, if0, if_neg hr]
theorem chances {r s : Int32} {x : Nat} (hx : x ≤ 10) : f_5_chancesOf s r (nI x) = some (nI (chN (bt r) (bt s) x 4)) := chC hx 4 200 0 (by omega) (by omega)
theorem chN_congr {r s s' : Nat → Bool} {x : Nat} : ∀ c, (∀ j, j < c → s j = s' j) → chN r s x c = chN r s' x c := by
  intro c
  induction c with
  | zero => intro _; rfl
  | succ c ih =>
    intro h
    rw [chN_s, chN_s, ih (fun j hj => h j (by omega)), h c (by omega)]
theorem sub_iff {r : Int32} {s : Nat} (hs : s < 16) : (nI s &&& (r ^^^ (-1)) = 0) ↔ subB (bt r) s = true := by
  have hb := bt_nI s hs
  have hhi : ∀ c, 4 ≤ c → c < 32 → s.testBit c = false := by
    have : ∀ s, s < 16 → ∀ c, c < 32 → 4 ≤ c → s.testBit c = false := by decide +kernel
    exact fun c h1 h2 => this s hs c h2 h1
  constructor
  · intro h
    have h1 := (and0 _ _).mp h
    have h2 : ∀ c, c < 4 → (!s.testBit c || bt r c) = true := fun c hc => by
      cases ht : s.testBit c
      · rfl
      · have := h1 c (by omega) (by rw [hb c (by omega), ht])
        rw [bnot _ (by omega)] at this
        simpa using this
    unfold subB
    rw [h2 0 (by omega), h2 1 (by omega), h2 2 (by omega), h2 3 (by omega)]
    rfl
  · intro h
    unfold subB at h
    simp only [Bool.and_eq_true] at h
    refine (and0 _ _).mpr (fun c hc ht => ?_)
    rw [hb c hc] at ht
    rw [bnot _ hc]
    by_cases h4 : 4 ≤ c
    · rw [hhi c h4 hc] at ht; cases ht
    · have h5 : (!s.testBit c || bt r c) = true := by
        rcases (show c = 0 ∨ c = 1 ∨ c = 2 ∨ c = 3 by omega) with rfl | rfl | rfl | rfl
        · exact h.1.1.1
        · exact h.1.1.2
        · exact h.1.2
        · exact h.2
      rw [ht] at h5
      simp at h5
      rw [h5]; rfl
/-- the class behind its loop -/
def oFinC (w u : Nat) (y : Int32) : Option Int32 := (f_5_greatestDivisor (nI w) (nI u)).bind (fun z1 => if z1 = 0 then (some (-9)) else (if y = 0 then (ck (nz z1) (some (nI u / z1))) else (ck (nz z1) (some (nI w / z1)))))
theorem oC {L N : BV} {v : LV} (hL : LC L v) (ok : OkL v) {r : Int32} {x V : Nat} (hx : x ≤ 10) (hV : V ≤ 999) (y : Int32) : ∀ (k n s : Nat), s + k = 16 → k < n → f_5_odds_54 L N n (nI x) (nI V) y r (nI (sumN (upN (bt r) (v.2 7) x V (v.1 4)) s)) (nI (sumN (loN (bt r) x) s)) (nI s) = oFinC (sumN (loN (bt r) x) 16) (sumN (upN (bt r) (v.2 7) x V (v.1 4)) 16) y := by
  have h4 := ok.crops
  intro k
  induction k with
  | zero =>
    intro n s hs hn
    obtain ⟨n, rfl⟩ : ∃ m, n = m + 1 := ⟨n - 1, by omega⟩
    obtain rfl : s = 16 := by omega
    show f_5_odds_54_b L N (f_5_odds_54 L N n) _ _ _ _ _ _ _ = _
    unfold f_5_odds_54_b f_5_odds_146
    rw [if_pos (show (16 : Int32) ≤ nI 16 by decide)]
    rfl
  | succ k ih =>
    intro n s hs hn
    obtain ⟨n, rfl⟩ : ∃ m, n = m + 1 := ⟨n - 1, by omega⟩
    rw [← ih n (s + 1) (by omega) (by omega), sumN_s, sumN_s]
    show f_5_odds_54_b L N (f_5_odds_54 L N n) _ _ _ _ _ _ _ = _
    unfold f_5_odds_54_b f_5_odds_109 f_5_odds_112
    rw [if_neg (show ¬ (16 : Int32) ≤ nI s from nI_ge (b := 16) (by omega) (by decide)), nI_1]
    have hsub := sub_iff (r := r) (s := s) (by omega)
    have hb := bt_nI s (by omega)
    by_cases h : subB (bt r) s = true
    · have e1 : chN (bt r) (bt (nI s)) x 4 = chN (bt r) s.testBit x 4 := chN_congr 4 (fun j hj => hb j (by omega))
      have e2 : sumN (fun c => if bt (nI s) c = true then v.2 7 c else 0) (v.1 4) = wsN (v.2 7) (v.1 4) s := sumN_congr _ (fun j hj => by rw [hb j (by omega)])
      have hle : wsN (v.2 7) (v.1 4) s ≤ 396 := by
        have := sumN_le (f := fun c => if s.testBit c = true then v.2 7 c else 0) (B := 99) (v.1 4) (fun j hj => by
          have := (ok.crop hj).2.2.2
          show (if _ then _ else _) ≤ 99
          split <;> omega)
        unfold wsN
        omega
      rw [if_pos (hsub.mpr h), chances hx, Option.bind_some, worthC hL ok, Option.bind_some, e1, e2]
      unfold upN loN
      rw [if_pos h, if_pos h, nI_add]
      by_cases hlt : wsN (v.2 7) (v.1 4) s < V
      · rw [if_pos (nI_lt hlt (by omega)), if_pos hlt, show (0 : Int32) = nI 0 from rfl, nI_add]
      · rw [if_neg (nI_nlt (by omega) (by omega)), if_neg hlt, nI_add]
    · rw [if_neg (fun e => h (hsub.mp e))]
      unfold upN loN
      rw [if_neg h, if_neg h]
      simp only [Nat.add_zero]
theorem ptM {b : BV} {v : LV} {w : SV} (hM : LM (b.2.1 7) v) (ok : OkL v) (hB : SM (b.2.1 8) 0 w) (k45 : Int32 → Int32 → Int32 → Int32 → Int32 → Int32 → Option Int32) {x : Nat} (hx : x ≤ 10) (V y ab be : Int32) {s : Nat} (hs : s < 16) : ∀ (k n c : Nat), c + k = v.1 4 → k < n → f_6_odds_67 b k45 n (nI x) V y ab be (nI s) (nI (ptN (rpe v (fun j => !bt (awayW w) j)) s.testBit x c)) (nI (smN (rpe v (fun j => !bt (awayW w) j)) s.testBit (v.2 7) c)) (nI c) = (if nI (smN (rpe v (fun j => !bt (awayW w) j)) s.testBit (v.2 7) (v.1 4)) < V then k45 (nI x) V y (ab + 0) (be + nI (ptN (rpe v (fun j => !bt (awayW w) j)) s.testBit x (v.1 4))) (nI (s + 1)) else k45 (nI x) V y (ab + nI (ptN (rpe v (fun j => !bt (awayW w) j)) s.testBit x (v.1 4))) (be + nI (ptN (rpe v (fun j => !bt (awayW w) j)) s.testBit x (v.1 4))) (nI (s + 1))) := by
  have h4 := ok.crops
  intro k
  induction k with
  | zero =>
    intro n c hc hn
    obtain ⟨n, rfl⟩ : ∃ m, n = m + 1 := ⟨n - 1, by omega⟩
    show f_6_odds_67_b b k45 (f_6_odds_67 b k45 n) _ _ _ _ _ _ _ _ _ = _
    unfold f_6_odds_67_b f_6_odds_206
    rw [ck_inbL (by decide), hM.crops, if_pos (nI_le (by omega) (by omega)), nI_1, show c = v.1 4 by omega]
  | succ k ih =>
    intro n c hc hn
    obtain ⟨n, rfl⟩ : ∃ m, n = m + 1 := ⟨n - 1, by omega⟩
    rw [← ih n (c + 1) (by omega) (by omega), ptN_s, smN_s]
    show f_6_odds_67_b b k45 (f_6_odds_67 b k45 n) _ _ _ _ _ _ _ _ _ = _
    have e69 : (67 : Int32) + 3 * nI c + 2 = nI (69 + 3 * c) := by
      rw [show (67 : Int32) = nI 67 from rfl, show (3 : Int32) = nI 3 from rfl, show (2 : Int32) = nI 2 from rfl, ix3, nI_add]; congr 1; omega
    unfold f_6_odds_67_b f_6_odds_94 f_6_odds_116 f_6_odds_151 f_6_odds_175 f_6_odds_176 f_6_worth
    have hni := notInM hB
    have hri := ripM hM ok (show c < v.1 4 by omega) (awayW w)
    have hwo : (ck (inb (nI (69 + 3 * c)) 79) (some (gA b 7 (nI (69 + 3 * c))))) = some (nI (v.2 7 c)) := by
      rw [ck_inb (by omega) (by decide), hM.worth ok (by omega)]
    have h10 : (10 : Int32) - nI x = nI (10 - x) := pk_sub hx
    rw [ck_inbL (by decide), hM.crops, if_neg (nI_ge (by omega) (by omega))]
    have hr : (rip v c (fun j => !bt (awayW w) j)).isSome = rpe v (fun j => !bt (awayW w) j) c := rfl
    simp only [hni, hri, e69, hwo, h10, Option.bind_some, nI_1, oI_none ok, if0, if1, hr]
    have hbt := bt_nI s hs c (by omega)
    have hz : ∀ z, nI z + 0 = nI z := fun z => by rw [show (0 : Int32) = nI 0 from rfl, nI_add, Nat.add_zero]
    by_cases hs1 : s.testBit c = true
    · rw [if_pos ((bit_test1 (nI s) (by omega)).mpr (hbt.trans hs1))]
      cases hq : rpe v (fun j => !bt (awayW w) j) c
      · simp only [hs1, if_true, Bool.false_eq_true, if_false, Bool.false_and, Nat.add_zero, hz]
        rw [show (0 : Int32) = nI 0 from rfl, pk_mul]
      · simp only [hs1, if_true, Bool.true_eq_false, if_false, Bool.not_true, Bool.and_false, Bool.false_eq_true, Nat.add_zero, hz]
        rw [pk_mul]
    · have hs0 : s.testBit c = false := by simpa using hs1
      rw [if_neg (fun h => hs1 (hbt.symm.trans ((bit_test1 (nI s) (by omega)).mp h)))]
      cases hq : rpe v (fun j => !bt (awayW w) j) c
      · simp only [hs0, if_true, Bool.false_eq_true, if_false, Bool.false_and, Nat.add_zero, hz]
        rw [show (1 : Int32) = nI 1 from rfl, pk_mul]
      · simp only [hs0, if_true, Bool.true_eq_false, if_false, Bool.not_false, Bool.and_true, Bool.false_eq_true]
        rw [pk_mul, nI_add]
theorem shl_c : ∀ k, k ≤ 4 → (1 : Int32) <<< (nI k &&& 31) = nI (2 ^ k) := by decide +kernel
theorem oM {b : BV} {v : LV} {w : SV} (hM : LM (b.2.1 7) v) (ok : OkL v) (hB : SM (b.2.1 8) 0 w) {x V : Nat} (hx : x ≤ 10) (hV : V ≤ 999) (y : Int32) : ∀ (k n s : Nat), s + k = 2 ^ (v.1 4) → k < n → f_6_odds_45 b n (nI x) (nI V) y (nI (sumN (abN (rpe v (fun j => !bt (awayW w) j)) (v.2 7) x V (v.1 4)) s)) (nI (sumN (beN (rpe v (fun j => !bt (awayW w) j)) x (v.1 4)) s)) (nI s) = f_6_odds_223 b 200 y (nI (sumN (abN (rpe v (fun j => !bt (awayW w) j)) (v.2 7) x V (v.1 4)) (2 ^ (v.1 4)))) (nI (sumN (beN (rpe v (fun j => !bt (awayW w) j)) x (v.1 4)) (2 ^ (v.1 4)))) (nI (sumN (abN (rpe v (fun j => !bt (awayW w) j)) (v.2 7) x V (v.1 4)) (2 ^ (v.1 4)))) (nI (sumN (beN (rpe v (fun j => !bt (awayW w) j)) x (v.1 4)) (2 ^ (v.1 4)))) := by
  have h4 := ok.crops
  have h16 : 2 ^ (v.1 4) ≤ 16 := by
    have : ∀ k, k ≤ 4 → 2 ^ k ≤ 16 := by decide
    exact this _ h4
  intro k
  induction k with
  | zero =>
    intro n s hs hn
    obtain ⟨n, rfl⟩ : ∃ m, n = m + 1 := ⟨n - 1, by omega⟩
    obtain rfl : s = 2 ^ (v.1 4) := by omega
    show f_6_odds_45_b b (f_6_odds_45 b n) _ _ _ _ _ _ = _
    unfold f_6_odds_45_b
    rw [ck_inbL (by decide), hM.crops, shl_c _ h4, if_pos (nI_le (Nat.le_refl _) (by omega))]
  | succ k ih =>
    intro n s hs hn
    obtain ⟨n, rfl⟩ : ∃ m, n = m + 1 := ⟨n - 1, by omega⟩
    rw [← ih n (s + 1) (by omega) (by omega), sumN_s, sumN_s]
    show f_6_odds_45_b b (f_6_odds_45 b n) _ _ _ _ _ _ = _
    unfold f_6_odds_45_b
    rw [ck_inbL (by decide), hM.crops, shl_c _ h4, if_neg (nI_ge (by omega) (by omega))]
    have hp := ptM hM ok hB (f_6_odds_45 b n) hx (nI V) y (nI (sumN (abN (rpe v (fun j => !bt (awayW w) j)) (v.2 7) x V (v.1 4)) s)) (nI (sumN (beN (rpe v (fun j => !bt (awayW w) j)) x (v.1 4)) s)) (s := s) (by omega) (v.1 4) 200 0 (by omega) (by omega)
    rw [show nI (ptN (rpe v (fun j => !bt (awayW w) j)) s.testBit x 0) = 1 from rfl, show nI (smN (rpe v (fun j => !bt (awayW w) j)) s.testBit (v.2 7) 0) = 0 from rfl, show nI 0 = (0 : Int32) from rfl] at hp
    rw [hp]
    have hsm : smN (rpe v (fun j => !bt (awayW w) j)) s.testBit (v.2 7) (v.1 4) ≤ 396 := by
      have : ∀ c, c ≤ v.1 4 → smN (rpe v (fun j => !bt (awayW w) j)) s.testBit (v.2 7) c ≤ 99 * c := by
        intro c
        induction c with
        | zero => intro _; exact Nat.zero_le _
        | succ c ih2 =>
          intro hc
          have h1 := ih2 (by omega)
          have h2 := (ok.crop (show c < v.1 4 by omega)).2.2.2
          rw [smN_s]
          split <;> omega
      have := this _ (Nat.le_refl _)
      omega
    unfold abN beN
    by_cases hlt : smN (rpe v (fun j => !bt (awayW w) j)) s.testBit (v.2 7) (v.1 4) < V
    · rw [if_pos (nI_lt hlt (by omega)), if_pos hlt, show (0 : Int32) = nI 0 from rfl, nI_add, nI_add]
    · rw [if_neg (nI_nlt (by omega) (by omega)), if_neg hlt, nI_add, nI_add]
