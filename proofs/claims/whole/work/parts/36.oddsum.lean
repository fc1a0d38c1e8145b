-- odds: the two sums are one, and so are the divisors
theorem tb_0_0 : Nat.testBit 0 0 = false := by decide
theorem tb_0_1 : Nat.testBit 0 1 = false := by decide
theorem tb_0_2 : Nat.testBit 0 2 = false := by decide
theorem tb_0_3 : Nat.testBit 0 3 = false := by decide
theorem tb_1_0 : Nat.testBit 1 0 = true := by decide
theorem tb_1_1 : Nat.testBit 1 1 = false := by decide
theorem tb_1_2 : Nat.testBit 1 2 = false := by decide
theorem tb_1_3 : Nat.testBit 1 3 = false := by decide
theorem tb_2_0 : Nat.testBit 2 0 = false := by decide
theorem tb_2_1 : Nat.testBit 2 1 = true := by decide
theorem tb_2_2 : Nat.testBit 2 2 = false := by decide
theorem tb_2_3 : Nat.testBit 2 3 = false := by decide
theorem tb_3_0 : Nat.testBit 3 0 = true := by decide
theorem tb_3_1 : Nat.testBit 3 1 = true := by decide
theorem tb_3_2 : Nat.testBit 3 2 = false := by decide
theorem tb_3_3 : Nat.testBit 3 3 = false := by decide
theorem tb_4_0 : Nat.testBit 4 0 = false := by decide
theorem tb_4_1 : Nat.testBit 4 1 = false := by decide
theorem tb_4_2 : Nat.testBit 4 2 = true := by decide
theorem tb_4_3 : Nat.testBit 4 3 = false := by decide
theorem tb_5_0 : Nat.testBit 5 0 = true := by decide
theorem tb_5_1 : Nat.testBit 5 1 = false := by decide
theorem tb_5_2 : Nat.testBit 5 2 = true := by decide
theorem tb_5_3 : Nat.testBit 5 3 = false := by decide
theorem tb_6_0 : Nat.testBit 6 0 = false := by decide
theorem tb_6_1 : Nat.testBit 6 1 = true := by decide
theorem tb_6_2 : Nat.testBit 6 2 = true := by decide
theorem tb_6_3 : Nat.testBit 6 3 = false := by decide
theorem tb_7_0 : Nat.testBit 7 0 = true := by decide
theorem tb_7_1 : Nat.testBit 7 1 = true := by decide
theorem tb_7_2 : Nat.testBit 7 2 = true := by decide
theorem tb_7_3 : Nat.testBit 7 3 = false := by decide
theorem tb_8_0 : Nat.testBit 8 0 = false := by decide
theorem tb_8_1 : Nat.testBit 8 1 = false := by decide
theorem tb_8_2 : Nat.testBit 8 2 = false := by decide
theorem tb_8_3 : Nat.testBit 8 3 = true := by decide
theorem tb_9_0 : Nat.testBit 9 0 = true := by decide
theorem tb_9_1 : Nat.testBit 9 1 = false := by decide
theorem tb_9_2 : Nat.testBit 9 2 = false := by decide
theorem tb_9_3 : Nat.testBit 9 3 = true := by decide
theorem tb_10_0 : Nat.testBit 10 0 = false := by decide
theorem tb_10_1 : Nat.testBit 10 1 = true := by decide
theorem tb_10_2 : Nat.testBit 10 2 = false := by decide
theorem tb_10_3 : Nat.testBit 10 3 = true := by decide
theorem tb_11_0 : Nat.testBit 11 0 = true := by decide
theorem tb_11_1 : Nat.testBit 11 1 = true := by decide
theorem tb_11_2 : Nat.testBit 11 2 = false := by decide
theorem tb_11_3 : Nat.testBit 11 3 = true := by decide
theorem tb_12_0 : Nat.testBit 12 0 = false := by decide
theorem tb_12_1 : Nat.testBit 12 1 = false := by decide
theorem tb_12_2 : Nat.testBit 12 2 = true := by decide
theorem tb_12_3 : Nat.testBit 12 3 = true := by decide
theorem tb_13_0 : Nat.testBit 13 0 = true := by decide
theorem tb_13_1 : Nat.testBit 13 1 = false := by decide
theorem tb_13_2 : Nat.testBit 13 2 = true := by decide
theorem tb_13_3 : Nat.testBit 13 3 = true := by decide
theorem tb_14_0 : Nat.testBit 14 0 = false := by decide
theorem tb_14_1 : Nat.testBit 14 1 = true := by decide
theorem tb_14_2 : Nat.testBit 14 2 = true := by decide
theorem tb_14_3 : Nat.testBit 14 3 = true := by decide
theorem tb_15_0 : Nat.testBit 15 0 = true := by decide
theorem tb_15_1 : Nat.testBit 15 1 = true := by decide
theorem tb_15_2 : Nat.testBit 15 2 = true := by decide
theorem tb_15_3 : Nat.testBit 15 3 = true := by decide
theorem sum16 (f : Nat → Nat) : sumN f 16 = f 0 + f 1 + f 2 + f 3 + f 4 + f 5 + f 6 + f 7 + f 8 + f 9 + f 10 + f 11 + f 12 + f 13 + f 14 + f 15 := by
  simp only [sumN, Nat.zero_add]
theorem sum8 (f : Nat → Nat) : sumN f 8 = f 0 + f 1 + f 2 + f 3 + f 4 + f 5 + f 6 + f 7 := by
  simp only [sumN, Nat.zero_add]
theorem sum4 (f : Nat → Nat) : sumN f 4 = f 0 + f 1 + f 2 + f 3 := by
  simp only [sumN, Nat.zero_add]
theorem sum2 (f : Nat → Nat) : sumN f 2 = f 0 + f 1 := by
  simp only [sumN, Nat.zero_add]
theorem sum1 (f : Nat → Nat) : sumN f 1 = f 0 := by
  simp only [sumN, Nat.zero_add]
theorem od_lo_0 (r q : Nat → Bool) (x : Nat) (h0 : r 0 = false) (h1 : r 1 = false) (h2 : r 2 = false) (h3 : r 3 = false) : sumN (loN r x) 16 = sumN (beN q x 0) 1 := by
  rw [sum16, sum1]
  unfold loN beN subB
  simp only [h0, h1, h2, h3, chN_s, ptN_s, smN_s, sumN_s, tb_0_0, tb_0_1, tb_0_2, tb_0_3, tb_1_0, tb_1_1, tb_1_2, tb_1_3, tb_2_0, tb_2_1, tb_2_2, tb_2_3, tb_3_0, tb_3_1, tb_3_2, tb_3_3, tb_4_0, tb_4_1, tb_4_2, tb_4_3, tb_5_0, tb_5_1, tb_5_2, tb_5_3, tb_6_0, tb_6_1, tb_6_2, tb_6_3, tb_7_0, tb_7_1, tb_7_2, tb_7_3, tb_8_0, tb_8_1, tb_8_2, tb_8_3, tb_9_0, tb_9_1, tb_9_2, tb_9_3, tb_10_0, tb_10_1, tb_10_2, tb_10_3, tb_11_0, tb_11_1, tb_11_2, tb_11_3, tb_12_0, tb_12_1, tb_12_2, tb_12_3, tb_13_0, tb_13_1, tb_13_2, tb_13_3, tb_14_0, tb_14_1, tb_14_2, tb_14_3, tb_15_0, tb_15_1, tb_15_2, tb_15_3]
  simp [chN, ptN, smN, sumN]
theorem od_up_0 (r q : Nat → Bool) (x : Nat) (wo : Nat → Nat) (V : Nat) (h0 : r 0 = false) (h1 : r 1 = false) (h2 : r 2 = false) (h3 : r 3 = false) : sumN (upN r wo x V 0) 16 = sumN (abN q wo x V 0) 1 := by
  rw [sum16, sum1]
  unfold upN abN wsN subB
  simp only [h0, h1, h2, h3, chN_s, ptN_s, smN_s, sumN_s, tb_0_0, tb_0_1, tb_0_2, tb_0_3, tb_1_0, tb_1_1, tb_1_2, tb_1_3, tb_2_0, tb_2_1, tb_2_2, tb_2_3, tb_3_0, tb_3_1, tb_3_2, tb_3_3, tb_4_0, tb_4_1, tb_4_2, tb_4_3, tb_5_0, tb_5_1, tb_5_2, tb_5_3, tb_6_0, tb_6_1, tb_6_2, tb_6_3, tb_7_0, tb_7_1, tb_7_2, tb_7_3, tb_8_0, tb_8_1, tb_8_2, tb_8_3, tb_9_0, tb_9_1, tb_9_2, tb_9_3, tb_10_0, tb_10_1, tb_10_2, tb_10_3, tb_11_0, tb_11_1, tb_11_2, tb_11_3, tb_12_0, tb_12_1, tb_12_2, tb_12_3, tb_13_0, tb_13_1, tb_13_2, tb_13_3, tb_14_0, tb_14_1, tb_14_2, tb_14_3, tb_15_0, tb_15_1, tb_15_2, tb_15_3]
  by_cases hV : 0 < V
  · simp [chN, ptN, smN, sumN, hV]
  · simp [chN, ptN, smN, sumN, hV]
theorem od_lo_1 (r q : Nat → Bool) (x : Nat) (h0 : r 0 = q 0) (h1 : r 1 = false) (h2 : r 2 = false) (h3 : r 3 = false) : sumN (loN r x) 16 = sumN (beN q x 1) 2 := by
  rw [sum16, sum2]
  unfold loN beN subB
  simp only [h0, h1, h2, h3, chN_s, ptN_s, smN_s, sumN_s, tb_0_0, tb_0_1, tb_0_2, tb_0_3, tb_1_0, tb_1_1, tb_1_2, tb_1_3, tb_2_0, tb_2_1, tb_2_2, tb_2_3, tb_3_0, tb_3_1, tb_3_2, tb_3_3, tb_4_0, tb_4_1, tb_4_2, tb_4_3, tb_5_0, tb_5_1, tb_5_2, tb_5_3, tb_6_0, tb_6_1, tb_6_2, tb_6_3, tb_7_0, tb_7_1, tb_7_2, tb_7_3, tb_8_0, tb_8_1, tb_8_2, tb_8_3, tb_9_0, tb_9_1, tb_9_2, tb_9_3, tb_10_0, tb_10_1, tb_10_2, tb_10_3, tb_11_0, tb_11_1, tb_11_2, tb_11_3, tb_12_0, tb_12_1, tb_12_2, tb_12_3, tb_13_0, tb_13_1, tb_13_2, tb_13_3, tb_14_0, tb_14_1, tb_14_2, tb_14_3, tb_15_0, tb_15_1, tb_15_2, tb_15_3]
  generalize q 0 = p0
  cases p0 <;>
  · simp [chN, ptN, smN, sumN]
    try ac_rfl
theorem od_up_1 (r q : Nat → Bool) (x : Nat) (wo : Nat → Nat) (V : Nat) (h0 : r 0 = q 0) (h1 : r 1 = false) (h2 : r 2 = false) (h3 : r 3 = false) : sumN (upN r wo x V 1) 16 = sumN (abN q wo x V 1) 2 := by
  rw [sum16, sum2]
  unfold upN abN wsN subB
  simp only [h0, h1, h2, h3, chN_s, ptN_s, smN_s, sumN_s, tb_0_0, tb_0_1, tb_0_2, tb_0_3, tb_1_0, tb_1_1, tb_1_2, tb_1_3, tb_2_0, tb_2_1, tb_2_2, tb_2_3, tb_3_0, tb_3_1, tb_3_2, tb_3_3, tb_4_0, tb_4_1, tb_4_2, tb_4_3, tb_5_0, tb_5_1, tb_5_2, tb_5_3, tb_6_0, tb_6_1, tb_6_2, tb_6_3, tb_7_0, tb_7_1, tb_7_2, tb_7_3, tb_8_0, tb_8_1, tb_8_2, tb_8_3, tb_9_0, tb_9_1, tb_9_2, tb_9_3, tb_10_0, tb_10_1, tb_10_2, tb_10_3, tb_11_0, tb_11_1, tb_11_2, tb_11_3, tb_12_0, tb_12_1, tb_12_2, tb_12_3, tb_13_0, tb_13_1, tb_13_2, tb_13_3, tb_14_0, tb_14_1, tb_14_2, tb_14_3, tb_15_0, tb_15_1, tb_15_2, tb_15_3]
  generalize q 0 = p0
  cases p0 <;>
  · simp [chN, ptN, smN, sumN]
    try ac_rfl
theorem od_lo_2 (r q : Nat → Bool) (x : Nat) (h0 : r 0 = q 0) (h1 : r 1 = q 1) (h2 : r 2 = false) (h3 : r 3 = false) : sumN (loN r x) 16 = sumN (beN q x 2) 4 := by
  rw [sum16, sum4]
  unfold loN beN subB
  simp only [h0, h1, h2, h3, chN_s, ptN_s, smN_s, sumN_s, tb_0_0, tb_0_1, tb_0_2, tb_0_3, tb_1_0, tb_1_1, tb_1_2, tb_1_3, tb_2_0, tb_2_1, tb_2_2, tb_2_3, tb_3_0, tb_3_1, tb_3_2, tb_3_3, tb_4_0, tb_4_1, tb_4_2, tb_4_3, tb_5_0, tb_5_1, tb_5_2, tb_5_3, tb_6_0, tb_6_1, tb_6_2, tb_6_3, tb_7_0, tb_7_1, tb_7_2, tb_7_3, tb_8_0, tb_8_1, tb_8_2, tb_8_3, tb_9_0, tb_9_1, tb_9_2, tb_9_3, tb_10_0, tb_10_1, tb_10_2, tb_10_3, tb_11_0, tb_11_1, tb_11_2, tb_11_3, tb_12_0, tb_12_1, tb_12_2, tb_12_3, tb_13_0, tb_13_1, tb_13_2, tb_13_3, tb_14_0, tb_14_1, tb_14_2, tb_14_3, tb_15_0, tb_15_1, tb_15_2, tb_15_3]
  generalize q 0 = p0
  generalize q 1 = p1
  cases p0 <;> cases p1 <;>
  · simp [chN, ptN, smN, sumN]
    try ac_rfl
theorem od_up_2 (r q : Nat → Bool) (x : Nat) (wo : Nat → Nat) (V : Nat) (h0 : r 0 = q 0) (h1 : r 1 = q 1) (h2 : r 2 = false) (h3 : r 3 = false) : sumN (upN r wo x V 2) 16 = sumN (abN q wo x V 2) 4 := by
  rw [sum16, sum4]
  unfold upN abN wsN subB
  simp only [h0, h1, h2, h3, chN_s, ptN_s, smN_s, sumN_s, tb_0_0, tb_0_1, tb_0_2, tb_0_3, tb_1_0, tb_1_1, tb_1_2, tb_1_3, tb_2_0, tb_2_1, tb_2_2, tb_2_3, tb_3_0, tb_3_1, tb_3_2, tb_3_3, tb_4_0, tb_4_1, tb_4_2, tb_4_3, tb_5_0, tb_5_1, tb_5_2, tb_5_3, tb_6_0, tb_6_1, tb_6_2, tb_6_3, tb_7_0, tb_7_1, tb_7_2, tb_7_3, tb_8_0, tb_8_1, tb_8_2, tb_8_3, tb_9_0, tb_9_1, tb_9_2, tb_9_3, tb_10_0, tb_10_1, tb_10_2, tb_10_3, tb_11_0, tb_11_1, tb_11_2, tb_11_3, tb_12_0, tb_12_1, tb_12_2, tb_12_3, tb_13_0, tb_13_1, tb_13_2, tb_13_3, tb_14_0, tb_14_1, tb_14_2, tb_14_3, tb_15_0, tb_15_1, tb_15_2, tb_15_3]
  generalize q 0 = p0
  generalize q 1 = p1
  cases p0 <;> cases p1 <;>
  · simp [chN, ptN, smN, sumN]
    try ac_rfl
theorem od_lo_3 (r q : Nat → Bool) (x : Nat) (h0 : r 0 = q 0) (h1 : r 1 = q 1) (h2 : r 2 = q 2) (h3 : r 3 = false) : sumN (loN r x) 16 = sumN (beN q x 3) 8 := by
  rw [sum16, sum8]
  unfold loN beN subB
  simp only [h0, h1, h2, h3, chN_s, ptN_s, smN_s, sumN_s, tb_0_0, tb_0_1, tb_0_2, tb_0_3, tb_1_0, tb_1_1, tb_1_2, tb_1_3, tb_2_0, tb_2_1, tb_2_2, tb_2_3, tb_3_0, tb_3_1, tb_3_2, tb_3_3, tb_4_0, tb_4_1, tb_4_2, tb_4_3, tb_5_0, tb_5_1, tb_5_2, tb_5_3, tb_6_0, tb_6_1, tb_6_2, tb_6_3, tb_7_0, tb_7_1, tb_7_2, tb_7_3, tb_8_0, tb_8_1, tb_8_2, tb_8_3, tb_9_0, tb_9_1, tb_9_2, tb_9_3, tb_10_0, tb_10_1, tb_10_2, tb_10_3, tb_11_0, tb_11_1, tb_11_2, tb_11_3, tb_12_0, tb_12_1, tb_12_2, tb_12_3, tb_13_0, tb_13_1, tb_13_2, tb_13_3, tb_14_0, tb_14_1, tb_14_2, tb_14_3, tb_15_0, tb_15_1, tb_15_2, tb_15_3]
  generalize q 0 = p0
  generalize q 1 = p1
  generalize q 2 = p2
  cases p0 <;> cases p1 <;> cases p2 <;>
  · simp [chN, ptN, smN, sumN]
    try ac_rfl
theorem od_up_3 (r q : Nat → Bool) (x : Nat) (wo : Nat → Nat) (V : Nat) (h0 : r 0 = q 0) (h1 : r 1 = q 1) (h2 : r 2 = q 2) (h3 : r 3 = false) : sumN (upN r wo x V 3) 16 = sumN (abN q wo x V 3) 8 := by
  rw [sum16, sum8]
  unfold upN abN wsN subB
  simp only [h0, h1, h2, h3, chN_s, ptN_s, smN_s, sumN_s, tb_0_0, tb_0_1, tb_0_2, tb_0_3, tb_1_0, tb_1_1, tb_1_2, tb_1_3, tb_2_0, tb_2_1, tb_2_2, tb_2_3, tb_3_0, tb_3_1, tb_3_2, tb_3_3, tb_4_0, tb_4_1, tb_4_2, tb_4_3, tb_5_0, tb_5_1, tb_5_2, tb_5_3, tb_6_0, tb_6_1, tb_6_2, tb_6_3, tb_7_0, tb_7_1, tb_7_2, tb_7_3, tb_8_0, tb_8_1, tb_8_2, tb_8_3, tb_9_0, tb_9_1, tb_9_2, tb_9_3, tb_10_0, tb_10_1, tb_10_2, tb_10_3, tb_11_0, tb_11_1, tb_11_2, tb_11_3, tb_12_0, tb_12_1, tb_12_2, tb_12_3, tb_13_0, tb_13_1, tb_13_2, tb_13_3, tb_14_0, tb_14_1, tb_14_2, tb_14_3, tb_15_0, tb_15_1, tb_15_2, tb_15_3]
  generalize q 0 = p0
  generalize q 1 = p1
  generalize q 2 = p2
  cases p0 <;> cases p1 <;> cases p2 <;>
  · simp [chN, ptN, smN, sumN]
    try ac_rfl
theorem od_lo_4 (r q : Nat → Bool) (x : Nat) (h0 : r 0 = q 0) (h1 : r 1 = q 1) (h2 : r 2 = q 2) (h3 : r 3 = q 3) : sumN (loN r x) 16 = sumN (beN q x 4) 16 := by
  rw [sum16, sum16]
  unfold loN beN subB
  simp only [h0, h1, h2, h3, chN_s, ptN_s, smN_s, sumN_s, tb_0_0, tb_0_1, tb_0_2, tb_0_3, tb_1_0, tb_1_1, tb_1_2, tb_1_3, tb_2_0, tb_2_1, tb_2_2, tb_2_3, tb_3_0, tb_3_1, tb_3_2, tb_3_3, tb_4_0, tb_4_1, tb_4_2, tb_4_3, tb_5_0, tb_5_1, tb_5_2, tb_5_3, tb_6_0, tb_6_1, tb_6_2, tb_6_3, tb_7_0, tb_7_1, tb_7_2, tb_7_3, tb_8_0, tb_8_1, tb_8_2, tb_8_3, tb_9_0, tb_9_1, tb_9_2, tb_9_3, tb_10_0, tb_10_1, tb_10_2, tb_10_3, tb_11_0, tb_11_1, tb_11_2, tb_11_3, tb_12_0, tb_12_1, tb_12_2, tb_12_3, tb_13_0, tb_13_1, tb_13_2, tb_13_3, tb_14_0, tb_14_1, tb_14_2, tb_14_3, tb_15_0, tb_15_1, tb_15_2, tb_15_3]
  generalize q 0 = p0
  generalize q 1 = p1
  generalize q 2 = p2
  generalize q 3 = p3
  cases p0 <;> cases p1 <;> cases p2 <;> cases p3 <;>
  · simp [chN, ptN, smN, sumN]
    try ac_rfl
theorem od_up_4 (r q : Nat → Bool) (x : Nat) (wo : Nat → Nat) (V : Nat) (h0 : r 0 = q 0) (h1 : r 1 = q 1) (h2 : r 2 = q 2) (h3 : r 3 = q 3) : sumN (upN r wo x V 4) 16 = sumN (abN q wo x V 4) 16 := by
  rw [sum16, sum16]
  unfold upN abN wsN subB
  simp only [h0, h1, h2, h3, chN_s, ptN_s, smN_s, sumN_s, tb_0_0, tb_0_1, tb_0_2, tb_0_3, tb_1_0, tb_1_1, tb_1_2, tb_1_3, tb_2_0, tb_2_1, tb_2_2, tb_2_3, tb_3_0, tb_3_1, tb_3_2, tb_3_3, tb_4_0, tb_4_1, tb_4_2, tb_4_3, tb_5_0, tb_5_1, tb_5_2, tb_5_3, tb_6_0, tb_6_1, tb_6_2, tb_6_3, tb_7_0, tb_7_1, tb_7_2, tb_7_3, tb_8_0, tb_8_1, tb_8_2, tb_8_3, tb_9_0, tb_9_1, tb_9_2, tb_9_3, tb_10_0, tb_10_1, tb_10_2, tb_10_3, tb_11_0, tb_11_1, tb_11_2, tb_11_3, tb_12_0, tb_12_1, tb_12_2, tb_12_3, tb_13_0, tb_13_1, tb_13_2, tb_13_3, tb_14_0, tb_14_1, tb_14_2, tb_14_3, tb_15_0, tb_15_1, tb_15_2, tb_15_3]
  generalize q 0 = p0
  generalize q 1 = p1
  generalize q 2 = p2
  generalize q 3 = p3
  cases p0 <;> cases p1 <;> cases p2 <;> cases p3 <;>
  · simp [chN, ptN, smN, sumN]
    try ac_rfl
theorem od_lo (r q : Nat → Bool) (x : Nat) {k : Nat} (hk : k ≤ 4) (h : ∀ c, c < 4 → r c = (decide (c < k) && q c)) : sumN (loN r x) 16 = sumN (beN q x k) (2 ^ k) := by
  have h0 := h 0 (by omega)
  have h1 := h 1 (by omega)
  have h2 := h 2 (by omega)
  have h3 := h 3 (by omega)
  rcases (show k = 0 ∨ k = 1 ∨ k = 2 ∨ k = 3 ∨ k = 4 by omega) with rfl | rfl | rfl | rfl | rfl
  · exact od_lo_0 r q x h0 h1 h2 h3
  · exact od_lo_1 r q x h0 h1 h2 h3
  · exact od_lo_2 r q x h0 h1 h2 h3
  · exact od_lo_3 r q x h0 h1 h2 h3
  · exact od_lo_4 r q x h0 h1 h2 h3
theorem od_up (r q : Nat → Bool) (x : Nat) (wo : Nat → Nat) (V : Nat) {k : Nat} (hk : k ≤ 4) (h : ∀ c, c < 4 → r c = (decide (c < k) && q c)) : sumN (upN r wo x V k) 16 = sumN (abN q wo x V k) (2 ^ k) := by
  have h0 := h 0 (by omega)
  have h1 := h 1 (by omega)
  have h2 := h 2 (by omega)
  have h3 := h 3 (by omega)
  rcases (show k = 0 ∨ k = 1 ∨ k = 2 ∨ k = 3 ∨ k = 4 by omega) with rfl | rfl | rfl | rfl | rfl
  · exact od_up_0 r q x wo V h0 h1 h2 h3
  · exact od_up_1 r q x wo V h0 h1 h2 h3
  · exact od_up_2 r q x wo V h0 h1 h2 h3
  · exact od_up_3 r q x wo V h0 h1 h2 h3
  · exact od_up_4 r q x wo V h0 h1 h2 h3
