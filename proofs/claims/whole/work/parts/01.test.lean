theorem tt_1 (a b : Int32) (h : a < b) (h2 : b ≤ 100) (h3 : 0 ≤ a) : a + 1 ≤ b := by grind
theorem tt_2 (a : Int32) (h : 0 ≤ a) (h2 : a < 24) : 6 * a + 200 < 3464 := by grind
theorem tt_3 (a : Int) (h : 0 ≤ a) (h2 : a < 24) : (a + 5).bmod (2^32) = a + 5 := by omega
theorem tt_4 (a b : Int) (p : a < b) : (if a < b then b else a) = b := by omega
theorem tt_5 (a : Int32) (h : 0 ≤ a) (h2 : a < 24) : (a + 5).toInt = a.toInt + 5 := by grind
theorem tt_6 (k : Nat) (h2 : k < 24) : (nI k + 5).toInt = k + 5 := by
  unfold nI
  grind
theorem tt_7 (a b : Int32) (h : a.toInt < b.toInt) : ¬ b ≤ a := by grind
theorem tt_8 (x : Int32) (h : 0 ≤ x) (h2 : x < 2400) : x / 1000 ≤ 2 := by grind
theorem tt_9 (a b c : Int32) (h : a < b) (h2 : b ≤ 100) (h3 : 0 ≤ a) (hc : c = a + 1) : c ≤ b := by lia
