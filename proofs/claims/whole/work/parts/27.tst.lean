
theorem tst1 (x y : Int32) (h : 0 ≤ x) (h2 : x ≤ 99) (h3 : 0 ≤ y) (h4 : y ≤ 99) : x + y ≤ 198 := by grind
theorem tst2 (x y : Int32) (h : ¬ x < y) : y ≤ x := by grind
theorem tst3 (x y : Int32) (h : ¬ x < y) : y ≤ x := by lia
theorem tst4 (x y z : Int32) (h : 0 ≤ x) (h2 : x ≤ 99) (h3 : 0 ≤ y) (h4 : y ≤ 99) : x + 1000 > y + 0 := by lia
theorem tst5 (x y z : Int32) (h : 0 ≤ x) (h2 : x ≤ 9999) (h3 : 1 ≤ y) (h4 : y ≤ 120) : (x > 9999 - y) ↔ (x + y > 9999) := by grind
theorem tst6 (a : Nat) (h : a < 8) : (10 : Int32) + 8 * nI a + 3 = nI (10 + 8 * a + 3) := by
  rw [show (10 : Int32) = nI 10 from rfl, show (8 : Int32) = nI 8 from rfl, show (3 : Int32) = nI 3 from rfl]
  simp only [nI, ← Int32.ofNat_add, ← Int32.ofNat_mul]
