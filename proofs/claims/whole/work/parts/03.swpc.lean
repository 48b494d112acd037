theorem sw_sum (a0 a1 a2 a3 a4 a5 a6 a7 b0 b1 b2 b3 b4 b5 b6 b7 c0 c1 c2 c3 c4 c5 c6 c7 d0 d1 d2 d3 d4 d5 d6 d7 : Nat) : 0 + a0 + a1 + a2 + a3 + a4 + a5 + a6 + a7 + b0 + b1 + b2 + b3 + b4 + b5 + b6 + b7 + c0 + c1 + c2 + c3 + c4 + c5 + c6 + c7 + d0 + d1 + d2 + d3 + d4 + d5 + d6 + d7 = (d0 + d1 + d2 + d3 + d4 + d5 + d6 + d7) + (c0 + c1 + c2 + c3 + c4 + c5 + c6 + c7) + (b0 + b1 + b2 + b3 + b4 + b5 + b6 + b7) + (a0 + a1 + a2 + a3 + a4 + a5 + a6 + a7) := by omega
theorem sw_or {a b c d e f g h : Nat} (h1 : a = b) (h2 : c = d) (h3 : e = f) (h4 : g = h) : 256 * (256 * (256 * a + c) + e) + g = 256 * (256 * (256 * b + d) + f) + h := by rw [h1, h2, h3, h4]
theorem sw_u (x : Int32) (k : Nat) (hk : k < 32) : tN (x.toUInt32 >>> ((nI k).toUInt32 &&& Int32.toUInt32 31)).toInt32 = tN x / 2 ^ k := pk_ushr x (nI k) k (s_u k hk)
theorem sw_lt1 : ∀ b, b < 256 → sw_1 b < 256 := fun b h => by unfold sw_1; omega
set_option maxRecDepth 100000 in
theorem sw_lt2 : ∀ b, b < 256 → sw_2 (sw_1 b) ≤ 68 := fun b h => by have := sw_k2' b h; omega
set_option maxHeartbeats 4000000 in
theorem sw_pc {x : Int32} {b0 b1 b2 b3 : Nat} (hb0 : b0 = tN x % 256) (hb1 : b1 = tN x / 256 % 256) (hb2 : b2 = tN x / 65536 % 256) (hb3 : b3 = tN x / 16777216 % 256) : pc x = sw_p b3 + sw_p b2 + sw_p b1 + sw_p b0 := by
  have c0 : ∀ i, i < 8 → tN x / 2 ^ i % 2 = b0 / 2 ^ i % 2 := by
    intro i hi
    rcases (show i = 0 ∨ i = 1 ∨ i = 2 ∨ i = 3 ∨ i = 4 ∨ i = 5 ∨ i = 6 ∨ i = 7 by omega) with rfl | rfl | rfl | rfl | rfl | rfl | rfl | rfl <;> omega
  have c1 : ∀ i, i < 8 → tN x / 2 ^ (8 + i) % 2 = b1 / 2 ^ i % 2 := by
    intro i hi
    rcases (show i = 0 ∨ i = 1 ∨ i = 2 ∨ i = 3 ∨ i = 4 ∨ i = 5 ∨ i = 6 ∨ i = 7 by omega) with rfl | rfl | rfl | rfl | rfl | rfl | rfl | rfl <;> omega
  have c2 : ∀ i, i < 8 → tN x / 2 ^ (16 + i) % 2 = b2 / 2 ^ i % 2 := by
    intro i hi
    rcases (show i = 0 ∨ i = 1 ∨ i = 2 ∨ i = 3 ∨ i = 4 ∨ i = 5 ∨ i = 6 ∨ i = 7 by omega) with rfl | rfl | rfl | rfl | rfl | rfl | rfl | rfl <;> omega
  have c3 : ∀ i, i < 8 → tN x / 2 ^ (24 + i) % 2 = b3 / 2 ^ i % 2 := by
    intro i hi
    rcases (show i = 0 ∨ i = 1 ∨ i = 2 ∨ i = 3 ∨ i = 4 ∨ i = 5 ∨ i = 6 ∨ i = 7 by omega) with rfl | rfl | rfl | rfl | rfl | rfl | rfl | rfl <;> omega
  have k0 : ∀ b, sw_p b = b / 2 ^ 0 % 2 + b / 2 ^ 1 % 2 + b / 2 ^ 2 % 2 + b / 2 ^ 3 % 2 + b / 2 ^ 4 % 2 + b / 2 ^ 5 % 2 + b / 2 ^ 6 % 2 + b / 2 ^ 7 % 2 := fun b => by unfold sw_p; omega
  have hc : pc x = 0 + tN x / 2 ^ 0 % 2 + tN x / 2 ^ 1 % 2 + tN x / 2 ^ 2 % 2 + tN x / 2 ^ 3 % 2 + tN x / 2 ^ 4 % 2 + tN x / 2 ^ 5 % 2 + tN x / 2 ^ 6 % 2 + tN x / 2 ^ 7 % 2
      + tN x / 2 ^ (8 + 0) % 2 + tN x / 2 ^ (8 + 1) % 2 + tN x / 2 ^ (8 + 2) % 2 + tN x / 2 ^ (8 + 3) % 2 + tN x / 2 ^ (8 + 4) % 2 + tN x / 2 ^ (8 + 5) % 2 + tN x / 2 ^ (8 + 6) % 2 + tN x / 2 ^ (8 + 7) % 2
      + tN x / 2 ^ (16 + 0) % 2 + tN x / 2 ^ (16 + 1) % 2 + tN x / 2 ^ (16 + 2) % 2 + tN x / 2 ^ (16 + 3) % 2 + tN x / 2 ^ (16 + 4) % 2 + tN x / 2 ^ (16 + 5) % 2 + tN x / 2 ^ (16 + 6) % 2 + tN x / 2 ^ (16 + 7) % 2
      + tN x / 2 ^ (24 + 0) % 2 + tN x / 2 ^ (24 + 1) % 2 + tN x / 2 ^ (24 + 2) % 2 + tN x / 2 ^ (24 + 3) % 2 + tN x / 2 ^ (24 + 4) % 2 + tN x / 2 ^ (24 + 5) % 2 + tN x / 2 ^ (24 + 6) % 2 + tN x / 2 ^ (24 + 7) % 2 := by
    rw [← bt_nat x 0, ← bt_nat x 1, ← bt_nat x 2, ← bt_nat x 3, ← bt_nat x 4, ← bt_nat x 5, ← bt_nat x 6, ← bt_nat x 7, ← bt_nat x (8 + 0), ← bt_nat x (8 + 1), ← bt_nat x (8 + 2), ← bt_nat x (8 + 3), ← bt_nat x (8 + 4), ← bt_nat x (8 + 5), ← bt_nat x (8 + 6), ← bt_nat x (8 + 7), ← bt_nat x (16 + 0), ← bt_nat x (16 + 1), ← bt_nat x (16 + 2), ← bt_nat x (16 + 3), ← bt_nat x (16 + 4), ← bt_nat x (16 + 5), ← bt_nat x (16 + 6), ← bt_nat x (16 + 7), ← bt_nat x (24 + 0), ← bt_nat x (24 + 1), ← bt_nat x (24 + 2), ← bt_nat x (24 + 3), ← bt_nat x (24 + 4), ← bt_nat x (24 + 5), ← bt_nat x (24 + 6), ← bt_nat x (24 + 7)]
    unfold pc
    simp only [cn]
  rw [hc, c0 0 (by omega), c0 1 (by omega), c0 2 (by omega), c0 3 (by omega), c0 4 (by omega), c0 5 (by omega), c0 6 (by omega), c0 7 (by omega), c1 0 (by omega), c1 1 (by omega), c1 2 (by omega), c1 3 (by omega), c1 4 (by omega), c1 5 (by omega), c1 6 (by omega), c1 7 (by omega), c2 0 (by omega), c2 1 (by omega), c2 2 (by omega), c2 3 (by omega), c2 4 (by omega), c2 5 (by omega), c2 6 (by omega), c2 7 (by omega), c3 0 (by omega), c3 1 (by omega), c3 2 (by omega), c3 3 (by omega), c3 4 (by omega), c3 5 (by omega), c3 6 (by omega), c3 7 (by omega), k0 b0, k0 b1, k0 b2, k0 b3]
  exact sw_sum _ _ _ _ _ _ _ _ _ _ _ _ _ _ _ _ _ _ _ _ _ _ _ _ _ _ _ _ _ _ _ _
