theorem sw_f1 {w0 w1 w2 w3 : Nat} (p0 : w0 ≤ 8) (p1 : w1 ≤ 8) (p2 : w2 ≤ 8) (p3 : w3 ≤ 8) : (256 * (256 * (256 * w3 + (w2 + w3)) + (w1 + w2)) + (w0 + w1)) / 2 ^ 16 = 256 * w3 + (w2 + w3) := by omega
theorem sw_f2 {w0 w1 w2 w3 : Nat} (p0 : w0 ≤ 8) (p1 : w1 ≤ 8) (p2 : w2 ≤ 8) (p3 : w3 ≤ 8) : (256 * (256 * (256 * w3 + (w2 + w3)) + (w1 + w2)) + (w0 + w1) + (256 * w3 + (w2 + w3))) % 4294967296 % 64 = w3 + w2 + w1 + w0 := by
  have hs : 256 * (256 * (256 * w3 + (w2 + w3)) + (w1 + w2)) + (w0 + w1) + (256 * w3 + (w2 + w3)) = 64 * (4 * (256 * (256 * w3 + (w2 + w3)) + (w1 + w2)) + 4 * w3) + (w3 + w2 + w1 + w0) := by omega
  rw [hs, Nat.mod_eq_of_lt (by omega : _ < 4294967296)]
  omega
set_option maxHeartbeats 4000000 in
theorem swar {x x1 x2 x3 x4 x5 : Int32} (e1 : x1 = x - ((x.toUInt32 >>> ((nI 1).toUInt32 &&& Int32.toUInt32 31)).toInt32 &&& 1431655765))
    (e2 : x2 = (x1 &&& 858993459) + ((x1.toUInt32 >>> ((nI 2).toUInt32 &&& Int32.toUInt32 31)).toInt32 &&& 858993459))
    (e3 : x3 = (x2 + (x2.toUInt32 >>> ((nI 4).toUInt32 &&& Int32.toUInt32 31)).toInt32) &&& 252645135)
    (e4 : x4 = x3 + (x3.toUInt32 >>> ((nI 8).toUInt32 &&& Int32.toUInt32 31)).toInt32)
    (e5 : x5 = x4 + (x4.toUInt32 >>> ((nI 16).toUInt32 &&& Int32.toUInt32 31)).toInt32) : x5 &&& 63 = nI (pc x) := by
  have hX := tN_lt x
  obtain ⟨b0, hb0⟩ : ∃ b, b = tN x % 256 := ⟨_, rfl⟩
  obtain ⟨b1, hb1⟩ : ∃ b, b = tN x / 256 % 256 := ⟨_, rfl⟩
  obtain ⟨b2, hb2⟩ : ∃ b, b = tN x / 65536 % 256 := ⟨_, rfl⟩
  obtain ⟨b3, hb3⟩ : ∃ b, b = tN x / 16777216 := ⟨_, rfl⟩
  have l0 : b0 < 256 := by omega
  have l1 : b1 < 256 := by omega
  have l2 : b2 < 256 := by omega
  have l3 : b3 < 256 := by omega
  have hx : tN x = 256 * (256 * (256 * b3 + b2) + b1) + b0 := by omega
  -- step 1
  have s1 : tN ((x.toUInt32 >>> ((nI 1).toUInt32 &&& Int32.toUInt32 31)).toInt32 &&& 1431655765) = 256 * (256 * (256 * (b3 / 2 &&& 85) + (b2 / 2 &&& 85)) + (b1 / 2 &&& 85)) + (b0 / 2 &&& 85) := by
    rw [tN_and, sw_u x 1 (by omega), show tN (1431655765 : Int32) = 256 * (256 * (256 * 85 + 85) + 85) + 85 from by decide +kernel,
      show tN x / 2 ^ 1 = 256 * (256 * (256 * (b3 / 2) + (b2 / 2 + 128 * (b3 % 2))) + (b1 / 2 + 128 * (b2 % 2))) + (b0 / 2 + 128 * (b1 % 2)) from by omega,
      and4 (by omega) (by omega) (by omega) (by omega) (by omega) (by omega)]
    exact sw_or rfl (sw_k1 b2 l2 _ (by omega)) (sw_k1 b1 l1 _ (by omega)) (sw_k1 b0 l0 _ (by omega))
  have q0 := sw_k1' b0 l0
  have q1 := sw_k1' b1 l1
  have q2 := sw_k1' b2 l2
  have q3 := sw_k1' b3 l3
  have hx1 : tN x1 = 256 * (256 * (256 * sw_1 b3 + sw_1 b2) + sw_1 b1) + sw_1 b0 := by
    rw [e1, tN_sub (by rw [s1, hx]; omega), s1, hx]
    unfold sw_1
    omega
  have m0 := sw_lt1 b0 l0
  have m1 := sw_lt1 b1 l1
  have m2 := sw_lt1 b2 l2
  have m3 := sw_lt1 b3 l3
  -- step 2
  have s2 : tN (x1 &&& 858993459) = 256 * (256 * (256 * (sw_1 b3 &&& 51) + (sw_1 b2 &&& 51)) + (sw_1 b1 &&& 51)) + (sw_1 b0 &&& 51) := by
    rw [tN_and, show tN (858993459 : Int32) = 256 * (256 * (256 * 51 + 51) + 51) + 51 from by decide +kernel, hx1, and4 m0 m1 m2 (by omega) (by omega) (by omega)]
  have s2' : tN ((x1.toUInt32 >>> ((nI 2).toUInt32 &&& Int32.toUInt32 31)).toInt32 &&& 858993459) = 256 * (256 * (256 * (sw_1 b3 / 4 &&& 51) + (sw_1 b2 / 4 &&& 51)) + (sw_1 b1 / 4 &&& 51)) + (sw_1 b0 / 4 &&& 51) := by
    rw [tN_and, sw_u x1 2 (by omega), show tN (858993459 : Int32) = 256 * (256 * (256 * 51 + 51) + 51) + 51 from by decide +kernel,
      show tN x1 / 2 ^ 2 = 256 * (256 * (256 * (sw_1 b3 / 4) + (sw_1 b2 / 4 + 64 * (sw_1 b3 % 4))) + (sw_1 b1 / 4 + 64 * (sw_1 b2 % 4))) + (sw_1 b0 / 4 + 64 * (sw_1 b1 % 4)) from by omega,
      and4 (by omega) (by omega) (by omega) (by omega) (by omega) (by omega)]
    exact sw_or rfl (sw_k2 _ m2 _ (by omega)) (sw_k2 _ m1 _ (by omega)) (sw_k2 _ m0 _ (by omega))
  have n0 := sw_lt2 b0 l0
  have n1 := sw_lt2 b1 l1
  have n2 := sw_lt2 b2 l2
  have n3 := sw_lt2 b3 l3
  have hx2 : tN x2 = 256 * (256 * (256 * sw_2 (sw_1 b3) + sw_2 (sw_1 b2)) + sw_2 (sw_1 b1)) + sw_2 (sw_1 b0) := by
    have g : ∀ y, sw_2 y = (y &&& 51) + (y / 4 &&& 51) := fun _ => rfl
    have g0 := g (sw_1 b0)
    have g1 := g (sw_1 b1)
    have g2 := g (sw_1 b2)
    have g3 := g (sw_1 b3)
    rw [e2, tN_add, s2, s2']
    omega
  have v0 := sw_k2' b0 l0
  have v1 := sw_k2' b1 l1
  have v2 := sw_k2' b2 l2
  have v3 := sw_k2' b3 l3
  have t0 := sw_k3 b0 l0
  have t1 := sw_k3 b1 l1
  have t2 := sw_k3 b2 l2
  have t3 := sw_k3 b3 l3
  revert hx2 n0 n1 n2 n3 v0 v1 v2 v3 t0 t1 t2 t3
  generalize sw_2 (sw_1 b0) = z0
  generalize sw_2 (sw_1 b1) = z1
  generalize sw_2 (sw_1 b2) = z2
  generalize sw_2 (sw_1 b3) = z3
  intro n0 n1 n2 n3 hx2 v0 v1 v2 v3 t0 t1 t2 t3
  -- step 3
  have hx3 : tN x3 = 256 * (256 * (256 * sw_p b3 + sw_p b2) + sw_p b1) + sw_p b0 := by
    have s3 : tN (x2 + (x2.toUInt32 >>> ((nI 4).toUInt32 &&& Int32.toUInt32 31)).toInt32) = 256 * (256 * (256 * (z3 + z3 / 16 + 16 * 0) + (z2 + z2 / 16 + 16 * (z3 % 16))) + (z1 + z1 / 16 + 16 * (z2 % 16))) + (z0 + z0 / 16 + 16 * (z1 % 16)) := by
      rw [tN_add, sw_u x2 4 (by omega), hx2]
      omega
    rw [e3, tN_and, s3, show tN (252645135 : Int32) = 256 * (256 * (256 * 15 + 15) + 15) + 15 from by decide +kernel, and4 (by omega) (by omega) (by omega) (by omega) (by omega) (by omega)]
    exact sw_or (t3 _ (by omega)) (t2 _ (by omega)) (t1 _ (by omega)) (t0 _ (by omega))
  have p0 := sw_p8 b0
  have p1 := sw_p8 b1
  have p2 := sw_p8 b2
  have p3 := sw_p8 b3
  have hpc : pc x = sw_p b3 + sw_p b2 + sw_p b1 + sw_p b0 := sw_pc hb0 hb1 hb2 (by omega)
  rw [hpc]
  generalize sw_p b0 = w0 at *
  generalize sw_p b1 = w1 at *
  generalize sw_p b2 = w2 at *
  generalize sw_p b3 = w3 at *
  have hx4 : tN x4 = 256 * (256 * (256 * w3 + (w2 + w3)) + (w1 + w2)) + (w0 + w1) := by
    rw [e4, tN_add, sw_u x3 8 (by omega), hx3]
    omega
  have hx5 : tN x5 % 64 = w3 + w2 + w1 + w0 := by
    have hd : tN x4 / 2 ^ 16 = 256 * w3 + (w2 + w3) := by rw [hx4]; exact sw_f1 p0 p1 p2 p3
    rw [e5, tN_add, sw_u x4 16 (by omega), hd, hx4]
    exact sw_f2 p0 p1 p2 p3
  apply tN_inj
  rw [tN_and, show tN (63 : Int32) = 2 ^ 6 - 1 from by decide +kernel, Nat.and_two_pow_sub_one_eq_mod, tN_nI (by omega)]
  exact hx5
