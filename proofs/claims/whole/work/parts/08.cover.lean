theorem cvS_lt (z : Nat) : cvS z < 4294967296 := by
  unfold cvS
  exact Nat.mod_lt _ (by omega)
theorem cv_j : jA 11 = 2088640513 ∧ jC 11 = 1506093056 := by decide +kernel
theorem cv_st (y : Nat) : ∀ t (s : Int32) z, z < 4294967296 → tN s = (z + 524288 * y) % 4294967296 → tN (st s (2048 * t)) = (cvI cvS z t + 524288 * y) % 4294967296 := by
  intro t
  induction t with
  | zero => intro s z _ h; rw [cvI_0]; exact h
  | succ t ih =>
    intro s z hz h
    rw [show 2048 * (t + 1) = 2048 + 2048 * t by omega, st_add, cvI_succ]
    refine ih (st s 2048) (cvS z) (cvS_lt z) ?_
    have hj : tN (st s 2048) = _ := jump 11 s
    rw [hj, cv_j.1, cv_j.2, h]
    unfold cvS
    omega
theorem cv_lt (z : Nat) (h : z < 4294967296) : ∀ t, cvI cvS z t < 4294967296 := by
  intro t
  induction t generalizing z with
  | zero => rw [cvI_0]; exact h
  | succ t ih => rw [cvI_succ]; exact ih (cvS z) (cvS_lt z)
theorem cv_r {a c K r : Nat} (hK : 1 ≤ K) (hr : r < K) (h : a % K = (r + K * c - c) % K) : (a + c) % K = r := by
  have h1 : c ≤ K * c := Nat.le_mul_of_pos_left c hK
  rw [Nat.add_mod, h, ← Nat.add_mod, show r + K * c - c + c = r + K * c by omega, Nat.add_mul_mod_self_left, Nat.mod_eq_of_lt hr]
/-- from every state each number below K is drawn (modulo K) within 999999 draws -/
theorem cover {K : Nat} (h1 : 1 ≤ K) (h2 : K ≤ 32) (s : Int32) : ∀ r, r < K → ∃ j, 1 ≤ j ∧ j ≤ 999999 ∧ dr (st s j) % K = r := by
  intro r hr
  obtain ⟨j0, hj0, he⟩ := reach 16 (Nat.le_refl 16) s
  obtain ⟨x, hx⟩ : ∃ x, x = tN (st s j0) := ⟨_, rfl⟩
  have hxl := tN_lt (st s j0)
  rw [← hx] at he hxl
  obtain ⟨y, hy⟩ : ∃ y, y = x / 524288 := ⟨_, rfl⟩
  obtain ⟨k, hk⟩ : ∃ k, k = x / 65536 % 8 := ⟨_, rfl⟩
  have hz : tN (st s j0) = (k * 65536 + 1 + 524288 * y) % 4294967296 := by rw [← hx]; omega
  have hkl : k < 8 := by omega
  have hyl : y < 8192 := by omega
  have hst := fun t => cv_st y t (st s j0) (k * 65536 + 1) (by omega) hz
  have hclt := cv_lt (k * 65536 + 1) (by omega)
  have fin : ∀ t, t ≤ 455 → 1 ≤ t → dr (st (st s j0) (2048 * t)) % K = r → ∃ j, 1 ≤ j ∧ j ≤ 999999 ∧ dr (st s j) % K = r := by
    intro t ht ht1 h
    exact ⟨j0 + 2048 * t, by omega, by omega, by rw [st_add]; exact h⟩
  rcases Nat.lt_or_ge y 4096 with hy4 | hy4
  · have hc := cv_lo k hkl K (by omega)
    rw [if_neg (by omega)] at hc
    have hb : (cvL cvS K 455 (k * 65536 + 1) 0).testBit ((r + K * (8 * y) - 8 * y) % K) = true := by
      rw [hc, Nat.testBit_two_pow_sub_one]
      exact decide_eq_true (Nat.mod_lt _ h1)
    rcases cvL_s _ _ _ hb with h | ⟨t, a1, a2, a3, a4⟩
    · rw [Nat.zero_testBit] at h; cases h
    · refine fin t a2 a1 ?_
      have hl := hclt t
      have hd : dr (st (st s j0) (2048 * t)) = cvI cvS (k * 65536 + 1) t / 65536 + 8 * y := by
        unfold dr
        rw [hst t]
        omega
      rw [hd]
      exact cv_r h1 hr a4
  · have hc := cv_hi k hkl K (by omega)
    rw [if_neg (by omega)] at hc
    have hb : (cvH cvS K 455 (k * 65536 + 1) 0).testBit ((r + K * (8 * y - 32768) - (8 * y - 32768)) % K) = true := by
      rw [hc, Nat.testBit_two_pow_sub_one]
      exact decide_eq_true (Nat.mod_lt _ h1)
    rcases cvH_s _ _ _ hb with h | ⟨t, a1, a2, a3, a4⟩
    · rw [Nat.zero_testBit] at h; cases h
    · refine fin t a2 a1 ?_
      have hl := hclt t
      have hd : dr (st (st s j0) (2048 * t)) = cvI cvS (k * 65536 + 1) t / 65536 - 32768 + (8 * y - 32768) := by
        unfold dr
        rw [hst t]
        omega
      rw [hd]
      exact cv_r h1 hr a4
theorem fl_full {K : Nat} (h1 : 1 ≤ K) (h2 : K ≤ 32) (s : Int32) : pc (fl K s 999999) = K := by
  have hall : ∀ i, i < K → bt (fl K s 999999) i = true := by
    intro i hi
    obtain ⟨j, a, b, c⟩ := cover h1 h2 s i hi
    rw [← c]
    exact fl_has h1 h2 s a b
  have hno : ∀ i, K ≤ i → i < 32 → bt (fl K s 999999) i = false := by
    intro i hi _
    cases h : bt (fl K s 999999) i with
    | false => rfl
    | true => have := fl_lt h1 h2 s _ i h; omega
  generalize fl K s 999999 = b at hall hno
  have e1 : cn (bt b) 32 = cn (bt b) K := cn_cut h2 hno
  have e2 : cn (bt b) K = K := cn_all hall
  unfold pc
  rw [e1, e2]
theorem isSet_ex {K : Nat} (h1 : 1 ≤ K) (h2 : K ≤ 32) (s : Int32) : ∃ b, isSet K s b := by
  have hd := dg_le (dr s) h1
  have hf := fl_full h1 h2 s
  obtain ⟨M, hM⟩ : ∃ M, M = 999999 := ⟨_, rfl⟩
  rw [← hM] at hf
  obtain ⟨N, hN, hl⟩ := pk_least (fun n => dg K (dr s) ≤ pc (fl K s n)) ⟨M, by show _ ≤ _; rw [hf]; exact hd.2⟩
  refine ⟨fl K s N, N, ?_, rfl, hN, fun j hj => Nat.not_le.mp (hl j hj)⟩
  rcases Nat.lt_or_ge M N with q | q
  · exact absurd (show dg K (dr s) ≤ pc (fl K s M) by rw [hf]; exact hd.2) (hl M q)
  · omega
theorem setA_ok {K : Nat} (h1 : 1 ≤ K) (h2 : K ≤ 32) (seed : Int32) : isSet K (ns seed) (setA K seed) := @Classical.epsilon_spec Int32 (fun b => isSet K (ns seed) b) (isSet_ex h1 h2 (ns seed))
theorem setA_lt {K : Nat} (h1 : 1 ≤ K) (h2 : K ≤ 32) (seed : Int32) {i : Nat} (h : bt (setA K seed) i = true) : i < K := by
  obtain ⟨N, -, hb, -⟩ := setA_ok h1 h2 seed
  rw [hb] at h
  exact fl_lt h1 h2 _ _ _ h
