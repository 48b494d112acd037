/-! ===== the draws, the degree, the set of a seed ===== -/
def ns (s : Int32) : Int32 := s * 1664525 + 1013904223
def dr (s : Int32) : Nat := tN s / 65536
theorem dr_lt (s : Int32) : dr s < 65536 := by
  have := tN_lt s
  unfold dr
  omega
theorem dr_sh (s : Int32) : (s.toUInt32 >>> ((16 : Int32).toUInt32 &&& Int32.toUInt32 31)).toInt32 = nI (dr s) := by
  apply tN_inj
  have h := dr_lt s
  rw [tN_nI (by omega)]
  exact sw_u s 16 (by omega)
def st (s : Int32) : Nat → Int32
  | 0 => s
  | n + 1 => ns (st s n)
theorem st_add (s : Int32) (a b : Nat) : st s (a + b) = st (st s a) b := by
  induction b with
  | zero => rfl
  | succ b ih => show ns (st s (a + b)) = ns (st (st s a) b); rw [ih]
def fl (K : Nat) (s : Int32) : Nat → Int32
  | 0 => 0
  | n + 1 => fl K s n ||| tw (dr (st s (n + 1)) % K)
theorem fl_lt {K : Nat} (h1 : 1 ≤ K) (h2 : K ≤ 32) (s : Int32) (n i : Nat) (h : bt (fl K s n) i = true) : i < K := by
  induction n with
  | zero => rw [show fl K s 0 = 0 from rfl, b_0] at h; cases h
  | succ n ih =>
    have hm : dr (st s (n + 1)) % K < K := Nat.mod_lt _ h1
    rw [show fl K s (n + 1) = fl K s n ||| tw (dr (st s (n + 1)) % K) from rfl, bt_or_tw (by omega)] at h
    cases hb : bt (fl K s n) i with
    | true => exact ih hb
    | false =>
      rw [hb] at h
      have h3 : i = dr (st s (n + 1)) % K := by simpa using h
      omega
theorem fl_has {K : Nat} (h1 : 1 ≤ K) (h2 : K ≤ 32) (s : Int32) {n j : Nat} (hj1 : 1 ≤ j) (hj : j ≤ n) : bt (fl K s n) (dr (st s j) % K) = true := by
  induction n with
  | zero => omega
  | succ n ih =>
    have hm : dr (st s (n + 1)) % K < K := Nat.mod_lt _ h1
    rw [show fl K s (n + 1) = fl K s n ||| tw (dr (st s (n + 1)) % K) from rfl, bt_or_tw (by omega)]
    rcases Nat.lt_or_ge j (n + 1) with q | q
    · rw [ih (by omega)]; rfl
    · have : j = n + 1 := by omega
      subst this
      simp
def dgF (K r : Nat) : Nat → Nat → Nat → Nat
  | 0, d, _ => d
  | f + 1, d, sum => if d < K ∧ sum ≤ r then dgF K r f (d + 1) (sum + 65536 / ((d + 1) * d)) else d
def dg (K r : Nat) : Nat := dgF K r K 1 (65536 / K)
theorem dgF_le {K r : Nat} : ∀ f d sum, 1 ≤ d → d ≤ K → 1 ≤ dgF K r f d sum ∧ dgF K r f d sum ≤ K := by
  intro f
  induction f with
  | zero => intro d sum h1 h2; exact ⟨h1, h2⟩
  | succ f ih =>
    intro d sum h1 h2
    unfold dgF
    split
    · rename_i h; exact ih _ _ (by omega) (by omega)
    · exact ⟨h1, h2⟩
theorem dg_le {K : Nat} (r : Nat) (h : 1 ≤ K) : 1 ≤ dg K r ∧ dg K r ≤ K := dgF_le _ _ _ (Nat.le_refl 1) h
theorem dgF_in {K r f d sum : Nat} (h1 : d < K) (h2 : sum ≤ r) : dgF K r (f + 1) d sum = dgF K r f (d + 1) (sum + 65536 / ((d + 1) * d)) := by
  rw [dgF, if_pos ⟨h1, h2⟩]
theorem dgF_out {K r f d sum : Nat} (h : ¬ (d < K ∧ sum ≤ r)) : dgF K r f d sum = d := by
  cases f with
  | zero => rfl
  | succ f => rw [dgF, if_neg h]
/-- b is the set of drawn numbers behind the state s -/
def isSet (K : Nat) (s b : Int32) : Prop := ∃ N, N ≤ 999999 ∧ b = fl K s N ∧ dg K (dr s) ≤ pc b ∧ ∀ j, j < N → pc (fl K s j) < dg K (dr s)
noncomputable def setA (K : Nat) (seed : Int32) : Int32 := @Classical.epsilon Int32 ⟨0⟩ (fun b => isSet K (ns seed) b)
/-! ===== every number comes again within a million draws ===== -/
def jA : Nat → Nat
  | 0 => 1664525
  | m + 1 => jA m * jA m % 4294967296
def jC : Nat → Nat
  | 0 => 1013904223
  | m + 1 => (jA m * jC m + jC m) % 4294967296
theorem jmod (a b : Nat) : (a * (b % 4294967296)) % 4294967296 = (a * b) % 4294967296 := Nat.mul_mod_mod ..
theorem jump (m : Nat) : ∀ s, tN (st s (2 ^ m)) = (jA m * tN s + jC m) % 4294967296 := by
  induction m with
  | zero =>
    intro s
    show tN (s * 1664525 + 1013904223) = _
    rw [tN_add, tN_mul, show tN (1664525 : Int32) = 1664525 from by decide +kernel, show tN (1013904223 : Int32) = 1013904223 from by decide +kernel]
    show _ = (1664525 * tN s + 1013904223) % 4294967296
    omega
  | succ m ih =>
    intro s
    rw [Nat.pow_succ, Nat.mul_two, st_add, ih, ih]
    show _ = (jA m * jA m % 4294967296 * tN s + (jA m * jC m + jC m) % 4294967296) % 4294967296
    rw [← Nat.add_mod_mod, Nat.add_comm (jA m * _), ← Nat.add_mod_mod (jC m % 4294967296), jmod, Nat.mul_add, Nat.add_mod_mod]
    rw [Nat.add_mod_mod, Nat.mod_add_mod, Nat.add_mod (jA m * jA m % 4294967296 * tN s), Nat.mod_mul_mod, ← Nat.add_mod, ← Nat.mul_assoc]
    congr 1
    omega
theorem jodd : ∀ m, m < 16 → jA m % 2 ^ (m + 1) = 1 ∧ jC m % 2 ^ (m + 1) = 2 ^ m ∧ 4294967296 % 2 ^ (m + 1) = 0 := by decide +kernel
theorem half {p x l : Nat} (hp : 0 < p) (h : x % p = l % p) : x % (p * 2) = l % (p * 2) ∨ (x + p) % (p * 2) = l % (p * 2) := by
  rw [Nat.mod_mul, Nat.mod_mul (x := l), Nat.mod_mul (x := x + p), Nat.add_mod_right, Nat.add_div_right _ hp, h]
  rcases Nat.mod_two_eq_zero_or_one (x / p) with a | a <;> rcases Nat.mod_two_eq_zero_or_one (l / p) with b | b
  · left; rw [a, b]
  · right; rw [b, show (x / p).succ % 2 = 1 by omega]
  · right; rw [b, show (x / p).succ % 2 = 0 by omega]
  · left; rw [a, b]
theorem reach (m : Nat) (hm : m ≤ 16) : ∀ s, ∃ j, j < 2 ^ m ∧ tN (st s j) % 2 ^ m = 1 % 2 ^ m := by
  induction m with
  | zero => intro s; exact ⟨0, by decide, by omega⟩
  | succ m ih =>
    intro s
    obtain ⟨j, h1, h2⟩ := ih (by omega) s
    have hp : 0 < 2 ^ m := Nat.two_pow_pos m
    obtain ⟨o1, o2, o3⟩ := jodd m (by omega)
    rw [Nat.pow_succ] at *
    rcases half hp h2 with h | h
    · exact ⟨j, by omega, h⟩
    · refine ⟨j + 2 ^ m, by omega, ?_⟩
      rw [st_add, jump, Nat.mod_mod_of_dvd _ (Nat.dvd_of_mod_eq_zero o3), Nat.add_mod, Nat.mul_mod, o1, o2, Nat.one_mul, Nat.mod_mod, Nat.mod_add_mod, h]
def cvS (z : Nat) : Nat := (z * 2088640513 + 1506093056) % 4294967296
def cvI (g : Nat → Nat) (z : Nat) : Nat → Nat
  | 0 => z
  | n + 1 => cvI g (g z) n
def cvL (g : Nat → Nat) (K : Nat) : Nat → Nat → Nat → Nat
  | 0, _, m => m
  | f + 1, z, m => cvL g K f (g z) (if g z / 65536 < 32768 then m ||| 2 ^ (g z / 65536 % K) else m)
def cvH (g : Nat → Nat) (K : Nat) : Nat → Nat → Nat → Nat
  | 0, _, m => m
  | f + 1, z, m => cvH g K f (g z) (if g z / 65536 < 32768 then m else m ||| 2 ^ ((g z / 65536 - 32768) % K))
theorem cvI_succ (g : Nat → Nat) (z n : Nat) : cvI g z (n + 1) = cvI g (g z) n := rfl
theorem cvI_0 (g : Nat → Nat) (z : Nat) : cvI g z 0 = z := rfl
theorem tb_or {m i r : Nat} (h : (m ||| 2 ^ i).testBit r = true) : m.testBit r = true ∨ r = i := by
  rw [Nat.testBit_or, Nat.testBit_two_pow] at h
  cases hm : m.testBit r with
  | true => exact Or.inl rfl
  | false => rw [hm] at h; right; have h3 : i = r := by simpa using h
             exact h3.symm
theorem cvL_s {g : Nat → Nat} {K r : Nat} : ∀ f z m, (cvL g K f z m).testBit r = true → m.testBit r = true ∨ ∃ t, 1 ≤ t ∧ t ≤ f ∧ cvI g z t / 65536 < 32768 ∧ cvI g z t / 65536 % K = r := by
  intro f
  induction f with
  | zero => intro z m h; exact Or.inl h
  | succ f ih =>
    intro z m h
    rcases ih _ _ h with h1 | ⟨t, h1, h2, h3, h4⟩
    · split at h1
      · rename_i hz
        rcases tb_or h1 with h2 | h2
        · exact Or.inl h2
        · exact Or.inr ⟨1, by omega, by omega, hz, h2.symm⟩
      · exact Or.inl h1
    · exact Or.inr ⟨t + 1, by omega, by omega, h3, h4⟩
theorem cvH_s {g : Nat → Nat} {K r : Nat} : ∀ f z m, (cvH g K f z m).testBit r = true → m.testBit r = true ∨ ∃ t, 1 ≤ t ∧ t ≤ f ∧ 32768 ≤ cvI g z t / 65536 ∧ (cvI g z t / 65536 - 32768) % K = r := by
  intro f
  induction f with
  | zero => intro z m h; exact Or.inl h
  | succ f ih =>
    intro z m h
    rcases ih _ _ h with h1 | ⟨t, h1, h2, h3, h4⟩
    · split at h1
      · exact Or.inl h1
      · rename_i hz
        rcases tb_or h1 with h2 | h2
        · exact Or.inl h2
        · exact Or.inr ⟨1, by omega, by omega, Nat.le_of_not_lt hz, h2.symm⟩
    · exact Or.inr ⟨t + 1, by omega, by omega, h3, h4⟩
set_option maxRecDepth 1000000 in
set_option maxHeartbeats 4000000 in
theorem cv_lo : ∀ k, k < 8 → ∀ K, K < 33 → cvL cvS K 455 (k * 65536 + 1) 0 = if K = 0 then cvL cvS 0 455 (k * 65536 + 1) 0 else 2 ^ K - 1 := by decide +kernel
set_option maxRecDepth 1000000 in
set_option maxHeartbeats 4000000 in
theorem cv_hi : ∀ k, k < 8 → ∀ K, K < 33 → cvH cvS K 455 (k * 65536 + 1) 0 = if K = 0 then cvH cvS 0 455 (k * 65536 + 1) 0 else 2 ^ K - 1 := by decide +kernel
