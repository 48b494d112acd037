/-! ===== Int32 by its bits: bt x i ===== -/
def bt (x : Int32) (i : Nat) : Bool := x.toBitVec.getLsbD i
theorem b_ext {x y : Int32} (h : ∀ i, i < 32 → bt x i = bt y i) : x = y := Int32.toBitVec_inj.mp (BitVec.eq_of_getLsbD_eq (fun i hi => h i hi))
theorem b_or (x y : Int32) (i : Nat) : bt (x ||| y) i = (bt x i || bt y i) := by unfold bt; rw [Int32.toBitVec_or, BitVec.getLsbD_or]
theorem b_and (x y : Int32) (i : Nat) : bt (x &&& y) i = (bt x i && bt y i) := by unfold bt; rw [Int32.toBitVec_and, BitVec.getLsbD_and]
theorem b_xor (x y : Int32) (i : Nat) : bt (x ^^^ y) i = (bt x i ^^ bt y i) := by unfold bt; rw [Int32.toBitVec_xor, BitVec.getLsbD_xor]
theorem b_big {x : Int32} {i : Nat} (h : 32 ≤ i) : bt x i = false := BitVec.getLsbD_of_ge _ _ h
theorem b_255 (i : Nat) : bt 255 i = decide (i < 8) := by
  rcases Nat.lt_or_ge i 32 with h | h
  · exact (by decide +kernel : ∀ i, i < 32 → bt 255 i = decide (i < 8)) i h
  · rw [b_big h, decide_eq_false (by omega)]
theorem b_65535 (i : Nat) : bt 65535 i = decide (i < 16) := by
  rcases Nat.lt_or_ge i 32 with h | h
  · exact (by decide +kernel : ∀ i, i < 32 → bt 65535 i = decide (i < 16)) i h
  · rw [b_big h, decide_eq_false (by omega)]
theorem b_m1 : ∀ i, i < 32 → bt (-1) i = true := by decide +kernel
theorem b_0 (i : Nat) : bt 0 i = false := BitVec.getLsbD_zero
theorem s_l : ∀ n, n < 32 → ((nI n &&& 31).toBitVec.smod 32).toNat = n := by decide +kernel
theorem s_u : ∀ n, n < 32 → (((nI n).toUInt32 &&& Int32.toUInt32 31).toBitVec % 32).toNat = n := by decide +kernel
theorem b_shl (n : Nat) (hn : n < 32) (x : Int32) {i : Nat} (hi : i < 32) : bt (x <<< (nI n &&& 31)) i = (decide (n ≤ i) && bt x (i - n)) := by
  unfold bt
  rw [Int32.toBitVec_shiftLeft]
  show (x.toBitVec <<< ((nI n &&& 31).toBitVec.smod 32).toNat).getLsbD i = _
  rw [s_l n hn, BitVec.getLsbD_shiftLeft]
  rcases Nat.lt_or_ge i n with h | h
  · simp [h, Nat.not_le.mpr h]
  · simp [hi, h, Nat.not_lt.mpr h]
theorem b_ushr (n : Nat) (hn : n < 32) (x : Int32) (i : Nat) : bt ((x.toUInt32 >>> ((nI n).toUInt32 &&& Int32.toUInt32 31)).toInt32) i = bt x (n + i) := by
  show (x.toUInt32 >>> ((nI n).toUInt32 &&& Int32.toUInt32 31)).toBitVec.getLsbD i = x.toUInt32.toBitVec.getLsbD (n + i)
  rw [UInt32.toBitVec_shiftRight]
  show (x.toUInt32.toBitVec >>> (((nI n).toUInt32 &&& Int32.toUInt32 31).toBitVec % 32).toNat).getLsbD i = _
  rw [s_u n hn, BitVec.getLsbD_ushiftRight]
theorem b_sshr (n : Nat) (hn : n < 32) (x : Int32) {i : Nat} (hi : i < 32) : bt (x >>> (nI n &&& 31)) i = if n + i < 32 then bt x (n + i) else bt x 31 := by
  unfold bt
  rw [Int32.toBitVec_shiftRight]
  show (x.toBitVec.sshiftRight ((nI n &&& 31).toBitVec.smod 32).toNat).getLsbD i = _
  rw [s_l n hn, BitVec.getLsbD_sshiftRight, BitVec.msb_eq_getLsbD_last]
  simp [hi]
theorem b_shl8 (x : Int32) {i : Nat} (hi : i < 32) : bt (x <<< ((8 : Int32) &&& 31)) i = (decide (8 ≤ i) && bt x (i - 8)) := b_shl 8 (by omega) x hi
theorem b_shl16 (x : Int32) {i : Nat} (hi : i < 32) : bt (x <<< ((16 : Int32) &&& 31)) i = (decide (16 ≤ i) && bt x (i - 16)) := b_shl 16 (by omega) x hi
theorem b_shl24 (x : Int32) {i : Nat} (hi : i < 32) : bt (x <<< ((24 : Int32) &&& 31)) i = (decide (24 ≤ i) && bt x (i - 24)) := b_shl 24 (by omega) x hi
theorem b_sshr8 (x : Int32) {i : Nat} (hi : i < 32) : bt (x >>> ((8 : Int32) &&& 31)) i = if 8 + i < 32 then bt x (8 + i) else bt x 31 := b_sshr 8 (by omega) x hi
/-! ===== counting of true places ===== -/
def cn (f : Nat → Bool) : Nat → Nat
  | 0 => 0
  | n + 1 => cn f n + (if f n then 1 else 0)
theorem cn_congr {f g : Nat → Bool} {n : Nat} (h : ∀ i, i < n → f i = g i) : cn f n = cn g n := by
  induction n with
  | zero => rfl
  | succ n ih =>
    show cn f n + _ = cn g n + _
    rw [ih (fun i hi => h i (by omega)), h n (by omega)]
theorem cn_le (f : Nat → Bool) (n : Nat) : cn f n ≤ n := by
  induction n with
  | zero => exact Nat.le_refl 0
  | succ n ih =>
    show cn f n + _ ≤ _
    split <;> omega
theorem cn_none {f : Nat → Bool} {n : Nat} (h : ∀ i, i < n → f i = false) : cn f n = 0 := by
  induction n with
  | zero => rfl
  | succ n ih =>
    show cn f n + _ = 0
    rw [ih (fun i hi => h i (by omega)), h n (by omega)]
    rfl
theorem cn_none' {f : Nat → Bool} {n : Nat} (h : cn f n = 0) : ∀ i, i < n → f i = false := by
  induction n with
  | zero => intro i hi; omega
  | succ n ih =>
    intro i hi
    have h1 : cn f n + (if f n then 1 else 0) = 0 := h
    rcases Nat.lt_or_ge i n with q | q
    · exact ih (by omega) i q
    · have : i = n := by omega
      subst this
      cases hf : f i with
      | false => rfl
      | true => rw [hf] at h1; simp at h1
theorem cn_up {f g : Nat → Bool} {n k : Nat} (hk : k < n) (h0 : f k = false) (h1 : g k = true) (h : ∀ i, i < n → i ≠ k → g i = f i) : cn g n = cn f n + 1 := by
  induction n with
  | zero => omega
  | succ n ih =>
    show cn g n + _ = cn f n + _ + 1
    rcases Nat.lt_or_ge k n with q | q
    · rw [ih q (fun i hi => h i (by omega)), h n (by omega) (by omega)]
      omega
    · have : k = n := by omega
      subst this
      rw [cn_congr (f := g) (g := f) (fun i hi => h i (by omega) (by omega)), h0, h1]
      simp
theorem cn_mono {f g : Nat → Bool} {n : Nat} (h : ∀ i, i < n → f i = true → g i = true) : cn f n ≤ cn g n := by
  induction n with
  | zero => exact Nat.le_refl 0
  | succ n ih =>
    have h1 := ih (fun i hi => h i (by omega))
    have h2 := h n (by omega)
    show cn f n + _ ≤ cn g n + _
    cases hf : f n with
    | false => simp; omega
    | true => rw [h2 hf]; simp; omega
theorem cn_cut {f : Nat → Bool} {n m : Nat} (hm : n ≤ m) (h : ∀ i, n ≤ i → i < m → f i = false) : cn f m = cn f n := by
  induction m with
  | zero => have : n = 0 := by omega
            subst this; rfl
  | succ m ih =>
    rcases Nat.lt_or_ge m n with q | q
    · have : n = m + 1 := by omega
      subst this; rfl
    · show cn f m + _ = _
      rw [ih q (fun i h1 h2 => h i h1 (by omega)), h m q (by omega)]
      rfl
theorem cn_all {f : Nat → Bool} {n : Nat} (h : ∀ i, i < n → f i = true) : cn f n = n := by
  induction n with
  | zero => rfl
  | succ n ih =>
    show cn f n + _ = n + 1
    rw [ih (fun i hi => h i (by omega)), h n (by omega)]
    rfl
theorem cn_one {f : Nat → Bool} {n : Nat} (h : cn f n = 1) : ∃ k, k < n ∧ f k = true ∧ ∀ i, i < n → i ≠ k → f i = false := by
  induction n with
  | zero => cases h
  | succ n ih =>
    have h1 : cn f n + (if f n then 1 else 0) = 1 := h
    cases hf : f n with
    | false =>
      rw [hf] at h1
      obtain ⟨k, a, b, c⟩ := ih (by simpa using h1)
      refine ⟨k, by omega, b, fun i hi hne => ?_⟩
      rcases Nat.lt_or_ge i n with q | q
      · exact c i q hne
      · have : i = n := by omega
        subst this; exact hf
    | true =>
      rw [hf] at h1
      have h2 : cn f n = 0 := by simpa using h1
      refine ⟨n, by omega, hf, fun i hi hne => cn_none' h2 i (by omega)⟩
/-! ===== how many bits ===== -/
def pc (x : Int32) : Nat := cn (bt x) 32
def tN (x : Int32) : Nat := x.toBitVec.toNat
theorem tN_lt (x : Int32) : tN x < 4294967296 := x.toBitVec.isLt
theorem tN_inj {x y : Int32} (h : tN x = tN y) : x = y := Int32.toBitVec_inj.mp (BitVec.eq_of_toNat_eq h)
theorem tN_nI {n : Nat} (h : n < 4294967296) : tN (nI n) = n := pk_tn h
theorem nI_tN (x : Int32) : nI (tN x) = x := tN_inj (tN_nI (tN_lt x))
theorem tN_and (x y : Int32) : tN (x &&& y) = tN x &&& tN y := by
  unfold tN
  rw [Int32.toBitVec_and, BitVec.toNat_and]
theorem tN_add (x y : Int32) : tN (x + y) = (tN x + tN y) % 4294967296 := by
  unfold tN
  rw [Int32.toBitVec_add, BitVec.toNat_add]
theorem tN_mul (x y : Int32) : tN (x * y) = (tN x * tN y) % 4294967296 := by
  unfold tN
  rw [Int32.toBitVec_mul, BitVec.toNat_mul]
theorem tN_sub {x y : Int32} (h : tN y ≤ tN x) : tN (x - y) = tN x - tN y := by
  have h1 := tN_lt x
  unfold tN at *
  rw [Int32.toBitVec_sub, BitVec.toNat_sub]
  omega
theorem bt_nat (x : Int32) (i : Nat) : (if bt x i then 1 else 0) = tN x / 2 ^ i % 2 := by
  unfold bt tN
  rw [BitVec.getLsbD, Nat.testBit_eq_decide_div_mod_eq]
  have h : x.toBitVec.toNat / 2 ^ i % 2 < 2 := Nat.mod_lt _ (by omega)
  by_cases q : x.toBitVec.toNat / 2 ^ i % 2 = 1
  · simp [q]
  · simp [q]; omega
theorem and1 {a0 m0 : Nat} (A M : Nat) (ha : a0 < 256) (hm : m0 < 256) : (256 * A + a0) &&& (256 * M + m0) = 256 * (A &&& M) + (a0 &&& m0) := by
  have h1 : a0 &&& m0 < 2 ^ 8 := Nat.and_lt_two_pow _ hm
  apply Nat.eq_of_testBit_eq
  intro i
  rw [Nat.testBit_and, show (256 : Nat) = 2 ^ 8 from rfl, Nat.testBit_two_pow_mul_add _ ha, Nat.testBit_two_pow_mul_add _ hm, Nat.testBit_two_pow_mul_add _ h1]
  split
  · rw [Nat.testBit_and]
  · rw [Nat.testBit_and]
theorem and4 {a0 a1 a2 a3 m0 m1 m2 m3 : Nat} (h0 : a0 < 256) (h1 : a1 < 256) (h2 : a2 < 256) (k0 : m0 < 256) (k1 : m1 < 256) (k2 : m2 < 256) :
    (256 * (256 * (256 * a3 + a2) + a1) + a0) &&& (256 * (256 * (256 * m3 + m2) + m1) + m0) = 256 * (256 * (256 * (a3 &&& m3) + (a2 &&& m2)) + (a1 &&& m1)) + (a0 &&& m0) := by
  rw [and1 _ _ h0 k0, and1 _ _ h1 k1, and1 _ _ h2 k2]
def sw_p (b : Nat) : Nat := b % 2 + b / 2 % 2 + b / 4 % 2 + b / 8 % 2 + b / 16 % 2 + b / 32 % 2 + b / 64 % 2 + b / 128 % 2
def sw_1 (b : Nat) : Nat := b - ((b / 2) &&& 85)
def sw_2 (y : Nat) : Nat := (y &&& 51) + ((y / 4) &&& 51)
set_option maxRecDepth 100000 in
theorem sw_k1 : ∀ b, b < 256 → ∀ c, c < 2 → (b / 2 + 128 * c) &&& 85 = (b / 2) &&& 85 := by decide +kernel
set_option maxRecDepth 100000 in
theorem sw_k1' : ∀ b, b < 256 → (b / 2) &&& 85 ≤ b := by decide +kernel
set_option maxRecDepth 100000 in
theorem sw_k2 : ∀ b, b < 256 → ∀ c, c < 4 → (b / 4 + 64 * c) &&& 51 = (b / 4) &&& 51 := by decide +kernel
set_option maxRecDepth 100000 in
theorem sw_k2' : ∀ b, b < 256 → sw_2 (sw_1 b) % 16 ≤ 4 ∧ sw_2 (sw_1 b) / 16 ≤ 4 := by decide +kernel
set_option maxRecDepth 100000 in
theorem sw_k3 : ∀ b, b < 256 → ∀ c, c < 5 → (sw_2 (sw_1 b) + sw_2 (sw_1 b) / 16 + 16 * c) &&& 15 = sw_p b := by decide +kernel
theorem sw_p8 (b : Nat) : sw_p b ≤ 8 := by
  unfold sw_p
  omega
/-- one bit -/
def tw (i : Nat) : Int32 := (1 : Int32) <<< (nI i &&& 31)
theorem b_1 (i : Nat) : bt 1 i = decide (i = 0) := by
  rcases Nat.lt_or_ge i 32 with h | h
  · exact (by decide +kernel : ∀ i, i < 32 → bt 1 i = decide (i = 0)) i h
  · rw [b_big h, decide_eq_false (by omega)]
theorem bt_tw {k : Nat} (hk : k < 32) (i : Nat) : bt (tw k) i = decide (i = k) := by
  rcases Nat.lt_or_ge i 32 with h | h
  · unfold tw
    rw [b_shl k hk _ h, b_1]
    by_cases q : i = k
    · subst q; simp
    · rcases Nat.lt_or_ge i k with a | a
      · simp [q, Nat.not_le.mpr a]
      · simp [q, a]; omega
  · rw [b_big h, decide_eq_false (by omega)]
theorem bt_or_tw {k : Nat} (hk : k < 32) (b : Int32) (i : Nat) : bt (b ||| tw k) i = (bt b i || decide (i = k)) := by rw [b_or, bt_tw hk]
theorem pc_or_tw {k : Nat} (hk : k < 32) (b : Int32) : pc (b ||| tw k) = pc b + (if bt b k then 0 else 1) := by
  unfold pc
  cases hb : bt b k with
  | true =>
    have h : cn (bt (b ||| tw k)) 32 = cn (bt b) 32 := cn_congr (fun i _ => by
      rw [bt_or_tw hk]
      by_cases q : i = k
      · subst q; rw [hb]; rfl
      · simp [q])
    rw [h, if_pos rfl, Nat.add_zero]
  | false =>
    have h : cn (bt (b ||| tw k)) 32 = cn (bt b) 32 + 1 := cn_up (f := bt b) (g := bt (b ||| tw k)) hk hb (by rw [bt_or_tw hk]; simp) (fun i _ hne => by
      rw [bt_or_tw hk]; simp [hne])
    rw [h, if_neg Bool.false_ne_true]
theorem pc_0 : pc 0 = 0 := cn_none (fun i _ => b_0 i)
theorem pc_le (x : Int32) : pc x ≤ 32 := cn_le _ _
/-- the bit test of the class: (bits >>> i & 1) != 0 -/
theorem hb_bit (x : Int32) {i : Nat} (hi : i < 32) : ((x.toUInt32 >>> ((nI i).toUInt32 &&& Int32.toUInt32 31)).toInt32 &&& 1) = 0 ↔ bt x i = false := by
  constructor
  · intro h
    have h1 : bt ((x.toUInt32 >>> ((nI i).toUInt32 &&& Int32.toUInt32 31)).toInt32 &&& 1) 0 = false := by rw [h]; exact b_0 0
    rw [b_and, b_ushr i hi, b_1] at h1
    simpa using h1
  · intro h
    refine b_ext (fun j hj => ?_)
    rw [b_and, b_ushr i hi, b_1, b_0]
    by_cases q : j = 0
    · subst q; simp [h]
    · simp [q]
theorem b_not (x : Int32) {i : Nat} (hi : i < 32) : bt (x ^^^ (-1)) i = !bt x i := by rw [b_xor, b_m1 i hi]; simp
