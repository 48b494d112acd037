/-! ===== words for the reference ===== -/
def bI (b : Bool) : Int32 := if b then 1 else 0
theorem bI_t : bI true = 1 := rfl
theorem bI_f : bI false = 0 := rfl
theorem bI_0 {b : Bool} : bI b = 0 ↔ b = false := by cases b <;> decide
theorem nar0 : vp_nar .boolean 0 = 0 := by decide +kernel
theorem nar1 : vp_nar .boolean 1 = 1 := by decide +kernel
theorem xor0 (x : Int32) : x ^^^ 0 = x := by
  refine b_ext (fun i _ => ?_)
  rw [b_xor, b_0, Bool.xor_false]
theorem or0 (x : Int32) : x ||| 0 = x := by
  refine b_ext (fun i _ => ?_)
  rw [b_or, b_0, Bool.or_false]
theorem xorself (x : Int32) : x ^^^ x = 0 := by
  refine b_ext (fun i _ => ?_)
  rw [b_xor, b_0, Bool.xor_self]
theorem xor_ass (x y z : Int32) : x ^^^ y ^^^ z = x ^^^ (y ^^^ z) := by
  refine b_ext (fun i _ => ?_)
  rw [b_xor, b_xor, b_xor, b_xor, Bool.xor_assoc]
theorem xor_eq0 {x y : Int32} : x ^^^ y = 0 ↔ y = x := by
  constructor
  · intro h
    refine b_ext (fun i _ => ?_)
    have h1 : bt (x ^^^ y) i = false := by rw [h]; exact b_0 i
    rw [b_xor] at h1
    revert h1
    cases bt x i <;> cases bt y i <;> simp
  · intro h; subst h; exact xorself _
/-- in-rows: what the flags hold -/
def inF (K : Nat) (f : Nat → Int32) (b : Int32) : Prop := ∀ i, i < K → f i = bI (bt b i)
theorem inF_0 {K : Nat} {f : Nat → Int32} (h : ∀ i, i < K → f i = 0) : inF K f 0 := fun i hi => by rw [h i hi, b_0]; rfl
theorem inF_up {K : Nat} (hK : K ≤ 32) {f : Nat → Int32} {b : Int32} {k : Nat} (hk : k < K) (h : inF K f b) : inF K (upd f k (vp_nar .boolean 1)) (b ||| tw k) := by
  intro i hi
  rw [bt_or_tw (by omega)]
  by_cases q : i = k
  · subst q; rw [pk_us, nar1]; simp [bI]
  · rw [pk_un q, h i hi]; simp [q]
/-- the bits, one by one -/
def sbF (b : Int32) : Nat → Int32
  | 0 => 0
  | n + 1 => sbF b n ||| (if bt b n then tw n else 0)
theorem bt_sbF (b : Int32) : ∀ n, n ≤ 32 → ∀ j, bt (sbF b n) j = (decide (j < n) && bt b j) := by
  intro n
  induction n with
  | zero => intro _ j; rw [sbF, b_0]; simp
  | succ n ih =>
    intro hn j
    rw [sbF, b_or, ih (by omega)]
    cases hb : bt b n with
    | false =>
      rw [if_neg Bool.false_ne_true, b_0]
      by_cases q : j = n
      · subst q; rw [hb]; simp
      · have : (decide (j < n) : Bool) = decide (j < n + 1) := by
          rcases Nat.lt_or_ge j n with g | g
          · rw [decide_eq_true g, decide_eq_true (by omega)]
          · rw [decide_eq_false (by omega), decide_eq_false (by omega)]
        rw [this]; simp
    | true =>
      rw [if_pos rfl, bt_tw (by omega)]
      by_cases q : j = n
      · subst q; rw [hb]; simp
      · have : (decide (j < n) : Bool) = decide (j < n + 1) := by
          rcases Nat.lt_or_ge j n with g | g
          · rw [decide_eq_true g, decide_eq_true (by omega)]
          · rw [decide_eq_false (by omega), decide_eq_false (by omega)]
        rw [this]; simp [q]
theorem sbF_all {K : Nat} (hK : K ≤ 32) {b : Int32} (h : ∀ i, bt b i = true → i < K) : sbF b K = b := by
  refine b_ext (fun i _ => ?_)
  rw [bt_sbF b K hK]
  cases hb : bt b i with
  | false => simp
  | true => rw [decide_eq_true (h i hb)]; rfl
theorem pc_K {K : Nat} (hK : K ≤ 32) {b : Int32} (h : ∀ i, bt b i = true → i < K) : cn (bt b) K = pc b := by
  unfold pc
  refine (cn_cut hK (fun i h1 _ => ?_)).symm
  cases hb : bt b i with
  | false => rfl
  | true => have := h i hb; omega
theorem unk_lt {K : Nat} {S kb : Int32} (h : ∀ i, bt S i = true → i < K) : ∀ i, bt (unk S kb) i = true → i < K := by
  intro i hi
  rw [bt_unk, Bool.and_eq_true] at hi
  exact h i hi.1
/-- the waits: those that P tells are put behind T -/
def awA (wt : Nat → Int32) (T : Nat) (P : Nat → Bool) : Nat → (Nat → Int32)
  | 0 => wt
  | k + 1 => if P k then upd (awA wt T P k) k (nI (T + cn P k + 1)) else awA wt T P k
theorem awA_ge {wt : Nat → Int32} {T : Nat} {P : Nat → Bool} {k x : Nat} (h : k ≤ x) : awA wt T P k x = wt x := by
  induction k with
  | zero => rfl
  | succ k ih =>
    rw [awA]
    split
    · rw [pk_un (by omega), ih (by omega)]
    · exact ih (by omega)
theorem awA_yes {wt : Nat → Int32} {T : Nat} {P : Nat → Bool} {n k : Nat} (h : k < n) (hp : P k = true) : awA wt T P n k = nI (T + cn P k + 1) := by
  induction n with
  | zero => omega
  | succ n ih =>
    rw [awA]
    rcases Nat.lt_or_ge k n with g | g
    · split
      · rw [pk_un (by omega)]; exact ih g
      · exact ih g
    · have : k = n := by omega
      subst this
      rw [if_pos hp, pk_us]
theorem awA_no {wt : Nat → Int32} {T : Nat} {P : Nat → Bool} {n k : Nat} (hp : P k = false) : awA wt T P n k = wt k := by
  induction n with
  | zero => rfl
  | succ n ih =>
    rw [awA]
    split
    · rename_i h
      rw [pk_un (by intro e; subst e; rw [hp] at h; cases h)]; exact ih
    · exact ih
/-- the first that waits -/
def fsP (n : Nat) (wt : Nat → Int32) (r : Int32) : Prop := (r = -1 ∧ ∀ k, k < n → ¬ 0 < wt k) ∨ (∃ j, j < n ∧ r = nI j ∧ 0 < wt j ∧ ∀ k, k < n → 0 < wt k → wt j ≤ wt k)
/-- the reference and the queue's state belong together, h drops having gone out, T0 turns before -/
def qR (K n T0 h : Nat) (y : QS) (wt : Nat → Int32) (tn : Int32) (kn tl od : Nat → Int32) (fd cl : Int32) : Prop :=
  inF K kn y.2.2.1 ∧ (∀ i, bt y.2.2.1 i = true → tl i = y.1 i) ∧ (∀ x, x < pc y.2.2.1 → od x = y.2.1 x) ∧ fd = nI (pc y.2.2.1) ∧ cl = y.2.2.2.2.2 ∧ tn = nI (T0 + y.2.2.2.2.1) ∧
  (∀ k, k < n → (∀ x, h ≤ x → x < y.2.2.2.2.1 → ¬ y.2.2.2.1 x = nI k) → wt k = 0) ∧ (∀ x k, h ≤ x → x < y.2.2.2.2.1 → k < n → y.2.2.2.1 x = nI k → wt k = nI (T0 + x + 1))
theorem qR_first {K n T0 h : Nat} {S : Nat → Int32} {y : QS} {wt : Nat → Int32} {tn : Int32} {kn tl od : Nat → Int32} {fd cl : Int32} (hn : n ≤ 60) (hT : T0 ≤ 40000) (hI : qInv K n S h y) (hR : qR K n T0 h y wt tn kn tl od fd cl) {r : Int32} (hr : fsP n wt r) : (r = -1 ∧ h = y.2.2.2.2.1) ∨ (h < y.2.2.2.2.1 ∧ ∃ j, j < n ∧ r = nI j ∧ y.2.2.2.1 h = nI j) := by
  obtain ⟨-, -, -, -, -, -, w1, w2⟩ := hR
  have hq := qInv_le hI
  obtain ⟨-, a2, a3, -, -, -⟩ := hI
  rcases hr with ⟨e, h0⟩ | ⟨j, hj, e, hp, hm⟩
  · left
    refine ⟨e, ?_⟩
    rcases Nat.lt_or_ge h y.2.2.2.2.1 with g | g
    · obtain ⟨k, b1, b2, -⟩ := a3 h g
      have h1 := w2 h k (Nat.le_refl h) g b1 b2
      exact absurd (by rw [h1]; exact nI_lt (a := 0) (by omega) (by omega)) (h0 k b1)
    · omega
  · right
    have hx : ∃ x, h ≤ x ∧ x < y.2.2.2.2.1 ∧ y.2.2.2.1 x = nI j := by
      refine Classical.byContradiction (fun hne => ?_)
      have h1 := w1 j hj (fun x q1 q2 q3 => hne ⟨x, q1, q2, q3⟩)
      rw [h1] at hp
      exact absurd hp (by decide)
    obtain ⟨x, x1, x2, x3⟩ := hx
    have hw := w2 x j x1 x2 hj x3
    have g : h < y.2.2.2.2.1 := by omega
    obtain ⟨k, b1, b2, -⟩ := a3 h g
    have hk := w2 h k (Nat.le_refl h) g b1 b2
    have hle := hm k b1 (by rw [hk]; exact nI_lt (a := 0) (by omega) (by omega))
    rw [hw, hk] at hle
    have hxh : x ≤ h := by
      have := (nI_leI (a := T0 + x + 1) (b := T0 + h + 1) (by omega) (by omega)).mp hle
      omega
    have : x = h := by omega
    subst this
    exact ⟨g, j, hj, e, x3⟩
