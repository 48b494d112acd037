/-! ===== the receiver's own words ===== -/
def xf (w : Nat → Int32) (b : Int32) : Nat → Int32
  | 0 => 0
  | n + 1 => if bt b n then xf w b n ^^^ w n else xf w b n
theorem xf_congr {w w' : Nat → Int32} {b : Int32} {n : Nat} (h : ∀ i, i < n → bt b i = true → w i = w' i) : xf w b n = xf w' b n := by
  induction n with
  | zero => rfl
  | succ n ih =>
    rw [xf, xf, ih (fun i hi => h i (by omega))]
    split
    · rename_i hb; rw [h n (by omega) hb]
    · rfl
def unk (S kb : Int32) : Int32 := S &&& (kb ^^^ (-1))
theorem bt_unk (S kb : Int32) (i : Nat) : bt (unk S kb) i = (bt S i && !bt kb i) := by
  unfold unk
  rw [b_and]
  rcases Nat.lt_or_ge i 32 with h | h
  · rw [b_not _ h]
  · rw [b_big h, Bool.false_and, Bool.false_and]
/-- by how many words a drop is open -/
def opn (S kb : Int32) : Nat := pc (unk S kb)
theorem opn_learn {S kb : Int32} {i : Nat} (hi : i < 32) (hk : bt kb i = false) : opn S kb = opn S (kb ||| tw i) + (if bt S i then 1 else 0) := by
  have hu : ∀ j, bt (unk S (kb ||| tw i)) j = (bt (unk S kb) j && !decide (j = i)) := by
    intro j
    rw [bt_unk, bt_unk, bt_or_tw hi]
    cases bt S j <;> cases bt kb j <;> simp
  unfold opn pc
  cases hS : bt S i with
  | true =>
    rw [if_pos rfl]
    refine cn_up (f := bt (unk S (kb ||| tw i))) (g := bt (unk S kb)) hi ?_ ?_ ?_
    · rw [hu]; simp
    · rw [bt_unk, hS, hk]; rfl
    · intro j _ hne; rw [hu]; simp [hne]
  | false =>
    rw [if_neg Bool.false_ne_true, Nat.add_zero]
    refine cn_congr (fun j _ => ?_)
    rw [hu]
    by_cases q : j = i
    · subst q; rw [bt_unk, hS]; rfl
    · simp [q]
theorem opn_0 {S kb : Int32} (h : unk S kb = 0) : opn S kb = 0 := by unfold opn; rw [h]; exact pc_0
theorem opn_0' {S kb : Int32} (h : opn S kb = 0) : unk S kb = 0 := by
  refine b_ext (fun i hi => ?_)
  rw [b_0]
  exact cn_none' h i hi
theorem opn_1 {S kb : Int32} (h : opn S kb = 1) : ∃ i, i < 32 ∧ unk S kb = tw i ∧ bt S i = true ∧ bt kb i = false := by
  obtain ⟨k, hk, h1, h2⟩ := cn_one h
  refine ⟨k, hk, b_ext (fun i hi => ?_), ?_, ?_⟩
  · rw [bt_tw hk]
    by_cases q : i = k
    · subst q; rw [h1]; simp
    · rw [h2 i hi q]; simp [q]
  · rw [bt_unk] at h1
    cases hS : bt S k with
    | true => rfl
    | false => rw [hS] at h1; simp at h1
  · rw [bt_unk] at h1
    cases hS : bt kb k with
    | false => rfl
    | true => rw [hS] at h1; simp at h1
/-- the one bit -/
def loF (u : Int32) : Nat → Nat
  | 0 => 0
  | n + 1 => if bt u n then n else loF u n
def lo (u : Int32) : Nat := loF u 32
theorem lo_tw : ∀ i, i < 32 → lo (tw i) = i := by decide +kernel
theorem tw_ne0 : ∀ i, i < 32 → ¬ tw i = 0 := by decide +kernel
/-- kb has a place left -/
theorem pc_room {K : Nat} (h2 : K ≤ 32) {kb : Int32} (hk : ∀ i, bt kb i = true → i < K) {i : Nat} (hi : i < K) (h : bt kb i = false) : pc kb < K := by
  have h1 := pc_or_tw (k := i) (by omega) kb
  rw [h, if_neg Bool.false_ne_true] at h1
  have h3 : pc (kb ||| tw i) ≤ K := by
    unfold pc
    rw [cn_cut (n := K) h2]
    · exact cn_le _ _
    · intro j hj _
      rw [bt_or_tw (by omega)]
      cases hb : bt kb j with
      | true => have := hk j hb; omega
      | false => simp; omega
  omega
/-- the xor of the known words of a set -/
def xk (K : Nat) (kw : Nat → Int32) (S kb : Int32) : Int32 := xf kw (S &&& kb) K
/-- the clashes behind a look at a drop -/
def clA (K : Nat) (kw : Nat → Int32) (S kb V cl : Int32) : Int32 := if xk K kw S kb = V then cl else cl + 1
/-- a drop that a word i that has just become known puts in the queue -/
def eqP (i : Nat) (S : Nat → Int32) (kb : Int32) (k : Nat) : Bool := bt (S k) i && decide (opn (S k) kb = 1)
def eqA (i : Nat) (S : Nat → Int32) (kb : Int32) (qu : Nat → Int32) (q : Nat) : Nat → (Nat → Int32)
  | 0 => qu
  | n + 1 => if eqP i S kb n then upd (eqA i S kb qu q n) (q + cn (eqP i S kb) n) (nI n) else eqA i S kb qu q n
theorem eqA_old {i : Nat} {S : Nat → Int32} {kb : Int32} {qu : Nat → Int32} {q n x : Nat} (h : x < q) : eqA i S kb qu q n x = qu x := by
  induction n with
  | zero => rfl
  | succ n ih =>
    rw [eqA]
    split
    · rw [pk_un (by omega), ih]
    · exact ih
theorem eqA_new {i : Nat} {S : Nat → Int32} {kb : Int32} {qu : Nat → Int32} {q : Nat} : ∀ {n k : Nat}, k < n → eqP i S kb k = true → eqA i S kb qu q n (q + cn (eqP i S kb) k) = nI k := by
  intro n
  induction n with
  | zero => intro k hk; omega
  | succ n ih =>
    intro k hk hp
    rw [eqA]
    rcases Nat.lt_or_ge k n with a | a
    · have h1 : cn (eqP i S kb) k < cn (eqP i S kb) n := by
        have h2 : cn (eqP i S kb) (k + 1) ≤ cn (eqP i S kb) n := by
          clear ih hk
          induction n with
          | zero => omega
          | succ n ih2 =>
            rcases Nat.lt_or_ge k n with b | b
            · have := ih2 b
              show _ ≤ cn (eqP i S kb) n + _
              omega
            · have : k = n := by omega
              subst this
              exact Nat.le_refl _
        have h3 : cn (eqP i S kb) (k + 1) = cn (eqP i S kb) k + 1 := by rw [cn, hp, if_pos rfl]
        omega
      split
      · rw [pk_un (by omega)]; exact ih a hp
      · exact ih a hp
    · have : k = n := by omega
      subst this
      rw [hp, if_pos rfl, pk_us]
theorem eqA_all {i : Nat} {S : Nat → Int32} {kb : Int32} {q : Nat} : ∀ {n x : Nat}, q ≤ x → x < q + cn (eqP i S kb) n → ∃ k, k < n ∧ eqP i S kb k = true ∧ x = q + cn (eqP i S kb) k := by
  intro n
  induction n with
  | zero => intro x h1 h2; rw [cn] at h2; omega
  | succ n ih =>
    intro x h1 h2
    rw [cn] at h2
    cases hp : eqP i S kb n with
    | false =>
      rw [hp, if_neg Bool.false_ne_true, Nat.add_zero] at h2
      obtain ⟨k, a, b, c⟩ := ih h1 h2
      exact ⟨k, by omega, b, c⟩
    | true =>
      rw [hp, if_pos rfl] at h2
      rcases Nat.lt_or_ge x (q + cn (eqP i S kb) n) with g | g
      · obtain ⟨k, a, b, c⟩ := ih h1 g
        exact ⟨k, by omega, b, c⟩
      · exact ⟨n, by omega, hp, by omega⟩
/-- the receiver while the queue runs: known words, their order, known bits, the queue, its end, clashes -/
abbrev QS : Type := (Nat → Int32) × (Nat → Int32) × Int32 × (Nat → Int32) × Nat × Int32
/-- drop j goes out of the queue -/
def tkF (K n : Nat) (S V : Nat → Int32) (j : Nat) (z : QS) : QS := match z with
  | (kw, ko, kb, qu, q, cl) =>
    if unk (S j) kb = 0 then (kw, ko, kb, qu, q, clA K kw (S j) kb (V j) cl)
    else (upd kw (lo (unk (S j) kb)) (V j ^^^ xk K kw (S j) kb), upd ko (pc kb) (nI (lo (unk (S j) kb))), kb ||| tw (lo (unk (S j) kb)),
      eqA (lo (unk (S j) kb)) S (kb ||| tw (lo (unk (S j) kb))) qu q n, q + cn (eqP (lo (unk (S j) kb)) S (kb ||| tw (lo (unk (S j) kb)))) n, cl)
/-- the queue runs from place h on -/
def rnF (K n : Nat) (S V : Nat → Int32) : Nat → Nat → QS → QS
  | 0, _, z => z
  | f + 1, h, z => if h < z.2.2.2.2.1 then rnF K n S V f (h + 1) (tkF K n S V (z.2.2.2.1 h).toNatClampNeg z) else z
/-- what holds while the queue runs, h drops having gone out -/
def qInv (K n : Nat) (S : Nat → Int32) (h : Nat) (z : QS) : Prop :=
  (∀ i, bt z.2.2.1 i = true → i < K) ∧ h ≤ z.2.2.2.2.1 ∧
  (∀ x, x < z.2.2.2.2.1 → ∃ j, j < n ∧ z.2.2.2.1 x = nI j ∧ opn (S j) z.2.2.1 ≤ 1) ∧
  (∀ j, j < n → opn (S j) z.2.2.1 = 1 → ∃ x, h ≤ x ∧ x < z.2.2.2.2.1 ∧ z.2.2.2.1 x = nI j) ∧
  z.2.2.2.2.1 ≤ cn (fun j => decide (opn (S j) z.2.2.1 ≤ 1)) n ∧
  (∀ x y, x < z.2.2.2.2.1 → y < z.2.2.2.2.1 → z.2.2.2.1 x = z.2.2.2.1 y → x = y)
theorem cn_two {f g h : Nat → Bool} {n : Nat} (hf : ∀ k, k < n → f k = true → h k = true ∧ g k = false) (hg : ∀ k, k < n → g k = true → h k = true) : cn f n + cn g n ≤ cn h n := by
  induction n with
  | zero => exact Nat.le_refl 0
  | succ n ih =>
    have h1 := ih (fun k hk => hf k (by omega)) (fun k hk => hg k (by omega))
    have a := hf n (by omega)
    have b := hg n (by omega)
    rw [cn, cn, cn]
    cases hfn : f n with
    | true => rw [(a hfn).1, (a hfn).2]; simp; omega
    | false =>
      cases hgn : g n with
      | true => rw [b hgn]; simp; omega
      | false => simp; split <;> omega
theorem qInv_le {K n : Nat} {S : Nat → Int32} {h : Nat} {z : QS} (H : qInv K n S h z) : z.2.2.2.2.1 ≤ n := Nat.le_trans H.2.2.2.2.1 (cn_le _ _)
theorem nI_nj {a b : Nat} (ha : a < 60) (hb : b < 60) (h : nI a = nI b) : a = b := (nI_eq (by omega) (by omega)).mp h
/-- one drop goes out: what holds, still holds -/
theorem qInv_tk {K n : Nat} (hK : K ≤ 32) (hn : n ≤ 60) {S V : Nat → Int32} (hS : ∀ j, j < n → ∀ i, bt (S j) i = true → i < K) {h : Nat} {z : QS} (H : qInv K n S h z) (hh : h < z.2.2.2.2.1) {j : Nat} (hj : j < n) (ej : z.2.2.2.1 h = nI j) : qInv K n S (h + 1) (tkF K n S V j z) := by
  obtain ⟨kw, ko, kb, qu, q, cl⟩ := z
  obtain ⟨a1, a2, a3, a4, a5, a6⟩ := H
  have hh : h < q := hh
  have ej : qu h = nI j := ej
  have a1 : ∀ i, bt kb i = true → i < K := a1
  have a3 : ∀ x, x < q → ∃ j, j < n ∧ qu x = nI j ∧ opn (S j) kb ≤ 1 := a3
  have a4 : ∀ j, j < n → opn (S j) kb = 1 → ∃ x, h ≤ x ∧ x < q ∧ qu x = nI j := a4
  have a5 : q ≤ cn (fun j => decide (opn (S j) kb ≤ 1)) n := a5
  have a6 : ∀ x y, x < q → y < q → qu x = qu y → x = y := a6
  have hjo : opn (S j) kb ≤ 1 := by
    obtain ⟨j', b1, b2, b3⟩ := a3 h hh
    have : j' = j := nI_nj (by omega) (by omega) (b2.symm.trans ej)
    rw [← this]; exact b3
  show qInv K n S (h + 1) (if unk (S j) kb = 0 then _ else _)
  by_cases hu : unk (S j) kb = 0
  · rw [if_pos hu]
    refine ⟨a1, hh, a3, ?_, a5, a6⟩
    intro k hk ho
    obtain ⟨x, b1, b2, b3⟩ := a4 k hk ho
    refine ⟨x, ?_, b2, b3⟩
    rcases Nat.lt_or_ge h x with g | g
    · exact g
    · have : x = h := by omega
      subst this
      have : k = j := nI_nj (by omega) (by omega) (b3.symm.trans ej)
      subst this
      rw [opn_0 hu] at ho; omega
  · rw [if_neg hu]
    have ho1 : opn (S j) kb = 1 := by
      rcases Nat.lt_or_ge (opn (S j) kb) 1 with g | g
      · exact absurd (opn_0' (by omega)) hu
      · omega
    obtain ⟨i, hi, e1, e2, e3⟩ := opn_1 ho1
    rw [e1, lo_tw i hi]
    have hiK : i < K := hS j hj i e2
    have hol : ∀ k, opn (S k) kb = opn (S k) (kb ||| tw i) + (if bt (S k) i then 1 else 0) := fun k => opn_learn hi e3
    have hP : ∀ k, eqP i S (kb ||| tw i) k = true ↔ bt (S k) i = true ∧ opn (S k) kb = 2 := by
      intro k
      unfold eqP
      rw [Bool.and_eq_true, decide_eq_true_iff, hol k]
      constructor
      · intro ⟨g1, g2⟩; rw [g1, g2]; exact ⟨rfl, rfl⟩
      · intro ⟨g1, g2⟩; rw [g1, if_pos rfl] at g2; exact ⟨g1, by omega⟩
    have hjh : ∀ x, x < q → qu x = nI j → x = h := fun x hx ex => a6 x h hx hh (ex.trans ej.symm)
    refine ⟨?_, by show h + 1 ≤ q + _; omega, ?_, ?_, ?_, ?_⟩
    · intro i' hb
      have hb : bt (kb ||| tw i) i' = true := hb
      rw [bt_or_tw hi] at hb
      cases hk : bt kb i' with
      | true => exact a1 i' hk
      | false => rw [hk] at hb; have : i' = i := by simpa using hb
                 omega
    · intro x hx
      have hx : x < q + cn (eqP i S (kb ||| tw i)) n := hx
      show ∃ j, j < n ∧ eqA i S (kb ||| tw i) qu q n x = nI j ∧ opn (S j) (kb ||| tw i) ≤ 1
      rcases Nat.lt_or_ge x q with g | g
      · obtain ⟨k, b1, b2, b3⟩ := a3 x g
        refine ⟨k, b1, by rw [eqA_old g]; exact b2, ?_⟩
        have := hol k
        omega
      · obtain ⟨k, b1, b2, b3⟩ := eqA_all g hx
        refine ⟨k, b1, by rw [b3]; exact eqA_new b1 b2, ?_⟩
        have h3 := (hP k).mp b2
        have := hol k
        rw [h3.1, if_pos rfl] at this
        omega
    · intro k hk ho
      have ho : opn (S k) (kb ||| tw i) = 1 := ho
      show ∃ x, h + 1 ≤ x ∧ x < q + cn (eqP i S (kb ||| tw i)) n ∧ eqA i S (kb ||| tw i) qu q n x = nI k
      have h9 := hol k
      cases hb : bt (S k) i with
      | true =>
        have hp : eqP i S (kb ||| tw i) k = true := (hP k).mpr ⟨hb, by rw [h9, ho, hb]; rfl⟩
        refine ⟨q + cn (eqP i S (kb ||| tw i)) k, by omega, ?_, eqA_new hk hp⟩
        have h2 : cn (eqP i S (kb ||| tw i)) (k + 1) ≤ cn (eqP i S (kb ||| tw i)) n := by
          have : ∀ m, k + 1 ≤ m → cn (eqP i S (kb ||| tw i)) (k + 1) ≤ cn (eqP i S (kb ||| tw i)) m := by
            intro m hm
            induction m with
            | zero => omega
            | succ m ih2 =>
              rcases Nat.lt_or_ge k m with b | b
              · have := ih2 (by omega)
                show _ ≤ cn (eqP i S (kb ||| tw i)) m + _
                omega
              · have : k = m := by omega
                subst this
                exact Nat.le_refl _
          exact this n (by omega)
        have h3 : cn (eqP i S (kb ||| tw i)) (k + 1) = cn (eqP i S (kb ||| tw i)) k + 1 := by rw [cn, hp, if_pos rfl]
        omega
      | false =>
        rw [hb, if_neg Bool.false_ne_true] at h9
        obtain ⟨x, b1, b2, b3⟩ := a4 k hk (by omega)
        have hne : x ≠ h := by
          intro hx
          subst hx
          have : k = j := nI_nj (by omega) (by omega) (b3.symm.trans ej)
          subst this
          rw [e2] at hb; cases hb
        exact ⟨x, by omega, by omega, by rw [eqA_old b2]; exact b3⟩
    · show q + cn (eqP i S (kb ||| tw i)) n ≤ cn (fun j => decide (opn (S j) (kb ||| tw i) ≤ 1)) n
      refine Nat.le_trans (Nat.add_le_add_right a5 _) (cn_two (fun k _ hk => ?_) (fun k _ hk => ?_))
      · have hk : opn (S k) kb ≤ 1 := decide_eq_true_iff.mp hk
        have h9 := hol k
        refine ⟨decide_eq_true (by omega), ?_⟩
        cases hp : eqP i S (kb ||| tw i) k with
        | false => rfl
        | true => have := (hP k).mp hp; omega
      · have h3 := (hP k).mp hk
        have h9 := hol k
        rw [h3.1, if_pos rfl] at h9
        exact decide_eq_true (by omega)
    · intro x y hx hy he
      have hx : x < q + cn (eqP i S (kb ||| tw i)) n := hx
      have hy : y < q + cn (eqP i S (kb ||| tw i)) n := hy
      have he : eqA i S (kb ||| tw i) qu q n x = eqA i S (kb ||| tw i) qu q n y := he
      rcases Nat.lt_or_ge x q with g | g <;> rcases Nat.lt_or_ge y q with g' | g'
      · rw [eqA_old g, eqA_old g'] at he
        exact a6 x y g g' he
      · exfalso
        obtain ⟨k, b1, b2, b3⟩ := eqA_all g' hy
        obtain ⟨k', c1, c2, c3⟩ := a3 x g
        rw [eqA_old g, c2, b3, eqA_new b1 b2] at he
        have : k' = k := nI_nj (by omega) (by omega) he
        subst this
        have := (hP k').mp b2
        omega
      · exfalso
        obtain ⟨k, b1, b2, b3⟩ := eqA_all g hx
        obtain ⟨k', c1, c2, c3⟩ := a3 y g'
        rw [eqA_old g', c2, b3, eqA_new b1 b2] at he
        have : k = k' := nI_nj (by omega) (by omega) he
        subst this
        have := (hP k).mp b2
        omega
      · obtain ⟨k, b1, b2, b3⟩ := eqA_all g hx
        obtain ⟨k', c1, c2, c3⟩ := eqA_all g' hy
        rw [b3, c3, eqA_new b1 b2, eqA_new c1 c2] at he
        have : k = k' := nI_nj (by omega) (by omega) he
        subst this
        rw [b3, c3]
/-- behind the queue: nothing is open by one -/
theorem qInv_end {K n : Nat} {S : Nat → Int32} {z : QS} (H : qInv K n S z.2.2.2.2.1 z) : ∀ j, j < n → ¬ opn (S j) z.2.2.1 = 1 := by
  intro j hj h
  obtain ⟨x, a, b, c⟩ := H.2.2.2.1 j hj h
  omega
theorem upd_same {f : Nat → Int32} {k : Nat} {x : Int32} : upd f k x k = x := pk_us
