/-! ===== a word becomes known, in the reference's own numbers ===== -/
theorem xf_learn {w : Nat → Int32} {S kb v : Int32} {i : Nat} (hi : i < 32) (hS : bt S i = true) (hk : bt kb i = false) : ∀ n, xf (upd w i v) (S &&& (kb ||| tw i)) n = if i < n then xf w (S &&& kb) n ^^^ v else xf w (S &&& kb) n := by
  have hb : ∀ x, bt (S &&& (kb ||| tw i)) x = (bt (S &&& kb) x || decide (x = i)) := by
    intro x
    rw [b_and, b_and, bt_or_tw hi]
    by_cases q : x = i
    · subst q; rw [hS]; simp
    · simp [q]
  intro n
  induction n with
  | zero => rw [if_neg (by omega)]; rfl
  | succ n ih =>
    rw [xf, ih, hb]
    by_cases q : n = i
    · subst q
      have h0 : bt (S &&& kb) n = false := by rw [b_and, hk, Bool.and_false]
      have e1 : (bt (S &&& kb) n || decide (n = n)) = true := by simp
      rw [e1, if_pos rfl, if_neg (Nat.lt_irrefl n), pk_us, if_pos (Nat.lt_succ_self n), xf, h0, if_neg Bool.false_ne_true]
    · rw [pk_un q, xf]
      have h1 : (decide (n = i) : Bool) = false := decide_eq_false q
      rw [h1, Bool.or_false]
      cases hbn : bt (S &&& kb) n with
      | false =>
        rw [if_neg Bool.false_ne_true, if_neg Bool.false_ne_true]
        by_cases g : i < n
        · rw [if_pos g, if_pos (by omega)]
        · rw [if_neg g, if_neg (by omega)]
      | true =>
        rw [if_pos rfl, if_pos rfl]
        by_cases g : i < n
        · rw [if_pos g, if_pos (by omega)]
          refine b_ext (fun z _ => ?_)
          rw [b_xor, b_xor, b_xor, b_xor]
          cases bt (xf w (S &&& kb) n) z <;> cases bt v z <;> cases bt (w n) z <;> rfl
        · rw [if_neg g, if_neg (by omega)]
theorem xk_congr {K : Nat} {w w' : Nat → Int32} {S kb : Int32} (h : ∀ i, bt kb i = true → w i = w' i) : xk K w S kb = xk K w' S kb := by
  unfold xk
  refine xf_congr (fun i _ hb => ?_)
  rw [b_and, Bool.and_eq_true] at hb
  exact h i hb.2
/-- the drop that told a word agrees -/
theorem off_self {K : Nat} {w : Nat → Int32} {S kb V : Int32} {i : Nat} (hi : i < 32) (hiK : i < K) (hS : bt S i = true) (hk : bt kb i = false) : V ^^^ xk K (upd w i (V ^^^ xk K w S kb)) S (kb ||| tw i) = 0 := by
  unfold xk
  rw [xf_learn hi hS hk, if_pos hiK]
  refine b_ext (fun z _ => ?_)
  rw [b_xor, b_xor, b_xor, b_0]
  cases bt V z <;> cases bt (xf w (S &&& kb) K) z <;> rfl
section QRS
variable {K n T0 h : Nat} {S V : Nat → Int32} {y : QS} {wt : Nat → Int32} {tn : Int32} {kn tl od : Nat → Int32} {fd cl : Int32}
/-- no drop that is now open by none, and waits no more, clashes -/
theorem qR_nc (hn : n ≤ 60) (hT : T0 ≤ 40000) (hI : qInv K n S h y) (hR : qR K n T0 h y wt tn kn tl od fd cl) {j i : Nat} (hj : j < n) (hi : i < 32) (hiK : i < K) (e2 : bt (S j) i = true) (e3 : bt y.2.2.1 i = false) :
    ∀ k, k < n → bt (S k) i = true → opn (S k) (y.2.2.1 ||| tw i) = 0 → upd wt j 0 k = 0 → V k ^^^ xk K (upd tl i (V j ^^^ xk K tl (S j) y.2.2.1)) (S k) (y.2.2.1 ||| tw i) = 0 := by
  intro k hk hb ho hw
  by_cases q : k = j
  · subst q
    exact off_self hi hiK e2 e3
  · exfalso
    have hq := qInv_le hI
    rw [pk_un q] at hw
    have h1 := opn_learn (S := S k) hi e3
    rw [ho, hb, if_pos rfl] at h1
    obtain ⟨x, x1, x2, x3⟩ := hI.2.2.2.1 k hk h1
    have h2 := hR.2.2.2.2.2.2.2 x k x1 x2 hk x3
    rw [h2] at hw
    exact nI_ne0 (by omega) (by omega) hw
/-- a drop goes out and is open by none -/
theorem qR_out {cl' : Int32} (hn : n ≤ 60) (hI : qInv K n S h y) (hR : qR K n T0 h y wt tn kn tl od fd cl) (hh : h < y.2.2.2.2.1) {j : Nat} (hj : j < n) (ej : y.2.2.2.1 h = nI j) (hu : unk (S j) y.2.2.1 = 0) (hV : cl' = clA K y.1 (S j) y.2.2.1 (V j) cl) : qR K n T0 (h + 1) (tkF K n S V j y) (upd wt j 0) tn kn tl od fd cl' := by
  obtain ⟨kw, ko, kb, qu, q, c0⟩ := y
  obtain ⟨r1, r2, r3, r4, r5, r6, r7, r8⟩ := hR
  have hu : unk (S j) kb = 0 := hu
  have r5 : cl = c0 := r5
  have ht : tkF K n S V j (kw, ko, kb, qu, q, c0) = (kw, ko, kb, qu, q, clA K kw (S j) kb (V j) c0) := if_pos hu
  have hinj : ∀ x y, x < q → y < q → qu x = qu y → x = y := hI.2.2.2.2.2
  have hh : h < q := hh
  have ej : qu h = nI j := ej
  rw [ht]
  refine ⟨r1, r2, r3, r4, by rw [hV, r5], r6, ?_, ?_⟩
  · intro k hk hx
    by_cases g : k = j
    · subst g; exact pk_us
    · rw [pk_un g]
      refine r7 k hk (fun x x1 x2 x3 => ?_)
      have x3 : qu x = nI k := x3
      by_cases e : x = h
      · subst e
        exact g (nI_nj (by omega) (by omega) (x3.symm.trans ej))
      · exact hx x (by omega) x2 x3
  · intro x k x1 x2 hk x3
    have x2 : x < q := x2
    have x3 : qu x = nI k := x3
    have g : k ≠ j := by
      intro e
      subst e
      have := hinj x h x2 hh (x3.trans ej.symm)
      omega
    rw [pk_un g]
    exact r8 x k (by omega) x2 hk x3
/-- a drop goes out and tells a word -/
theorem qR_learn (hK : K ≤ 32) (hn : n ≤ 60) (hI : qInv K n S h y) (hR : qR K n T0 h y wt tn kn tl od fd cl) (hh : h < y.2.2.2.2.1) {j i : Nat} (hj : j < n) (ej : y.2.2.2.1 h = nI j) (hi : i < 32) (hiK : i < K) (e1 : unk (S j) y.2.2.1 = tw i) (e3 : bt y.2.2.1 i = false) :
    qR K n T0 (h + 1) (tkF K n S V j y) (awA (upd wt j 0) (T0 + y.2.2.2.2.1) (eqP i S (y.2.2.1 ||| tw i)) n) (nI (T0 + y.2.2.2.2.1 + cn (eqP i S (y.2.2.1 ||| tw i)) n)) (upd kn i (vp_nar .boolean 1)) (upd tl i (V j ^^^ xk K tl (S j) y.2.2.1)) (upd od (pc y.2.2.1) (nI i)) (nI (pc y.2.2.1 + 1)) cl := by
  obtain ⟨kw, ko, kb, qu, q, c0⟩ := y
  obtain ⟨r1, r2, r3, r4, r5, r6, r7, r8⟩ := hR
  obtain ⟨a1, a2, a3, a4, a5, a6⟩ := hI
  have hu : ¬ unk (S j) kb = 0 := by rw [show unk (S j) kb = tw i from e1]; exact tw_ne0 i hi
  have e1 : unk (S j) kb = tw i := e1
  have e3 : bt kb i = false := e3
  have ht : tkF K n S V j (kw, ko, kb, qu, q, c0) = (upd kw i (V j ^^^ xk K kw (S j) kb), upd ko (pc kb) (nI i), kb ||| tw i, eqA i S (kb ||| tw i) qu q n, q + cn (eqP i S (kb ||| tw i)) n, c0) := by
    show (if _ then _ else _) = _
    rw [if_neg hu, e1, lo_tw i hi]
  have hh : h < q := hh
  have ej : qu h = nI j := ej
  have a3 : ∀ x, x < q → ∃ j, j < n ∧ qu x = nI j ∧ opn (S j) kb ≤ 1 := a3
  have a6 : ∀ x y, x < q → y < q → qu x = qu y → x = y := a6
  have r2 : ∀ i, bt kb i = true → tl i = kw i := r2
  have r7 : ∀ k, k < n → (∀ x, h ≤ x → x < q → ¬ qu x = nI k) → wt k = 0 := r7
  have r8 : ∀ x k, h ≤ x → x < q → k < n → qu x = nI k → wt k = nI (T0 + x + 1) := r8
  have hpc : pc (kb ||| tw i) = pc kb + 1 := by rw [pc_or_tw hi, e3, if_neg Bool.false_ne_true]
  have hP2 : ∀ k, eqP i S (kb ||| tw i) k = true → opn (S k) kb = 2 := by
    intro k hp
    unfold eqP at hp
    rw [Bool.and_eq_true, decide_eq_true_iff] at hp
    rw [opn_learn hi e3, hp.2, hp.1]; rfl
  rw [ht]
  refine ⟨inF_up hK hiK r1, ?_, ?_, ?_, r5, ?_, ?_, ?_⟩
  · intro i' hb
    show upd tl i _ i' = upd kw i _ i'
    by_cases g : i' = i
    · subst g; rw [pk_us, pk_us, xk_congr r2]
    · rw [pk_un g, pk_un g]
      refine r2 i' ?_
      have hb : bt (kb ||| tw i) i' = true := hb
      rw [bt_or_tw hi] at hb
      simpa [g] using hb
  · intro x hx
    have hx : x < pc (kb ||| tw i) := hx
    show upd od (pc kb) _ x = upd ko (pc kb) _ x
    by_cases g : x = pc kb
    · subst g; rw [pk_us, pk_us]
    · rw [pk_un g, pk_un g]
      exact r3 x (show x < pc kb by omega)
  · show nI (pc kb + 1) = nI (pc (kb ||| tw i))
    rw [hpc]
  · show nI (T0 + q + cn (eqP i S (kb ||| tw i)) n) = nI (T0 + (q + cn (eqP i S (kb ||| tw i)) n))
    rw [Nat.add_assoc]
  · intro k hk hx
    have hx : ∀ x, h + 1 ≤ x → x < q + cn (eqP i S (kb ||| tw i)) n → ¬ eqA i S (kb ||| tw i) qu q n x = nI k := hx
    show awA (upd wt j 0) (T0 + q) (eqP i S (kb ||| tw i)) n k = 0
    cases hp : eqP i S (kb ||| tw i) k with
    | true =>
      exfalso
      have h3 := cn_s hp
      have h4 := cn_k (f := eqP i S (kb ||| tw i)) hk
      exact hx _ (by omega) (by omega) (eqA_new hk hp)
    | false =>
      rw [awA_no hp]
      by_cases g : k = j
      · subst g; exact pk_us
      · rw [pk_un g]
        refine r7 k hk (fun x x1 x2 x3 => ?_)
        by_cases e : x = h
        · subst e
          exact g (nI_nj (by omega) (by omega) (x3.symm.trans ej))
        · exact hx x (by omega) (by omega) (by rw [eqA_old x2]; exact x3)
  · intro x k x1 x2 hk x3
    have y2 : x < q + cn (eqP i S (kb ||| tw i)) n := x2
    have y3 : eqA i S (kb ||| tw i) qu q n x = nI k := x3
    clear x3 x2
    show awA (upd wt j 0) (T0 + q) (eqP i S (kb ||| tw i)) n k = nI (T0 + x + 1)
    rcases Nat.lt_or_ge x q with g | g
    · rw [eqA_old g] at y3
      obtain ⟨k', b1, b2, b3⟩ := a3 x g
      have hkk : k' = k := nI_nj (by omega) (by omega) (b2.symm.trans y3)
      subst hkk
      have hp : eqP i S (kb ||| tw i) k' = false := by
        cases hp : eqP i S (kb ||| tw i) k' with
        | false => rfl
        | true => have := hP2 k' hp; omega
      have gk : k' ≠ j := by
        intro e
        subst e
        have := a6 x h g hh (y3.trans ej.symm)
        omega
      rw [awA_no hp, pk_un gk]
      exact r8 x k' (by omega) g b1 y3
    · obtain ⟨k', b1, b2, b3⟩ := eqA_all g y2
      rw [b3, eqA_new b1 b2] at y3
      have hkk : k' = k := nI_nj (by omega) (by omega) y3
      subst hkk
      rw [awA_yes b1 b2, b3]
      congr 1
      omega
end QRS
/-- at rest -/
def rR (K n T0 : Nat) (kw ko : Nat → Int32) (kb cl0 : Int32) (wt : Nat → Int32) (tn : Int32) (kn tl od : Nat → Int32) (fd cl : Int32) : Prop :=
  inF K kn kb ∧ (∀ i, bt kb i = true → tl i = kw i) ∧ (∀ x, x < pc kb → od x = ko x) ∧ fd = nI (pc kb) ∧ cl = cl0 ∧ tn = nI T0 ∧ (∀ k, k < n → wt k = 0)
theorem qR_rest {K n T0 h : Nat} {y : QS} {wt : Nat → Int32} {tn : Int32} {kn tl od : Nat → Int32} {fd cl : Int32} (hh : h = y.2.2.2.2.1) (hR : qR K n T0 h y wt tn kn tl od fd cl) : rR K n (T0 + y.2.2.2.2.1) y.1 y.2.1 y.2.2.1 y.2.2.2.2.2 wt tn kn tl od fd cl := by
  obtain ⟨r1, r2, r3, r4, r5, r6, r7, r8⟩ := hR
  exact ⟨r1, r2, r3, r4, r5, r6, fun k hk => r7 k hk (fun x x1 x2 _ => by omega)⟩
theorem rest_qR {K n T0 : Nat} {S V kw ko : Nat → Int32} {kb : Int32} {qu : Nat → Int32} {cl0 : Int32} {wt : Nat → Int32} {tn : Int32} {kn tl od : Nat → Int32} {fd cl cl' : Int32} (hR : rR K n T0 kw ko kb cl0 wt tn kn tl od fd cl) (h1 : ¬ opn (S n) kb = 1) (hc : cl' = if opn (S n) kb = 0 then clA K kw (S n) kb (V n) cl else cl) : qR K (n + 1) T0 0 (rcI K n S V kw ko kb qu cl0) (upd wt n 0) tn kn tl od fd cl' := by
  obtain ⟨r1, r2, r3, r4, r5, r6, r7⟩ := hR
  have hz : ∀ x : Nat, ¬ x < (rcI K n S V kw ko kb qu cl0).2.2.2.2.1 := by
    intro x
    show ¬ x < (if opn (S n) kb = 1 then 1 else 0)
    rw [if_neg h1]; omega
  refine ⟨r1, r2, r3, r4, ?_, ?_, ?_, fun x k _ x2 => absurd x2 (hz x)⟩
  · show cl' = (if opn (S n) kb = 0 then clA K kw (S n) kb (V n) cl0 else cl0)
    rw [hc, r5]
  · show tn = nI (T0 + (if opn (S n) kb = 1 then 1 else 0))
    rw [if_neg h1, r6]; rfl
  · intro k hk _
    by_cases g : k = n
    · subst g; exact pk_us
    · rw [pk_un g]; exact r7 k (by omega)
theorem rest_qR1 {K n T0 : Nat} (hn : n < 60) {S V kw ko : Nat → Int32} {kb : Int32} {qu : Nat → Int32} {cl0 : Int32} {wt : Nat → Int32} {tn : Int32} {kn tl od : Nat → Int32} {fd cl : Int32} (hR : rR K n T0 kw ko kb cl0 wt tn kn tl od fd cl) (h1 : opn (S n) kb = 1) : qR K (n + 1) T0 0 (rcI K n S V kw ko kb qu cl0) (upd (upd wt n 0) n (nI (T0 + 1))) (nI (T0 + 1)) kn tl od fd cl := by
  obtain ⟨r1, r2, r3, r4, r5, r6, r7⟩ := hR
  rw [rc_1 h1]
  refine ⟨r1, r2, r3, r4, r5, rfl, ?_, ?_⟩
  · intro k hk hx
    have hx : ∀ x, 0 ≤ x → x < 1 → ¬ upd qu 0 (nI n) x = nI k := hx
    by_cases g : k = n
    · subst g; exact absurd (pk_us : upd qu 0 (nI k) 0 = nI k) (hx 0 (Nat.le_refl 0) (by omega))
    · rw [pk_un g, pk_un g]; exact r7 k (by omega)
  · intro x k _ x2 hk x3
    have x2 : x < 1 := x2
    have x3 : upd qu 0 (nI n) x = nI k := x3
    have : x = 0 := by omega
    subst this
    rw [pk_us] at x3
    have : n = k := nI_nj (by omega) (by omega) x3
    subst this
    rw [pk_us]
