/-! ===== what the law keeps between the class and the reference ===== -/
theorem rn_end {K n : Nat} (hK : K ≤ 32) (hn : n ≤ 60) {S V : Nat → Int32} (hS : ∀ j, j < n → ∀ i, bt (S j) i = true → i < K) : ∀ f h y, f + h = 60 → qInv K n S h y → qInv K n S (rnF K n S V f h y).2.2.2.2.1 (rnF K n S V f h y) := by
  intro f
  induction f with
  | zero =>
    intro h y hf hI
    have h1 := qInv_le hI
    have h2 : h ≤ y.2.2.2.2.1 := hI.2.1
    have : h = y.2.2.2.2.1 := by omega
    rw [show rnF K n S V 0 h y = y from rfl, ← this]
    exact hI
  | succ f ih =>
    intro h y hf hI
    by_cases g : h < y.2.2.2.2.1
    · obtain ⟨j, hj, ej, -⟩ := hI.2.2.1 h g
      rw [rnF, if_pos g, ej, nI_clamp (by omega)]
      exact ih (h + 1) _ (by omega) (qInv_tk hK hn hS hI g hj ej)
    · rw [rnF, if_neg g]
      have h2 : h ≤ y.2.2.2.2.1 := hI.2.1
      have : h = y.2.2.2.2.1 := by omega
      rw [← this]
      exact hI
def lwR (K n T : Nat) (row S V kw ko : Nat → Int32) (kb cl : Int32) (row2 sd vl wt : Nat → Int32) (tn : Int32) (kn tl od : Nat → Int32) (fd cl2 : Int32) : Prop :=
  n ≤ 60 ∧ (∀ i, i < K → row i = row2 i) ∧ (∀ k, k < n → S k = setA K (sd k)) ∧ (∀ k, k < n → V k = vl k) ∧ (∀ i, bt kb i = true → i < K) ∧ (∀ k, k < n → ¬ opn (S k) kb = 1) ∧ rR K n T kw ko kb cl wt tn kn tl od fd cl2
theorem lw_0 {K : Nat} : lwR K 0 0 (fun _ => 0) (fun _ => 0) (fun _ => 0) (fun _ => 0) (fun _ => 0) 0 0 (fun _ => 0) (fun _ => 0) (fun _ => 0) (fun _ => 0) 0 (fun _ => 0) (fun _ => 0) (fun _ => 0) 0 0 := by
  refine ⟨by omega, fun _ _ => rfl, fun k hk => absurd hk (by omega), fun k hk => absurd hk (by omega), fun i h => ?_, fun k hk => absurd hk (by omega), inF_0 (fun _ _ => rfl), fun i h => ?_, fun x hx => ?_, ?_, rfl, rfl, fun _ _ => rfl⟩
  · rw [b_0] at h; cases h
  · rfl
  · rfl
  · rw [pc_0]; rfl
theorem pt_congr {K : Nat} (hK : K ≤ 32) {row row2 : Nat → Int32} {i v : Int32} (h : ∀ x, x < K → row x = row2 x) : ∀ x, x < K → ptF K row i v x = ptF K row2 i v x := by
  intro x hx
  unfold ptF
  split
  · by_cases q : x = i.toNatClampNeg
    · subst q; rw [pk_us, pk_us]
    · rw [pk_un q, pk_un q]; exact h x hx
  · exact h x hx
theorem xf_row {K : Nat} {row row2 : Nat → Int32} {b : Int32} (h : ∀ x, x < K → row x = row2 x) : xf row b K = xf row2 b K := xf_congr (fun i hi _ => h i hi)
theorem wd_eq {K : Nat} {kb : Int32} {kw tl : Nat → Int32} {i : Int32} (h : ∀ i, bt kb i = true → tl i = kw i) : wdF K kb kw i = wdF K kb tl i := by
  unfold wdF
  split
  · rename_i g; rw [h _ g.2]
  · rfl
theorem od_eq {n : Nat} (hn : n ≤ 60) {ko od : Nat → Int32} {i : Int32} (h : ∀ x, x < n → od x = ko x) : odF n ko i = odF n od i := by
  unfold odF
  split
  · rename_i g
    obtain ⟨j, hj, e⟩ := inR_ix hn g
    subst e
    rw [nI_clamp (by omega), h j hj]
  · rfl
theorem op_eq {n : Nat} (hn : n ≤ 60) {S S' : Nat → Int32} {kb i : Int32} (h : ∀ k, k < n → S k = S' k) : opF n S kb i = opF n S' kb i := by
  unfold opF
  split
  · rename_i g
    obtain ⟨j, hj, e⟩ := inR_ix hn g
    subst e
    rw [nI_clamp (by omega), h j hj]
  · rfl
theorem pc_leK {K : Nat} (hK : K ≤ 32) {kb : Int32} (h : ∀ i, bt kb i = true → i < K) : pc kb ≤ K := by
  rw [← pc_K hK h]; exact cn_le _ _
theorem lw_S {K n T : Nat} (hK1 : 1 ≤ K) (hK2 : K ≤ 32) {S sd : Nat → Int32} (h : ∀ k, k < n → S k = setA K (sd k)) : ∀ j, j < n → ∀ i, bt (S j) i = true → i < K := by
  intro j hj i hb
  rw [h j hj] at hb
  exact setA_lt hK1 hK2 _ hb
/-- the rest of the script -/
theorem lw_more {L i : Nat} (hL : L ≤ 1537) (hi : i ≤ 1540) (h : ¬ nI L - 3 < nI i) : i + 3 ≤ L := by
  rw [Int32.lt_iff_toInt_lt, show (3 : Int32) = nI 3 from rfl, pk_sub_toInt (by omega) (by omega), nI_toInt (by omega)] at h
  omega
theorem lw_done {L i : Nat} (hL : L ≤ 1537) (hi : i ≤ 1540) (h : nI L - 3 < nI i) : ¬ i + 3 ≤ L := by
  rw [Int32.lt_iff_toInt_lt, show (3 : Int32) = nI 3 from rfl, pk_sub_toInt (by omega) (by omega), nI_toInt (by omega)] at h
  omega
def lwC (L : Nat) (xs : Nat → Int32) : Int32 := if 0 < L then xs 0 else 0
theorem xFbX {av : List Value} {b L : Nat} {xs : Nat → Int32} : FrameBlind (va_Pc av (fun U => va_X b L xs U U.heap)) :=
  fun a U g mk q => ⟨q.1, va_X.moved (u := U) (U := U.calling g mk a) (Vm.Alike.refl U.vm) q.2⟩
set_option maxHeartbeats 4000000 in
set_option maxRecDepth 100000 in
/-- cell(script, 0) -/
theorem c_L_cell (l : Launch) (b L : Nat) (xs : Nat → Int32) (hL : L ≤ 1537) : Met l yL_cell wsL_cell ({ frames := 0, cells := 0, slots := 0, locals := 0 }) (va_Pc [.ref b, .int 0] (fun U => va_X b L xs U U.heap)) (vp_Si (fun r => r = lwC L xs)) 0 0 (fun _ => False) := by
  refine Met.ofW (cc := cL_cell) (maxL := 2) (ret := (some .int)) (by decide) rfl ?_
  intro p e s m args below meth c s₁ B hml hv
  obtain ⟨rfl, hX⟩ := hv
  have hx := B.exec
  have hb := B.bytes
  have hr := B.returns
  have hts := atoms_spec (ws := wsL_cell) B.pre
  have hown : s.vm.findClass RL = some m.cls := findClass_of_methodNamed B.named
  have hlocks := B.notSynchronized
  have hbl : b < s.heap.size := by
    obtain ⟨scr, h1, -⟩ := hX
    exact (Array.getElem?_eq_some_iff.mp h1).1
  have hbA : ¬ (fun q : Nat => s.heap.size ≤ q) b := Nat.not_le.mpr hbl
  have hS : va_S (fun q : Nat => s.heap.size ≤ q) s.heap s.heap [] := va_S.rf
  have hl := lv_entry ([.ref b, .int 0]) (n := 2) (Nat.le_of_ble_eq_true rfl)
  rw [lg_entry_eq]
  generalize (lg_sl ([.ref b, .int 0]) ++ List.replicate (2 - (lg_sl ([.ref b, .int 0])).length) Slot.unset).toArray = ls at hl ⊢
  have hl : lv_has ls 2 [(0, .ref b), (1, .int 0)] := hl
  refine lv_iload_n hx hb dL_cell_0 rfl (lv_at hl 1 rfl) ?_
  refine lv_aload_n hx hb dL_cell_1 rfl (lv_at hl 0 rfl) ?_
  refine va_slen hx hb hX hbl hbA hS dL_cell_2 ?_
  refine lv_icmp_ge (tgt := 12) hx hb dL_cell_3 (by decide) (fun c1 => ?_) (fun c1 => ?_)
  · refine lv_iconst (v := 0) hx hb dL_cell_12 (by decide) ?_
    have h0 : ¬ 0 < L := fun h => absurd c1 (nI_ge (a := 0) (b := L) h (by omega))
    exact W.iret (v := 0) hx hb hr (fun t ht hW => ⟨0, rfl, by show (0 : Int32) = lwC L xs; rw [lwC, if_neg h0], ht⟩) (fun _ h9 => by cases h9) dL_cell_13
  · have h0 : 0 < L := by
      rcases Nat.lt_or_ge 0 L with g | g
      · exact g
      · exact absurd (nI_le (a := L) (b := 0) g (by omega)) c1
    refine lv_aload_n hx hb dL_cell_6 rfl (lv_at hl 0 rfl) ?_
    refine lv_iload_n hx hb dL_cell_7 rfl (lv_at hl 1 rfl) ?_
    refine va_sld hx hb hX hbl hbA hS (vp_in_nI (n := 0) h0 (by omega)) dL_cell_8 ?_
    refine lv_goto (tgt := 13) hx hb dL_cell_9 (by decide) ?_
    exact W.iret (v := xs ((0 : Int32).toNatClampNeg)) hx hb hr (fun t ht hW => ⟨_, rfl, by show xs ((0 : Int32).toNatClampNeg) = lwC L xs; rw [lwC, if_pos h0]; rfl, ht⟩) (fun _ h9 => by cases h9) dL_cell_13
