theorem fm_bit (q : Int32) : q < 0 ↔ bt q 31 = true := by
  unfold bt
  rw [Int32.lt_iff_toBitVec_slt]
  show BitVec.slt q.toBitVec 0#32 = true ↔ _
  rw [BitVec.slt_zero_eq_msb, BitVec.msb_eq_getLsbD_last]
theorem fm_x (q : Int32) : q ^^^ 32 < 0 ↔ q < 0 := by
  rw [fm_bit, fm_bit, b_xor]
  have h : bt 32 31 = false := by decide +kernel
  rw [h]; simp
theorem fm_ge {q : Int32} (h : q < 0) (c : 0 ≤ q ^^^ 32) : False := Int32.not_lt.mpr c ((fm_x q).mpr h)
theorem fm_lt {q : Int32} (c : ¬ 0 ≤ q ^^^ 32) : q < 0 := (fm_x q).mp (Int32.not_le.mp c)
theorem fm_tm (q : Int32) : (q - q / 32 * 32).toInt = q.toInt.tmod 32 := by
  have h1 : (32 : Int32).toInt = 32 := by decide
  have h2 := Int32.toInt_lt q
  have h3 := Int32.le_toInt q
  have h4 := Int.tdiv_mul_add_tmod q.toInt 32
  have h5 : -32 < q.toInt.tmod 32 ∧ q.toInt.tmod 32 < 32 := by
    constructor
    · have := Int.lt_tmod_of_pos q.toInt (b := 32) (by decide); omega
    · exact Int.tmod_lt_of_pos _ (by decide)
  rw [Int32.toInt_sub, Int32.toInt_mul, Int32.toInt_div, h1]
  have h6 : (q.toInt.tdiv 32).bmod (2 ^ 32) = q.toInt.tdiv 32 := by
    apply Int.bmod_eq_of_le <;> omega
  rw [h6, Int.sub_bmod_bmod]
  have h8 : (q.toInt - q.toInt.tdiv 32 * 32) = q.toInt.tmod 32 := by omega
  rw [h8]
  apply Int.bmod_eq_of_le <;> omega
theorem fm_p {q : Int32} (h : ¬ q < 0) : ¬ q - q / 32 * 32 < 0 := by
  rw [Int32.lt_iff_toInt_lt] at h ⊢
  rw [fm_tm]
  have h0 : (0 : Int32).toInt = 0 := by decide
  rw [h0] at h ⊢
  have := Int.tmod_nonneg (a := q.toInt) 32 (by omega)
  omega
theorem fm_n {q : Int32} (h : q < 0) (hne : ¬ q - q / 32 * 32 = 0) : q - q / 32 * 32 < 0 := by
  have h0 : (0 : Int32).toInt = 0 := by decide
  have h1 : ¬ (q - q / 32 * 32).toInt = 0 := fun e => hne (Int32.toInt_inj.mp (by rw [e, h0]))
  rw [Int32.lt_iff_toInt_lt] at h ⊢
  rw [fm_tm] at h1 ⊢
  rw [h0] at h ⊢
  have h2 : (-q.toInt).tmod 32 = - q.toInt.tmod 32 := Int.neg_tmod ..
  have h3 := Int.tmod_nonneg (a := -q.toInt) 32 (by omega)
  omega
def ntE (x n : Int32) : Int32 := n + (x.toUInt32 >>> ((1 : Int32).toUInt32 &&& Int32.toUInt32 31)).toInt32
def ntD (x n : Int32) : Int32 := if x ≤ 4 then ntE x n else ntE ((x.toUInt32 >>> ((2 : Int32).toUInt32 &&& Int32.toUInt32 31)).toInt32) (n + 2)
def ntC (x n : Int32) : Int32 := if x ≤ 16 then ntD x n else ntD ((x.toUInt32 >>> ((4 : Int32).toUInt32 &&& Int32.toUInt32 31)).toInt32) (n + 4)
def ntB (x n : Int32) : Int32 := if x ≤ 256 then ntC x n else ntC ((x.toUInt32 >>> ((8 : Int32).toUInt32 &&& Int32.toUInt32 31)).toInt32) (n + 8)
def ntA (x n : Int32) : Int32 := if x ≤ 65536 then ntB x n else ntB ((x.toUInt32 >>> ((16 : Int32).toUInt32 &&& Int32.toUInt32 31)).toInt32) (n + 16)
theorem nt_a : ∀ i, i < 32 → (tw i ^^^ (-1)) &&& (tw i - 1) = nI (2 ^ i - 1) := by decide +kernel
theorem nt_b : ∀ i, i < 32 → ¬ i = 0 → ntA (nI (2 ^ i - 1)) 1 = nI i := by decide +kernel
theorem nt_c : ∀ i, i < 32 → ¬ i = 0 → 0 < nI (2 ^ i - 1) := by decide +kernel
set_option maxHeartbeats 4000000 in
set_option maxRecDepth 100000 in
/-- Integer.bitCount: how many bits -/
theorem c_J6_bitCount_0f7a4 (l : Launch) (x : Int32) : Met l yJ6_bitCount_0f7a4 wsJ6_bitCount_0f7a4 ({ frames := 0, cells := 0, slots := 0, locals := 0 }) (va_Pc [.int x] (fun _ => True)) (vp_Si (fun r => r = nI (pc x))) 0 0 (fun _ => False) := by
  refine Met.ofW (cc := cJ6_bitCount_0f7a4) (maxL := 1) (ret := (some .int)) (by decide) rfl ?_
  intro p e s m args below meth c s₁ B hml hv
  obtain ⟨rfl, -⟩ := hv
  have hx := B.exec
  have hb := B.bytes
  have hr := B.returns
  have hts := atoms_spec (ws := wsJ6_bitCount_0f7a4) B.pre
  have hown : s.vm.findClass RJ6 = some m.cls := findClass_of_methodNamed B.named
  have hlocks := B.notSynchronized
  have hl := lv_entry ([.int x]) (n := 1) (Nat.le_of_ble_eq_true rfl)
  rw [lg_entry_eq]
  generalize (lg_sl ([.int x]) ++ List.replicate (1 - (lg_sl ([.int x])).length) Slot.unset).toArray = ls at hl ⊢
  have hl : lv_has ls 1 [(0, .int x)] := hl
  refine lv_iload_n hx hb dJ6_bitCount_0f7a4_0 rfl (lv_at hl 0 rfl) ?_
  refine lv_iload_n hx hb dJ6_bitCount_0f7a4_1 rfl (lv_at hl 0 rfl) ?_
  refine lv_iconst (v := 1) hx hb dJ6_bitCount_0f7a4_2 (by decide) ?_
  refine lv_iushr (v := (x.toUInt32 >>> ((1 : Int32).toUInt32 &&& Int32.toUInt32 31)).toInt32) hx hb dJ6_bitCount_0f7a4_3 rfl ?_
  refine lv_ldcw hx hb hown (hts (.constant RJ6 265 (1431655765)) (by decide +kernel)) dJ6_bitCount_0f7a4_4 ?_
  refine lv_iand hx hb dJ6_bitCount_0f7a4_7 ?_
  refine lv_isub hx hb dJ6_bitCount_0f7a4_8 ?_
  refine lv_topi (fun x1 e1 => ?_)
  refine lv_istore_n (lv' := [(0, .int x1)]) hx hb dJ6_bitCount_0f7a4_9 rfl hl (by decide) rfl (fun ls hl => ?_)
  refine lv_iload_n hx hb dJ6_bitCount_0f7a4_10 rfl (lv_at hl 0 rfl) ?_
  refine lv_ldcw hx hb hown (hts (.constant RJ6 266 (858993459)) (by decide +kernel)) dJ6_bitCount_0f7a4_11 ?_
  refine lv_iand hx hb dJ6_bitCount_0f7a4_14 ?_
  refine lv_iload_n hx hb dJ6_bitCount_0f7a4_15 rfl (lv_at hl 0 rfl) ?_
  refine lv_iconst (v := 2) hx hb dJ6_bitCount_0f7a4_16 (by decide) ?_
  refine lv_iushr (v := (x1.toUInt32 >>> ((2 : Int32).toUInt32 &&& Int32.toUInt32 31)).toInt32) hx hb dJ6_bitCount_0f7a4_17 rfl ?_
  refine lv_ldcw hx hb hown (hts (.constant RJ6 266 (858993459)) (by decide +kernel)) dJ6_bitCount_0f7a4_18 ?_
  refine lv_iand hx hb dJ6_bitCount_0f7a4_21 ?_
  refine lv_iadd hx hb dJ6_bitCount_0f7a4_22 ?_
  refine lv_topi (fun x2 e2 => ?_)
  refine lv_istore_n (lv' := [(0, .int x2)]) hx hb dJ6_bitCount_0f7a4_23 rfl hl (by decide) rfl (fun ls hl => ?_)
  refine lv_iload_n hx hb dJ6_bitCount_0f7a4_24 rfl (lv_at hl 0 rfl) ?_
  refine lv_iload_n hx hb dJ6_bitCount_0f7a4_25 rfl (lv_at hl 0 rfl) ?_
  refine lv_iconst (v := 4) hx hb dJ6_bitCount_0f7a4_26 (by decide) ?_
  refine lv_iushr (v := (x2.toUInt32 >>> ((4 : Int32).toUInt32 &&& Int32.toUInt32 31)).toInt32) hx hb dJ6_bitCount_0f7a4_27 rfl ?_
  refine lv_iadd hx hb dJ6_bitCount_0f7a4_28 ?_
  refine lv_ldcw hx hb hown (hts (.constant RJ6 267 (252645135)) (by decide +kernel)) dJ6_bitCount_0f7a4_29 ?_
  refine lv_iand hx hb dJ6_bitCount_0f7a4_32 ?_
  refine lv_topi (fun x3 e3 => ?_)
  refine lv_istore_n (lv' := [(0, .int x3)]) hx hb dJ6_bitCount_0f7a4_33 rfl hl (by decide) rfl (fun ls hl => ?_)
  refine lv_iload_n hx hb dJ6_bitCount_0f7a4_34 rfl (lv_at hl 0 rfl) ?_
  refine lv_iload_n hx hb dJ6_bitCount_0f7a4_35 rfl (lv_at hl 0 rfl) ?_
  refine lv_bipush (v := 8) hx hb dJ6_bitCount_0f7a4_36 (by decide) ?_
  refine lv_iushr (v := (x3.toUInt32 >>> ((8 : Int32).toUInt32 &&& Int32.toUInt32 31)).toInt32) hx hb dJ6_bitCount_0f7a4_38 rfl ?_
  refine lv_iadd hx hb dJ6_bitCount_0f7a4_39 ?_
  refine lv_topi (fun x4 e4 => ?_)
  refine lv_istore_n (lv' := [(0, .int x4)]) hx hb dJ6_bitCount_0f7a4_40 rfl hl (by decide) rfl (fun ls hl => ?_)
  refine lv_iload_n hx hb dJ6_bitCount_0f7a4_41 rfl (lv_at hl 0 rfl) ?_
  refine lv_iload_n hx hb dJ6_bitCount_0f7a4_42 rfl (lv_at hl 0 rfl) ?_
  refine lv_bipush (v := 16) hx hb dJ6_bitCount_0f7a4_43 (by decide) ?_
  refine lv_iushr (v := (x4.toUInt32 >>> ((16 : Int32).toUInt32 &&& Int32.toUInt32 31)).toInt32) hx hb dJ6_bitCount_0f7a4_45 rfl ?_
  refine lv_iadd hx hb dJ6_bitCount_0f7a4_46 ?_
  refine lv_topi (fun x5 e5 => ?_)
  refine lv_istore_n (lv' := [(0, .int x5)]) hx hb dJ6_bitCount_0f7a4_47 rfl hl (by decide) rfl (fun ls hl => ?_)
  refine lv_iload_n hx hb dJ6_bitCount_0f7a4_48 rfl (lv_at hl 0 rfl) ?_
  refine lv_bipush (v := 63) hx hb dJ6_bitCount_0f7a4_49 (by decide) ?_
  refine lv_iand hx hb dJ6_bitCount_0f7a4_51 ?_
  exact W.iret (v := x5 &&& 63) hx hb hr (fun t ht hW => ⟨x5 &&& 63, rfl, swar e1 e2 e3 e4 e5, ht⟩) (fun _ h9 => by cases h9) dJ6_bitCount_0f7a4_52
/-- the row's size less one -/
def fmF (k : Int32) : Int32 := if k - k / 32 * 32 < 0 then k - k / 32 * 32 + 32 else k - k / 32 * 32
set_option maxHeartbeats 4000000 in
set_option maxRecDepth 100000 in
/-- Math.floorMod by 32 -/
theorem c_J9_floorMod_7cf53 (l : Launch) (x : Int32) : Met l yJ9_floorMod_7cf53 wsJ9_floorMod_7cf53 ({ frames := 0, cells := 0, slots := 0, locals := 0 }) (va_Pc [.int x, .int 32] (fun _ => True)) (vp_Si (fun r => r = fmF x)) 0 0 (fun _ => False) := by
  refine ofWF (cc := cJ9_floorMod_7cf53) (maxL := 3) (ret := (some .int)) (by decide +kernel) rfl ?_
  intro p e s m args below meth c s₁ B hml hv
  obtain ⟨rfl, -⟩ := hv
  have hx := B.exec
  have hb := B.bytes
  have hr := B.returns
  have hts := atoms_spec (ws := wsJ9_floorMod_7cf53) B.pre
  have hown : s.vm.findClass RJ9 = some m.cls := findClass_of_methodNamed B.named
  have hlocks := B.notSynchronized
  have hl := lv_entry ([.int x, .int 32]) (n := 3) (Nat.le_of_ble_eq_true rfl)
  rw [lg_entry_eq]
  generalize (lg_sl ([.int x, .int 32]) ++ List.replicate (3 - (lg_sl ([.int x, .int 32])).length) Slot.unset).toArray = ls at hl ⊢
  have hl : lv_has ls 3 [(0, .int x), (1, .int 32)] := hl
  refine lv_iload_n hx hb dJ9_floorMod_7cf53_0 rfl (lv_at hl 0 rfl) ?_
  refine lv_iload_n hx hb dJ9_floorMod_7cf53_1 rfl (lv_at hl 1 rfl) ?_
  refine lv_irem hx hb dJ9_floorMod_7cf53_2 (by decide) ?_
  refine lv_topi (fun q eq => ?_)
  refine lv_istore_n (lv' := [(2, .int q), (0, .int x), (1, .int 32)]) hx hb dJ9_floorMod_7cf53_3 rfl hl (by decide) rfl (fun ls hl => ?_)
  refine lv_iload_n hx hb dJ9_floorMod_7cf53_4 rfl (lv_at hl 1 rfl) ?_
  refine lv_iload_n hx hb dJ9_floorMod_7cf53_5 rfl (lv_at hl 2 rfl) ?_
  refine lv_ixor hx hb dJ9_floorMod_7cf53_6 ?_
  refine lv_if_ge (tgt := 18) hx hb dJ9_floorMod_7cf53_7 (by decide) (fun c1 => ?_) (fun c1 => ?_)
  · skip
    refine lv_iload_n hx hb dJ9_floorMod_7cf53_18 rfl (lv_at hl 0 rfl) ?_
    exact W.iret (v := q) hx hb hr (fun t ht hW => ⟨q, rfl, by show q = fmF x; unfold fmF; rw [← eq, if_neg (by rw [eq]; exact fm_p (fun h => fm_ge h c1))], ht⟩) (fun _ h9 => by cases h9) dJ9_floorMod_7cf53_19
  · skip
    refine lv_iload_n hx hb dJ9_floorMod_7cf53_10 rfl (lv_at hl 0 rfl) ?_
    refine lv_if_eq (tgt := 18) hx hb dJ9_floorMod_7cf53_11 (by decide) (fun c2 => ?_) (fun c2 => ?_)
    · skip
      refine lv_iload_n hx hb dJ9_floorMod_7cf53_18 rfl (lv_at hl 0 rfl) ?_
      exact W.iret (v := q) hx hb hr (fun t ht hW => ⟨q, rfl, by show q = fmF x; unfold fmF; rw [← eq, if_neg (by rw [c2]; decide)], ht⟩) (fun _ h9 => by cases h9) dJ9_floorMod_7cf53_19
    · skip
      refine lv_iload_n hx hb dJ9_floorMod_7cf53_14 rfl (lv_at hl 0 rfl) ?_
      refine lv_iload_n hx hb dJ9_floorMod_7cf53_15 rfl (lv_at hl 2 rfl) ?_
      refine lv_iadd hx hb dJ9_floorMod_7cf53_16 ?_
      exact W.iret (v := q + 32) hx hb hr (fun t ht hW => ⟨q + 32, rfl, by show q + 32 = fmF x; unfold fmF; rw [← eq, if_pos (by rw [eq] at c2 ⊢; exact fm_n (fm_lt c1) c2)], ht⟩) (fun _ h9 => by cases h9) dJ9_floorMod_7cf53_17
set_option maxHeartbeats 4000000 in
set_option maxRecDepth 100000 in
/-- Integer.numberOfTrailingZeros of one bit -/
theorem c_J6_numberOfTrailingZeros_0f7a4 (l : Launch) (i : Nat) (hi : i < 32) : Met l yJ6_numberOfTrailingZeros_0f7a4 wsJ6_numberOfTrailingZeros_0f7a4 ({ frames := 0, cells := 0, slots := 0, locals := 0 }) (va_Pc [.int (tw i)] (fun _ => True)) (vp_Si (fun r => r = nI i)) 0 0 (fun _ => False) := by
  refine Met.ofW (cc := cJ6_numberOfTrailingZeros_0f7a4) (maxL := 2) (ret := (some .int)) (by decide) rfl ?_
  intro p e s m args below meth c s₁ B hml hv
  obtain ⟨rfl, -⟩ := hv
  have hx := B.exec
  have hb := B.bytes
  have hr := B.returns
  have hts := atoms_spec (ws := wsJ6_numberOfTrailingZeros_0f7a4) B.pre
  have hown : s.vm.findClass RJ6 = some m.cls := findClass_of_methodNamed B.named
  have hlocks := B.notSynchronized
  have hl := lv_entry ([.int (tw i)]) (n := 2) (Nat.le_of_ble_eq_true rfl)
  rw [lg_entry_eq]
  generalize (lg_sl ([.int (tw i)]) ++ List.replicate (2 - (lg_sl ([.int (tw i)])).length) Slot.unset).toArray = ls at hl ⊢
  have hl : lv_has ls 2 [(0, .int (tw i))] := hl
  refine lv_iload_n hx hb dJ6_numberOfTrailingZeros_0f7a4_0 rfl (lv_at hl 0 rfl) ?_
  refine lv_iconst (v := (-1)) hx hb dJ6_numberOfTrailingZeros_0f7a4_1 (by decide) ?_
  refine lv_ixor hx hb dJ6_numberOfTrailingZeros_0f7a4_2 ?_
  refine lv_iload_n hx hb dJ6_numberOfTrailingZeros_0f7a4_3 rfl (lv_at hl 0 rfl) ?_
  refine lv_iconst (v := 1) hx hb dJ6_numberOfTrailingZeros_0f7a4_4 (by decide) ?_
  refine lv_isub hx hb dJ6_numberOfTrailingZeros_0f7a4_5 ?_
  refine lv_iand hx hb dJ6_numberOfTrailingZeros_0f7a4_6 ?_
  refine lv_topi (fun y ey => ?_)
  refine lv_istore_n (lv' := [(0, .int y)]) hx hb dJ6_numberOfTrailingZeros_0f7a4_7 rfl hl (by decide) rfl (fun ls hl => ?_)
  have hy : y = nI (2 ^ i - 1) := ey.trans (nt_a i hi)
  by_cases h0 : i = 0
  · skip
    subst h0
    have hy : y = 0 := hy
    subst hy
    refine lv_iload_n hx hb dJ6_numberOfTrailingZeros_0f7a4_8 rfl (lv_at hl 0 rfl) ?_
    refine lv_if_gt (tgt := 17) hx hb dJ6_numberOfTrailingZeros_0f7a4_9 (by decide) (fun c0 => ?_) (fun c0 => ?_)
    · skip
      exact absurd c0 (by decide)
    · skip
      refine lv_iload_n hx hb dJ6_numberOfTrailingZeros_0f7a4_12 rfl (lv_at hl 0 rfl) ?_
      refine lv_bipush (v := 32) hx hb dJ6_numberOfTrailingZeros_0f7a4_13 (by decide) ?_
      refine lv_iand hx hb dJ6_numberOfTrailingZeros_0f7a4_15 ?_
      exact W.iret (v := 0 &&& 32) hx hb hr (fun t ht hW => ⟨0 &&& 32, rfl, by decide, ht⟩) (fun _ h9 => by cases h9) dJ6_numberOfTrailingZeros_0f7a4_16
  · skip
    refine lv_iload_n hx hb dJ6_numberOfTrailingZeros_0f7a4_8 rfl (lv_at hl 0 rfl) ?_
    refine lv_if_gt (tgt := 17) hx hb dJ6_numberOfTrailingZeros_0f7a4_9 (by decide) (fun c0 => ?_) (fun c0 => ?_)
    · skip
      refine lv_iconst (v := 1) hx hb dJ6_numberOfTrailingZeros_0f7a4_17 (by decide) ?_
      refine lv_istore_n (lv' := [(1, .int 1), (0, .int y)]) hx hb dJ6_numberOfTrailingZeros_0f7a4_18 rfl hl (by decide) rfl (fun ls hl => ?_)
      have k74 : ∀ (x n : Int32) (ls : Array Slot), ntE x n = nI i → lv_has ls 2 [(1, .int n), (0, .int x)] → W p l e (headSpec wsJ6_numberOfTrailingZeros_0f7a4 ({ frames := 0, cells := 0, slots := 0, locals := 0 })).room s m ([.int (tw i)] : List Value).toArray below meth c s.heap [] 0 0 (MQ below (vp_Si (fun r => r = nI i)) ([.int (tw i)] : List Value).toArray s 0 0 (fun _ => False)) (F0 m 74 ls []) := by
        intro x n ls hE hl
        refine lv_iload_n hx hb dJ6_numberOfTrailingZeros_0f7a4_74 rfl (lv_at hl 0 rfl) ?_
        refine lv_iload_n hx hb dJ6_numberOfTrailingZeros_0f7a4_75 rfl (lv_at hl 1 rfl) ?_
        refine lv_iconst (v := 1) hx hb dJ6_numberOfTrailingZeros_0f7a4_76 (by decide) ?_
        refine lv_iushr (v := (x.toUInt32 >>> ((1 : Int32).toUInt32 &&& Int32.toUInt32 31)).toInt32) hx hb dJ6_numberOfTrailingZeros_0f7a4_77 rfl ?_
        refine lv_iadd hx hb dJ6_numberOfTrailingZeros_0f7a4_78 ?_
        exact W.iret (v := n + ((x.toUInt32 >>> ((1 : Int32).toUInt32 &&& Int32.toUInt32 31)).toInt32)) hx hb hr (fun t ht hW => ⟨n + ((x.toUInt32 >>> ((1 : Int32).toUInt32 &&& Int32.toUInt32 31)).toInt32), rfl, hE, ht⟩) (fun _ h9 => by cases h9) dJ6_numberOfTrailingZeros_0f7a4_79
      have k62 : ∀ (x n : Int32) (ls : Array Slot), ntD x n = nI i → lv_has ls 2 [(1, .int n), (0, .int x)] → W p l e (headSpec wsJ6_numberOfTrailingZeros_0f7a4 ({ frames := 0, cells := 0, slots := 0, locals := 0 })).room s m ([.int (tw i)] : List Value).toArray below meth c s.heap [] 0 0 (MQ below (vp_Si (fun r => r = nI i)) ([.int (tw i)] : List Value).toArray s 0 0 (fun _ => False)) (F0 m 62 ls []) := by
        intro x n ls hE hl
        unfold ntD at hE
        refine lv_iload_n hx hb dJ6_numberOfTrailingZeros_0f7a4_62 rfl (lv_at hl 1 rfl) ?_
        refine lv_iconst (v := 4) hx hb dJ6_numberOfTrailingZeros_0f7a4_63 (by decide) ?_
        refine lv_icmp_le (tgt := 74) hx hb dJ6_numberOfTrailingZeros_0f7a4_64 (by decide) (fun c9 => ?_) (fun c9 => ?_)
        · skip
          rw [if_pos c9] at hE
          exact k74 x n ls hE (lv_sub hl [0, 1] rfl)
        · skip
          rw [if_neg c9] at hE
          refine lv_iinc (v := n + 2) (lv' := [(1, .int (n + 2)), (0, .int x)]) hx hb dJ6_numberOfTrailingZeros_0f7a4_67 hl (k := 0) rfl (rfl) (by decide) rfl (fun ls hl => ?_)
          refine lv_iload_n hx hb dJ6_numberOfTrailingZeros_0f7a4_70 rfl (lv_at hl 1 rfl) ?_
          refine lv_iconst (v := 2) hx hb dJ6_numberOfTrailingZeros_0f7a4_71 (by decide) ?_
          refine lv_iushr (v := (x.toUInt32 >>> ((2 : Int32).toUInt32 &&& Int32.toUInt32 31)).toInt32) hx hb dJ6_numberOfTrailingZeros_0f7a4_72 rfl ?_
          refine lv_istore_n (lv' := [(0, .int ((x.toUInt32 >>> ((2 : Int32).toUInt32 &&& Int32.toUInt32 31)).toInt32)), (1, .int (n + 2))]) hx hb dJ6_numberOfTrailingZeros_0f7a4_73 rfl hl (by decide) rfl (fun ls hl => ?_)
          exact k74 _ _ ls hE (lv_sub hl [1, 0] rfl)
      have k49 : ∀ (x n : Int32) (ls : Array Slot), ntC x n = nI i → lv_has ls 2 [(1, .int n), (0, .int x)] → W p l e (headSpec wsJ6_numberOfTrailingZeros_0f7a4 ({ frames := 0, cells := 0, slots := 0, locals := 0 })).room s m ([.int (tw i)] : List Value).toArray below meth c s.heap [] 0 0 (MQ below (vp_Si (fun r => r = nI i)) ([.int (tw i)] : List Value).toArray s 0 0 (fun _ => False)) (F0 m 49 ls []) := by
        intro x n ls hE hl
        unfold ntC at hE
        refine lv_iload_n hx hb dJ6_numberOfTrailingZeros_0f7a4_49 rfl (lv_at hl 1 rfl) ?_
        refine lv_bipush (v := 16) hx hb dJ6_numberOfTrailingZeros_0f7a4_50 (by decide) ?_
        refine lv_icmp_le (tgt := 62) hx hb dJ6_numberOfTrailingZeros_0f7a4_52 (by decide) (fun c9 => ?_) (fun c9 => ?_)
        · skip
          rw [if_pos c9] at hE
          exact k62 x n ls hE (lv_sub hl [0, 1] rfl)
        · skip
          rw [if_neg c9] at hE
          refine lv_iinc (v := n + 4) (lv' := [(1, .int (n + 4)), (0, .int x)]) hx hb dJ6_numberOfTrailingZeros_0f7a4_55 hl (k := 0) rfl (rfl) (by decide) rfl (fun ls hl => ?_)
          refine lv_iload_n hx hb dJ6_numberOfTrailingZeros_0f7a4_58 rfl (lv_at hl 1 rfl) ?_
          refine lv_iconst (v := 4) hx hb dJ6_numberOfTrailingZeros_0f7a4_59 (by decide) ?_
          refine lv_iushr (v := (x.toUInt32 >>> ((4 : Int32).toUInt32 &&& Int32.toUInt32 31)).toInt32) hx hb dJ6_numberOfTrailingZeros_0f7a4_60 rfl ?_
          refine lv_istore_n (lv' := [(0, .int ((x.toUInt32 >>> ((4 : Int32).toUInt32 &&& Int32.toUInt32 31)).toInt32)), (1, .int (n + 4))]) hx hb dJ6_numberOfTrailingZeros_0f7a4_61 rfl hl (by decide) rfl (fun ls hl => ?_)
          exact k62 _ _ ls hE (lv_sub hl [1, 0] rfl)
      have k34 : ∀ (x n : Int32) (ls : Array Slot), ntB x n = nI i → lv_has ls 2 [(1, .int n), (0, .int x)] → W p l e (headSpec wsJ6_numberOfTrailingZeros_0f7a4 ({ frames := 0, cells := 0, slots := 0, locals := 0 })).room s m ([.int (tw i)] : List Value).toArray below meth c s.heap [] 0 0 (MQ below (vp_Si (fun r => r = nI i)) ([.int (tw i)] : List Value).toArray s 0 0 (fun _ => False)) (F0 m 34 ls []) := by
        intro x n ls hE hl
        unfold ntB at hE
        refine lv_iload_n hx hb dJ6_numberOfTrailingZeros_0f7a4_34 rfl (lv_at hl 1 rfl) ?_
        refine lv_sipush (v := 256) hx hb dJ6_numberOfTrailingZeros_0f7a4_35 (by decide) ?_
        refine lv_icmp_le (tgt := 49) hx hb dJ6_numberOfTrailingZeros_0f7a4_38 (by decide) (fun c9 => ?_) (fun c9 => ?_)
        · skip
          rw [if_pos c9] at hE
          exact k49 x n ls hE (lv_sub hl [0, 1] rfl)
        · skip
          rw [if_neg c9] at hE
          refine lv_iinc (v := n + 8) (lv' := [(1, .int (n + 8)), (0, .int x)]) hx hb dJ6_numberOfTrailingZeros_0f7a4_41 hl (k := 0) rfl (rfl) (by decide) rfl (fun ls hl => ?_)
          refine lv_iload_n hx hb dJ6_numberOfTrailingZeros_0f7a4_44 rfl (lv_at hl 1 rfl) ?_
          refine lv_bipush (v := 8) hx hb dJ6_numberOfTrailingZeros_0f7a4_45 (by decide) ?_
          refine lv_iushr (v := (x.toUInt32 >>> ((8 : Int32).toUInt32 &&& Int32.toUInt32 31)).toInt32) hx hb dJ6_numberOfTrailingZeros_0f7a4_47 rfl ?_
          refine lv_istore_n (lv' := [(0, .int ((x.toUInt32 >>> ((8 : Int32).toUInt32 &&& Int32.toUInt32 31)).toInt32)), (1, .int (n + 8))]) hx hb dJ6_numberOfTrailingZeros_0f7a4_48 rfl hl (by decide) rfl (fun ls hl => ?_)
          exact k49 _ _ ls hE (lv_sub hl [1, 0] rfl)
      have k19 : ∀ (x n : Int32) (ls : Array Slot), ntA x n = nI i → lv_has ls 2 [(1, .int n), (0, .int x)] → W p l e (headSpec wsJ6_numberOfTrailingZeros_0f7a4 ({ frames := 0, cells := 0, slots := 0, locals := 0 })).room s m ([.int (tw i)] : List Value).toArray below meth c s.heap [] 0 0 (MQ below (vp_Si (fun r => r = nI i)) ([.int (tw i)] : List Value).toArray s 0 0 (fun _ => False)) (F0 m 19 ls []) := by
        intro x n ls hE hl
        unfold ntA at hE
        refine lv_iload_n hx hb dJ6_numberOfTrailingZeros_0f7a4_19 rfl (lv_at hl 1 rfl) ?_
        refine lv_ldcw hx hb hown (hts (.constant RJ6 264 (65536)) (by decide +kernel)) dJ6_numberOfTrailingZeros_0f7a4_20 ?_
        refine lv_icmp_le (tgt := 34) hx hb dJ6_numberOfTrailingZeros_0f7a4_23 (by decide) (fun c9 => ?_) (fun c9 => ?_)
        · skip
          rw [if_pos c9] at hE
          exact k34 x n ls hE (lv_sub hl [0, 1] rfl)
        · skip
          rw [if_neg c9] at hE
          refine lv_iinc (v := n + 16) (lv' := [(1, .int (n + 16)), (0, .int x)]) hx hb dJ6_numberOfTrailingZeros_0f7a4_26 hl (k := 0) rfl (rfl) (by decide) rfl (fun ls hl => ?_)
          refine lv_iload_n hx hb dJ6_numberOfTrailingZeros_0f7a4_29 rfl (lv_at hl 1 rfl) ?_
          refine lv_bipush (v := 16) hx hb dJ6_numberOfTrailingZeros_0f7a4_30 (by decide) ?_
          refine lv_iushr (v := (x.toUInt32 >>> ((16 : Int32).toUInt32 &&& Int32.toUInt32 31)).toInt32) hx hb dJ6_numberOfTrailingZeros_0f7a4_32 rfl ?_
          refine lv_istore_n (lv' := [(0, .int ((x.toUInt32 >>> ((16 : Int32).toUInt32 &&& Int32.toUInt32 31)).toInt32)), (1, .int (n + 16))]) hx hb dJ6_numberOfTrailingZeros_0f7a4_33 rfl hl (by decide) rfl (fun ls hl => ?_)
          exact k34 _ _ ls hE (lv_sub hl [1, 0] rfl)
      exact k19 y 1 ls (by rw [hy]; exact nt_b i hi h0) (lv_sub hl [0, 1] rfl)
    · skip
      exact absurd (by rw [hy]; exact nt_c i hi h0) c0
theorem fmF_K (k : Int32) : ∃ K : Nat, 1 ≤ K ∧ K ≤ 32 ∧ fmF k + 1 = nI K := by
  have h0 : (0 : Int32).toInt = 0 := by decide
  have h1 : (32 : Int32).toInt = 32 := by decide
  have ht := fm_tm k
  have h5 : -32 < k.toInt.tmod 32 ∧ k.toInt.tmod 32 < 32 := by
    constructor
    · have := Int.lt_tmod_of_pos k.toInt (b := 32) (by decide); omega
    · exact Int.tmod_lt_of_pos _ (by decide)
  have hb : 0 ≤ (fmF k).toInt ∧ (fmF k).toInt < 32 := by
    unfold fmF
    split
    · rename_i h
      rw [Int32.lt_iff_toInt_lt, ht, h0] at h
      rw [Int32.toInt_add, ht, h1, Int.bmod_eq_of_le (by omega) (by omega)]
      omega
    · rename_i h
      rw [Int32.lt_iff_toInt_lt, ht, h0] at h
      rw [ht]
      omega
  obtain ⟨j, hj, e⟩ := nI_of (x := fmF k) (by rw [Int32.lt_iff_toInt_lt, h0]; omega)
  have hj2 : j < 32 := by
    rw [e, nI_toInt hj] at hb
    omega
  exact ⟨j + 1, by omega, by omega, by rw [e, nI_succ]⟩
