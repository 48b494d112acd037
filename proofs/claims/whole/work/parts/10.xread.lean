abbrev inR (K : Nat) (i : Int32) : Prop := 0 ≤ i ∧ i < nI K
theorem inR_of {K : Nat} {i : Int32} (h : ¬ i < 0) (h2 : ¬ nI K ≤ i) : inR K i := ⟨Int32.not_lt.mp h, Int32.not_le.mp h2⟩
theorem inR_neg {K : Nat} {i : Int32} (h : inR K i) (h2 : i < 0) : False := Int32.not_lt.mpr h.1 h2
theorem inR_ge {K : Nat} {i : Int32} (h : inR K i) (h2 : nI K ≤ i) : False := Int32.not_lt.mpr h2 h.2
theorem inR_ix {K : Nat} (hK : K ≤ 60) {i : Int32} (h : inR K i) : ∃ j : Nat, j < K ∧ i = nI j := by
  rcases pk_ix i (n := K) (by omega) with a | a | a
  · exact (inR_neg h a).elim
  · exact (inR_ge h a).elim
  · exact a
theorem inR_nI {K j : Nat} (hK : K ≤ 60) (h : j < K) : inR K (nI j) := ⟨nI_pos' (by omega), nI_lt h (by omega)⟩
theorem dg_pos (d : Nat) (h : 1 ≤ d) : 0 < (d + 1) * d := Nat.mul_pos (by omega) h
theorem dg_sm (d : Nat) (h : d ≤ 32) : (d + 1) * d < 2 ^ 31 := by
  have : (d + 1) * d ≤ 33 * 32 := Nat.mul_le_mul (by omega) h
  omega
theorem dg_ne (d : Nat) (h : 1 ≤ d) (h2 : d < 33) : ¬ nI ((d + 1) * d) = 0 := nI_ne0 (dg_pos d h) (dg_sm d (by omega))
theorem dg_sum (d sum : Nat) (h : 1 ≤ d) (hs : sum ≤ 65536 * d) : sum + 65536 / ((d + 1) * d) ≤ 65536 * (d + 1) := by
  have : 65536 / ((d + 1) * d) ≤ 65536 := Nat.div_le_self _ _
  omega
theorem dg_s0 (K : Nat) : 65536 / K ≤ 65536 * 1 := by
  have : 65536 / K ≤ 65536 := Nat.div_le_self _ _
  omega
theorem ts_nf {x : Bool} (h : ¬ x = false) : x = true := by cases x with
  | true => rfl
  | false => exact absurd rfl h
set_option maxHeartbeats 4000000 in
set_option maxRecDepth 100000 in
theorem c_X0_nextState (l : Launch) (x : Int32) : Met l yX0_nextState wsX0_nextState ({ frames := 0, cells := 0, slots := 0, locals := 0 }) (va_Pc [.int x] (fun _ => True)) (vp_Si (fun r => r = ns x)) 0 0 (fun _ => False) := by
  refine Met.ofW (cc := cX0_nextState) (maxL := 1) (ret := (some .int)) (by decide) rfl ?_
  intro p e s m args below meth c s₁ B hml hv
  obtain ⟨rfl, -⟩ := hv
  have hx := B.exec
  have hb := B.bytes
  have hr := B.returns
  have hts := atoms_spec (ws := wsX0_nextState) B.pre
  have hown : s.vm.findClass RX0 = some m.cls := findClass_of_methodNamed B.named
  have hlocks := B.notSynchronized
  have hl := lv_entry ([.int x]) (n := 1) (Nat.le_of_ble_eq_true rfl)
  rw [lg_entry_eq]
  generalize (lg_sl ([.int x]) ++ List.replicate (1 - (lg_sl ([.int x])).length) Slot.unset).toArray = ls at hl ⊢
  have hl : lv_has ls 1 [(0, .int x)] := hl
  refine lv_iload_n hx hb dX0_nextState_0 rfl (lv_at hl 0 rfl) ?_
  refine lv_ldc hx hb hown (hts (.constant RX0 91 (1664525)) (by decide +kernel)) dX0_nextState_1 ?_
  refine lv_imul hx hb dX0_nextState_3 ?_
  refine lv_ldc hx hb hown (hts (.constant RX0 92 (1013904223)) (by decide +kernel)) dX0_nextState_4 ?_
  refine lv_iadd hx hb dX0_nextState_6 ?_
  exact W.iret (v := (x * 1664525) + 1013904223) hx hb hr (fun t ht hW => ⟨(x * 1664525) + 1013904223, rfl, rfl, ht⟩) (fun _ h9 => by cases h9) dX0_nextState_7
set_option maxHeartbeats 4000000 in
set_option maxRecDepth 100000 in
theorem c_X0_drawn (l : Launch) (x : Int32) : Met l yX0_drawn wsX0_drawn ({ frames := 0, cells := 0, slots := 0, locals := 0 }) (va_Pc [.int x] (fun _ => True)) (vp_Si (fun r => r = nI (dr x))) 0 0 (fun _ => False) := by
  refine Met.ofW (cc := cX0_drawn) (maxL := 1) (ret := (some .int)) (by decide) rfl ?_
  intro p e s m args below meth c s₁ B hml hv
  obtain ⟨rfl, -⟩ := hv
  have hx := B.exec
  have hb := B.bytes
  have hr := B.returns
  have hts := atoms_spec (ws := wsX0_drawn) B.pre
  have hown : s.vm.findClass RX0 = some m.cls := findClass_of_methodNamed B.named
  have hlocks := B.notSynchronized
  have hl := lv_entry ([.int x]) (n := 1) (Nat.le_of_ble_eq_true rfl)
  rw [lg_entry_eq]
  generalize (lg_sl ([.int x]) ++ List.replicate (1 - (lg_sl ([.int x])).length) Slot.unset).toArray = ls at hl ⊢
  have hl : lv_has ls 1 [(0, .int x)] := hl
  refine lv_iload_n hx hb dX0_drawn_0 rfl (lv_at hl 0 rfl) ?_
  refine lv_bipush (v := 16) hx hb dX0_drawn_1 (by decide) ?_
  refine lv_iushr (v := (x.toUInt32 >>> ((16 : Int32).toUInt32 &&& Int32.toUInt32 31)).toInt32) hx hb dX0_drawn_3 rfl ?_
  exact W.iret (v := (x.toUInt32 >>> ((16 : Int32).toUInt32 &&& Int32.toUInt32 31)).toInt32) hx hb hr (fun t ht hW => ⟨(x.toUInt32 >>> ((16 : Int32).toUInt32 &&& Int32.toUInt32 31)).toInt32, rfl, dr_sh x, ht⟩) (fun _ h9 => by cases h9) dX0_drawn_4
set_option maxHeartbeats 4000000 in
set_option maxRecDepth 100000 in
theorem c_X0_hasBit (l : Launch) (x : Int32) (i : Nat) (hi : i < 32) : Met l yX0_hasBit wsX0_hasBit ({ frames := 0, cells := 0, slots := 0, locals := 0 }) (va_Pc [.int x, .int (nI i)] (fun _ => True)) (vp_Si (fun r => r = (if bt x i then 1 else 0))) 0 0 (fun _ => False) := by
  refine Met.ofW (cc := cX0_hasBit) (maxL := 2) (ret := (some .boolean)) (by decide) rfl ?_
  intro p e s m args below meth c s₁ B hml hv
  obtain ⟨rfl, -⟩ := hv
  have hx := B.exec
  have hb := B.bytes
  have hr := B.returns
  have hts := atoms_spec (ws := wsX0_hasBit) B.pre
  have hown : s.vm.findClass RX0 = some m.cls := findClass_of_methodNamed B.named
  have hlocks := B.notSynchronized
  have hl := lv_entry ([.int x, .int (nI i)]) (n := 2) (Nat.le_of_ble_eq_true rfl)
  rw [lg_entry_eq]
  generalize (lg_sl ([.int x, .int (nI i)]) ++ List.replicate (2 - (lg_sl ([.int x, .int (nI i)])).length) Slot.unset).toArray = ls at hl ⊢
  have hl : lv_has ls 2 [(0, .int x), (1, .int (nI i))] := hl
  refine lv_iload_n hx hb dX0_hasBit_0 rfl (lv_at hl 0 rfl) ?_
  refine lv_iload_n hx hb dX0_hasBit_1 rfl (lv_at hl 1 rfl) ?_
  refine lv_iushr (v := (x.toUInt32 >>> ((nI i).toUInt32 &&& Int32.toUInt32 31)).toInt32) hx hb dX0_hasBit_2 rfl ?_
  refine lv_iconst (v := 1) hx hb dX0_hasBit_3 (by decide) ?_
  refine lv_iand hx hb dX0_hasBit_4 ?_
  refine lv_if_eq (tgt := 12) hx hb dX0_hasBit_5 (by decide) (fun c1 => ?_) (fun c1 => ?_)
  · skip
    refine lv_iconst (v := 0) hx hb dX0_hasBit_12 (by decide) ?_
    exact W.zret (v := 0) hx hb hr (by rfl) (fun t ht hW => ⟨0, rfl, by show (0 : Int32) = _; rw [(hb_bit x hi).mp c1]; rfl, ht⟩) (fun _ h9 => by cases h9) dX0_hasBit_13
  · skip
    refine lv_iconst (v := 1) hx hb dX0_hasBit_8 (by decide) ?_
    refine lv_goto (tgt := 13) hx hb dX0_hasBit_9 (by decide) ?_
    exact W.zret (v := 1) hx hb hr (by rfl) (fun t ht hW => ⟨1, rfl, by show (1 : Int32) = _; rw [ts_nf (fun h => c1 ((hb_bit x hi).mpr h))]; rfl, ht⟩) (fun _ h9 => by cases h9) dX0_hasBit_13
set_option maxHeartbeats 4000000 in
set_option maxRecDepth 100000 in
theorem c_X0_isInRow (l : Launch) (dC : Nat → ClassId) (dI : Nat → Nat → Nat) (ad : Nat → Nat) (cI : ClassId) (K : Nat) (row S V : Nat → Int32) (dc : Int32) (kw ko : Nat → Int32) (kb : Int32) (qu : Nat → Int32) (qe cl : Int32) (hK1 : 1 ≤ K) (hK2 : K ≤ 32) (i : Int32) : Met l yX0_isInRow wsX0_isInRow ({ frames := 0, cells := 0, slots := 0, locals := 0 }) (va_Pc [.ref (ad 0), .int i] (rB dC dI [(cI, .int)] (xW ad cI K row S V dc kw ko kb qu qe cl))) (vp_Si (fun r => r = (if inR K i then 1 else 0))) 0 0 (fun _ => False) := by
  refine Met.ofW (cc := cX0_isInRow) (maxL := 2) (ret := (some .boolean)) (by decide) rfl ?_
  intro p e s m args below meth c s₁ B hml hv
  obtain ⟨rfl, hP, hK⟩ := hv
  have hx := B.exec
  have hb := B.bytes
  have hr := B.returns
  have hts := atoms_spec (ws := wsX0_isInRow) B.pre
  have hown : s.vm.findClass RX0 = some m.cls := findClass_of_methodNamed B.named
  have hlocks := B.notSynchronized
  have hw0 : ∀ w ∈ wsX00, w ∈ wsX0_isInRow := fun _ h => List.mem_cons_of_mem _ (List.mem_append_right _ h)
  have hl := lv_entry ([.ref (ad 0), .int i]) (n := 2) (Nat.le_of_ble_eq_true rfl)
  rw [lg_entry_eq]
  generalize (lg_sl ([.ref (ad 0), .int i]) ++ List.replicate (2 - (lg_sl ([.ref (ad 0), .int i])).length) Slot.unset).toArray = ls at hl ⊢
  have hl : lv_has ls 2 [(0, .ref (ad 0)), (1, .int i)] := hl
  refine lv_iload_n hx hb dX0_isInRow_0 rfl (lv_at hl 1 rfl) ?_
  refine lv_if_lt (tgt := 16) hx hb dX0_isInRow_1 (by decide) (fun c1 => ?_) (fun c1 => ?_)
  · skip
    refine lv_iconst (v := 0) hx hb dX0_isInRow_16 (by decide) ?_
    exact W.zret (v := 0) hx hb hr (by rfl) (fun t ht hW => ⟨0, rfl, by show (0 : Int32) = _; rw [if_neg (fun h => inR_neg h c1)], ht⟩) (fun _ h9 => by cases h9) dX0_isInRow_17
  · skip
    refine lv_iload_n hx hb dX0_isInRow_4 rfl (lv_at hl 1 rfl) ?_
    refine lv_aload_n hx hb dX0_isInRow_5 rfl (lv_at hl 0 rfl) ?_
    refine va_get (D := (dC, dI)) (ci := 0) (v := .int (nI K)) (C := RX0) (T := TX0) (N := 11) hx hb hts hw0 hown hK hP 0 rfl rfl 0 (by decide) (hts (.fieldLink RX0 38 "DropCode" "size" "I") (by decide +kernel)) (fun _ h9 => h9) rfl dX0_isInRow_6 ?_
    refine lv_icmp_ge (tgt := 16) hx hb dX0_isInRow_9 (by decide) (fun c2 => ?_) (fun c2 => ?_)
    · skip
      refine lv_iconst (v := 0) hx hb dX0_isInRow_16 (by decide) ?_
      exact W.zret (v := 0) hx hb hr (by rfl) (fun t ht hW => ⟨0, rfl, by show (0 : Int32) = _; rw [if_neg (fun h => inR_ge h c2)], ht⟩) (fun _ h9 => by cases h9) dX0_isInRow_17
    · skip
      refine lv_iconst (v := 1) hx hb dX0_isInRow_12 (by decide) ?_
      refine lv_goto (tgt := 17) hx hb dX0_isInRow_13 (by decide) ?_
      exact W.zret (v := 1) hx hb hr (by rfl) (fun t ht hW => ⟨1, rfl, by show (1 : Int32) = _; rw [if_pos (inR_of c1 c2)], ht⟩) (fun _ h9 => by cases h9) dX0_isInRow_17
set_option maxHeartbeats 4000000 in
set_option maxRecDepth 100000 in
theorem c_X0_degreeOf (l : Launch) (dC : Nat → ClassId) (dI : Nat → Nat → Nat) (ad : Nat → Nat) (cI : ClassId) (K : Nat) (row S V : Nat → Int32) (dc : Int32) (kw ko : Nat → Int32) (kb : Int32) (qu : Nat → Int32) (qe cl : Int32) (hK1 : 1 ≤ K) (hK2 : K ≤ 32) (q : Nat) (hq : q < 65536) : Met l yX0_degreeOf wsX0_degreeOf ({ frames := 0, cells := 0, slots := 0, locals := 0 }) (va_Pc [.ref (ad 0), .int (nI q)] (rB dC dI [(cI, .int)] (xW ad cI K row S V dc kw ko kb qu qe cl))) (vp_Si (fun r => r = nI (dg K q))) 0 0 (fun _ => False) := by
  refine Met.ofW (cc := cX0_degreeOf) (maxL := 4) (ret := (some .int)) (by decide) rfl ?_
  intro p e s m args below meth c s₁ B hml hv
  obtain ⟨rfl, hP, hK⟩ := hv
  have hx := B.exec
  have hb := B.bytes
  have hr := B.returns
  have hts := atoms_spec (ws := wsX0_degreeOf) B.pre
  have hown : s.vm.findClass RX0 = some m.cls := findClass_of_methodNamed B.named
  have hlocks := B.notSynchronized
  have hw0 : ∀ w ∈ wsX00, w ∈ wsX0_degreeOf := fun _ h => List.mem_cons_of_mem _ (List.mem_append_right _ h)
  have hl := lv_entry ([.ref (ad 0), .int (nI q)]) (n := 4) (Nat.le_of_ble_eq_true rfl)
  rw [lg_entry_eq]
  generalize (lg_sl ([.ref (ad 0), .int (nI q)]) ++ List.replicate (4 - (lg_sl ([.ref (ad 0), .int (nI q)])).length) Slot.unset).toArray = ls at hl ⊢
  have hl : lv_has ls 4 [(0, .ref (ad 0)), (1, .int (nI q))] := hl
  refine lv_ldc hx hb hown (hts (.constant RX0 93 (65536)) (by decide +kernel)) dX0_degreeOf_0 ?_
  refine lv_aload_n hx hb dX0_degreeOf_2 rfl (lv_at hl 0 rfl) ?_
  refine va_get (D := (dC, dI)) (ci := 0) (v := .int (nI K)) (C := RX0) (T := TX0) (N := 11) hx hb hts hw0 hown hK hP 0 rfl rfl 0 (by decide) (hts (.fieldLink RX0 38 "DropCode" "size" "I") (by decide +kernel)) (fun _ h9 => h9) rfl dX0_degreeOf_3 ?_
  refine lv_idiv hx hb dX0_degreeOf_6 (nI_ne0 hK1 (by omega)) ?_
  refine lv_topi (fun z_1 ez_1 => ?_)
  have ez_1 : z_1 = nI (65536 / K) := ez_1.trans (pk_div (a := 65536) (by omega) hK1 (by omega))
  subst ez_1
  refine lv_istore_n (lv' := [(2, .int (nI (65536 / K))), (0, .ref (ad 0)), (1, .int (nI q))]) hx hb dX0_degreeOf_7 rfl hl (by decide) rfl (fun ls hl => ?_)
  refine lv_iconst (v := 1) hx hb dX0_degreeOf_8 (by decide) ?_
  refine lv_istore_n (lv' := [(3, .int 1), (2, .int (nI (65536 / K))), (0, .ref (ad 0)), (1, .int (nI q))]) hx hb dX0_degreeOf_9 rfl hl (by decide) rfl (fun ls hl => ?_)
  have key : ∀ (n d sum : Nat) (ls : Array Slot), 1 ≤ d → d ≤ K → K ≤ d + n → sum ≤ 65536 * d → dgF K q n d sum = dg K q → lv_has ls 4 [(3, .int (nI d)), (2, .int (nI sum)), (0, .ref (ad 0)), (1, .int (nI q))] → W p l e (headSpec wsX0_degreeOf ({ frames := 0, cells := 0, slots := 0, locals := 0 })).room s m ([.ref (ad 0), .int (nI q)] : List Value).toArray below meth c s.heap [] 0 0 (MQ below (vp_Si (fun r => r = nI (dg K q))) ([.ref (ad 0), .int (nI q)] : List Value).toArray s 0 0 (fun _ => False)) (F0 m 10 ls []) := by
    intro n
    induction n with
    | zero =>
      intro d sum ls hd1 hd2 hn hsum hv hl
      have hdK : d = K := by omega
      refine lv_iload_n hx hb dX0_degreeOf_10 rfl (lv_at hl 0 rfl) ?_
      refine lv_aload_n hx hb dX0_degreeOf_11 rfl (lv_at hl 2 rfl) ?_
      refine va_get (D := (dC, dI)) (ci := 0) (v := .int (nI K)) (C := RX0) (T := TX0) (N := 11) hx hb hts hw0 hown hK hP 0 rfl rfl 0 (by decide) (hts (.fieldLink RX0 38 "DropCode" "size" "I") (by decide +kernel)) (fun _ h9 => h9) rfl dX0_degreeOf_12 ?_
      refine lv_icmp_ge (tgt := 42) hx hb dX0_degreeOf_15 (by decide) (fun c1 => ?_) (fun c1 => ?_)
      · skip
        refine lv_aload_n hx hb dX0_degreeOf_42 rfl (lv_at hl 2 rfl) ?_
        refine va_get (D := (dC, dI)) (ci := 0) (v := .int (nI K)) (C := RX0) (T := TX0) (N := 11) hx hb hts hw0 hown hK hP 0 rfl rfl 0 (by decide) (hts (.fieldLink RX0 38 "DropCode" "size" "I") (by decide +kernel)) (fun _ h9 => h9) rfl dX0_degreeOf_43 ?_
        exact W.iret (v := nI K) hx hb hr (fun t ht hW => ⟨nI K, rfl, by show nI K = _; rw [← hv, ← hdK]; rfl, ht⟩) (fun _ h9 => by cases h9) dX0_degreeOf_46
      · skip
        exact absurd (nI_le (by omega) (by omega)) c1
    | succ n ih =>
      intro d sum ls hd1 hd2 hn hsum hv hl
      refine lv_iload_n hx hb dX0_degreeOf_10 rfl (lv_at hl 0 rfl) ?_
      refine lv_aload_n hx hb dX0_degreeOf_11 rfl (lv_at hl 2 rfl) ?_
      refine va_get (D := (dC, dI)) (ci := 0) (v := .int (nI K)) (C := RX0) (T := TX0) (N := 11) hx hb hts hw0 hown hK hP 0 rfl rfl 0 (by decide) (hts (.fieldLink RX0 38 "DropCode" "size" "I") (by decide +kernel)) (fun _ h9 => h9) rfl dX0_degreeOf_12 ?_
      refine lv_icmp_ge (tgt := 42) hx hb dX0_degreeOf_15 (by decide) (fun c1 => ?_) (fun c1 => ?_)
      · skip
        have hdK : d = K := by rcases Nat.lt_or_ge d K with a | a; exact absurd c1 (nI_ge a (by omega)); omega
        refine lv_aload_n hx hb dX0_degreeOf_42 rfl (lv_at hl 2 rfl) ?_
        refine va_get (D := (dC, dI)) (ci := 0) (v := .int (nI K)) (C := RX0) (T := TX0) (N := 11) hx hb hts hw0 hown hK hP 0 rfl rfl 0 (by decide) (hts (.fieldLink RX0 38 "DropCode" "size" "I") (by decide +kernel)) (fun _ h9 => h9) rfl dX0_degreeOf_43 ?_
        exact W.iret (v := nI K) hx hb hr (fun t ht hW => ⟨nI K, rfl, by rw [← hv, dgF_out (by omega), hdK], ht⟩) (fun _ h9 => by cases h9) dX0_degreeOf_46
      · skip
        have hdK : d < K := by rcases Nat.lt_or_ge d K with a | a; exact a; exact absurd (nI_le a (by omega)) c1
        refine lv_iload_n hx hb dX0_degreeOf_18 rfl (lv_at hl 3 rfl) ?_
        refine lv_iload_n hx hb dX0_degreeOf_19 rfl (lv_at hl 1 rfl) ?_
        refine lv_icmp_ge (tgt := 25) hx hb dX0_degreeOf_20 (by decide) (fun c2 => ?_) (fun c2 => ?_)
        · skip
          have hsq : sum ≤ q := by rcases Nat.lt_or_ge q sum with a | a; exact absurd c2 (nI_ge a (by omega)); exact a
          refine lv_iload_n hx hb dX0_degreeOf_25 rfl (lv_at hl 1 rfl) ?_
          refine lv_ldc hx hb hown (hts (.constant RX0 93 (65536)) (by decide +kernel)) dX0_degreeOf_26 ?_
          refine lv_iload_n hx hb dX0_degreeOf_28 rfl (lv_at hl 0 rfl) ?_
          refine lv_iconst (v := 1) hx hb dX0_degreeOf_29 (by decide) ?_
          refine lv_iadd hx hb dX0_degreeOf_30 ?_
          refine lv_topi (fun z_2 ez_2 => ?_)
          have ez_2 : z_2 = nI (d + 1) := ez_2.trans (nI_1 d)
          subst ez_2
          refine lv_iload_n hx hb dX0_degreeOf_31 rfl (lv_at hl 0 rfl) ?_
          refine lv_imul hx hb dX0_degreeOf_32 ?_
          refine lv_topi (fun z_3 ez_3 => ?_)
          have ez_3 : z_3 = nI ((d + 1) * d) := ez_3.trans (pk_mul _ _)
          subst ez_3
          refine lv_idiv hx hb dX0_degreeOf_33 (dg_ne d hd1 (by omega)) ?_
          refine lv_topi (fun z_4 ez_4 => ?_)
          have ez_4 : z_4 = nI (65536 / ((d + 1) * d)) := ez_4.trans (pk_div (a := 65536) (by omega) (dg_pos d hd1) (dg_sm d (by omega)))
          subst ez_4
          refine lv_iadd hx hb dX0_degreeOf_34 ?_
          refine lv_topi (fun z_5 ez_5 => ?_)
          have ez_5 : z_5 = nI (sum + 65536 / ((d + 1) * d)) := ez_5.trans (nI_add _ _)
          subst ez_5
          refine lv_istore_n (lv' := [(2, .int (nI (sum + 65536 / ((d + 1) * d)))), (3, .int (nI d)), (0, .ref (ad 0)), (1, .int (nI q))]) hx hb dX0_degreeOf_35 rfl hl (by decide) rfl (fun ls hl => ?_)
          refine lv_iinc (v := nI (d + 1)) (lv' := [(3, .int (nI (d + 1))), (2, .int (nI (sum + 65536 / ((d + 1) * d)))), (0, .ref (ad 0)), (1, .int (nI q))]) hx hb dX0_degreeOf_36 hl (k := 1) rfl ((nI_1 d)) (by decide) rfl (fun ls hl => ?_)
          refine lv_goto (tgt := 10) hx hb dX0_degreeOf_39 (by decide) ?_
          exact ih (d + 1) (sum + 65536 / ((d + 1) * d)) ls (by omega) hdK (by omega) (dg_sum d sum hd1 hsum) (by rw [← hv, dgF_in hdK hsq]) (lv_sub hl [0, 1, 2, 3] rfl)
        · skip
          refine lv_iload_n hx hb dX0_degreeOf_23 rfl (lv_at hl 0 rfl) ?_
          exact W.iret (v := nI d) hx hb hr (fun t ht hW => ⟨nI d, rfl, by rw [← hv, dgF_out (fun h => c2 (nI_le h.2 (by omega)))], ht⟩) (fun _ h9 => by cases h9) dX0_degreeOf_24
  exact key K 1 (65536 / K) ls (Nat.le_refl 1) hK1 (by omega) (dg_s0 K) rfl (lv_sub hl [0, 1, 2, 3] rfl)
set_option maxHeartbeats 4000000 in
set_option maxRecDepth 100000 in
theorem c_X0_setOf (l : Launch) (dC : Nat → ClassId) (dI : Nat → Nat → Nat) (ad : Nat → Nat) (cI : ClassId) (K : Nat) (row S V : Nat → Int32) (dc : Int32) (kw ko : Nat → Int32) (kb : Int32) (qu : Nat → Int32) (qe cl : Int32) (hK1 : 1 ≤ K) (hK2 : K ≤ 32) (seed : Int32) : Met l yX0_setOf wsX0_setOf ({ frames := 1, cells := 0, slots := 0, locals := 23 }) (va_Pc [.ref (ad 0), .int seed] (rB dC dI [(cI, .int)] (xW ad cI K row S V dc kw ko kb qu qe cl))) (vp_Si (fun r => r = setA K seed)) 0 0 (fun _ => False) := by
  refine Met.ofW (cc := cX0_setOf) (maxL := 6) (ret := (some .int)) (by decide) rfl ?_
  intro p e s m args below meth c s₁ B hml hv
  obtain ⟨rfl, hP, hK⟩ := hv
  have hx := B.exec
  have hb := B.bytes
  have hr := B.returns
  have hts := atoms_spec (ws := wsX0_setOf) B.pre
  have hown : s.vm.findClass RX0 = some m.cls := findClass_of_methodNamed B.named
  have hlocks := B.notSynchronized
  have hw0 : ∀ w ∈ wsX00, w ∈ wsX0_setOf := fun _ h => List.mem_cons_of_mem _ (List.mem_append_right _ h)
  have hl := lv_entry ([.ref (ad 0), .int seed]) (n := 6) (Nat.le_of_ble_eq_true rfl)
  rw [lg_entry_eq]
  generalize (lg_sl ([.ref (ad 0), .int seed]) ++ List.replicate (6 - (lg_sl ([.ref (ad 0), .int seed])).length) Slot.unset).toArray = ls at hl ⊢
  have hl : lv_has ls 6 [(0, .ref (ad 0)), (1, .int seed)] := hl
  obtain ⟨N, hN, hset, hd, hlt⟩ := setA_ok hK1 hK2 seed
  rw [hset]
  rw [hset] at hd
  refine lv_iload_n hx hb dX0_setOf_0 rfl (lv_at hl 1 rfl) ?_
  refine vp_callSi (W.runS (As := [.int seed]) (rest := []) ⟨hx, hb, hml, hown, hts⟩ (c_X0_nextState l seed) (va_cwS 1 hts gX0_setOf_X0_nextState rfl rfl rfl (by decide +kernel) ⟨Nat.le_of_ble_eq_true rfl, Nat.le_of_ble_eq_true rfl⟩) ⟨pFb, fun U hU hW => ⟨rfl, trivial⟩⟩ rfl rfl hl.1 rfl (lv_room (Nat.le_of_ble_eq_true rfl)) dX0_setOf_1 ⟨Nat.zero_le _, Nat.zero_le _⟩) (fun r_1 er_1 => ?_)
  subst er_1
  refine lv_istore_n (lv' := [(2, .int (ns seed)), (0, .ref (ad 0)), (1, .int seed)]) hx hb dX0_setOf_4 rfl hl (by decide) rfl (fun ls hl => ?_)
  refine lv_aload_n hx hb dX0_setOf_5 rfl (lv_at hl 1 rfl) ?_
  refine lv_iload_n hx hb dX0_setOf_6 rfl (lv_at hl 0 rfl) ?_
  refine vp_callSi (W.runS (As := [.int (ns seed)]) (rest := [.ref (ad 0)]) ⟨hx, hb, hml, hown, hts⟩ (c_X0_drawn l (ns seed)) (va_cwS 1 hts gX0_setOf_X0_drawn rfl rfl rfl (by decide +kernel) ⟨Nat.le_of_ble_eq_true rfl, Nat.le_of_ble_eq_true rfl⟩) ⟨pFb, fun U hU hW => ⟨rfl, trivial⟩⟩ rfl rfl hl.1 rfl (lv_room (Nat.le_of_ble_eq_true rfl)) dX0_setOf_7 ⟨Nat.zero_le _, Nat.zero_le _⟩) (fun r_2 er_2 => ?_)
  subst er_2
  refine vp_callSi (W.runV (As := [.int (nI (dr (ns seed)))]) (rest := []) ⟨hx, hb, hml, hown, hts⟩ (c_X0_degreeOf l dC dI ad cI K row S V dc kw ko kb qu qe cl hK1 hK2 _ (dr_lt _)) (cwV 1 hts gX0_setOf_X0_degreeOf rfl rfl rfl (by decide +kernel) ⟨Nat.le_of_ble_eq_true rfl, Nat.le_of_ble_eq_true rfl⟩) ⟨rFb, va_recv hK hP (ci := 0) (q0 := 0) rfl rfl, fun U hU hW => ⟨rfl, by rw [hU]; exact hP, va_K.moved hW.alike hK⟩⟩ rfl rfl hl.1 rfl (lv_room (Nat.le_of_ble_eq_true rfl)) dX0_setOf_10 ⟨Nat.zero_le _, Nat.zero_le _⟩) (fun r_3 er_3 => ?_)
  subst er_3
  refine lv_istore_n (lv' := [(3, .int (nI (dg K (dr (ns seed))))), (2, .int (ns seed)), (0, .ref (ad 0)), (1, .int seed)]) hx hb dX0_setOf_13 rfl hl (by decide) rfl (fun ls hl => ?_)
  refine lv_iconst (v := 0) hx hb dX0_setOf_14 (by decide) ?_
  refine lv_istore (lv' := [(4, .int 0), (3, .int (nI (dg K (dr (ns seed))))), (2, .int (ns seed)), (0, .ref (ad 0)), (1, .int seed)]) hx hb dX0_setOf_15 hl (by decide) rfl (fun ls hl => ?_)
  refine lv_iconst (v := 0) hx hb dX0_setOf_17 (by decide) ?_
  refine lv_istore (lv' := [(5, .int 0), (4, .int 0), (3, .int (nI (dg K (dr (ns seed))))), (2, .int (ns seed)), (0, .ref (ad 0)), (1, .int seed)]) hx hb dX0_setOf_18 hl (by decide) rfl (fun ls hl => ?_)
  have key : ∀ (n i : Nat) (ls : Array Slot), N = i + n → lv_has ls 6 [(5, .int (nI i)), (4, .int (fl K (ns seed) i)), (2, .int (st (ns seed) i)), (3, .int (nI (dg K (dr (ns seed))))), (0, .ref (ad 0)), (1, .int seed)] → W p l e (headSpec wsX0_setOf ({ frames := 1, cells := 0, slots := 0, locals := 23 })).room s m ([.ref (ad 0), .int seed] : List Value).toArray below meth c s.heap [] 0 0 (MQ below (vp_Si (fun r => r = fl K (ns seed) N)) ([.ref (ad 0), .int seed] : List Value).toArray s 0 0 (fun _ => False)) (F0 m 20 ls []) := by
    intro n
    induction n with
    | zero =>
      intro i ls hi hl
      refine lv_iload hx hb dX0_setOf_20 (lv_at hl 0 rfl) ?_
      refine lv_ldc hx hb hown (hts (.constant RX0 94 (1000000)) (by decide +kernel)) dX0_setOf_22 ?_
      refine lv_icmp_ge (tgt := 63) hx hb dX0_setOf_24 (by decide) (fun c1 => ?_) (fun c1 => ?_)
      · skip
        exact absurd c1 (nI_ge (a := i) (b := 1000000) (by omega) (by omega))
      · skip
        refine lv_iload hx hb dX0_setOf_27 (lv_at hl 1 rfl) ?_
        refine vp_callSi (W.runS (As := [.int (fl K (ns seed) i)]) (rest := []) ⟨hx, hb, hml, hown, hts⟩ (c_J6_bitCount_0f7a4 l (fl K (ns seed) i)) (va_cwS 1 hts gX0_setOf_J6_bitCount_0f7a4 rfl rfl rfl (by decide +kernel) ⟨Nat.le_of_ble_eq_true rfl, Nat.le_of_ble_eq_true rfl⟩) ⟨pFb, fun U hU hW => ⟨rfl, trivial⟩⟩ rfl rfl hl.1 rfl (lv_room (Nat.le_of_ble_eq_true rfl)) dX0_setOf_29 ⟨Nat.zero_le _, Nat.zero_le _⟩) (fun r_4 er_4 => ?_)
        subst er_4
        refine lv_iload_n hx hb dX0_setOf_32 rfl (lv_at hl 3 rfl) ?_
        refine lv_icmp_ge (tgt := 63) hx hb dX0_setOf_33 (by decide) (fun c2 => ?_) (fun c2 => ?_)
        · skip
          have hiN : i = N := by omega
          subst hiN
          refine lv_iload hx hb dX0_setOf_63 (lv_at hl 1 rfl) ?_
          exact W.iret (v := fl K (ns seed) i) hx hb hr (fun t ht hW => ⟨fl K (ns seed) i, rfl, rfl, ht⟩) (fun _ h9 => by cases h9) dX0_setOf_65
        · skip
          have hiN : i = N := by omega
          subst hiN
          exact absurd (nI_le hd (by have := pc_le (fl K (ns seed) i); omega)) c2
    | succ n ih =>
      intro i ls hi hl
      refine lv_iload hx hb dX0_setOf_20 (lv_at hl 0 rfl) ?_
      refine lv_ldc hx hb hown (hts (.constant RX0 94 (1000000)) (by decide +kernel)) dX0_setOf_22 ?_
      refine lv_icmp_ge (tgt := 63) hx hb dX0_setOf_24 (by decide) (fun c1 => ?_) (fun c1 => ?_)
      · skip
        exact absurd c1 (nI_ge (a := i) (b := 1000000) (by omega) (by omega))
      · skip
        refine lv_iload hx hb dX0_setOf_27 (lv_at hl 1 rfl) ?_
        refine vp_callSi (W.runS (As := [.int (fl K (ns seed) i)]) (rest := []) ⟨hx, hb, hml, hown, hts⟩ (c_J6_bitCount_0f7a4 l (fl K (ns seed) i)) (va_cwS 1 hts gX0_setOf_J6_bitCount_0f7a4 rfl rfl rfl (by decide +kernel) ⟨Nat.le_of_ble_eq_true rfl, Nat.le_of_ble_eq_true rfl⟩) ⟨pFb, fun U hU hW => ⟨rfl, trivial⟩⟩ rfl rfl hl.1 rfl (lv_room (Nat.le_of_ble_eq_true rfl)) dX0_setOf_29 ⟨Nat.zero_le _, Nat.zero_le _⟩) (fun r_4 er_4 => ?_)
        subst er_4
        refine lv_iload_n hx hb dX0_setOf_32 rfl (lv_at hl 3 rfl) ?_
        refine lv_icmp_ge (tgt := 63) hx hb dX0_setOf_33 (by decide) (fun c2 => ?_) (fun c2 => ?_)
        · skip
          have h3 := hlt i (by omega)
          exact absurd c2 (nI_ge h3 (by have := pc_le (fl K (ns seed) i); have := (dg_le (dr (ns seed)) hK1).2; omega))
        · skip
          refine lv_iload_n hx hb dX0_setOf_36 rfl (lv_at hl 2 rfl) ?_
          refine vp_callSi (W.runS (As := [.int (st (ns seed) i)]) (rest := []) ⟨hx, hb, hml, hown, hts⟩ (c_X0_nextState l (st (ns seed) i)) (va_cwS 1 hts gX0_setOf_X0_nextState rfl rfl rfl (by decide +kernel) ⟨Nat.le_of_ble_eq_true rfl, Nat.le_of_ble_eq_true rfl⟩) ⟨pFb, fun U hU hW => ⟨rfl, trivial⟩⟩ rfl rfl hl.1 rfl (lv_room (Nat.le_of_ble_eq_true rfl)) dX0_setOf_37 ⟨Nat.zero_le _, Nat.zero_le _⟩) (fun r_5 er_5 => ?_)
          subst er_5
          refine lv_topi (fun z_6 ez_6 => ?_)
          have ez_6 : z_6 = st (ns seed) (i + 1) := ez_6.trans (rfl)
          subst ez_6
          refine lv_istore_n (lv' := [(2, .int (st (ns seed) (i + 1))), (5, .int (nI i)), (4, .int (fl K (ns seed) i)), (3, .int (nI (dg K (dr (ns seed))))), (0, .ref (ad 0)), (1, .int seed)]) hx hb dX0_setOf_40 rfl hl (by decide) rfl (fun ls hl => ?_)
          refine lv_iload hx hb dX0_setOf_41 (lv_at hl 2 rfl) ?_
          refine lv_iconst (v := 1) hx hb dX0_setOf_43 (by decide) ?_
          refine lv_iload_n hx hb dX0_setOf_44 rfl (lv_at hl 0 rfl) ?_
          refine vp_callSi (W.runS (As := [.int (st (ns seed) (i + 1))]) (rest := [.int 1, .int (fl K (ns seed) i)]) ⟨hx, hb, hml, hown, hts⟩ (c_X0_drawn l (st (ns seed) (i + 1))) (va_cwS 1 hts gX0_setOf_X0_drawn rfl rfl rfl (by decide +kernel) ⟨Nat.le_of_ble_eq_true rfl, Nat.le_of_ble_eq_true rfl⟩) ⟨pFb, fun U hU hW => ⟨rfl, trivial⟩⟩ rfl rfl hl.1 rfl (lv_room (Nat.le_of_ble_eq_true rfl)) dX0_setOf_45 ⟨Nat.zero_le _, Nat.zero_le _⟩) (fun r_7 er_7 => ?_)
          subst er_7
          refine lv_aload_n hx hb dX0_setOf_48 rfl (lv_at hl 4 rfl) ?_
          refine va_get (D := (dC, dI)) (ci := 0) (v := .int (nI K)) (C := RX0) (T := TX0) (N := 11) hx hb hts hw0 hown hK hP 0 rfl rfl 0 (by decide) (hts (.fieldLink RX0 38 "DropCode" "size" "I") (by decide +kernel)) (fun _ h9 => h9) rfl dX0_setOf_49 ?_
          refine lv_irem hx hb dX0_setOf_52 (nI_ne0 hK1 (by omega)) ?_
          refine lv_topi (fun z_8 ez_8 => ?_)
          have ez_8 : z_8 = nI (dr (st (ns seed) (i + 1)) % K) := ez_8.trans (pk_rem (by have := dr_lt (st (ns seed) (i + 1)); omega) hK1 (by omega))
          subst ez_8
          refine lv_ishl hx hb dX0_setOf_53 ?_
          refine lv_topi (fun z_9 ez_9 => ?_)
          have ez_9 : z_9 = tw (dr (st (ns seed) (i + 1)) % K) := ez_9.trans (rfl)
          subst ez_9
          refine lv_ior hx hb dX0_setOf_54 ?_
          refine lv_topi (fun z_10 ez_10 => ?_)
          have ez_10 : z_10 = fl K (ns seed) (i + 1) := ez_10.trans (rfl)
          subst ez_10
          refine lv_istore (lv' := [(4, .int (fl K (ns seed) (i + 1))), (2, .int (st (ns seed) (i + 1))), (5, .int (nI i)), (3, .int (nI (dg K (dr (ns seed))))), (0, .ref (ad 0)), (1, .int seed)]) hx hb dX0_setOf_55 hl (by decide) rfl (fun ls hl => ?_)
          refine lv_iinc (v := nI (i + 1)) (lv' := [(5, .int (nI (i + 1))), (4, .int (fl K (ns seed) (i + 1))), (2, .int (st (ns seed) (i + 1))), (3, .int (nI (dg K (dr (ns seed))))), (0, .ref (ad 0)), (1, .int seed)]) hx hb dX0_setOf_57 hl (k := 2) rfl (nI_1 i) (by decide) rfl (fun ls hl => ?_)
          refine lv_goto (tgt := 20) hx hb dX0_setOf_60 (by decide) ?_
          exact ih (i + 1) ls (by omega) (lv_sub hl [0, 1, 2, 3, 4, 5] rfl)
  exact key N 0 ls (by omega) (lv_sub hl [0, 1, 3, 2, 4, 5] rfl)
set_option maxHeartbeats 4000000 in
set_option maxRecDepth 100000 in
theorem c_X0_xorOf (l : Launch) (dC : Nat → ClassId) (dI : Nat → Nat → Nat) (a : Nat) (cI : ClassId) (n : Nat) (hn : n ≤ 32) (f : Nat → Int32) (b : Int32) : Met l yX0_xorOf wsX0_xorOf ({ frames := 1, cells := 0, slots := 0, locals := 21 }) (va_Pc [.ref a, .int b] (rB dC dI [(cI, .int)] [(a, .inl (cI, n, .inl f))])) (vp_Si (fun r => r = xf f b n)) 0 0 (fun _ => False) := by
  refine Met.ofW (cc := cX0_xorOf) (maxL := 4) (ret := (some .int)) (by decide) rfl ?_
  intro p e s m args below meth c s₁ B hml hv
  obtain ⟨rfl, hP, hK⟩ := hv
  have hx := B.exec
  have hb := B.bytes
  have hr := B.returns
  have hts := atoms_spec (ws := wsX0_xorOf) B.pre
  have hown : s.vm.findClass RX0 = some m.cls := findClass_of_methodNamed B.named
  have hlocks := B.notSynchronized
  have hl := lv_entry ([.ref a, .int b]) (n := 4) (Nat.le_of_ble_eq_true rfl)
  rw [lg_entry_eq]
  generalize (lg_sl ([.ref a, .int b]) ++ List.replicate (4 - (lg_sl ([.ref a, .int b])).length) Slot.unset).toArray = ls at hl ⊢
  have hl : lv_has ls 4 [(0, .ref a), (1, .int b)] := hl
  refine lv_iconst (v := 0) hx hb dX0_xorOf_0 (by decide) ?_
  refine lv_istore_n (lv' := [(2, .int 0), (0, .ref a), (1, .int b)]) hx hb dX0_xorOf_1 rfl hl (by decide) rfl (fun ls hl => ?_)
  refine lv_iconst (v := 0) hx hb dX0_xorOf_2 (by decide) ?_
  refine lv_istore_n (lv' := [(3, .int 0), (2, .int 0), (0, .ref a), (1, .int b)]) hx hb dX0_xorOf_3 rfl hl (by decide) rfl (fun ls hl => ?_)
  have key : ∀ (m9 i : Nat) (ls : Array Slot), n = i + m9 → lv_has ls 4 [(3, .int (nI i)), (2, .int (xf f b i)), (0, .ref a), (1, .int b)] → W p l e (headSpec wsX0_xorOf ({ frames := 1, cells := 0, slots := 0, locals := 21 })).room s m ([.ref a, .int b] : List Value).toArray below meth c s.heap [] 0 0 (MQ below (vp_Si (fun r => r = xf f b n)) ([.ref a, .int b] : List Value).toArray s 0 0 (fun _ => False)) (F0 m 4 ls []) := by
    intro m9
    induction m9 with
    | zero =>
      intro i ls hi hl
      have hin : i = n := by omega
      subst hin
      refine lv_iload_n hx hb dX0_xorOf_4 rfl (lv_at hl 0 rfl) ?_
      refine lv_aload_n hx hb dX0_xorOf_5 rfl (lv_at hl 2 rfl) ?_
      refine va_alen (v := nI i) hx hb hK hP 0 0 rfl rfl rfl dX0_xorOf_6 ?_
      refine lv_icmp_ge (tgt := 30) hx hb dX0_xorOf_7 (by decide) (fun c1 => ?_) (fun c1 => ?_)
      · skip
        refine lv_iload_n hx hb dX0_xorOf_30 rfl (lv_at hl 1 rfl) ?_
        exact W.iret (v := xf f b i) hx hb hr (fun t ht hW => ⟨xf f b i, rfl, rfl, ht⟩) (fun _ h9 => by cases h9) dX0_xorOf_31
      · skip
        exact absurd (Int32.le_refl _) c1
    | succ m9 ih =>
      intro i ls hi hl
      have hin : i < n := by omega
      refine lv_iload_n hx hb dX0_xorOf_4 rfl (lv_at hl 0 rfl) ?_
      refine lv_aload_n hx hb dX0_xorOf_5 rfl (lv_at hl 2 rfl) ?_
      refine va_alen (v := nI n) hx hb hK hP 0 0 rfl rfl rfl dX0_xorOf_6 ?_
      refine lv_icmp_ge (tgt := 30) hx hb dX0_xorOf_7 (by decide) (fun c1 => ?_) (fun c1 => ?_)
      · skip
        exact absurd c1 (nI_ge hin (by omega))
      · skip
        refine lv_iload_n hx hb dX0_xorOf_10 rfl (lv_at hl 3 rfl) ?_
        refine lv_iload_n hx hb dX0_xorOf_11 rfl (lv_at hl 0 rfl) ?_
        refine vp_callSi (W.runS (As := [.int b, .int (nI i)]) (rest := []) ⟨hx, hb, hml, hown, hts⟩ (c_X0_hasBit l b i (by omega)) (va_cwS 2 hts gX0_xorOf_X0_hasBit rfl rfl rfl (by decide +kernel) ⟨Nat.le_of_ble_eq_true rfl, Nat.le_of_ble_eq_true rfl⟩) ⟨pFb, fun U hU hW => ⟨rfl, trivial⟩⟩ rfl rfl hl.1 rfl (lv_room (Nat.le_of_ble_eq_true rfl)) dX0_xorOf_12 ⟨Nat.zero_le _, Nat.zero_le _⟩) (fun r_1 er_1 => ?_)
        subst er_1
        cases hbi : bt b i with
        | false =>
          rw [if_neg Bool.false_ne_true]
          refine lv_if_eq (tgt := 24) hx hb dX0_xorOf_15 (by decide) (fun c3 => ?_) (fun c3 => ?_)
          · skip
            refine lv_iinc (v := nI (i + 1)) (lv' := [(3, .int (nI (i + 1))), (2, .int (xf f b i)), (0, .ref a), (1, .int b)]) hx hb dX0_xorOf_24 hl (k := 0) rfl (nI_1 i) (by decide) rfl (fun ls hl => ?_)
            refine lv_goto (tgt := 4) hx hb dX0_xorOf_27 (by decide) ?_
            have hxf : xf f b i = xf f b (i + 1) := by rw [xf, if_neg (by rw [hbi]; exact Bool.false_ne_true)]
            rw [hxf] at hl
            exact ih (i + 1) ls (by omega) (lv_sub hl [0, 1, 2, 3] rfl)
          · skip
            exact absurd rfl c3
        | true =>
          rw [if_pos rfl]
          refine lv_if_eq (tgt := 24) hx hb dX0_xorOf_15 (by decide) (fun c3 => ?_) (fun c3 => ?_)
          · skip
            exact absurd c3 (by decide)
          · skip
            refine lv_iload_n hx hb dX0_xorOf_18 rfl (lv_at hl 1 rfl) ?_
            refine lv_aload_n hx hb dX0_xorOf_19 rfl (lv_at hl 2 rfl) ?_
            refine lv_iload_n hx hb dX0_xorOf_20 rfl (lv_at hl 0 rfl) ?_
            refine va_iald (i := nI i) hx hb hK hP 0 0 rfl rfl (vp_in_nI hin (by omega)) dX0_xorOf_21 ?_
            rw [nI_clamp (by omega)]
            refine lv_ixor hx hb dX0_xorOf_22 ?_
            refine lv_topi (fun z_2 ez_2 => ?_)
            have ez_2 : z_2 = xf f b (i + 1) := ez_2.trans (by rw [xf, if_pos hbi])
            subst ez_2
            refine lv_istore_n (lv' := [(2, .int (xf f b (i + 1))), (3, .int (nI i)), (0, .ref a), (1, .int b)]) hx hb dX0_xorOf_23 rfl hl (by decide) rfl (fun ls hl => ?_)
            refine lv_iinc (v := nI (i + 1)) (lv' := [(3, .int (nI (i + 1))), (2, .int (xf f b (i + 1))), (0, .ref a), (1, .int b)]) hx hb dX0_xorOf_24 hl (k := 1) rfl (nI_1 i) (by decide) rfl (fun ls hl => ?_)
            refine lv_goto (tgt := 4) hx hb dX0_xorOf_27 (by decide) ?_
            exact ih (i + 1) ls (by omega) (lv_sub hl [0, 1, 2, 3] rfl)
  exact key n 0 ls (by omega) (lv_sub hl [0, 1, 2, 3] rfl)
set_option maxHeartbeats 4000000 in
set_option maxRecDepth 100000 in
theorem c_X0_isKnown (l : Launch) (dC : Nat → ClassId) (dI : Nat → Nat → Nat) (ad : Nat → Nat) (cI : ClassId) (K : Nat) (row S V : Nat → Int32) (dc : Int32) (kw ko : Nat → Int32) (kb : Int32) (qu : Nat → Int32) (qe cl : Int32) (i : Nat) (hi : i < 32) : Met l yX0_isKnown wsX0_isKnown ({ frames := 1, cells := 0, slots := 0, locals := 21 }) (va_Pc [.ref (ad 0), .int (nI i)] (rB dC dI [(cI, .int)] (xW ad cI K row S V dc kw ko kb qu qe cl))) (vp_Si (fun r => r = (if bt kb i then 1 else 0))) 0 0 (fun _ => False) := by
  refine Met.ofW (cc := cX0_isKnown) (maxL := 2) (ret := (some .boolean)) (by decide) rfl ?_
  intro p e s m args below meth c s₁ B hml hv
  obtain ⟨rfl, hP, hK⟩ := hv
  have hx := B.exec
  have hb := B.bytes
  have hr := B.returns
  have hts := atoms_spec (ws := wsX0_isKnown) B.pre
  have hown : s.vm.findClass RX0 = some m.cls := findClass_of_methodNamed B.named
  have hlocks := B.notSynchronized
  have hw0 : ∀ w ∈ wsX00, w ∈ wsX0_isKnown := fun _ h => List.mem_cons_of_mem _ (List.mem_append_right _ h)
  have hl := lv_entry ([.ref (ad 0), .int (nI i)]) (n := 2) (Nat.le_of_ble_eq_true rfl)
  rw [lg_entry_eq]
  generalize (lg_sl ([.ref (ad 0), .int (nI i)]) ++ List.replicate (2 - (lg_sl ([.ref (ad 0), .int (nI i)])).length) Slot.unset).toArray = ls at hl ⊢
  have hl : lv_has ls 2 [(0, .ref (ad 0)), (1, .int (nI i))] := hl
  refine lv_aload_n hx hb dX0_isKnown_0 rfl (lv_at hl 0 rfl) ?_
  refine va_get (D := (dC, dI)) (ci := 0) (v := .int kb) (C := RX0) (T := TX0) (N := 11) hx hb hts hw0 hown hK hP 0 rfl rfl 7 (by decide) (hts (.fieldLink RX0 20 "DropCode" "knownBits" "I") (by decide +kernel)) (fun _ h9 => h9) rfl dX0_isKnown_1 ?_
  refine lv_iload_n hx hb dX0_isKnown_4 rfl (lv_at hl 1 rfl) ?_
  refine vp_callSi (W.runS (As := [.int kb, .int (nI i)]) (rest := []) ⟨hx, hb, hml, hown, hts⟩ (c_X0_hasBit l kb i hi) (va_cwS 2 hts gX0_isKnown_X0_hasBit rfl rfl rfl (by decide +kernel) ⟨Nat.le_of_ble_eq_true rfl, Nat.le_of_ble_eq_true rfl⟩) ⟨pFb, fun U hU hW => ⟨rfl, trivial⟩⟩ rfl rfl hl.1 rfl (lv_room (Nat.le_of_ble_eq_true rfl)) dX0_isKnown_5 ⟨Nat.zero_le _, Nat.zero_le _⟩) (fun r_1 er_1 => ?_)
  subst er_1
  exact W.zret (v := (if bt kb i then 1 else 0)) hx hb hr (by split <;> rfl) (fun t ht hW => ⟨(if bt kb i then 1 else 0), rfl, rfl, ht⟩) (fun _ h9 => by cases h9) dX0_isKnown_8
set_option maxHeartbeats 4000000 in
set_option maxRecDepth 100000 in
theorem c_X0_knownCount (l : Launch) (dC : Nat → ClassId) (dI : Nat → Nat → Nat) (ad : Nat → Nat) (cI : ClassId) (K : Nat) (row S V : Nat → Int32) (dc : Int32) (kw ko : Nat → Int32) (kb : Int32) (qu : Nat → Int32) (qe cl : Int32) : Met l yX0_knownCount wsX0_knownCount ({ frames := 1, cells := 0, slots := 0, locals := 20 }) (va_Pc [.ref (ad 0)] (rB dC dI [(cI, .int)] (xW ad cI K row S V dc kw ko kb qu qe cl))) (vp_Si (fun r => r = nI (pc kb))) 0 0 (fun _ => False) := by
  refine Met.ofW (cc := cX0_knownCount) (maxL := 1) (ret := (some .int)) (by decide) rfl ?_
  intro p e s m args below meth c s₁ B hml hv
  obtain ⟨rfl, hP, hK⟩ := hv
  have hx := B.exec
  have hb := B.bytes
  have hr := B.returns
  have hts := atoms_spec (ws := wsX0_knownCount) B.pre
  have hown : s.vm.findClass RX0 = some m.cls := findClass_of_methodNamed B.named
  have hlocks := B.notSynchronized
  have hw0 : ∀ w ∈ wsX00, w ∈ wsX0_knownCount := fun _ h => List.mem_cons_of_mem _ (List.mem_append_right _ h)
  have hl := lv_entry ([.ref (ad 0)]) (n := 1) (Nat.le_of_ble_eq_true rfl)
  rw [lg_entry_eq]
  generalize (lg_sl ([.ref (ad 0)]) ++ List.replicate (1 - (lg_sl ([.ref (ad 0)])).length) Slot.unset).toArray = ls at hl ⊢
  have hl : lv_has ls 1 [(0, .ref (ad 0))] := hl
  refine lv_aload_n hx hb dX0_knownCount_0 rfl (lv_at hl 0 rfl) ?_
  refine va_get (D := (dC, dI)) (ci := 0) (v := .int kb) (C := RX0) (T := TX0) (N := 11) hx hb hts hw0 hown hK hP 0 rfl rfl 7 (by decide) (hts (.fieldLink RX0 20 "DropCode" "knownBits" "I") (by decide +kernel)) (fun _ h9 => h9) rfl dX0_knownCount_1 ?_
  refine vp_callSi (W.runS (As := [.int kb]) (rest := []) ⟨hx, hb, hml, hown, hts⟩ (c_J6_bitCount_0f7a4 l kb) (va_cwS 1 hts gX0_knownCount_J6_bitCount_0f7a4 rfl rfl rfl (by decide +kernel) ⟨Nat.le_of_ble_eq_true rfl, Nat.le_of_ble_eq_true rfl⟩) ⟨pFb, fun U hU hW => ⟨rfl, trivial⟩⟩ rfl rfl hl.1 rfl (lv_room (Nat.le_of_ble_eq_true rfl)) dX0_knownCount_4 ⟨Nat.zero_le _, Nat.zero_le _⟩) (fun r_1 er_1 => ?_)
  subst er_1
  exact W.iret (v := nI (pc kb)) hx hb hr (fun t ht hW => ⟨nI (pc kb), rfl, rfl, ht⟩) (fun _ h9 => by cases h9) dX0_knownCount_7
set_option maxHeartbeats 4000000 in
set_option maxRecDepth 100000 in
theorem c_X0_unknownBits (l : Launch) (dC : Nat → ClassId) (dI : Nat → Nat → Nat) (ad : Nat → Nat) (cI : ClassId) (K : Nat) (row S V : Nat → Int32) (dc : Int32) (kw ko : Nat → Int32) (kb : Int32) (qu : Nat → Int32) (qe cl : Int32) (j : Nat) (hj : j < 60) : Met l yX0_unknownBits wsX0_unknownBits ({ frames := 0, cells := 0, slots := 0, locals := 0 }) (va_Pc [.ref (ad 0), .int (nI j)] (rB dC dI [(cI, .int)] (xW ad cI K row S V dc kw ko kb qu qe cl))) (vp_Si (fun r => r = unk (S j) kb)) 0 0 (fun _ => False) := by
  refine Met.ofW (cc := cX0_unknownBits) (maxL := 2) (ret := (some .int)) (by decide) rfl ?_
  intro p e s m args below meth c s₁ B hml hv
  obtain ⟨rfl, hP, hK⟩ := hv
  have hx := B.exec
  have hb := B.bytes
  have hr := B.returns
  have hts := atoms_spec (ws := wsX0_unknownBits) B.pre
  have hown : s.vm.findClass RX0 = some m.cls := findClass_of_methodNamed B.named
  have hlocks := B.notSynchronized
  have hw0 : ∀ w ∈ wsX00, w ∈ wsX0_unknownBits := fun _ h => List.mem_cons_of_mem _ (List.mem_append_right _ h)
  have hl := lv_entry ([.ref (ad 0), .int (nI j)]) (n := 2) (Nat.le_of_ble_eq_true rfl)
  rw [lg_entry_eq]
  generalize (lg_sl ([.ref (ad 0), .int (nI j)]) ++ List.replicate (2 - (lg_sl ([.ref (ad 0), .int (nI j)])).length) Slot.unset).toArray = ls at hl ⊢
  have hl : lv_has ls 2 [(0, .ref (ad 0)), (1, .int (nI j))] := hl
  refine lv_aload_n hx hb dX0_unknownBits_0 rfl (lv_at hl 0 rfl) ?_
  refine va_get (D := (dC, dI)) (ci := 0) (v := .ref (ad 2)) (C := RX0) (T := TX0) (N := 11) hx hb hts hw0 hown hK hP 0 rfl rfl 2 (by decide) (hts (.fieldLink RX0 9 "DropCode" "dropSets" "[I") (by decide +kernel)) (fun _ h9 => h9) rfl dX0_unknownBits_1 ?_
  refine lv_iload_n hx hb dX0_unknownBits_4 rfl (lv_at hl 1 rfl) ?_
  refine va_iald (i := nI j) hx hb hK hP 2 0 rfl rfl (vp_in_nI hj (by omega)) dX0_unknownBits_5 ?_
  rw [nI_clamp (by omega)]
  refine lv_aload_n hx hb dX0_unknownBits_6 rfl (lv_at hl 0 rfl) ?_
  refine va_get (D := (dC, dI)) (ci := 0) (v := .int kb) (C := RX0) (T := TX0) (N := 11) hx hb hts hw0 hown hK hP 0 rfl rfl 7 (by decide) (hts (.fieldLink RX0 20 "DropCode" "knownBits" "I") (by decide +kernel)) (fun _ h9 => h9) rfl dX0_unknownBits_7 ?_
  refine lv_iconst (v := (-1)) hx hb dX0_unknownBits_10 (by decide) ?_
  refine lv_ixor hx hb dX0_unknownBits_11 ?_
  refine lv_iand hx hb dX0_unknownBits_12 ?_
  exact W.iret (v := (S j) &&& (kb ^^^ (-1))) hx hb hr (fun t ht hW => ⟨(S j) &&& (kb ^^^ (-1)), rfl, rfl, ht⟩) (fun _ h9 => by cases h9) dX0_unknownBits_13
set_option maxHeartbeats 4000000 in
set_option maxRecDepth 100000 in
theorem c_X0_unknownCount (l : Launch) (dC : Nat → ClassId) (dI : Nat → Nat → Nat) (ad : Nat → Nat) (cI : ClassId) (K : Nat) (row S V : Nat → Int32) (dc : Int32) (kw ko : Nat → Int32) (kb : Int32) (qu : Nat → Int32) (qe cl : Int32) (j : Nat) (hj : j < 60) : Met l yX0_unknownCount wsX0_unknownCount ({ frames := 1, cells := 0, slots := 0, locals := 21 }) (va_Pc [.ref (ad 0), .int (nI j)] (rB dC dI [(cI, .int)] (xW ad cI K row S V dc kw ko kb qu qe cl))) (vp_Si (fun r => r = nI (pc (unk (S j) kb)))) 0 0 (fun _ => False) := by
  refine Met.ofW (cc := cX0_unknownCount) (maxL := 2) (ret := (some .int)) (by decide) rfl ?_
  intro p e s m args below meth c s₁ B hml hv
  obtain ⟨rfl, hP, hK⟩ := hv
  have hx := B.exec
  have hb := B.bytes
  have hr := B.returns
  have hts := atoms_spec (ws := wsX0_unknownCount) B.pre
  have hown : s.vm.findClass RX0 = some m.cls := findClass_of_methodNamed B.named
  have hlocks := B.notSynchronized
  have hw0 : ∀ w ∈ wsX00, w ∈ wsX0_unknownCount := fun _ h => List.mem_cons_of_mem _ (List.mem_append_right _ h)
  have hl := lv_entry ([.ref (ad 0), .int (nI j)]) (n := 2) (Nat.le_of_ble_eq_true rfl)
  rw [lg_entry_eq]
  generalize (lg_sl ([.ref (ad 0), .int (nI j)]) ++ List.replicate (2 - (lg_sl ([.ref (ad 0), .int (nI j)])).length) Slot.unset).toArray = ls at hl ⊢
  have hl : lv_has ls 2 [(0, .ref (ad 0)), (1, .int (nI j))] := hl
  refine lv_aload_n hx hb dX0_unknownCount_0 rfl (lv_at hl 0 rfl) ?_
  refine lv_iload_n hx hb dX0_unknownCount_1 rfl (lv_at hl 1 rfl) ?_
  refine vp_callSi (W.runV (As := [.int (nI j)]) (rest := []) ⟨hx, hb, hml, hown, hts⟩ (c_X0_unknownBits l dC dI ad cI K row S V dc kw ko kb qu qe cl j hj) (cwV 1 hts gX0_unknownCount_X0_unknownBits rfl rfl rfl (by decide +kernel) ⟨Nat.le_of_ble_eq_true rfl, Nat.le_of_ble_eq_true rfl⟩) ⟨rFb, va_recv hK hP (ci := 0) (q0 := 0) rfl rfl, fun U hU hW => ⟨rfl, by rw [hU]; exact hP, va_K.moved hW.alike hK⟩⟩ rfl rfl hl.1 rfl (lv_room (Nat.le_of_ble_eq_true rfl)) dX0_unknownCount_2 ⟨Nat.zero_le _, Nat.zero_le _⟩) (fun r_1 er_1 => ?_)
  subst er_1
  refine vp_callSi (W.runS (As := [.int (unk (S j) kb)]) (rest := []) ⟨hx, hb, hml, hown, hts⟩ (c_J6_bitCount_0f7a4 l (unk (S j) kb)) (va_cwS 1 hts gX0_unknownCount_J6_bitCount_0f7a4 rfl rfl rfl (by decide +kernel) ⟨Nat.le_of_ble_eq_true rfl, Nat.le_of_ble_eq_true rfl⟩) ⟨pFb, fun U hU hW => ⟨rfl, trivial⟩⟩ rfl rfl hl.1 rfl (lv_room (Nat.le_of_ble_eq_true rfl)) dX0_unknownCount_5 ⟨Nat.zero_le _, Nat.zero_le _⟩) (fun r_2 er_2 => ?_)
  subst er_2
  exact W.iret (v := nI (pc (unk (S j) kb))) hx hb hr (fun t ht hW => ⟨nI (pc (unk (S j) kb)), rfl, rfl, ht⟩) (fun _ h9 => by cases h9) dX0_unknownCount_8
set_option maxHeartbeats 4000000 in
set_option maxRecDepth 100000 in
theorem c_X0_xorOfKnown (l : Launch) (dC : Nat → ClassId) (dI : Nat → Nat → Nat) (ad : Nat → Nat) (cI : ClassId) (K : Nat) (row S V : Nat → Int32) (dc : Int32) (kw ko : Nat → Int32) (kb : Int32) (qu : Nat → Int32) (qe cl : Int32) (hK1 : 1 ≤ K) (hK2 : K ≤ 32) (j : Nat) (hj : j < 60) : Met l yX0_xorOfKnown wsX0_xorOfKnown ({ frames := 2, cells := 0, slots := 0, locals := 44 }) (va_Pc [.ref (ad 0), .int (nI j)] (rB dC dI [(cI, .int)] (xW ad cI K row S V dc kw ko kb qu qe cl))) (vp_Si (fun r => r = xf kw (S j &&& kb) K)) 0 0 (fun _ => False) := by
  refine Met.ofW (cc := cX0_xorOfKnown) (maxL := 2) (ret := (some .int)) (by decide) rfl ?_
  intro p e s m args below meth c s₁ B hml hv
  obtain ⟨rfl, hP, hK⟩ := hv
  have hx := B.exec
  have hb := B.bytes
  have hr := B.returns
  have hts := atoms_spec (ws := wsX0_xorOfKnown) B.pre
  have hown : s.vm.findClass RX0 = some m.cls := findClass_of_methodNamed B.named
  have hlocks := B.notSynchronized
  have hw0 : ∀ w ∈ wsX00, w ∈ wsX0_xorOfKnown := fun _ h => List.mem_cons_of_mem _ (List.mem_append_right _ h)
  have hl := lv_entry ([.ref (ad 0), .int (nI j)]) (n := 2) (Nat.le_of_ble_eq_true rfl)
  rw [lg_entry_eq]
  generalize (lg_sl ([.ref (ad 0), .int (nI j)]) ++ List.replicate (2 - (lg_sl ([.ref (ad 0), .int (nI j)])).length) Slot.unset).toArray = ls at hl ⊢
  have hl : lv_has ls 2 [(0, .ref (ad 0)), (1, .int (nI j))] := hl
  refine lv_aload_n hx hb dX0_xorOfKnown_0 rfl (lv_at hl 0 rfl) ?_
  refine va_get (D := (dC, dI)) (ci := 0) (v := .ref (ad 4)) (C := RX0) (T := TX0) (N := 11) hx hb hts hw0 hown hK hP 0 rfl rfl 5 (by decide) (hts (.fieldLink RX0 44 "DropCode" "knownWords" "[I") (by decide +kernel)) (fun _ h9 => h9) rfl dX0_xorOfKnown_1 ?_
  refine lv_aload_n hx hb dX0_xorOfKnown_4 rfl (lv_at hl 0 rfl) ?_
  refine va_get (D := (dC, dI)) (ci := 0) (v := .ref (ad 2)) (C := RX0) (T := TX0) (N := 11) hx hb hts hw0 hown hK hP 0 rfl rfl 2 (by decide) (hts (.fieldLink RX0 9 "DropCode" "dropSets" "[I") (by decide +kernel)) (fun _ h9 => h9) rfl dX0_xorOfKnown_5 ?_
  refine lv_iload_n hx hb dX0_xorOfKnown_8 rfl (lv_at hl 1 rfl) ?_
  refine va_iald (i := nI j) hx hb hK hP 2 0 rfl rfl (vp_in_nI hj (by omega)) dX0_xorOfKnown_9 ?_
  rw [nI_clamp (by omega)]
  refine lv_aload_n hx hb dX0_xorOfKnown_10 rfl (lv_at hl 0 rfl) ?_
  refine va_get (D := (dC, dI)) (ci := 0) (v := .int kb) (C := RX0) (T := TX0) (N := 11) hx hb hts hw0 hown hK hP 0 rfl rfl 7 (by decide) (hts (.fieldLink RX0 20 "DropCode" "knownBits" "I") (by decide +kernel)) (fun _ h9 => h9) rfl dX0_xorOfKnown_11 ?_
  refine lv_iand hx hb dX0_xorOfKnown_14 ?_
  have hPc := hP.sub (ws' := [(ad 4, .inl (cI, K, .inl kw))]) [4] rfl
  refine vp_callSi (W.runS (As := [.ref (ad 4), .int ((S j) &&& kb)]) (rest := []) ⟨hx, hb, hml, hown, hts⟩ (c_X0_xorOf l dC dI (ad 4) cI K hK2 kw ((S j) &&& kb)) (va_cwS 2 hts gX0_xorOfKnown_X0_xorOf rfl rfl rfl (by decide +kernel) ⟨Nat.le_of_ble_eq_true rfl, Nat.le_of_ble_eq_true rfl⟩) ⟨rFb, fun U hU hW => ⟨rfl, by rw [hU]; exact hPc, va_K.moved hW.alike hK⟩⟩ rfl rfl hl.1 rfl (lv_room (Nat.le_of_ble_eq_true rfl)) dX0_xorOfKnown_15 ⟨Nat.zero_le _, Nat.zero_le _⟩) (fun r_1 er_1 => ?_)
  subst er_1
  exact W.iret (v := xf kw ((S j) &&& kb) K) hx hb hr (fun t ht hW => ⟨xf kw ((S j) &&& kb) K, rfl, rfl, ht⟩) (fun _ h9 => by cases h9) dX0_xorOfKnown_18
