theorem cn_no {f : Nat → Bool} {k : Nat} (h : f k = false) : cn f (k + 1) = cn f k := by rw [cn, h]; rfl
theorem cn_s {f : Nat → Bool} {k : Nat} (h : f k = true) : cn f (k + 1) = cn f k + 1 := by rw [cn, h]; rfl
theorem cn_k {f : Nat → Bool} {k n : Nat} (h : k < n) : cn f (k + 1) ≤ cn f n := by
  induction n with
  | zero => omega
  | succ n ih =>
    rcases Nat.lt_or_ge k n with b | b
    · have := ih b
      show _ ≤ cn f n + _
      omega
    · have : k = n := by omega
      subst this
      exact Nat.le_refl _
theorem eqA_no {i : Nat} {S : Nat → Int32} {kb : Int32} {qu : Nat → Int32} {q k : Nat} (h : eqP i S kb k = false) : eqA i S kb qu q (k + 1) = eqA i S kb qu q k := by rw [eqA, if_neg (by rw [h]; exact Bool.false_ne_true)]
theorem eqA_yes {i : Nat} {S : Nat → Int32} {kb : Int32} {qu : Nat → Int32} {q k : Nat} (h : eqP i S kb k = true) : eqA i S kb qu q (k + 1) = upd (eqA i S kb qu q k) (q + cn (eqP i S kb) k) (nI k) := by rw [eqA, if_pos h]
theorem nI_one {a : Nat} (ha : a ≤ 32) (h : nI a = 1) : a = 1 := (nI_eq (a := a) (b := 1) (by omega) (by omega)).mp h
set_option maxHeartbeats 4000000 in
set_option maxRecDepth 100000 in
theorem c_X0_noteIfClash (l : Launch) (dC : Nat → ClassId) (dI : Nat → Nat → Nat) (sz : Nat) (ad : Nat → Nat) (cI : ClassId) (K : Nat) (row S V : Nat → Int32) (dc : Int32) (kw ko : Nat → Int32) (kb : Int32) (qu : Nat → Int32) (qe cl : Int32) (hK1 : 1 ≤ K) (hK2 : K ≤ 32) (j : Nat) (hj : j < 60) : Met l yX0_noteIfClash wsX0_noteIfClash ({ frames := 3, cells := 0, slots := 0, locals := 65 }) (va_Pc [.ref (ad 0), .int (nI j)] (wB dC dI [(cI, .int)] sz (xW ad cI K row S V dc kw ko kb qu qe cl))) (va_Qv (fun (_ : Unit) => True) (fun _ => oB dC dI [(cI, .int)] (va_A (xW ad cI K row S V dc kw ko kb qu qe cl) sz) (xW ad cI K row S V dc kw ko kb qu qe (clA K kw (S j) kb (V j) cl))) (va_A (xW ad cI K row S V dc kw ko kb qu qe cl) sz)) 0 0 (va_A (xW ad cI K row S V dc kw ko kb qu qe cl) sz) := by
  refine Met.ofW (cc := cX0_noteIfClash) (maxL := 2) (ret := none) (by decide) rfl ?_
  intro p e s m args below meth c s₁ B hml hv
  obtain ⟨rfl, hsz, hP, hK, hD0⟩ := hv
  have hx := B.exec
  have hb := B.bytes
  have hr := B.returns
  have hts := atoms_spec (ws := wsX0_noteIfClash) B.pre
  have hown : s.vm.findClass RX0 = some m.cls := findClass_of_methodNamed B.named
  have hlocks := B.notSynchronized
  have hw0 : ∀ w ∈ wsX00, w ∈ wsX0_noteIfClash := fun _ h => List.mem_cons_of_mem _ (List.mem_append_right _ h)
  subst hsz
  have hD := hD0.self (sz := s.heap.size)
  generalize hAe : va_A (xW ad cI K row S V dc kw ko kb qu qe cl) s.heap.size = A at hD ⊢
  have hA : ∀ q : Nat, s.heap.size ≤ q → A q := fun q h => by rw [← hAe]; exact Or.inr h
  have hS : va_S A s.heap s.heap [] := va_S.rf
  have hP : va_P (dC, dI) vwCl (xW ad cI K row S V dc kw ko kb qu qe cl) s.heap := hP
  have hl := lv_entry ([.ref (ad 0), .int (nI j)]) (n := 2) (Nat.le_of_ble_eq_true rfl)
  rw [lg_entry_eq]
  generalize (lg_sl ([.ref (ad 0), .int (nI j)]) ++ List.replicate (2 - (lg_sl ([.ref (ad 0), .int (nI j)])).length) Slot.unset).toArray = ls at hl ⊢
  have hl : lv_has ls 2 [(0, .ref (ad 0)), (1, .int (nI j))] := hl
  refine lv_aload_n hx hb dX0_noteIfClash_0 rfl (lv_at hl 0 rfl) ?_
  refine lv_iload_n hx hb dX0_noteIfClash_1 rfl (lv_at hl 1 rfl) ?_
  refine vp_callSi (W.runV (As := [.int (nI j)]) (rest := []) ⟨hx, hb, hml, hown, hts⟩ (c_X0_xorOfKnown l dC dI ad cI K row S V dc kw ko kb qu qe cl hK1 hK2 j hj) (cwV 1 hts gX0_noteIfClash_X0_xorOfKnown rfl rfl rfl (by decide +kernel) ⟨Nat.le_of_ble_eq_true rfl, Nat.le_of_ble_eq_true rfl⟩) ⟨rFb, va_recv hK hP (ci := 0) (q0 := 0) rfl rfl, fun U hU hW => ⟨rfl, by rw [hU]; exact hP, va_K.moved hW.alike hK⟩⟩ rfl rfl hl.1 rfl (lv_room (Nat.le_of_ble_eq_true rfl)) dX0_noteIfClash_2 ⟨Nat.zero_le _, Nat.zero_le _⟩) (fun r_1 er_1 => ?_)
  subst er_1
  refine lv_aload_n hx hb dX0_noteIfClash_5 rfl (lv_at hl 0 rfl) ?_
  refine va_get (D := (dC, dI)) (ci := 0) (v := .ref (ad 3)) (C := RX0) (T := TX0) (N := 11) hx hb hts hw0 hown hK hP 0 rfl rfl 3 (by decide) (hts (.fieldLink RX0 13 "DropCode" "dropWords" "[I") (by decide +kernel)) (fun _ h9 => h9) rfl dX0_noteIfClash_6 ?_
  refine lv_iload_n hx hb dX0_noteIfClash_9 rfl (lv_at hl 1 rfl) ?_
  refine va_iald (i := nI j) hx hb hK hP 3 0 rfl rfl (vp_in_nI hj (by omega)) dX0_noteIfClash_10 ?_
  rw [nI_clamp (by omega)]
  refine lv_icmp_eq (tgt := 24) hx hb dX0_noteIfClash_11 (by decide) (fun c1 => ?_) (fun c1 => ?_)
  · skip
    rw [show clA K kw (S j) kb (V j) cl = cl from if_pos c1]
    exact W.vret hx hb hr (fun t ht hW => ⟨⟨(), rfl, trivial, by rw [ht]; exact hP, va_K.moved hW.alike hK, hD⟩, hS.F ht⟩) hS.2.2 dX0_noteIfClash_24
  · skip
    rw [show clA K kw (S j) kb (V j) cl = cl + 1 from if_neg c1]
    refine lv_aload_n hx hb dX0_noteIfClash_14 rfl (lv_at hl 0 rfl) ?_
    refine lv_dup hx hb dX0_noteIfClash_15 rfl ?_
    refine va_get (D := (dC, dI)) (ci := 0) (v := .int cl) (C := RX0) (T := TX0) (N := 11) hx hb hts hw0 hown hK hP 0 rfl rfl 10 (by decide) (hts (.fieldLink RX0 29 "DropCode" "clashCount" "I") (by decide +kernel)) (fun _ h9 => h9) rfl dX0_noteIfClash_16 ?_
    refine lv_iconst (v := 1) hx hb dX0_noteIfClash_19 (by decide) ?_
    refine lv_iadd hx hb dX0_noteIfClash_20 ?_
    refine va_put (D := (dC, dI)) (ci := 0) (v := .int (cl + 1)) (ty := .int) (C := RX0) (T := TX0) (N := 11) hx hb hts hw0 tyX0 tyX0_ok nmX0 hown hK hP hD hS 0 rfl rfl 10 (by decide) (hts (.fieldLink RX0 29 "DropCode" "clashCount" "I") (by decide +kernel)) (fun _ h9 => h9) rfl (by decide +kernel) rfl rfl (Nat.le_of_ble_eq_true rfl) dX0_noteIfClash_21 (fun H locs hP hD hS => ?_)
    have hP : va_P (dC, dI) vwCl (xW ad cI K row S V dc kw ko kb qu qe (cl + 1)) H := hP
    have hD : va_D A (xW ad cI K row S V dc kw ko kb qu qe (cl + 1)) := hD
    exact W.vret hx hb hr (fun t ht hW => ⟨⟨(), rfl, trivial, by rw [ht]; exact hP, va_K.moved hW.alike hK, hD⟩, hS.F ht⟩) hS.2.2 dX0_noteIfClash_24
set_option maxHeartbeats 4000000 in
set_option maxRecDepth 100000 in
theorem c_X0_enqueue (l : Launch) (dC : Nat → ClassId) (dI : Nat → Nat → Nat) (sz : Nat) (ad : Nat → Nat) (cI : ClassId) (K : Nat) (row : Nat → Int32) (S : Nat → Int32) (V : Nat → Int32) (dc : Int32) (kw : Nat → Int32) (ko : Nat → Int32) (kb : Int32) (qu : Nat → Int32) (cl : Int32) (q : Nat) (hq : q < 60) (v : Int32) : Met l yX0_enqueue wsX0_enqueue ({ frames := 0, cells := 0, slots := 0, locals := 0 }) (va_Pc [.ref (ad 0), .int v] (wB dC dI [(cI, .int)] sz (xW ad cI K row S V dc kw ko kb qu (nI q) cl))) (va_Qv (fun (_ : Unit) => True) (fun _ => oB dC dI [(cI, .int)] (va_A (xW ad cI K row S V dc kw ko kb qu (nI q) cl) sz) (xW ad cI K row S V dc kw ko kb (upd qu q v) (nI (q + 1)) cl)) (va_A (xW ad cI K row S V dc kw ko kb qu (nI q) cl) sz)) 0 0 (va_A (xW ad cI K row S V dc kw ko kb qu (nI q) cl) sz) := by
  refine Met.ofW (cc := cX0_enqueue) (maxL := 2) (ret := none) (by decide) rfl ?_
  intro p e s m args below meth c s₁ B hml hv
  obtain ⟨rfl, hsz, hP, hK, hD0⟩ := hv
  have hx := B.exec
  have hb := B.bytes
  have hr := B.returns
  have hts := atoms_spec (ws := wsX0_enqueue) B.pre
  have hown : s.vm.findClass RX0 = some m.cls := findClass_of_methodNamed B.named
  have hlocks := B.notSynchronized
  have hw0 : ∀ w ∈ wsX00, w ∈ wsX0_enqueue := fun _ h => List.mem_cons_of_mem _ (List.mem_append_right _ h)
  subst hsz
  have hD := hD0.self (sz := s.heap.size)
  generalize hAe : va_A (xW ad cI K row S V dc kw ko kb qu (nI q) cl) s.heap.size = A at hD ⊢
  have hA : ∀ q : Nat, s.heap.size ≤ q → A q := fun q h => by rw [← hAe]; exact Or.inr h
  have hS : va_S A s.heap s.heap [] := va_S.rf
  have hP : va_P (dC, dI) vwCl (xW ad cI K row S V dc kw ko kb qu (nI q) cl) s.heap := hP
  have hl := lv_entry ([.ref (ad 0), .int v]) (n := 2) (Nat.le_of_ble_eq_true rfl)
  rw [lg_entry_eq]
  generalize (lg_sl ([.ref (ad 0), .int v]) ++ List.replicate (2 - (lg_sl ([.ref (ad 0), .int v])).length) Slot.unset).toArray = ls at hl ⊢
  have hl : lv_has ls 2 [(0, .ref (ad 0)), (1, .int v)] := hl
  refine lv_aload_n hx hb dX0_enqueue_0 rfl (lv_at hl 0 rfl) ?_
  refine va_get (D := (dC, dI)) (ci := 0) (v := .int (nI q)) (C := RX0) (T := TX0) (N := 11) hx hb hts hw0 hown hK hP 0 rfl rfl 9 (by decide) (hts (.fieldLink RX0 26 "DropCode" "queueEnd" "I") (by decide +kernel)) (fun _ h9 => h9) rfl dX0_enqueue_1 ?_
  refine lv_bipush (v := 60) hx hb dX0_enqueue_4 (by decide) ?_
  refine lv_icmp_ge (tgt := 29) hx hb dX0_enqueue_6 (by decide) (fun c1 => ?_) (fun c1 => ?_)
  · skip
    exact absurd c1 (nI_ge (a := q) (b := 60) hq (by omega))
  · skip
    refine lv_aload_n hx hb dX0_enqueue_9 rfl (lv_at hl 0 rfl) ?_
    refine va_get (D := (dC, dI)) (ci := 0) (v := .ref (ad 6)) (C := RX0) (T := TX0) (N := 11) hx hb hts hw0 hown hK hP 0 rfl rfl 8 (by decide) (hts (.fieldLink RX0 23 "DropCode" "queue" "[I") (by decide +kernel)) (fun _ h9 => h9) rfl dX0_enqueue_10 ?_
    refine lv_aload_n hx hb dX0_enqueue_13 rfl (lv_at hl 0 rfl) ?_
    refine va_get (D := (dC, dI)) (ci := 0) (v := .int (nI q)) (C := RX0) (T := TX0) (N := 11) hx hb hts hw0 hown hK hP 0 rfl rfl 9 (by decide) (hts (.fieldLink RX0 26 "DropCode" "queueEnd" "I") (by decide +kernel)) (fun _ h9 => h9) rfl dX0_enqueue_14 ?_
    refine lv_iload_n hx hb dX0_enqueue_17 rfl (lv_at hl 1 rfl) ?_
    refine va_iast (i := nI q) hx hb hK hP hD hS 6 0 rfl rfl (vp_in_nI hq (by omega)) dX0_enqueue_18 (fun H locs hP hD hS => ?_)
    rw [nI_clamp (by omega)] at hP hD
    have hP : va_P (dC, dI) vwCl (xW ad cI K row S V dc kw ko kb (upd qu q v) (nI q) cl) H := hP
    have hD : va_D A (xW ad cI K row S V dc kw ko kb (upd qu q v) (nI q) cl) := hD
    refine lv_aload_n hx hb dX0_enqueue_19 rfl (lv_at hl 0 rfl) ?_
    refine lv_dup hx hb dX0_enqueue_20 rfl ?_
    refine va_get (D := (dC, dI)) (ci := 0) (v := .int (nI q)) (C := RX0) (T := TX0) (N := 11) hx hb hts hw0 hown hK hP 0 rfl rfl 9 (by decide) (hts (.fieldLink RX0 26 "DropCode" "queueEnd" "I") (by decide +kernel)) (fun _ h9 => h9) rfl dX0_enqueue_21 ?_
    refine lv_iconst (v := 1) hx hb dX0_enqueue_24 (by decide) ?_
    refine lv_iadd hx hb dX0_enqueue_25 ?_
    refine lv_topi (fun z_1 ez_1 => ?_)
    have ez_1 : z_1 = nI (q + 1) := ez_1.trans (nI_1 q)
    subst ez_1
    refine va_put (D := (dC, dI)) (ci := 0) (v := .int (nI (q + 1))) (ty := .int) (C := RX0) (T := TX0) (N := 11) hx hb hts hw0 tyX0 tyX0_ok nmX0 hown hK hP hD hS 0 rfl rfl 9 (by decide) (hts (.fieldLink RX0 26 "DropCode" "queueEnd" "I") (by decide +kernel)) (fun _ h9 => h9) rfl (by decide +kernel) rfl rfl (Nat.le_of_ble_eq_true rfl) dX0_enqueue_26 (fun H locs hP hD hS => ?_)
    have hP : va_P (dC, dI) vwCl (xW ad cI K row S V dc kw ko kb (upd qu q v) (nI (q + 1)) cl) H := hP
    have hD : va_D A (xW ad cI K row S V dc kw ko kb (upd qu q v) (nI (q + 1)) cl) := hD
    exact W.vret hx hb hr (fun t ht hW => ⟨⟨(), rfl, trivial, by rw [ht]; exact hP, va_K.moved hW.alike hK, hD⟩, hS.F ht⟩) hS.2.2 dX0_enqueue_29
set_option maxHeartbeats 4000000 in
set_option maxRecDepth 100000 in
theorem c_X0_learn (l : Launch) (dC : Nat → ClassId) (dI : Nat → Nat → Nat) (sz : Nat) (ad : Nat → Nat) (cI : ClassId) (K : Nat) (row S V : Nat → Int32) (dc : Int32) (kw ko : Nat → Int32) (kb : Int32) (qu : Nat → Int32) (qe cl : Int32) (hK1 : 1 ≤ K) (hK2 : K ≤ 32) (i : Nat) (hi : i < K) (hpc : pc kb < K) (v : Int32) : Met l yX0_learn wsX0_learn ({ frames := 2, cells := 0, slots := 0, locals := 40 }) (va_Pc [.ref (ad 0), .int (nI i), .int v] (wB dC dI [(cI, .int)] sz (xW ad cI K row S V dc kw ko kb qu qe cl))) (va_Qv (fun (_ : Unit) => True) (fun _ => oB dC dI [(cI, .int)] (va_A (xW ad cI K row S V dc kw ko kb qu qe cl) sz) (xW ad cI K row S V dc (upd kw i v) (upd ko (pc kb) (nI i)) (kb ||| tw i) qu qe cl)) (va_A (xW ad cI K row S V dc kw ko kb qu qe cl) sz)) 0 0 (va_A (xW ad cI K row S V dc kw ko kb qu qe cl) sz) := by
  refine Met.ofW (cc := cX0_learn) (maxL := 3) (ret := none) (by decide) rfl ?_
  intro p e s m args below meth c s₁ B hml hv
  obtain ⟨rfl, hsz, hP, hK, hD0⟩ := hv
  have hx := B.exec
  have hb := B.bytes
  have hr := B.returns
  have hts := atoms_spec (ws := wsX0_learn) B.pre
  have hown : s.vm.findClass RX0 = some m.cls := findClass_of_methodNamed B.named
  have hlocks := B.notSynchronized
  have hw0 : ∀ w ∈ wsX00, w ∈ wsX0_learn := fun _ h => List.mem_cons_of_mem _ (List.mem_append_right _ h)
  subst hsz
  have hD := hD0.self (sz := s.heap.size)
  generalize hAe : va_A (xW ad cI K row S V dc kw ko kb qu qe cl) s.heap.size = A at hD ⊢
  have hA : ∀ q : Nat, s.heap.size ≤ q → A q := fun q h => by rw [← hAe]; exact Or.inr h
  have hS : va_S A s.heap s.heap [] := va_S.rf
  have hP : va_P (dC, dI) vwCl (xW ad cI K row S V dc kw ko kb qu qe cl) s.heap := hP
  have hl := lv_entry ([.ref (ad 0), .int (nI i), .int v]) (n := 3) (Nat.le_of_ble_eq_true rfl)
  rw [lg_entry_eq]
  generalize (lg_sl ([.ref (ad 0), .int (nI i), .int v]) ++ List.replicate (3 - (lg_sl ([.ref (ad 0), .int (nI i), .int v])).length) Slot.unset).toArray = ls at hl ⊢
  have hl : lv_has ls 3 [(0, .ref (ad 0)), (1, .int (nI i)), (2, .int v)] := hl
  refine lv_aload_n hx hb dX0_learn_0 rfl (lv_at hl 0 rfl) ?_
  refine va_get (D := (dC, dI)) (ci := 0) (v := .ref (ad 4)) (C := RX0) (T := TX0) (N := 11) hx hb hts hw0 hown hK hP 0 rfl rfl 5 (by decide) (hts (.fieldLink RX0 44 "DropCode" "knownWords" "[I") (by decide +kernel)) (fun _ h9 => h9) rfl dX0_learn_1 ?_
  refine lv_iload_n hx hb dX0_learn_4 rfl (lv_at hl 1 rfl) ?_
  refine lv_iload_n hx hb dX0_learn_5 rfl (lv_at hl 2 rfl) ?_
  refine va_iast (i := nI i) hx hb hK hP hD hS 4 0 rfl rfl (vp_in_nI hi (by omega)) dX0_learn_6 (fun H locs hP hD hS => ?_)
  rw [nI_clamp (by omega)] at hP hD
  have hP : va_P (dC, dI) vwCl (xW ad cI K row S V dc (upd kw i v) ko kb qu qe cl) H := hP
  have hD : va_D A (xW ad cI K row S V dc (upd kw i v) ko kb qu qe cl) := hD
  refine lv_aload_n hx hb dX0_learn_7 rfl (lv_at hl 0 rfl) ?_
  refine va_get (D := (dC, dI)) (ci := 0) (v := .ref (ad 5)) (C := RX0) (T := TX0) (N := 11) hx hb hts hw0 hown hK hP 0 rfl rfl 6 (by decide) (hts (.fieldLink RX0 47 "DropCode" "knownOrder" "[I") (by decide +kernel)) (fun _ h9 => h9) rfl dX0_learn_8 ?_
  refine lv_aload_n hx hb dX0_learn_11 rfl (lv_at hl 0 rfl) ?_
  refine vp_callSi (W.runV (As := []) (rest := [.ref (ad 5)]) ⟨hx, hb, hml, hown, hts⟩ (c_X0_knownCount l dC dI ad cI K row S V dc (upd kw i v) ko kb qu qe cl) (cwV 0 hts gX0_learn_X0_knownCount rfl rfl rfl (by decide +kernel) ⟨Nat.le_of_ble_eq_true rfl, Nat.le_of_ble_eq_true rfl⟩) ⟨rFb, va_recv hK hP (ci := 0) (q0 := 0) rfl rfl, fun U hU hW => ⟨rfl, by rw [hU]; exact hP, va_K.moved hW.alike hK⟩⟩ rfl rfl hl.1 rfl (lv_room (Nat.le_of_ble_eq_true rfl)) dX0_learn_12 ⟨Nat.zero_le _, Nat.zero_le _⟩) (fun r_1 er_1 => ?_)
  subst er_1
  refine lv_iload_n hx hb dX0_learn_15 rfl (lv_at hl 1 rfl) ?_
  refine va_iast (i := nI (pc kb)) hx hb hK hP hD hS 5 0 rfl rfl (vp_in_nI hpc (by omega)) dX0_learn_16 (fun H locs hP hD hS => ?_)
  rw [nI_clamp (by omega)] at hP hD
  have hP : va_P (dC, dI) vwCl (xW ad cI K row S V dc (upd kw i v) (upd ko (pc kb) (nI i)) kb qu qe cl) H := hP
  have hD : va_D A (xW ad cI K row S V dc (upd kw i v) (upd ko (pc kb) (nI i)) kb qu qe cl) := hD
  refine lv_aload_n hx hb dX0_learn_17 rfl (lv_at hl 0 rfl) ?_
  refine lv_dup hx hb dX0_learn_18 rfl ?_
  refine va_get (D := (dC, dI)) (ci := 0) (v := .int kb) (C := RX0) (T := TX0) (N := 11) hx hb hts hw0 hown hK hP 0 rfl rfl 7 (by decide) (hts (.fieldLink RX0 20 "DropCode" "knownBits" "I") (by decide +kernel)) (fun _ h9 => h9) rfl dX0_learn_19 ?_
  refine lv_iconst (v := 1) hx hb dX0_learn_22 (by decide) ?_
  refine lv_iload_n hx hb dX0_learn_23 rfl (lv_at hl 1 rfl) ?_
  refine lv_ishl hx hb dX0_learn_24 ?_
  refine lv_topi (fun z_2 ez_2 => ?_)
  have ez_2 : z_2 = tw i := ez_2.trans (rfl)
  subst ez_2
  refine lv_ior hx hb dX0_learn_25 ?_
  refine va_put (D := (dC, dI)) (ci := 0) (v := .int (kb ||| (tw i))) (ty := .int) (C := RX0) (T := TX0) (N := 11) hx hb hts hw0 tyX0 tyX0_ok nmX0 hown hK hP hD hS 0 rfl rfl 7 (by decide) (hts (.fieldLink RX0 20 "DropCode" "knownBits" "I") (by decide +kernel)) (fun _ h9 => h9) rfl (by decide +kernel) rfl rfl (Nat.le_of_ble_eq_true rfl) dX0_learn_26 (fun H locs hP hD hS => ?_)
  have hP : va_P (dC, dI) vwCl (xW ad cI K row S V dc (upd kw i v) (upd ko (pc kb) (nI i)) (kb ||| (tw i)) qu qe cl) H := hP
  have hD : va_D A (xW ad cI K row S V dc (upd kw i v) (upd ko (pc kb) (nI i)) (kb ||| (tw i)) qu qe cl) := hD
  exact W.vret hx hb hr (fun t ht hW => ⟨⟨(), rfl, trivial, by rw [ht]; exact hP, va_K.moved hW.alike hK, hD⟩, hS.F ht⟩) hS.2.2 dX0_learn_29
set_option maxHeartbeats 4000000 in
set_option maxRecDepth 100000 in
theorem c_X0_enqueueOpenedBy (l : Launch) (dC : Nat → ClassId) (dI : Nat → Nat → Nat) (sz : Nat) (ad : Nat → Nat) (cI : ClassId) (K : Nat) (row : Nat → Int32) (S : Nat → Int32) (V : Nat → Int32) (kw : Nat → Int32) (ko : Nat → Int32) (kb : Int32) (qu : Nat → Int32) (cl : Int32) (n : Nat) (hn : n ≤ 60) (q : Nat) (i : Nat) (hi : i < 32) (hq : q + cn (eqP i S kb) n ≤ 60) : Met l yX0_enqueueOpenedBy wsX0_enqueueOpenedBy ({ frames := 2, cells := 0, slots := 0, locals := 42 }) (va_Pc [.ref (ad 0), .int (nI i)] (wB dC dI [(cI, .int)] sz (xW ad cI K row S V (nI n) kw ko kb qu (nI q) cl))) (va_Qv (fun (_ : Unit) => True) (fun _ => oB dC dI [(cI, .int)] (va_A (xW ad cI K row S V (nI n) kw ko kb qu (nI q) cl) sz) (xW ad cI K row S V (nI n) kw ko kb (eqA i S kb qu q n) (nI (q + cn (eqP i S kb) n)) cl)) (va_A (xW ad cI K row S V (nI n) kw ko kb qu (nI q) cl) sz)) 0 0 (va_A (xW ad cI K row S V (nI n) kw ko kb qu (nI q) cl) sz) := by
  refine Met.ofW (cc := cX0_enqueueOpenedBy) (maxL := 3) (ret := none) (by decide) rfl ?_
  intro p e s m args below meth c s₁ B hml hv
  obtain ⟨rfl, hsz, hP, hK, hD0⟩ := hv
  have hx := B.exec
  have hb := B.bytes
  have hr := B.returns
  have hts := atoms_spec (ws := wsX0_enqueueOpenedBy) B.pre
  have hown : s.vm.findClass RX0 = some m.cls := findClass_of_methodNamed B.named
  have hlocks := B.notSynchronized
  have hw0 : ∀ w ∈ wsX00, w ∈ wsX0_enqueueOpenedBy := fun _ h => List.mem_cons_of_mem _ (List.mem_append_right _ h)
  subst hsz
  have hD := hD0.self (sz := s.heap.size)
  generalize hAe : va_A (xW ad cI K row S V (nI n) kw ko kb qu (nI q) cl) s.heap.size = A at hD ⊢
  have hA : ∀ q : Nat, s.heap.size ≤ q → A q := fun q h => by rw [← hAe]; exact Or.inr h
  have hS : va_S A s.heap s.heap [] := va_S.rf
  have hP : va_P (dC, dI) vwCl (xW ad cI K row S V (nI n) kw ko kb qu (nI q) cl) s.heap := hP
  have hl := lv_entry ([.ref (ad 0), .int (nI i)]) (n := 3) (Nat.le_of_ble_eq_true rfl)
  rw [lg_entry_eq]
  generalize (lg_sl ([.ref (ad 0), .int (nI i)]) ++ List.replicate (3 - (lg_sl ([.ref (ad 0), .int (nI i)])).length) Slot.unset).toArray = ls at hl ⊢
  have hl : lv_has ls 3 [(0, .ref (ad 0)), (1, .int (nI i))] := hl
  refine lv_iconst (v := 0) hx hb dX0_enqueueOpenedBy_0 (by decide) ?_
  refine lv_istore_n (lv' := [(2, .int 0), (0, .ref (ad 0)), (1, .int (nI i))]) hx hb dX0_enqueueOpenedBy_1 rfl hl (by decide) rfl (fun ls hl => ?_)
  have key : ∀ (m9 k : Nat) (H : Heap) (locs : List Loc) (ls : Array Slot), n = k + m9 → va_P (dC, dI) vwCl (xW ad cI K row S V (nI n) kw ko kb (eqA i S kb qu q k) (nI (q + cn (eqP i S kb) k)) cl) H → va_D A (xW ad cI K row S V (nI n) kw ko kb (eqA i S kb qu q k) (nI (q + cn (eqP i S kb) k)) cl) → va_S A s.heap H locs → lv_has ls 3 [(2, .int (nI k)), (0, .ref (ad 0)), (1, .int (nI i))] → W p l e (headSpec wsX0_enqueueOpenedBy ({ frames := 2, cells := 0, slots := 0, locals := 42 })).room s m ([.ref (ad 0), .int (nI i)] : List Value).toArray below meth c H locs 0 0 (MQ below (va_Qv (fun (_ : Unit) => True) (fun _ => oB dC dI [(cI, .int)] A (xW ad cI K row S V (nI n) kw ko kb (eqA i S kb qu q n) (nI (q + cn (eqP i S kb) n)) cl)) A) ([.ref (ad 0), .int (nI i)] : List Value).toArray s 0 0 A) (F0 m 2 ls []) := by
    intro m9
    induction m9 with
    | zero =>
      intro k H locs ls hk hP hD hS hl
      have hkn : n = k := by omega
      refine lv_iload_n hx hb dX0_enqueueOpenedBy_2 rfl (lv_at hl 0 rfl) ?_
      refine lv_aload_n hx hb dX0_enqueueOpenedBy_3 rfl (lv_at hl 1 rfl) ?_
      refine va_get (D := (dC, dI)) (ci := 0) (v := .int (nI n)) (C := RX0) (T := TX0) (N := 11) hx hb hts hw0 hown hK hP 0 rfl rfl 4 (by decide) (hts (.fieldLink RX0 16 "DropCode" "dropCount" "I") (by decide +kernel)) (fun _ h9 => h9) rfl dX0_enqueueOpenedBy_4 ?_
      refine lv_icmp_ge (tgt := 43) hx hb dX0_enqueueOpenedBy_7 (by decide) (fun c1 => ?_) (fun c1 => ?_)
      · skip
        rw [← hkn] at hP hD
        exact W.vret hx hb hr (fun t ht hW => ⟨⟨(), rfl, trivial, by rw [ht]; exact hP, va_K.moved hW.alike hK, hD⟩, hS.F ht⟩) hS.2.2 dX0_enqueueOpenedBy_43
      · skip
        exact absurd (nI_le (by omega) (by omega)) c1
    | succ m9 ih =>
      intro k H locs ls hk hP hD hS hl
      have hkn : k < n := by omega
      have hmono := cn_k (f := eqP i S kb) hkn
      refine lv_iload_n hx hb dX0_enqueueOpenedBy_2 rfl (lv_at hl 0 rfl) ?_
      refine lv_aload_n hx hb dX0_enqueueOpenedBy_3 rfl (lv_at hl 1 rfl) ?_
      refine va_get (D := (dC, dI)) (ci := 0) (v := .int (nI n)) (C := RX0) (T := TX0) (N := 11) hx hb hts hw0 hown hK hP 0 rfl rfl 4 (by decide) (hts (.fieldLink RX0 16 "DropCode" "dropCount" "I") (by decide +kernel)) (fun _ h9 => h9) rfl dX0_enqueueOpenedBy_4 ?_
      refine lv_icmp_ge (tgt := 43) hx hb dX0_enqueueOpenedBy_7 (by decide) (fun c1 => ?_) (fun c1 => ?_)
      · skip
        exact absurd c1 (nI_ge hkn (by omega))
      · skip
        refine lv_aload_n hx hb dX0_enqueueOpenedBy_10 rfl (lv_at hl 1 rfl) ?_
        refine va_get (D := (dC, dI)) (ci := 0) (v := .ref (ad 2)) (C := RX0) (T := TX0) (N := 11) hx hb hts hw0 hown hK hP 0 rfl rfl 2 (by decide) (hts (.fieldLink RX0 9 "DropCode" "dropSets" "[I") (by decide +kernel)) (fun _ h9 => h9) rfl dX0_enqueueOpenedBy_11 ?_
        refine lv_iload_n hx hb dX0_enqueueOpenedBy_14 rfl (lv_at hl 0 rfl) ?_
        refine va_iald (i := nI k) hx hb hK hP 2 0 rfl rfl (vp_in_nI (by omega : k < 60) (by omega)) dX0_enqueueOpenedBy_15 ?_
        rw [nI_clamp (by omega)]
        refine lv_iload_n hx hb dX0_enqueueOpenedBy_16 rfl (lv_at hl 2 rfl) ?_
        refine vp_callSi (W.runS (As := [.int (S k), .int (nI i)]) (rest := []) ⟨hx, hb, hml, hown, hts⟩ (c_X0_hasBit l (S k) i hi) (va_cwS 2 hts gX0_enqueueOpenedBy_X0_hasBit rfl rfl rfl (by decide +kernel) ⟨Nat.le_of_ble_eq_true rfl, Nat.le_of_ble_eq_true rfl⟩) ⟨pFb, fun U hU hW => ⟨rfl, trivial⟩⟩ rfl rfl hl.1 rfl (lv_room (Nat.le_of_ble_eq_true rfl)) dX0_enqueueOpenedBy_17 ⟨Nat.zero_le _, Nat.zero_le _⟩) (fun r_1 er_1 => ?_)
        subst er_1
        cases hbi : bt (S k) i with
        | false =>
          rw [if_neg Bool.false_ne_true]
          refine lv_if_eq (tgt := 37) hx hb dX0_enqueueOpenedBy_20 (by decide) (fun c3 => ?_) (fun c3 => ?_)
          · skip
            have hep : eqP i S kb k = false := by unfold eqP; rw [hbi]; rfl
            refine lv_iinc (v := nI (k + 1)) (lv' := [(2, .int (nI (k + 1))), (0, .ref (ad 0)), (1, .int (nI i))]) hx hb dX0_enqueueOpenedBy_37 hl (k := 0) rfl (nI_1 k) (by decide) rfl (fun ls hl => ?_)
            refine lv_goto (tgt := 2) hx hb dX0_enqueueOpenedBy_40 (by decide) ?_
            exact ih (k + 1) _ _ ls (by omega) (by rw [eqA_no hep, cn_no hep]; exact hP) (by rw [eqA_no hep, cn_no hep]; exact hD) hS (lv_sub hl [0, 1, 2] rfl)
          · skip
            exact absurd rfl c3
        | true =>
          rw [if_pos rfl]
          refine lv_if_eq (tgt := 37) hx hb dX0_enqueueOpenedBy_20 (by decide) (fun c3 => ?_) (fun c3 => ?_)
          · skip
            exact absurd c3 (by decide)
          · skip
            refine lv_aload_n hx hb dX0_enqueueOpenedBy_23 rfl (lv_at hl 1 rfl) ?_
            refine lv_iload_n hx hb dX0_enqueueOpenedBy_24 rfl (lv_at hl 0 rfl) ?_
            refine vp_callSi (W.runV (As := [.int (nI k)]) (rest := []) ⟨hx, hb, hml, hown, hts⟩ (c_X0_unknownCount l dC dI ad cI K row S V (nI n) kw ko kb (eqA i S kb qu q k) (nI (q + cn (eqP i S kb) k)) cl k (by omega)) (cwV 1 hts gX0_enqueueOpenedBy_X0_unknownCount rfl rfl rfl (by decide +kernel) ⟨Nat.le_of_ble_eq_true rfl, Nat.le_of_ble_eq_true rfl⟩) ⟨rFb, va_recv hK hP (ci := 0) (q0 := 0) rfl rfl, fun U hU hW => ⟨rfl, by rw [hU]; exact hP, va_K.moved hW.alike hK⟩⟩ rfl rfl hl.1 rfl (lv_room (Nat.le_of_ble_eq_true rfl)) dX0_enqueueOpenedBy_25 ⟨Nat.zero_le _, Nat.zero_le _⟩) (fun r_2 er_2 => ?_)
            subst er_2
            refine lv_iconst (v := 1) hx hb dX0_enqueueOpenedBy_28 (by decide) ?_
            refine lv_icmp_ne (tgt := 37) hx hb dX0_enqueueOpenedBy_29 (by decide) (fun c4 => ?_) (fun c4 => ?_)
            · skip
              have hep : eqP i S kb k = false := by unfold eqP; rw [hbi, decide_eq_false (fun h => c4 (by rw [show pc (unk (S k) kb) = 1 from h]; rfl))]; rfl
              refine lv_iinc (v := nI (k + 1)) (lv' := [(2, .int (nI (k + 1))), (0, .ref (ad 0)), (1, .int (nI i))]) hx hb dX0_enqueueOpenedBy_37 hl (k := 0) rfl (nI_1 k) (by decide) rfl (fun ls hl => ?_)
              refine lv_goto (tgt := 2) hx hb dX0_enqueueOpenedBy_40 (by decide) ?_
              exact ih (k + 1) _ _ ls (by omega) (by rw [eqA_no hep, cn_no hep]; exact hP) (by rw [eqA_no hep, cn_no hep]; exact hD) hS (lv_sub hl [0, 1, 2] rfl)
            · skip
              have hop : opn (S k) kb = 1 := nI_one (pc_le _) c4
              have hep : eqP i S kb k = true := by unfold eqP; rw [hbi, decide_eq_true hop]; rfl
              refine lv_aload_n hx hb dX0_enqueueOpenedBy_32 rfl (lv_at hl 1 rfl) ?_
              refine lv_iload_n hx hb dX0_enqueueOpenedBy_33 rfl (lv_at hl 0 rfl) ?_
              have hFc := va_free (wc := (xW ad cI K row S V (nI n) kw ko kb (eqA i S kb qu q k) (nI (q + cn (eqP i S kb) k)) cl)) hD hS hA [0, 1, 2, 3, 4, 5, 6] rfl
              refine va_callv (va_runV (As := [.int (nI k)]) (rest := []) ⟨hx, hb, hml, hown, hts⟩ (c_X0_enqueue l dC dI H.size ad cI K row S V (nI n) kw ko kb (eqA i S kb qu q k) cl (q + cn (eqP i S kb) k) (by have := cn_s (f := eqP i S kb) hep; omega) (nI k)) (cwV 1 hts gX0_enqueueOpenedBy_X0_enqueue rfl rfl rfl (by decide +kernel) ⟨Nat.le_of_ble_eq_true rfl, Nat.le_of_ble_eq_true rfl⟩) ⟨wFb, va_recv hK hP (ci := 0) (q0 := 0) rfl rfl, fun U hU hW => ⟨rfl, by rw [hU], by rw [hU]; exact hP, va_K.moved hW.alike hK, hD.weaken (fun _ _ _ _ => trivial)⟩⟩ rfl rfl hl.1 rfl (lv_room (Nat.le_of_ble_eq_true rfl)) dX0_enqueueOpenedBy_34 ⟨Nat.le_of_ble_eq_true rfl, Nat.le_of_ble_eq_true rfl⟩) hS (fun q _ h => hFc q h) hFc (fun u t H1 locs ht hvm hw hB hz1 hk1 hS => ?_)
              obtain ⟨hP1, hK1, hD1⟩ := hB
              rw [ht] at hP1
              obtain ⟨hP, hD⟩ := va_join (wr := []) (w1 := (xW ad cI K row S V (nI n) kw ko kb (upd (eqA i S kb qu q k) (q + cn (eqP i S kb) k) (nI k)) (nI (q + cn (eqP i S kb) k + 1)) cl)) hP hD [0, 1, 2, 3, 4, 5, 6] [] rfl rfl (by decide) (by decide) hk1 hFc hP1 hD1
              clear hP1 hD1 hK1 hFc hk1 hz1
              generalize H1 = H at hP hS ⊢
              have hP : va_P (dC, dI) vwCl (xW ad cI K row S V (nI n) kw ko kb (upd (eqA i S kb qu q k) (q + cn (eqP i S kb) k) (nI k)) (nI (q + cn (eqP i S kb) k + 1)) cl) H := hP
              have hD : va_D A (xW ad cI K row S V (nI n) kw ko kb (upd (eqA i S kb qu q k) (q + cn (eqP i S kb) k) (nI k)) (nI (q + cn (eqP i S kb) k + 1)) cl) := hD
              refine lv_iinc (v := nI (k + 1)) (lv' := [(2, .int (nI (k + 1))), (0, .ref (ad 0)), (1, .int (nI i))]) hx hb dX0_enqueueOpenedBy_37 hl (k := 0) rfl (nI_1 k) (by decide) rfl (fun ls hl => ?_)
              refine lv_goto (tgt := 2) hx hb dX0_enqueueOpenedBy_40 (by decide) ?_
              exact ih (k + 1) _ _ ls (by omega) (by rw [eqA_yes hep, cn_s hep, ← Nat.add_assoc]; exact hP) (by rw [eqA_yes hep, cn_s hep, ← Nat.add_assoc]; exact hD) hS (lv_sub hl [0, 1, 2] rfl)
  exact key n 0 s.heap [] ls (by omega) hP hD hS (lv_sub hl [0, 1, 2] rfl)
set_option maxHeartbeats 4000000 in
set_option maxRecDepth 100000 in
theorem c_X0_takeOut (l : Launch) (dC : Nat → ClassId) (dI : Nat → Nat → Nat) (sz : Nat) (ad : Nat → Nat) (cI : ClassId) (K : Nat) (row : Nat → Int32) (S : Nat → Int32) (V : Nat → Int32) (kw : Nat → Int32) (ko : Nat → Int32) (kb : Int32) (qu : Nat → Int32) (cl : Int32) (hK1 : 1 ≤ K) (hK2 : K ≤ 32) (n : Nat) (hn : n ≤ 60) (q : Nat) (j : Nat) (hj : j < n) (hop : opn (S j) kb ≤ 1) (hS0 : ∀ i, bt (S j) i = true → i < K) (hkb : ∀ i, bt kb i = true → i < K) (hq : (tkF K n S V j (kw, ko, kb, qu, q, cl)).2.2.2.2.1 ≤ 60) : Met l yX0_takeOut wsX0_takeOut ({ frames := 4, cells := 0, slots := 0, locals := 86 }) (va_Pc [.ref (ad 0), .int (nI j)] (wB dC dI [(cI, .int)] sz (xW ad cI K row S V (nI n) kw ko kb qu (nI q) cl))) (va_Qv (fun (_ : Unit) => True) (fun _ => oB dC dI [(cI, .int)] (va_A (xW ad cI K row S V (nI n) kw ko kb qu (nI q) cl) sz) (xW ad cI K row S V (nI n) ((tkF K n S V j (kw, ko, kb, qu, q, cl)).1) ((tkF K n S V j (kw, ko, kb, qu, q, cl)).2.1) ((tkF K n S V j (kw, ko, kb, qu, q, cl)).2.2.1) ((tkF K n S V j (kw, ko, kb, qu, q, cl)).2.2.2.1) (nI (tkF K n S V j (kw, ko, kb, qu, q, cl)).2.2.2.2.1) ((tkF K n S V j (kw, ko, kb, qu, q, cl)).2.2.2.2.2))) (va_A (xW ad cI K row S V (nI n) kw ko kb qu (nI q) cl) sz)) 0 0 (va_A (xW ad cI K row S V (nI n) kw ko kb qu (nI q) cl) sz) := by
  refine Met.ofW (cc := cX0_takeOut) (maxL := 4) (ret := none) (by decide) rfl ?_
  intro p e s m args below meth c s₁ B hml hv
  obtain ⟨rfl, hsz, hP, hK, hD0⟩ := hv
  have hx := B.exec
  have hb := B.bytes
  have hr := B.returns
  have hts := atoms_spec (ws := wsX0_takeOut) B.pre
  have hown : s.vm.findClass RX0 = some m.cls := findClass_of_methodNamed B.named
  have hlocks := B.notSynchronized
  have hw0 : ∀ w ∈ wsX00, w ∈ wsX0_takeOut := fun _ h => List.mem_cons_of_mem _ (List.mem_append_right _ h)
  subst hsz
  have hD := hD0.self (sz := s.heap.size)
  generalize hAe : va_A (xW ad cI K row S V (nI n) kw ko kb qu (nI q) cl) s.heap.size = A at hD ⊢
  have hA : ∀ q : Nat, s.heap.size ≤ q → A q := fun q h => by rw [← hAe]; exact Or.inr h
  have hS : va_S A s.heap s.heap [] := va_S.rf
  have hP : va_P (dC, dI) vwCl (xW ad cI K row S V (nI n) kw ko kb qu (nI q) cl) s.heap := hP
  have hl := lv_entry ([.ref (ad 0), .int (nI j)]) (n := 4) (Nat.le_of_ble_eq_true rfl)
  rw [lg_entry_eq]
  generalize (lg_sl ([.ref (ad 0), .int (nI j)]) ++ List.replicate (4 - (lg_sl ([.ref (ad 0), .int (nI j)])).length) Slot.unset).toArray = ls at hl ⊢
  have hl : lv_has ls 4 [(0, .ref (ad 0)), (1, .int (nI j))] := hl
  refine lv_aload_n hx hb dX0_takeOut_0 rfl (lv_at hl 0 rfl) ?_
  refine lv_iload_n hx hb dX0_takeOut_1 rfl (lv_at hl 1 rfl) ?_
  refine vp_callSi (W.runV (As := [.int (nI j)]) (rest := []) ⟨hx, hb, hml, hown, hts⟩ (c_X0_unknownBits l dC dI ad cI K row S V (nI n) kw ko kb qu (nI q) cl j (by omega)) (cwV 1 hts gX0_takeOut_X0_unknownBits rfl rfl rfl (by decide +kernel) ⟨Nat.le_of_ble_eq_true rfl, Nat.le_of_ble_eq_true rfl⟩) ⟨rFb, va_recv hK hP (ci := 0) (q0 := 0) rfl rfl, fun U hU hW => ⟨rfl, by rw [hU]; exact hP, va_K.moved hW.alike hK⟩⟩ rfl rfl hl.1 rfl (lv_room (Nat.le_of_ble_eq_true rfl)) dX0_takeOut_2 ⟨Nat.zero_le _, Nat.zero_le _⟩) (fun r_1 er_1 => ?_)
  subst er_1
  refine lv_istore_n (lv' := [(2, .int (unk (S j) kb)), (0, .ref (ad 0)), (1, .int (nI j))]) hx hb dX0_takeOut_5 rfl hl (by decide) rfl (fun ls hl => ?_)
  refine lv_iload_n hx hb dX0_takeOut_6 rfl (lv_at hl 0 rfl) ?_
  refine lv_if_ne (tgt := 16) hx hb dX0_takeOut_7 (by decide) (fun c1 => ?_) (fun c1 => ?_)
  · skip
    have hu : ¬ unk (S j) kb = 0 := c1
    have ho1 : opn (S j) kb = 1 := by rcases Nat.lt_or_ge (opn (S j) kb) 1 with g | g; exact absurd (opn_0' (by omega)) hu; omega
    obtain ⟨i, hi, e1, e2, e3⟩ := opn_1 ho1
    have hiK : i < K := hS0 i e2
    have hpc := pc_room hK2 hkb hiK e3
    have htk : tkF K n S V j (kw, ko, kb, qu, q, cl) = (upd kw i (V j ^^^ xk K kw (S j) kb), upd ko (pc kb) (nI i), kb ||| tw i, eqA i S (kb ||| tw i) qu q n, q + cn (eqP i S (kb ||| tw i)) n, cl) := by
      show (if _ then _ else _) = _
      rw [if_neg hu, e1, lo_tw i hi]
    rw [htk] at hq
    rw [htk]
    rw [e1] at hl
    refine lv_iload_n hx hb dX0_takeOut_16 rfl (lv_at hl 0 rfl) ?_
    refine vp_callSi (W.runS (As := [.int (tw i)]) (rest := []) ⟨hx, hb, hml, hown, hts⟩ (c_J6_numberOfTrailingZeros_0f7a4 l i hi) (va_cwS 1 hts gX0_takeOut_J6_numberOfTrailingZeros_0f7a4 rfl rfl rfl (by decide +kernel) ⟨Nat.le_of_ble_eq_true rfl, Nat.le_of_ble_eq_true rfl⟩) ⟨pFb, fun U hU hW => ⟨rfl, trivial⟩⟩ rfl rfl hl.1 rfl (lv_room (Nat.le_of_ble_eq_true rfl)) dX0_takeOut_17 ⟨Nat.zero_le _, Nat.zero_le _⟩) (fun r_2 er_2 => ?_)
    subst er_2
    refine lv_istore_n (lv' := [(3, .int (nI i)), (2, .int (tw i)), (0, .ref (ad 0)), (1, .int (nI j))]) hx hb dX0_takeOut_20 rfl hl (by decide) rfl (fun ls hl => ?_)
    refine lv_aload_n hx hb dX0_takeOut_21 rfl (lv_at hl 2 rfl) ?_
    refine lv_iload_n hx hb dX0_takeOut_22 rfl (lv_at hl 0 rfl) ?_
    refine lv_aload_n hx hb dX0_takeOut_23 rfl (lv_at hl 2 rfl) ?_
    refine va_get (D := (dC, dI)) (ci := 0) (v := .ref (ad 3)) (C := RX0) (T := TX0) (N := 11) hx hb hts hw0 hown hK hP 0 rfl rfl 3 (by decide) (hts (.fieldLink RX0 13 "DropCode" "dropWords" "[I") (by decide +kernel)) (fun _ h9 => h9) rfl dX0_takeOut_24 ?_
    refine lv_iload_n hx hb dX0_takeOut_27 rfl (lv_at hl 3 rfl) ?_
    refine va_iald (i := nI j) hx hb hK hP 3 0 rfl rfl (vp_in_nI (by omega : j < 60) (by omega)) dX0_takeOut_28 ?_
    rw [nI_clamp (by omega)]
    refine lv_aload_n hx hb dX0_takeOut_29 rfl (lv_at hl 2 rfl) ?_
    refine lv_iload_n hx hb dX0_takeOut_30 rfl (lv_at hl 3 rfl) ?_
    refine vp_callSi (W.runV (As := [.int (nI j)]) (rest := [.int (V j), .int (nI i), .ref (ad 0)]) ⟨hx, hb, hml, hown, hts⟩ (c_X0_xorOfKnown l dC dI ad cI K row S V (nI n) kw ko kb qu (nI q) cl hK1 hK2 j (by omega)) (cwV 1 hts gX0_takeOut_X0_xorOfKnown rfl rfl rfl (by decide +kernel) ⟨Nat.le_of_ble_eq_true rfl, Nat.le_of_ble_eq_true rfl⟩) ⟨rFb, va_recv hK hP (ci := 0) (q0 := 0) rfl rfl, fun U hU hW => ⟨rfl, by rw [hU]; exact hP, va_K.moved hW.alike hK⟩⟩ rfl rfl hl.1 rfl (lv_room (Nat.le_of_ble_eq_true rfl)) dX0_takeOut_31 ⟨Nat.zero_le _, Nat.zero_le _⟩) (fun r_3 er_3 => ?_)
    subst er_3
    refine lv_ixor hx hb dX0_takeOut_34 ?_
    refine lv_topi (fun z_4 ez_4 => ?_)
    have ez_4 : z_4 = V j ^^^ xk K kw (S j) kb := ez_4.trans (rfl)
    subst ez_4
    have hFc := va_free (wc := (xW ad cI K row S V (nI n) kw ko kb qu (nI q) cl)) hD hS hA [0, 1, 2, 3, 4, 5, 6] rfl
    refine va_callv (va_runV (As := [.int (nI i), .int (V j ^^^ xk K kw (S j) kb)]) (rest := []) ⟨hx, hb, hml, hown, hts⟩ (c_X0_learn l dC dI s.heap.size ad cI K row S V (nI n) kw ko kb qu (nI q) cl hK1 hK2 i hiK hpc (V j ^^^ xk K kw (S j) kb)) (cwV 2 hts gX0_takeOut_X0_learn rfl rfl rfl (by decide +kernel) ⟨Nat.le_of_ble_eq_true rfl, Nat.le_of_ble_eq_true rfl⟩) ⟨wFb, va_recv hK hP (ci := 0) (q0 := 0) rfl rfl, fun U hU hW => ⟨rfl, by rw [hU], by rw [hU]; exact hP, va_K.moved hW.alike hK, hD.weaken (fun _ _ _ _ => trivial)⟩⟩ rfl rfl hl.1 rfl (lv_room (Nat.le_of_ble_eq_true rfl)) dX0_takeOut_35 ⟨Nat.le_of_ble_eq_true rfl, Nat.le_of_ble_eq_true rfl⟩) hS (fun q _ h => hFc q h) hFc (fun u t H1 locs ht hvm hw hB hz1 hk1 hS => ?_)
    obtain ⟨hP1, hK1, hD1⟩ := hB
    rw [ht] at hP1
    obtain ⟨hP, hD⟩ := va_join (wr := []) (w1 := (xW ad cI K row S V (nI n) (upd kw i (V j ^^^ xk K kw (S j) kb)) (upd ko (pc kb) (nI i)) (kb ||| tw i) qu (nI q) cl)) hP hD [0, 1, 2, 3, 4, 5, 6] [] rfl rfl (by decide) (by decide) hk1 hFc hP1 hD1
    clear hP1 hD1 hK1 hFc hk1 hz1
    generalize H1 = H at hP hS ⊢
    have hP : va_P (dC, dI) vwCl (xW ad cI K row S V (nI n) (upd kw i (V j ^^^ xk K kw (S j) kb)) (upd ko (pc kb) (nI i)) (kb ||| tw i) qu (nI q) cl) H := hP
    have hD : va_D A (xW ad cI K row S V (nI n) (upd kw i (V j ^^^ xk K kw (S j) kb)) (upd ko (pc kb) (nI i)) (kb ||| tw i) qu (nI q) cl) := hD
    refine lv_aload_n hx hb dX0_takeOut_38 rfl (lv_at hl 2 rfl) ?_
    refine lv_iload_n hx hb dX0_takeOut_39 rfl (lv_at hl 0 rfl) ?_
    have hFc := va_free (wc := (xW ad cI K row S V (nI n) (upd kw i (V j ^^^ xk K kw (S j) kb)) (upd ko (pc kb) (nI i)) (kb ||| tw i) qu (nI q) cl)) hD hS hA [0, 1, 2, 3, 4, 5, 6] rfl
    refine va_callv (va_runV (As := [.int (nI i)]) (rest := []) ⟨hx, hb, hml, hown, hts⟩ (c_X0_enqueueOpenedBy l dC dI H.size ad cI K row S V (upd kw i (V j ^^^ xk K kw (S j) kb)) (upd ko (pc kb) (nI i)) (kb ||| tw i) qu cl n hn q i hi hq) (cwV 1 hts gX0_takeOut_X0_enqueueOpenedBy rfl rfl rfl (by decide +kernel) ⟨Nat.le_of_ble_eq_true rfl, Nat.le_of_ble_eq_true rfl⟩) ⟨wFb, va_recv hK hP (ci := 0) (q0 := 0) rfl rfl, fun U hU hW => ⟨rfl, by rw [hU], by rw [hU]; exact hP, va_K.moved hW.alike hK, hD.weaken (fun _ _ _ _ => trivial)⟩⟩ rfl rfl hl.1 rfl (lv_room (Nat.le_of_ble_eq_true rfl)) dX0_takeOut_40 ⟨Nat.le_of_ble_eq_true rfl, Nat.le_of_ble_eq_true rfl⟩) hS (fun q _ h => hFc q h) hFc (fun u t H1 locs ht hvm hw hB hz1 hk1 hS => ?_)
    obtain ⟨hP1, hK1, hD1⟩ := hB
    rw [ht] at hP1
    obtain ⟨hP, hD⟩ := va_join (wr := []) (w1 := (xW ad cI K row S V (nI n) (upd kw i (V j ^^^ xk K kw (S j) kb)) (upd ko (pc kb) (nI i)) (kb ||| tw i) (eqA i S (kb ||| tw i) qu q n) (nI (q + cn (eqP i S (kb ||| tw i)) n)) cl)) hP hD [0, 1, 2, 3, 4, 5, 6] [] rfl rfl (by decide) (by decide) hk1 hFc hP1 hD1
    clear hP1 hD1 hK1 hFc hk1 hz1
    generalize H1 = H at hP hS ⊢
    have hP : va_P (dC, dI) vwCl (xW ad cI K row S V (nI n) (upd kw i (V j ^^^ xk K kw (S j) kb)) (upd ko (pc kb) (nI i)) (kb ||| tw i) (eqA i S (kb ||| tw i) qu q n) (nI (q + cn (eqP i S (kb ||| tw i)) n)) cl) H := hP
    have hD : va_D A (xW ad cI K row S V (nI n) (upd kw i (V j ^^^ xk K kw (S j) kb)) (upd ko (pc kb) (nI i)) (kb ||| tw i) (eqA i S (kb ||| tw i) qu q n) (nI (q + cn (eqP i S (kb ||| tw i)) n)) cl) := hD
    exact W.vret hx hb hr (fun t ht hW => ⟨⟨(), rfl, trivial, by rw [ht]; exact hP, va_K.moved hW.alike hK, hD⟩, hS.F ht⟩) hS.2.2 dX0_takeOut_43
  · skip
    have hu : unk (S j) kb = 0 := c1
    rw [show tkF K n S V j (kw, ko, kb, qu, q, cl) = (kw, ko, kb, qu, q, clA K kw (S j) kb (V j) cl) from if_pos hu]
    refine lv_aload_n hx hb dX0_takeOut_10 rfl (lv_at hl 1 rfl) ?_
    refine lv_iload_n hx hb dX0_takeOut_11 rfl (lv_at hl 2 rfl) ?_
    have hFc := va_free (wc := (xW ad cI K row S V (nI n) kw ko kb qu (nI q) cl)) hD hS hA [0, 1, 2, 3, 4, 5, 6] rfl
    refine va_callv (va_runV (As := [.int (nI j)]) (rest := []) ⟨hx, hb, hml, hown, hts⟩ (c_X0_noteIfClash l dC dI s.heap.size ad cI K row S V (nI n) kw ko kb qu (nI q) cl hK1 hK2 j (by omega)) (cwV 1 hts gX0_takeOut_X0_noteIfClash rfl rfl rfl (by decide +kernel) ⟨Nat.le_of_ble_eq_true rfl, Nat.le_of_ble_eq_true rfl⟩) ⟨wFb, va_recv hK hP (ci := 0) (q0 := 0) rfl rfl, fun U hU hW => ⟨rfl, by rw [hU], by rw [hU]; exact hP, va_K.moved hW.alike hK, hD.weaken (fun _ _ _ _ => trivial)⟩⟩ rfl rfl hl.1 rfl (lv_room (Nat.le_of_ble_eq_true rfl)) dX0_takeOut_12 ⟨Nat.le_of_ble_eq_true rfl, Nat.le_of_ble_eq_true rfl⟩) hS (fun q _ h => hFc q h) hFc (fun u t H1 locs ht hvm hw hB hz1 hk1 hS => ?_)
    obtain ⟨hP1, hK1, hD1⟩ := hB
    rw [ht] at hP1
    obtain ⟨hP, hD⟩ := va_join (wr := []) (w1 := (xW ad cI K row S V (nI n) kw ko kb qu (nI q) (clA K kw (S j) kb (V j) cl))) hP hD [0, 1, 2, 3, 4, 5, 6] [] rfl rfl (by decide) (by decide) hk1 hFc hP1 hD1
    clear hP1 hD1 hK1 hFc hk1 hz1
    generalize H1 = H at hP hS ⊢
    have hP : va_P (dC, dI) vwCl (xW ad cI K row S V (nI n) kw ko kb qu (nI q) (clA K kw (S j) kb (V j) cl)) H := hP
    have hD : va_D A (xW ad cI K row S V (nI n) kw ko kb qu (nI q) (clA K kw (S j) kb (V j) cl)) := hD
    exact W.vret hx hb hr (fun t ht hW => ⟨⟨(), rfl, trivial, by rw [ht]; exact hP, va_K.moved hW.alike hK, hD⟩, hS.F ht⟩) hS.2.2 dX0_takeOut_15
set_option maxHeartbeats 4000000 in
set_option maxRecDepth 100000 in
theorem c_X0_runQueue (l : Launch) (dC : Nat → ClassId) (dI : Nat → Nat → Nat) (sz : Nat) (ad : Nat → Nat) (cI : ClassId) (K : Nat) (row : Nat → Int32) (S : Nat → Int32) (V : Nat → Int32) (hK1 : 1 ≤ K) (hK2 : K ≤ 32) (n : Nat) (hn : n ≤ 60) (z : QS) (hS0 : ∀ j, j < n → ∀ i, bt (S j) i = true → i < K) (hI : qInv K n S 0 z) : Met l yX0_runQueue wsX0_runQueue ({ frames := 5, cells := 0, slots := 0, locals := 109 }) (va_Pc [.ref (ad 0)] (wB dC dI [(cI, .int)] sz (xW ad cI K row S V (nI n) z.1 z.2.1 z.2.2.1 z.2.2.2.1 (nI z.2.2.2.2.1) z.2.2.2.2.2))) (va_Qv (fun (_ : Unit) => True) (fun _ => oB dC dI [(cI, .int)] (va_A (xW ad cI K row S V (nI n) z.1 z.2.1 z.2.2.1 z.2.2.2.1 (nI z.2.2.2.2.1) z.2.2.2.2.2) sz) (xW ad cI K row S V (nI n) ((rnF K n S V 60 0 z).1) ((rnF K n S V 60 0 z).2.1) ((rnF K n S V 60 0 z).2.2.1) ((rnF K n S V 60 0 z).2.2.2.1) (nI (rnF K n S V 60 0 z).2.2.2.2.1) ((rnF K n S V 60 0 z).2.2.2.2.2))) (va_A (xW ad cI K row S V (nI n) z.1 z.2.1 z.2.2.1 z.2.2.2.1 (nI z.2.2.2.2.1) z.2.2.2.2.2) sz)) 0 0 (va_A (xW ad cI K row S V (nI n) z.1 z.2.1 z.2.2.1 z.2.2.2.1 (nI z.2.2.2.2.1) z.2.2.2.2.2) sz) := by
  refine Met.ofW (cc := cX0_runQueue) (maxL := 2) (ret := none) (by decide) rfl ?_
  intro p e s m args below meth c s₁ B hml hv
  obtain ⟨rfl, hsz, hP, hK, hD0⟩ := hv
  have hx := B.exec
  have hb := B.bytes
  have hr := B.returns
  have hts := atoms_spec (ws := wsX0_runQueue) B.pre
  have hown : s.vm.findClass RX0 = some m.cls := findClass_of_methodNamed B.named
  have hlocks := B.notSynchronized
  have hw0 : ∀ w ∈ wsX00, w ∈ wsX0_runQueue := fun _ h => List.mem_cons_of_mem _ (List.mem_append_right _ h)
  subst hsz
  have hD := hD0.self (sz := s.heap.size)
  generalize hAe : va_A (xW ad cI K row S V (nI n) z.1 z.2.1 z.2.2.1 z.2.2.2.1 (nI z.2.2.2.2.1) z.2.2.2.2.2) s.heap.size = A at hD ⊢
  have hA : ∀ q : Nat, s.heap.size ≤ q → A q := fun q h => by rw [← hAe]; exact Or.inr h
  have hS : va_S A s.heap s.heap [] := va_S.rf
  have hP : va_P (dC, dI) vwCl (xW ad cI K row S V (nI n) z.1 z.2.1 z.2.2.1 z.2.2.2.1 (nI z.2.2.2.2.1) z.2.2.2.2.2) s.heap := hP
  have hl := lv_entry ([.ref (ad 0)]) (n := 2) (Nat.le_of_ble_eq_true rfl)
  rw [lg_entry_eq]
  generalize (lg_sl ([.ref (ad 0)]) ++ List.replicate (2 - (lg_sl ([.ref (ad 0)])).length) Slot.unset).toArray = ls at hl ⊢
  have hl : lv_has ls 2 [(0, .ref (ad 0))] := hl
  refine lv_iconst (v := 0) hx hb dX0_runQueue_0 (by decide) ?_
  refine lv_istore_n (lv' := [(1, .int 0), (0, .ref (ad 0))]) hx hb dX0_runQueue_1 rfl hl (by decide) rfl (fun ls hl => ?_)
  have key : ∀ (f h : Nat) (y : QS) (H : Heap) (locs : List Loc) (ls : Array Slot), f + h = 60 → qInv K n S h y → rnF K n S V f h y = rnF K n S V 60 0 z → va_P (dC, dI) vwCl (xW ad cI K row S V (nI n) y.1 y.2.1 y.2.2.1 y.2.2.2.1 (nI y.2.2.2.2.1) y.2.2.2.2.2) H → va_D A (xW ad cI K row S V (nI n) y.1 y.2.1 y.2.2.1 y.2.2.2.1 (nI y.2.2.2.2.1) y.2.2.2.2.2) → va_S A s.heap H locs → lv_has ls 2 [(1, .int (nI h)), (0, .ref (ad 0))] → W p l e (headSpec wsX0_runQueue ({ frames := 5, cells := 0, slots := 0, locals := 109 })).room s m ([.ref (ad 0)] : List Value).toArray below meth c H locs 0 0 (MQ below (va_Qv (fun (_ : Unit) => True) (fun _ => oB dC dI [(cI, .int)] A (xW ad cI K row S V (nI n) ((rnF K n S V 60 0 z).1) ((rnF K n S V 60 0 z).2.1) ((rnF K n S V 60 0 z).2.2.1) ((rnF K n S V 60 0 z).2.2.2.1) (nI (rnF K n S V 60 0 z).2.2.2.2.1) ((rnF K n S V 60 0 z).2.2.2.2.2))) A) ([.ref (ad 0)] : List Value).toArray s 0 0 A) (F0 m 2 ls []) := by
    intro f
    induction f with
    | zero =>
      intro h y H locs ls hf hy hv hP hD hS hl
      rw [← hv]
      refine lv_iload_n hx hb dX0_runQueue_2 rfl (lv_at hl 0 rfl) ?_
      refine lv_bipush (v := 60) hx hb dX0_runQueue_3 (by decide) ?_
      refine lv_icmp_ge (tgt := 32) hx hb dX0_runQueue_5 (by decide) (fun c1 => ?_) (fun c1 => ?_)
      · skip
        exact W.vret hx hb hr (fun t ht hW => ⟨⟨(), rfl, trivial, by rw [ht]; exact hP, va_K.moved hW.alike hK, hD⟩, hS.F ht⟩) hS.2.2 dX0_runQueue_32
      · skip
        exact absurd (nI_le (a := 60) (b := h) (by omega) (by omega)) c1
    | succ f ih =>
      intro h y H locs ls hf hy hv hP hD hS hl
      have hqn := qInv_le hy
      refine lv_iload_n hx hb dX0_runQueue_2 rfl (lv_at hl 0 rfl) ?_
      refine lv_bipush (v := 60) hx hb dX0_runQueue_3 (by decide) ?_
      refine lv_icmp_ge (tgt := 32) hx hb dX0_runQueue_5 (by decide) (fun c1 => ?_) (fun c1 => ?_)
      · skip
        exact absurd c1 (nI_ge (a := h) (b := 60) (by omega) (by omega))
      · skip
        refine lv_iload_n hx hb dX0_runQueue_8 rfl (lv_at hl 0 rfl) ?_
        refine lv_aload_n hx hb dX0_runQueue_9 rfl (lv_at hl 1 rfl) ?_
        refine va_get (D := (dC, dI)) (ci := 0) (v := .int (nI y.2.2.2.2.1)) (C := RX0) (T := TX0) (N := 11) hx hb hts hw0 hown hK hP 0 rfl rfl 9 (by decide) (hts (.fieldLink RX0 26 "DropCode" "queueEnd" "I") (by decide +kernel)) (fun _ h9 => h9) rfl dX0_runQueue_10 ?_
        refine lv_icmp_ge (tgt := 32) hx hb dX0_runQueue_13 (by decide) (fun c2 => ?_) (fun c2 => ?_)
        · skip
          have hle : ¬ h < y.2.2.2.2.1 := fun a => absurd c2 (nI_ge a (by omega))
          rw [← hv, rnF, if_neg hle]
          exact W.vret hx hb hr (fun t ht hW => ⟨⟨(), rfl, trivial, by rw [ht]; exact hP, va_K.moved hW.alike hK, hD⟩, hS.F ht⟩) hS.2.2 dX0_runQueue_32
        · skip
          have hlt : h < y.2.2.2.2.1 := by rcases Nat.lt_or_ge h y.2.2.2.2.1 with a | a; exact a; exact absurd (nI_le a (by omega)) c2
          obtain ⟨j, hj, ej, hop⟩ := hy.2.2.1 h hlt
          have hy2 := qInv_tk (V := V) hK2 hn hS0 hy hlt hj ej
          have hq2 := qInv_le hy2
          refine lv_aload_n hx hb dX0_runQueue_16 rfl (lv_at hl 1 rfl) ?_
          refine lv_aload_n hx hb dX0_runQueue_17 rfl (lv_at hl 1 rfl) ?_
          refine va_get (D := (dC, dI)) (ci := 0) (v := .ref (ad 6)) (C := RX0) (T := TX0) (N := 11) hx hb hts hw0 hown hK hP 0 rfl rfl 8 (by decide) (hts (.fieldLink RX0 23 "DropCode" "queue" "[I") (by decide +kernel)) (fun _ h9 => h9) rfl dX0_runQueue_18 ?_
          refine lv_iload_n hx hb dX0_runQueue_21 rfl (lv_at hl 0 rfl) ?_
          refine va_iald (i := nI h) hx hb hK hP 6 0 rfl rfl (vp_in_nI (by omega : h < 60) (by omega)) dX0_runQueue_22 ?_
          rw [nI_clamp (by omega)]
          refine lv_topi (fun z_1 ez_1 => ?_)
          have ez_1 : z_1 = nI j := ez_1.trans (ej)
          subst ez_1
          have hFc := va_free (wc := (xW ad cI K row S V (nI n) y.1 y.2.1 y.2.2.1 y.2.2.2.1 (nI y.2.2.2.2.1) y.2.2.2.2.2)) hD hS hA [0, 1, 2, 3, 4, 5, 6] rfl
          refine va_callv (va_runV (As := [.int (nI j)]) (rest := []) ⟨hx, hb, hml, hown, hts⟩ (c_X0_takeOut l dC dI H.size ad cI K row S V y.1 y.2.1 y.2.2.1 y.2.2.2.1 y.2.2.2.2.2 hK1 hK2 n hn y.2.2.2.2.1 j hj hop (hS0 j hj) hy.1 (Nat.le_trans hq2 hn)) (cwV 1 hts gX0_runQueue_X0_takeOut rfl rfl rfl (by decide +kernel) ⟨Nat.le_of_ble_eq_true rfl, Nat.le_of_ble_eq_true rfl⟩) ⟨wFb, va_recv hK hP (ci := 0) (q0 := 0) rfl rfl, fun U hU hW => ⟨rfl, by rw [hU], by rw [hU]; exact hP, va_K.moved hW.alike hK, hD.weaken (fun _ _ _ _ => trivial)⟩⟩ rfl rfl hl.1 rfl (lv_room (Nat.le_of_ble_eq_true rfl)) dX0_runQueue_23 ⟨Nat.le_of_ble_eq_true rfl, Nat.le_of_ble_eq_true rfl⟩) hS (fun q _ h => hFc q h) hFc (fun u t H1 locs ht hvm hw hB hz1 hk1 hS => ?_)
          obtain ⟨hP1, hK1, hD1⟩ := hB
          rw [ht] at hP1
          obtain ⟨hP, hD⟩ := va_join (wr := []) (w1 := (xW ad cI K row S V (nI n) ((tkF K n S V j y).1) ((tkF K n S V j y).2.1) ((tkF K n S V j y).2.2.1) ((tkF K n S V j y).2.2.2.1) (nI (tkF K n S V j y).2.2.2.2.1) ((tkF K n S V j y).2.2.2.2.2))) hP hD [0, 1, 2, 3, 4, 5, 6] [] rfl rfl (by decide) (by decide) hk1 hFc hP1 hD1
          clear hP1 hD1 hK1 hFc hk1 hz1
          generalize H1 = H at hP hS ⊢
          have hP : va_P (dC, dI) vwCl (xW ad cI K row S V (nI n) ((tkF K n S V j y).1) ((tkF K n S V j y).2.1) ((tkF K n S V j y).2.2.1) ((tkF K n S V j y).2.2.2.1) (nI (tkF K n S V j y).2.2.2.2.1) ((tkF K n S V j y).2.2.2.2.2)) H := hP
          have hD : va_D A (xW ad cI K row S V (nI n) ((tkF K n S V j y).1) ((tkF K n S V j y).2.1) ((tkF K n S V j y).2.2.1) ((tkF K n S V j y).2.2.2.1) (nI (tkF K n S V j y).2.2.2.2.1) ((tkF K n S V j y).2.2.2.2.2)) := hD
          refine lv_iinc (v := nI (h + 1)) (lv' := [(1, .int (nI (h + 1))), (0, .ref (ad 0))]) hx hb dX0_runQueue_26 hl (k := 0) rfl (nI_1 h) (by decide) rfl (fun ls hl => ?_)
          refine lv_goto (tgt := 2) hx hb dX0_runQueue_29 (by decide) ?_
          exact ih (h + 1) (tkF K n S V j y) _ _ ls (by omega) hy2 (by rw [← hv, rnF, if_pos hlt, ej, nI_clamp (by omega)]) hP hD hS (lv_sub hl [0, 1] rfl)
  exact key 60 0 z s.heap [] ls (by omega) hI rfl hP hD hS (lv_sub hl [0, 1] rfl)
