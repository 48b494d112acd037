theorem fs_skip {k : Nat} {wt : Nat → Int32} {x : Int32} (h : fsP k wt x) (h0 : ¬ 0 < wt k) : fsP (k + 1) wt x := by
  rcases h with ⟨e, a⟩ | ⟨j, hj, e, hp, hm⟩
  · refine Or.inl ⟨e, fun i hi => ?_⟩
    by_cases q : i = k
    · subst q; exact h0
    · exact a i (by omega)
  · refine Or.inr ⟨j, by omega, e, hp, fun i hi hi0 => ?_⟩
    by_cases q : i = k
    · subst q; exact absurd hi0 h0
    · exact hm i (by omega) hi0
theorem fs_new {k : Nat} {wt : Nat → Int32} {x : Int32} (h : fsP k wt x) (hx : x = -1) (hp : 0 < wt k) (hk : k < 60 := by omega) : fsP (k + 1) wt (nI k) := by
  rcases h with ⟨_, a⟩ | ⟨j, hj, e, _, _⟩
  · refine Or.inr ⟨k, by omega, rfl, hp, fun i hi hi0 => ?_⟩
    by_cases q : i = k
    · subst q; exact Int32.le_refl _
    · exact absurd hi0 (a i (by omega))
  · exfalso
    rw [e] at hx
    have h1 := nI_pos (n := j) (by omega)
    rw [hx] at h1
    exact h1 (by decide)
theorem fs_get {k : Nat} {wt : Nat → Int32} {x : Int32} (h : fsP k wt x) (hx : ¬ x = -1) : ∃ j, j < k ∧ x = nI j ∧ 0 < wt j ∧ ∀ i, i < k → 0 < wt i → wt j ≤ wt i := by
  rcases h with ⟨e, _⟩ | h
  · exact absurd e hx
  · exact h
theorem fs_keep {k j : Nat} {wt : Nat → Int32} (hj : j < k) (hp : 0 < wt j) (hm : ∀ i, i < k → 0 < wt i → wt j ≤ wt i) (h : wt j ≤ wt k) : fsP (k + 1) wt (nI j) := by
  refine Or.inr ⟨j, by omega, rfl, hp, fun i hi hi0 => ?_⟩
  by_cases q : i = k
  · subst q; exact h
  · exact hm i (by omega) hi0
theorem fs_take {k j : Nat} {wt : Nat → Int32} (hm : ∀ i, i < k → 0 < wt i → wt j ≤ wt i) (hp : 0 < wt k) (h : wt k < wt j) : fsP (k + 1) wt (nI k) := by
  refine Or.inr ⟨k, by omega, rfl, hp, fun i hi hi0 => ?_⟩
  by_cases q : i = k
  · subst q; exact Int32.le_refl _
  · exact Int32.le_of_lt (Int32.lt_of_lt_of_le h (hm i (by omega) hi0))
set_option maxHeartbeats 4000000 in
set_option maxRecDepth 100000 in
theorem c_X1_drops (l : Launch) (dC : Nat → ClassId) (dI : Nat → Nat → Nat) (ad : Nat → Nat) (cI cZ : ClassId) (K : Nat) (row : Nat → Int32) (cm : Int32) (sd : Nat → Int32) (vl : Nat → Int32) (wt : Nat → Int32) (tn : Int32) (kn : Nat → Int32) (tl : Nat → Int32) (od : Nat → Int32) (fd : Int32) (cl : Int32) (inn : Nat → Int32) (stt : Int32) : Met l yX1_drops wsX1_drops ({ frames := 0, cells := 0, slots := 0, locals := 0 }) (va_Pc [.ref (ad 0)] (rB dC dI [(cI, .int), (cZ, .boolean)] (rW ad cI cZ K row cm sd vl wt tn kn tl od fd cl inn stt))) (vp_Si (fun r => r = cm)) 0 0 (fun _ => False) := by
  refine Met.ofW (cc := cX1_drops) (maxL := 1) (ret := (some .int)) (by decide) rfl ?_
  intro p e s m args below meth c s₁ B hml hv
  obtain ⟨rfl, hP, hK⟩ := hv
  have hx := B.exec
  have hb := B.bytes
  have hr := B.returns
  have hts := atoms_spec (ws := wsX1_drops) B.pre
  have hown : s.vm.findClass RX1 = some m.cls := findClass_of_methodNamed B.named
  have hlocks := B.notSynchronized
  have hw0 : ∀ w ∈ wsX10, w ∈ wsX1_drops := fun _ h => List.mem_cons_of_mem _ (List.mem_append_right _ h)
  have hl := lv_entry ([.ref (ad 0)]) (n := 1) (Nat.le_of_ble_eq_true rfl)
  rw [lg_entry_eq]
  generalize (lg_sl ([.ref (ad 0)]) ++ List.replicate (1 - (lg_sl ([.ref (ad 0)])).length) Slot.unset).toArray = ls at hl ⊢
  have hl : lv_has ls 1 [(0, .ref (ad 0))] := hl
  refine lv_aload_n hx hb dX1_drops_0 rfl (lv_at hl 0 rfl) ?_
  refine va_get (D := (dC, dI)) (ci := 1) (v := .int cm) (C := RX1) (T := TX1) (N := 14) hx hb hts hw0 hown hK hP 0 rfl rfl 2 (by decide) (hts (.fieldLink RX1 56 "DropCodeModel" "came" "I") (by decide +kernel)) (fun _ h9 => h9) rfl dX1_drops_1 ?_
  exact W.iret (v := cm) hx hb hr (fun t ht hW => ⟨cm, rfl, rfl, ht⟩) (fun _ h9 => by cases h9) dX1_drops_4
set_option maxHeartbeats 4000000 in
set_option maxRecDepth 100000 in
theorem c_X1_count (l : Launch) (dC : Nat → ClassId) (dI : Nat → Nat → Nat) (ad : Nat → Nat) (cI cZ : ClassId) (K : Nat) (row : Nat → Int32) (cm : Int32) (sd : Nat → Int32) (vl : Nat → Int32) (wt : Nat → Int32) (tn : Int32) (kn : Nat → Int32) (tl : Nat → Int32) (od : Nat → Int32) (fd : Int32) (cl : Int32) (inn : Nat → Int32) (stt : Int32) : Met l yX1_count wsX1_count ({ frames := 0, cells := 0, slots := 0, locals := 0 }) (va_Pc [.ref (ad 0)] (rB dC dI [(cI, .int), (cZ, .boolean)] (rW ad cI cZ K row cm sd vl wt tn kn tl od fd cl inn stt))) (vp_Si (fun r => r = fd)) 0 0 (fun _ => False) := by
  refine Met.ofW (cc := cX1_count) (maxL := 1) (ret := (some .int)) (by decide) rfl ?_
  intro p e s m args below meth c s₁ B hml hv
  obtain ⟨rfl, hP, hK⟩ := hv
  have hx := B.exec
  have hb := B.bytes
  have hr := B.returns
  have hts := atoms_spec (ws := wsX1_count) B.pre
  have hown : s.vm.findClass RX1 = some m.cls := findClass_of_methodNamed B.named
  have hlocks := B.notSynchronized
  have hw0 : ∀ w ∈ wsX10, w ∈ wsX1_count := fun _ h => List.mem_cons_of_mem _ (List.mem_append_right _ h)
  have hl := lv_entry ([.ref (ad 0)]) (n := 1) (Nat.le_of_ble_eq_true rfl)
  rw [lg_entry_eq]
  generalize (lg_sl ([.ref (ad 0)]) ++ List.replicate (1 - (lg_sl ([.ref (ad 0)])).length) Slot.unset).toArray = ls at hl ⊢
  have hl : lv_has ls 1 [(0, .ref (ad 0))] := hl
  refine lv_aload_n hx hb dX1_count_0 rfl (lv_at hl 0 rfl) ?_
  refine va_get (D := (dC, dI)) (ci := 1) (v := .int fd) (C := RX1) (T := TX1) (N := 14) hx hb hts hw0 hown hK hP 0 rfl rfl 10 (by decide) (hts (.fieldLink RX1 62 "DropCodeModel" "found" "I") (by decide +kernel)) (fun _ h9 => h9) rfl dX1_count_1 ?_
  exact W.iret (v := fd) hx hb hr (fun t ht hW => ⟨fd, rfl, rfl, ht⟩) (fun _ h9 => by cases h9) dX1_count_4
set_option maxHeartbeats 4000000 in
set_option maxRecDepth 100000 in
theorem c_X1_clashes (l : Launch) (dC : Nat → ClassId) (dI : Nat → Nat → Nat) (ad : Nat → Nat) (cI cZ : ClassId) (K : Nat) (row : Nat → Int32) (cm : Int32) (sd : Nat → Int32) (vl : Nat → Int32) (wt : Nat → Int32) (tn : Int32) (kn : Nat → Int32) (tl : Nat → Int32) (od : Nat → Int32) (fd : Int32) (cl : Int32) (inn : Nat → Int32) (stt : Int32) : Met l yX1_clashes wsX1_clashes ({ frames := 0, cells := 0, slots := 0, locals := 0 }) (va_Pc [.ref (ad 0)] (rB dC dI [(cI, .int), (cZ, .boolean)] (rW ad cI cZ K row cm sd vl wt tn kn tl od fd cl inn stt))) (vp_Si (fun r => r = cl)) 0 0 (fun _ => False) := by
  refine Met.ofW (cc := cX1_clashes) (maxL := 1) (ret := (some .int)) (by decide) rfl ?_
  intro p e s m args below meth c s₁ B hml hv
  obtain ⟨rfl, hP, hK⟩ := hv
  have hx := B.exec
  have hb := B.bytes
  have hr := B.returns
  have hts := atoms_spec (ws := wsX1_clashes) B.pre
  have hown : s.vm.findClass RX1 = some m.cls := findClass_of_methodNamed B.named
  have hlocks := B.notSynchronized
  have hw0 : ∀ w ∈ wsX10, w ∈ wsX1_clashes := fun _ h => List.mem_cons_of_mem _ (List.mem_append_right _ h)
  have hl := lv_entry ([.ref (ad 0)]) (n := 1) (Nat.le_of_ble_eq_true rfl)
  rw [lg_entry_eq]
  generalize (lg_sl ([.ref (ad 0)]) ++ List.replicate (1 - (lg_sl ([.ref (ad 0)])).length) Slot.unset).toArray = ls at hl ⊢
  have hl : lv_has ls 1 [(0, .ref (ad 0))] := hl
  refine lv_aload_n hx hb dX1_clashes_0 rfl (lv_at hl 0 rfl) ?_
  refine va_get (D := (dC, dI)) (ci := 1) (v := .int cl) (C := RX1) (T := TX1) (N := 14) hx hb hts hw0 hown hK hP 0 rfl rfl 11 (by decide) (hts (.fieldLink RX1 72 "DropCodeModel" "clashes" "I") (by decide +kernel)) (fun _ h9 => h9) rfl dX1_clashes_1 ?_
  exact W.iret (v := cl) hx hb hr (fun t ht hW => ⟨cl, rfl, rfl, ht⟩) (fun _ h9 => by cases h9) dX1_clashes_4
set_option maxHeartbeats 4000000 in
set_option maxRecDepth 100000 in
theorem c_X1_put (l : Launch) (dC : Nat → ClassId) (dI : Nat → Nat → Nat) (sz : Nat) (ad : Nat → Nat) (cI cZ : ClassId) (K : Nat) (row : Nat → Int32) (cm : Int32) (sd : Nat → Int32) (vl : Nat → Int32) (wt : Nat → Int32) (tn : Int32) (kn : Nat → Int32) (tl : Nat → Int32) (od : Nat → Int32) (fd : Int32) (cl : Int32) (inn : Nat → Int32) (stt : Int32) (hK1 : 1 ≤ K) (hK2 : K ≤ 32) (i v : Int32) : Met l yX1_put wsX1_put ({ frames := 0, cells := 0, slots := 0, locals := 0 }) (va_Pc [.ref (ad 0), .int i, .int v] (wB dC dI [(cI, .int), (cZ, .boolean)] sz (rW ad cI cZ K row cm sd vl wt tn kn tl od fd cl inn stt))) (va_Qi (fun r (_ : Unit) => r = (if inR K i then 1 else -1)) (fun _ => oB dC dI [(cI, .int), (cZ, .boolean)] (va_A (rW ad cI cZ K row cm sd vl wt tn kn tl od fd cl inn stt) sz) (rW ad cI cZ K (ptF K row i v) cm sd vl wt tn kn tl od fd cl inn stt)) (va_A (rW ad cI cZ K row cm sd vl wt tn kn tl od fd cl inn stt) sz)) 0 0 (va_A (rW ad cI cZ K row cm sd vl wt tn kn tl od fd cl inn stt) sz) := by
  refine Met.ofW (cc := cX1_put) (maxL := 3) (ret := (some .int)) (by decide) rfl ?_
  intro p e s m args below meth c s₁ B hml hv
  obtain ⟨rfl, hsz, hP, hK, hD0⟩ := hv
  have hx := B.exec
  have hb := B.bytes
  have hr := B.returns
  have hts := atoms_spec (ws := wsX1_put) B.pre
  have hown : s.vm.findClass RX1 = some m.cls := findClass_of_methodNamed B.named
  have hlocks := B.notSynchronized
  have hw0 : ∀ w ∈ wsX10, w ∈ wsX1_put := fun _ h => List.mem_cons_of_mem _ (List.mem_append_right _ h)
  subst hsz
  have hD := hD0.self (sz := s.heap.size)
  generalize hAe : va_A (rW ad cI cZ K row cm sd vl wt tn kn tl od fd cl inn stt) s.heap.size = A at hD ⊢
  have hA : ∀ q : Nat, s.heap.size ≤ q → A q := fun q h => by rw [← hAe]; exact Or.inr h
  have hS : va_S A s.heap s.heap [] := va_S.rf
  have hP : va_P (dC, dI) vwCl (rW ad cI cZ K row cm sd vl wt tn kn tl od fd cl inn stt) s.heap := hP
  have hl := lv_entry ([.ref (ad 0), .int i, .int v]) (n := 3) (Nat.le_of_ble_eq_true rfl)
  rw [lg_entry_eq]
  generalize (lg_sl ([.ref (ad 0), .int i, .int v]) ++ List.replicate (3 - (lg_sl ([.ref (ad 0), .int i, .int v])).length) Slot.unset).toArray = ls at hl ⊢
  have hl : lv_has ls 3 [(0, .ref (ad 0)), (1, .int i), (2, .int v)] := hl
  refine lv_iload_n hx hb dX1_put_0 rfl (lv_at hl 1 rfl) ?_
  refine lv_if_lt (tgt := 12) hx hb dX1_put_1 (by decide) (fun c1 => ?_) (fun c1 => ?_)
  · skip
    rw [show ptF K row i v = row by rw [ptF, if_neg (fun q => inR_neg q c1)]]
    refine lv_iconst (v := (-1)) hx hb dX1_put_12 (by decide) ?_
    exact W.iret (v := (-1)) hx hb hr (fun t ht hW => ⟨⟨(-1), (), rfl, by rw [if_neg (fun q => inR_neg q c1)], by rw [ht]; exact hP, va_K.moved hW.alike hK, hD⟩, hS.F ht⟩) hS.2.2 dX1_put_13
  · skip
    refine lv_iload_n hx hb dX1_put_4 rfl (lv_at hl 1 rfl) ?_
    refine lv_aload_n hx hb dX1_put_5 rfl (lv_at hl 0 rfl) ?_
    refine va_get (D := (dC, dI)) (ci := 1) (v := .int (nI K)) (C := RX1) (T := TX1) (N := 14) hx hb hts hw0 hown hK hP 0 rfl rfl 0 (by decide) (hts (.fieldLink RX1 35 "DropCodeModel" "words" "I") (by decide +kernel)) (fun _ h9 => h9) rfl dX1_put_6 ?_
    refine lv_icmp_lt (tgt := 14) hx hb dX1_put_9 (by decide) (fun c2 => ?_) (fun c2 => ?_)
    · skip
      have h : inR K i := ⟨Int32.not_lt.mp c1, c2⟩
      obtain ⟨j, hj, rfl⟩ := inR_ix (by omega) h
      rw [show ptF K row (nI j) v = upd row j v by rw [ptF, if_pos h, nI_clamp (by omega)]]
      refine lv_aload_n hx hb dX1_put_14 rfl (lv_at hl 0 rfl) ?_
      refine va_get (D := (dC, dI)) (ci := 1) (v := .ref (ad 1)) (C := RX1) (T := TX1) (N := 14) hx hb hts hw0 hown hK hP 0 rfl rfl 1 (by decide) (hts (.fieldLink RX1 7 "DropCodeModel" "row" "[I") (by decide +kernel)) (fun _ h9 => h9) rfl dX1_put_15 ?_
      refine lv_iload_n hx hb dX1_put_18 rfl (lv_at hl 1 rfl) ?_
      refine lv_iload_n hx hb dX1_put_19 rfl (lv_at hl 2 rfl) ?_
      refine va_iast (i := nI j) hx hb hK hP hD hS 1 0 rfl rfl (vp_in_nI (by omega : j < 32) (by omega)) dX1_put_20 (fun H locs hP hD hS => ?_)
      rw [nI_clamp (by omega)] at hP hD
      have hP : va_P (dC, dI) vwCl (rW ad cI cZ K (upd row j v) cm sd vl wt tn kn tl od fd cl inn stt) H := hP
      have hD : va_D A (rW ad cI cZ K (upd row j v) cm sd vl wt tn kn tl od fd cl inn stt) := hD
      refine lv_iconst (v := 1) hx hb dX1_put_21 (by decide) ?_
      exact W.iret (v := 1) hx hb hr (fun t ht hW => ⟨⟨1, (), rfl, by rw [if_pos h], by rw [ht]; exact hP, va_K.moved hW.alike hK, hD⟩, hS.F ht⟩) hS.2.2 dX1_put_22
    · skip
      rw [show ptF K row i v = row by rw [ptF, if_neg (fun q => c2 q.2)]]
      refine lv_iconst (v := (-1)) hx hb dX1_put_12 (by decide) ?_
      exact W.iret (v := (-1)) hx hb hr (fun t ht hW => ⟨⟨(-1), (), rfl, by rw [if_neg (fun q => c2 q.2)], by rw [ht]; exact hP, va_K.moved hW.alike hK, hD⟩, hS.F ht⟩) hS.2.2 dX1_put_13
set_option maxHeartbeats 4000000 in
set_option maxRecDepth 100000 in
theorem c_X1_known (l : Launch) (dC : Nat → ClassId) (dI : Nat → Nat → Nat) (ad : Nat → Nat) (cI cZ : ClassId) (K : Nat) (row : Nat → Int32) (cm : Int32) (sd : Nat → Int32) (vl : Nat → Int32) (wt : Nat → Int32) (tn : Int32) (kn : Nat → Int32) (tl : Nat → Int32) (od : Nat → Int32) (fd : Int32) (cl : Int32) (inn : Nat → Int32) (stt : Int32) (hK1 : 1 ≤ K) (hK2 : K ≤ 32) (kb : Int32) (hkn : inF K kn kb) (i : Int32) : Met l yX1_known wsX1_known ({ frames := 0, cells := 0, slots := 0, locals := 0 }) (va_Pc [.ref (ad 0), .int i] (rB dC dI [(cI, .int), (cZ, .boolean)] (rW ad cI cZ K row cm sd vl wt tn kn tl od fd cl inn stt))) (vp_Si (fun r => r = knF K kb i)) 0 0 (fun _ => False) := by
  refine Met.ofW (cc := cX1_known) (maxL := 2) (ret := (some .int)) (by decide) rfl ?_
  intro p e s m args below meth c s₁ B hml hv
  obtain ⟨rfl, hP, hK⟩ := hv
  have hx := B.exec
  have hb := B.bytes
  have hr := B.returns
  have hts := atoms_spec (ws := wsX1_known) B.pre
  have hown : s.vm.findClass RX1 = some m.cls := findClass_of_methodNamed B.named
  have hlocks := B.notSynchronized
  have hw0 : ∀ w ∈ wsX10, w ∈ wsX1_known := fun _ h => List.mem_cons_of_mem _ (List.mem_append_right _ h)
  have hl := lv_entry ([.ref (ad 0), .int i]) (n := 2) (Nat.le_of_ble_eq_true rfl)
  rw [lg_entry_eq]
  generalize (lg_sl ([.ref (ad 0), .int i]) ++ List.replicate (2 - (lg_sl ([.ref (ad 0), .int i])).length) Slot.unset).toArray = ls at hl ⊢
  have hl : lv_has ls 2 [(0, .ref (ad 0)), (1, .int i)] := hl
  refine lv_iload_n hx hb dX1_known_0 rfl (lv_at hl 1 rfl) ?_
  refine lv_if_lt (tgt := 12) hx hb dX1_known_1 (by decide) (fun c1 => ?_) (fun c1 => ?_)
  · skip
    refine lv_iconst (v := (-1)) hx hb dX1_known_12 (by decide) ?_
    refine lv_goto (tgt := 30) hx hb dX1_known_13 (by decide) ?_
    exact W.iret (v := (-1)) hx hb hr (fun t ht hW => ⟨(-1), rfl, by show (-1 : Int32) = knF K kb i; rw [knF, if_neg (fun q => inR_neg q c1)], ht⟩) (fun _ h9 => by cases h9) dX1_known_30
  · skip
    refine lv_iload_n hx hb dX1_known_4 rfl (lv_at hl 1 rfl) ?_
    refine lv_aload_n hx hb dX1_known_5 rfl (lv_at hl 0 rfl) ?_
    refine va_get (D := (dC, dI)) (ci := 1) (v := .int (nI K)) (C := RX1) (T := TX1) (N := 14) hx hb hts hw0 hown hK hP 0 rfl rfl 0 (by decide) (hts (.fieldLink RX1 35 "DropCodeModel" "words" "I") (by decide +kernel)) (fun _ h9 => h9) rfl dX1_known_6 ?_
    refine lv_icmp_lt (tgt := 16) hx hb dX1_known_9 (by decide) (fun c2 => ?_) (fun c2 => ?_)
    · skip
      have h : inR K i := ⟨Int32.not_lt.mp c1, c2⟩
      obtain ⟨j, hj, rfl⟩ := inR_ix (by omega) h
      refine lv_aload_n hx hb dX1_known_16 rfl (lv_at hl 0 rfl) ?_
      refine va_get (D := (dC, dI)) (ci := 1) (v := .ref (ad 5)) (C := RX1) (T := TX1) (N := 14) hx hb hts hw0 hown hK hP 0 rfl rfl 7 (by decide) (hts (.fieldLink RX1 22 "DropCodeModel" "known" "[Z") (by decide +kernel)) (fun _ h9 => h9) rfl dX1_known_17 ?_
      refine lv_iload_n hx hb dX1_known_20 rfl (lv_at hl 1 rfl) ?_
      refine va_zald (i := nI j) hx hb hK hP 5 1 rfl rfl (vp_in_nI (by omega : j < 32) (by omega)) dX1_known_21 ?_
      rw [nI_clamp (by omega)]
      refine lv_topi (fun z_1 ez_1 => ?_)
      have ez_1 : z_1 = bI (bt kb j) := ez_1.trans (hkn j hj)
      subst ez_1
      cases hb9 : bt kb j with
      | false =>
        rw [bI_f]
        refine lv_if_eq (tgt := 29) hx hb dX1_known_22 (by decide) (fun c_2 => ?_) (fun c_2 => ?_)
        · skip
          refine lv_iconst (v := 0) hx hb dX1_known_29 (by decide) ?_
          exact W.iret (v := 0) hx hb hr (fun t ht hW => ⟨0, rfl, by show (0 : Int32) = knF K kb (nI j); rw [knF, if_pos h, nI_clamp (by omega), hb9]; rfl, ht⟩) (fun _ h9 => by cases h9) dX1_known_30
        · skip
          exact absurd rfl c_2
      | true =>
        rw [bI_t]
        refine lv_if_eq (tgt := 29) hx hb dX1_known_22 (by decide) (fun c_2 => ?_) (fun c_2 => ?_)
        · skip
          exact absurd c_2 (by decide)
        · skip
          refine lv_iconst (v := 1) hx hb dX1_known_25 (by decide) ?_
          refine lv_goto (tgt := 30) hx hb dX1_known_26 (by decide) ?_
          exact W.iret (v := 1) hx hb hr (fun t ht hW => ⟨1, rfl, by show (1 : Int32) = knF K kb (nI j); rw [knF, if_pos h, nI_clamp (by omega), hb9]; rfl, ht⟩) (fun _ h9 => by cases h9) dX1_known_30
    · skip
      refine lv_iconst (v := (-1)) hx hb dX1_known_12 (by decide) ?_
      refine lv_goto (tgt := 30) hx hb dX1_known_13 (by decide) ?_
      exact W.iret (v := (-1)) hx hb hr (fun t ht hW => ⟨(-1), rfl, by show (-1 : Int32) = knF K kb i; rw [knF, if_neg (fun q => c2 q.2)], ht⟩) (fun _ h9 => by cases h9) dX1_known_30
set_option maxHeartbeats 4000000 in
set_option maxRecDepth 100000 in
theorem c_X1_word (l : Launch) (dC : Nat → ClassId) (dI : Nat → Nat → Nat) (ad : Nat → Nat) (cI cZ : ClassId) (K : Nat) (row : Nat → Int32) (cm : Int32) (sd : Nat → Int32) (vl : Nat → Int32) (wt : Nat → Int32) (tn : Int32) (kn : Nat → Int32) (tl : Nat → Int32) (od : Nat → Int32) (fd : Int32) (cl : Int32) (inn : Nat → Int32) (stt : Int32) (hK1 : 1 ≤ K) (hK2 : K ≤ 32) (kb : Int32) (hkn : inF K kn kb) (i : Int32) : Met l yX1_word wsX1_word ({ frames := 0, cells := 0, slots := 0, locals := 0 }) (va_Pc [.ref (ad 0), .int i] (rB dC dI [(cI, .int), (cZ, .boolean)] (rW ad cI cZ K row cm sd vl wt tn kn tl od fd cl inn stt))) (vp_Si (fun r => r = wdF K kb tl i)) 0 0 (fun _ => False) := by
  refine Met.ofW (cc := cX1_word) (maxL := 2) (ret := (some .int)) (by decide) rfl ?_
  intro p e s m args below meth c s₁ B hml hv
  obtain ⟨rfl, hP, hK⟩ := hv
  have hx := B.exec
  have hb := B.bytes
  have hr := B.returns
  have hts := atoms_spec (ws := wsX1_word) B.pre
  have hown : s.vm.findClass RX1 = some m.cls := findClass_of_methodNamed B.named
  have hlocks := B.notSynchronized
  have hw0 : ∀ w ∈ wsX10, w ∈ wsX1_word := fun _ h => List.mem_cons_of_mem _ (List.mem_append_right _ h)
  have hl := lv_entry ([.ref (ad 0), .int i]) (n := 2) (Nat.le_of_ble_eq_true rfl)
  rw [lg_entry_eq]
  generalize (lg_sl ([.ref (ad 0), .int i]) ++ List.replicate (2 - (lg_sl ([.ref (ad 0), .int i])).length) Slot.unset).toArray = ls at hl ⊢
  have hl : lv_has ls 2 [(0, .ref (ad 0)), (1, .int i)] := hl
  refine lv_iload_n hx hb dX1_word_0 rfl (lv_at hl 1 rfl) ?_
  refine lv_if_lt (tgt := 21) hx hb dX1_word_1 (by decide) (fun c1 => ?_) (fun c1 => ?_)
  · skip
    refine lv_iconst (v := 0) hx hb dX1_word_21 (by decide) ?_
    refine lv_goto (tgt := 31) hx hb dX1_word_22 (by decide) ?_
    exact W.iret (v := 0) hx hb hr (fun t ht hW => ⟨0, rfl, by show (0 : Int32) = wdF K kb tl i; rw [wdF, if_neg (fun q9 => (fun q => inR_neg q c1) q9.1)], ht⟩) (fun _ h9 => by cases h9) dX1_word_31
  · skip
    refine lv_iload_n hx hb dX1_word_4 rfl (lv_at hl 1 rfl) ?_
    refine lv_aload_n hx hb dX1_word_5 rfl (lv_at hl 0 rfl) ?_
    refine va_get (D := (dC, dI)) (ci := 1) (v := .int (nI K)) (C := RX1) (T := TX1) (N := 14) hx hb hts hw0 hown hK hP 0 rfl rfl 0 (by decide) (hts (.fieldLink RX1 35 "DropCodeModel" "words" "I") (by decide +kernel)) (fun _ h9 => h9) rfl dX1_word_6 ?_
    refine lv_icmp_ge (tgt := 21) hx hb dX1_word_9 (by decide) (fun c2 => ?_) (fun c2 => ?_)
    · skip
      refine lv_iconst (v := 0) hx hb dX1_word_21 (by decide) ?_
      refine lv_goto (tgt := 31) hx hb dX1_word_22 (by decide) ?_
      exact W.iret (v := 0) hx hb hr (fun t ht hW => ⟨0, rfl, by show (0 : Int32) = wdF K kb tl i; rw [wdF, if_neg (fun q9 => (fun q => inR_ge q c2) q9.1)], ht⟩) (fun _ h9 => by cases h9) dX1_word_31
    · skip
      have h : inR K i := inR_of c1 c2
      obtain ⟨j, hj, rfl⟩ := inR_ix (by omega) h
      refine lv_aload_n hx hb dX1_word_12 rfl (lv_at hl 0 rfl) ?_
      refine va_get (D := (dC, dI)) (ci := 1) (v := .ref (ad 5)) (C := RX1) (T := TX1) (N := 14) hx hb hts hw0 hown hK hP 0 rfl rfl 7 (by decide) (hts (.fieldLink RX1 22 "DropCodeModel" "known" "[Z") (by decide +kernel)) (fun _ h9 => h9) rfl dX1_word_13 ?_
      refine lv_iload_n hx hb dX1_word_16 rfl (lv_at hl 1 rfl) ?_
      refine va_zald (i := nI j) hx hb hK hP 5 1 rfl rfl (vp_in_nI (by omega : j < 32) (by omega)) dX1_word_17 ?_
      rw [nI_clamp (by omega)]
      refine lv_topi (fun z_1 ez_1 => ?_)
      have ez_1 : z_1 = bI (bt kb j) := ez_1.trans (hkn j hj)
      subst ez_1
      cases hb9 : bt kb j with
      | false =>
        rw [bI_f]
        refine lv_if_ne (tgt := 25) hx hb dX1_word_18 (by decide) (fun c_2 => ?_) (fun c_2 => ?_)
        · skip
          exact absurd rfl c_2
        · skip
          refine lv_iconst (v := 0) hx hb dX1_word_21 (by decide) ?_
          refine lv_goto (tgt := 31) hx hb dX1_word_22 (by decide) ?_
          exact W.iret (v := 0) hx hb hr (fun t ht hW => ⟨0, rfl, by show (0 : Int32) = wdF K kb tl (nI j); rw [wdF, if_neg (by rw [nI_clamp (by omega), hb9]; exact fun q => Bool.false_ne_true q.2)], ht⟩) (fun _ h9 => by cases h9) dX1_word_31
      | true =>
        rw [bI_t]
        refine lv_if_ne (tgt := 25) hx hb dX1_word_18 (by decide) (fun c_2 => ?_) (fun c_2 => ?_)
        · skip
          refine lv_aload_n hx hb dX1_word_25 rfl (lv_at hl 0 rfl) ?_
          refine va_get (D := (dC, dI)) (ci := 1) (v := .ref (ad 6)) (C := RX1) (T := TX1) (N := 14) hx hb hts hw0 hown hK hP 0 rfl rfl 8 (by decide) (hts (.fieldLink RX1 26 "DropCodeModel" "told" "[I") (by decide +kernel)) (fun _ h9 => h9) rfl dX1_word_26 ?_
          refine lv_iload_n hx hb dX1_word_29 rfl (lv_at hl 1 rfl) ?_
          refine va_iald (i := nI j) hx hb hK hP 6 0 rfl rfl (vp_in_nI (by omega : j < 32) (by omega)) dX1_word_30 ?_
          rw [nI_clamp (by omega)]
          exact W.iret (v := tl j) hx hb hr (fun t ht hW => ⟨tl j, rfl, by show tl j = wdF K kb tl (nI j); rw [wdF, if_pos (by rw [nI_clamp (by omega)]; exact ⟨h, hb9⟩), nI_clamp (by omega)], ht⟩) (fun _ h9 => by cases h9) dX1_word_31
        · skip
          exact absurd c_2 (by decide)
set_option maxHeartbeats 4000000 in
set_option maxRecDepth 100000 in
theorem c_X1_order (l : Launch) (dC : Nat → ClassId) (dI : Nat → Nat → Nat) (ad : Nat → Nat) (cI cZ : ClassId) (K : Nat) (row : Nat → Int32) (cm : Int32) (sd : Nat → Int32) (vl : Nat → Int32) (wt : Nat → Int32) (tn : Int32) (kn : Nat → Int32) (tl : Nat → Int32) (od : Nat → Int32) (cl : Int32) (inn : Nat → Int32) (stt : Int32) (F : Nat) (hF : F ≤ 32) (i : Int32) : Met l yX1_order wsX1_order ({ frames := 0, cells := 0, slots := 0, locals := 0 }) (va_Pc [.ref (ad 0), .int i] (rB dC dI [(cI, .int), (cZ, .boolean)] (rW ad cI cZ K row cm sd vl wt tn kn tl od (nI F) cl inn stt))) (vp_Si (fun r => r = odF F od i)) 0 0 (fun _ => False) := by
  refine Met.ofW (cc := cX1_order) (maxL := 2) (ret := (some .int)) (by decide) rfl ?_
  intro p e s m args below meth c s₁ B hml hv
  obtain ⟨rfl, hP, hK⟩ := hv
  have hx := B.exec
  have hb := B.bytes
  have hr := B.returns
  have hts := atoms_spec (ws := wsX1_order) B.pre
  have hown : s.vm.findClass RX1 = some m.cls := findClass_of_methodNamed B.named
  have hlocks := B.notSynchronized
  have hw0 : ∀ w ∈ wsX10, w ∈ wsX1_order := fun _ h => List.mem_cons_of_mem _ (List.mem_append_right _ h)
  have hl := lv_entry ([.ref (ad 0), .int i]) (n := 2) (Nat.le_of_ble_eq_true rfl)
  rw [lg_entry_eq]
  generalize (lg_sl ([.ref (ad 0), .int i]) ++ List.replicate (2 - (lg_sl ([.ref (ad 0), .int i])).length) Slot.unset).toArray = ls at hl ⊢
  have hl : lv_has ls 2 [(0, .ref (ad 0)), (1, .int i)] := hl
  refine lv_iload_n hx hb dX1_order_0 rfl (lv_at hl 1 rfl) ?_
  refine lv_if_lt (tgt := 12) hx hb dX1_order_1 (by decide) (fun c1 => ?_) (fun c1 => ?_)
  · skip
    refine lv_iconst (v := (-1)) hx hb dX1_order_12 (by decide) ?_
    refine lv_goto (tgt := 22) hx hb dX1_order_13 (by decide) ?_
    exact W.iret (v := (-1)) hx hb hr (fun t ht hW => ⟨(-1), rfl, by show (-1 : Int32) = odF F od i; rw [odF, if_neg (fun q => inR_neg q c1)], ht⟩) (fun _ h9 => by cases h9) dX1_order_22
  · skip
    refine lv_iload_n hx hb dX1_order_4 rfl (lv_at hl 1 rfl) ?_
    refine lv_aload_n hx hb dX1_order_5 rfl (lv_at hl 0 rfl) ?_
    refine va_get (D := (dC, dI)) (ci := 1) (v := .int (nI F)) (C := RX1) (T := TX1) (N := 14) hx hb hts hw0 hown hK hP 0 rfl rfl 10 (by decide) (hts (.fieldLink RX1 62 "DropCodeModel" "found" "I") (by decide +kernel)) (fun _ h9 => h9) rfl dX1_order_6 ?_
    refine lv_icmp_lt (tgt := 16) hx hb dX1_order_9 (by decide) (fun c2 => ?_) (fun c2 => ?_)
    · skip
      have h : inR F i := ⟨Int32.not_lt.mp c1, c2⟩
      obtain ⟨j, hj, rfl⟩ := inR_ix (by omega) h
      refine lv_aload_n hx hb dX1_order_16 rfl (lv_at hl 0 rfl) ?_
      refine va_get (D := (dC, dI)) (ci := 1) (v := .ref (ad 7)) (C := RX1) (T := TX1) (N := 14) hx hb hts hw0 hown hK hP 0 rfl rfl 9 (by decide) (hts (.fieldLink RX1 29 "DropCodeModel" "order" "[I") (by decide +kernel)) (fun _ h9 => h9) rfl dX1_order_17 ?_
      refine lv_iload_n hx hb dX1_order_20 rfl (lv_at hl 1 rfl) ?_
      refine va_iald (i := nI j) hx hb hK hP 7 0 rfl rfl (vp_in_nI (by omega : j < 32) (by omega)) dX1_order_21 ?_
      rw [nI_clamp (by omega)]
      exact W.iret (v := od j) hx hb hr (fun t ht hW => ⟨od j, rfl, by show od j = odF F od (nI j); rw [odF, if_pos h, nI_clamp (by omega)], ht⟩) (fun _ h9 => by cases h9) dX1_order_22
    · skip
      refine lv_iconst (v := (-1)) hx hb dX1_order_12 (by decide) ?_
      refine lv_goto (tgt := 22) hx hb dX1_order_13 (by decide) ?_
      exact W.iret (v := (-1)) hx hb hr (fun t ht hW => ⟨(-1), rfl, by show (-1 : Int32) = odF F od i; rw [odF, if_neg (fun q => c2 q.2)], ht⟩) (fun _ h9 => by cases h9) dX1_order_22
set_option maxHeartbeats 4000000 in
set_option maxRecDepth 100000 in
theorem c_X1_open (l : Launch) (dC : Nat → ClassId) (dI : Nat → Nat → Nat) (sz : Nat) (ad : Nat → Nat) (cI cZ : ClassId) (K : Nat) (row : Nat → Int32) (sd : Nat → Int32) (vl : Nat → Int32) (wt : Nat → Int32) (tn : Int32) (kn : Nat → Int32) (tl : Nat → Int32) (od : Nat → Int32) (fd : Int32) (cl : Int32) (inn : Nat → Int32) (stt : Int32) (hK1 : 1 ≤ K) (hK2 : K ≤ 32) (n : Nat) (hn : n ≤ 60) (kb : Int32) (hkn : inF K kn kb) (i : Int32) : Met l yX1_open wsX1_open ({ frames := 3, cells := 0, slots := 0, locals := 70 }) (va_Pc [.ref (ad 0), .int i] (wB dC dI [(cI, .int), (cZ, .boolean)] sz (rW ad cI cZ K row (nI n) sd vl wt tn kn tl od fd cl inn stt))) (va_Qi (fun r (u : (Nat → Int32) × Int32) => r = opF n (fun k => setA K (sd k)) kb i) (fun u => oB dC dI [(cI, .int), (cZ, .boolean)] (va_A (rW ad cI cZ K row (nI n) sd vl wt tn kn tl od fd cl inn stt) sz) (rW ad cI cZ K row (nI n) sd vl wt tn kn tl od fd cl u.1 u.2)) (va_A (rW ad cI cZ K row (nI n) sd vl wt tn kn tl od fd cl inn stt) sz)) 0 0 (va_A (rW ad cI cZ K row (nI n) sd vl wt tn kn tl od fd cl inn stt) sz) := by
  refine Met.ofW (cc := cX1_open) (maxL := 2) (ret := (some .int)) (by decide) rfl ?_
  intro p e s m args below meth c s₁ B hml hv
  obtain ⟨rfl, hsz, hP, hK, hD0⟩ := hv
  have hx := B.exec
  have hb := B.bytes
  have hr := B.returns
  have hts := atoms_spec (ws := wsX1_open) B.pre
  have hown : s.vm.findClass RX1 = some m.cls := findClass_of_methodNamed B.named
  have hlocks := B.notSynchronized
  have hw0 : ∀ w ∈ wsX10, w ∈ wsX1_open := fun _ h => List.mem_cons_of_mem _ (List.mem_append_right _ h)
  subst hsz
  have hD := hD0.self (sz := s.heap.size)
  generalize hAe : va_A (rW ad cI cZ K row (nI n) sd vl wt tn kn tl od fd cl inn stt) s.heap.size = A at hD ⊢
  have hA : ∀ q : Nat, s.heap.size ≤ q → A q := fun q h => by rw [← hAe]; exact Or.inr h
  have hS : va_S A s.heap s.heap [] := va_S.rf
  have hP : va_P (dC, dI) vwCl (rW ad cI cZ K row (nI n) sd vl wt tn kn tl od fd cl inn stt) s.heap := hP
  have hl := lv_entry ([.ref (ad 0), .int i]) (n := 2) (Nat.le_of_ble_eq_true rfl)
  rw [lg_entry_eq]
  generalize (lg_sl ([.ref (ad 0), .int i]) ++ List.replicate (2 - (lg_sl ([.ref (ad 0), .int i])).length) Slot.unset).toArray = ls at hl ⊢
  have hl : lv_has ls 2 [(0, .ref (ad 0)), (1, .int i)] := hl
  refine lv_iload_n hx hb dX1_open_0 rfl (lv_at hl 1 rfl) ?_
  refine lv_if_lt (tgt := 12) hx hb dX1_open_1 (by decide) (fun c1 => ?_) (fun c1 => ?_)
  · skip
    refine lv_iconst (v := (-1)) hx hb dX1_open_12 (by decide) ?_
    refine lv_goto (tgt := 21) hx hb dX1_open_13 (by decide) ?_
    exact W.iret (v := (-1)) hx hb hr (fun t ht hW => ⟨⟨(-1), (inn, stt), rfl, by show (-1 : Int32) = opF n _ kb i; rw [opF, if_neg (fun q => inR_neg q c1)], by rw [ht]; exact hP, va_K.moved hW.alike hK, hD⟩, hS.F ht⟩) hS.2.2 dX1_open_21
  · skip
    refine lv_iload_n hx hb dX1_open_4 rfl (lv_at hl 1 rfl) ?_
    refine lv_aload_n hx hb dX1_open_5 rfl (lv_at hl 0 rfl) ?_
    refine va_get (D := (dC, dI)) (ci := 1) (v := .int (nI n)) (C := RX1) (T := TX1) (N := 14) hx hb hts hw0 hown hK hP 0 rfl rfl 2 (by decide) (hts (.fieldLink RX1 56 "DropCodeModel" "came" "I") (by decide +kernel)) (fun _ h9 => h9) rfl dX1_open_6 ?_
    refine lv_icmp_lt (tgt := 16) hx hb dX1_open_9 (by decide) (fun c2 => ?_) (fun c2 => ?_)
    · skip
      have h : inR n i := ⟨Int32.not_lt.mp c1, c2⟩
      obtain ⟨j, hj, rfl⟩ := inR_ix (by omega) h
      refine lv_aload_n hx hb dX1_open_16 rfl (lv_at hl 0 rfl) ?_
      refine lv_iload_n hx hb dX1_open_17 rfl (lv_at hl 1 rfl) ?_
      have hFc := va_free (wc := (rW ad cI cZ K row (nI n) sd vl wt tn kn tl od fd cl inn stt)) hD hS hA [0, 1, 2, 3, 4, 5, 6, 7, 8] rfl
      refine va_calli (va_runV (As := [.int (nI j)]) (rest := []) ⟨hx, hb, hml, hown, hts⟩ (c_X1_isOpen l dC dI s.heap.size ad cI cZ K row (nI n) sd vl wt tn kn tl od fd cl inn stt hK1 hK2 kb hkn j (by omega)) (cwV 1 hts gX1_open_X1_isOpen rfl rfl rfl (by decide +kernel) ⟨Nat.le_of_ble_eq_true rfl, Nat.le_of_ble_eq_true rfl⟩) ⟨wFb, va_recv hK hP (ci := 1) (q0 := 0) rfl rfl, fun U hU hW => ⟨rfl, by rw [hU], by rw [hU]; exact hP, va_K.moved hW.alike hK, hD.weaken (fun _ _ _ _ => trivial)⟩⟩ rfl rfl hl.1 rfl (lv_room (Nat.le_of_ble_eq_true rfl)) dX1_open_18 ⟨Nat.le_of_ble_eq_true rfl, Nat.le_of_ble_eq_true rfl⟩) hS (fun q _ h => hFc q h) hFc (fun r_1 u_2 t H1 locs ht hvm hwu_2 hB hz1 hk1 hS => ?_)
      obtain ⟨hP1, hK1, hD1⟩ := hB
      rw [ht] at hP1
      obtain ⟨hP, hD⟩ := va_join (wr := []) (w1 := (rW ad cI cZ K row (nI n) sd vl wt tn kn tl od fd cl u_2.1 u_2.2)) hP hD [0, 1, 2, 3, 4, 5, 6, 7, 8] [] rfl rfl (by decide) (by decide) hk1 hFc hP1 hD1
      clear hP1 hD1 hK1 hFc hk1 hz1
      generalize H1 = H at hP hS ⊢
      have hP : va_P (dC, dI) vwCl (rW ad cI cZ K row (nI n) sd vl wt tn kn tl od fd cl u_2.1 u_2.2) H := hP
      have hD : va_D A (rW ad cI cZ K row (nI n) sd vl wt tn kn tl od fd cl u_2.1 u_2.2) := hD
      obtain ⟨rfl, hinu_2⟩ := hwu_2
      exact W.iret (v := nI (opn (setA K (sd j)) kb)) hx hb hr (fun t ht hW => ⟨⟨nI (opn (setA K (sd j)) kb), u_2, rfl, by show nI _ = opF n _ kb (nI j); rw [opF, if_pos h, nI_clamp (by omega)], by rw [ht]; exact hP, va_K.moved hW.alike hK, hD⟩, hS.F ht⟩) hS.2.2 dX1_open_21
    · skip
      refine lv_iconst (v := (-1)) hx hb dX1_open_12 (by decide) ?_
      refine lv_goto (tgt := 21) hx hb dX1_open_13 (by decide) ?_
      exact W.iret (v := (-1)) hx hb hr (fun t ht hW => ⟨⟨(-1), (inn, stt), rfl, by show (-1 : Int32) = opF n _ kb i; rw [opF, if_neg (fun q => c2 q.2)], by rw [ht]; exact hP, va_K.moved hW.alike hK, hD⟩, hS.F ht⟩) hS.2.2 dX1_open_21
set_option maxHeartbeats 4000000 in
set_option maxRecDepth 100000 in
theorem c_X1_forget (l : Launch) (dC : Nat → ClassId) (dI : Nat → Nat → Nat) (sz : Nat) (ad : Nat → Nat) (cI cZ : ClassId) (K : Nat) (row : Nat → Int32) (cm : Int32) (sd : Nat → Int32) (vl : Nat → Int32) (wt : Nat → Int32) (tn : Int32) (kn : Nat → Int32) (tl : Nat → Int32) (od : Nat → Int32) (fd : Int32) (cl : Int32) (inn : Nat → Int32) (stt : Int32) (hK1 : 1 ≤ K) (hK2 : K ≤ 32) : Met l yX1_forget wsX1_forget ({ frames := 0, cells := 0, slots := 0, locals := 0 }) (va_Pc [.ref (ad 0)] (wB dC dI [(cI, .int), (cZ, .boolean)] sz (rW ad cI cZ K row cm sd vl wt tn kn tl od fd cl inn stt))) (va_Qi (fun r (u : Nat → Int32) => r = cm ∧ inF K u 0) (fun u => oB dC dI [(cI, .int), (cZ, .boolean)] (va_A (rW ad cI cZ K row cm sd vl wt tn kn tl od fd cl inn stt) sz) (rW ad cI cZ K row 0 sd vl wt tn u tl od 0 0 inn stt)) (va_A (rW ad cI cZ K row cm sd vl wt tn kn tl od fd cl inn stt) sz)) 0 0 (va_A (rW ad cI cZ K row cm sd vl wt tn kn tl od fd cl inn stt) sz) := by
  refine Met.ofW (cc := cX1_forget) (maxL := 3) (ret := (some .int)) (by decide) rfl ?_
  intro p e s m args below meth c s₁ B hml hv
  obtain ⟨rfl, hsz, hP, hK, hD0⟩ := hv
  have hx := B.exec
  have hb := B.bytes
  have hr := B.returns
  have hts := atoms_spec (ws := wsX1_forget) B.pre
  have hown : s.vm.findClass RX1 = some m.cls := findClass_of_methodNamed B.named
  have hlocks := B.notSynchronized
  have hw0 : ∀ w ∈ wsX10, w ∈ wsX1_forget := fun _ h => List.mem_cons_of_mem _ (List.mem_append_right _ h)
  subst hsz
  have hD := hD0.self (sz := s.heap.size)
  generalize hAe : va_A (rW ad cI cZ K row cm sd vl wt tn kn tl od fd cl inn stt) s.heap.size = A at hD ⊢
  have hA : ∀ q : Nat, s.heap.size ≤ q → A q := fun q h => by rw [← hAe]; exact Or.inr h
  have hS : va_S A s.heap s.heap [] := va_S.rf
  have hP : va_P (dC, dI) vwCl (rW ad cI cZ K row cm sd vl wt tn kn tl od fd cl inn stt) s.heap := hP
  have hl := lv_entry ([.ref (ad 0)]) (n := 3) (Nat.le_of_ble_eq_true rfl)
  rw [lg_entry_eq]
  generalize (lg_sl ([.ref (ad 0)]) ++ List.replicate (3 - (lg_sl ([.ref (ad 0)])).length) Slot.unset).toArray = ls at hl ⊢
  have hl : lv_has ls 3 [(0, .ref (ad 0))] := hl
  refine lv_aload_n hx hb dX1_forget_0 rfl (lv_at hl 0 rfl) ?_
  refine va_get (D := (dC, dI)) (ci := 1) (v := .int cm) (C := RX1) (T := TX1) (N := 14) hx hb hts hw0 hown hK hP 0 rfl rfl 2 (by decide) (hts (.fieldLink RX1 56 "DropCodeModel" "came" "I") (by decide +kernel)) (fun _ h9 => h9) rfl dX1_forget_1 ?_
  refine lv_istore_n (lv' := [(1, .int cm), (0, .ref (ad 0))]) hx hb dX1_forget_4 rfl hl (by decide) rfl (fun ls hl => ?_)
  refine lv_aload_n hx hb dX1_forget_5 rfl (lv_at hl 1 rfl) ?_
  refine lv_iconst (v := 0) hx hb dX1_forget_6 (by decide) ?_
  refine va_put (D := (dC, dI)) (ci := 1) (v := .int 0) (ty := .int) (C := RX1) (T := TX1) (N := 14) hx hb hts hw0 tyX1 tyX1_ok nmX1 hown hK hP hD hS 0 rfl rfl 2 (by decide) (hts (.fieldLink RX1 56 "DropCodeModel" "came" "I") (by decide +kernel)) (fun _ h9 => h9) rfl (by decide +kernel) rfl rfl (Nat.le_of_ble_eq_true rfl) dX1_forget_7 (fun H locs hP hD hS => ?_)
  have hP : va_P (dC, dI) vwCl (rW ad cI cZ K row 0 sd vl wt tn kn tl od fd cl inn stt) H := hP
  have hD : va_D A (rW ad cI cZ K row 0 sd vl wt tn kn tl od fd cl inn stt) := hD
  refine lv_aload_n hx hb dX1_forget_10 rfl (lv_at hl 1 rfl) ?_
  refine lv_iconst (v := 0) hx hb dX1_forget_11 (by decide) ?_
  refine va_put (D := (dC, dI)) (ci := 1) (v := .int 0) (ty := .int) (C := RX1) (T := TX1) (N := 14) hx hb hts hw0 tyX1 tyX1_ok nmX1 hown hK hP hD hS 0 rfl rfl 10 (by decide) (hts (.fieldLink RX1 62 "DropCodeModel" "found" "I") (by decide +kernel)) (fun _ h9 => h9) rfl (by decide +kernel) rfl rfl (Nat.le_of_ble_eq_true rfl) dX1_forget_12 (fun H locs hP hD hS => ?_)
  have hP : va_P (dC, dI) vwCl (rW ad cI cZ K row 0 sd vl wt tn kn tl od 0 cl inn stt) H := hP
  have hD : va_D A (rW ad cI cZ K row 0 sd vl wt tn kn tl od 0 cl inn stt) := hD
  refine lv_aload_n hx hb dX1_forget_15 rfl (lv_at hl 1 rfl) ?_
  refine lv_iconst (v := 0) hx hb dX1_forget_16 (by decide) ?_
  refine va_put (D := (dC, dI)) (ci := 1) (v := .int 0) (ty := .int) (C := RX1) (T := TX1) (N := 14) hx hb hts hw0 tyX1 tyX1_ok nmX1 hown hK hP hD hS 0 rfl rfl 11 (by decide) (hts (.fieldLink RX1 72 "DropCodeModel" "clashes" "I") (by decide +kernel)) (fun _ h9 => h9) rfl (by decide +kernel) rfl rfl (Nat.le_of_ble_eq_true rfl) dX1_forget_17 (fun H locs hP hD hS => ?_)
  have hP : va_P (dC, dI) vwCl (rW ad cI cZ K row 0 sd vl wt tn kn tl od 0 0 inn stt) H := hP
  have hD : va_D A (rW ad cI cZ K row 0 sd vl wt tn kn tl od 0 0 inn stt) := hD
  refine lv_iconst (v := 0) hx hb dX1_forget_20 (by decide) ?_
  refine lv_istore_n (lv' := [(2, .int 0), (1, .int cm), (0, .ref (ad 0))]) hx hb dX1_forget_21 rfl hl (by decide) rfl (fun ls hl => ?_)
  have key : ∀ (m9 i : Nat) (f : Nat → Int32) (H : Heap) (locs : List Loc) (ls : Array Slot), K = i + m9 → (∀ j, j < i → f j = 0) → va_P (dC, dI) vwCl (rW ad cI cZ K row 0 sd vl wt tn f tl od 0 0 inn stt) H → va_D A (rW ad cI cZ K row 0 sd vl wt tn f tl od 0 0 inn stt) → va_S A s.heap H locs → lv_has ls 3 [(2, .int (nI i)), (1, .int cm), (0, .ref (ad 0))] → W p l e (headSpec wsX1_forget ({ frames := 0, cells := 0, slots := 0, locals := 0 })).room s m ([.ref (ad 0)] : List Value).toArray below meth c H locs 0 0 (MQ below (va_Qi (fun r (u : Nat → Int32) => r = cm ∧ inF K u 0) (fun u => oB dC dI [(cI, .int), (cZ, .boolean)] A (rW ad cI cZ K row 0 sd vl wt tn u tl od 0 0 inn stt)) A) ([.ref (ad 0)] : List Value).toArray s 0 0 A) (F0 m 22 ls []) := by
    intro m9
    induction m9 with
    | zero =>
      intro i f H locs ls hi hf hP hD hS hl
      refine lv_iload_n hx hb dX1_forget_22 rfl (lv_at hl 0 rfl) ?_
      refine lv_aload_n hx hb dX1_forget_23 rfl (lv_at hl 2 rfl) ?_
      refine va_get (D := (dC, dI)) (ci := 1) (v := .int (nI K)) (C := RX1) (T := TX1) (N := 14) hx hb hts hw0 hown hK hP 0 rfl rfl 0 (by decide) (hts (.fieldLink RX1 35 "DropCodeModel" "words" "I") (by decide +kernel)) (fun _ h9 => h9) rfl dX1_forget_24 ?_
      refine lv_icmp_ge (tgt := 43) hx hb dX1_forget_27 (by decide) (fun c1 => ?_) (fun c1 => ?_)
      · skip
        refine lv_iload_n hx hb dX1_forget_43 rfl (lv_at hl 1 rfl) ?_
        exact W.iret (v := cm) hx hb hr (fun t ht hW => ⟨⟨cm, f, rfl, ⟨rfl, inF_0 (fun j hj => hf j (by omega))⟩, by rw [ht]; exact hP, va_K.moved hW.alike hK, hD⟩, hS.F ht⟩) hS.2.2 dX1_forget_44
      · skip
        exact absurd (nI_le (by omega) (by omega)) c1
    | succ m9 ih =>
      intro i f H locs ls hi hf hP hD hS hl
      have hiK : i < K := by omega
      refine lv_iload_n hx hb dX1_forget_22 rfl (lv_at hl 0 rfl) ?_
      refine lv_aload_n hx hb dX1_forget_23 rfl (lv_at hl 2 rfl) ?_
      refine va_get (D := (dC, dI)) (ci := 1) (v := .int (nI K)) (C := RX1) (T := TX1) (N := 14) hx hb hts hw0 hown hK hP 0 rfl rfl 0 (by decide) (hts (.fieldLink RX1 35 "DropCodeModel" "words" "I") (by decide +kernel)) (fun _ h9 => h9) rfl dX1_forget_24 ?_
      refine lv_icmp_ge (tgt := 43) hx hb dX1_forget_27 (by decide) (fun c1 => ?_) (fun c1 => ?_)
      · skip
        exact absurd c1 (nI_ge hiK (by omega))
      · skip
        refine lv_aload_n hx hb dX1_forget_30 rfl (lv_at hl 2 rfl) ?_
        refine va_get (D := (dC, dI)) (ci := 1) (v := .ref (ad 5)) (C := RX1) (T := TX1) (N := 14) hx hb hts hw0 hown hK hP 0 rfl rfl 7 (by decide) (hts (.fieldLink RX1 22 "DropCodeModel" "known" "[Z") (by decide +kernel)) (fun _ h9 => h9) rfl dX1_forget_31 ?_
        refine lv_iload_n hx hb dX1_forget_34 rfl (lv_at hl 0 rfl) ?_
        refine lv_iconst (v := 0) hx hb dX1_forget_35 (by decide) ?_
        refine va_zast (i := nI i) hx hb hK hP hD hS 5 1 rfl rfl (vp_in_nI (by omega : i < 32) (by omega)) dX1_forget_36 (fun H locs hP hD hS => ?_)
        rw [nI_clamp (by omega)] at hP hD
        have hP : va_P (dC, dI) vwCl (rW ad cI cZ K row 0 sd vl wt tn (upd f i (vp_nar .boolean 0)) tl od 0 0 inn stt) H := hP
        have hD : va_D A (rW ad cI cZ K row 0 sd vl wt tn (upd f i (vp_nar .boolean 0)) tl od 0 0 inn stt) := hD
        refine lv_iinc (v := nI (i + 1)) (lv' := [(2, .int (nI (i + 1))), (1, .int cm), (0, .ref (ad 0))]) hx hb dX1_forget_37 hl (k := 0) rfl (nI_1 i) (by decide) rfl (fun ls hl => ?_)
        refine lv_goto (tgt := 22) hx hb dX1_forget_40 (by decide) ?_
        exact ih (i + 1) _ _ _ ls (by omega) (clr_s hf) hP hD hS (lv_sub hl [0, 1, 2] rfl)
  exact key K 0 kn _ _ ls (by omega) (fun j hj => absurd hj (by omega)) hP hD hS (lv_sub hl [0, 1, 2] rfl)
set_option maxHeartbeats 4000000 in
set_option maxRecDepth 100000 in
theorem c_X1_await (l : Launch) (dC : Nat → ClassId) (dI : Nat → Nat → Nat) (sz : Nat) (ad : Nat → Nat) (cI cZ : ClassId) (K : Nat) (row : Nat → Int32) (cm : Int32) (sd : Nat → Int32) (vl : Nat → Int32) (wt : Nat → Int32) (kn : Nat → Int32) (tl : Nat → Int32) (od : Nat → Int32) (fd : Int32) (cl : Int32) (inn : Nat → Int32) (stt : Int32) (T : Nat) (j : Nat) (hj : j < 60) : Met l yX1_await wsX1_await ({ frames := 0, cells := 0, slots := 0, locals := 0 }) (va_Pc [.ref (ad 0), .int (nI j)] (wB dC dI [(cI, .int), (cZ, .boolean)] sz (rW ad cI cZ K row cm sd vl wt (nI T) kn tl od fd cl inn stt))) (va_Qv (fun (_ : Unit) => True) (fun _ => oB dC dI [(cI, .int), (cZ, .boolean)] (va_A (rW ad cI cZ K row cm sd vl wt (nI T) kn tl od fd cl inn stt) sz) (rW ad cI cZ K row cm sd vl (upd wt j (nI (T + 1))) (nI (T + 1)) kn tl od fd cl inn stt)) (va_A (rW ad cI cZ K row cm sd vl wt (nI T) kn tl od fd cl inn stt) sz)) 0 0 (va_A (rW ad cI cZ K row cm sd vl wt (nI T) kn tl od fd cl inn stt) sz) := by
  refine Met.ofW (cc := cX1_await) (maxL := 2) (ret := none) (by decide) rfl ?_
  intro p e s m args below meth c s₁ B hml hv
  obtain ⟨rfl, hsz, hP, hK, hD0⟩ := hv
  have hx := B.exec
  have hb := B.bytes
  have hr := B.returns
  have hts := atoms_spec (ws := wsX1_await) B.pre
  have hown : s.vm.findClass RX1 = some m.cls := findClass_of_methodNamed B.named
  have hlocks := B.notSynchronized
  have hw0 : ∀ w ∈ wsX10, w ∈ wsX1_await := fun _ h => List.mem_cons_of_mem _ (List.mem_append_right _ h)
  subst hsz
  have hD := hD0.self (sz := s.heap.size)
  generalize hAe : va_A (rW ad cI cZ K row cm sd vl wt (nI T) kn tl od fd cl inn stt) s.heap.size = A at hD ⊢
  have hA : ∀ q : Nat, s.heap.size ≤ q → A q := fun q h => by rw [← hAe]; exact Or.inr h
  have hS : va_S A s.heap s.heap [] := va_S.rf
  have hP : va_P (dC, dI) vwCl (rW ad cI cZ K row cm sd vl wt (nI T) kn tl od fd cl inn stt) s.heap := hP
  have hl := lv_entry ([.ref (ad 0), .int (nI j)]) (n := 2) (Nat.le_of_ble_eq_true rfl)
  rw [lg_entry_eq]
  generalize (lg_sl ([.ref (ad 0), .int (nI j)]) ++ List.replicate (2 - (lg_sl ([.ref (ad 0), .int (nI j)])).length) Slot.unset).toArray = ls at hl ⊢
  have hl : lv_has ls 2 [(0, .ref (ad 0)), (1, .int (nI j))] := hl
  refine lv_aload_n hx hb dX1_await_0 rfl (lv_at hl 0 rfl) ?_
  refine lv_dup hx hb dX1_await_1 rfl ?_
  refine va_get (D := (dC, dI)) (ci := 1) (v := .int (nI T)) (C := RX1) (T := TX1) (N := 14) hx hb hts hw0 hown hK hP 0 rfl rfl 6 (by decide) (hts (.fieldLink RX1 53 "DropCodeModel" "turns" "I") (by decide +kernel)) (fun _ h9 => h9) rfl dX1_await_2 ?_
  refine lv_iconst (v := 1) hx hb dX1_await_5 (by decide) ?_
  refine lv_iadd hx hb dX1_await_6 ?_
  refine lv_topi (fun z_1 ez_1 => ?_)
  have ez_1 : z_1 = nI (T + 1) := ez_1.trans (nI_1 T)
  subst ez_1
  refine va_put (D := (dC, dI)) (ci := 1) (v := .int (nI (T + 1))) (ty := .int) (C := RX1) (T := TX1) (N := 14) hx hb hts hw0 tyX1 tyX1_ok nmX1 hown hK hP hD hS 0 rfl rfl 6 (by decide) (hts (.fieldLink RX1 53 "DropCodeModel" "turns" "I") (by decide +kernel)) (fun _ h9 => h9) rfl (by decide +kernel) rfl rfl (Nat.le_of_ble_eq_true rfl) dX1_await_7 (fun H locs hP hD hS => ?_)
  have hP : va_P (dC, dI) vwCl (rW ad cI cZ K row cm sd vl wt (nI (T + 1)) kn tl od fd cl inn stt) H := hP
  have hD : va_D A (rW ad cI cZ K row cm sd vl wt (nI (T + 1)) kn tl od fd cl inn stt) := hD
  refine lv_aload_n hx hb dX1_await_10 rfl (lv_at hl 0 rfl) ?_
  refine va_get (D := (dC, dI)) (ci := 1) (v := .ref (ad 4)) (C := RX1) (T := TX1) (N := 14) hx hb hts hw0 hown hK hP 0 rfl rfl 5 (by decide) (hts (.fieldLink RX1 19 "DropCodeModel" "waits" "[I") (by decide +kernel)) (fun _ h9 => h9) rfl dX1_await_11 ?_
  refine lv_iload_n hx hb dX1_await_14 rfl (lv_at hl 1 rfl) ?_
  refine lv_aload_n hx hb dX1_await_15 rfl (lv_at hl 0 rfl) ?_
  refine va_get (D := (dC, dI)) (ci := 1) (v := .int (nI (T + 1))) (C := RX1) (T := TX1) (N := 14) hx hb hts hw0 hown hK hP 0 rfl rfl 6 (by decide) (hts (.fieldLink RX1 53 "DropCodeModel" "turns" "I") (by decide +kernel)) (fun _ h9 => h9) rfl dX1_await_16 ?_
  refine va_iast (i := nI j) hx hb hK hP hD hS 4 0 rfl rfl (vp_in_nI hj (by omega)) dX1_await_19 (fun H locs hP hD hS => ?_)
  rw [nI_clamp (by omega)] at hP hD
  have hP : va_P (dC, dI) vwCl (rW ad cI cZ K row cm sd vl (upd wt j (nI (T + 1))) (nI (T + 1)) kn tl od fd cl inn stt) H := hP
  have hD : va_D A (rW ad cI cZ K row cm sd vl (upd wt j (nI (T + 1))) (nI (T + 1)) kn tl od fd cl inn stt) := hD
  exact W.vret hx hb hr (fun t ht hW => ⟨⟨(), rfl, trivial, by rw [ht]; exact hP, va_K.moved hW.alike hK, hD⟩, hS.F ht⟩) hS.2.2 dX1_await_20
set_option maxHeartbeats 4000000 in
set_option maxRecDepth 100000 in
theorem c_X1_first (l : Launch) (dC : Nat → ClassId) (dI : Nat → Nat → Nat) (ad : Nat → Nat) (cI cZ : ClassId) (K : Nat) (row : Nat → Int32) (sd : Nat → Int32) (vl : Nat → Int32) (wt : Nat → Int32) (tn : Int32) (kn : Nat → Int32) (tl : Nat → Int32) (od : Nat → Int32) (fd : Int32) (cl : Int32) (inn : Nat → Int32) (stt : Int32) (n : Nat) (hn : n ≤ 60) : Met l yX1_first wsX1_first ({ frames := 0, cells := 0, slots := 0, locals := 0 }) (va_Pc [.ref (ad 0)] (rB dC dI [(cI, .int), (cZ, .boolean)] (rW ad cI cZ K row (nI n) sd vl wt tn kn tl od fd cl inn stt))) (vp_Si (fun r => fsP n wt r)) 0 0 (fun _ => False) := by
  refine Met.ofW (cc := cX1_first) (maxL := 3) (ret := (some .int)) (by decide) rfl ?_
  intro p e s m args below meth c s₁ B hml hv
  obtain ⟨rfl, hP, hK⟩ := hv
  have hx := B.exec
  have hb := B.bytes
  have hr := B.returns
  have hts := atoms_spec (ws := wsX1_first) B.pre
  have hown : s.vm.findClass RX1 = some m.cls := findClass_of_methodNamed B.named
  have hlocks := B.notSynchronized
  have hw0 : ∀ w ∈ wsX10, w ∈ wsX1_first := fun _ h => List.mem_cons_of_mem _ (List.mem_append_right _ h)
  have hl := lv_entry ([.ref (ad 0)]) (n := 3) (Nat.le_of_ble_eq_true rfl)
  rw [lg_entry_eq]
  generalize (lg_sl ([.ref (ad 0)]) ++ List.replicate (3 - (lg_sl ([.ref (ad 0)])).length) Slot.unset).toArray = ls at hl ⊢
  have hl : lv_has ls 3 [(0, .ref (ad 0))] := hl
  refine lv_iconst (v := (-1)) hx hb dX1_first_0 (by decide) ?_
  refine lv_istore_n (lv' := [(1, .int (-1)), (0, .ref (ad 0))]) hx hb dX1_first_1 rfl hl (by decide) rfl (fun ls hl => ?_)
  refine lv_iconst (v := 0) hx hb dX1_first_2 (by decide) ?_
  refine lv_istore_n (lv' := [(2, .int 0), (1, .int (-1)), (0, .ref (ad 0))]) hx hb dX1_first_3 rfl hl (by decide) rfl (fun ls hl => ?_)
  have key : ∀ (m9 k : Nat) (x : Int32) (ls : Array Slot), n = k + m9 → fsP k wt x → lv_has ls 3 [(2, .int (nI k)), (1, .int x), (0, .ref (ad 0))] → W p l e (headSpec wsX1_first ({ frames := 0, cells := 0, slots := 0, locals := 0 })).room s m ([.ref (ad 0)] : List Value).toArray below meth c s.heap [] 0 0 (MQ below (vp_Si (fun r => fsP n wt r)) ([.ref (ad 0)] : List Value).toArray s 0 0 (fun _ => False)) (F0 m 4 ls []) := by
    intro m9
    induction m9 with
    | zero =>
      intro k x ls hk hx9 hl
      have hkn : n = k := by omega
      refine lv_iload_n hx hb dX1_first_4 rfl (lv_at hl 0 rfl) ?_
      refine lv_aload_n hx hb dX1_first_5 rfl (lv_at hl 2 rfl) ?_
      refine va_get (D := (dC, dI)) (ci := 1) (v := .int (nI n)) (C := RX1) (T := TX1) (N := 14) hx hb hts hw0 hown hK hP 0 rfl rfl 2 (by decide) (hts (.fieldLink RX1 56 "DropCodeModel" "came" "I") (by decide +kernel)) (fun _ h9 => h9) rfl dX1_first_6 ?_
      refine lv_icmp_ge (tgt := 53) hx hb dX1_first_9 (by decide) (fun c1 => ?_) (fun c1 => ?_)
      · skip
        refine lv_iload_n hx hb dX1_first_53 rfl (lv_at hl 1 rfl) ?_
        exact W.iret (v := x) hx hb hr (fun t ht hW => ⟨x, rfl, by rw [hkn]; exact hx9, ht⟩) (fun _ h9 => by cases h9) dX1_first_54
      · skip
        exact absurd (nI_le (by omega) (by omega)) c1
    | succ m9 ih =>
      intro k x ls hk hx9 hl
      have hkn : k < n := by omega
      have hk60 : k < 60 := by omega
      refine lv_iload_n hx hb dX1_first_4 rfl (lv_at hl 0 rfl) ?_
      refine lv_aload_n hx hb dX1_first_5 rfl (lv_at hl 2 rfl) ?_
      refine va_get (D := (dC, dI)) (ci := 1) (v := .int (nI n)) (C := RX1) (T := TX1) (N := 14) hx hb hts hw0 hown hK hP 0 rfl rfl 2 (by decide) (hts (.fieldLink RX1 56 "DropCodeModel" "came" "I") (by decide +kernel)) (fun _ h9 => h9) rfl dX1_first_6 ?_
      refine lv_icmp_ge (tgt := 53) hx hb dX1_first_9 (by decide) (fun c1 => ?_) (fun c1 => ?_)
      · skip
        exact absurd c1 (nI_ge hkn (by omega))
      · skip
        refine lv_aload_n hx hb dX1_first_12 rfl (lv_at hl 2 rfl) ?_
        refine va_get (D := (dC, dI)) (ci := 1) (v := .ref (ad 4)) (C := RX1) (T := TX1) (N := 14) hx hb hts hw0 hown hK hP 0 rfl rfl 5 (by decide) (hts (.fieldLink RX1 19 "DropCodeModel" "waits" "[I") (by decide +kernel)) (fun _ h9 => h9) rfl dX1_first_13 ?_
        refine lv_iload_n hx hb dX1_first_16 rfl (lv_at hl 0 rfl) ?_
        refine va_iald (i := nI k) hx hb hK hP 4 0 rfl rfl (vp_in_nI hk60 (by omega)) dX1_first_17 ?_
        rw [nI_clamp (by omega)]
        refine lv_if_le (tgt := 45) hx hb dX1_first_18 (by decide) (fun c2 => ?_) (fun c2 => ?_)
        · skip
          refine lv_iload_n hx hb dX1_first_45 rfl (lv_at hl 1 rfl) ?_
          refine lv_istore_n (lv' := [(1, .int x), (2, .int (nI k)), (0, .ref (ad 0))]) hx hb dX1_first_46 rfl hl (by decide) rfl (fun ls hl => ?_)
          refine lv_iinc (v := nI (k + 1)) (lv' := [(2, .int (nI (k + 1))), (1, .int x), (0, .ref (ad 0))]) hx hb dX1_first_47 hl (k := 1) rfl (nI_1 k) (by decide) rfl (fun ls hl => ?_)
          refine lv_goto (tgt := 4) hx hb dX1_first_50 (by decide) ?_
          exact ih (k + 1) x ls (by omega) (fs_skip hx9 (Int32.not_lt.mpr c2)) (lv_sub hl [0, 1, 2] rfl)
        · skip
          have hp9 : 0 < wt k := Int32.not_le.mp c2
          refine lv_iload_n hx hb dX1_first_21 rfl (lv_at hl 1 rfl) ?_
          refine lv_iconst (v := (-1)) hx hb dX1_first_22 (by decide) ?_
          refine lv_icmp_eq (tgt := 41) hx hb dX1_first_23 (by decide) (fun c3 => ?_) (fun c3 => ?_)
          · skip
            refine lv_iload_n hx hb dX1_first_41 rfl (lv_at hl 0 rfl) ?_
            refine lv_goto (tgt := 46) hx hb dX1_first_42 (by decide) ?_
            refine lv_istore_n (lv' := [(1, .int (nI k)), (2, .int (nI k)), (0, .ref (ad 0))]) hx hb dX1_first_46 rfl hl (by decide) rfl (fun ls hl => ?_)
            refine lv_iinc (v := nI (k + 1)) (lv' := [(2, .int (nI (k + 1))), (1, .int (nI k)), (0, .ref (ad 0))]) hx hb dX1_first_47 hl (k := 1) rfl (nI_1 k) (by decide) rfl (fun ls hl => ?_)
            refine lv_goto (tgt := 4) hx hb dX1_first_50 (by decide) ?_
            exact ih (k + 1) (nI k) ls (by omega) (fs_new hx9 c3 hp9) (lv_sub hl [0, 1, 2] rfl)
          · skip
            obtain ⟨j, hj, rfl, hp, hm⟩ := fs_get hx9 c3
            refine lv_aload_n hx hb dX1_first_26 rfl (lv_at hl 2 rfl) ?_
            refine va_get (D := (dC, dI)) (ci := 1) (v := .ref (ad 4)) (C := RX1) (T := TX1) (N := 14) hx hb hts hw0 hown hK hP 0 rfl rfl 5 (by decide) (hts (.fieldLink RX1 19 "DropCodeModel" "waits" "[I") (by decide +kernel)) (fun _ h9 => h9) rfl dX1_first_27 ?_
            refine lv_iload_n hx hb dX1_first_30 rfl (lv_at hl 0 rfl) ?_
            refine va_iald (i := nI k) hx hb hK hP 4 0 rfl rfl (vp_in_nI hk60 (by omega)) dX1_first_31 ?_
            rw [nI_clamp (by omega)]
            refine lv_aload_n hx hb dX1_first_32 rfl (lv_at hl 2 rfl) ?_
            refine va_get (D := (dC, dI)) (ci := 1) (v := .ref (ad 4)) (C := RX1) (T := TX1) (N := 14) hx hb hts hw0 hown hK hP 0 rfl rfl 5 (by decide) (hts (.fieldLink RX1 19 "DropCodeModel" "waits" "[I") (by decide +kernel)) (fun _ h9 => h9) rfl dX1_first_33 ?_
            refine lv_iload_n hx hb dX1_first_36 rfl (lv_at hl 1 rfl) ?_
            refine va_iald (i := nI j) hx hb hK hP 4 0 rfl rfl (vp_in_nI (by omega : j < 60) (by omega)) dX1_first_37 ?_
            rw [nI_clamp (by omega)]
            refine lv_icmp_ge (tgt := 45) hx hb dX1_first_38 (by decide) (fun c4 => ?_) (fun c4 => ?_)
            · skip
              refine lv_iload_n hx hb dX1_first_45 rfl (lv_at hl 1 rfl) ?_
              refine lv_istore_n (lv' := [(1, .int (nI j)), (2, .int (nI k)), (0, .ref (ad 0))]) hx hb dX1_first_46 rfl hl (by decide) rfl (fun ls hl => ?_)
              refine lv_iinc (v := nI (k + 1)) (lv' := [(2, .int (nI (k + 1))), (1, .int (nI j)), (0, .ref (ad 0))]) hx hb dX1_first_47 hl (k := 1) rfl (nI_1 k) (by decide) rfl (fun ls hl => ?_)
              refine lv_goto (tgt := 4) hx hb dX1_first_50 (by decide) ?_
              exact ih (k + 1) (nI j) ls (by omega) (fs_keep hj hp hm c4) (lv_sub hl [0, 1, 2] rfl)
            · skip
              refine lv_iload_n hx hb dX1_first_41 rfl (lv_at hl 0 rfl) ?_
              refine lv_goto (tgt := 46) hx hb dX1_first_42 (by decide) ?_
              refine lv_istore_n (lv' := [(1, .int (nI k)), (2, .int (nI k)), (0, .ref (ad 0))]) hx hb dX1_first_46 rfl hl (by decide) rfl (fun ls hl => ?_)
              refine lv_iinc (v := nI (k + 1)) (lv' := [(2, .int (nI (k + 1))), (1, .int (nI k)), (0, .ref (ad 0))]) hx hb dX1_first_47 hl (k := 1) rfl (nI_1 k) (by decide) rfl (fun ls hl => ?_)
              refine lv_goto (tgt := 4) hx hb dX1_first_50 (by decide) ?_
              exact ih (k + 1) (nI k) ls (by omega) (fs_take hm hp9 (Int32.not_le.mp c4)) (lv_sub hl [0, 1, 2] rfl)
  exact key n 0 (-1) ls (by omega) (Or.inl ⟨rfl, fun k hk => absurd hk (by omega)⟩) (lv_sub hl [0, 1, 2] rfl)
