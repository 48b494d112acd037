theorem clr_s {f : Nat → Int32} {i : Nat} (h : ∀ j, j < i → f j = 0) : ∀ j, j < i + 1 → upd f i (vp_nar .boolean 0) j = 0 := by
  intro j hj
  by_cases q : j = i
  · subst q; rw [pk_us, nar0]
  · rw [pk_un q]; exact h j (by omega)
set_option maxHeartbeats 4000000 in
set_option maxRecDepth 100000 in
theorem c_X1_drawn (l : Launch) (dC : Nat → ClassId) (dI : Nat → Nat → Nat) (sz : Nat) (ad : Nat → Nat) (cI cZ : ClassId) (K : Nat) (row : Nat → Int32) (cm : Int32) (sd : Nat → Int32) (vl : Nat → Int32) (wt : Nat → Int32) (tn : Int32) (kn : Nat → Int32) (tl : Nat → Int32) (od : Nat → Int32) (fd : Int32) (cl : Int32) (inn : Nat → Int32) (stt : Int32) : Met l yX1_drawn wsX1_drawn ({ frames := 0, cells := 0, slots := 0, locals := 0 }) (va_Pc [.ref (ad 0)] (wB dC dI [(cI, .int), (cZ, .boolean)] sz (rW ad cI cZ K row cm sd vl wt tn kn tl od fd cl inn stt))) (va_Qi (fun r (_ : Unit) => r = nI (dr (ns stt))) (fun _ => oB dC dI [(cI, .int), (cZ, .boolean)] (va_A (rW ad cI cZ K row cm sd vl wt tn kn tl od fd cl inn stt) sz) (rW ad cI cZ K row cm sd vl wt tn kn tl od fd cl inn (ns stt))) (va_A (rW ad cI cZ K row cm sd vl wt tn kn tl od fd cl inn stt) sz)) 0 0 (va_A (rW ad cI cZ K row cm sd vl wt tn kn tl od fd cl inn stt) sz) := by
  refine Met.ofW (cc := cX1_drawn) (maxL := 1) (ret := (some .int)) (by decide) rfl ?_
  intro p e s m args below meth c s₁ B hml hv
  obtain ⟨rfl, hsz, hP, hK, hD0⟩ := hv
  have hx := B.exec
  have hb := B.bytes
  have hr := B.returns
  have hts := atoms_spec (ws := wsX1_drawn) B.pre
  have hown : s.vm.findClass RX1 = some m.cls := findClass_of_methodNamed B.named
  have hlocks := B.notSynchronized
  have hw0 : ∀ w ∈ wsX10, w ∈ wsX1_drawn := fun _ h => List.mem_cons_of_mem _ (List.mem_append_right _ h)
  subst hsz
  have hD := hD0.self (sz := s.heap.size)
  generalize hAe : va_A (rW ad cI cZ K row cm sd vl wt tn kn tl od fd cl inn stt) s.heap.size = A at hD ⊢
  have hA : ∀ q : Nat, s.heap.size ≤ q → A q := fun q h => by rw [← hAe]; exact Or.inr h
  have hS : va_S A s.heap s.heap [] := va_S.rf
  have hP : va_P (dC, dI) vwCl (rW ad cI cZ K row cm sd vl wt tn kn tl od fd cl inn stt) s.heap := hP
  have hl := lv_entry ([.ref (ad 0)]) (n := 1) (Nat.le_of_ble_eq_true rfl)
  rw [lg_entry_eq]
  generalize (lg_sl ([.ref (ad 0)]) ++ List.replicate (1 - (lg_sl ([.ref (ad 0)])).length) Slot.unset).toArray = ls at hl ⊢
  have hl : lv_has ls 1 [(0, .ref (ad 0))] := hl
  refine lv_aload_n hx hb dX1_drawn_0 rfl (lv_at hl 0 rfl) ?_
  refine lv_aload_n hx hb dX1_drawn_1 rfl (lv_at hl 0 rfl) ?_
  refine va_get (D := (dC, dI)) (ci := 1) (v := .int stt) (C := RX1) (T := TX1) (N := 14) hx hb hts hw0 hown hK hP 0 rfl rfl 13 (by decide) (hts (.fieldLink RX1 39 "DropCodeModel" "state" "I") (by decide +kernel)) (fun _ h9 => h9) rfl dX1_drawn_2 ?_
  refine lv_ldc hx hb hown (hts (.constant RX1 42 (1664525)) (by decide +kernel)) dX1_drawn_5 ?_
  refine lv_imul hx hb dX1_drawn_7 ?_
  refine lv_ldc hx hb hown (hts (.constant RX1 43 (1013904223)) (by decide +kernel)) dX1_drawn_8 ?_
  refine lv_iadd hx hb dX1_drawn_10 ?_
  refine lv_topi (fun z_1 ez_1 => ?_)
  have ez_1 : z_1 = ns stt := ez_1.trans (rfl)
  subst ez_1
  refine va_put (D := (dC, dI)) (ci := 1) (v := .int (ns stt)) (ty := .int) (C := RX1) (T := TX1) (N := 14) hx hb hts hw0 tyX1 tyX1_ok nmX1 hown hK hP hD hS 0 rfl rfl 13 (by decide) (hts (.fieldLink RX1 39 "DropCodeModel" "state" "I") (by decide +kernel)) (fun _ h9 => h9) rfl (by decide +kernel) rfl rfl (Nat.le_of_ble_eq_true rfl) dX1_drawn_11 (fun H locs hP hD hS => ?_)
  have hP : va_P (dC, dI) vwCl (rW ad cI cZ K row cm sd vl wt tn kn tl od fd cl inn (ns stt)) H := hP
  have hD : va_D A (rW ad cI cZ K row cm sd vl wt tn kn tl od fd cl inn (ns stt)) := hD
  refine lv_aload_n hx hb dX1_drawn_14 rfl (lv_at hl 0 rfl) ?_
  refine va_get (D := (dC, dI)) (ci := 1) (v := .int (ns stt)) (C := RX1) (T := TX1) (N := 14) hx hb hts hw0 hown hK hP 0 rfl rfl 13 (by decide) (hts (.fieldLink RX1 39 "DropCodeModel" "state" "I") (by decide +kernel)) (fun _ h9 => h9) rfl dX1_drawn_15 ?_
  refine lv_bipush (v := 16) hx hb dX1_drawn_18 (by decide) ?_
  refine lv_iushr (v := ((ns stt).toUInt32 >>> ((16 : Int32).toUInt32 &&& Int32.toUInt32 31)).toInt32) hx hb dX1_drawn_20 rfl ?_
  refine lv_topi (fun z_2 ez_2 => ?_)
  have ez_2 : z_2 = nI (dr (ns stt)) := ez_2.trans (dr_sh _)
  subst ez_2
  exact W.iret (v := nI (dr (ns stt))) hx hb hr (fun t ht hW => ⟨⟨nI (dr (ns stt)), (), rfl, rfl, by rw [ht]; exact hP, va_K.moved hW.alike hK, hD⟩, hS.F ht⟩) hS.2.2 dX1_drawn_21
set_option maxHeartbeats 4000000 in
set_option maxRecDepth 100000 in
theorem c_X1_draw (l : Launch) (dC : Nat → ClassId) (dI : Nat → Nat → Nat) (sz : Nat) (ad : Nat → Nat) (cI cZ : ClassId) (K : Nat) (row : Nat → Int32) (cm : Int32) (sd : Nat → Int32) (vl : Nat → Int32) (wt : Nat → Int32) (tn : Int32) (kn : Nat → Int32) (tl : Nat → Int32) (od : Nat → Int32) (fd : Int32) (cl : Int32) (inn : Nat → Int32) (stt : Int32) (hK1 : 1 ≤ K) (hK2 : K ≤ 32) (seed : Int32) : Met l yX1_draw wsX1_draw ({ frames := 1, cells := 0, slots := 0, locals := 20 }) (va_Pc [.ref (ad 0), .int seed] (wB dC dI [(cI, .int), (cZ, .boolean)] sz (rW ad cI cZ K row cm sd vl wt tn kn tl od fd cl inn stt))) (va_Qi (fun r (u : (Nat → Int32) × Int32) => r = nI (dg K (dr (ns seed))) ∧ inF K u.1 (setA K seed)) (fun u => oB dC dI [(cI, .int), (cZ, .boolean)] (va_A (rW ad cI cZ K row cm sd vl wt tn kn tl od fd cl inn stt) sz) (rW ad cI cZ K row cm sd vl wt tn kn tl od fd cl u.1 u.2)) (va_A (rW ad cI cZ K row cm sd vl wt tn kn tl od fd cl inn stt) sz)) 0 0 (va_A (rW ad cI cZ K row cm sd vl wt tn kn tl od fd cl inn stt) sz) := by
  refine Met.ofW (cc := cX1_draw) (maxL := 7) (ret := (some .int)) (by decide) rfl ?_
  intro p e s m args below meth c s₁ B hml hv
  obtain ⟨rfl, hsz, hP, hK, hD0⟩ := hv
  have hx := B.exec
  have hb := B.bytes
  have hr := B.returns
  have hts := atoms_spec (ws := wsX1_draw) B.pre
  have hown : s.vm.findClass RX1 = some m.cls := findClass_of_methodNamed B.named
  have hlocks := B.notSynchronized
  have hw0 : ∀ w ∈ wsX10, w ∈ wsX1_draw := fun _ h => List.mem_cons_of_mem _ (List.mem_append_right _ h)
  subst hsz
  have hD := hD0.self (sz := s.heap.size)
  generalize hAe : va_A (rW ad cI cZ K row cm sd vl wt tn kn tl od fd cl inn stt) s.heap.size = A at hD ⊢
  have hA : ∀ q : Nat, s.heap.size ≤ q → A q := fun q h => by rw [← hAe]; exact Or.inr h
  have hS : va_S A s.heap s.heap [] := va_S.rf
  have hP : va_P (dC, dI) vwCl (rW ad cI cZ K row cm sd vl wt tn kn tl od fd cl inn stt) s.heap := hP
  have hl := lv_entry ([.ref (ad 0), .int seed]) (n := 7) (Nat.le_of_ble_eq_true rfl)
  rw [lg_entry_eq]
  generalize (lg_sl ([.ref (ad 0), .int seed]) ++ List.replicate (7 - (lg_sl ([.ref (ad 0), .int seed])).length) Slot.unset).toArray = ls at hl ⊢
  have hl : lv_has ls 7 [(0, .ref (ad 0)), (1, .int seed)] := hl
  obtain ⟨N, hN, hset, hd, hlt⟩ := setA_ok hK1 hK2 seed
  rw [hset]
  rw [hset] at hd
  refine lv_aload_n hx hb dX1_draw_0 rfl (lv_at hl 0 rfl) ?_
  refine lv_iload_n hx hb dX1_draw_1 rfl (lv_at hl 1 rfl) ?_
  refine va_put (D := (dC, dI)) (ci := 1) (v := .int seed) (ty := .int) (C := RX1) (T := TX1) (N := 14) hx hb hts hw0 tyX1 tyX1_ok nmX1 hown hK hP hD hS 0 rfl rfl 13 (by decide) (hts (.fieldLink RX1 39 "DropCodeModel" "state" "I") (by decide +kernel)) (fun _ h9 => h9) rfl (by decide +kernel) rfl rfl (Nat.le_of_ble_eq_true rfl) dX1_draw_2 (fun H locs hP hD hS => ?_)
  have hP : va_P (dC, dI) vwCl (rW ad cI cZ K row cm sd vl wt tn kn tl od fd cl inn seed) H := hP
  have hD : va_D A (rW ad cI cZ K row cm sd vl wt tn kn tl od fd cl inn seed) := hD
  refine lv_aload_n hx hb dX1_draw_5 rfl (lv_at hl 0 rfl) ?_
  have hFc := va_free (wc := (rW ad cI cZ K row cm sd vl wt tn kn tl od fd cl inn seed)) hD hS hA [0, 1, 2, 3, 4, 5, 6, 7, 8] rfl
  refine va_calli (va_runV (As := []) (rest := []) ⟨hx, hb, hml, hown, hts⟩ (c_X1_drawn l dC dI H.size ad cI cZ K row cm sd vl wt tn kn tl od fd cl inn seed) (cwV 0 hts gX1_draw_X1_drawn rfl rfl rfl (by decide +kernel) ⟨Nat.le_of_ble_eq_true rfl, Nat.le_of_ble_eq_true rfl⟩) ⟨wFb, va_recv hK hP (ci := 1) (q0 := 0) rfl rfl, fun U hU hW => ⟨rfl, by rw [hU], by rw [hU]; exact hP, va_K.moved hW.alike hK, hD.weaken (fun _ _ _ _ => trivial)⟩⟩ rfl rfl hl.1 rfl (lv_room (Nat.le_of_ble_eq_true rfl)) dX1_draw_6 ⟨Nat.le_of_ble_eq_true rfl, Nat.le_of_ble_eq_true rfl⟩) hS (fun q _ h => hFc q h) hFc (fun r_1 u t H1 locs ht hvm hw hB hz1 hk1 hS => ?_)
  obtain ⟨hP1, hK1, hD1⟩ := hB
  rw [ht] at hP1
  obtain ⟨hP, hD⟩ := va_join (wr := []) (w1 := (rW ad cI cZ K row cm sd vl wt tn kn tl od fd cl inn (ns seed))) hP hD [0, 1, 2, 3, 4, 5, 6, 7, 8] [] rfl rfl (by decide) (by decide) hk1 hFc hP1 hD1
  clear hP1 hD1 hK1 hFc hk1 hz1
  generalize H1 = H at hP hS ⊢
  have hP : va_P (dC, dI) vwCl (rW ad cI cZ K row cm sd vl wt tn kn tl od fd cl inn (ns seed)) H := hP
  have hD : va_D A (rW ad cI cZ K row cm sd vl wt tn kn tl od fd cl inn (ns seed)) := hD
  subst hw
  refine lv_istore_n (lv' := [(2, .int (nI (dr (ns seed)))), (0, .ref (ad 0)), (1, .int seed)]) hx hb dX1_draw_9 rfl hl (by decide) rfl (fun ls hl => ?_)
  refine lv_ldc hx hb hown (hts (.constant RX1 48 (65536)) (by decide +kernel)) dX1_draw_10 ?_
  refine lv_aload_n hx hb dX1_draw_12 rfl (lv_at hl 1 rfl) ?_
  refine va_get (D := (dC, dI)) (ci := 1) (v := .int (nI K)) (C := RX1) (T := TX1) (N := 14) hx hb hts hw0 hown hK hP 0 rfl rfl 0 (by decide) (hts (.fieldLink RX1 35 "DropCodeModel" "words" "I") (by decide +kernel)) (fun _ h9 => h9) rfl dX1_draw_13 ?_
  refine lv_idiv hx hb dX1_draw_16 (nI_ne0 hK1 (by omega)) ?_
  refine lv_topi (fun z_2 ez_2 => ?_)
  have ez_2 : z_2 = nI (65536 / K) := ez_2.trans (pk_div (a := 65536) (by omega) hK1 (by omega))
  subst ez_2
  refine lv_istore_n (lv' := [(3, .int (nI (65536 / K))), (2, .int (nI (dr (ns seed)))), (0, .ref (ad 0)), (1, .int seed)]) hx hb dX1_draw_17 rfl hl (by decide) rfl (fun ls hl => ?_)
  refine lv_iconst (v := 1) hx hb dX1_draw_18 (by decide) ?_
  refine lv_istore (lv' := [(4, .int 1), (3, .int (nI (65536 / K))), (2, .int (nI (dr (ns seed)))), (0, .ref (ad 0)), (1, .int seed)]) hx hb dX1_draw_19 hl (by decide) rfl (fun ls hl => ?_)
  have kC : ∀ (m9 n : Nat) (f : Nat → Int32) (H : Heap) (locs : List Loc) (ls : Array Slot), N = n + m9 → inF K f (fl K (ns seed) n) → va_P (dC, dI) vwCl (rW ad cI cZ K row cm sd vl wt tn kn tl od fd cl f (st (ns seed) n)) H → va_D A (rW ad cI cZ K row cm sd vl wt tn kn tl od fd cl f (st (ns seed) n)) → va_S A s.heap H locs → lv_has ls 7 [(5, .int (nI (pc (fl K (ns seed) n)))), (4, .int (nI (dg K (dr (ns seed))))), (0, .ref (ad 0))] → W p l e (headSpec wsX1_draw ({ frames := 1, cells := 0, slots := 0, locals := 20 })).room s m ([.ref (ad 0), .int seed] : List Value).toArray below meth c H locs 0 0 (MQ below (va_Qi (fun r (u : (Nat → Int32) × Int32) => r = nI (dg K (dr (ns seed))) ∧ inF K u.1 (fl K (ns seed) N)) (fun u => oB dC dI [(cI, .int), (cZ, .boolean)] A (rW ad cI cZ K row cm sd vl wt tn kn tl od fd cl u.1 u.2)) A) ([.ref (ad 0), .int seed] : List Value).toArray s 0 0 A) (F0 m 83 ls []) := by
    intro m9
    induction m9 with
    | zero =>
      intro n f H locs ls hi hf hP hD hS hl
      have hnN : N = n := by omega
      refine lv_iload hx hb dX1_draw_83 (lv_at hl 0 rfl) ?_
      refine lv_iload hx hb dX1_draw_85 (lv_at hl 1 rfl) ?_
      refine lv_icmp_ge (tgt := 132) hx hb dX1_draw_87 (by decide) (fun c1 => ?_) (fun c1 => ?_)
      · skip
        rw [hnN]
        refine lv_iload hx hb dX1_draw_132 (lv_at hl 1 rfl) ?_
        exact W.iret (v := nI (dg K (dr (ns seed)))) hx hb hr (fun t ht hW => ⟨⟨nI (dg K (dr (ns seed))), (f, st (ns seed) n), rfl, ⟨rfl, hf⟩, by rw [ht]; exact hP, va_K.moved hW.alike hK, hD⟩, hS.F ht⟩) hS.2.2 dX1_draw_134
      · skip
        exact absurd (nI_le (by rw [← hnN]; exact hd) (by have := pc_le (fl K (ns seed) n); omega)) c1
    | succ m9 ih =>
      intro n f H locs ls hi hf hP hD hS hl
      refine lv_iload hx hb dX1_draw_83 (lv_at hl 0 rfl) ?_
      refine lv_iload hx hb dX1_draw_85 (lv_at hl 1 rfl) ?_
      refine lv_icmp_ge (tgt := 132) hx hb dX1_draw_87 (by decide) (fun c1 => ?_) (fun c1 => ?_)
      · skip
        exact absurd c1 (nI_ge (hlt n (by omega)) (by have := (dg_le (dr (ns seed)) hK1).2; omega))
      · skip
        obtain ⟨T, hT⟩ : ∃ T, T = dr (st (ns seed) (n + 1)) % K := ⟨_, rfl⟩
        have hTK : T < K := by rw [hT]; exact Nat.mod_lt _ hK1
        have hfl : fl K (ns seed) (n + 1) = fl K (ns seed) n ||| tw T := by rw [hT]; rfl
        refine lv_aload_n hx hb dX1_draw_90 rfl (lv_at hl 2 rfl) ?_
        have hFc := va_free (wc := (rW ad cI cZ K row cm sd vl wt tn kn tl od fd cl f (st (ns seed) n))) hD hS hA [0, 1, 2, 3, 4, 5, 6, 7, 8] rfl
        refine va_calli (va_runV (As := []) (rest := []) ⟨hx, hb, hml, hown, hts⟩ (c_X1_drawn l dC dI H.size ad cI cZ K row cm sd vl wt tn kn tl od fd cl f (st (ns seed) n)) (cwV 0 hts gX1_draw_X1_drawn rfl rfl rfl (by decide +kernel) ⟨Nat.le_of_ble_eq_true rfl, Nat.le_of_ble_eq_true rfl⟩) ⟨wFb, va_recv hK hP (ci := 1) (q0 := 0) rfl rfl, fun U hU hW => ⟨rfl, by rw [hU], by rw [hU]; exact hP, va_K.moved hW.alike hK, hD.weaken (fun _ _ _ _ => trivial)⟩⟩ rfl rfl hl.1 rfl (lv_room (Nat.le_of_ble_eq_true rfl)) dX1_draw_91 ⟨Nat.le_of_ble_eq_true rfl, Nat.le_of_ble_eq_true rfl⟩) hS (fun q _ h => hFc q h) hFc (fun r_3 u t H1 locs ht hvm hw hB hz1 hk1 hS => ?_)
        obtain ⟨hP1, hK1, hD1⟩ := hB
        rw [ht] at hP1
        obtain ⟨hP, hD⟩ := va_join (wr := []) (w1 := (rW ad cI cZ K row cm sd vl wt tn kn tl od fd cl f (ns (st (ns seed) n)))) hP hD [0, 1, 2, 3, 4, 5, 6, 7, 8] [] rfl rfl (by decide) (by decide) hk1 hFc hP1 hD1
        clear hP1 hD1 hK1 hFc hk1 hz1
        generalize H1 = H at hP hS ⊢
        have hP : va_P (dC, dI) vwCl (rW ad cI cZ K row cm sd vl wt tn kn tl od fd cl f (ns (st (ns seed) n))) H := hP
        have hD : va_D A (rW ad cI cZ K row cm sd vl wt tn kn tl od fd cl f (ns (st (ns seed) n))) := hD
        subst hw
        refine lv_aload_n hx hb dX1_draw_94 rfl (lv_at hl 2 rfl) ?_
        refine va_get (D := (dC, dI)) (ci := 1) (v := .int (nI K)) (C := RX1) (T := TX1) (N := 14) hx hb hts hw0 hown hK hP 0 rfl rfl 0 (by decide) (hts (.fieldLink RX1 35 "DropCodeModel" "words" "I") (by decide +kernel)) (fun _ h9 => h9) rfl dX1_draw_95 ?_
        refine lv_irem hx hb dX1_draw_98 (nI_ne0 hK1 (by omega)) ?_
        refine lv_topi (fun z_4 ez_4 => ?_)
        have ez_4 : z_4 = nI T := ez_4.trans (by rw [hT]; exact pk_rem (by have := dr_lt (ns (st (ns seed) n)); omega) hK1 (by omega))
        subst ez_4
        refine lv_istore (lv' := [(6, .int (nI T)), (5, .int (nI (pc (fl K (ns seed) n)))), (4, .int (nI (dg K (dr (ns seed))))), (0, .ref (ad 0))]) hx hb dX1_draw_99 hl (by decide) rfl (fun ls hl => ?_)
        refine lv_iload hx hb dX1_draw_101 (lv_at hl 1 rfl) ?_
        refine lv_aload_n hx hb dX1_draw_103 rfl (lv_at hl 3 rfl) ?_
        refine va_get (D := (dC, dI)) (ci := 1) (v := .ref (ad 8)) (C := RX1) (T := TX1) (N := 14) hx hb hts hw0 hown hK hP 0 rfl rfl 12 (by decide) (hts (.fieldLink RX1 32 "DropCodeModel" "in" "[Z") (by decide +kernel)) (fun _ h9 => h9) rfl dX1_draw_104 ?_
        refine lv_iload hx hb dX1_draw_107 (lv_at hl 0 rfl) ?_
        refine va_zald (i := nI T) hx hb hK hP 8 1 rfl rfl (vp_in_nI (by omega : T < 32) (by omega)) dX1_draw_109 ?_
        rw [nI_clamp (by omega)]
        refine lv_topi (fun z_5 ez_5 => ?_)
        have ez_5 : z_5 = bI (bt (fl K (ns seed) n) T) := ez_5.trans (hf T hTK)
        subst ez_5
        cases hbt : bt (fl K (ns seed) n) T with
        | false =>
          rw [bI_f]
          refine lv_if_eq (tgt := 117) hx hb dX1_draw_110 (by decide) (fun c3 => ?_) (fun c3 => ?_)
          · skip
            refine lv_iconst (v := 1) hx hb dX1_draw_117 (by decide) ?_
            refine lv_iadd hx hb dX1_draw_118 ?_
            refine lv_topi (fun z_6 ez_6 => ?_)
            have ez_6 : z_6 = nI (pc (fl K (ns seed) (n + 1))) := ez_6.trans (by rw [hfl, pc_or_tw (by omega), hbt]; exact nI_1 _)
            subst ez_6
            refine lv_istore (lv' := [(5, .int (nI (pc (fl K (ns seed) (n + 1))))), (6, .int (nI T)), (4, .int (nI (dg K (dr (ns seed))))), (0, .ref (ad 0))]) hx hb dX1_draw_119 hl (by decide) rfl (fun ls hl => ?_)
            refine lv_aload_n hx hb dX1_draw_121 rfl (lv_at hl 3 rfl) ?_
            refine va_get (D := (dC, dI)) (ci := 1) (v := .ref (ad 8)) (C := RX1) (T := TX1) (N := 14) hx hb hts hw0 hown hK hP 0 rfl rfl 12 (by decide) (hts (.fieldLink RX1 32 "DropCodeModel" "in" "[Z") (by decide +kernel)) (fun _ h9 => h9) rfl dX1_draw_122 ?_
            refine lv_iload hx hb dX1_draw_125 (lv_at hl 1 rfl) ?_
            refine lv_iconst (v := 1) hx hb dX1_draw_127 (by decide) ?_
            refine va_zast (i := nI T) hx hb hK hP hD hS 8 1 rfl rfl (vp_in_nI (by omega : T < 32) (by omega)) dX1_draw_128 (fun H locs hP hD hS => ?_)
            rw [nI_clamp (by omega)] at hP hD
            have hP : va_P (dC, dI) vwCl (rW ad cI cZ K row cm sd vl wt tn kn tl od fd cl (upd f T (vp_nar .boolean 1)) (ns (st (ns seed) n))) H := hP
            have hD : va_D A (rW ad cI cZ K row cm sd vl wt tn kn tl od fd cl (upd f T (vp_nar .boolean 1)) (ns (st (ns seed) n))) := hD
            refine lv_goto (tgt := 83) hx hb dX1_draw_129 (by decide) ?_
            exact ih (n + 1) _ _ _ ls (by omega) (by rw [hfl]; exact inF_up hK2 hTK hf) hP hD hS (lv_sub hl [0, 2, 3] rfl)
          · skip
            exact absurd rfl c3
        | true =>
          rw [bI_t]
          refine lv_if_eq (tgt := 117) hx hb dX1_draw_110 (by decide) (fun c3 => ?_) (fun c3 => ?_)
          · skip
            exact absurd c3 (by decide)
          · skip
            refine lv_iconst (v := 0) hx hb dX1_draw_113 (by decide) ?_
            refine lv_goto (tgt := 118) hx hb dX1_draw_114 (by decide) ?_
            refine lv_iadd hx hb dX1_draw_118 ?_
            refine lv_topi (fun z_6 ez_6 => ?_)
            have ez_6 : z_6 = nI (pc (fl K (ns seed) (n + 1))) := ez_6.trans (by rw [hfl, pc_or_tw (by omega), hbt]; exact Int32.add_zero _)
            subst ez_6
            refine lv_istore (lv' := [(5, .int (nI (pc (fl K (ns seed) (n + 1))))), (6, .int (nI T)), (4, .int (nI (dg K (dr (ns seed))))), (0, .ref (ad 0))]) hx hb dX1_draw_119 hl (by decide) rfl (fun ls hl => ?_)
            refine lv_aload_n hx hb dX1_draw_121 rfl (lv_at hl 3 rfl) ?_
            refine va_get (D := (dC, dI)) (ci := 1) (v := .ref (ad 8)) (C := RX1) (T := TX1) (N := 14) hx hb hts hw0 hown hK hP 0 rfl rfl 12 (by decide) (hts (.fieldLink RX1 32 "DropCodeModel" "in" "[Z") (by decide +kernel)) (fun _ h9 => h9) rfl dX1_draw_122 ?_
            refine lv_iload hx hb dX1_draw_125 (lv_at hl 1 rfl) ?_
            refine lv_iconst (v := 1) hx hb dX1_draw_127 (by decide) ?_
            refine va_zast (i := nI T) hx hb hK hP hD hS 8 1 rfl rfl (vp_in_nI (by omega : T < 32) (by omega)) dX1_draw_128 (fun H locs hP hD hS => ?_)
            rw [nI_clamp (by omega)] at hP hD
            have hP : va_P (dC, dI) vwCl (rW ad cI cZ K row cm sd vl wt tn kn tl od fd cl (upd f T (vp_nar .boolean 1)) (ns (st (ns seed) n))) H := hP
            have hD : va_D A (rW ad cI cZ K row cm sd vl wt tn kn tl od fd cl (upd f T (vp_nar .boolean 1)) (ns (st (ns seed) n))) := hD
            refine lv_goto (tgt := 83) hx hb dX1_draw_129 (by decide) ?_
            exact ih (n + 1) _ _ _ ls (by omega) (by rw [hfl]; exact inF_up hK2 hTK hf) hP hD hS (lv_sub hl [0, 2, 3] rfl)
  have kB : ∀ (m9 i : Nat) (f : Nat → Int32) (H : Heap) (locs : List Loc) (ls : Array Slot), K = i + m9 → (∀ j, j < i → f j = 0) → va_P (dC, dI) vwCl (rW ad cI cZ K row cm sd vl wt tn kn tl od fd cl f (ns seed)) H → va_D A (rW ad cI cZ K row cm sd vl wt tn kn tl od fd cl f (ns seed)) → va_S A s.heap H locs → lv_has ls 7 [(5, .int (nI i)), (4, .int (nI (dg K (dr (ns seed))))), (0, .ref (ad 0))] → W p l e (headSpec wsX1_draw ({ frames := 1, cells := 0, slots := 0, locals := 20 })).room s m ([.ref (ad 0), .int seed] : List Value).toArray below meth c H locs 0 0 (MQ below (va_Qi (fun r (u : (Nat → Int32) × Int32) => r = nI (dg K (dr (ns seed))) ∧ inF K u.1 (fl K (ns seed) N)) (fun u => oB dC dI [(cI, .int), (cZ, .boolean)] A (rW ad cI cZ K row cm sd vl wt tn kn tl od fd cl u.1 u.2)) A) ([.ref (ad 0), .int seed] : List Value).toArray s 0 0 A) (F0 m 57 ls []) := by
    intro m9
    induction m9 with
    | zero =>
      intro i f H locs ls hi hf hP hD hS hl
      refine lv_iload hx hb dX1_draw_57 (lv_at hl 0 rfl) ?_
      refine lv_aload_n hx hb dX1_draw_59 rfl (lv_at hl 2 rfl) ?_
      refine va_get (D := (dC, dI)) (ci := 1) (v := .int (nI K)) (C := RX1) (T := TX1) (N := 14) hx hb hts hw0 hown hK hP 0 rfl rfl 0 (by decide) (hts (.fieldLink RX1 35 "DropCodeModel" "words" "I") (by decide +kernel)) (fun _ h9 => h9) rfl dX1_draw_60 ?_
      refine lv_icmp_ge (tgt := 80) hx hb dX1_draw_63 (by decide) (fun c1 => ?_) (fun c1 => ?_)
      · skip
        refine lv_iconst (v := 0) hx hb dX1_draw_80 (by decide) ?_
        refine lv_topi (fun z_3 ez_3 => ?_)
        have ez_3 : z_3 = nI (pc (fl K (ns seed) 0)) := ez_3.trans (by rw [show fl K (ns seed) 0 = 0 from rfl, pc_0]; rfl)
        subst ez_3
        refine lv_istore (lv' := [(5, .int (nI (pc (fl K (ns seed) 0)))), (4, .int (nI (dg K (dr (ns seed))))), (0, .ref (ad 0))]) hx hb dX1_draw_81 hl (by decide) rfl (fun ls hl => ?_)
        exact kC N 0 f _ _ ls (by omega) (inF_0 (fun j hj => hf j (by omega))) hP hD hS (lv_sub hl [0, 1, 2] rfl)
      · skip
        exact absurd (nI_le (by omega) (by omega)) c1
    | succ m9 ih =>
      intro i f H locs ls hi hf hP hD hS hl
      have hiK : i < K := by omega
      refine lv_iload hx hb dX1_draw_57 (lv_at hl 0 rfl) ?_
      refine lv_aload_n hx hb dX1_draw_59 rfl (lv_at hl 2 rfl) ?_
      refine va_get (D := (dC, dI)) (ci := 1) (v := .int (nI K)) (C := RX1) (T := TX1) (N := 14) hx hb hts hw0 hown hK hP 0 rfl rfl 0 (by decide) (hts (.fieldLink RX1 35 "DropCodeModel" "words" "I") (by decide +kernel)) (fun _ h9 => h9) rfl dX1_draw_60 ?_
      refine lv_icmp_ge (tgt := 80) hx hb dX1_draw_63 (by decide) (fun c1 => ?_) (fun c1 => ?_)
      · skip
        exact absurd c1 (nI_ge hiK (by omega))
      · skip
        refine lv_aload_n hx hb dX1_draw_66 rfl (lv_at hl 2 rfl) ?_
        refine va_get (D := (dC, dI)) (ci := 1) (v := .ref (ad 8)) (C := RX1) (T := TX1) (N := 14) hx hb hts hw0 hown hK hP 0 rfl rfl 12 (by decide) (hts (.fieldLink RX1 32 "DropCodeModel" "in" "[Z") (by decide +kernel)) (fun _ h9 => h9) rfl dX1_draw_67 ?_
        refine lv_iload hx hb dX1_draw_70 (lv_at hl 0 rfl) ?_
        refine lv_iconst (v := 0) hx hb dX1_draw_72 (by decide) ?_
        refine va_zast (i := nI i) hx hb hK hP hD hS 8 1 rfl rfl (vp_in_nI (by omega : i < 32) (by omega)) dX1_draw_73 (fun H locs hP hD hS => ?_)
        rw [nI_clamp (by omega)] at hP hD
        have hP : va_P (dC, dI) vwCl (rW ad cI cZ K row cm sd vl wt tn kn tl od fd cl (upd f i (vp_nar .boolean 0)) (ns seed)) H := hP
        have hD : va_D A (rW ad cI cZ K row cm sd vl wt tn kn tl od fd cl (upd f i (vp_nar .boolean 0)) (ns seed)) := hD
        refine lv_iinc (v := nI (i + 1)) (lv' := [(5, .int (nI (i + 1))), (4, .int (nI (dg K (dr (ns seed))))), (0, .ref (ad 0))]) hx hb dX1_draw_74 hl (k := 0) rfl (nI_1 i) (by decide) rfl (fun ls hl => ?_)
        refine lv_goto (tgt := 57) hx hb dX1_draw_77 (by decide) ?_
        exact ih (i + 1) _ _ _ ls (by omega) (clr_s hf) hP hD hS (lv_sub hl [0, 1, 2] rfl)
  have hq := dr_lt (ns seed)
  have kA : ∀ (n d sum : Nat) (ls : Array Slot), 1 ≤ d → d ≤ K → K ≤ d + n → sum ≤ 65536 * d → dgF K (dr (ns seed)) n d sum = dg K (dr (ns seed)) → lv_has ls 7 [(4, .int (nI d)), (3, .int (nI sum)), (2, .int (nI (dr (ns seed)))), (0, .ref (ad 0))] → W p l e (headSpec wsX1_draw ({ frames := 1, cells := 0, slots := 0, locals := 20 })).room s m ([.ref (ad 0), .int seed] : List Value).toArray below meth c H locs 0 0 (MQ below (va_Qi (fun r (u : (Nat → Int32) × Int32) => r = nI (dg K (dr (ns seed))) ∧ inF K u.1 (fl K (ns seed) N)) (fun u => oB dC dI [(cI, .int), (cZ, .boolean)] A (rW ad cI cZ K row cm sd vl wt tn kn tl od fd cl u.1 u.2)) A) ([.ref (ad 0), .int seed] : List Value).toArray s 0 0 A) (F0 m 21 ls []) := by
    intro n
    induction n with
    | zero =>
      intro d sum ls hd1 hd2 hn hsum hv hl
      refine lv_iload hx hb dX1_draw_21 (lv_at hl 0 rfl) ?_
      refine lv_aload_n hx hb dX1_draw_23 rfl (lv_at hl 3 rfl) ?_
      refine va_get (D := (dC, dI)) (ci := 1) (v := .int (nI K)) (C := RX1) (T := TX1) (N := 14) hx hb hts hw0 hown hK hP 0 rfl rfl 0 (by decide) (hts (.fieldLink RX1 35 "DropCodeModel" "words" "I") (by decide +kernel)) (fun _ h9 => h9) rfl dX1_draw_24 ?_
      refine lv_icmp_ge (tgt := 54) hx hb dX1_draw_27 (by decide) (fun c1 => ?_) (fun c1 => ?_)
      · skip
        have hdd : d = dg K (dr (ns seed)) := hv
        rw [hdd] at hl
        refine lv_iconst (v := 0) hx hb dX1_draw_54 (by decide) ?_
        refine lv_istore (lv' := [(5, .int 0), (4, .int (nI (dg K (dr (ns seed))))), (3, .int (nI sum)), (2, .int (nI (dr (ns seed)))), (0, .ref (ad 0))]) hx hb dX1_draw_55 hl (by decide) rfl (fun ls hl => ?_)
        exact kB K 0 inn _ _ ls (by omega) (fun j hj => absurd hj (by omega)) hP hD hS (lv_sub hl [0, 1, 4] rfl)
      · skip
        exact absurd (nI_le (by omega) (by omega)) c1
    | succ n ih =>
      intro d sum ls hd1 hd2 hn hsum hv hl
      refine lv_iload hx hb dX1_draw_21 (lv_at hl 0 rfl) ?_
      refine lv_aload_n hx hb dX1_draw_23 rfl (lv_at hl 3 rfl) ?_
      refine va_get (D := (dC, dI)) (ci := 1) (v := .int (nI K)) (C := RX1) (T := TX1) (N := 14) hx hb hts hw0 hown hK hP 0 rfl rfl 0 (by decide) (hts (.fieldLink RX1 35 "DropCodeModel" "words" "I") (by decide +kernel)) (fun _ h9 => h9) rfl dX1_draw_24 ?_
      refine lv_icmp_ge (tgt := 54) hx hb dX1_draw_27 (by decide) (fun c1 => ?_) (fun c1 => ?_)
      · skip
        have hdK : ¬ d < K := fun a => absurd c1 (nI_ge a (by omega))
        have hdd : d = dg K (dr (ns seed)) := by rw [← hv, dgF_out (fun h => hdK h.1)]
        rw [hdd] at hl
        refine lv_iconst (v := 0) hx hb dX1_draw_54 (by decide) ?_
        refine lv_istore (lv' := [(5, .int 0), (4, .int (nI (dg K (dr (ns seed))))), (3, .int (nI sum)), (2, .int (nI (dr (ns seed)))), (0, .ref (ad 0))]) hx hb dX1_draw_55 hl (by decide) rfl (fun ls hl => ?_)
        exact kB K 0 inn _ _ ls (by omega) (fun j hj => absurd hj (by omega)) hP hD hS (lv_sub hl [0, 1, 4] rfl)
      · skip
        have hdK : d < K := by rcases Nat.lt_or_ge d K with a | a; exact a; exact absurd (nI_le a (by omega)) c1
        refine lv_iload_n hx hb dX1_draw_30 rfl (lv_at hl 2 rfl) ?_
        refine lv_iload_n hx hb dX1_draw_31 rfl (lv_at hl 1 rfl) ?_
        refine lv_icmp_lt (tgt := 54) hx hb dX1_draw_32 (by decide) (fun c2 => ?_) (fun c2 => ?_)
        · skip
          have hsq : ¬ sum ≤ dr (ns seed) := fun a => absurd c2 (nI_nlt a (by omega))
          have hdd : d = dg K (dr (ns seed)) := by rw [← hv, dgF_out (fun h => hsq h.2)]
          rw [hdd] at hl
          refine lv_iconst (v := 0) hx hb dX1_draw_54 (by decide) ?_
          refine lv_istore (lv' := [(5, .int 0), (4, .int (nI (dg K (dr (ns seed))))), (3, .int (nI sum)), (2, .int (nI (dr (ns seed)))), (0, .ref (ad 0))]) hx hb dX1_draw_55 hl (by decide) rfl (fun ls hl => ?_)
          exact kB K 0 inn _ _ ls (by omega) (fun j hj => absurd hj (by omega)) hP hD hS (lv_sub hl [0, 1, 4] rfl)
        · skip
          have hsq : sum ≤ dr (ns seed) := by rcases Nat.lt_or_ge (dr (ns seed)) sum with a | a; exact absurd (nI_lt a (by omega)) c2; exact a
          refine lv_iinc (v := nI (d + 1)) (lv' := [(4, .int (nI (d + 1))), (3, .int (nI sum)), (2, .int (nI (dr (ns seed)))), (0, .ref (ad 0))]) hx hb dX1_draw_35 hl (k := 0) rfl (nI_1 d) (by decide) rfl (fun ls hl => ?_)
          refine lv_iload_n hx hb dX1_draw_38 rfl (lv_at hl 1 rfl) ?_
          refine lv_ldc hx hb hown (hts (.constant RX1 48 (65536)) (by decide +kernel)) dX1_draw_39 ?_
          refine lv_iload hx hb dX1_draw_41 (lv_at hl 0 rfl) ?_
          refine lv_iload hx hb dX1_draw_43 (lv_at hl 0 rfl) ?_
          refine lv_iconst (v := 1) hx hb dX1_draw_45 (by decide) ?_
          refine lv_isub hx hb dX1_draw_46 ?_
          refine lv_topi (fun z_3 ez_3 => ?_)
          have ez_3 : z_3 = nI d := ez_3.trans (nI_pred d)
          subst ez_3
          refine lv_imul hx hb dX1_draw_47 ?_
          refine lv_topi (fun z_4 ez_4 => ?_)
          have ez_4 : z_4 = nI ((d + 1) * d) := ez_4.trans (pk_mul _ _)
          subst ez_4
          refine lv_idiv hx hb dX1_draw_48 (dg_ne d hd1 (by omega)) ?_
          refine lv_topi (fun z_5 ez_5 => ?_)
          have ez_5 : z_5 = nI (65536 / ((d + 1) * d)) := ez_5.trans (pk_div (a := 65536) (by omega) (dg_pos d hd1) (dg_sm d (by omega)))
          subst ez_5
          refine lv_iadd hx hb dX1_draw_49 ?_
          refine lv_topi (fun z_6 ez_6 => ?_)
          have ez_6 : z_6 = nI (sum + 65536 / ((d + 1) * d)) := ez_6.trans (nI_add _ _)
          subst ez_6
          refine lv_istore_n (lv' := [(3, .int (nI (sum + 65536 / ((d + 1) * d)))), (4, .int (nI (d + 1))), (2, .int (nI (dr (ns seed)))), (0, .ref (ad 0))]) hx hb dX1_draw_50 rfl hl (by decide) rfl (fun ls hl => ?_)
          refine lv_goto (tgt := 21) hx hb dX1_draw_51 (by decide) ?_
          exact ih (d + 1) (sum + 65536 / ((d + 1) * d)) ls (by omega) hdK (by omega) (dg_sum d sum hd1 hsum) (by rw [← hv, dgF_in hdK hsq]) (lv_sub hl [1, 0, 2, 3] rfl)
  exact kA K 1 (65536 / K) ls (Nat.le_refl 1) hK1 (by omega) (dg_s0 K) rfl (lv_sub hl [0, 1, 2, 3] rfl)
set_option maxHeartbeats 4000000 in
set_option maxRecDepth 100000 in
theorem c_X1_degree (l : Launch) (dC : Nat → ClassId) (dI : Nat → Nat → Nat) (sz : Nat) (ad : Nat → Nat) (cI cZ : ClassId) (K : Nat) (row : Nat → Int32) (cm : Int32) (sd : Nat → Int32) (vl : Nat → Int32) (wt : Nat → Int32) (tn : Int32) (kn : Nat → Int32) (tl : Nat → Int32) (od : Nat → Int32) (fd : Int32) (cl : Int32) (inn : Nat → Int32) (stt : Int32) (hK1 : 1 ≤ K) (hK2 : K ≤ 32) (seed : Int32) : Met l yX1_degree wsX1_degree ({ frames := 2, cells := 0, slots := 0, locals := 46 }) (va_Pc [.ref (ad 0), .int seed] (wB dC dI [(cI, .int), (cZ, .boolean)] sz (rW ad cI cZ K row cm sd vl wt tn kn tl od fd cl inn stt))) (va_Qi (fun r (u : (Nat → Int32) × Int32) => r = nI (dg K (dr (ns seed)))) (fun u => oB dC dI [(cI, .int), (cZ, .boolean)] (va_A (rW ad cI cZ K row cm sd vl wt tn kn tl od fd cl inn stt) sz) (rW ad cI cZ K row cm sd vl wt tn kn tl od fd cl u.1 u.2)) (va_A (rW ad cI cZ K row cm sd vl wt tn kn tl od fd cl inn stt) sz)) 0 0 (va_A (rW ad cI cZ K row cm sd vl wt tn kn tl od fd cl inn stt) sz) := by
  refine Met.ofW (cc := cX1_degree) (maxL := 2) (ret := (some .int)) (by decide) rfl ?_
  intro p e s m args below meth c s₁ B hml hv
  obtain ⟨rfl, hsz, hP, hK, hD0⟩ := hv
  have hx := B.exec
  have hb := B.bytes
  have hr := B.returns
  have hts := atoms_spec (ws := wsX1_degree) B.pre
  have hown : s.vm.findClass RX1 = some m.cls := findClass_of_methodNamed B.named
  have hlocks := B.notSynchronized
  have hw0 : ∀ w ∈ wsX10, w ∈ wsX1_degree := fun _ h => List.mem_cons_of_mem _ (List.mem_append_right _ h)
  subst hsz
  have hD := hD0.self (sz := s.heap.size)
  generalize hAe : va_A (rW ad cI cZ K row cm sd vl wt tn kn tl od fd cl inn stt) s.heap.size = A at hD ⊢
  have hA : ∀ q : Nat, s.heap.size ≤ q → A q := fun q h => by rw [← hAe]; exact Or.inr h
  have hS : va_S A s.heap s.heap [] := va_S.rf
  have hP : va_P (dC, dI) vwCl (rW ad cI cZ K row cm sd vl wt tn kn tl od fd cl inn stt) s.heap := hP
  have hl := lv_entry ([.ref (ad 0), .int seed]) (n := 2) (Nat.le_of_ble_eq_true rfl)
  rw [lg_entry_eq]
  generalize (lg_sl ([.ref (ad 0), .int seed]) ++ List.replicate (2 - (lg_sl ([.ref (ad 0), .int seed])).length) Slot.unset).toArray = ls at hl ⊢
  have hl : lv_has ls 2 [(0, .ref (ad 0)), (1, .int seed)] := hl
  refine lv_aload_n hx hb dX1_degree_0 rfl (lv_at hl 0 rfl) ?_
  refine lv_iload_n hx hb dX1_degree_1 rfl (lv_at hl 1 rfl) ?_
  have hFc := va_free (wc := (rW ad cI cZ K row cm sd vl wt tn kn tl od fd cl inn stt)) hD hS hA [0, 1, 2, 3, 4, 5, 6, 7, 8] rfl
  refine va_calli (va_runV (As := [.int seed]) (rest := []) ⟨hx, hb, hml, hown, hts⟩ (c_X1_draw l dC dI s.heap.size ad cI cZ K row cm sd vl wt tn kn tl od fd cl inn stt hK1 hK2 seed) (cwV 1 hts gX1_degree_X1_draw rfl rfl rfl (by decide +kernel) ⟨Nat.le_of_ble_eq_true rfl, Nat.le_of_ble_eq_true rfl⟩) ⟨wFb, va_recv hK hP (ci := 1) (q0 := 0) rfl rfl, fun U hU hW => ⟨rfl, by rw [hU], by rw [hU]; exact hP, va_K.moved hW.alike hK, hD.weaken (fun _ _ _ _ => trivial)⟩⟩ rfl rfl hl.1 rfl (lv_room (Nat.le_of_ble_eq_true rfl)) dX1_degree_2 ⟨Nat.le_of_ble_eq_true rfl, Nat.le_of_ble_eq_true rfl⟩) hS (fun q _ h => hFc q h) hFc (fun r_1 u_2 t H1 locs ht hvm hwu_2 hB hz1 hk1 hS => ?_)
  obtain ⟨hP1, hK1, hD1⟩ := hB
  rw [ht] at hP1
  obtain ⟨hP, hD⟩ := va_join (wr := []) (w1 := (rW ad cI cZ K row cm sd vl wt tn kn tl od fd cl u_2.1 u_2.2)) hP hD [0, 1, 2, 3, 4, 5, 6, 7, 8] [] rfl rfl (by decide) (by decide) hk1 hFc hP1 hD1
  clear hP1 hD1 hK1 hFc hk1 hz1
  generalize H1 = H at hP hS ⊢
  have hP : va_P (dC, dI) vwCl (rW ad cI cZ K row cm sd vl wt tn kn tl od fd cl u_2.1 u_2.2) H := hP
  have hD : va_D A (rW ad cI cZ K row cm sd vl wt tn kn tl od fd cl u_2.1 u_2.2) := hD
  obtain ⟨rfl, hinu_2⟩ := hwu_2
  exact W.iret (v := nI (dg K (dr (ns seed)))) hx hb hr (fun t ht hW => ⟨⟨nI (dg K (dr (ns seed))), u_2, rfl, rfl, by rw [ht]; exact hP, va_K.moved hW.alike hK, hD⟩, hS.F ht⟩) hS.2.2 dX1_degree_5
set_option maxHeartbeats 4000000 in
set_option maxRecDepth 100000 in
theorem c_X1_set (l : Launch) (dC : Nat → ClassId) (dI : Nat → Nat → Nat) (sz : Nat) (ad : Nat → Nat) (cI cZ : ClassId) (K : Nat) (row : Nat → Int32) (cm : Int32) (sd : Nat → Int32) (vl : Nat → Int32) (wt : Nat → Int32) (tn : Int32) (kn : Nat → Int32) (tl : Nat → Int32) (od : Nat → Int32) (fd : Int32) (cl : Int32) (inn : Nat → Int32) (stt : Int32) (hK1 : 1 ≤ K) (hK2 : K ≤ 32) (seed : Int32) : Met l yX1_set wsX1_set ({ frames := 2, cells := 0, slots := 0, locals := 46 }) (va_Pc [.ref (ad 0), .int seed] (wB dC dI [(cI, .int), (cZ, .boolean)] sz (rW ad cI cZ K row cm sd vl wt tn kn tl od fd cl inn stt))) (va_Qi (fun r (u : (Nat → Int32) × Int32) => r = setA K seed) (fun u => oB dC dI [(cI, .int), (cZ, .boolean)] (va_A (rW ad cI cZ K row cm sd vl wt tn kn tl od fd cl inn stt) sz) (rW ad cI cZ K row cm sd vl wt tn kn tl od fd cl u.1 u.2)) (va_A (rW ad cI cZ K row cm sd vl wt tn kn tl od fd cl inn stt) sz)) 0 0 (va_A (rW ad cI cZ K row cm sd vl wt tn kn tl od fd cl inn stt) sz) := by
  refine Met.ofW (cc := cX1_set) (maxL := 5) (ret := (some .int)) (by decide) rfl ?_
  intro p e s m args below meth c s₁ B hml hv
  obtain ⟨rfl, hsz, hP, hK, hD0⟩ := hv
  have hx := B.exec
  have hb := B.bytes
  have hr := B.returns
  have hts := atoms_spec (ws := wsX1_set) B.pre
  have hown : s.vm.findClass RX1 = some m.cls := findClass_of_methodNamed B.named
  have hlocks := B.notSynchronized
  have hw0 : ∀ w ∈ wsX10, w ∈ wsX1_set := fun _ h => List.mem_cons_of_mem _ (List.mem_append_right _ h)
  subst hsz
  have hD := hD0.self (sz := s.heap.size)
  generalize hAe : va_A (rW ad cI cZ K row cm sd vl wt tn kn tl od fd cl inn stt) s.heap.size = A at hD ⊢
  have hA : ∀ q : Nat, s.heap.size ≤ q → A q := fun q h => by rw [← hAe]; exact Or.inr h
  have hS : va_S A s.heap s.heap [] := va_S.rf
  have hP : va_P (dC, dI) vwCl (rW ad cI cZ K row cm sd vl wt tn kn tl od fd cl inn stt) s.heap := hP
  have hl := lv_entry ([.ref (ad 0), .int seed]) (n := 5) (Nat.le_of_ble_eq_true rfl)
  rw [lg_entry_eq]
  generalize (lg_sl ([.ref (ad 0), .int seed]) ++ List.replicate (5 - (lg_sl ([.ref (ad 0), .int seed])).length) Slot.unset).toArray = ls at hl ⊢
  have hl : lv_has ls 5 [(0, .ref (ad 0)), (1, .int seed)] := hl
  refine lv_aload_n hx hb dX1_set_0 rfl (lv_at hl 0 rfl) ?_
  refine lv_iload_n hx hb dX1_set_1 rfl (lv_at hl 1 rfl) ?_
  have hFc := va_free (wc := (rW ad cI cZ K row cm sd vl wt tn kn tl od fd cl inn stt)) hD hS hA [0, 1, 2, 3, 4, 5, 6, 7, 8] rfl
  refine va_calli (va_runV (As := [.int seed]) (rest := []) ⟨hx, hb, hml, hown, hts⟩ (c_X1_draw l dC dI s.heap.size ad cI cZ K row cm sd vl wt tn kn tl od fd cl inn stt hK1 hK2 seed) (cwV 1 hts gX1_set_X1_draw rfl rfl rfl (by decide +kernel) ⟨Nat.le_of_ble_eq_true rfl, Nat.le_of_ble_eq_true rfl⟩) ⟨wFb, va_recv hK hP (ci := 1) (q0 := 0) rfl rfl, fun U hU hW => ⟨rfl, by rw [hU], by rw [hU]; exact hP, va_K.moved hW.alike hK, hD.weaken (fun _ _ _ _ => trivial)⟩⟩ rfl rfl hl.1 rfl (lv_room (Nat.le_of_ble_eq_true rfl)) dX1_set_2 ⟨Nat.le_of_ble_eq_true rfl, Nat.le_of_ble_eq_true rfl⟩) hS (fun q _ h => hFc q h) hFc (fun r_1 u_2 t H1 locs ht hvm hwu_2 hB hz1 hk1 hS => ?_)
  obtain ⟨hP1, hK1, hD1⟩ := hB
  rw [ht] at hP1
  obtain ⟨hP, hD⟩ := va_join (wr := []) (w1 := (rW ad cI cZ K row cm sd vl wt tn kn tl od fd cl u_2.1 u_2.2)) hP hD [0, 1, 2, 3, 4, 5, 6, 7, 8] [] rfl rfl (by decide) (by decide) hk1 hFc hP1 hD1
  clear hP1 hD1 hK1 hFc hk1 hz1
  generalize H1 = H at hP hS ⊢
  have hP : va_P (dC, dI) vwCl (rW ad cI cZ K row cm sd vl wt tn kn tl od fd cl u_2.1 u_2.2) H := hP
  have hD : va_D A (rW ad cI cZ K row cm sd vl wt tn kn tl od fd cl u_2.1 u_2.2) := hD
  obtain ⟨rfl, hinu_2⟩ := hwu_2
  refine lv_istore_n (lv' := [(2, .int (nI (dg K (dr (ns seed))))), (0, .ref (ad 0)), (1, .int seed)]) hx hb dX1_set_5 rfl hl (by decide) rfl (fun ls hl => ?_)
  refine lv_iconst (v := 0) hx hb dX1_set_6 (by decide) ?_
  refine lv_istore_n (lv' := [(3, .int 0), (2, .int (nI (dg K (dr (ns seed))))), (0, .ref (ad 0)), (1, .int seed)]) hx hb dX1_set_7 rfl hl (by decide) rfl (fun ls hl => ?_)
  refine lv_iconst (v := 0) hx hb dX1_set_8 (by decide) ?_
  refine lv_istore (lv' := [(4, .int 0), (3, .int 0), (2, .int (nI (dg K (dr (ns seed))))), (0, .ref (ad 0)), (1, .int seed)]) hx hb dX1_set_9 hl (by decide) rfl (fun ls hl => ?_)
  have hbl : ∀ i, bt (setA K seed) i = true → i < K := fun i h => setA_lt hK1 hK2 _ h
  have key : ∀ (m9 i : Nat) (ls : Array Slot), K = i + m9 → lv_has ls 5 [(4, .int (nI i)), (3, .int (sbF (setA K seed) i)), (0, .ref (ad 0)), (1, .int seed)] → W p l e (headSpec wsX1_set ({ frames := 2, cells := 0, slots := 0, locals := 46 })).room s m ([.ref (ad 0), .int seed] : List Value).toArray below meth c H locs 0 0 (MQ below (va_Qi (fun r (u : (Nat → Int32) × Int32) => r = setA K seed) (fun u => oB dC dI [(cI, .int), (cZ, .boolean)] A (rW ad cI cZ K row cm sd vl wt tn kn tl od fd cl u.1 u.2)) A) ([.ref (ad 0), .int seed] : List Value).toArray s 0 0 A) (F0 m 11 ls []) := by
    intro m9
    induction m9 with
    | zero =>
      intro i ls hi hl
      have hiK : K = i := by omega
      refine lv_iload hx hb dX1_set_11 (lv_at hl 0 rfl) ?_
      refine lv_aload_n hx hb dX1_set_13 rfl (lv_at hl 2 rfl) ?_
      refine va_get (D := (dC, dI)) (ci := 1) (v := .int (nI K)) (C := RX1) (T := TX1) (N := 14) hx hb hts hw0 hown hK hP 0 rfl rfl 0 (by decide) (hts (.fieldLink RX1 35 "DropCodeModel" "words" "I") (by decide +kernel)) (fun _ h9 => h9) rfl dX1_set_14 ?_
      refine lv_icmp_ge (tgt := 47) hx hb dX1_set_17 (by decide) (fun c1 => ?_) (fun c1 => ?_)
      · skip
        refine lv_iload_n hx hb dX1_set_47 rfl (lv_at hl 1 rfl) ?_
        exact W.iret (v := sbF (setA K seed) i) hx hb hr (fun t ht hW => ⟨⟨sbF (setA K seed) i, u_2, rfl, by rw [← hiK]; exact sbF_all hK2 hbl, by rw [ht]; exact hP, va_K.moved hW.alike hK, hD⟩, hS.F ht⟩) hS.2.2 dX1_set_48
      · skip
        exact absurd (nI_le (by omega) (by omega)) c1
    | succ m9 ih =>
      intro i ls hi hl
      have hiK : i < K := by omega
      have hi32 : i < 32 := by omega
      refine lv_iload hx hb dX1_set_11 (lv_at hl 0 rfl) ?_
      refine lv_aload_n hx hb dX1_set_13 rfl (lv_at hl 2 rfl) ?_
      refine va_get (D := (dC, dI)) (ci := 1) (v := .int (nI K)) (C := RX1) (T := TX1) (N := 14) hx hb hts hw0 hown hK hP 0 rfl rfl 0 (by decide) (hts (.fieldLink RX1 35 "DropCodeModel" "words" "I") (by decide +kernel)) (fun _ h9 => h9) rfl dX1_set_14 ?_
      refine lv_icmp_ge (tgt := 47) hx hb dX1_set_17 (by decide) (fun c1 => ?_) (fun c1 => ?_)
      · skip
        exact absurd c1 (nI_ge hiK (by omega))
      · skip
        refine lv_iload_n hx hb dX1_set_20 rfl (lv_at hl 1 rfl) ?_
        refine lv_aload_n hx hb dX1_set_21 rfl (lv_at hl 2 rfl) ?_
        refine va_get (D := (dC, dI)) (ci := 1) (v := .ref (ad 8)) (C := RX1) (T := TX1) (N := 14) hx hb hts hw0 hown hK hP 0 rfl rfl 12 (by decide) (hts (.fieldLink RX1 32 "DropCodeModel" "in" "[Z") (by decide +kernel)) (fun _ h9 => h9) rfl dX1_set_22 ?_
        refine lv_iload hx hb dX1_set_25 (lv_at hl 0 rfl) ?_
        refine va_zald (i := nI i) hx hb hK hP 8 1 rfl rfl (vp_in_nI hi32 (by omega)) dX1_set_27 ?_
        rw [nI_clamp (by omega)]
        refine lv_topi (fun z_3 ez_3 => ?_)
        have ez_3 : z_3 = bI (bt (setA K seed) i) := ez_3.trans (hinu_2 i hiK)
        subst ez_3
        cases hbi : bt (setA K seed) i with
        | false =>
          rw [bI_f]
          refine lv_if_eq (tgt := 38) hx hb dX1_set_28 (by decide) (fun c_4 => ?_) (fun c_4 => ?_)
          · skip
            refine lv_iconst (v := 0) hx hb dX1_set_38 (by decide) ?_
            refine lv_ior hx hb dX1_set_39 ?_
            refine lv_topi (fun z_5 ez_5 => ?_)
            have ez_5 : z_5 = sbF (setA K seed) (i + 1) := ez_5.trans (by rw [sbF, hbi, if_neg Bool.false_ne_true])
            subst ez_5
            refine lv_istore_n (lv' := [(3, .int (sbF (setA K seed) (i + 1))), (4, .int (nI i)), (0, .ref (ad 0)), (1, .int seed)]) hx hb dX1_set_40 rfl hl (by decide) rfl (fun ls hl => ?_)
            refine lv_iinc (v := nI (i + 1)) (lv' := [(4, .int (nI (i + 1))), (3, .int (sbF (setA K seed) (i + 1))), (0, .ref (ad 0)), (1, .int seed)]) hx hb dX1_set_41 hl (k := 1) rfl (nI_1 i) (by decide) rfl (fun ls hl => ?_)
            refine lv_goto (tgt := 11) hx hb dX1_set_44 (by decide) ?_
            exact ih (i + 1) ls (by omega) (lv_sub hl [0, 1, 2, 3] rfl)
          · skip
            exact absurd rfl c_4
        | true =>
          rw [bI_t]
          refine lv_if_eq (tgt := 38) hx hb dX1_set_28 (by decide) (fun c_4 => ?_) (fun c_4 => ?_)
          · skip
            exact absurd c_4 (by decide)
          · skip
            refine lv_iconst (v := 1) hx hb dX1_set_31 (by decide) ?_
            refine lv_iload hx hb dX1_set_32 (lv_at hl 0 rfl) ?_
            refine lv_ishl hx hb dX1_set_34 ?_
            refine lv_topi (fun z_5 ez_5 => ?_)
            have ez_5 : z_5 = tw i := ez_5.trans (rfl)
            subst ez_5
            refine lv_goto (tgt := 39) hx hb dX1_set_35 (by decide) ?_
            refine lv_ior hx hb dX1_set_39 ?_
            refine lv_topi (fun z_6 ez_6 => ?_)
            have ez_6 : z_6 = sbF (setA K seed) (i + 1) := ez_6.trans (by rw [sbF, hbi, if_pos rfl])
            subst ez_6
            refine lv_istore_n (lv' := [(3, .int (sbF (setA K seed) (i + 1))), (4, .int (nI i)), (0, .ref (ad 0)), (1, .int seed)]) hx hb dX1_set_40 rfl hl (by decide) rfl (fun ls hl => ?_)
            refine lv_iinc (v := nI (i + 1)) (lv' := [(4, .int (nI (i + 1))), (3, .int (sbF (setA K seed) (i + 1))), (0, .ref (ad 0)), (1, .int seed)]) hx hb dX1_set_41 hl (k := 1) rfl (nI_1 i) (by decide) rfl (fun ls hl => ?_)
            refine lv_goto (tgt := 11) hx hb dX1_set_44 (by decide) ?_
            exact ih (i + 1) ls (by omega) (lv_sub hl [0, 1, 2, 3] rfl)
  exact key K 0 ls (by omega) (lv_sub hl [0, 1, 3, 4] rfl)
set_option maxHeartbeats 4000000 in
set_option maxRecDepth 100000 in
theorem c_X1_drop (l : Launch) (dC : Nat → ClassId) (dI : Nat → Nat → Nat) (sz : Nat) (ad : Nat → Nat) (cI cZ : ClassId) (K : Nat) (row : Nat → Int32) (cm : Int32) (sd : Nat → Int32) (vl : Nat → Int32) (wt : Nat → Int32) (tn : Int32) (kn : Nat → Int32) (tl : Nat → Int32) (od : Nat → Int32) (fd : Int32) (cl : Int32) (inn : Nat → Int32) (stt : Int32) (hK1 : 1 ≤ K) (hK2 : K ≤ 32) (seed : Int32) : Met l yX1_drop wsX1_drop ({ frames := 2, cells := 0, slots := 0, locals := 46 }) (va_Pc [.ref (ad 0), .int seed] (wB dC dI [(cI, .int), (cZ, .boolean)] sz (rW ad cI cZ K row cm sd vl wt tn kn tl od fd cl inn stt))) (va_Qi (fun r (u : (Nat → Int32) × Int32) => r = xf row (setA K seed) K) (fun u => oB dC dI [(cI, .int), (cZ, .boolean)] (va_A (rW ad cI cZ K row cm sd vl wt tn kn tl od fd cl inn stt) sz) (rW ad cI cZ K row cm sd vl wt tn kn tl od fd cl u.1 u.2)) (va_A (rW ad cI cZ K row cm sd vl wt tn kn tl od fd cl inn stt) sz)) 0 0 (va_A (rW ad cI cZ K row cm sd vl wt tn kn tl od fd cl inn stt) sz) := by
  refine Met.ofW (cc := cX1_drop) (maxL := 5) (ret := (some .int)) (by decide) rfl ?_
  intro p e s m args below meth c s₁ B hml hv
  obtain ⟨rfl, hsz, hP, hK, hD0⟩ := hv
  have hx := B.exec
  have hb := B.bytes
  have hr := B.returns
  have hts := atoms_spec (ws := wsX1_drop) B.pre
  have hown : s.vm.findClass RX1 = some m.cls := findClass_of_methodNamed B.named
  have hlocks := B.notSynchronized
  have hw0 : ∀ w ∈ wsX10, w ∈ wsX1_drop := fun _ h => List.mem_cons_of_mem _ (List.mem_append_right _ h)
  subst hsz
  have hD := hD0.self (sz := s.heap.size)
  generalize hAe : va_A (rW ad cI cZ K row cm sd vl wt tn kn tl od fd cl inn stt) s.heap.size = A at hD ⊢
  have hA : ∀ q : Nat, s.heap.size ≤ q → A q := fun q h => by rw [← hAe]; exact Or.inr h
  have hS : va_S A s.heap s.heap [] := va_S.rf
  have hP : va_P (dC, dI) vwCl (rW ad cI cZ K row cm sd vl wt tn kn tl od fd cl inn stt) s.heap := hP
  have hl := lv_entry ([.ref (ad 0), .int seed]) (n := 5) (Nat.le_of_ble_eq_true rfl)
  rw [lg_entry_eq]
  generalize (lg_sl ([.ref (ad 0), .int seed]) ++ List.replicate (5 - (lg_sl ([.ref (ad 0), .int seed])).length) Slot.unset).toArray = ls at hl ⊢
  have hl : lv_has ls 5 [(0, .ref (ad 0)), (1, .int seed)] := hl
  refine lv_aload_n hx hb dX1_drop_0 rfl (lv_at hl 0 rfl) ?_
  refine lv_iload_n hx hb dX1_drop_1 rfl (lv_at hl 1 rfl) ?_
  have hFc := va_free (wc := (rW ad cI cZ K row cm sd vl wt tn kn tl od fd cl inn stt)) hD hS hA [0, 1, 2, 3, 4, 5, 6, 7, 8] rfl
  refine va_calli (va_runV (As := [.int seed]) (rest := []) ⟨hx, hb, hml, hown, hts⟩ (c_X1_draw l dC dI s.heap.size ad cI cZ K row cm sd vl wt tn kn tl od fd cl inn stt hK1 hK2 seed) (cwV 1 hts gX1_drop_X1_draw rfl rfl rfl (by decide +kernel) ⟨Nat.le_of_ble_eq_true rfl, Nat.le_of_ble_eq_true rfl⟩) ⟨wFb, va_recv hK hP (ci := 1) (q0 := 0) rfl rfl, fun U hU hW => ⟨rfl, by rw [hU], by rw [hU]; exact hP, va_K.moved hW.alike hK, hD.weaken (fun _ _ _ _ => trivial)⟩⟩ rfl rfl hl.1 rfl (lv_room (Nat.le_of_ble_eq_true rfl)) dX1_drop_2 ⟨Nat.le_of_ble_eq_true rfl, Nat.le_of_ble_eq_true rfl⟩) hS (fun q _ h => hFc q h) hFc (fun r_1 u_2 t H1 locs ht hvm hwu_2 hB hz1 hk1 hS => ?_)
  obtain ⟨hP1, hK1, hD1⟩ := hB
  rw [ht] at hP1
  obtain ⟨hP, hD⟩ := va_join (wr := []) (w1 := (rW ad cI cZ K row cm sd vl wt tn kn tl od fd cl u_2.1 u_2.2)) hP hD [0, 1, 2, 3, 4, 5, 6, 7, 8] [] rfl rfl (by decide) (by decide) hk1 hFc hP1 hD1
  clear hP1 hD1 hK1 hFc hk1 hz1
  generalize H1 = H at hP hS ⊢
  have hP : va_P (dC, dI) vwCl (rW ad cI cZ K row cm sd vl wt tn kn tl od fd cl u_2.1 u_2.2) H := hP
  have hD : va_D A (rW ad cI cZ K row cm sd vl wt tn kn tl od fd cl u_2.1 u_2.2) := hD
  obtain ⟨rfl, hinu_2⟩ := hwu_2
  refine lv_istore_n (lv' := [(2, .int (nI (dg K (dr (ns seed))))), (0, .ref (ad 0)), (1, .int seed)]) hx hb dX1_drop_5 rfl hl (by decide) rfl (fun ls hl => ?_)
  refine lv_iconst (v := 0) hx hb dX1_drop_6 (by decide) ?_
  refine lv_istore_n (lv' := [(3, .int 0), (2, .int (nI (dg K (dr (ns seed))))), (0, .ref (ad 0)), (1, .int seed)]) hx hb dX1_drop_7 rfl hl (by decide) rfl (fun ls hl => ?_)
  refine lv_iconst (v := 0) hx hb dX1_drop_8 (by decide) ?_
  refine lv_istore (lv' := [(4, .int 0), (3, .int 0), (2, .int (nI (dg K (dr (ns seed))))), (0, .ref (ad 0)), (1, .int seed)]) hx hb dX1_drop_9 hl (by decide) rfl (fun ls hl => ?_)
  have hbl : ∀ i, bt (setA K seed) i = true → i < K := fun i h => setA_lt hK1 hK2 _ h
  have key : ∀ (m9 i : Nat) (ls : Array Slot), K = i + m9 → lv_has ls 5 [(4, .int (nI i)), (3, .int (xf row (setA K seed) i)), (0, .ref (ad 0)), (1, .int seed)] → W p l e (headSpec wsX1_drop ({ frames := 2, cells := 0, slots := 0, locals := 46 })).room s m ([.ref (ad 0), .int seed] : List Value).toArray below meth c H locs 0 0 (MQ below (va_Qi (fun r (u : (Nat → Int32) × Int32) => r = xf row (setA K seed) K) (fun u => oB dC dI [(cI, .int), (cZ, .boolean)] A (rW ad cI cZ K row cm sd vl wt tn kn tl od fd cl u.1 u.2)) A) ([.ref (ad 0), .int seed] : List Value).toArray s 0 0 A) (F0 m 11 ls []) := by
    intro m9
    induction m9 with
    | zero =>
      intro i ls hi hl
      have hiK : K = i := by omega
      refine lv_iload hx hb dX1_drop_11 (lv_at hl 0 rfl) ?_
      refine lv_aload_n hx hb dX1_drop_13 rfl (lv_at hl 2 rfl) ?_
      refine va_get (D := (dC, dI)) (ci := 1) (v := .int (nI K)) (C := RX1) (T := TX1) (N := 14) hx hb hts hw0 hown hK hP 0 rfl rfl 0 (by decide) (hts (.fieldLink RX1 35 "DropCodeModel" "words" "I") (by decide +kernel)) (fun _ h9 => h9) rfl dX1_drop_14 ?_
      refine lv_icmp_ge (tgt := 50) hx hb dX1_drop_17 (by decide) (fun c1 => ?_) (fun c1 => ?_)
      · skip
        refine lv_iload_n hx hb dX1_drop_50 rfl (lv_at hl 1 rfl) ?_
        exact W.iret (v := xf row (setA K seed) i) hx hb hr (fun t ht hW => ⟨⟨xf row (setA K seed) i, u_2, rfl, by rw [hiK], by rw [ht]; exact hP, va_K.moved hW.alike hK, hD⟩, hS.F ht⟩) hS.2.2 dX1_drop_51
      · skip
        exact absurd (nI_le (by omega) (by omega)) c1
    | succ m9 ih =>
      intro i ls hi hl
      have hiK : i < K := by omega
      have hi32 : i < 32 := by omega
      refine lv_iload hx hb dX1_drop_11 (lv_at hl 0 rfl) ?_
      refine lv_aload_n hx hb dX1_drop_13 rfl (lv_at hl 2 rfl) ?_
      refine va_get (D := (dC, dI)) (ci := 1) (v := .int (nI K)) (C := RX1) (T := TX1) (N := 14) hx hb hts hw0 hown hK hP 0 rfl rfl 0 (by decide) (hts (.fieldLink RX1 35 "DropCodeModel" "words" "I") (by decide +kernel)) (fun _ h9 => h9) rfl dX1_drop_14 ?_
      refine lv_icmp_ge (tgt := 50) hx hb dX1_drop_17 (by decide) (fun c1 => ?_) (fun c1 => ?_)
      · skip
        exact absurd c1 (nI_ge hiK (by omega))
      · skip
        refine lv_iload_n hx hb dX1_drop_20 rfl (lv_at hl 1 rfl) ?_
        refine lv_aload_n hx hb dX1_drop_21 rfl (lv_at hl 2 rfl) ?_
        refine va_get (D := (dC, dI)) (ci := 1) (v := .ref (ad 8)) (C := RX1) (T := TX1) (N := 14) hx hb hts hw0 hown hK hP 0 rfl rfl 12 (by decide) (hts (.fieldLink RX1 32 "DropCodeModel" "in" "[Z") (by decide +kernel)) (fun _ h9 => h9) rfl dX1_drop_22 ?_
        refine lv_iload hx hb dX1_drop_25 (lv_at hl 0 rfl) ?_
        refine va_zald (i := nI i) hx hb hK hP 8 1 rfl rfl (vp_in_nI hi32 (by omega)) dX1_drop_27 ?_
        rw [nI_clamp (by omega)]
        refine lv_topi (fun z_3 ez_3 => ?_)
        have ez_3 : z_3 = bI (bt (setA K seed) i) := ez_3.trans (hinu_2 i hiK)
        subst ez_3
        cases hbi : bt (setA K seed) i with
        | false =>
          rw [bI_f]
          refine lv_if_eq (tgt := 41) hx hb dX1_drop_28 (by decide) (fun c_4 => ?_) (fun c_4 => ?_)
          · skip
            refine lv_iconst (v := 0) hx hb dX1_drop_41 (by decide) ?_
            refine lv_ixor hx hb dX1_drop_42 ?_
            refine lv_topi (fun z_5 ez_5 => ?_)
            have ez_5 : z_5 = xf row (setA K seed) (i + 1) := ez_5.trans (by rw [xf, hbi, if_neg Bool.false_ne_true, xor0])
            subst ez_5
            refine lv_istore_n (lv' := [(3, .int (xf row (setA K seed) (i + 1))), (4, .int (nI i)), (0, .ref (ad 0)), (1, .int seed)]) hx hb dX1_drop_43 rfl hl (by decide) rfl (fun ls hl => ?_)
            refine lv_iinc (v := nI (i + 1)) (lv' := [(4, .int (nI (i + 1))), (3, .int (xf row (setA K seed) (i + 1))), (0, .ref (ad 0)), (1, .int seed)]) hx hb dX1_drop_44 hl (k := 1) rfl (nI_1 i) (by decide) rfl (fun ls hl => ?_)
            refine lv_goto (tgt := 11) hx hb dX1_drop_47 (by decide) ?_
            exact ih (i + 1) ls (by omega) (lv_sub hl [0, 1, 2, 3] rfl)
          · skip
            exact absurd rfl c_4
        | true =>
          rw [bI_t]
          refine lv_if_eq (tgt := 41) hx hb dX1_drop_28 (by decide) (fun c_4 => ?_) (fun c_4 => ?_)
          · skip
            exact absurd c_4 (by decide)
          · skip
            refine lv_aload_n hx hb dX1_drop_31 rfl (lv_at hl 2 rfl) ?_
            refine va_get (D := (dC, dI)) (ci := 1) (v := .ref (ad 1)) (C := RX1) (T := TX1) (N := 14) hx hb hts hw0 hown hK hP 0 rfl rfl 1 (by decide) (hts (.fieldLink RX1 7 "DropCodeModel" "row" "[I") (by decide +kernel)) (fun _ h9 => h9) rfl dX1_drop_32 ?_
            refine lv_iload hx hb dX1_drop_35 (lv_at hl 0 rfl) ?_
            refine va_iald (i := nI i) hx hb hK hP 1 0 rfl rfl (vp_in_nI hi32 (by omega)) dX1_drop_37 ?_
            rw [nI_clamp (by omega)]
            refine lv_goto (tgt := 42) hx hb dX1_drop_38 (by decide) ?_
            refine lv_ixor hx hb dX1_drop_42 ?_
            refine lv_topi (fun z_5 ez_5 => ?_)
            have ez_5 : z_5 = xf row (setA K seed) (i + 1) := ez_5.trans (by rw [xf, hbi, if_pos rfl])
            subst ez_5
            refine lv_istore_n (lv' := [(3, .int (xf row (setA K seed) (i + 1))), (4, .int (nI i)), (0, .ref (ad 0)), (1, .int seed)]) hx hb dX1_drop_43 rfl hl (by decide) rfl (fun ls hl => ?_)
            refine lv_iinc (v := nI (i + 1)) (lv' := [(4, .int (nI (i + 1))), (3, .int (xf row (setA K seed) (i + 1))), (0, .ref (ad 0)), (1, .int seed)]) hx hb dX1_drop_44 hl (k := 1) rfl (nI_1 i) (by decide) rfl (fun ls hl => ?_)
            refine lv_goto (tgt := 11) hx hb dX1_drop_47 (by decide) ?_
            exact ih (i + 1) ls (by omega) (lv_sub hl [0, 1, 2, 3] rfl)
  exact key K 0 ls (by omega) (lv_sub hl [0, 1, 3, 4] rfl)
set_option maxHeartbeats 4000000 in
set_option maxRecDepth 100000 in
theorem c_X1_isOpen (l : Launch) (dC : Nat → ClassId) (dI : Nat → Nat → Nat) (sz : Nat) (ad : Nat → Nat) (cI cZ : ClassId) (K : Nat) (row : Nat → Int32) (cm : Int32) (sd : Nat → Int32) (vl : Nat → Int32) (wt : Nat → Int32) (tn : Int32) (kn : Nat → Int32) (tl : Nat → Int32) (od : Nat → Int32) (fd : Int32) (cl : Int32) (inn : Nat → Int32) (stt : Int32) (hK1 : 1 ≤ K) (hK2 : K ≤ 32) (kb : Int32) (hkn : inF K kn kb) (j : Nat) (hj : j < 60) : Met l yX1_isOpen wsX1_isOpen ({ frames := 2, cells := 0, slots := 0, locals := 46 }) (va_Pc [.ref (ad 0), .int (nI j)] (wB dC dI [(cI, .int), (cZ, .boolean)] sz (rW ad cI cZ K row cm sd vl wt tn kn tl od fd cl inn stt))) (va_Qi (fun r (u : (Nat → Int32) × Int32) => r = nI (opn (setA K (sd j)) kb) ∧ inF K u.1 (setA K (sd j))) (fun u => oB dC dI [(cI, .int), (cZ, .boolean)] (va_A (rW ad cI cZ K row cm sd vl wt tn kn tl od fd cl inn stt) sz) (rW ad cI cZ K row cm sd vl wt tn kn tl od fd cl u.1 u.2)) (va_A (rW ad cI cZ K row cm sd vl wt tn kn tl od fd cl inn stt) sz)) 0 0 (va_A (rW ad cI cZ K row cm sd vl wt tn kn tl od fd cl inn stt) sz) := by
  refine Met.ofW (cc := cX1_isOpen) (maxL := 5) (ret := (some .int)) (by decide) rfl ?_
  intro p e s m args below meth c s₁ B hml hv
  obtain ⟨rfl, hsz, hP, hK, hD0⟩ := hv
  have hx := B.exec
  have hb := B.bytes
  have hr := B.returns
  have hts := atoms_spec (ws := wsX1_isOpen) B.pre
  have hown : s.vm.findClass RX1 = some m.cls := findClass_of_methodNamed B.named
  have hlocks := B.notSynchronized
  have hw0 : ∀ w ∈ wsX10, w ∈ wsX1_isOpen := fun _ h => List.mem_cons_of_mem _ (List.mem_append_right _ h)
  subst hsz
  have hD := hD0.self (sz := s.heap.size)
  generalize hAe : va_A (rW ad cI cZ K row cm sd vl wt tn kn tl od fd cl inn stt) s.heap.size = A at hD ⊢
  have hA : ∀ q : Nat, s.heap.size ≤ q → A q := fun q h => by rw [← hAe]; exact Or.inr h
  have hS : va_S A s.heap s.heap [] := va_S.rf
  have hP : va_P (dC, dI) vwCl (rW ad cI cZ K row cm sd vl wt tn kn tl od fd cl inn stt) s.heap := hP
  have hl := lv_entry ([.ref (ad 0), .int (nI j)]) (n := 5) (Nat.le_of_ble_eq_true rfl)
  rw [lg_entry_eq]
  generalize (lg_sl ([.ref (ad 0), .int (nI j)]) ++ List.replicate (5 - (lg_sl ([.ref (ad 0), .int (nI j)])).length) Slot.unset).toArray = ls at hl ⊢
  have hl : lv_has ls 5 [(0, .ref (ad 0)), (1, .int (nI j))] := hl
  refine lv_aload_n hx hb dX1_isOpen_0 rfl (lv_at hl 0 rfl) ?_
  refine lv_aload_n hx hb dX1_isOpen_1 rfl (lv_at hl 0 rfl) ?_
  refine va_get (D := (dC, dI)) (ci := 1) (v := .ref (ad 2)) (C := RX1) (T := TX1) (N := 14) hx hb hts hw0 hown hK hP 0 rfl rfl 3 (by decide) (hts (.fieldLink RX1 13 "DropCodeModel" "seeds" "[I") (by decide +kernel)) (fun _ h9 => h9) rfl dX1_isOpen_2 ?_
  refine lv_iload_n hx hb dX1_isOpen_5 rfl (lv_at hl 1 rfl) ?_
  refine va_iald (i := nI j) hx hb hK hP 2 0 rfl rfl (vp_in_nI hj (by omega)) dX1_isOpen_6 ?_
  rw [nI_clamp (by omega)]
  have hFc := va_free (wc := (rW ad cI cZ K row cm sd vl wt tn kn tl od fd cl inn stt)) hD hS hA [0, 1, 2, 3, 4, 5, 6, 7, 8] rfl
  refine va_calli (va_runV (As := [.int (sd j)]) (rest := []) ⟨hx, hb, hml, hown, hts⟩ (c_X1_draw l dC dI s.heap.size ad cI cZ K row cm sd vl wt tn kn tl od fd cl inn stt hK1 hK2 (sd j)) (cwV 1 hts gX1_isOpen_X1_draw rfl rfl rfl (by decide +kernel) ⟨Nat.le_of_ble_eq_true rfl, Nat.le_of_ble_eq_true rfl⟩) ⟨wFb, va_recv hK hP (ci := 1) (q0 := 0) rfl rfl, fun U hU hW => ⟨rfl, by rw [hU], by rw [hU]; exact hP, va_K.moved hW.alike hK, hD.weaken (fun _ _ _ _ => trivial)⟩⟩ rfl rfl hl.1 rfl (lv_room (Nat.le_of_ble_eq_true rfl)) dX1_isOpen_7 ⟨Nat.le_of_ble_eq_true rfl, Nat.le_of_ble_eq_true rfl⟩) hS (fun q _ h => hFc q h) hFc (fun r_1 u_2 t H1 locs ht hvm hwu_2 hB hz1 hk1 hS => ?_)
  obtain ⟨hP1, hK1, hD1⟩ := hB
  rw [ht] at hP1
  obtain ⟨hP, hD⟩ := va_join (wr := []) (w1 := (rW ad cI cZ K row cm sd vl wt tn kn tl od fd cl u_2.1 u_2.2)) hP hD [0, 1, 2, 3, 4, 5, 6, 7, 8] [] rfl rfl (by decide) (by decide) hk1 hFc hP1 hD1
  clear hP1 hD1 hK1 hFc hk1 hz1
  generalize H1 = H at hP hS ⊢
  have hP : va_P (dC, dI) vwCl (rW ad cI cZ K row cm sd vl wt tn kn tl od fd cl u_2.1 u_2.2) H := hP
  have hD : va_D A (rW ad cI cZ K row cm sd vl wt tn kn tl od fd cl u_2.1 u_2.2) := hD
  obtain ⟨rfl, hinu_2⟩ := hwu_2
  refine lv_istore_n (lv' := [(2, .int (nI (dg K (dr (ns (sd j)))))), (0, .ref (ad 0)), (1, .int (nI j))]) hx hb dX1_isOpen_10 rfl hl (by decide) rfl (fun ls hl => ?_)
  refine lv_iconst (v := 0) hx hb dX1_isOpen_11 (by decide) ?_
  refine lv_istore_n (lv' := [(3, .int 0), (2, .int (nI (dg K (dr (ns (sd j)))))), (0, .ref (ad 0)), (1, .int (nI j))]) hx hb dX1_isOpen_12 rfl hl (by decide) rfl (fun ls hl => ?_)
  refine lv_iconst (v := 0) hx hb dX1_isOpen_13 (by decide) ?_
  refine lv_istore (lv' := [(4, .int 0), (3, .int 0), (2, .int (nI (dg K (dr (ns (sd j)))))), (0, .ref (ad 0)), (1, .int (nI j))]) hx hb dX1_isOpen_14 hl (by decide) rfl (fun ls hl => ?_)
  have hbl : ∀ i, bt (setA K (sd j)) i = true → i < K := fun i h => setA_lt hK1 hK2 _ h
  have key : ∀ (m9 i : Nat) (ls : Array Slot), K = i + m9 → lv_has ls 5 [(4, .int (nI i)), (3, .int (nI (cn (bt (unk (setA K (sd j)) kb)) i))), (0, .ref (ad 0)), (1, .int (nI j))] → W p l e (headSpec wsX1_isOpen ({ frames := 2, cells := 0, slots := 0, locals := 46 })).room s m ([.ref (ad 0), .int (nI j)] : List Value).toArray below meth c H locs 0 0 (MQ below (va_Qi (fun r (u : (Nat → Int32) × Int32) => r = nI (opn (setA K (sd j)) kb) ∧ inF K u.1 (setA K (sd j))) (fun u => oB dC dI [(cI, .int), (cZ, .boolean)] A (rW ad cI cZ K row cm sd vl wt tn kn tl od fd cl u.1 u.2)) A) ([.ref (ad 0), .int (nI j)] : List Value).toArray s 0 0 A) (F0 m 16 ls []) := by
    intro m9
    induction m9 with
    | zero =>
      intro i ls hi hl
      have hiK : K = i := by omega
      refine lv_iload hx hb dX1_isOpen_16 (lv_at hl 0 rfl) ?_
      refine lv_aload_n hx hb dX1_isOpen_18 rfl (lv_at hl 2 rfl) ?_
      refine va_get (D := (dC, dI)) (ci := 1) (v := .int (nI K)) (C := RX1) (T := TX1) (N := 14) hx hb hts hw0 hown hK hP 0 rfl rfl 0 (by decide) (hts (.fieldLink RX1 35 "DropCodeModel" "words" "I") (by decide +kernel)) (fun _ h9 => h9) rfl dX1_isOpen_19 ?_
      refine lv_icmp_ge (tgt := 59) hx hb dX1_isOpen_22 (by decide) (fun c1 => ?_) (fun c1 => ?_)
      · skip
        refine lv_iload_n hx hb dX1_isOpen_59 rfl (lv_at hl 1 rfl) ?_
        exact W.iret (v := nI (cn (bt (unk (setA K (sd j)) kb)) i)) hx hb hr (fun t ht hW => ⟨⟨nI (cn (bt (unk (setA K (sd j)) kb)) i), u_2, rfl, ⟨by rw [← hiK, pc_K hK2 (unk_lt hbl)]; rfl, hinu_2⟩, by rw [ht]; exact hP, va_K.moved hW.alike hK, hD⟩, hS.F ht⟩) hS.2.2 dX1_isOpen_60
      · skip
        exact absurd (nI_le (by omega) (by omega)) c1
    | succ m9 ih =>
      intro i ls hi hl
      have hiK : i < K := by omega
      have hi32 : i < 32 := by omega
      refine lv_iload hx hb dX1_isOpen_16 (lv_at hl 0 rfl) ?_
      refine lv_aload_n hx hb dX1_isOpen_18 rfl (lv_at hl 2 rfl) ?_
      refine va_get (D := (dC, dI)) (ci := 1) (v := .int (nI K)) (C := RX1) (T := TX1) (N := 14) hx hb hts hw0 hown hK hP 0 rfl rfl 0 (by decide) (hts (.fieldLink RX1 35 "DropCodeModel" "words" "I") (by decide +kernel)) (fun _ h9 => h9) rfl dX1_isOpen_19 ?_
      refine lv_icmp_ge (tgt := 59) hx hb dX1_isOpen_22 (by decide) (fun c1 => ?_) (fun c1 => ?_)
      · skip
        exact absurd c1 (nI_ge hiK (by omega))
      · skip
        refine lv_iload_n hx hb dX1_isOpen_25 rfl (lv_at hl 1 rfl) ?_
        refine lv_aload_n hx hb dX1_isOpen_26 rfl (lv_at hl 2 rfl) ?_
        refine va_get (D := (dC, dI)) (ci := 1) (v := .ref (ad 8)) (C := RX1) (T := TX1) (N := 14) hx hb hts hw0 hown hK hP 0 rfl rfl 12 (by decide) (hts (.fieldLink RX1 32 "DropCodeModel" "in" "[Z") (by decide +kernel)) (fun _ h9 => h9) rfl dX1_isOpen_27 ?_
        refine lv_iload hx hb dX1_isOpen_30 (lv_at hl 0 rfl) ?_
        refine va_zald (i := nI i) hx hb hK hP 8 1 rfl rfl (vp_in_nI hi32 (by omega)) dX1_isOpen_32 ?_
        rw [nI_clamp (by omega)]
        refine lv_topi (fun z_3 ez_3 => ?_)
        have ez_3 : z_3 = bI (bt (setA K (sd j)) i) := ez_3.trans (hinu_2 i hiK)
        subst ez_3
        cases hbi : bt (setA K (sd j)) i with
        | false =>
          rw [bI_f]
          refine lv_if_eq (tgt := 50) hx hb dX1_isOpen_33 (by decide) (fun c_4 => ?_) (fun c_4 => ?_)
          · skip
            refine lv_iconst (v := 0) hx hb dX1_isOpen_50 (by decide) ?_
            refine lv_iadd hx hb dX1_isOpen_51 ?_
            refine lv_topi (fun z_5 ez_5 => ?_)
            have ez_5 : z_5 = nI (cn (bt (unk (setA K (sd j)) kb)) (i + 1)) := ez_5.trans (by rw [cn_no (by rw [bt_unk, hbi]; rfl)]; exact Int32.add_zero _)
            subst ez_5
            refine lv_istore_n (lv' := [(3, .int (nI (cn (bt (unk (setA K (sd j)) kb)) (i + 1)))), (4, .int (nI i)), (0, .ref (ad 0)), (1, .int (nI j))]) hx hb dX1_isOpen_52 rfl hl (by decide) rfl (fun ls hl => ?_)
            refine lv_iinc (v := nI (i + 1)) (lv' := [(4, .int (nI (i + 1))), (3, .int (nI (cn (bt (unk (setA K (sd j)) kb)) (i + 1)))), (0, .ref (ad 0)), (1, .int (nI j))]) hx hb dX1_isOpen_53 hl (k := 1) rfl (nI_1 i) (by decide) rfl (fun ls hl => ?_)
            refine lv_goto (tgt := 16) hx hb dX1_isOpen_56 (by decide) ?_
            exact ih (i + 1) ls (by omega) (lv_sub hl [0, 1, 2, 3] rfl)
          · skip
            exact absurd rfl c_4
        | true =>
          rw [bI_t]
          refine lv_if_eq (tgt := 50) hx hb dX1_isOpen_33 (by decide) (fun c_4 => ?_) (fun c_4 => ?_)
          · skip
            exact absurd c_4 (by decide)
          · skip
            refine lv_aload_n hx hb dX1_isOpen_36 rfl (lv_at hl 2 rfl) ?_
            refine va_get (D := (dC, dI)) (ci := 1) (v := .ref (ad 5)) (C := RX1) (T := TX1) (N := 14) hx hb hts hw0 hown hK hP 0 rfl rfl 7 (by decide) (hts (.fieldLink RX1 22 "DropCodeModel" "known" "[Z") (by decide +kernel)) (fun _ h9 => h9) rfl dX1_isOpen_37 ?_
            refine lv_iload hx hb dX1_isOpen_40 (lv_at hl 0 rfl) ?_
            refine va_zald (i := nI i) hx hb hK hP 5 1 rfl rfl (vp_in_nI hi32 (by omega)) dX1_isOpen_42 ?_
            rw [nI_clamp (by omega)]
            refine lv_topi (fun z_5 ez_5 => ?_)
            have ez_5 : z_5 = bI (bt kb i) := ez_5.trans (hkn i hiK)
            subst ez_5
            cases hki : bt kb i with
            | false =>
              rw [bI_f]
              refine lv_if_ne (tgt := 50) hx hb dX1_isOpen_43 (by decide) (fun c_6 => ?_) (fun c_6 => ?_)
              · skip
                exact absurd rfl c_6
              · skip
                refine lv_iconst (v := 1) hx hb dX1_isOpen_46 (by decide) ?_
                refine lv_goto (tgt := 51) hx hb dX1_isOpen_47 (by decide) ?_
                refine lv_iadd hx hb dX1_isOpen_51 ?_
                refine lv_topi (fun z_7 ez_7 => ?_)
                have ez_7 : z_7 = nI (cn (bt (unk (setA K (sd j)) kb)) (i + 1)) := ez_7.trans (by rw [cn_s (by rw [bt_unk, hbi, hki]; rfl)]; exact nI_1 _)
                subst ez_7
                refine lv_istore_n (lv' := [(3, .int (nI (cn (bt (unk (setA K (sd j)) kb)) (i + 1)))), (4, .int (nI i)), (0, .ref (ad 0)), (1, .int (nI j))]) hx hb dX1_isOpen_52 rfl hl (by decide) rfl (fun ls hl => ?_)
                refine lv_iinc (v := nI (i + 1)) (lv' := [(4, .int (nI (i + 1))), (3, .int (nI (cn (bt (unk (setA K (sd j)) kb)) (i + 1)))), (0, .ref (ad 0)), (1, .int (nI j))]) hx hb dX1_isOpen_53 hl (k := 1) rfl (nI_1 i) (by decide) rfl (fun ls hl => ?_)
                refine lv_goto (tgt := 16) hx hb dX1_isOpen_56 (by decide) ?_
                exact ih (i + 1) ls (by omega) (lv_sub hl [0, 1, 2, 3] rfl)
            | true =>
              rw [bI_t]
              refine lv_if_ne (tgt := 50) hx hb dX1_isOpen_43 (by decide) (fun c_6 => ?_) (fun c_6 => ?_)
              · skip
                refine lv_iconst (v := 0) hx hb dX1_isOpen_50 (by decide) ?_
                refine lv_iadd hx hb dX1_isOpen_51 ?_
                refine lv_topi (fun z_7 ez_7 => ?_)
                have ez_7 : z_7 = nI (cn (bt (unk (setA K (sd j)) kb)) (i + 1)) := ez_7.trans (by rw [cn_no (by rw [bt_unk, hbi, hki]; rfl)]; exact Int32.add_zero _)
                subst ez_7
                refine lv_istore_n (lv' := [(3, .int (nI (cn (bt (unk (setA K (sd j)) kb)) (i + 1)))), (4, .int (nI i)), (0, .ref (ad 0)), (1, .int (nI j))]) hx hb dX1_isOpen_52 rfl hl (by decide) rfl (fun ls hl => ?_)
                refine lv_iinc (v := nI (i + 1)) (lv' := [(4, .int (nI (i + 1))), (3, .int (nI (cn (bt (unk (setA K (sd j)) kb)) (i + 1)))), (0, .ref (ad 0)), (1, .int (nI j))]) hx hb dX1_isOpen_53 hl (k := 1) rfl (nI_1 i) (by decide) rfl (fun ls hl => ?_)
                refine lv_goto (tgt := 16) hx hb dX1_isOpen_56 (by decide) ?_
                exact ih (i + 1) ls (by omega) (lv_sub hl [0, 1, 2, 3] rfl)
              · skip
                exact absurd c_6 (by decide)
  exact key K 0 ls (by omega) (lv_sub hl [0, 1, 3, 4] rfl)
set_option maxHeartbeats 4000000 in
set_option maxRecDepth 100000 in
theorem c_X1_off (l : Launch) (dC : Nat → ClassId) (dI : Nat → Nat → Nat) (sz : Nat) (ad : Nat → Nat) (cI cZ : ClassId) (K : Nat) (row : Nat → Int32) (cm : Int32) (sd : Nat → Int32) (vl : Nat → Int32) (wt : Nat → Int32) (tn : Int32) (kn : Nat → Int32) (tl : Nat → Int32) (od : Nat → Int32) (fd : Int32) (cl : Int32) (inn : Nat → Int32) (stt : Int32) (hK1 : 1 ≤ K) (hK2 : K ≤ 32) (kb : Int32) (hkn : inF K kn kb) (j : Nat) (hj : j < 60) : Met l yX1_off wsX1_off ({ frames := 2, cells := 0, slots := 0, locals := 46 }) (va_Pc [.ref (ad 0), .int (nI j)] (wB dC dI [(cI, .int), (cZ, .boolean)] sz (rW ad cI cZ K row cm sd vl wt tn kn tl od fd cl inn stt))) (va_Qi (fun r (u : (Nat → Int32) × Int32) => r = vl j ^^^ xk K tl (setA K (sd j)) kb ∧ inF K u.1 (setA K (sd j))) (fun u => oB dC dI [(cI, .int), (cZ, .boolean)] (va_A (rW ad cI cZ K row cm sd vl wt tn kn tl od fd cl inn stt) sz) (rW ad cI cZ K row cm sd vl wt tn kn tl od fd cl u.1 u.2)) (va_A (rW ad cI cZ K row cm sd vl wt tn kn tl od fd cl inn stt) sz)) 0 0 (va_A (rW ad cI cZ K row cm sd vl wt tn kn tl od fd cl inn stt) sz) := by
  refine Met.ofW (cc := cX1_off) (maxL := 5) (ret := (some .int)) (by decide) rfl ?_
  intro p e s m args below meth c s₁ B hml hv
  obtain ⟨rfl, hsz, hP, hK, hD0⟩ := hv
  have hx := B.exec
  have hb := B.bytes
  have hr := B.returns
  have hts := atoms_spec (ws := wsX1_off) B.pre
  have hown : s.vm.findClass RX1 = some m.cls := findClass_of_methodNamed B.named
  have hlocks := B.notSynchronized
  have hw0 : ∀ w ∈ wsX10, w ∈ wsX1_off := fun _ h => List.mem_cons_of_mem _ (List.mem_append_right _ h)
  subst hsz
  have hD := hD0.self (sz := s.heap.size)
  generalize hAe : va_A (rW ad cI cZ K row cm sd vl wt tn kn tl od fd cl inn stt) s.heap.size = A at hD ⊢
  have hA : ∀ q : Nat, s.heap.size ≤ q → A q := fun q h => by rw [← hAe]; exact Or.inr h
  have hS : va_S A s.heap s.heap [] := va_S.rf
  have hP : va_P (dC, dI) vwCl (rW ad cI cZ K row cm sd vl wt tn kn tl od fd cl inn stt) s.heap := hP
  have hl := lv_entry ([.ref (ad 0), .int (nI j)]) (n := 5) (Nat.le_of_ble_eq_true rfl)
  rw [lg_entry_eq]
  generalize (lg_sl ([.ref (ad 0), .int (nI j)]) ++ List.replicate (5 - (lg_sl ([.ref (ad 0), .int (nI j)])).length) Slot.unset).toArray = ls at hl ⊢
  have hl : lv_has ls 5 [(0, .ref (ad 0)), (1, .int (nI j))] := hl
  refine lv_aload_n hx hb dX1_off_0 rfl (lv_at hl 0 rfl) ?_
  refine lv_aload_n hx hb dX1_off_1 rfl (lv_at hl 0 rfl) ?_
  refine va_get (D := (dC, dI)) (ci := 1) (v := .ref (ad 2)) (C := RX1) (T := TX1) (N := 14) hx hb hts hw0 hown hK hP 0 rfl rfl 3 (by decide) (hts (.fieldLink RX1 13 "DropCodeModel" "seeds" "[I") (by decide +kernel)) (fun _ h9 => h9) rfl dX1_off_2 ?_
  refine lv_iload_n hx hb dX1_off_5 rfl (lv_at hl 1 rfl) ?_
  refine va_iald (i := nI j) hx hb hK hP 2 0 rfl rfl (vp_in_nI hj (by omega)) dX1_off_6 ?_
  rw [nI_clamp (by omega)]
  have hFc := va_free (wc := (rW ad cI cZ K row cm sd vl wt tn kn tl od fd cl inn stt)) hD hS hA [0, 1, 2, 3, 4, 5, 6, 7, 8] rfl
  refine va_calli (va_runV (As := [.int (sd j)]) (rest := []) ⟨hx, hb, hml, hown, hts⟩ (c_X1_draw l dC dI s.heap.size ad cI cZ K row cm sd vl wt tn kn tl od fd cl inn stt hK1 hK2 (sd j)) (cwV 1 hts gX1_off_X1_draw rfl rfl rfl (by decide +kernel) ⟨Nat.le_of_ble_eq_true rfl, Nat.le_of_ble_eq_true rfl⟩) ⟨wFb, va_recv hK hP (ci := 1) (q0 := 0) rfl rfl, fun U hU hW => ⟨rfl, by rw [hU], by rw [hU]; exact hP, va_K.moved hW.alike hK, hD.weaken (fun _ _ _ _ => trivial)⟩⟩ rfl rfl hl.1 rfl (lv_room (Nat.le_of_ble_eq_true rfl)) dX1_off_7 ⟨Nat.le_of_ble_eq_true rfl, Nat.le_of_ble_eq_true rfl⟩) hS (fun q _ h => hFc q h) hFc (fun r_1 u_2 t H1 locs ht hvm hwu_2 hB hz1 hk1 hS => ?_)
  obtain ⟨hP1, hK1, hD1⟩ := hB
  rw [ht] at hP1
  obtain ⟨hP, hD⟩ := va_join (wr := []) (w1 := (rW ad cI cZ K row cm sd vl wt tn kn tl od fd cl u_2.1 u_2.2)) hP hD [0, 1, 2, 3, 4, 5, 6, 7, 8] [] rfl rfl (by decide) (by decide) hk1 hFc hP1 hD1
  clear hP1 hD1 hK1 hFc hk1 hz1
  generalize H1 = H at hP hS ⊢
  have hP : va_P (dC, dI) vwCl (rW ad cI cZ K row cm sd vl wt tn kn tl od fd cl u_2.1 u_2.2) H := hP
  have hD : va_D A (rW ad cI cZ K row cm sd vl wt tn kn tl od fd cl u_2.1 u_2.2) := hD
  obtain ⟨rfl, hinu_2⟩ := hwu_2
  refine lv_istore_n (lv' := [(2, .int (nI (dg K (dr (ns (sd j)))))), (0, .ref (ad 0)), (1, .int (nI j))]) hx hb dX1_off_10 rfl hl (by decide) rfl (fun ls hl => ?_)
  refine lv_aload_n hx hb dX1_off_11 rfl (lv_at hl 1 rfl) ?_
  refine va_get (D := (dC, dI)) (ci := 1) (v := .ref (ad 3)) (C := RX1) (T := TX1) (N := 14) hx hb hts hw0 hown hK hP 0 rfl rfl 4 (by decide) (hts (.fieldLink RX1 16 "DropCodeModel" "values" "[I") (by decide +kernel)) (fun _ h9 => h9) rfl dX1_off_12 ?_
  refine lv_iload_n hx hb dX1_off_15 rfl (lv_at hl 2 rfl) ?_
  refine va_iald (i := nI j) hx hb hK hP 3 0 rfl rfl (vp_in_nI hj (by omega)) dX1_off_16 ?_
  rw [nI_clamp (by omega)]
  refine lv_topi (fun z_3 ez_3 => ?_)
  have ez_3 : z_3 = vl j ^^^ xf tl (setA K (sd j) &&& kb) 0 := ez_3.trans ((xor0 _).symm)
  subst ez_3
  refine lv_istore_n (lv' := [(3, .int (vl j ^^^ xf tl (setA K (sd j) &&& kb) 0)), (2, .int (nI (dg K (dr (ns (sd j)))))), (0, .ref (ad 0)), (1, .int (nI j))]) hx hb dX1_off_17 rfl hl (by decide) rfl (fun ls hl => ?_)
  refine lv_iconst (v := 0) hx hb dX1_off_18 (by decide) ?_
  refine lv_istore (lv' := [(4, .int 0), (3, .int (vl j ^^^ xf tl (setA K (sd j) &&& kb) 0)), (2, .int (nI (dg K (dr (ns (sd j)))))), (0, .ref (ad 0)), (1, .int (nI j))]) hx hb dX1_off_19 hl (by decide) rfl (fun ls hl => ?_)
  have hbl : ∀ i, bt (setA K (sd j)) i = true → i < K := fun i h => setA_lt hK1 hK2 _ h
  have key : ∀ (m9 i : Nat) (ls : Array Slot), K = i + m9 → lv_has ls 5 [(4, .int (nI i)), (3, .int (vl j ^^^ xf tl (setA K (sd j) &&& kb) i)), (0, .ref (ad 0)), (1, .int (nI j))] → W p l e (headSpec wsX1_off ({ frames := 2, cells := 0, slots := 0, locals := 46 })).room s m ([.ref (ad 0), .int (nI j)] : List Value).toArray below meth c H locs 0 0 (MQ below (va_Qi (fun r (u : (Nat → Int32) × Int32) => r = vl j ^^^ xk K tl (setA K (sd j)) kb ∧ inF K u.1 (setA K (sd j))) (fun u => oB dC dI [(cI, .int), (cZ, .boolean)] A (rW ad cI cZ K row cm sd vl wt tn kn tl od fd cl u.1 u.2)) A) ([.ref (ad 0), .int (nI j)] : List Value).toArray s 0 0 A) (F0 m 21 ls []) := by
    intro m9
    induction m9 with
    | zero =>
      intro i ls hi hl
      have hiK : K = i := by omega
      refine lv_iload hx hb dX1_off_21 (lv_at hl 0 rfl) ?_
      refine lv_aload_n hx hb dX1_off_23 rfl (lv_at hl 2 rfl) ?_
      refine va_get (D := (dC, dI)) (ci := 1) (v := .int (nI K)) (C := RX1) (T := TX1) (N := 14) hx hb hts hw0 hown hK hP 0 rfl rfl 0 (by decide) (hts (.fieldLink RX1 35 "DropCodeModel" "words" "I") (by decide +kernel)) (fun _ h9 => h9) rfl dX1_off_24 ?_
      refine lv_icmp_ge (tgt := 70) hx hb dX1_off_27 (by decide) (fun c1 => ?_) (fun c1 => ?_)
      · skip
        refine lv_iload_n hx hb dX1_off_70 rfl (lv_at hl 1 rfl) ?_
        exact W.iret (v := vl j ^^^ xf tl (setA K (sd j) &&& kb) i) hx hb hr (fun t ht hW => ⟨⟨vl j ^^^ xf tl (setA K (sd j) &&& kb) i, u_2, rfl, ⟨by rw [← hiK]; rfl, hinu_2⟩, by rw [ht]; exact hP, va_K.moved hW.alike hK, hD⟩, hS.F ht⟩) hS.2.2 dX1_off_71
      · skip
        exact absurd (nI_le (by omega) (by omega)) c1
    | succ m9 ih =>
      intro i ls hi hl
      have hiK : i < K := by omega
      have hi32 : i < 32 := by omega
      refine lv_iload hx hb dX1_off_21 (lv_at hl 0 rfl) ?_
      refine lv_aload_n hx hb dX1_off_23 rfl (lv_at hl 2 rfl) ?_
      refine va_get (D := (dC, dI)) (ci := 1) (v := .int (nI K)) (C := RX1) (T := TX1) (N := 14) hx hb hts hw0 hown hK hP 0 rfl rfl 0 (by decide) (hts (.fieldLink RX1 35 "DropCodeModel" "words" "I") (by decide +kernel)) (fun _ h9 => h9) rfl dX1_off_24 ?_
      refine lv_icmp_ge (tgt := 70) hx hb dX1_off_27 (by decide) (fun c1 => ?_) (fun c1 => ?_)
      · skip
        exact absurd c1 (nI_ge hiK (by omega))
      · skip
        refine lv_iload_n hx hb dX1_off_30 rfl (lv_at hl 1 rfl) ?_
        refine lv_aload_n hx hb dX1_off_31 rfl (lv_at hl 2 rfl) ?_
        refine va_get (D := (dC, dI)) (ci := 1) (v := .ref (ad 8)) (C := RX1) (T := TX1) (N := 14) hx hb hts hw0 hown hK hP 0 rfl rfl 12 (by decide) (hts (.fieldLink RX1 32 "DropCodeModel" "in" "[Z") (by decide +kernel)) (fun _ h9 => h9) rfl dX1_off_32 ?_
        refine lv_iload hx hb dX1_off_35 (lv_at hl 0 rfl) ?_
        refine va_zald (i := nI i) hx hb hK hP 8 1 rfl rfl (vp_in_nI hi32 (by omega)) dX1_off_37 ?_
        rw [nI_clamp (by omega)]
        refine lv_topi (fun z_4 ez_4 => ?_)
        have ez_4 : z_4 = bI (bt (setA K (sd j)) i) := ez_4.trans (hinu_2 i hiK)
        subst ez_4
        cases hbi : bt (setA K (sd j)) i with
        | false =>
          rw [bI_f]
          refine lv_if_eq (tgt := 61) hx hb dX1_off_38 (by decide) (fun c_5 => ?_) (fun c_5 => ?_)
          · skip
            refine lv_iconst (v := 0) hx hb dX1_off_61 (by decide) ?_
            refine lv_ixor hx hb dX1_off_62 ?_
            refine lv_topi (fun z_6 ez_6 => ?_)
            have ez_6 : z_6 = vl j ^^^ xf tl (setA K (sd j) &&& kb) (i + 1) := ez_6.trans (by rw [xf, b_and, hbi, Bool.false_and, if_neg Bool.false_ne_true, xor0])
            subst ez_6
            refine lv_istore_n (lv' := [(3, .int (vl j ^^^ xf tl (setA K (sd j) &&& kb) (i + 1))), (4, .int (nI i)), (0, .ref (ad 0)), (1, .int (nI j))]) hx hb dX1_off_63 rfl hl (by decide) rfl (fun ls hl => ?_)
            refine lv_iinc (v := nI (i + 1)) (lv' := [(4, .int (nI (i + 1))), (3, .int (vl j ^^^ xf tl (setA K (sd j) &&& kb) (i + 1))), (0, .ref (ad 0)), (1, .int (nI j))]) hx hb dX1_off_64 hl (k := 1) rfl (nI_1 i) (by decide) rfl (fun ls hl => ?_)
            refine lv_goto (tgt := 21) hx hb dX1_off_67 (by decide) ?_
            exact ih (i + 1) ls (by omega) (lv_sub hl [0, 1, 2, 3] rfl)
          · skip
            exact absurd rfl c_5
        | true =>
          rw [bI_t]
          refine lv_if_eq (tgt := 61) hx hb dX1_off_38 (by decide) (fun c_5 => ?_) (fun c_5 => ?_)
          · skip
            exact absurd c_5 (by decide)
          · skip
            refine lv_aload_n hx hb dX1_off_41 rfl (lv_at hl 2 rfl) ?_
            refine va_get (D := (dC, dI)) (ci := 1) (v := .ref (ad 5)) (C := RX1) (T := TX1) (N := 14) hx hb hts hw0 hown hK hP 0 rfl rfl 7 (by decide) (hts (.fieldLink RX1 22 "DropCodeModel" "known" "[Z") (by decide +kernel)) (fun _ h9 => h9) rfl dX1_off_42 ?_
            refine lv_iload hx hb dX1_off_45 (lv_at hl 0 rfl) ?_
            refine va_zald (i := nI i) hx hb hK hP 5 1 rfl rfl (vp_in_nI hi32 (by omega)) dX1_off_47 ?_
            rw [nI_clamp (by omega)]
            refine lv_topi (fun z_6 ez_6 => ?_)
            have ez_6 : z_6 = bI (bt kb i) := ez_6.trans (hkn i hiK)
            subst ez_6
            cases hki : bt kb i with
            | false =>
              rw [bI_f]
              refine lv_if_eq (tgt := 61) hx hb dX1_off_48 (by decide) (fun c_7 => ?_) (fun c_7 => ?_)
              · skip
                refine lv_iconst (v := 0) hx hb dX1_off_61 (by decide) ?_
                refine lv_ixor hx hb dX1_off_62 ?_
                refine lv_topi (fun z_8 ez_8 => ?_)
                have ez_8 : z_8 = vl j ^^^ xf tl (setA K (sd j) &&& kb) (i + 1) := ez_8.trans (by rw [xf, b_and, hbi, hki, Bool.and_false, if_neg Bool.false_ne_true, xor0])
                subst ez_8
                refine lv_istore_n (lv' := [(3, .int (vl j ^^^ xf tl (setA K (sd j) &&& kb) (i + 1))), (4, .int (nI i)), (0, .ref (ad 0)), (1, .int (nI j))]) hx hb dX1_off_63 rfl hl (by decide) rfl (fun ls hl => ?_)
                refine lv_iinc (v := nI (i + 1)) (lv' := [(4, .int (nI (i + 1))), (3, .int (vl j ^^^ xf tl (setA K (sd j) &&& kb) (i + 1))), (0, .ref (ad 0)), (1, .int (nI j))]) hx hb dX1_off_64 hl (k := 1) rfl (nI_1 i) (by decide) rfl (fun ls hl => ?_)
                refine lv_goto (tgt := 21) hx hb dX1_off_67 (by decide) ?_
                exact ih (i + 1) ls (by omega) (lv_sub hl [0, 1, 2, 3] rfl)
              · skip
                exact absurd rfl c_7
            | true =>
              rw [bI_t]
              refine lv_if_eq (tgt := 61) hx hb dX1_off_48 (by decide) (fun c_7 => ?_) (fun c_7 => ?_)
              · skip
                exact absurd c_7 (by decide)
              · skip
                refine lv_aload_n hx hb dX1_off_51 rfl (lv_at hl 2 rfl) ?_
                refine va_get (D := (dC, dI)) (ci := 1) (v := .ref (ad 6)) (C := RX1) (T := TX1) (N := 14) hx hb hts hw0 hown hK hP 0 rfl rfl 8 (by decide) (hts (.fieldLink RX1 26 "DropCodeModel" "told" "[I") (by decide +kernel)) (fun _ h9 => h9) rfl dX1_off_52 ?_
                refine lv_iload hx hb dX1_off_55 (lv_at hl 0 rfl) ?_
                refine va_iald (i := nI i) hx hb hK hP 6 0 rfl rfl (vp_in_nI hi32 (by omega)) dX1_off_57 ?_
                rw [nI_clamp (by omega)]
                refine lv_goto (tgt := 62) hx hb dX1_off_58 (by decide) ?_
                refine lv_ixor hx hb dX1_off_62 ?_
                refine lv_topi (fun z_8 ez_8 => ?_)
                have ez_8 : z_8 = vl j ^^^ xf tl (setA K (sd j) &&& kb) (i + 1) := ez_8.trans (by rw [xf, b_and, hbi, hki, Bool.and_true, if_pos rfl, xor_ass])
                subst ez_8
                refine lv_istore_n (lv' := [(3, .int (vl j ^^^ xf tl (setA K (sd j) &&& kb) (i + 1))), (4, .int (nI i)), (0, .ref (ad 0)), (1, .int (nI j))]) hx hb dX1_off_63 rfl hl (by decide) rfl (fun ls hl => ?_)
                refine lv_iinc (v := nI (i + 1)) (lv' := [(4, .int (nI (i + 1))), (3, .int (vl j ^^^ xf tl (setA K (sd j) &&& kb) (i + 1))), (0, .ref (ad 0)), (1, .int (nI j))]) hx hb dX1_off_64 hl (k := 1) rfl (nI_1 i) (by decide) rfl (fun ls hl => ?_)
                refine lv_goto (tgt := 21) hx hb dX1_off_67 (by decide) ?_
                exact ih (i + 1) ls (by omega) (lv_sub hl [0, 1, 2, 3] rfl)
  exact key K 0 ls (by omega) (lv_sub hl [0, 1, 3, 4] rfl)
