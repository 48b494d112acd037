theorem aw_no {wt : Nat → Int32} {T : Nat} {P : Nat → Bool} {k : Nat} (h : P k = false) : awA wt T P (k + 1) = awA wt T P k := by rw [awA, if_neg (by rw [h]; exact Bool.false_ne_true)]
theorem aw_yes {wt : Nat → Int32} {T : Nat} {P : Nat → Bool} {k : Nat} (h : P k = true) : awA wt T P (k + 1) = upd (awA wt T P k) k (nI (T + cn P k + 1)) := by rw [awA, if_pos h]
set_option maxHeartbeats 4000000 in
set_option maxRecDepth 100000 in
theorem c_X1_learn (l : Launch) (dC : Nat → ClassId) (dI : Nat → Nat → Nat) (sz : Nat) (ad : Nat → Nat) (cI cZ : ClassId) (K : Nat) (row : Nat → Int32) (sd : Nat → Int32) (vl : Nat → Int32) (wt : Nat → Int32) (kn : Nat → Int32) (tl : Nat → Int32) (od : Nat → Int32) (cl : Int32) (inn : Nat → Int32) (stt : Int32) (hK1 : 1 ≤ K) (hK2 : K ≤ 32) (n : Nat) (hn : n ≤ 60) (T F : Nat) (hF : F < 32) (kb : Int32) (hkn : inF K kn kb) (S : Nat → Int32) (hSd : ∀ k, k < n → S k = setA K (sd k)) (j : Nat) (hj : j < n) (i : Nat) (hi : i < K) (e1 : unk (S j) kb = tw i) (e2 : bt (S j) i = true) (e3 : bt kb i = false) (hnc : ∀ k, k < n → bt (S k) i = true → opn (S k) (kb ||| tw i) = 0 → wt k = 0 → vl k ^^^ xk K (upd tl i (vl j ^^^ xk K tl (S j) kb)) (S k) (kb ||| tw i) = 0) : Met l yX1_learn wsX1_learn ({ frames := 3, cells := 0, slots := 0, locals := 70 }) (va_Pc [.ref (ad 0), .int (nI j)] (wB dC dI [(cI, .int), (cZ, .boolean)] sz (rW ad cI cZ K row (nI n) sd vl wt (nI T) kn tl od (nI F) cl inn stt))) (va_Qv (fun (u : (Nat → Int32) × Int32) => True) (fun u => oB dC dI [(cI, .int), (cZ, .boolean)] (va_A (rW ad cI cZ K row (nI n) sd vl wt (nI T) kn tl od (nI F) cl inn stt) sz) (rW ad cI cZ K row (nI n) sd vl (awA wt T (eqP i S (kb ||| tw i)) n) (nI (T + cn (eqP i S (kb ||| tw i)) n)) (upd kn i (vp_nar .boolean 1)) (upd tl i (vl j ^^^ xk K tl (S j) kb)) (upd od F (nI i)) (nI (F + 1)) cl u.1 u.2)) (va_A (rW ad cI cZ K row (nI n) sd vl wt (nI T) kn tl od (nI F) cl inn stt) sz)) 0 0 (va_A (rW ad cI cZ K row (nI n) sd vl wt (nI T) kn tl od (nI F) cl inn stt) sz) := by
  refine Met.ofW (cc := cX1_learn) (maxL := 7) (ret := none) (by decide) rfl ?_
  intro p e s m args below meth c s₁ B hml hv
  obtain ⟨rfl, hsz, hP, hK, hD0⟩ := hv
  have hx := B.exec
  have hb := B.bytes
  have hr := B.returns
  have hts := atoms_spec (ws := wsX1_learn) B.pre
  have hown : s.vm.findClass RX1 = some m.cls := findClass_of_methodNamed B.named
  have hlocks := B.notSynchronized
  have hw0 : ∀ w ∈ wsX10, w ∈ wsX1_learn := fun _ h => List.mem_cons_of_mem _ (List.mem_append_right _ h)
  subst hsz
  have hD := hD0.self (sz := s.heap.size)
  generalize hAe : va_A (rW ad cI cZ K row (nI n) sd vl wt (nI T) kn tl od (nI F) cl inn stt) s.heap.size = A at hD ⊢
  have hA : ∀ q : Nat, s.heap.size ≤ q → A q := fun q h => by rw [← hAe]; exact Or.inr h
  have hS : va_S A s.heap s.heap [] := va_S.rf
  have hP : va_P (dC, dI) vwCl (rW ad cI cZ K row (nI n) sd vl wt (nI T) kn tl od (nI F) cl inn stt) s.heap := hP
  have hl := lv_entry ([.ref (ad 0), .int (nI j)]) (n := 7) (Nat.le_of_ble_eq_true rfl)
  rw [lg_entry_eq]
  generalize (lg_sl ([.ref (ad 0), .int (nI j)]) ++ List.replicate (7 - (lg_sl ([.ref (ad 0), .int (nI j)])).length) Slot.unset).toArray = ls at hl ⊢
  have hl : lv_has ls 7 [(0, .ref (ad 0)), (1, .int (nI j))] := hl
  have hSj := hSd j hj
  refine lv_aload_n hx hb dX1_learn_0 rfl (lv_at hl 0 rfl) ?_
  refine lv_iload_n hx hb dX1_learn_1 rfl (lv_at hl 1 rfl) ?_
  have hFc := va_free (wc := (rW ad cI cZ K row (nI n) sd vl wt (nI T) kn tl od (nI F) cl inn stt)) hD hS hA [0, 1, 2, 3, 4, 5, 6, 7, 8] rfl
  refine va_calli (va_runV (As := [.int (nI j)]) (rest := []) ⟨hx, hb, hml, hown, hts⟩ (c_X1_off l dC dI s.heap.size ad cI cZ K row (nI n) sd vl wt (nI T) kn tl od (nI F) cl inn stt hK1 hK2 kb hkn j (by omega)) (cwV 1 hts gX1_learn_X1_off rfl rfl rfl (by decide +kernel) ⟨Nat.le_of_ble_eq_true rfl, Nat.le_of_ble_eq_true rfl⟩) ⟨wFb, va_recv hK hP (ci := 1) (q0 := 0) rfl rfl, fun U hU hW => ⟨rfl, by rw [hU], by rw [hU]; exact hP, va_K.moved hW.alike hK, hD.weaken (fun _ _ _ _ => trivial)⟩⟩ rfl rfl hl.1 rfl (lv_room (Nat.le_of_ble_eq_true rfl)) dX1_learn_2 ⟨Nat.le_of_ble_eq_true rfl, Nat.le_of_ble_eq_true rfl⟩) hS (fun q _ h => hFc q h) hFc (fun r_1 u_2 t H1 locs ht hvm hwu_2 hB hz1 hk1 hS => ?_)
  obtain ⟨hP1, hK1, hD1⟩ := hB
  rw [ht] at hP1
  obtain ⟨hP, hD⟩ := va_join (wr := []) (w1 := (rW ad cI cZ K row (nI n) sd vl wt (nI T) kn tl od (nI F) cl u_2.1 u_2.2)) hP hD [0, 1, 2, 3, 4, 5, 6, 7, 8] [] rfl rfl (by decide) (by decide) hk1 hFc hP1 hD1
  clear hP1 hD1 hK1 hFc hk1 hz1
  generalize H1 = H at hP hS ⊢
  have hP : va_P (dC, dI) vwCl (rW ad cI cZ K row (nI n) sd vl wt (nI T) kn tl od (nI F) cl u_2.1 u_2.2) H := hP
  have hD : va_D A (rW ad cI cZ K row (nI n) sd vl wt (nI T) kn tl od (nI F) cl u_2.1 u_2.2) := hD
  obtain ⟨rfl, hinu_2⟩ := hwu_2
  refine lv_topi (fun z_3 ez_3 => ?_)
  have ez_3 : z_3 = vl j ^^^ xk K tl (S j) kb := ez_3.trans (by rw [hSj])
  subst ez_3
  refine lv_istore_n (lv' := [(2, .int (vl j ^^^ xk K tl (S j) kb)), (0, .ref (ad 0)), (1, .int (nI j))]) hx hb dX1_learn_5 rfl hl (by decide) rfl (fun ls hl => ?_)
  refine lv_aload_n hx hb dX1_learn_6 rfl (lv_at hl 1 rfl) ?_
  refine lv_aload_n hx hb dX1_learn_7 rfl (lv_at hl 1 rfl) ?_
  refine va_get (D := (dC, dI)) (ci := 1) (v := .ref (ad 2)) (C := RX1) (T := TX1) (N := 14) hx hb hts hw0 hown hK hP 0 rfl rfl 3 (by decide) (hts (.fieldLink RX1 13 "DropCodeModel" "seeds" "[I") (by decide +kernel)) (fun _ h9 => h9) rfl dX1_learn_8 ?_
  refine lv_iload_n hx hb dX1_learn_11 rfl (lv_at hl 2 rfl) ?_
  refine va_iald (i := nI j) hx hb hK hP 2 0 rfl rfl (vp_in_nI (by omega : j < 60) (by omega)) dX1_learn_12 ?_
  rw [nI_clamp (by omega)]
  have hFc := va_free (wc := (rW ad cI cZ K row (nI n) sd vl wt (nI T) kn tl od (nI F) cl u_2.1 u_2.2)) hD hS hA [0, 1, 2, 3, 4, 5, 6, 7, 8] rfl
  refine va_calli (va_runV (As := [.int (sd j)]) (rest := []) ⟨hx, hb, hml, hown, hts⟩ (c_X1_draw l dC dI H.size ad cI cZ K row (nI n) sd vl wt (nI T) kn tl od (nI F) cl u_2.1 u_2.2 hK1 hK2 (sd j)) (cwV 1 hts gX1_learn_X1_draw rfl rfl rfl (by decide +kernel) ⟨Nat.le_of_ble_eq_true rfl, Nat.le_of_ble_eq_true rfl⟩) ⟨wFb, va_recv hK hP (ci := 1) (q0 := 0) rfl rfl, fun U hU hW => ⟨rfl, by rw [hU], by rw [hU]; exact hP, va_K.moved hW.alike hK, hD.weaken (fun _ _ _ _ => trivial)⟩⟩ rfl rfl hl.1 rfl (lv_room (Nat.le_of_ble_eq_true rfl)) dX1_learn_13 ⟨Nat.le_of_ble_eq_true rfl, Nat.le_of_ble_eq_true rfl⟩) hS (fun q _ h => hFc q h) hFc (fun r_4 u_5 t H1 locs ht hvm hwu_5 hB hz1 hk1 hS => ?_)
  obtain ⟨hP1, hK1, hD1⟩ := hB
  rw [ht] at hP1
  obtain ⟨hP, hD⟩ := va_join (wr := []) (w1 := (rW ad cI cZ K row (nI n) sd vl wt (nI T) kn tl od (nI F) cl u_5.1 u_5.2)) hP hD [0, 1, 2, 3, 4, 5, 6, 7, 8] [] rfl rfl (by decide) (by decide) hk1 hFc hP1 hD1
  clear hP1 hD1 hK1 hFc hk1 hz1
  generalize H1 = H at hP hS ⊢
  have hP : va_P (dC, dI) vwCl (rW ad cI cZ K row (nI n) sd vl wt (nI T) kn tl od (nI F) cl u_5.1 u_5.2) H := hP
  have hD : va_D A (rW ad cI cZ K row (nI n) sd vl wt (nI T) kn tl od (nI F) cl u_5.1 u_5.2) := hD
  obtain ⟨rfl, hinu_5⟩ := hwu_5
  refine lv_istore_n (lv' := [(3, .int (nI (dg K (dr (ns (sd j)))))), (2, .int (vl j ^^^ xk K tl (S j) kb)), (0, .ref (ad 0)), (1, .int (nI j))]) hx hb dX1_learn_16 rfl hl (by decide) rfl (fun ls hl => ?_)
  rw [← hSj] at hinu_5
  refine lv_iconst (v := 0) hx hb dX1_learn_17 (by decide) ?_
  refine lv_istore (lv' := [(4, .int 0), (3, .int (nI (dg K (dr (ns (sd j)))))), (2, .int (vl j ^^^ xk K tl (S j) kb)), (0, .ref (ad 0)), (1, .int (nI j))]) hx hb dX1_learn_18 hl (by decide) rfl (fun ls hl => ?_)
  have hkn2 : inF K (upd kn i (vp_nar .boolean 1)) (kb ||| tw i) := inF_up hK2 hi hkn
  have hi32 : i < 32 := by omega
  have kL : ∀ (m9 k : Nat) (f : Nat → Int32) (g : Int32) (H : Heap) (locs : List Loc) (ls : Array Slot), n = k + m9 → va_P (dC, dI) vwCl (rW ad cI cZ K row (nI n) sd vl (awA wt T (eqP i S (kb ||| tw i)) k) (nI (T + cn (eqP i S (kb ||| tw i)) k)) (upd kn i (vp_nar .boolean 1)) (upd tl i (vl j ^^^ xk K tl (S j) kb)) (upd od F (nI i)) (nI (F + 1)) cl f g) H → va_D A (rW ad cI cZ K row (nI n) sd vl (awA wt T (eqP i S (kb ||| tw i)) k) (nI (T + cn (eqP i S (kb ||| tw i)) k)) (upd kn i (vp_nar .boolean 1)) (upd tl i (vl j ^^^ xk K tl (S j) kb)) (upd od F (nI i)) (nI (F + 1)) cl f g) → va_S A s.heap H locs → lv_has ls 7 [(5, .int (nI k)), (4, .int (nI i)), (0, .ref (ad 0))] → W p l e (headSpec wsX1_learn ({ frames := 3, cells := 0, slots := 0, locals := 70 })).room s m ([.ref (ad 0), .int (nI j)] : List Value).toArray below meth c H locs 0 0 (MQ below (va_Qv (fun (u : (Nat → Int32) × Int32) => True) (fun u => oB dC dI [(cI, .int), (cZ, .boolean)] A (rW ad cI cZ K row (nI n) sd vl (awA wt T (eqP i S (kb ||| tw i)) n) (nI (T + cn (eqP i S (kb ||| tw i)) n)) (upd kn i (vp_nar .boolean 1)) (upd tl i (vl j ^^^ xk K tl (S j) kb)) (upd od F (nI i)) (nI (F + 1)) cl u.1 u.2)) A) ([.ref (ad 0), .int (nI j)] : List Value).toArray s 0 0 A) (F0 m 86 ls []) := by
    intro m9
    induction m9 with
    | zero =>
      intro k f g H locs ls hk hP hD hS hl
      have hkn9 : n = k := by omega
      refine lv_iload hx hb dX1_learn_86 (lv_at hl 0 rfl) ?_
      refine lv_aload_n hx hb dX1_learn_88 rfl (lv_at hl 2 rfl) ?_
      refine va_get (D := (dC, dI)) (ci := 1) (v := .int (nI n)) (C := RX1) (T := TX1) (N := 14) hx hb hts hw0 hown hK hP 0 rfl rfl 2 (by decide) (hts (.fieldLink RX1 56 "DropCodeModel" "came" "I") (by decide +kernel)) (fun _ h9 => h9) rfl dX1_learn_89 ?_
      refine lv_icmp_ge (tgt := 178) hx hb dX1_learn_92 (by decide) (fun c1 => ?_) (fun c1 => ?_)
      · skip
        rw [← hkn9] at hP hD
        exact W.vret hx hb hr (fun t ht hW => ⟨⟨(f, g), rfl, trivial, by rw [ht]; exact hP, va_K.moved hW.alike hK, hD⟩, hS.F ht⟩) hS.2.2 dX1_learn_178
      · skip
        exact absurd (nI_le (by omega) (by omega)) c1
    | succ m9 ih =>
      intro k f g H locs ls hk hP hD hS hl
      have hkn9 : k < n := by omega
      have hk60 : k < 60 := by omega
      have hSk := hSd k hkn9
      refine lv_iload hx hb dX1_learn_86 (lv_at hl 0 rfl) ?_
      refine lv_aload_n hx hb dX1_learn_88 rfl (lv_at hl 2 rfl) ?_
      refine va_get (D := (dC, dI)) (ci := 1) (v := .int (nI n)) (C := RX1) (T := TX1) (N := 14) hx hb hts hw0 hown hK hP 0 rfl rfl 2 (by decide) (hts (.fieldLink RX1 56 "DropCodeModel" "came" "I") (by decide +kernel)) (fun _ h9 => h9) rfl dX1_learn_89 ?_
      refine lv_icmp_ge (tgt := 178) hx hb dX1_learn_92 (by decide) (fun c1 => ?_) (fun c1 => ?_)
      · skip
        exact absurd c1 (nI_ge hkn9 (by omega))
      · skip
        refine lv_aload_n hx hb dX1_learn_95 rfl (lv_at hl 2 rfl) ?_
        refine lv_iload hx hb dX1_learn_96 (lv_at hl 0 rfl) ?_
        have hFc := va_free (wc := (rW ad cI cZ K row (nI n) sd vl (awA wt T (eqP i S (kb ||| tw i)) k) (nI (T + cn (eqP i S (kb ||| tw i)) k)) (upd kn i (vp_nar .boolean 1)) (upd tl i (vl j ^^^ xk K tl (S j) kb)) (upd od F (nI i)) (nI (F + 1)) cl f g)) hD hS hA [0, 1, 2, 3, 4, 5, 6, 7, 8] rfl
        refine va_calli (va_runV (As := [.int (nI k)]) (rest := []) ⟨hx, hb, hml, hown, hts⟩ (c_X1_isOpen l dC dI H.size ad cI cZ K row (nI n) sd vl (awA wt T (eqP i S (kb ||| tw i)) k) (nI (T + cn (eqP i S (kb ||| tw i)) k)) (upd kn i (vp_nar .boolean 1)) (upd tl i (vl j ^^^ xk K tl (S j) kb)) (upd od F (nI i)) (nI (F + 1)) cl f g hK1 hK2 (kb ||| tw i) hkn2 k hk60) (cwV 1 hts gX1_learn_X1_isOpen rfl rfl rfl (by decide +kernel) ⟨Nat.le_of_ble_eq_true rfl, Nat.le_of_ble_eq_true rfl⟩) ⟨wFb, va_recv hK hP (ci := 1) (q0 := 0) rfl rfl, fun U hU hW => ⟨rfl, by rw [hU], by rw [hU]; exact hP, va_K.moved hW.alike hK, hD.weaken (fun _ _ _ _ => trivial)⟩⟩ rfl rfl hl.1 rfl (lv_room (Nat.le_of_ble_eq_true rfl)) dX1_learn_98 ⟨Nat.le_of_ble_eq_true rfl, Nat.le_of_ble_eq_true rfl⟩) hS (fun q _ h => hFc q h) hFc (fun r_6 u_7 t H1 locs ht hvm hwu_7 hB hz1 hk1 hS => ?_)
        obtain ⟨hP1, hK1, hD1⟩ := hB
        rw [ht] at hP1
        obtain ⟨hP, hD⟩ := va_join (wr := []) (w1 := (rW ad cI cZ K row (nI n) sd vl (awA wt T (eqP i S (kb ||| tw i)) k) (nI (T + cn (eqP i S (kb ||| tw i)) k)) (upd kn i (vp_nar .boolean 1)) (upd tl i (vl j ^^^ xk K tl (S j) kb)) (upd od F (nI i)) (nI (F + 1)) cl u_7.1 u_7.2)) hP hD [0, 1, 2, 3, 4, 5, 6, 7, 8] [] rfl rfl (by decide) (by decide) hk1 hFc hP1 hD1
        clear hP1 hD1 hK1 hFc hk1 hz1
        generalize H1 = H at hP hS ⊢
        have hP : va_P (dC, dI) vwCl (rW ad cI cZ K row (nI n) sd vl (awA wt T (eqP i S (kb ||| tw i)) k) (nI (T + cn (eqP i S (kb ||| tw i)) k)) (upd kn i (vp_nar .boolean 1)) (upd tl i (vl j ^^^ xk K tl (S j) kb)) (upd od F (nI i)) (nI (F + 1)) cl u_7.1 u_7.2) H := hP
        have hD : va_D A (rW ad cI cZ K row (nI n) sd vl (awA wt T (eqP i S (kb ||| tw i)) k) (nI (T + cn (eqP i S (kb ||| tw i)) k)) (upd kn i (vp_nar .boolean 1)) (upd tl i (vl j ^^^ xk K tl (S j) kb)) (upd od F (nI i)) (nI (F + 1)) cl u_7.1 u_7.2) := hD
        obtain ⟨rfl, hinu_7⟩ := hwu_7
        refine lv_topi (fun z_8 ez_8 => ?_)
        have ez_8 : z_8 = nI (opn (S k) (kb ||| tw i)) := ez_8.trans (by rw [hSk])
        subst ez_8
        refine lv_istore (lv' := [(6, .int (nI (opn (S k) (kb ||| tw i)))), (5, .int (nI k)), (4, .int (nI i)), (0, .ref (ad 0))]) hx hb dX1_learn_101 hl (by decide) rfl (fun ls hl => ?_)
        rw [← hSk] at hinu_7
        refine lv_aload_n hx hb dX1_learn_103 rfl (lv_at hl 3 rfl) ?_
        refine va_get (D := (dC, dI)) (ci := 1) (v := .ref (ad 8)) (C := RX1) (T := TX1) (N := 14) hx hb hts hw0 hown hK hP 0 rfl rfl 12 (by decide) (hts (.fieldLink RX1 32 "DropCodeModel" "in" "[Z") (by decide +kernel)) (fun _ h9 => h9) rfl dX1_learn_104 ?_
        refine lv_iload hx hb dX1_learn_107 (lv_at hl 2 rfl) ?_
        refine va_zald (i := nI i) hx hb hK hP 8 1 rfl rfl (vp_in_nI hi32 (by omega)) dX1_learn_109 ?_
        rw [nI_clamp (by omega)]
        refine lv_topi (fun z_9 ez_9 => ?_)
        have ez_9 : z_9 = bI (bt (S k) i) := ez_9.trans (hinu_7 i hi)
        subst ez_9
        cases hb9 : bt (S k) i with
        | false =>
          rw [bI_f]
          refine lv_if_eq (tgt := 128) hx hb dX1_learn_110 (by decide) (fun c3 => ?_) (fun c3 => ?_)
          · skip
            refine lv_aload_n hx hb dX1_learn_128 rfl (lv_at hl 3 rfl) ?_
            refine va_get (D := (dC, dI)) (ci := 1) (v := .ref (ad 8)) (C := RX1) (T := TX1) (N := 14) hx hb hts hw0 hown hK hP 0 rfl rfl 12 (by decide) (hts (.fieldLink RX1 32 "DropCodeModel" "in" "[Z") (by decide +kernel)) (fun _ h9 => h9) rfl dX1_learn_129 ?_
            refine lv_iload hx hb dX1_learn_132 (lv_at hl 2 rfl) ?_
            refine va_zald (i := nI i) hx hb hK hP 8 1 rfl rfl (vp_in_nI hi32 (by omega)) dX1_learn_134 ?_
            rw [nI_clamp (by omega)]
            refine lv_topi (fun z_10 ez_10 => ?_)
            have ez_10 : z_10 = 0 := ez_10.trans (by rw [hinu_7 i hi, hb9]; rfl)
            subst ez_10
            refine lv_if_eq (tgt := 172) hx hb dX1_learn_135 (by decide) (fun c4 => ?_) (fun c4 => ?_)
            · skip
              have hep : eqP i S (kb ||| tw i) k = false := by unfold eqP; rw [hb9]; rfl
              refine lv_iinc (v := nI (k + 1)) (lv' := [(5, .int (nI (k + 1))), (6, .int (nI (opn (S k) (kb ||| tw i)))), (4, .int (nI i)), (0, .ref (ad 0))]) hx hb dX1_learn_172 hl (k := 1) rfl (nI_1 k) (by decide) rfl (fun ls hl => ?_)
              refine lv_goto (tgt := 86) hx hb dX1_learn_175 (by decide) ?_
              exact ih (k + 1) _ _ _ _ ls (by omega) (by rw [aw_no hep, cn_no hep]; exact hP) (by rw [aw_no hep, cn_no hep]; exact hD) hS (lv_sub hl [0, 2, 3] rfl)
            · skip
              exact absurd rfl c4
          · skip
            exact absurd rfl c3
        | true =>
          rw [bI_t]
          refine lv_if_eq (tgt := 128) hx hb dX1_learn_110 (by decide) (fun c3 => ?_) (fun c3 => ?_)
          · skip
            exact absurd c3 (by decide)
          · skip
            refine lv_iload hx hb dX1_learn_113 (lv_at hl 0 rfl) ?_
            refine lv_iconst (v := 1) hx hb dX1_learn_115 (by decide) ?_
            refine lv_icmp_ne (tgt := 128) hx hb dX1_learn_116 (by decide) (fun c4 => ?_) (fun c4 => ?_)
            · skip
              have hne : ¬ opn (S k) (kb ||| tw i) = 1 := fun h => c4 (by rw [h]; rfl)
              have hep : eqP i S (kb ||| tw i) k = false := by unfold eqP; rw [hb9, decide_eq_false hne]; rfl
              refine lv_aload_n hx hb dX1_learn_128 rfl (lv_at hl 3 rfl) ?_
              refine va_get (D := (dC, dI)) (ci := 1) (v := .ref (ad 8)) (C := RX1) (T := TX1) (N := 14) hx hb hts hw0 hown hK hP 0 rfl rfl 12 (by decide) (hts (.fieldLink RX1 32 "DropCodeModel" "in" "[Z") (by decide +kernel)) (fun _ h9 => h9) rfl dX1_learn_129 ?_
              refine lv_iload hx hb dX1_learn_132 (lv_at hl 2 rfl) ?_
              refine va_zald (i := nI i) hx hb hK hP 8 1 rfl rfl (vp_in_nI hi32 (by omega)) dX1_learn_134 ?_
              rw [nI_clamp (by omega)]
              refine lv_topi (fun z_10 ez_10 => ?_)
              have ez_10 : z_10 = 1 := ez_10.trans (by rw [hinu_7 i hi, hb9]; rfl)
              subst ez_10
              refine lv_if_eq (tgt := 172) hx hb dX1_learn_135 (by decide) (fun c5 => ?_) (fun c5 => ?_)
              · skip
                exact absurd c5 (by decide)
              · skip
                refine lv_iload hx hb dX1_learn_138 (lv_at hl 0 rfl) ?_
                refine lv_if_ne (tgt := 172) hx hb dX1_learn_140 (by decide) (fun c6 => ?_) (fun c6 => ?_)
                · skip
                  have hep : eqP i S (kb ||| tw i) k = false := hep
                  refine lv_iinc (v := nI (k + 1)) (lv' := [(5, .int (nI (k + 1))), (6, .int (nI (opn (S k) (kb ||| tw i)))), (4, .int (nI i)), (0, .ref (ad 0))]) hx hb dX1_learn_172 hl (k := 1) rfl (nI_1 k) (by decide) rfl (fun ls hl => ?_)
                  refine lv_goto (tgt := 86) hx hb dX1_learn_175 (by decide) ?_
                  exact ih (k + 1) _ _ _ _ ls (by omega) (by rw [aw_no hep, cn_no hep]; exact hP) (by rw [aw_no hep, cn_no hep]; exact hD) hS (lv_sub hl [0, 2, 3] rfl)
                · skip
                  have ho0 : opn (S k) (kb ||| tw i) = 0 := nI_zero (pc_le _) c6
                  refine lv_aload_n hx hb dX1_learn_143 rfl (lv_at hl 3 rfl) ?_
                  refine va_get (D := (dC, dI)) (ci := 1) (v := .ref (ad 4)) (C := RX1) (T := TX1) (N := 14) hx hb hts hw0 hown hK hP 0 rfl rfl 5 (by decide) (hts (.fieldLink RX1 19 "DropCodeModel" "waits" "[I") (by decide +kernel)) (fun _ h9 => h9) rfl dX1_learn_144 ?_
                  refine lv_iload hx hb dX1_learn_147 (lv_at hl 1 rfl) ?_
                  refine va_iald (i := nI k) hx hb hK hP 4 0 rfl rfl (vp_in_nI hk60 (by omega)) dX1_learn_149 ?_
                  rw [nI_clamp (by omega)]
                  refine lv_topi (fun z_11 ez_11 => ?_)
                  have ez_11 : z_11 = wt k := ez_11.trans (awA_ge (Nat.le_refl k))
                  subst ez_11
                  refine lv_if_ne (tgt := 172) hx hb dX1_learn_150 (by decide) (fun c7 => ?_) (fun c7 => ?_)
                  · skip
                    have hep : eqP i S (kb ||| tw i) k = false := hep
                    refine lv_iinc (v := nI (k + 1)) (lv' := [(5, .int (nI (k + 1))), (6, .int (nI (opn (S k) (kb ||| tw i)))), (4, .int (nI i)), (0, .ref (ad 0))]) hx hb dX1_learn_172 hl (k := 1) rfl (nI_1 k) (by decide) rfl (fun ls hl => ?_)
                    refine lv_goto (tgt := 86) hx hb dX1_learn_175 (by decide) ?_
                    exact ih (k + 1) _ _ _ _ ls (by omega) (by rw [aw_no hep, cn_no hep]; exact hP) (by rw [aw_no hep, cn_no hep]; exact hD) hS (lv_sub hl [0, 2, 3] rfl)
                  · skip
                    refine lv_aload_n hx hb dX1_learn_153 rfl (lv_at hl 3 rfl) ?_
                    refine lv_iload hx hb dX1_learn_154 (lv_at hl 1 rfl) ?_
                    have hFc := va_free (wc := (rW ad cI cZ K row (nI n) sd vl (awA wt T (eqP i S (kb ||| tw i)) k) (nI (T + cn (eqP i S (kb ||| tw i)) k)) (upd kn i (vp_nar .boolean 1)) (upd tl i (vl j ^^^ xk K tl (S j) kb)) (upd od F (nI i)) (nI (F + 1)) cl u_7.1 u_7.2)) hD hS hA [0, 1, 2, 3, 4, 5, 6, 7, 8] rfl
                    refine va_calli (va_runV (As := [.int (nI k)]) (rest := []) ⟨hx, hb, hml, hown, hts⟩ (c_X1_off l dC dI H.size ad cI cZ K row (nI n) sd vl (awA wt T (eqP i S (kb ||| tw i)) k) (nI (T + cn (eqP i S (kb ||| tw i)) k)) (upd kn i (vp_nar .boolean 1)) (upd tl i (vl j ^^^ xk K tl (S j) kb)) (upd od F (nI i)) (nI (F + 1)) cl u_7.1 u_7.2 hK1 hK2 (kb ||| tw i) hkn2 k hk60) (cwV 1 hts gX1_learn_X1_off rfl rfl rfl (by decide +kernel) ⟨Nat.le_of_ble_eq_true rfl, Nat.le_of_ble_eq_true rfl⟩) ⟨wFb, va_recv hK hP (ci := 1) (q0 := 0) rfl rfl, fun U hU hW => ⟨rfl, by rw [hU], by rw [hU]; exact hP, va_K.moved hW.alike hK, hD.weaken (fun _ _ _ _ => trivial)⟩⟩ rfl rfl hl.1 rfl (lv_room (Nat.le_of_ble_eq_true rfl)) dX1_learn_156 ⟨Nat.le_of_ble_eq_true rfl, Nat.le_of_ble_eq_true rfl⟩) hS (fun q _ h => hFc q h) hFc (fun r_12 u_13 t H1 locs ht hvm hwu_13 hB hz1 hk1 hS => ?_)
                    obtain ⟨hP1, hK1, hD1⟩ := hB
                    rw [ht] at hP1
                    obtain ⟨hP, hD⟩ := va_join (wr := []) (w1 := (rW ad cI cZ K row (nI n) sd vl (awA wt T (eqP i S (kb ||| tw i)) k) (nI (T + cn (eqP i S (kb ||| tw i)) k)) (upd kn i (vp_nar .boolean 1)) (upd tl i (vl j ^^^ xk K tl (S j) kb)) (upd od F (nI i)) (nI (F + 1)) cl u_13.1 u_13.2)) hP hD [0, 1, 2, 3, 4, 5, 6, 7, 8] [] rfl rfl (by decide) (by decide) hk1 hFc hP1 hD1
                    clear hP1 hD1 hK1 hFc hk1 hz1
                    generalize H1 = H at hP hS ⊢
                    have hP : va_P (dC, dI) vwCl (rW ad cI cZ K row (nI n) sd vl (awA wt T (eqP i S (kb ||| tw i)) k) (nI (T + cn (eqP i S (kb ||| tw i)) k)) (upd kn i (vp_nar .boolean 1)) (upd tl i (vl j ^^^ xk K tl (S j) kb)) (upd od F (nI i)) (nI (F + 1)) cl u_13.1 u_13.2) H := hP
                    have hD : va_D A (rW ad cI cZ K row (nI n) sd vl (awA wt T (eqP i S (kb ||| tw i)) k) (nI (T + cn (eqP i S (kb ||| tw i)) k)) (upd kn i (vp_nar .boolean 1)) (upd tl i (vl j ^^^ xk K tl (S j) kb)) (upd od F (nI i)) (nI (F + 1)) cl u_13.1 u_13.2) := hD
                    obtain ⟨rfl, hinu_13⟩ := hwu_13
                    refine lv_topi (fun z_14 ez_14 => ?_)
                    have ez_14 : z_14 = 0 := ez_14.trans (by rw [← hSk]; exact hnc k hkn9 hb9 ho0 c7)
                    subst ez_14
                    refine lv_if_eq (tgt := 172) hx hb dX1_learn_159 (by decide) (fun c8 => ?_) (fun c8 => ?_)
                    · skip
                      have hep : eqP i S (kb ||| tw i) k = false := hep
                      refine lv_iinc (v := nI (k + 1)) (lv' := [(5, .int (nI (k + 1))), (6, .int (nI (opn (S k) (kb ||| tw i)))), (4, .int (nI i)), (0, .ref (ad 0))]) hx hb dX1_learn_172 hl (k := 1) rfl (nI_1 k) (by decide) rfl (fun ls hl => ?_)
                      refine lv_goto (tgt := 86) hx hb dX1_learn_175 (by decide) ?_
                      exact ih (k + 1) _ _ _ _ ls (by omega) (by rw [aw_no hep, cn_no hep]; exact hP) (by rw [aw_no hep, cn_no hep]; exact hD) hS (lv_sub hl [0, 2, 3] rfl)
                    · skip
                      exact absurd rfl c8
            · skip
              have hop : opn (S k) (kb ||| tw i) = 1 := nI_one (pc_le _) c4
              have hep : eqP i S (kb ||| tw i) k = true := by unfold eqP; rw [hb9, decide_eq_true hop]; rfl
              refine lv_aload_n hx hb dX1_learn_119 rfl (lv_at hl 3 rfl) ?_
              refine lv_iload hx hb dX1_learn_120 (lv_at hl 1 rfl) ?_
              have hFc := va_free (wc := (rW ad cI cZ K row (nI n) sd vl (awA wt T (eqP i S (kb ||| tw i)) k) (nI (T + cn (eqP i S (kb ||| tw i)) k)) (upd kn i (vp_nar .boolean 1)) (upd tl i (vl j ^^^ xk K tl (S j) kb)) (upd od F (nI i)) (nI (F + 1)) cl u_7.1 u_7.2)) hD hS hA [0, 1, 2, 3, 4, 5, 6, 7, 8] rfl
              refine va_callv (va_runV (As := [.int (nI k)]) (rest := []) ⟨hx, hb, hml, hown, hts⟩ (c_X1_await l dC dI H.size ad cI cZ K row (nI n) sd vl (awA wt T (eqP i S (kb ||| tw i)) k) (upd kn i (vp_nar .boolean 1)) (upd tl i (vl j ^^^ xk K tl (S j) kb)) (upd od F (nI i)) (nI (F + 1)) cl u_7.1 u_7.2 (T + cn (eqP i S (kb ||| tw i)) k) k hk60) (cwV 1 hts gX1_learn_X1_await rfl rfl rfl (by decide +kernel) ⟨Nat.le_of_ble_eq_true rfl, Nat.le_of_ble_eq_true rfl⟩) ⟨wFb, va_recv hK hP (ci := 1) (q0 := 0) rfl rfl, fun U hU hW => ⟨rfl, by rw [hU], by rw [hU]; exact hP, va_K.moved hW.alike hK, hD.weaken (fun _ _ _ _ => trivial)⟩⟩ rfl rfl hl.1 rfl (lv_room (Nat.le_of_ble_eq_true rfl)) dX1_learn_122 ⟨Nat.le_of_ble_eq_true rfl, Nat.le_of_ble_eq_true rfl⟩) hS (fun q _ h => hFc q h) hFc (fun u t H1 locs ht hvm hw hB hz1 hk1 hS => ?_)
              obtain ⟨hP1, hK1, hD1⟩ := hB
              rw [ht] at hP1
              obtain ⟨hP, hD⟩ := va_join (wr := []) (w1 := (rW ad cI cZ K row (nI n) sd vl (upd (awA wt T (eqP i S (kb ||| tw i)) k) k (nI (T + cn (eqP i S (kb ||| tw i)) k + 1))) (nI (T + cn (eqP i S (kb ||| tw i)) k + 1)) (upd kn i (vp_nar .boolean 1)) (upd tl i (vl j ^^^ xk K tl (S j) kb)) (upd od F (nI i)) (nI (F + 1)) cl u_7.1 u_7.2)) hP hD [0, 1, 2, 3, 4, 5, 6, 7, 8] [] rfl rfl (by decide) (by decide) hk1 hFc hP1 hD1
              clear hP1 hD1 hK1 hFc hk1 hz1
              generalize H1 = H at hP hS ⊢
              have hP : va_P (dC, dI) vwCl (rW ad cI cZ K row (nI n) sd vl (upd (awA wt T (eqP i S (kb ||| tw i)) k) k (nI (T + cn (eqP i S (kb ||| tw i)) k + 1))) (nI (T + cn (eqP i S (kb ||| tw i)) k + 1)) (upd kn i (vp_nar .boolean 1)) (upd tl i (vl j ^^^ xk K tl (S j) kb)) (upd od F (nI i)) (nI (F + 1)) cl u_7.1 u_7.2) H := hP
              have hD : va_D A (rW ad cI cZ K row (nI n) sd vl (upd (awA wt T (eqP i S (kb ||| tw i)) k) k (nI (T + cn (eqP i S (kb ||| tw i)) k + 1))) (nI (T + cn (eqP i S (kb ||| tw i)) k + 1)) (upd kn i (vp_nar .boolean 1)) (upd tl i (vl j ^^^ xk K tl (S j) kb)) (upd od F (nI i)) (nI (F + 1)) cl u_7.1 u_7.2) := hD
              refine lv_goto (tgt := 172) hx hb dX1_learn_125 (by decide) ?_
              refine lv_iinc (v := nI (k + 1)) (lv' := [(5, .int (nI (k + 1))), (6, .int (nI (opn (S k) (kb ||| tw i)))), (4, .int (nI i)), (0, .ref (ad 0))]) hx hb dX1_learn_172 hl (k := 1) rfl (nI_1 k) (by decide) rfl (fun ls hl => ?_)
              refine lv_goto (tgt := 86) hx hb dX1_learn_175 (by decide) ?_
              exact ih (k + 1) _ _ _ _ ls (by omega) (by rw [aw_yes hep, cn_s hep, ← Nat.add_assoc]; exact hP) (by rw [aw_yes hep, cn_s hep, ← Nat.add_assoc]; exact hD) hS (lv_sub hl [0, 2, 3] rfl)
  have kW : ∀ (m9 x : Nat) (ls : Array Slot), i = x + m9 → lv_has ls 7 [(4, .int (nI x)), (2, .int (vl j ^^^ xk K tl (S j) kb)), (0, .ref (ad 0)), (1, .int (nI j))] → W p l e (headSpec wsX1_learn ({ frames := 3, cells := 0, slots := 0, locals := 70 })).room s m ([.ref (ad 0), .int (nI j)] : List Value).toArray below meth c H locs 0 0 (MQ below (va_Qv (fun (u : (Nat → Int32) × Int32) => True) (fun u => oB dC dI [(cI, .int), (cZ, .boolean)] A (rW ad cI cZ K row (nI n) sd vl (awA wt T (eqP i S (kb ||| tw i)) n) (nI (T + cn (eqP i S (kb ||| tw i)) n)) (upd kn i (vp_nar .boolean 1)) (upd tl i (vl j ^^^ xk K tl (S j) kb)) (upd od F (nI i)) (nI (F + 1)) cl u.1 u.2)) A) ([.ref (ad 0), .int (nI j)] : List Value).toArray s 0 0 A) (F0 m 20 ls []) := by
    intro m9
    induction m9 with
    | zero =>
      intro x ls hx9 hl
      have hxi : i = x := by omega
      rw [← hxi] at hl
      refine lv_aload_n hx hb dX1_learn_20 rfl (lv_at hl 2 rfl) ?_
      refine va_get (D := (dC, dI)) (ci := 1) (v := .ref (ad 8)) (C := RX1) (T := TX1) (N := 14) hx hb hts hw0 hown hK hP 0 rfl rfl 12 (by decide) (hts (.fieldLink RX1 32 "DropCodeModel" "in" "[Z") (by decide +kernel)) (fun _ h9 => h9) rfl dX1_learn_21 ?_
      refine lv_iload hx hb dX1_learn_24 (lv_at hl 0 rfl) ?_
      refine va_zald (i := nI i) hx hb hK hP 8 1 rfl rfl (vp_in_nI hi32 (by omega)) dX1_learn_26 ?_
      rw [nI_clamp (by omega)]
      refine lv_topi (fun z_6 ez_6 => ?_)
      have ez_6 : z_6 = 1 := ez_6.trans (by rw [hinu_5 i hi, e2]; rfl)
      subst ez_6
      refine lv_if_eq (tgt := 40) hx hb dX1_learn_27 (by decide) (fun c1 => ?_) (fun c1 => ?_)
      · skip
        exact absurd c1 (by decide)
      · skip
        refine lv_aload_n hx hb dX1_learn_30 rfl (lv_at hl 2 rfl) ?_
        refine va_get (D := (dC, dI)) (ci := 1) (v := .ref (ad 5)) (C := RX1) (T := TX1) (N := 14) hx hb hts hw0 hown hK hP 0 rfl rfl 7 (by decide) (hts (.fieldLink RX1 22 "DropCodeModel" "known" "[Z") (by decide +kernel)) (fun _ h9 => h9) rfl dX1_learn_31 ?_
        refine lv_iload hx hb dX1_learn_34 (lv_at hl 0 rfl) ?_
        refine va_zald (i := nI i) hx hb hK hP 5 1 rfl rfl (vp_in_nI hi32 (by omega)) dX1_learn_36 ?_
        rw [nI_clamp (by omega)]
        refine lv_topi (fun z_7 ez_7 => ?_)
        have ez_7 : z_7 = 0 := ez_7.trans (by rw [hkn i hi, e3]; rfl)
        subst ez_7
        refine lv_if_eq (tgt := 46) hx hb dX1_learn_37 (by decide) (fun c2 => ?_) (fun c2 => ?_)
        · skip
          refine lv_aload_n hx hb dX1_learn_46 rfl (lv_at hl 2 rfl) ?_
          refine va_get (D := (dC, dI)) (ci := 1) (v := .ref (ad 5)) (C := RX1) (T := TX1) (N := 14) hx hb hts hw0 hown hK hP 0 rfl rfl 7 (by decide) (hts (.fieldLink RX1 22 "DropCodeModel" "known" "[Z") (by decide +kernel)) (fun _ h9 => h9) rfl dX1_learn_47 ?_
          refine lv_iload hx hb dX1_learn_50 (lv_at hl 0 rfl) ?_
          refine lv_iconst (v := 1) hx hb dX1_learn_52 (by decide) ?_
          refine va_zast (i := nI i) hx hb hK hP hD hS 5 1 rfl rfl (vp_in_nI hi32 (by omega)) dX1_learn_53 (fun H locs hP hD hS => ?_)
          rw [nI_clamp (by omega)] at hP hD
          have hP : va_P (dC, dI) vwCl (rW ad cI cZ K row (nI n) sd vl wt (nI T) (upd kn i (vp_nar .boolean 1)) tl od (nI F) cl u_5.1 u_5.2) H := hP
          have hD : va_D A (rW ad cI cZ K row (nI n) sd vl wt (nI T) (upd kn i (vp_nar .boolean 1)) tl od (nI F) cl u_5.1 u_5.2) := hD
          refine lv_aload_n hx hb dX1_learn_54 rfl (lv_at hl 2 rfl) ?_
          refine va_get (D := (dC, dI)) (ci := 1) (v := .ref (ad 6)) (C := RX1) (T := TX1) (N := 14) hx hb hts hw0 hown hK hP 0 rfl rfl 8 (by decide) (hts (.fieldLink RX1 26 "DropCodeModel" "told" "[I") (by decide +kernel)) (fun _ h9 => h9) rfl dX1_learn_55 ?_
          refine lv_iload hx hb dX1_learn_58 (lv_at hl 0 rfl) ?_
          refine lv_iload_n hx hb dX1_learn_60 rfl (lv_at hl 1 rfl) ?_
          refine va_iast (i := nI i) hx hb hK hP hD hS 6 0 rfl rfl (vp_in_nI hi32 (by omega)) dX1_learn_61 (fun H locs hP hD hS => ?_)
          rw [nI_clamp (by omega)] at hP hD
          have hP : va_P (dC, dI) vwCl (rW ad cI cZ K row (nI n) sd vl wt (nI T) (upd kn i (vp_nar .boolean 1)) (upd tl i (vl j ^^^ xk K tl (S j) kb)) od (nI F) cl u_5.1 u_5.2) H := hP
          have hD : va_D A (rW ad cI cZ K row (nI n) sd vl wt (nI T) (upd kn i (vp_nar .boolean 1)) (upd tl i (vl j ^^^ xk K tl (S j) kb)) od (nI F) cl u_5.1 u_5.2) := hD
          refine lv_aload_n hx hb dX1_learn_62 rfl (lv_at hl 2 rfl) ?_
          refine va_get (D := (dC, dI)) (ci := 1) (v := .ref (ad 7)) (C := RX1) (T := TX1) (N := 14) hx hb hts hw0 hown hK hP 0 rfl rfl 9 (by decide) (hts (.fieldLink RX1 29 "DropCodeModel" "order" "[I") (by decide +kernel)) (fun _ h9 => h9) rfl dX1_learn_63 ?_
          refine lv_aload_n hx hb dX1_learn_66 rfl (lv_at hl 2 rfl) ?_
          refine va_get (D := (dC, dI)) (ci := 1) (v := .int (nI F)) (C := RX1) (T := TX1) (N := 14) hx hb hts hw0 hown hK hP 0 rfl rfl 10 (by decide) (hts (.fieldLink RX1 62 "DropCodeModel" "found" "I") (by decide +kernel)) (fun _ h9 => h9) rfl dX1_learn_67 ?_
          refine lv_iload hx hb dX1_learn_70 (lv_at hl 0 rfl) ?_
          refine va_iast (i := nI F) hx hb hK hP hD hS 7 0 rfl rfl (vp_in_nI hF (by omega)) dX1_learn_72 (fun H locs hP hD hS => ?_)
          rw [nI_clamp (by omega)] at hP hD
          have hP : va_P (dC, dI) vwCl (rW ad cI cZ K row (nI n) sd vl wt (nI T) (upd kn i (vp_nar .boolean 1)) (upd tl i (vl j ^^^ xk K tl (S j) kb)) (upd od F (nI i)) (nI F) cl u_5.1 u_5.2) H := hP
          have hD : va_D A (rW ad cI cZ K row (nI n) sd vl wt (nI T) (upd kn i (vp_nar .boolean 1)) (upd tl i (vl j ^^^ xk K tl (S j) kb)) (upd od F (nI i)) (nI F) cl u_5.1 u_5.2) := hD
          refine lv_aload_n hx hb dX1_learn_73 rfl (lv_at hl 2 rfl) ?_
          refine lv_dup hx hb dX1_learn_74 rfl ?_
          refine va_get (D := (dC, dI)) (ci := 1) (v := .int (nI F)) (C := RX1) (T := TX1) (N := 14) hx hb hts hw0 hown hK hP 0 rfl rfl 10 (by decide) (hts (.fieldLink RX1 62 "DropCodeModel" "found" "I") (by decide +kernel)) (fun _ h9 => h9) rfl dX1_learn_75 ?_
          refine lv_iconst (v := 1) hx hb dX1_learn_78 (by decide) ?_
          refine lv_iadd hx hb dX1_learn_79 ?_
          refine lv_topi (fun z_8 ez_8 => ?_)
          have ez_8 : z_8 = nI (F + 1) := ez_8.trans (nI_1 F)
          subst ez_8
          refine va_put (D := (dC, dI)) (ci := 1) (v := .int (nI (F + 1))) (ty := .int) (C := RX1) (T := TX1) (N := 14) hx hb hts hw0 tyX1 tyX1_ok nmX1 hown hK hP hD hS 0 rfl rfl 10 (by decide) (hts (.fieldLink RX1 62 "DropCodeModel" "found" "I") (by decide +kernel)) (fun _ h9 => h9) rfl (by decide +kernel) rfl rfl (Nat.le_of_ble_eq_true rfl) dX1_learn_80 (fun H locs hP hD hS => ?_)
          have hP : va_P (dC, dI) vwCl (rW ad cI cZ K row (nI n) sd vl wt (nI T) (upd kn i (vp_nar .boolean 1)) (upd tl i (vl j ^^^ xk K tl (S j) kb)) (upd od F (nI i)) (nI (F + 1)) cl u_5.1 u_5.2) H := hP
          have hD : va_D A (rW ad cI cZ K row (nI n) sd vl wt (nI T) (upd kn i (vp_nar .boolean 1)) (upd tl i (vl j ^^^ xk K tl (S j) kb)) (upd od F (nI i)) (nI (F + 1)) cl u_5.1 u_5.2) := hD
          refine lv_iconst (v := 0) hx hb dX1_learn_83 (by decide) ?_
          refine lv_istore (lv' := [(5, .int 0), (4, .int (nI i)), (2, .int (vl j ^^^ xk K tl (S j) kb)), (0, .ref (ad 0)), (1, .int (nI j))]) hx hb dX1_learn_84 hl (by decide) rfl (fun ls hl => ?_)
          exact kL n 0 _ _ _ _ ls (by omega) hP hD hS (lv_sub hl [0, 1, 3] rfl)
        · skip
          exact absurd rfl c2
    | succ m9 ih =>
      intro x ls hx9 hl
      have hx32 : x < 32 := by omega
      have hxK : x < K := by omega
      have hun : bt (unk (S j) kb) x = false := by rw [e1, bt_tw hi32]; exact decide_eq_false (by omega)
      rw [bt_unk] at hun
      refine lv_aload_n hx hb dX1_learn_20 rfl (lv_at hl 2 rfl) ?_
      refine va_get (D := (dC, dI)) (ci := 1) (v := .ref (ad 8)) (C := RX1) (T := TX1) (N := 14) hx hb hts hw0 hown hK hP 0 rfl rfl 12 (by decide) (hts (.fieldLink RX1 32 "DropCodeModel" "in" "[Z") (by decide +kernel)) (fun _ h9 => h9) rfl dX1_learn_21 ?_
      refine lv_iload hx hb dX1_learn_24 (lv_at hl 0 rfl) ?_
      refine va_zald (i := nI x) hx hb hK hP 8 1 rfl rfl (vp_in_nI hx32 (by omega)) dX1_learn_26 ?_
      rw [nI_clamp (by omega)]
      refine lv_topi (fun z_6 ez_6 => ?_)
      have ez_6 : z_6 = bI (bt (S j) x) := ez_6.trans (hinu_5 x hxK)
      subst ez_6
      cases hb8 : bt (S j) x with
      | false =>
        rw [bI_f]
        refine lv_if_eq (tgt := 40) hx hb dX1_learn_27 (by decide) (fun c_7 => ?_) (fun c_7 => ?_)
        · skip
          refine lv_iinc (v := nI (x + 1)) (lv' := [(4, .int (nI (x + 1))), (2, .int (vl j ^^^ xk K tl (S j) kb)), (0, .ref (ad 0)), (1, .int (nI j))]) hx hb dX1_learn_40 hl (k := 0) rfl (nI_1 x) (by decide) rfl (fun ls hl => ?_)
          refine lv_goto (tgt := 20) hx hb dX1_learn_43 (by decide) ?_
          exact ih (x + 1) ls (by omega) (lv_sub hl [0, 1, 2, 3] rfl)
        · skip
          exact absurd rfl c_7
      | true =>
        rw [bI_t]
        refine lv_if_eq (tgt := 40) hx hb dX1_learn_27 (by decide) (fun c_7 => ?_) (fun c_7 => ?_)
        · skip
          exact absurd c_7 (by decide)
        · skip
          refine lv_aload_n hx hb dX1_learn_30 rfl (lv_at hl 2 rfl) ?_
          refine va_get (D := (dC, dI)) (ci := 1) (v := .ref (ad 5)) (C := RX1) (T := TX1) (N := 14) hx hb hts hw0 hown hK hP 0 rfl rfl 7 (by decide) (hts (.fieldLink RX1 22 "DropCodeModel" "known" "[Z") (by decide +kernel)) (fun _ h9 => h9) rfl dX1_learn_31 ?_
          refine lv_iload hx hb dX1_learn_34 (lv_at hl 0 rfl) ?_
          refine va_zald (i := nI x) hx hb hK hP 5 1 rfl rfl (vp_in_nI hx32 (by omega)) dX1_learn_36 ?_
          rw [nI_clamp (by omega)]
          refine lv_topi (fun z_8 ez_8 => ?_)
          have ez_8 : z_8 = bI (bt kb x) := ez_8.trans (hkn x hxK)
          subst ez_8
          cases hb7 : bt kb x with
          | false =>
            rw [bI_f]
            refine lv_if_eq (tgt := 46) hx hb dX1_learn_37 (by decide) (fun c_9 => ?_) (fun c_9 => ?_)
            · skip
              rw [hb8, hb7] at hun
              cases hun
            · skip
              exact absurd rfl c_9
          | true =>
            rw [bI_t]
            refine lv_if_eq (tgt := 46) hx hb dX1_learn_37 (by decide) (fun c_9 => ?_) (fun c_9 => ?_)
            · skip
              exact absurd c_9 (by decide)
            · skip
              refine lv_iinc (v := nI (x + 1)) (lv' := [(4, .int (nI (x + 1))), (2, .int (vl j ^^^ xk K tl (S j) kb)), (0, .ref (ad 0)), (1, .int (nI j))]) hx hb dX1_learn_40 hl (k := 0) rfl (nI_1 x) (by decide) rfl (fun ls hl => ?_)
              refine lv_goto (tgt := 20) hx hb dX1_learn_43 (by decide) ?_
              exact ih (x + 1) ls (by omega) (lv_sub hl [0, 1, 2, 3] rfl)
  exact kW i 0 ls (by omega) (lv_sub hl [0, 2, 3, 4] rfl)
