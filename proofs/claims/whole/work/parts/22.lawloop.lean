theorem lw_fg {K T : Nat} {row S V kw ko row2 sd vl wt : Nat → Int32} {kn tl od : Nat → Int32} (hrow : ∀ i, i < K → row i = row2 i) (hk : inF K kn 0) : lwR K 0 T row S V kw ko 0 0 row2 sd vl wt (nI T) kn tl od 0 0 := by
  refine ⟨by omega, hrow, fun k hk => absurd hk (by omega), fun k hk => absurd hk (by omega), fun i h => ?_, fun k hk => absurd hk (by omega), hk, fun i h => ?_, fun x hx => ?_, ?_, rfl, rfl, fun k hk => absurd hk (by omega)⟩
  · rw [b_0] at h; cases h
  · rw [b_0] at h; cases h
  · rw [pc_0] at hx; omega
  · rw [pc_0]; rfl
set_option maxHeartbeats 4000000 in
set_option maxRecDepth 100000 in
/-- THE LAW'S LOOP: at its head the class and the reference belong together -/
theorem law_loop {p : Program} {l : Launch} {e : Env} {s : State} {m : MethodId} {below : List Frame} {meth : Method} {c : Code} {dC : Nat → ClassId} {dI : Nat → Nat → Nat} {b L : Nat} {xs : Nat → Int32} (hL : L ≤ 1537) (C0 : lw_At p s m meth c b L xs) (ad bd : Nat → Nat) (cI cJ cZ : ClassId) (K : Nat) (hK1 : 1 ≤ K) (hK2 : K ≤ 32) (hK : va_K (dC, dI) vwCl [(cI, .int), (cJ, .int), (cZ, .boolean)] s) :
    ∀ (N i n T : Nat) (row S V kw ko : Nat → Int32) (kb : Int32) (qu : Nat → Int32) (qe cl : Int32) (row2 sd vl wt : Nat → Int32) (tn : Int32) (kn tl od : Nat → Int32) (fd cl2 : Int32) (inn : Nat → Int32) (stt : Int32) (H : Heap) (locs : List Loc) (ls : Array Slot), va_P (dC, dI) vwCl ((xW ad cI K row S V (nI n) kw ko kb qu qe cl) ++ (rW bd cJ cZ K row2 (nI n) sd vl wt tn kn tl od fd cl2 inn stt)) H → va_D (fun q : Nat => s.heap.size ≤ q) ((xW ad cI K row S V (nI n) kw ko kb qu qe cl) ++ (rW bd cJ cZ K row2 (nI n) sd vl wt tn kn tl od fd cl2 inn stt)) → va_S (fun q : Nat => s.heap.size ≤ q) s.heap H locs → lv_has ls 4 [(0, .ref b), (1, .ref (ad 0)), (2, .ref (bd 0)), (3, .int (nI i))] → L ≤ i + N → i ≤ 1540 → T ≤ 20 * i → lwR K n T row S V kw ko kb cl row2 sd vl wt tn kn tl od fd cl2 → W p l e room_1 s m #[Value.ref b] below meth c H locs 16 641 (lw_Z below #[Value.ref b] s) (F0 m 28 ls []) := by
  obtain ⟨hx, hb, hr, hml, hown, hts, hX, hbl, hlocks, hgv⟩ := C0
  have hts := fun w h => hts w (wsL_law_in w h)
  have hown : s.vm.findClass RL = some m.cls := hown
  have hb : c.code = cL_law := hb
  have hA : ∀ q : Nat, s.heap.size ≤ q → (fun q : Nat => s.heap.size ≤ q) q := fun _ h => h
  have hbA : ¬ (fun q : Nat => s.heap.size ≤ q) b := Nat.not_le.mpr hbl
  intro N
  induction N with
  | zero =>
    intro i n T row S V kw ko kb qu qe cl row2 sd vl wt tn kn tl od fd cl2 inn stt H locs ls hP hD hS hl hN hi hT hR
    refine lv_iload_n hx hb dL_law_28 rfl (lv_at hl 3 rfl) ?_
    refine lv_aload_n hx hb dL_law_29 rfl (lv_at hl 0 rfl) ?_
    refine va_slen hx hb hX hbl hbA hS dL_law_30 ?_
    refine lv_iconst (v := 3) hx hb dL_law_31 (by decide) ?_
    refine lv_isub hx hb dL_law_32 ?_
    refine lv_icmp_gt (tgt := 393) hx hb dL_law_33 (by decide) (fun c1 => ?_) (fun c1 => ?_)
    · skip
      refine lv_iconst (v := 1) hx hb dL_law_393 (by decide) ?_
      refine va_forget (fun q hq => hS.2.2 q hq) ?_
      refine W.widen (k := 600000) (n := 7302250) (Nat.le_of_ble_eq_true rfl) (Nat.le_of_ble_eq_true rfl) ?_
      exact lw_ret hx hb hr hlocks dL_law_394
    · skip
      exact absurd (lw_more hL hi c1) (by omega)
  | succ N ih =>
    intro i n T row S V kw ko kb qu qe cl row2 sd vl wt tn kn tl od fd cl2 inn stt H locs ls hP hD hS hl hN hi hT hR
    refine lv_iload_n hx hb dL_law_28 rfl (lv_at hl 3 rfl) ?_
    refine lv_aload_n hx hb dL_law_29 rfl (lv_at hl 0 rfl) ?_
    refine va_slen hx hb hX hbl hbA hS dL_law_30 ?_
    refine lv_iconst (v := 3) hx hb dL_law_31 (by decide) ?_
    refine lv_isub hx hb dL_law_32 ?_
    refine lv_icmp_gt (tgt := 393) hx hb dL_law_33 (by decide) (fun c1 => ?_) (fun c1 => ?_)
    · skip
      refine lv_iconst (v := 1) hx hb dL_law_393 (by decide) ?_
      refine va_forget (fun q hq => hS.2.2 q hq) ?_
      refine W.widen (k := 600000) (n := 7302250) (Nat.le_of_ble_eq_true rfl) (Nat.le_of_ble_eq_true rfl) ?_
      exact lw_ret hx hb hr hlocks dL_law_394
    · skip
      have hmore := lw_more hL hi c1
      have back : ∀ (n T : Nat) (row S V kw ko : Nat → Int32) (kb : Int32) (qu : Nat → Int32) (qe cl : Int32) (row2 sd vl wt : Nat → Int32) (tn : Int32) (kn tl od : Nat → Int32) (fd cl2 : Int32) (inn : Nat → Int32) (stt : Int32) (H : Heap) (locs : List Loc) (ls : Array Slot), va_P (dC, dI) vwCl ((xW ad cI K row S V (nI n) kw ko kb qu qe cl) ++ (rW bd cJ cZ K row2 (nI n) sd vl wt tn kn tl od fd cl2 inn stt)) H → va_D (fun q : Nat => s.heap.size ≤ q) ((xW ad cI K row S V (nI n) kw ko kb qu qe cl) ++ (rW bd cJ cZ K row2 (nI n) sd vl wt tn kn tl od fd cl2 inn stt)) → va_S (fun q : Nat => s.heap.size ≤ q) s.heap H locs → lv_has ls 4 [(0, .ref b), (1, .ref (ad 0)), (2, .ref (bd 0)), (3, .int (nI i))] → T ≤ 20 * i + 60 → lwR K n T row S V kw ko kb cl row2 sd vl wt tn kn tl od fd cl2 → W p l e room_1 s m #[Value.ref b] below meth c H locs 16 641 (lw_Z below #[Value.ref b] s) (F0 m 387 ls []) := by
        intro n T row S V kw ko kb qu qe cl row2 sd vl wt tn kn tl od fd cl2 inn stt H locs ls hP hD hS hl hT hR
        refine lv_iinc (v := nI (i + 3)) (lv' := [(3, .int (nI (i + 3))), (0, .ref b), (1, .ref (ad 0)), (2, .ref (bd 0))]) hx hb dL_law_387 hl (k := 3) rfl (nI_add i 3) (by decide) rfl (fun ls hl => ?_)
        refine lv_goto (tgt := 28) hx hb dL_law_390 (by decide) ?_
        exact ih (i + 3) n T row S V kw ko kb qu qe cl row2 sd vl wt tn kn tl od fd cl2 inn stt H locs ls hP hD hS (lv_sub hl [1, 2, 3, 0] rfl) (by omega) (by omega) (by omega) hR
      obtain ⟨hn60, hrow, hSd, hVl, hkb, hno, hRR⟩ := hR
      have r4 := hRR.2.2.2.1
      have r5 := hRR.2.2.2.2.1
      have r6 := hRR.2.2.2.2.2.1
      subst r4
      subst r5
      subst r6
      have hkn := hRR.1
      have hS0 := lw_S (T := T) hK1 hK2 hSd
      have hpcK := pc_leK hK2 hkb
      refine lv_aload_n hx hb dL_law_36 rfl (lv_at hl 0 rfl) ?_
      refine lv_iload_n hx hb dL_law_37 rfl (lv_at hl 3 rfl) ?_
      refine va_sld hx hb hX hbl hbA hS (vp_in_nI (n := i) (by omega) (by omega)) dL_law_38 ?_
      rw [nI_clamp (by omega)]
      refine lv_bipush (v := 15) hx hb dL_law_39 (by decide) ?_
      refine lv_iand hx hb dL_law_41 ?_
      obtain ⟨sw, hsw, esw⟩ := pk_andE (xs i) (m := 15) 4 (by decide +kernel)
      rw [esw]
      rcases (show sw = 0 ∨ sw = 1 ∨ sw = 2 ∨ sw = 3 ∨ sw = 4 ∨ sw = 5 ∨ sw = 6 ∨ sw = 7 ∨ sw = 8 ∨ sw = 9 ∨ sw = 10 ∨ sw = 11 ∨ sw = 12 ∨ 12 < sw by omega) with rfl | rfl | rfl | rfl | rfl | rfl | rfl | rfl | rfl | rfl | rfl | rfl | rfl | hsw2
      · skip
        refine lv_tableIn (off := 66) (tgt := 108) hx hb dL_law_42 (by decide) (by decide) (by decide) (by decide) ?_
        refine lv_aload_n hx hb dL_law_108 rfl (lv_at hl 1 rfl) ?_
        refine lv_aload_n hx hb dL_law_109 rfl (lv_at hl 0 rfl) ?_
        refine lv_iload_n hx hb dL_law_110 rfl (lv_at hl 3 rfl) ?_
        refine lv_iconst (v := 1) hx hb dL_law_111 (by decide) ?_
        refine lv_iadd hx hb dL_law_112 ?_
        refine lv_topi (fun z_1 ez_1 => ?_)
        have ez_1 : z_1 = nI (i + 1) := ez_1.trans (nI_add i 1)
        subst ez_1
        refine va_sld hx hb hX hbl hbA hS (vp_in_nI (n := (i + 1)) (by omega) (by omega)) dL_law_113 ?_
        rw [nI_clamp (by omega)]
        refine lv_aload_n hx hb dL_law_114 rfl (lv_at hl 0 rfl) ?_
        refine lv_iload_n hx hb dL_law_115 rfl (lv_at hl 3 rfl) ?_
        refine lv_iconst (v := 2) hx hb dL_law_116 (by decide) ?_
        refine lv_iadd hx hb dL_law_117 ?_
        refine lv_topi (fun z_2 ez_2 => ?_)
        have ez_2 : z_2 = nI (i + 2) := ez_2.trans (nI_add i 2)
        subst ez_2
        refine va_sld hx hb hX hbl hbA hS (vp_in_nI (n := (i + 2)) (by omega) (by omega)) dL_law_118 ?_
        rw [nI_clamp (by omega)]
        have hPc := hP.sub (ws' := (xW ad cI K row S V (nI n) kw ko kb qu qe cl2)) [0, 1, 2, 3, 4, 5, 6] rfl
        have hKc := hK.sub (tys' := [(cI, .int)]) [0] rfl
        have hDc := hD.sub (ws' := (xW ad cI K row S V (nI n) kw ko kb qu qe cl2)) [0, 1, 2, 3, 4, 5, 6] (by decide) rfl
        have hFc := va_free (wc := (xW ad cI K row S V (nI n) kw ko kb qu qe cl2)) hD hS hA [0, 1, 2, 3, 4, 5, 6] rfl
        refine va_calli (va_runV (As := [.int (xs (i + 1)), .int (xs (i + 2))]) (rest := []) ⟨hx, hb, hml, hown, hts⟩ (c_X0_put l dC dI H.size ad cI K row S V (nI n) kw ko kb qu qe cl2 hK1 hK2 (xs (i + 1)) (xs (i + 2))) (cwV 2 hts gL_law_X0_put rfl rfl rfl (by decide +kernel) ⟨Nat.le_of_ble_eq_true rfl, Nat.le_of_ble_eq_true rfl⟩) ⟨wFb, va_recv hKc hPc (ci := 0) (q0 := 0) rfl rfl, fun U hU hW => ⟨rfl, by rw [hU], by rw [hU]; exact hPc, va_K.moved hW.alike hKc, hDc.weaken (fun _ _ _ _ => trivial)⟩⟩ rfl rfl hl.1 rfl (lv_room (Nat.le_of_ble_eq_true rfl)) dL_law_119 ⟨Nat.le_of_ble_eq_true rfl, Nat.le_of_ble_eq_true rfl⟩) hS (fun q _ h => hFc q h) hFc (fun r_3 u_4 t H1 locs ht hvm hw hB hz1 hk1 hS => ?_)
        obtain ⟨hP1, hK1, hD1⟩ := hB
        rw [ht] at hP1
        obtain ⟨hP, hD⟩ := va_join (wr := (rW bd cJ cZ K row2 (nI n) sd vl wt (nI T) kn tl od (nI (pc kb)) cl2 inn stt)) (w1 := (xW ad cI K (ptF K row (xs (i + 1)) (xs (i + 2))) S V (nI n) kw ko kb qu qe cl2)) hP hD [0, 1, 2, 3, 4, 5, 6] [7, 8, 9, 10, 11, 12, 13, 14, 15] rfl rfl (by decide) (by decide) hk1 hFc hP1 hD1
        clear hP1 hD1 hK1 hFc hk1 hz1 hPc hKc hDc
        generalize H1 = H at hP hS ⊢
        have hP := hP.sub (ws' := ((xW ad cI K (ptF K row (xs (i + 1)) (xs (i + 2))) S V (nI n) kw ko kb qu qe cl2) ++ (rW bd cJ cZ K row2 (nI n) sd vl wt (nI T) kn tl od (nI (pc kb)) cl2 inn stt))) [9, 10, 11, 12, 13, 14, 15, 0, 1, 2, 3, 4, 5, 6, 7, 8] rfl
        have hD := hD.sub (ws' := ((xW ad cI K (ptF K row (xs (i + 1)) (xs (i + 2))) S V (nI n) kw ko kb qu qe cl2) ++ (rW bd cJ cZ K row2 (nI n) sd vl wt (nI T) kn tl od (nI (pc kb)) cl2 inn stt))) [9, 10, 11, 12, 13, 14, 15, 0, 1, 2, 3, 4, 5, 6, 7, 8] (by decide) rfl
        have hP : va_P (dC, dI) vwCl ((xW ad cI K (ptF K row (xs (i + 1)) (xs (i + 2))) S V (nI n) kw ko kb qu qe cl2) ++ (rW bd cJ cZ K row2 (nI n) sd vl wt (nI T) kn tl od (nI (pc kb)) cl2 inn stt)) H := hP
        have hD : va_D (fun q : Nat => s.heap.size ≤ q) ((xW ad cI K (ptF K row (xs (i + 1)) (xs (i + 2))) S V (nI n) kw ko kb qu qe cl2) ++ (rW bd cJ cZ K row2 (nI n) sd vl wt (nI T) kn tl od (nI (pc kb)) cl2 inn stt)) := hD
        subst hw
        refine lv_aload_n hx hb dL_law_122 rfl (lv_at hl 2 rfl) ?_
        refine lv_aload_n hx hb dL_law_123 rfl (lv_at hl 0 rfl) ?_
        refine lv_iload_n hx hb dL_law_124 rfl (lv_at hl 3 rfl) ?_
        refine lv_iconst (v := 1) hx hb dL_law_125 (by decide) ?_
        refine lv_iadd hx hb dL_law_126 ?_
        refine lv_topi (fun z_5 ez_5 => ?_)
        have ez_5 : z_5 = nI (i + 1) := ez_5.trans (nI_add i 1)
        subst ez_5
        refine va_sld hx hb hX hbl hbA hS (vp_in_nI (n := (i + 1)) (by omega) (by omega)) dL_law_127 ?_
        rw [nI_clamp (by omega)]
        refine lv_aload_n hx hb dL_law_128 rfl (lv_at hl 0 rfl) ?_
        refine lv_iload_n hx hb dL_law_129 rfl (lv_at hl 3 rfl) ?_
        refine lv_iconst (v := 2) hx hb dL_law_130 (by decide) ?_
        refine lv_iadd hx hb dL_law_131 ?_
        refine lv_topi (fun z_6 ez_6 => ?_)
        have ez_6 : z_6 = nI (i + 2) := ez_6.trans (nI_add i 2)
        subst ez_6
        refine va_sld hx hb hX hbl hbA hS (vp_in_nI (n := (i + 2)) (by omega) (by omega)) dL_law_132 ?_
        rw [nI_clamp (by omega)]
        have hPc := hP.sub (ws' := (rW bd cJ cZ K row2 (nI n) sd vl wt (nI T) kn tl od (nI (pc kb)) cl2 inn stt)) [7, 8, 9, 10, 11, 12, 13, 14, 15] rfl
        have hKc := hK.sub (tys' := [(cJ, .int), (cZ, .boolean)]) [1, 2] rfl
        have hDc := hD.sub (ws' := (rW bd cJ cZ K row2 (nI n) sd vl wt (nI T) kn tl od (nI (pc kb)) cl2 inn stt)) [7, 8, 9, 10, 11, 12, 13, 14, 15] (by decide) rfl
        have hFc := va_free (wc := (rW bd cJ cZ K row2 (nI n) sd vl wt (nI T) kn tl od (nI (pc kb)) cl2 inn stt)) hD hS hA [7, 8, 9, 10, 11, 12, 13, 14, 15] rfl
        refine va_calli (va_runV (As := [.int (xs (i + 1)), .int (xs (i + 2))]) (rest := [.int (if inR K (xs (i + 1)) then 1 else -1)]) ⟨hx, hb, hml, hown, hts⟩ (c_X1_put l dC dI H.size bd cJ cZ K row2 (nI n) sd vl wt (nI T) kn tl od (nI (pc kb)) cl2 inn stt hK1 hK2 (xs (i + 1)) (xs (i + 2))) (cwV 2 hts gL_law_X1_put rfl rfl rfl (by decide +kernel) ⟨Nat.le_of_ble_eq_true rfl, Nat.le_of_ble_eq_true rfl⟩) ⟨wFb, va_recv hKc hPc (ci := 1) (q0 := 0) rfl rfl, fun U hU hW => ⟨rfl, by rw [hU], by rw [hU]; exact hPc, va_K.moved hW.alike hKc, hDc.weaken (fun _ _ _ _ => trivial)⟩⟩ rfl rfl hl.1 rfl (lv_room (Nat.le_of_ble_eq_true rfl)) dL_law_133 ⟨Nat.le_of_ble_eq_true rfl, Nat.le_of_ble_eq_true rfl⟩) hS (fun q _ h => hFc q h) hFc (fun r_7 u_8 t H1 locs ht hvm hw hB hz1 hk1 hS => ?_)
        obtain ⟨hP1, hK1, hD1⟩ := hB
        rw [ht] at hP1
        obtain ⟨hP, hD⟩ := va_join (wr := (xW ad cI K (ptF K row (xs (i + 1)) (xs (i + 2))) S V (nI n) kw ko kb qu qe cl2)) (w1 := (rW bd cJ cZ K (ptF K row2 (xs (i + 1)) (xs (i + 2))) (nI n) sd vl wt (nI T) kn tl od (nI (pc kb)) cl2 inn stt)) hP hD [7, 8, 9, 10, 11, 12, 13, 14, 15] [0, 1, 2, 3, 4, 5, 6] rfl rfl (by decide) (by decide) hk1 hFc hP1 hD1
        clear hP1 hD1 hK1 hFc hk1 hz1 hPc hKc hDc
        generalize H1 = H at hP hS ⊢
        have hP : va_P (dC, dI) vwCl ((xW ad cI K (ptF K row (xs (i + 1)) (xs (i + 2))) S V (nI n) kw ko kb qu qe cl2) ++ (rW bd cJ cZ K (ptF K row2 (xs (i + 1)) (xs (i + 2))) (nI n) sd vl wt (nI T) kn tl od (nI (pc kb)) cl2 inn stt)) H := hP
        have hD : va_D (fun q : Nat => s.heap.size ≤ q) ((xW ad cI K (ptF K row (xs (i + 1)) (xs (i + 2))) S V (nI n) kw ko kb qu qe cl2) ++ (rW bd cJ cZ K (ptF K row2 (xs (i + 1)) (xs (i + 2))) (nI n) sd vl wt (nI T) kn tl od (nI (pc kb)) cl2 inn stt)) := hD
        subst hw
        refine lv_icmp_eq (tgt := 387) hx hb dL_law_136 (by decide) (fun c9 => ?_) (fun c9 => ?_)
        · skip
          exact back _ T _ _ _ _ _ _ _ _ _ _ _ _ _ _ _ _ _ _ _ _ _ _ _ ls hP hD hS (lv_sub hl [0, 1, 2, 3] rfl) (by omega) (⟨hn60, pt_congr hK2 hrow, hSd, hVl, hkb, hno, hRR⟩)
        · skip
          exact absurd (rfl) c9
      · skip
        refine lv_tableIn (off := 99) (tgt := 141) hx hb dL_law_42 (by decide) (by decide) (by decide) (by decide) ?_
        refine lv_aload_n hx hb dL_law_141 rfl (lv_at hl 1 rfl) ?_
        refine lv_aload_n hx hb dL_law_142 rfl (lv_at hl 0 rfl) ?_
        refine lv_iload_n hx hb dL_law_143 rfl (lv_at hl 3 rfl) ?_
        refine lv_iconst (v := 1) hx hb dL_law_144 (by decide) ?_
        refine lv_iadd hx hb dL_law_145 ?_
        refine lv_topi (fun z_1 ez_1 => ?_)
        have ez_1 : z_1 = nI (i + 1) := ez_1.trans (nI_add i 1)
        subst ez_1
        refine va_sld hx hb hX hbl hbA hS (vp_in_nI (n := (i + 1)) (by omega) (by omega)) dL_law_146 ?_
        rw [nI_clamp (by omega)]
        have hPc := hP.sub (ws' := (xW ad cI K row S V (nI n) kw ko kb qu qe cl2)) [0, 1, 2, 3, 4, 5, 6] rfl
        have hKc := hK.sub (tys' := [(cI, .int)]) [0] rfl
        refine vp_callSi (W.runV (As := [.int (xs (i + 1))]) (rest := []) ⟨hx, hb, hml, hown, hts⟩ (c_X0_drop l dC dI ad cI K row S V (nI n) kw ko kb qu qe cl2 hK1 hK2 (xs (i + 1))) (cwV 1 hts gL_law_X0_drop rfl rfl rfl (by decide +kernel) ⟨Nat.le_of_ble_eq_true rfl, Nat.le_of_ble_eq_true rfl⟩) ⟨rFb, va_recv hKc hPc (ci := 0) (q0 := 0) rfl rfl, fun U hU hW => ⟨rfl, by rw [hU]; exact hPc, va_K.moved hW.alike hKc⟩⟩ rfl rfl hl.1 rfl (lv_room (Nat.le_of_ble_eq_true rfl)) dL_law_147 ⟨Nat.le_of_ble_eq_true rfl, Nat.le_of_ble_eq_true rfl⟩) (fun r_2 er_2 => ?_)
        rw [er_2]
        clear er_2 r_2 hPc hKc
        refine lv_aload_n hx hb dL_law_150 rfl (lv_at hl 2 rfl) ?_
        refine lv_aload_n hx hb dL_law_151 rfl (lv_at hl 0 rfl) ?_
        refine lv_iload_n hx hb dL_law_152 rfl (lv_at hl 3 rfl) ?_
        refine lv_iconst (v := 1) hx hb dL_law_153 (by decide) ?_
        refine lv_iadd hx hb dL_law_154 ?_
        refine lv_topi (fun z_3 ez_3 => ?_)
        have ez_3 : z_3 = nI (i + 1) := ez_3.trans (nI_add i 1)
        subst ez_3
        refine va_sld hx hb hX hbl hbA hS (vp_in_nI (n := (i + 1)) (by omega) (by omega)) dL_law_155 ?_
        rw [nI_clamp (by omega)]
        have hPc := hP.sub (ws' := (rW bd cJ cZ K row2 (nI n) sd vl wt (nI T) kn tl od (nI (pc kb)) cl2 inn stt)) [7, 8, 9, 10, 11, 12, 13, 14, 15] rfl
        have hKc := hK.sub (tys' := [(cJ, .int), (cZ, .boolean)]) [1, 2] rfl
        have hDc := hD.sub (ws' := (rW bd cJ cZ K row2 (nI n) sd vl wt (nI T) kn tl od (nI (pc kb)) cl2 inn stt)) [7, 8, 9, 10, 11, 12, 13, 14, 15] (by decide) rfl
        have hFc := va_free (wc := (rW bd cJ cZ K row2 (nI n) sd vl wt (nI T) kn tl od (nI (pc kb)) cl2 inn stt)) hD hS hA [7, 8, 9, 10, 11, 12, 13, 14, 15] rfl
        refine va_calli (va_runV (As := [.int (xs (i + 1))]) (rest := [.int (xf row (setA K (xs (i + 1))) K)]) ⟨hx, hb, hml, hown, hts⟩ (c_X1_drop l dC dI H.size bd cJ cZ K row2 (nI n) sd vl wt (nI T) kn tl od (nI (pc kb)) cl2 inn stt hK1 hK2 (xs (i + 1))) (cwV 1 hts gL_law_X1_drop rfl rfl rfl (by decide +kernel) ⟨Nat.le_of_ble_eq_true rfl, Nat.le_of_ble_eq_true rfl⟩) ⟨wFb, va_recv hKc hPc (ci := 1) (q0 := 0) rfl rfl, fun U hU hW => ⟨rfl, by rw [hU], by rw [hU]; exact hPc, va_K.moved hW.alike hKc, hDc.weaken (fun _ _ _ _ => trivial)⟩⟩ rfl rfl hl.1 rfl (lv_room (Nat.le_of_ble_eq_true rfl)) dL_law_156 ⟨Nat.le_of_ble_eq_true rfl, Nat.le_of_ble_eq_true rfl⟩) hS (fun q _ h => hFc q h) hFc (fun r_4 u_5 t H1 locs ht hvm hw hB hz1 hk1 hS => ?_)
        obtain ⟨hP1, hK1, hD1⟩ := hB
        rw [ht] at hP1
        obtain ⟨hP, hD⟩ := va_join (wr := (xW ad cI K row S V (nI n) kw ko kb qu qe cl2)) (w1 := (rW bd cJ cZ K row2 (nI n) sd vl wt (nI T) kn tl od (nI (pc kb)) cl2 u_5.1 u_5.2)) hP hD [7, 8, 9, 10, 11, 12, 13, 14, 15] [0, 1, 2, 3, 4, 5, 6] rfl rfl (by decide) (by decide) hk1 hFc hP1 hD1
        clear hP1 hD1 hK1 hFc hk1 hz1 hPc hKc hDc
        generalize H1 = H at hP hS ⊢
        have hP : va_P (dC, dI) vwCl ((xW ad cI K row S V (nI n) kw ko kb qu qe cl2) ++ (rW bd cJ cZ K row2 (nI n) sd vl wt (nI T) kn tl od (nI (pc kb)) cl2 u_5.1 u_5.2)) H := hP
        have hD : va_D (fun q : Nat => s.heap.size ≤ q) ((xW ad cI K row S V (nI n) kw ko kb qu qe cl2) ++ (rW bd cJ cZ K row2 (nI n) sd vl wt (nI T) kn tl od (nI (pc kb)) cl2 u_5.1 u_5.2)) := hD
        subst hw
        refine lv_icmp_eq (tgt := 387) hx hb dL_law_159 (by decide) (fun c9 => ?_) (fun c9 => ?_)
        · skip
          exact back _ T _ _ _ _ _ _ _ _ _ _ _ _ _ _ _ _ _ _ _ _ _ _ _ ls hP hD hS (lv_sub hl [0, 1, 2, 3] rfl) (by omega) (⟨hn60, hrow, hSd, hVl, hkb, hno, hRR⟩)
        · skip
          exact absurd (xf_row hrow) c9
      · skip
        refine lv_tableIn (off := 122) (tgt := 164) hx hb dL_law_42 (by decide) (by decide) (by decide) (by decide) ?_
        refine lv_aload_n hx hb dL_law_164 rfl (lv_at hl 1 rfl) ?_
        refine lv_aload_n hx hb dL_law_165 rfl (lv_at hl 0 rfl) ?_
        refine lv_iload_n hx hb dL_law_166 rfl (lv_at hl 3 rfl) ?_
        refine lv_iconst (v := 1) hx hb dL_law_167 (by decide) ?_
        refine lv_iadd hx hb dL_law_168 ?_
        refine lv_topi (fun z_1 ez_1 => ?_)
        have ez_1 : z_1 = nI (i + 1) := ez_1.trans (nI_add i 1)
        subst ez_1
        refine va_sld hx hb hX hbl hbA hS (vp_in_nI (n := (i + 1)) (by omega) (by omega)) dL_law_169 ?_
        rw [nI_clamp (by omega)]
        have hPc := hP.sub (ws' := (xW ad cI K row S V (nI n) kw ko kb qu qe cl2)) [0, 1, 2, 3, 4, 5, 6] rfl
        have hKc := hK.sub (tys' := [(cI, .int)]) [0] rfl
        refine vp_callSi (W.runV (As := [.int (xs (i + 1))]) (rest := []) ⟨hx, hb, hml, hown, hts⟩ (c_X0_degree l dC dI ad cI K row S V (nI n) kw ko kb qu qe cl2 hK1 hK2 (xs (i + 1))) (cwV 1 hts gL_law_X0_degree rfl rfl rfl (by decide +kernel) ⟨Nat.le_of_ble_eq_true rfl, Nat.le_of_ble_eq_true rfl⟩) ⟨rFb, va_recv hKc hPc (ci := 0) (q0 := 0) rfl rfl, fun U hU hW => ⟨rfl, by rw [hU]; exact hPc, va_K.moved hW.alike hKc⟩⟩ rfl rfl hl.1 rfl (lv_room (Nat.le_of_ble_eq_true rfl)) dL_law_170 ⟨Nat.le_of_ble_eq_true rfl, Nat.le_of_ble_eq_true rfl⟩) (fun r_2 er_2 => ?_)
        rw [er_2]
        clear er_2 r_2 hPc hKc
        refine lv_aload_n hx hb dL_law_173 rfl (lv_at hl 2 rfl) ?_
        refine lv_aload_n hx hb dL_law_174 rfl (lv_at hl 0 rfl) ?_
        refine lv_iload_n hx hb dL_law_175 rfl (lv_at hl 3 rfl) ?_
        refine lv_iconst (v := 1) hx hb dL_law_176 (by decide) ?_
        refine lv_iadd hx hb dL_law_177 ?_
        refine lv_topi (fun z_3 ez_3 => ?_)
        have ez_3 : z_3 = nI (i + 1) := ez_3.trans (nI_add i 1)
        subst ez_3
        refine va_sld hx hb hX hbl hbA hS (vp_in_nI (n := (i + 1)) (by omega) (by omega)) dL_law_178 ?_
        rw [nI_clamp (by omega)]
        have hPc := hP.sub (ws' := (rW bd cJ cZ K row2 (nI n) sd vl wt (nI T) kn tl od (nI (pc kb)) cl2 inn stt)) [7, 8, 9, 10, 11, 12, 13, 14, 15] rfl
        have hKc := hK.sub (tys' := [(cJ, .int), (cZ, .boolean)]) [1, 2] rfl
        have hDc := hD.sub (ws' := (rW bd cJ cZ K row2 (nI n) sd vl wt (nI T) kn tl od (nI (pc kb)) cl2 inn stt)) [7, 8, 9, 10, 11, 12, 13, 14, 15] (by decide) rfl
        have hFc := va_free (wc := (rW bd cJ cZ K row2 (nI n) sd vl wt (nI T) kn tl od (nI (pc kb)) cl2 inn stt)) hD hS hA [7, 8, 9, 10, 11, 12, 13, 14, 15] rfl
        refine va_calli (va_runV (As := [.int (xs (i + 1))]) (rest := [.int (nI (dg K (dr (ns (xs (i + 1))))))]) ⟨hx, hb, hml, hown, hts⟩ (c_X1_degree l dC dI H.size bd cJ cZ K row2 (nI n) sd vl wt (nI T) kn tl od (nI (pc kb)) cl2 inn stt hK1 hK2 (xs (i + 1))) (cwV 1 hts gL_law_X1_degree rfl rfl rfl (by decide +kernel) ⟨Nat.le_of_ble_eq_true rfl, Nat.le_of_ble_eq_true rfl⟩) ⟨wFb, va_recv hKc hPc (ci := 1) (q0 := 0) rfl rfl, fun U hU hW => ⟨rfl, by rw [hU], by rw [hU]; exact hPc, va_K.moved hW.alike hKc, hDc.weaken (fun _ _ _ _ => trivial)⟩⟩ rfl rfl hl.1 rfl (lv_room (Nat.le_of_ble_eq_true rfl)) dL_law_179 ⟨Nat.le_of_ble_eq_true rfl, Nat.le_of_ble_eq_true rfl⟩) hS (fun q _ h => hFc q h) hFc (fun r_4 u_5 t H1 locs ht hvm hw hB hz1 hk1 hS => ?_)
        obtain ⟨hP1, hK1, hD1⟩ := hB
        rw [ht] at hP1
        obtain ⟨hP, hD⟩ := va_join (wr := (xW ad cI K row S V (nI n) kw ko kb qu qe cl2)) (w1 := (rW bd cJ cZ K row2 (nI n) sd vl wt (nI T) kn tl od (nI (pc kb)) cl2 u_5.1 u_5.2)) hP hD [7, 8, 9, 10, 11, 12, 13, 14, 15] [0, 1, 2, 3, 4, 5, 6] rfl rfl (by decide) (by decide) hk1 hFc hP1 hD1
        clear hP1 hD1 hK1 hFc hk1 hz1 hPc hKc hDc
        generalize H1 = H at hP hS ⊢
        have hP : va_P (dC, dI) vwCl ((xW ad cI K row S V (nI n) kw ko kb qu qe cl2) ++ (rW bd cJ cZ K row2 (nI n) sd vl wt (nI T) kn tl od (nI (pc kb)) cl2 u_5.1 u_5.2)) H := hP
        have hD : va_D (fun q : Nat => s.heap.size ≤ q) ((xW ad cI K row S V (nI n) kw ko kb qu qe cl2) ++ (rW bd cJ cZ K row2 (nI n) sd vl wt (nI T) kn tl od (nI (pc kb)) cl2 u_5.1 u_5.2)) := hD
        subst hw
        refine lv_icmp_eq (tgt := 387) hx hb dL_law_182 (by decide) (fun c9 => ?_) (fun c9 => ?_)
        · skip
          exact back _ T _ _ _ _ _ _ _ _ _ _ _ _ _ _ _ _ _ _ _ _ _ _ _ ls hP hD hS (lv_sub hl [0, 1, 2, 3] rfl) (by omega) (⟨hn60, hrow, hSd, hVl, hkb, hno, hRR⟩)
        · skip
          exact absurd (rfl) c9
      · skip
        refine lv_tableIn (off := 145) (tgt := 187) hx hb dL_law_42 (by decide) (by decide) (by decide) (by decide) ?_
        refine lv_aload_n hx hb dL_law_187 rfl (lv_at hl 1 rfl) ?_
        refine lv_aload_n hx hb dL_law_188 rfl (lv_at hl 0 rfl) ?_
        refine lv_iload_n hx hb dL_law_189 rfl (lv_at hl 3 rfl) ?_
        refine lv_iconst (v := 1) hx hb dL_law_190 (by decide) ?_
        refine lv_iadd hx hb dL_law_191 ?_
        refine lv_topi (fun z_1 ez_1 => ?_)
        have ez_1 : z_1 = nI (i + 1) := ez_1.trans (nI_add i 1)
        subst ez_1
        refine va_sld hx hb hX hbl hbA hS (vp_in_nI (n := (i + 1)) (by omega) (by omega)) dL_law_192 ?_
        rw [nI_clamp (by omega)]
        have hPc := hP.sub (ws' := (xW ad cI K row S V (nI n) kw ko kb qu qe cl2)) [0, 1, 2, 3, 4, 5, 6] rfl
        have hKc := hK.sub (tys' := [(cI, .int)]) [0] rfl
        refine vp_callSi (W.runV (As := [.int (xs (i + 1))]) (rest := []) ⟨hx, hb, hml, hown, hts⟩ (c_X0_set l dC dI ad cI K row S V (nI n) kw ko kb qu qe cl2 hK1 hK2 (xs (i + 1))) (cwV 1 hts gL_law_X0_set rfl rfl rfl (by decide +kernel) ⟨Nat.le_of_ble_eq_true rfl, Nat.le_of_ble_eq_true rfl⟩) ⟨rFb, va_recv hKc hPc (ci := 0) (q0 := 0) rfl rfl, fun U hU hW => ⟨rfl, by rw [hU]; exact hPc, va_K.moved hW.alike hKc⟩⟩ rfl rfl hl.1 rfl (lv_room (Nat.le_of_ble_eq_true rfl)) dL_law_193 ⟨Nat.le_of_ble_eq_true rfl, Nat.le_of_ble_eq_true rfl⟩) (fun r_2 er_2 => ?_)
        rw [er_2]
        clear er_2 r_2 hPc hKc
        refine lv_aload_n hx hb dL_law_196 rfl (lv_at hl 2 rfl) ?_
        refine lv_aload_n hx hb dL_law_197 rfl (lv_at hl 0 rfl) ?_
        refine lv_iload_n hx hb dL_law_198 rfl (lv_at hl 3 rfl) ?_
        refine lv_iconst (v := 1) hx hb dL_law_199 (by decide) ?_
        refine lv_iadd hx hb dL_law_200 ?_
        refine lv_topi (fun z_3 ez_3 => ?_)
        have ez_3 : z_3 = nI (i + 1) := ez_3.trans (nI_add i 1)
        subst ez_3
        refine va_sld hx hb hX hbl hbA hS (vp_in_nI (n := (i + 1)) (by omega) (by omega)) dL_law_201 ?_
        rw [nI_clamp (by omega)]
        have hPc := hP.sub (ws' := (rW bd cJ cZ K row2 (nI n) sd vl wt (nI T) kn tl od (nI (pc kb)) cl2 inn stt)) [7, 8, 9, 10, 11, 12, 13, 14, 15] rfl
        have hKc := hK.sub (tys' := [(cJ, .int), (cZ, .boolean)]) [1, 2] rfl
        have hDc := hD.sub (ws' := (rW bd cJ cZ K row2 (nI n) sd vl wt (nI T) kn tl od (nI (pc kb)) cl2 inn stt)) [7, 8, 9, 10, 11, 12, 13, 14, 15] (by decide) rfl
        have hFc := va_free (wc := (rW bd cJ cZ K row2 (nI n) sd vl wt (nI T) kn tl od (nI (pc kb)) cl2 inn stt)) hD hS hA [7, 8, 9, 10, 11, 12, 13, 14, 15] rfl
        refine va_calli (va_runV (As := [.int (xs (i + 1))]) (rest := [.int (setA K (xs (i + 1)))]) ⟨hx, hb, hml, hown, hts⟩ (c_X1_set l dC dI H.size bd cJ cZ K row2 (nI n) sd vl wt (nI T) kn tl od (nI (pc kb)) cl2 inn stt hK1 hK2 (xs (i + 1))) (cwV 1 hts gL_law_X1_set rfl rfl rfl (by decide +kernel) ⟨Nat.le_of_ble_eq_true rfl, Nat.le_of_ble_eq_true rfl⟩) ⟨wFb, va_recv hKc hPc (ci := 1) (q0 := 0) rfl rfl, fun U hU hW => ⟨rfl, by rw [hU], by rw [hU]; exact hPc, va_K.moved hW.alike hKc, hDc.weaken (fun _ _ _ _ => trivial)⟩⟩ rfl rfl hl.1 rfl (lv_room (Nat.le_of_ble_eq_true rfl)) dL_law_202 ⟨Nat.le_of_ble_eq_true rfl, Nat.le_of_ble_eq_true rfl⟩) hS (fun q _ h => hFc q h) hFc (fun r_4 u_5 t H1 locs ht hvm hw hB hz1 hk1 hS => ?_)
        obtain ⟨hP1, hK1, hD1⟩ := hB
        rw [ht] at hP1
        obtain ⟨hP, hD⟩ := va_join (wr := (xW ad cI K row S V (nI n) kw ko kb qu qe cl2)) (w1 := (rW bd cJ cZ K row2 (nI n) sd vl wt (nI T) kn tl od (nI (pc kb)) cl2 u_5.1 u_5.2)) hP hD [7, 8, 9, 10, 11, 12, 13, 14, 15] [0, 1, 2, 3, 4, 5, 6] rfl rfl (by decide) (by decide) hk1 hFc hP1 hD1
        clear hP1 hD1 hK1 hFc hk1 hz1 hPc hKc hDc
        generalize H1 = H at hP hS ⊢
        have hP : va_P (dC, dI) vwCl ((xW ad cI K row S V (nI n) kw ko kb qu qe cl2) ++ (rW bd cJ cZ K row2 (nI n) sd vl wt (nI T) kn tl od (nI (pc kb)) cl2 u_5.1 u_5.2)) H := hP
        have hD : va_D (fun q : Nat => s.heap.size ≤ q) ((xW ad cI K row S V (nI n) kw ko kb qu qe cl2) ++ (rW bd cJ cZ K row2 (nI n) sd vl wt (nI T) kn tl od (nI (pc kb)) cl2 u_5.1 u_5.2)) := hD
        subst hw
        refine lv_icmp_eq (tgt := 387) hx hb dL_law_205 (by decide) (fun c9 => ?_) (fun c9 => ?_)
        · skip
          exact back _ T _ _ _ _ _ _ _ _ _ _ _ _ _ _ _ _ _ _ _ _ _ _ _ ls hP hD hS (lv_sub hl [0, 1, 2, 3] rfl) (by omega) (⟨hn60, hrow, hSd, hVl, hkb, hno, hRR⟩)
        · skip
          exact absurd (rfl) c9
      · skip
        refine lv_tableIn (off := 168) (tgt := 210) hx hb dL_law_42 (by decide) (by decide) (by decide) (by decide) ?_
        rcases Nat.lt_or_ge n 60 with hlt | hge
        · skip
          refine lv_aload_n hx hb dL_law_210 rfl (lv_at hl 1 rfl) ?_
          refine lv_aload_n hx hb dL_law_211 rfl (lv_at hl 0 rfl) ?_
          refine lv_iload_n hx hb dL_law_212 rfl (lv_at hl 3 rfl) ?_
          refine lv_iconst (v := 1) hx hb dL_law_213 (by decide) ?_
          refine lv_iadd hx hb dL_law_214 ?_
          refine lv_topi (fun z_1 ez_1 => ?_)
          have ez_1 : z_1 = nI (i + 1) := ez_1.trans (nI_add i 1)
          subst ez_1
          refine va_sld hx hb hX hbl hbA hS (vp_in_nI (n := (i + 1)) (by omega) (by omega)) dL_law_215 ?_
          rw [nI_clamp (by omega)]
          refine lv_aload_n hx hb dL_law_216 rfl (lv_at hl 0 rfl) ?_
          refine lv_iload_n hx hb dL_law_217 rfl (lv_at hl 3 rfl) ?_
          refine lv_iconst (v := 2) hx hb dL_law_218 (by decide) ?_
          refine lv_iadd hx hb dL_law_219 ?_
          refine lv_topi (fun z_2 ez_2 => ?_)
          have ez_2 : z_2 = nI (i + 2) := ez_2.trans (nI_add i 2)
          subst ez_2
          refine va_sld hx hb hX hbl hbA hS (vp_in_nI (n := (i + 2)) (by omega) (by omega)) dL_law_220 ?_
          rw [nI_clamp (by omega)]
          have hPc := hP.sub (ws' := (xW ad cI K row S V (nI n) kw ko kb qu qe cl2)) [0, 1, 2, 3, 4, 5, 6] rfl
          have hKc := hK.sub (tys' := [(cI, .int)]) [0] rfl
          have hDc := hD.sub (ws' := (xW ad cI K row S V (nI n) kw ko kb qu qe cl2)) [0, 1, 2, 3, 4, 5, 6] (by decide) rfl
          have hFc := va_free (wc := (xW ad cI K row S V (nI n) kw ko kb qu qe cl2)) hD hS hA [0, 1, 2, 3, 4, 5, 6] rfl
          refine va_calli (va_runV (As := [.int (xs (i + 1)), .int (xs (i + 2))]) (rest := []) ⟨hx, hb, hml, hown, hts⟩ (c_X0_receive l dC dI H.size ad cI K row S V kw ko kb qu qe cl2 hK1 hK2 n hlt (xs (i + 1)) (xs (i + 2)) hS0 hkb hno) (cwV 2 hts gL_law_X0_receive rfl rfl rfl (by decide +kernel) ⟨Nat.le_of_ble_eq_true rfl, Nat.le_of_ble_eq_true rfl⟩) ⟨wFb, va_recv hKc hPc (ci := 0) (q0 := 0) rfl rfl, fun U hU hW => ⟨rfl, by rw [hU], by rw [hU]; exact hPc, va_K.moved hW.alike hKc, hDc.weaken (fun _ _ _ _ => trivial)⟩⟩ rfl rfl hl.1 rfl (lv_room (Nat.le_of_ble_eq_true rfl)) dL_law_221 ⟨Nat.le_of_ble_eq_true rfl, Nat.le_of_ble_eq_true rfl⟩) hS (fun q _ h => hFc q h) hFc (fun r_3 u_4 t H1 locs ht hvm hw hB hz1 hk1 hS => ?_)
          obtain ⟨hP1, hK1, hD1⟩ := hB
          rw [ht] at hP1
          obtain ⟨hP, hD⟩ := va_join (wr := (rW bd cJ cZ K row2 (nI n) sd vl wt (nI T) kn tl od (nI (pc kb)) cl2 inn stt)) (w1 := (xW ad cI K row (upd S n (setA K (xs (i + 1)))) (upd V n (xs (i + 2))) (nI (n + 1)) ((rnF K (n + 1) (upd S n (setA K (xs (i + 1)))) (upd V n (xs (i + 2))) 60 0 (rcI K n (upd S n (setA K (xs (i + 1)))) (upd V n (xs (i + 2))) kw ko kb qu cl2)).1) ((rnF K (n + 1) (upd S n (setA K (xs (i + 1)))) (upd V n (xs (i + 2))) 60 0 (rcI K n (upd S n (setA K (xs (i + 1)))) (upd V n (xs (i + 2))) kw ko kb qu cl2)).2.1) ((rnF K (n + 1) (upd S n (setA K (xs (i + 1)))) (upd V n (xs (i + 2))) 60 0 (rcI K n (upd S n (setA K (xs (i + 1)))) (upd V n (xs (i + 2))) kw ko kb qu cl2)).2.2.1) ((rnF K (n + 1) (upd S n (setA K (xs (i + 1)))) (upd V n (xs (i + 2))) 60 0 (rcI K n (upd S n (setA K (xs (i + 1)))) (upd V n (xs (i + 2))) kw ko kb qu cl2)).2.2.2.1) (nI (rnF K (n + 1) (upd S n (setA K (xs (i + 1)))) (upd V n (xs (i + 2))) 60 0 (rcI K n (upd S n (setA K (xs (i + 1)))) (upd V n (xs (i + 2))) kw ko kb qu cl2)).2.2.2.2.1) ((rnF K (n + 1) (upd S n (setA K (xs (i + 1)))) (upd V n (xs (i + 2))) 60 0 (rcI K n (upd S n (setA K (xs (i + 1)))) (upd V n (xs (i + 2))) kw ko kb qu cl2)).2.2.2.2.2))) hP hD [0, 1, 2, 3, 4, 5, 6] [7, 8, 9, 10, 11, 12, 13, 14, 15] rfl rfl (by decide) (by decide) hk1 hFc hP1 hD1
          clear hP1 hD1 hK1 hFc hk1 hz1 hPc hKc hDc
          generalize H1 = H at hP hS ⊢
          have hP := hP.sub (ws' := ((xW ad cI K row (upd S n (setA K (xs (i + 1)))) (upd V n (xs (i + 2))) (nI (n + 1)) ((rnF K (n + 1) (upd S n (setA K (xs (i + 1)))) (upd V n (xs (i + 2))) 60 0 (rcI K n (upd S n (setA K (xs (i + 1)))) (upd V n (xs (i + 2))) kw ko kb qu cl2)).1) ((rnF K (n + 1) (upd S n (setA K (xs (i + 1)))) (upd V n (xs (i + 2))) 60 0 (rcI K n (upd S n (setA K (xs (i + 1)))) (upd V n (xs (i + 2))) kw ko kb qu cl2)).2.1) ((rnF K (n + 1) (upd S n (setA K (xs (i + 1)))) (upd V n (xs (i + 2))) 60 0 (rcI K n (upd S n (setA K (xs (i + 1)))) (upd V n (xs (i + 2))) kw ko kb qu cl2)).2.2.1) ((rnF K (n + 1) (upd S n (setA K (xs (i + 1)))) (upd V n (xs (i + 2))) 60 0 (rcI K n (upd S n (setA K (xs (i + 1)))) (upd V n (xs (i + 2))) kw ko kb qu cl2)).2.2.2.1) (nI (rnF K (n + 1) (upd S n (setA K (xs (i + 1)))) (upd V n (xs (i + 2))) 60 0 (rcI K n (upd S n (setA K (xs (i + 1)))) (upd V n (xs (i + 2))) kw ko kb qu cl2)).2.2.2.2.1) ((rnF K (n + 1) (upd S n (setA K (xs (i + 1)))) (upd V n (xs (i + 2))) 60 0 (rcI K n (upd S n (setA K (xs (i + 1)))) (upd V n (xs (i + 2))) kw ko kb qu cl2)).2.2.2.2.2)) ++ (rW bd cJ cZ K row2 (nI n) sd vl wt (nI T) kn tl od (nI (pc kb)) cl2 inn stt))) [9, 10, 11, 12, 13, 14, 15, 0, 1, 2, 3, 4, 5, 6, 7, 8] rfl
          have hD := hD.sub (ws' := ((xW ad cI K row (upd S n (setA K (xs (i + 1)))) (upd V n (xs (i + 2))) (nI (n + 1)) ((rnF K (n + 1) (upd S n (setA K (xs (i + 1)))) (upd V n (xs (i + 2))) 60 0 (rcI K n (upd S n (setA K (xs (i + 1)))) (upd V n (xs (i + 2))) kw ko kb qu cl2)).1) ((rnF K (n + 1) (upd S n (setA K (xs (i + 1)))) (upd V n (xs (i + 2))) 60 0 (rcI K n (upd S n (setA K (xs (i + 1)))) (upd V n (xs (i + 2))) kw ko kb qu cl2)).2.1) ((rnF K (n + 1) (upd S n (setA K (xs (i + 1)))) (upd V n (xs (i + 2))) 60 0 (rcI K n (upd S n (setA K (xs (i + 1)))) (upd V n (xs (i + 2))) kw ko kb qu cl2)).2.2.1) ((rnF K (n + 1) (upd S n (setA K (xs (i + 1)))) (upd V n (xs (i + 2))) 60 0 (rcI K n (upd S n (setA K (xs (i + 1)))) (upd V n (xs (i + 2))) kw ko kb qu cl2)).2.2.2.1) (nI (rnF K (n + 1) (upd S n (setA K (xs (i + 1)))) (upd V n (xs (i + 2))) 60 0 (rcI K n (upd S n (setA K (xs (i + 1)))) (upd V n (xs (i + 2))) kw ko kb qu cl2)).2.2.2.2.1) ((rnF K (n + 1) (upd S n (setA K (xs (i + 1)))) (upd V n (xs (i + 2))) 60 0 (rcI K n (upd S n (setA K (xs (i + 1)))) (upd V n (xs (i + 2))) kw ko kb qu cl2)).2.2.2.2.2)) ++ (rW bd cJ cZ K row2 (nI n) sd vl wt (nI T) kn tl od (nI (pc kb)) cl2 inn stt))) [9, 10, 11, 12, 13, 14, 15, 0, 1, 2, 3, 4, 5, 6, 7, 8] (by decide) rfl
          have hP : va_P (dC, dI) vwCl ((xW ad cI K row (upd S n (setA K (xs (i + 1)))) (upd V n (xs (i + 2))) (nI (n + 1)) ((rnF K (n + 1) (upd S n (setA K (xs (i + 1)))) (upd V n (xs (i + 2))) 60 0 (rcI K n (upd S n (setA K (xs (i + 1)))) (upd V n (xs (i + 2))) kw ko kb qu cl2)).1) ((rnF K (n + 1) (upd S n (setA K (xs (i + 1)))) (upd V n (xs (i + 2))) 60 0 (rcI K n (upd S n (setA K (xs (i + 1)))) (upd V n (xs (i + 2))) kw ko kb qu cl2)).2.1) ((rnF K (n + 1) (upd S n (setA K (xs (i + 1)))) (upd V n (xs (i + 2))) 60 0 (rcI K n (upd S n (setA K (xs (i + 1)))) (upd V n (xs (i + 2))) kw ko kb qu cl2)).2.2.1) ((rnF K (n + 1) (upd S n (setA K (xs (i + 1)))) (upd V n (xs (i + 2))) 60 0 (rcI K n (upd S n (setA K (xs (i + 1)))) (upd V n (xs (i + 2))) kw ko kb qu cl2)).2.2.2.1) (nI (rnF K (n + 1) (upd S n (setA K (xs (i + 1)))) (upd V n (xs (i + 2))) 60 0 (rcI K n (upd S n (setA K (xs (i + 1)))) (upd V n (xs (i + 2))) kw ko kb qu cl2)).2.2.2.2.1) ((rnF K (n + 1) (upd S n (setA K (xs (i + 1)))) (upd V n (xs (i + 2))) 60 0 (rcI K n (upd S n (setA K (xs (i + 1)))) (upd V n (xs (i + 2))) kw ko kb qu cl2)).2.2.2.2.2)) ++ (rW bd cJ cZ K row2 (nI n) sd vl wt (nI T) kn tl od (nI (pc kb)) cl2 inn stt)) H := hP
          have hD : va_D (fun q : Nat => s.heap.size ≤ q) ((xW ad cI K row (upd S n (setA K (xs (i + 1)))) (upd V n (xs (i + 2))) (nI (n + 1)) ((rnF K (n + 1) (upd S n (setA K (xs (i + 1)))) (upd V n (xs (i + 2))) 60 0 (rcI K n (upd S n (setA K (xs (i + 1)))) (upd V n (xs (i + 2))) kw ko kb qu cl2)).1) ((rnF K (n + 1) (upd S n (setA K (xs (i + 1)))) (upd V n (xs (i + 2))) 60 0 (rcI K n (upd S n (setA K (xs (i + 1)))) (upd V n (xs (i + 2))) kw ko kb qu cl2)).2.1) ((rnF K (n + 1) (upd S n (setA K (xs (i + 1)))) (upd V n (xs (i + 2))) 60 0 (rcI K n (upd S n (setA K (xs (i + 1)))) (upd V n (xs (i + 2))) kw ko kb qu cl2)).2.2.1) ((rnF K (n + 1) (upd S n (setA K (xs (i + 1)))) (upd V n (xs (i + 2))) 60 0 (rcI K n (upd S n (setA K (xs (i + 1)))) (upd V n (xs (i + 2))) kw ko kb qu cl2)).2.2.2.1) (nI (rnF K (n + 1) (upd S n (setA K (xs (i + 1)))) (upd V n (xs (i + 2))) 60 0 (rcI K n (upd S n (setA K (xs (i + 1)))) (upd V n (xs (i + 2))) kw ko kb qu cl2)).2.2.2.2.1) ((rnF K (n + 1) (upd S n (setA K (xs (i + 1)))) (upd V n (xs (i + 2))) 60 0 (rcI K n (upd S n (setA K (xs (i + 1)))) (upd V n (xs (i + 2))) kw ko kb qu cl2)).2.2.2.2.2)) ++ (rW bd cJ cZ K row2 (nI n) sd vl wt (nI T) kn tl od (nI (pc kb)) cl2 inn stt)) := hD
          subst hw
          have hE := rn_end (V := (upd V n (xs (i + 2)))) hK2 hlt (rc_S (seed := (xs (i + 1))) hK1 hK2 hS0) 60 0 _ rfl (rc_inv (V := (upd V n (xs (i + 2)))) (kw := kw) (ko := ko) (qu := qu) (cl := cl2) hkb hno)
          obtain ⟨Y, hY⟩ : ∃ Y, Y = rnF K (n + 1) (upd S n (setA K (xs (i + 1)))) (upd V n (xs (i + 2))) 60 0 (rcI K n (upd S n (setA K (xs (i + 1)))) (upd V n (xs (i + 2))) kw ko kb qu cl2) := ⟨_, rfl⟩
          rw [← hY] at hP hD hE
          rw [← hY]
          have hq9 := qInv_le hE
          refine lv_aload_n hx hb dL_law_224 rfl (lv_at hl 2 rfl) ?_
          refine lv_aload_n hx hb dL_law_225 rfl (lv_at hl 0 rfl) ?_
          refine lv_iload_n hx hb dL_law_226 rfl (lv_at hl 3 rfl) ?_
          refine lv_iconst (v := 1) hx hb dL_law_227 (by decide) ?_
          refine lv_iadd hx hb dL_law_228 ?_
          refine lv_topi (fun z_5 ez_5 => ?_)
          have ez_5 : z_5 = nI (i + 1) := ez_5.trans (nI_add i 1)
          subst ez_5
          refine va_sld hx hb hX hbl hbA hS (vp_in_nI (n := (i + 1)) (by omega) (by omega)) dL_law_229 ?_
          rw [nI_clamp (by omega)]
          refine lv_aload_n hx hb dL_law_230 rfl (lv_at hl 0 rfl) ?_
          refine lv_iload_n hx hb dL_law_231 rfl (lv_at hl 3 rfl) ?_
          refine lv_iconst (v := 2) hx hb dL_law_232 (by decide) ?_
          refine lv_iadd hx hb dL_law_233 ?_
          refine lv_topi (fun z_6 ez_6 => ?_)
          have ez_6 : z_6 = nI (i + 2) := ez_6.trans (nI_add i 2)
          subst ez_6
          refine va_sld hx hb hX hbl hbA hS (vp_in_nI (n := (i + 2)) (by omega) (by omega)) dL_law_234 ?_
          rw [nI_clamp (by omega)]
          have hPc := hP.sub (ws' := (rW bd cJ cZ K row2 (nI n) sd vl wt (nI T) kn tl od (nI (pc kb)) cl2 inn stt)) [7, 8, 9, 10, 11, 12, 13, 14, 15] rfl
          have hKc := hK.sub (tys' := [(cJ, .int), (cZ, .boolean)]) [1, 2] rfl
          have hDc := hD.sub (ws' := (rW bd cJ cZ K row2 (nI n) sd vl wt (nI T) kn tl od (nI (pc kb)) cl2 inn stt)) [7, 8, 9, 10, 11, 12, 13, 14, 15] (by decide) rfl
          have hFc := va_free (wc := (rW bd cJ cZ K row2 (nI n) sd vl wt (nI T) kn tl od (nI (pc kb)) cl2 inn stt)) hD hS hA [7, 8, 9, 10, 11, 12, 13, 14, 15] rfl
          refine va_calli (va_runV (As := [.int (xs (i + 1)), .int (xs (i + 2))]) (rest := [.int (nI (pc Y.2.2.1))]) ⟨hx, hb, hml, hown, hts⟩ (c_X1_receive l dC dI H.size bd cJ cZ K row2 sd vl wt kn tl od inn stt hK1 hK2 n hlt (xs (i + 1)) (xs (i + 2)) T (by omega) S V kw ko kb qu cl2 hSd hVl hS0 hkb hno hRR) (cwV 2 hts gL_law_X1_receive rfl rfl rfl (by decide +kernel) ⟨Nat.le_of_ble_eq_true rfl, Nat.le_of_ble_eq_true rfl⟩) ⟨wFb, va_recv hKc hPc (ci := 1) (q0 := 0) rfl rfl, fun U hU hW => ⟨rfl, by rw [hU], by rw [hU]; exact hPc, va_K.moved hW.alike hKc, hDc.weaken (fun _ _ _ _ => trivial)⟩⟩ rfl rfl hl.1 rfl (lv_room (Nat.le_of_ble_eq_true rfl)) dL_law_235 ⟨Nat.le_of_ble_eq_true rfl, Nat.le_of_ble_eq_true rfl⟩) hS (fun q _ h => hFc q h) hFc (fun r_7 u_8 t H1 locs ht hvm hw hB hz1 hk1 hS => ?_)
          obtain ⟨hP1, hK1, hD1⟩ := hB
          rw [ht] at hP1
          obtain ⟨hP, hD⟩ := va_join (wr := (xW ad cI K row (upd S n (setA K (xs (i + 1)))) (upd V n (xs (i + 2))) (nI (n + 1)) Y.1 Y.2.1 Y.2.2.1 Y.2.2.2.1 (nI Y.2.2.2.2.1) Y.2.2.2.2.2)) (w1 := (rW bd cJ cZ K row2 (nI (n + 1)) (upd sd n (xs (i + 1))) (upd vl n (xs (i + 2))) u_8.1 u_8.2.1 u_8.2.2.1 u_8.2.2.2.1 u_8.2.2.2.2.1 u_8.2.2.2.2.2.1 u_8.2.2.2.2.2.2.1 u_8.2.2.2.2.2.2.2.1 u_8.2.2.2.2.2.2.2.2)) hP hD [7, 8, 9, 10, 11, 12, 13, 14, 15] [0, 1, 2, 3, 4, 5, 6] rfl rfl (by decide) (by decide) hk1 hFc hP1 hD1
          clear hP1 hD1 hK1 hFc hk1 hz1 hPc hKc hDc
          generalize H1 = H at hP hS ⊢
          have hP : va_P (dC, dI) vwCl ((xW ad cI K row (upd S n (setA K (xs (i + 1)))) (upd V n (xs (i + 2))) (nI (n + 1)) Y.1 Y.2.1 Y.2.2.1 Y.2.2.2.1 (nI Y.2.2.2.2.1) Y.2.2.2.2.2) ++ (rW bd cJ cZ K row2 (nI (n + 1)) (upd sd n (xs (i + 1))) (upd vl n (xs (i + 2))) u_8.1 u_8.2.1 u_8.2.2.1 u_8.2.2.2.1 u_8.2.2.2.2.1 u_8.2.2.2.2.2.1 u_8.2.2.2.2.2.2.1 u_8.2.2.2.2.2.2.2.1 u_8.2.2.2.2.2.2.2.2)) H := hP
          have hD : va_D (fun q : Nat => s.heap.size ≤ q) ((xW ad cI K row (upd S n (setA K (xs (i + 1)))) (upd V n (xs (i + 2))) (nI (n + 1)) Y.1 Y.2.1 Y.2.2.1 Y.2.2.2.1 (nI Y.2.2.2.2.1) Y.2.2.2.2.2) ++ (rW bd cJ cZ K row2 (nI (n + 1)) (upd sd n (xs (i + 1))) (upd vl n (xs (i + 2))) u_8.1 u_8.2.1 u_8.2.2.1 u_8.2.2.2.1 u_8.2.2.2.2.1 u_8.2.2.2.2.2.1 u_8.2.2.2.2.2.2.1 u_8.2.2.2.2.2.2.2.1 u_8.2.2.2.2.2.2.2.2)) := hD
          rw [← hY] at hw; obtain ⟨rfl, hR9⟩ := hw
          refine lv_icmp_eq (tgt := 387) hx hb dL_law_238 (by decide) (fun c9 => ?_) (fun c9 => ?_)
          · skip
            exact back _ _ _ _ _ _ _ _ _ _ _ _ _ _ _ _ _ _ _ _ _ _ _ _ _ ls hP hD hS (lv_sub hl [0, 1, 2, 3] rfl) (by omega) (⟨hlt, hrow, rc_sd hSd, rc_vl hVl, hE.1, qInv_end hE, hR9⟩)
          · skip
            exact absurd (rfl) c9
        · skip
          have hn6 : n = 60 := by omega
          subst hn6
          refine lv_aload_n hx hb dL_law_210 rfl (lv_at hl 1 rfl) ?_
          refine lv_aload_n hx hb dL_law_211 rfl (lv_at hl 0 rfl) ?_
          refine lv_iload_n hx hb dL_law_212 rfl (lv_at hl 3 rfl) ?_
          refine lv_iconst (v := 1) hx hb dL_law_213 (by decide) ?_
          refine lv_iadd hx hb dL_law_214 ?_
          refine lv_topi (fun z_1 ez_1 => ?_)
          have ez_1 : z_1 = nI (i + 1) := ez_1.trans (nI_add i 1)
          subst ez_1
          refine va_sld hx hb hX hbl hbA hS (vp_in_nI (n := (i + 1)) (by omega) (by omega)) dL_law_215 ?_
          rw [nI_clamp (by omega)]
          refine lv_aload_n hx hb dL_law_216 rfl (lv_at hl 0 rfl) ?_
          refine lv_iload_n hx hb dL_law_217 rfl (lv_at hl 3 rfl) ?_
          refine lv_iconst (v := 2) hx hb dL_law_218 (by decide) ?_
          refine lv_iadd hx hb dL_law_219 ?_
          refine lv_topi (fun z_2 ez_2 => ?_)
          have ez_2 : z_2 = nI (i + 2) := ez_2.trans (nI_add i 2)
          subst ez_2
          refine va_sld hx hb hX hbl hbA hS (vp_in_nI (n := (i + 2)) (by omega) (by omega)) dL_law_220 ?_
          rw [nI_clamp (by omega)]
          have hPc := hP.sub (ws' := (xW ad cI K row S V (nI 60) kw ko kb qu qe cl2)) [0, 1, 2, 3, 4, 5, 6] rfl
          have hKc := hK.sub (tys' := [(cI, .int)]) [0] rfl
          have hDc := hD.sub (ws' := (xW ad cI K row S V (nI 60) kw ko kb qu qe cl2)) [0, 1, 2, 3, 4, 5, 6] (by decide) rfl
          have hFc := va_free (wc := (xW ad cI K row S V (nI 60) kw ko kb qu qe cl2)) hD hS hA [0, 1, 2, 3, 4, 5, 6] rfl
          refine va_calli (va_runV (As := [.int (xs (i + 1)), .int (xs (i + 2))]) (rest := []) ⟨hx, hb, hml, hown, hts⟩ (c_X0_receive_full l dC dI H.size ad cI K row S V kw ko kb qu qe cl2 (xs (i + 1)) (xs (i + 2))) (cwV 2 hts gL_law_X0_receive rfl rfl rfl (by decide +kernel) ⟨Nat.le_of_ble_eq_true rfl, Nat.le_of_ble_eq_true rfl⟩) ⟨wFb, va_recv hKc hPc (ci := 0) (q0 := 0) rfl rfl, fun U hU hW => ⟨rfl, by rw [hU], by rw [hU]; exact hPc, va_K.moved hW.alike hKc, hDc.weaken (fun _ _ _ _ => trivial)⟩⟩ rfl rfl hl.1 rfl (lv_room (Nat.le_of_ble_eq_true rfl)) dL_law_221 ⟨Nat.le_of_ble_eq_true rfl, Nat.le_of_ble_eq_true rfl⟩) hS (fun q _ h => hFc q h) hFc (fun r_3 u_4 t H1 locs ht hvm hw hB hz1 hk1 hS => ?_)
          obtain ⟨hP1, hK1, hD1⟩ := hB
          rw [ht] at hP1
          obtain ⟨hP, hD⟩ := va_join (wr := (rW bd cJ cZ K row2 (nI 60) sd vl wt (nI T) kn tl od (nI (pc kb)) cl2 inn stt)) (w1 := (xW ad cI K row S V (nI 60) kw ko kb qu qe cl2)) hP hD [0, 1, 2, 3, 4, 5, 6] [7, 8, 9, 10, 11, 12, 13, 14, 15] rfl rfl (by decide) (by decide) hk1 hFc hP1 hD1
          clear hP1 hD1 hK1 hFc hk1 hz1 hPc hKc hDc
          generalize H1 = H at hP hS ⊢
          have hP := hP.sub (ws' := ((xW ad cI K row S V (nI 60) kw ko kb qu qe cl2) ++ (rW bd cJ cZ K row2 (nI 60) sd vl wt (nI T) kn tl od (nI (pc kb)) cl2 inn stt))) [9, 10, 11, 12, 13, 14, 15, 0, 1, 2, 3, 4, 5, 6, 7, 8] rfl
          have hD := hD.sub (ws' := ((xW ad cI K row S V (nI 60) kw ko kb qu qe cl2) ++ (rW bd cJ cZ K row2 (nI 60) sd vl wt (nI T) kn tl od (nI (pc kb)) cl2 inn stt))) [9, 10, 11, 12, 13, 14, 15, 0, 1, 2, 3, 4, 5, 6, 7, 8] (by decide) rfl
          have hP : va_P (dC, dI) vwCl ((xW ad cI K row S V (nI 60) kw ko kb qu qe cl2) ++ (rW bd cJ cZ K row2 (nI 60) sd vl wt (nI T) kn tl od (nI (pc kb)) cl2 inn stt)) H := hP
          have hD : va_D (fun q : Nat => s.heap.size ≤ q) ((xW ad cI K row S V (nI 60) kw ko kb qu qe cl2) ++ (rW bd cJ cZ K row2 (nI 60) sd vl wt (nI T) kn tl od (nI (pc kb)) cl2 inn stt)) := hD
          subst hw
          refine lv_aload_n hx hb dL_law_224 rfl (lv_at hl 2 rfl) ?_
          refine lv_aload_n hx hb dL_law_225 rfl (lv_at hl 0 rfl) ?_
          refine lv_iload_n hx hb dL_law_226 rfl (lv_at hl 3 rfl) ?_
          refine lv_iconst (v := 1) hx hb dL_law_227 (by decide) ?_
          refine lv_iadd hx hb dL_law_228 ?_
          refine lv_topi (fun z_5 ez_5 => ?_)
          have ez_5 : z_5 = nI (i + 1) := ez_5.trans (nI_add i 1)
          subst ez_5
          refine va_sld hx hb hX hbl hbA hS (vp_in_nI (n := (i + 1)) (by omega) (by omega)) dL_law_229 ?_
          rw [nI_clamp (by omega)]
          refine lv_aload_n hx hb dL_law_230 rfl (lv_at hl 0 rfl) ?_
          refine lv_iload_n hx hb dL_law_231 rfl (lv_at hl 3 rfl) ?_
          refine lv_iconst (v := 2) hx hb dL_law_232 (by decide) ?_
          refine lv_iadd hx hb dL_law_233 ?_
          refine lv_topi (fun z_6 ez_6 => ?_)
          have ez_6 : z_6 = nI (i + 2) := ez_6.trans (nI_add i 2)
          subst ez_6
          refine va_sld hx hb hX hbl hbA hS (vp_in_nI (n := (i + 2)) (by omega) (by omega)) dL_law_234 ?_
          rw [nI_clamp (by omega)]
          have hPc := hP.sub (ws' := (rW bd cJ cZ K row2 (nI 60) sd vl wt (nI T) kn tl od (nI (pc kb)) cl2 inn stt)) [7, 8, 9, 10, 11, 12, 13, 14, 15] rfl
          have hKc := hK.sub (tys' := [(cJ, .int), (cZ, .boolean)]) [1, 2] rfl
          have hDc := hD.sub (ws' := (rW bd cJ cZ K row2 (nI 60) sd vl wt (nI T) kn tl od (nI (pc kb)) cl2 inn stt)) [7, 8, 9, 10, 11, 12, 13, 14, 15] (by decide) rfl
          have hFc := va_free (wc := (rW bd cJ cZ K row2 (nI 60) sd vl wt (nI T) kn tl od (nI (pc kb)) cl2 inn stt)) hD hS hA [7, 8, 9, 10, 11, 12, 13, 14, 15] rfl
          refine va_calli (va_runV (As := [.int (xs (i + 1)), .int (xs (i + 2))]) (rest := [.int (-2)]) ⟨hx, hb, hml, hown, hts⟩ (c_X1_receive_full l dC dI H.size bd cJ cZ K row2 sd vl wt (nI T) kn tl od (nI (pc kb)) cl2 inn stt (xs (i + 1)) (xs (i + 2))) (cwV 2 hts gL_law_X1_receive rfl rfl rfl (by decide +kernel) ⟨Nat.le_of_ble_eq_true rfl, Nat.le_of_ble_eq_true rfl⟩) ⟨wFb, va_recv hKc hPc (ci := 1) (q0 := 0) rfl rfl, fun U hU hW => ⟨rfl, by rw [hU], by rw [hU]; exact hPc, va_K.moved hW.alike hKc, hDc.weaken (fun _ _ _ _ => trivial)⟩⟩ rfl rfl hl.1 rfl (lv_room (Nat.le_of_ble_eq_true rfl)) dL_law_235 ⟨Nat.le_of_ble_eq_true rfl, Nat.le_of_ble_eq_true rfl⟩) hS (fun q _ h => hFc q h) hFc (fun r_7 u_8 t H1 locs ht hvm hw hB hz1 hk1 hS => ?_)
          obtain ⟨hP1, hK1, hD1⟩ := hB
          rw [ht] at hP1
          obtain ⟨hP, hD⟩ := va_join (wr := (xW ad cI K row S V (nI 60) kw ko kb qu qe cl2)) (w1 := (rW bd cJ cZ K row2 (nI 60) sd vl wt (nI T) kn tl od (nI (pc kb)) cl2 inn stt)) hP hD [7, 8, 9, 10, 11, 12, 13, 14, 15] [0, 1, 2, 3, 4, 5, 6] rfl rfl (by decide) (by decide) hk1 hFc hP1 hD1
          clear hP1 hD1 hK1 hFc hk1 hz1 hPc hKc hDc
          generalize H1 = H at hP hS ⊢
          have hP : va_P (dC, dI) vwCl ((xW ad cI K row S V (nI 60) kw ko kb qu qe cl2) ++ (rW bd cJ cZ K row2 (nI 60) sd vl wt (nI T) kn tl od (nI (pc kb)) cl2 inn stt)) H := hP
          have hD : va_D (fun q : Nat => s.heap.size ≤ q) ((xW ad cI K row S V (nI 60) kw ko kb qu qe cl2) ++ (rW bd cJ cZ K row2 (nI 60) sd vl wt (nI T) kn tl od (nI (pc kb)) cl2 inn stt)) := hD
          subst hw
          refine lv_icmp_eq (tgt := 387) hx hb dL_law_238 (by decide) (fun c9 => ?_) (fun c9 => ?_)
          · skip
            exact back _ T _ _ _ _ _ _ _ _ _ _ _ _ _ _ _ _ _ _ _ _ _ _ _ ls hP hD hS (lv_sub hl [0, 1, 2, 3] rfl) (by omega) (⟨hn60, hrow, hSd, hVl, hkb, hno, hRR⟩)
          · skip
            exact absurd (rfl) c9
      · skip
        refine lv_tableIn (off := 201) (tgt := 243) hx hb dL_law_42 (by decide) (by decide) (by decide) (by decide) ?_
        refine lv_aload_n hx hb dL_law_243 rfl (lv_at hl 1 rfl) ?_
        refine lv_aload_n hx hb dL_law_244 rfl (lv_at hl 0 rfl) ?_
        refine lv_iload_n hx hb dL_law_245 rfl (lv_at hl 3 rfl) ?_
        refine lv_iconst (v := 1) hx hb dL_law_246 (by decide) ?_
        refine lv_iadd hx hb dL_law_247 ?_
        refine lv_topi (fun z_1 ez_1 => ?_)
        have ez_1 : z_1 = nI (i + 1) := ez_1.trans (nI_add i 1)
        subst ez_1
        refine va_sld hx hb hX hbl hbA hS (vp_in_nI (n := (i + 1)) (by omega) (by omega)) dL_law_248 ?_
        rw [nI_clamp (by omega)]
        have hPc := hP.sub (ws' := (xW ad cI K row S V (nI n) kw ko kb qu qe cl2)) [0, 1, 2, 3, 4, 5, 6] rfl
        have hKc := hK.sub (tys' := [(cI, .int)]) [0] rfl
        refine vp_callSi (W.runV (As := [.int (xs (i + 1))]) (rest := []) ⟨hx, hb, hml, hown, hts⟩ (c_X0_known l dC dI ad cI K row S V (nI n) kw ko kb qu qe cl2 hK1 hK2 (xs (i + 1))) (cwV 1 hts gL_law_X0_known rfl rfl rfl (by decide +kernel) ⟨Nat.le_of_ble_eq_true rfl, Nat.le_of_ble_eq_true rfl⟩) ⟨rFb, va_recv hKc hPc (ci := 0) (q0 := 0) rfl rfl, fun U hU hW => ⟨rfl, by rw [hU]; exact hPc, va_K.moved hW.alike hKc⟩⟩ rfl rfl hl.1 rfl (lv_room (Nat.le_of_ble_eq_true rfl)) dL_law_249 ⟨Nat.le_of_ble_eq_true rfl, Nat.le_of_ble_eq_true rfl⟩) (fun r_2 er_2 => ?_)
        rw [er_2]
        clear er_2 r_2 hPc hKc
        refine lv_aload_n hx hb dL_law_252 rfl (lv_at hl 2 rfl) ?_
        refine lv_aload_n hx hb dL_law_253 rfl (lv_at hl 0 rfl) ?_
        refine lv_iload_n hx hb dL_law_254 rfl (lv_at hl 3 rfl) ?_
        refine lv_iconst (v := 1) hx hb dL_law_255 (by decide) ?_
        refine lv_iadd hx hb dL_law_256 ?_
        refine lv_topi (fun z_3 ez_3 => ?_)
        have ez_3 : z_3 = nI (i + 1) := ez_3.trans (nI_add i 1)
        subst ez_3
        refine va_sld hx hb hX hbl hbA hS (vp_in_nI (n := (i + 1)) (by omega) (by omega)) dL_law_257 ?_
        rw [nI_clamp (by omega)]
        have hPc := hP.sub (ws' := (rW bd cJ cZ K row2 (nI n) sd vl wt (nI T) kn tl od (nI (pc kb)) cl2 inn stt)) [7, 8, 9, 10, 11, 12, 13, 14, 15] rfl
        have hKc := hK.sub (tys' := [(cJ, .int), (cZ, .boolean)]) [1, 2] rfl
        refine vp_callSi (W.runV (As := [.int (xs (i + 1))]) (rest := [.int (knF K kb (xs (i + 1)))]) ⟨hx, hb, hml, hown, hts⟩ (c_X1_known l dC dI bd cJ cZ K row2 (nI n) sd vl wt (nI T) kn tl od (nI (pc kb)) cl2 inn stt hK1 hK2 kb hkn (xs (i + 1))) (cwV 1 hts gL_law_X1_known rfl rfl rfl (by decide +kernel) ⟨Nat.le_of_ble_eq_true rfl, Nat.le_of_ble_eq_true rfl⟩) ⟨rFb, va_recv hKc hPc (ci := 1) (q0 := 0) rfl rfl, fun U hU hW => ⟨rfl, by rw [hU]; exact hPc, va_K.moved hW.alike hKc⟩⟩ rfl rfl hl.1 rfl (lv_room (Nat.le_of_ble_eq_true rfl)) dL_law_258 ⟨Nat.le_of_ble_eq_true rfl, Nat.le_of_ble_eq_true rfl⟩) (fun r_4 er_4 => ?_)
        rw [er_4]
        clear er_4 r_4 hPc hKc
        refine lv_icmp_eq (tgt := 387) hx hb dL_law_261 (by decide) (fun c9 => ?_) (fun c9 => ?_)
        · skip
          exact back _ T _ _ _ _ _ _ _ _ _ _ _ _ _ _ _ _ _ _ _ _ _ _ _ ls hP hD hS (lv_sub hl [0, 1, 2, 3] rfl) (by omega) (⟨hn60, hrow, hSd, hVl, hkb, hno, hRR⟩)
        · skip
          exact absurd (rfl) c9
      · skip
        refine lv_tableIn (off := 224) (tgt := 266) hx hb dL_law_42 (by decide) (by decide) (by decide) (by decide) ?_
        refine lv_aload_n hx hb dL_law_266 rfl (lv_at hl 1 rfl) ?_
        refine lv_aload_n hx hb dL_law_267 rfl (lv_at hl 0 rfl) ?_
        refine lv_iload_n hx hb dL_law_268 rfl (lv_at hl 3 rfl) ?_
        refine lv_iconst (v := 1) hx hb dL_law_269 (by decide) ?_
        refine lv_iadd hx hb dL_law_270 ?_
        refine lv_topi (fun z_1 ez_1 => ?_)
        have ez_1 : z_1 = nI (i + 1) := ez_1.trans (nI_add i 1)
        subst ez_1
        refine va_sld hx hb hX hbl hbA hS (vp_in_nI (n := (i + 1)) (by omega) (by omega)) dL_law_271 ?_
        rw [nI_clamp (by omega)]
        have hPc := hP.sub (ws' := (xW ad cI K row S V (nI n) kw ko kb qu qe cl2)) [0, 1, 2, 3, 4, 5, 6] rfl
        have hKc := hK.sub (tys' := [(cI, .int)]) [0] rfl
        refine vp_callSi (W.runV (As := [.int (xs (i + 1))]) (rest := []) ⟨hx, hb, hml, hown, hts⟩ (c_X0_word l dC dI ad cI K row S V (nI n) kw ko kb qu qe cl2 hK1 hK2 (xs (i + 1))) (cwV 1 hts gL_law_X0_word rfl rfl rfl (by decide +kernel) ⟨Nat.le_of_ble_eq_true rfl, Nat.le_of_ble_eq_true rfl⟩) ⟨rFb, va_recv hKc hPc (ci := 0) (q0 := 0) rfl rfl, fun U hU hW => ⟨rfl, by rw [hU]; exact hPc, va_K.moved hW.alike hKc⟩⟩ rfl rfl hl.1 rfl (lv_room (Nat.le_of_ble_eq_true rfl)) dL_law_272 ⟨Nat.le_of_ble_eq_true rfl, Nat.le_of_ble_eq_true rfl⟩) (fun r_2 er_2 => ?_)
        rw [er_2]
        clear er_2 r_2 hPc hKc
        refine lv_aload_n hx hb dL_law_275 rfl (lv_at hl 2 rfl) ?_
        refine lv_aload_n hx hb dL_law_276 rfl (lv_at hl 0 rfl) ?_
        refine lv_iload_n hx hb dL_law_277 rfl (lv_at hl 3 rfl) ?_
        refine lv_iconst (v := 1) hx hb dL_law_278 (by decide) ?_
        refine lv_iadd hx hb dL_law_279 ?_
        refine lv_topi (fun z_3 ez_3 => ?_)
        have ez_3 : z_3 = nI (i + 1) := ez_3.trans (nI_add i 1)
        subst ez_3
        refine va_sld hx hb hX hbl hbA hS (vp_in_nI (n := (i + 1)) (by omega) (by omega)) dL_law_280 ?_
        rw [nI_clamp (by omega)]
        have hPc := hP.sub (ws' := (rW bd cJ cZ K row2 (nI n) sd vl wt (nI T) kn tl od (nI (pc kb)) cl2 inn stt)) [7, 8, 9, 10, 11, 12, 13, 14, 15] rfl
        have hKc := hK.sub (tys' := [(cJ, .int), (cZ, .boolean)]) [1, 2] rfl
        refine vp_callSi (W.runV (As := [.int (xs (i + 1))]) (rest := [.int (wdF K kb kw (xs (i + 1)))]) ⟨hx, hb, hml, hown, hts⟩ (c_X1_word l dC dI bd cJ cZ K row2 (nI n) sd vl wt (nI T) kn tl od (nI (pc kb)) cl2 inn stt hK1 hK2 kb hkn (xs (i + 1))) (cwV 1 hts gL_law_X1_word rfl rfl rfl (by decide +kernel) ⟨Nat.le_of_ble_eq_true rfl, Nat.le_of_ble_eq_true rfl⟩) ⟨rFb, va_recv hKc hPc (ci := 1) (q0 := 0) rfl rfl, fun U hU hW => ⟨rfl, by rw [hU]; exact hPc, va_K.moved hW.alike hKc⟩⟩ rfl rfl hl.1 rfl (lv_room (Nat.le_of_ble_eq_true rfl)) dL_law_281 ⟨Nat.le_of_ble_eq_true rfl, Nat.le_of_ble_eq_true rfl⟩) (fun r_4 er_4 => ?_)
        rw [er_4]
        clear er_4 r_4 hPc hKc
        refine lv_icmp_eq (tgt := 387) hx hb dL_law_284 (by decide) (fun c9 => ?_) (fun c9 => ?_)
        · skip
          exact back _ T _ _ _ _ _ _ _ _ _ _ _ _ _ _ _ _ _ _ _ _ _ _ _ ls hP hD hS (lv_sub hl [0, 1, 2, 3] rfl) (by omega) (⟨hn60, hrow, hSd, hVl, hkb, hno, hRR⟩)
        · skip
          exact absurd (wd_eq hRR.2.1) c9
      · skip
        refine lv_tableIn (off := 247) (tgt := 289) hx hb dL_law_42 (by decide) (by decide) (by decide) (by decide) ?_
        refine lv_aload_n hx hb dL_law_289 rfl (lv_at hl 1 rfl) ?_
        refine lv_aload_n hx hb dL_law_290 rfl (lv_at hl 0 rfl) ?_
        refine lv_iload_n hx hb dL_law_291 rfl (lv_at hl 3 rfl) ?_
        refine lv_iconst (v := 1) hx hb dL_law_292 (by decide) ?_
        refine lv_iadd hx hb dL_law_293 ?_
        refine lv_topi (fun z_1 ez_1 => ?_)
        have ez_1 : z_1 = nI (i + 1) := ez_1.trans (nI_add i 1)
        subst ez_1
        refine va_sld hx hb hX hbl hbA hS (vp_in_nI (n := (i + 1)) (by omega) (by omega)) dL_law_294 ?_
        rw [nI_clamp (by omega)]
        have hPc := hP.sub (ws' := (xW ad cI K row S V (nI n) kw ko kb qu qe cl2)) [0, 1, 2, 3, 4, 5, 6] rfl
        have hKc := hK.sub (tys' := [(cI, .int)]) [0] rfl
        refine vp_callSi (W.runV (As := [.int (xs (i + 1))]) (rest := []) ⟨hx, hb, hml, hown, hts⟩ (c_X0_order l dC dI ad cI K row S V (nI n) kw ko kb qu qe cl2 hK1 hK2 hpcK (xs (i + 1))) (cwV 1 hts gL_law_X0_order rfl rfl rfl (by decide +kernel) ⟨Nat.le_of_ble_eq_true rfl, Nat.le_of_ble_eq_true rfl⟩) ⟨rFb, va_recv hKc hPc (ci := 0) (q0 := 0) rfl rfl, fun U hU hW => ⟨rfl, by rw [hU]; exact hPc, va_K.moved hW.alike hKc⟩⟩ rfl rfl hl.1 rfl (lv_room (Nat.le_of_ble_eq_true rfl)) dL_law_295 ⟨Nat.le_of_ble_eq_true rfl, Nat.le_of_ble_eq_true rfl⟩) (fun r_2 er_2 => ?_)
        rw [er_2]
        clear er_2 r_2 hPc hKc
        refine lv_aload_n hx hb dL_law_298 rfl (lv_at hl 2 rfl) ?_
        refine lv_aload_n hx hb dL_law_299 rfl (lv_at hl 0 rfl) ?_
        refine lv_iload_n hx hb dL_law_300 rfl (lv_at hl 3 rfl) ?_
        refine lv_iconst (v := 1) hx hb dL_law_301 (by decide) ?_
        refine lv_iadd hx hb dL_law_302 ?_
        refine lv_topi (fun z_3 ez_3 => ?_)
        have ez_3 : z_3 = nI (i + 1) := ez_3.trans (nI_add i 1)
        subst ez_3
        refine va_sld hx hb hX hbl hbA hS (vp_in_nI (n := (i + 1)) (by omega) (by omega)) dL_law_303 ?_
        rw [nI_clamp (by omega)]
        have hPc := hP.sub (ws' := (rW bd cJ cZ K row2 (nI n) sd vl wt (nI T) kn tl od (nI (pc kb)) cl2 inn stt)) [7, 8, 9, 10, 11, 12, 13, 14, 15] rfl
        have hKc := hK.sub (tys' := [(cJ, .int), (cZ, .boolean)]) [1, 2] rfl
        refine vp_callSi (W.runV (As := [.int (xs (i + 1))]) (rest := [.int (odF (pc kb) ko (xs (i + 1)))]) ⟨hx, hb, hml, hown, hts⟩ (c_X1_order l dC dI bd cJ cZ K row2 (nI n) sd vl wt (nI T) kn tl od cl2 inn stt (pc kb) (by omega) (xs (i + 1))) (cwV 1 hts gL_law_X1_order rfl rfl rfl (by decide +kernel) ⟨Nat.le_of_ble_eq_true rfl, Nat.le_of_ble_eq_true rfl⟩) ⟨rFb, va_recv hKc hPc (ci := 1) (q0 := 0) rfl rfl, fun U hU hW => ⟨rfl, by rw [hU]; exact hPc, va_K.moved hW.alike hKc⟩⟩ rfl rfl hl.1 rfl (lv_room (Nat.le_of_ble_eq_true rfl)) dL_law_304 ⟨Nat.le_of_ble_eq_true rfl, Nat.le_of_ble_eq_true rfl⟩) (fun r_4 er_4 => ?_)
        rw [er_4]
        clear er_4 r_4 hPc hKc
        refine lv_icmp_eq (tgt := 387) hx hb dL_law_307 (by decide) (fun c9 => ?_) (fun c9 => ?_)
        · skip
          exact back _ T _ _ _ _ _ _ _ _ _ _ _ _ _ _ _ _ _ _ _ _ _ _ _ ls hP hD hS (lv_sub hl [0, 1, 2, 3] rfl) (by omega) (⟨hn60, hrow, hSd, hVl, hkb, hno, hRR⟩)
        · skip
          exact absurd (od_eq (by omega) hRR.2.2.1) c9
      · skip
        refine lv_tableIn (off := 270) (tgt := 312) hx hb dL_law_42 (by decide) (by decide) (by decide) (by decide) ?_
        refine lv_aload_n hx hb dL_law_312 rfl (lv_at hl 1 rfl) ?_
        refine lv_aload_n hx hb dL_law_313 rfl (lv_at hl 0 rfl) ?_
        refine lv_iload_n hx hb dL_law_314 rfl (lv_at hl 3 rfl) ?_
        refine lv_iconst (v := 1) hx hb dL_law_315 (by decide) ?_
        refine lv_iadd hx hb dL_law_316 ?_
        refine lv_topi (fun z_1 ez_1 => ?_)
        have ez_1 : z_1 = nI (i + 1) := ez_1.trans (nI_add i 1)
        subst ez_1
        refine va_sld hx hb hX hbl hbA hS (vp_in_nI (n := (i + 1)) (by omega) (by omega)) dL_law_317 ?_
        rw [nI_clamp (by omega)]
        have hPc := hP.sub (ws' := (xW ad cI K row S V (nI n) kw ko kb qu qe cl2)) [0, 1, 2, 3, 4, 5, 6] rfl
        have hKc := hK.sub (tys' := [(cI, .int)]) [0] rfl
        refine vp_callSi (W.runV (As := [.int (xs (i + 1))]) (rest := []) ⟨hx, hb, hml, hown, hts⟩ (c_X0_open l dC dI ad cI K row S V kw ko kb qu qe cl2 n hn60 (xs (i + 1))) (cwV 1 hts gL_law_X0_open rfl rfl rfl (by decide +kernel) ⟨Nat.le_of_ble_eq_true rfl, Nat.le_of_ble_eq_true rfl⟩) ⟨rFb, va_recv hKc hPc (ci := 0) (q0 := 0) rfl rfl, fun U hU hW => ⟨rfl, by rw [hU]; exact hPc, va_K.moved hW.alike hKc⟩⟩ rfl rfl hl.1 rfl (lv_room (Nat.le_of_ble_eq_true rfl)) dL_law_318 ⟨Nat.le_of_ble_eq_true rfl, Nat.le_of_ble_eq_true rfl⟩) (fun r_2 er_2 => ?_)
        rw [er_2]
        clear er_2 r_2 hPc hKc
        refine lv_aload_n hx hb dL_law_321 rfl (lv_at hl 2 rfl) ?_
        refine lv_aload_n hx hb dL_law_322 rfl (lv_at hl 0 rfl) ?_
        refine lv_iload_n hx hb dL_law_323 rfl (lv_at hl 3 rfl) ?_
        refine lv_iconst (v := 1) hx hb dL_law_324 (by decide) ?_
        refine lv_iadd hx hb dL_law_325 ?_
        refine lv_topi (fun z_3 ez_3 => ?_)
        have ez_3 : z_3 = nI (i + 1) := ez_3.trans (nI_add i 1)
        subst ez_3
        refine va_sld hx hb hX hbl hbA hS (vp_in_nI (n := (i + 1)) (by omega) (by omega)) dL_law_326 ?_
        rw [nI_clamp (by omega)]
        have hPc := hP.sub (ws' := (rW bd cJ cZ K row2 (nI n) sd vl wt (nI T) kn tl od (nI (pc kb)) cl2 inn stt)) [7, 8, 9, 10, 11, 12, 13, 14, 15] rfl
        have hKc := hK.sub (tys' := [(cJ, .int), (cZ, .boolean)]) [1, 2] rfl
        have hDc := hD.sub (ws' := (rW bd cJ cZ K row2 (nI n) sd vl wt (nI T) kn tl od (nI (pc kb)) cl2 inn stt)) [7, 8, 9, 10, 11, 12, 13, 14, 15] (by decide) rfl
        have hFc := va_free (wc := (rW bd cJ cZ K row2 (nI n) sd vl wt (nI T) kn tl od (nI (pc kb)) cl2 inn stt)) hD hS hA [7, 8, 9, 10, 11, 12, 13, 14, 15] rfl
        refine va_calli (va_runV (As := [.int (xs (i + 1))]) (rest := [.int (opF n S kb (xs (i + 1)))]) ⟨hx, hb, hml, hown, hts⟩ (c_X1_open l dC dI H.size bd cJ cZ K row2 sd vl wt (nI T) kn tl od (nI (pc kb)) cl2 inn stt hK1 hK2 n hn60 kb hkn (xs (i + 1))) (cwV 1 hts gL_law_X1_open rfl rfl rfl (by decide +kernel) ⟨Nat.le_of_ble_eq_true rfl, Nat.le_of_ble_eq_true rfl⟩) ⟨wFb, va_recv hKc hPc (ci := 1) (q0 := 0) rfl rfl, fun U hU hW => ⟨rfl, by rw [hU], by rw [hU]; exact hPc, va_K.moved hW.alike hKc, hDc.weaken (fun _ _ _ _ => trivial)⟩⟩ rfl rfl hl.1 rfl (lv_room (Nat.le_of_ble_eq_true rfl)) dL_law_327 ⟨Nat.le_of_ble_eq_true rfl, Nat.le_of_ble_eq_true rfl⟩) hS (fun q _ h => hFc q h) hFc (fun r_4 u_5 t H1 locs ht hvm hw hB hz1 hk1 hS => ?_)
        obtain ⟨hP1, hK1, hD1⟩ := hB
        rw [ht] at hP1
        obtain ⟨hP, hD⟩ := va_join (wr := (xW ad cI K row S V (nI n) kw ko kb qu qe cl2)) (w1 := (rW bd cJ cZ K row2 (nI n) sd vl wt (nI T) kn tl od (nI (pc kb)) cl2 u_5.1 u_5.2)) hP hD [7, 8, 9, 10, 11, 12, 13, 14, 15] [0, 1, 2, 3, 4, 5, 6] rfl rfl (by decide) (by decide) hk1 hFc hP1 hD1
        clear hP1 hD1 hK1 hFc hk1 hz1 hPc hKc hDc
        generalize H1 = H at hP hS ⊢
        have hP : va_P (dC, dI) vwCl ((xW ad cI K row S V (nI n) kw ko kb qu qe cl2) ++ (rW bd cJ cZ K row2 (nI n) sd vl wt (nI T) kn tl od (nI (pc kb)) cl2 u_5.1 u_5.2)) H := hP
        have hD : va_D (fun q : Nat => s.heap.size ≤ q) ((xW ad cI K row S V (nI n) kw ko kb qu qe cl2) ++ (rW bd cJ cZ K row2 (nI n) sd vl wt (nI T) kn tl od (nI (pc kb)) cl2 u_5.1 u_5.2)) := hD
        subst hw
        refine lv_icmp_eq (tgt := 387) hx hb dL_law_330 (by decide) (fun c9 => ?_) (fun c9 => ?_)
        · skip
          exact back _ T _ _ _ _ _ _ _ _ _ _ _ _ _ _ _ _ _ _ _ _ _ _ _ ls hP hD hS (lv_sub hl [0, 1, 2, 3] rfl) (by omega) (⟨hn60, hrow, hSd, hVl, hkb, hno, hRR⟩)
        · skip
          exact absurd (op_eq hn60 hSd) c9
      · skip
        refine lv_tableIn (off := 293) (tgt := 335) hx hb dL_law_42 (by decide) (by decide) (by decide) (by decide) ?_
        refine lv_aload_n hx hb dL_law_335 rfl (lv_at hl 1 rfl) ?_
        have hPc := hP.sub (ws' := (xW ad cI K row S V (nI n) kw ko kb qu qe cl2)) [0, 1, 2, 3, 4, 5, 6] rfl
        have hKc := hK.sub (tys' := [(cI, .int)]) [0] rfl
        refine vp_callSi (W.runV (As := []) (rest := []) ⟨hx, hb, hml, hown, hts⟩ (c_X0_drops l dC dI ad cI K row S V (nI n) kw ko kb qu qe cl2) (cwV 0 hts gL_law_X0_drops rfl rfl rfl (by decide +kernel) ⟨Nat.le_of_ble_eq_true rfl, Nat.le_of_ble_eq_true rfl⟩) ⟨rFb, va_recv hKc hPc (ci := 0) (q0 := 0) rfl rfl, fun U hU hW => ⟨rfl, by rw [hU]; exact hPc, va_K.moved hW.alike hKc⟩⟩ rfl rfl hl.1 rfl (lv_room (Nat.le_of_ble_eq_true rfl)) dL_law_336 ⟨Nat.le_of_ble_eq_true rfl, Nat.le_of_ble_eq_true rfl⟩) (fun r_1 er_1 => ?_)
        rw [er_1]
        clear er_1 r_1 hPc hKc
        refine lv_aload_n hx hb dL_law_339 rfl (lv_at hl 2 rfl) ?_
        have hPc := hP.sub (ws' := (rW bd cJ cZ K row2 (nI n) sd vl wt (nI T) kn tl od (nI (pc kb)) cl2 inn stt)) [7, 8, 9, 10, 11, 12, 13, 14, 15] rfl
        have hKc := hK.sub (tys' := [(cJ, .int), (cZ, .boolean)]) [1, 2] rfl
        refine vp_callSi (W.runV (As := []) (rest := [.int (nI n)]) ⟨hx, hb, hml, hown, hts⟩ (c_X1_drops l dC dI bd cJ cZ K row2 (nI n) sd vl wt (nI T) kn tl od (nI (pc kb)) cl2 inn stt) (cwV 0 hts gL_law_X1_drops rfl rfl rfl (by decide +kernel) ⟨Nat.le_of_ble_eq_true rfl, Nat.le_of_ble_eq_true rfl⟩) ⟨rFb, va_recv hKc hPc (ci := 1) (q0 := 0) rfl rfl, fun U hU hW => ⟨rfl, by rw [hU]; exact hPc, va_K.moved hW.alike hKc⟩⟩ rfl rfl hl.1 rfl (lv_room (Nat.le_of_ble_eq_true rfl)) dL_law_340 ⟨Nat.le_of_ble_eq_true rfl, Nat.le_of_ble_eq_true rfl⟩) (fun r_2 er_2 => ?_)
        rw [er_2]
        clear er_2 r_2 hPc hKc
        refine lv_icmp_eq (tgt := 387) hx hb dL_law_343 (by decide) (fun c9 => ?_) (fun c9 => ?_)
        · skip
          exact back _ T _ _ _ _ _ _ _ _ _ _ _ _ _ _ _ _ _ _ _ _ _ _ _ ls hP hD hS (lv_sub hl [0, 1, 2, 3] rfl) (by omega) (⟨hn60, hrow, hSd, hVl, hkb, hno, hRR⟩)
        · skip
          exact absurd (rfl) c9
      · skip
        refine lv_tableIn (off := 306) (tgt := 348) hx hb dL_law_42 (by decide) (by decide) (by decide) (by decide) ?_
        refine lv_aload_n hx hb dL_law_348 rfl (lv_at hl 1 rfl) ?_
        have hPc := hP.sub (ws' := (xW ad cI K row S V (nI n) kw ko kb qu qe cl2)) [0, 1, 2, 3, 4, 5, 6] rfl
        have hKc := hK.sub (tys' := [(cI, .int)]) [0] rfl
        refine vp_callSi (W.runV (As := []) (rest := []) ⟨hx, hb, hml, hown, hts⟩ (c_X0_count l dC dI ad cI K row S V (nI n) kw ko kb qu qe cl2) (cwV 0 hts gL_law_X0_count rfl rfl rfl (by decide +kernel) ⟨Nat.le_of_ble_eq_true rfl, Nat.le_of_ble_eq_true rfl⟩) ⟨rFb, va_recv hKc hPc (ci := 0) (q0 := 0) rfl rfl, fun U hU hW => ⟨rfl, by rw [hU]; exact hPc, va_K.moved hW.alike hKc⟩⟩ rfl rfl hl.1 rfl (lv_room (Nat.le_of_ble_eq_true rfl)) dL_law_349 ⟨Nat.le_of_ble_eq_true rfl, Nat.le_of_ble_eq_true rfl⟩) (fun r_1 er_1 => ?_)
        rw [er_1]
        clear er_1 r_1 hPc hKc
        refine lv_aload_n hx hb dL_law_352 rfl (lv_at hl 2 rfl) ?_
        have hPc := hP.sub (ws' := (rW bd cJ cZ K row2 (nI n) sd vl wt (nI T) kn tl od (nI (pc kb)) cl2 inn stt)) [7, 8, 9, 10, 11, 12, 13, 14, 15] rfl
        have hKc := hK.sub (tys' := [(cJ, .int), (cZ, .boolean)]) [1, 2] rfl
        refine vp_callSi (W.runV (As := []) (rest := [.int (nI (pc kb))]) ⟨hx, hb, hml, hown, hts⟩ (c_X1_count l dC dI bd cJ cZ K row2 (nI n) sd vl wt (nI T) kn tl od (nI (pc kb)) cl2 inn stt) (cwV 0 hts gL_law_X1_count rfl rfl rfl (by decide +kernel) ⟨Nat.le_of_ble_eq_true rfl, Nat.le_of_ble_eq_true rfl⟩) ⟨rFb, va_recv hKc hPc (ci := 1) (q0 := 0) rfl rfl, fun U hU hW => ⟨rfl, by rw [hU]; exact hPc, va_K.moved hW.alike hKc⟩⟩ rfl rfl hl.1 rfl (lv_room (Nat.le_of_ble_eq_true rfl)) dL_law_353 ⟨Nat.le_of_ble_eq_true rfl, Nat.le_of_ble_eq_true rfl⟩) (fun r_2 er_2 => ?_)
        rw [er_2]
        clear er_2 r_2 hPc hKc
        refine lv_icmp_eq (tgt := 387) hx hb dL_law_356 (by decide) (fun c9 => ?_) (fun c9 => ?_)
        · skip
          exact back _ T _ _ _ _ _ _ _ _ _ _ _ _ _ _ _ _ _ _ _ _ _ _ _ ls hP hD hS (lv_sub hl [0, 1, 2, 3] rfl) (by omega) (⟨hn60, hrow, hSd, hVl, hkb, hno, hRR⟩)
        · skip
          exact absurd (rfl) c9
      · skip
        refine lv_tableIn (off := 319) (tgt := 361) hx hb dL_law_42 (by decide) (by decide) (by decide) (by decide) ?_
        refine lv_aload_n hx hb dL_law_361 rfl (lv_at hl 1 rfl) ?_
        have hPc := hP.sub (ws' := (xW ad cI K row S V (nI n) kw ko kb qu qe cl2)) [0, 1, 2, 3, 4, 5, 6] rfl
        have hKc := hK.sub (tys' := [(cI, .int)]) [0] rfl
        refine vp_callSi (W.runV (As := []) (rest := []) ⟨hx, hb, hml, hown, hts⟩ (c_X0_clashes l dC dI ad cI K row S V (nI n) kw ko kb qu qe cl2) (cwV 0 hts gL_law_X0_clashes rfl rfl rfl (by decide +kernel) ⟨Nat.le_of_ble_eq_true rfl, Nat.le_of_ble_eq_true rfl⟩) ⟨rFb, va_recv hKc hPc (ci := 0) (q0 := 0) rfl rfl, fun U hU hW => ⟨rfl, by rw [hU]; exact hPc, va_K.moved hW.alike hKc⟩⟩ rfl rfl hl.1 rfl (lv_room (Nat.le_of_ble_eq_true rfl)) dL_law_362 ⟨Nat.le_of_ble_eq_true rfl, Nat.le_of_ble_eq_true rfl⟩) (fun r_1 er_1 => ?_)
        rw [er_1]
        clear er_1 r_1 hPc hKc
        refine lv_aload_n hx hb dL_law_365 rfl (lv_at hl 2 rfl) ?_
        have hPc := hP.sub (ws' := (rW bd cJ cZ K row2 (nI n) sd vl wt (nI T) kn tl od (nI (pc kb)) cl2 inn stt)) [7, 8, 9, 10, 11, 12, 13, 14, 15] rfl
        have hKc := hK.sub (tys' := [(cJ, .int), (cZ, .boolean)]) [1, 2] rfl
        refine vp_callSi (W.runV (As := []) (rest := [.int cl2]) ⟨hx, hb, hml, hown, hts⟩ (c_X1_clashes l dC dI bd cJ cZ K row2 (nI n) sd vl wt (nI T) kn tl od (nI (pc kb)) cl2 inn stt) (cwV 0 hts gL_law_X1_clashes rfl rfl rfl (by decide +kernel) ⟨Nat.le_of_ble_eq_true rfl, Nat.le_of_ble_eq_true rfl⟩) ⟨rFb, va_recv hKc hPc (ci := 1) (q0 := 0) rfl rfl, fun U hU hW => ⟨rfl, by rw [hU]; exact hPc, va_K.moved hW.alike hKc⟩⟩ rfl rfl hl.1 rfl (lv_room (Nat.le_of_ble_eq_true rfl)) dL_law_366 ⟨Nat.le_of_ble_eq_true rfl, Nat.le_of_ble_eq_true rfl⟩) (fun r_2 er_2 => ?_)
        rw [er_2]
        clear er_2 r_2 hPc hKc
        refine lv_icmp_eq (tgt := 387) hx hb dL_law_369 (by decide) (fun c9 => ?_) (fun c9 => ?_)
        · skip
          exact back _ T _ _ _ _ _ _ _ _ _ _ _ _ _ _ _ _ _ _ _ _ _ _ _ ls hP hD hS (lv_sub hl [0, 1, 2, 3] rfl) (by omega) (⟨hn60, hrow, hSd, hVl, hkb, hno, hRR⟩)
        · skip
          exact absurd (rfl) c9
      · skip
        refine lv_tableIn (off := 332) (tgt := 374) hx hb dL_law_42 (by decide) (by decide) (by decide) (by decide) ?_
        refine lv_aload_n hx hb dL_law_374 rfl (lv_at hl 1 rfl) ?_
        have hPc := hP.sub (ws' := (xW ad cI K row S V (nI n) kw ko kb qu qe cl2)) [0, 1, 2, 3, 4, 5, 6] rfl
        have hKc := hK.sub (tys' := [(cI, .int)]) [0] rfl
        have hDc := hD.sub (ws' := (xW ad cI K row S V (nI n) kw ko kb qu qe cl2)) [0, 1, 2, 3, 4, 5, 6] (by decide) rfl
        have hFc := va_free (wc := (xW ad cI K row S V (nI n) kw ko kb qu qe cl2)) hD hS hA [0, 1, 2, 3, 4, 5, 6] rfl
        refine va_calli (va_runV (As := []) (rest := []) ⟨hx, hb, hml, hown, hts⟩ (c_X0_forget l dC dI H.size ad cI K row S V (nI n) kw ko kb qu qe cl2) (cwV 0 hts gL_law_X0_forget rfl rfl rfl (by decide +kernel) ⟨Nat.le_of_ble_eq_true rfl, Nat.le_of_ble_eq_true rfl⟩) ⟨wFb, va_recv hKc hPc (ci := 0) (q0 := 0) rfl rfl, fun U hU hW => ⟨rfl, by rw [hU], by rw [hU]; exact hPc, va_K.moved hW.alike hKc, hDc.weaken (fun _ _ _ _ => trivial)⟩⟩ rfl rfl hl.1 rfl (lv_room (Nat.le_of_ble_eq_true rfl)) dL_law_375 ⟨Nat.le_of_ble_eq_true rfl, Nat.le_of_ble_eq_true rfl⟩) hS (fun q _ h => hFc q h) hFc (fun r_1 u_2 t H1 locs ht hvm hw hB hz1 hk1 hS => ?_)
        obtain ⟨hP1, hK1, hD1⟩ := hB
        rw [ht] at hP1
        obtain ⟨hP, hD⟩ := va_join (wr := (rW bd cJ cZ K row2 (nI n) sd vl wt (nI T) kn tl od (nI (pc kb)) cl2 inn stt)) (w1 := (xW ad cI K row S V (nI 0) kw ko 0 qu qe 0)) hP hD [0, 1, 2, 3, 4, 5, 6] [7, 8, 9, 10, 11, 12, 13, 14, 15] rfl rfl (by decide) (by decide) hk1 hFc hP1 hD1
        clear hP1 hD1 hK1 hFc hk1 hz1 hPc hKc hDc
        generalize H1 = H at hP hS ⊢
        have hP := hP.sub (ws' := ((xW ad cI K row S V (nI 0) kw ko 0 qu qe 0) ++ (rW bd cJ cZ K row2 (nI n) sd vl wt (nI T) kn tl od (nI (pc kb)) cl2 inn stt))) [9, 10, 11, 12, 13, 14, 15, 0, 1, 2, 3, 4, 5, 6, 7, 8] rfl
        have hD := hD.sub (ws' := ((xW ad cI K row S V (nI 0) kw ko 0 qu qe 0) ++ (rW bd cJ cZ K row2 (nI n) sd vl wt (nI T) kn tl od (nI (pc kb)) cl2 inn stt))) [9, 10, 11, 12, 13, 14, 15, 0, 1, 2, 3, 4, 5, 6, 7, 8] (by decide) rfl
        have hP : va_P (dC, dI) vwCl ((xW ad cI K row S V (nI 0) kw ko 0 qu qe 0) ++ (rW bd cJ cZ K row2 (nI n) sd vl wt (nI T) kn tl od (nI (pc kb)) cl2 inn stt)) H := hP
        have hD : va_D (fun q : Nat => s.heap.size ≤ q) ((xW ad cI K row S V (nI 0) kw ko 0 qu qe 0) ++ (rW bd cJ cZ K row2 (nI n) sd vl wt (nI T) kn tl od (nI (pc kb)) cl2 inn stt)) := hD
        subst hw
        refine lv_aload_n hx hb dL_law_378 rfl (lv_at hl 2 rfl) ?_
        have hPc := hP.sub (ws' := (rW bd cJ cZ K row2 (nI n) sd vl wt (nI T) kn tl od (nI (pc kb)) cl2 inn stt)) [7, 8, 9, 10, 11, 12, 13, 14, 15] rfl
        have hKc := hK.sub (tys' := [(cJ, .int), (cZ, .boolean)]) [1, 2] rfl
        have hDc := hD.sub (ws' := (rW bd cJ cZ K row2 (nI n) sd vl wt (nI T) kn tl od (nI (pc kb)) cl2 inn stt)) [7, 8, 9, 10, 11, 12, 13, 14, 15] (by decide) rfl
        have hFc := va_free (wc := (rW bd cJ cZ K row2 (nI n) sd vl wt (nI T) kn tl od (nI (pc kb)) cl2 inn stt)) hD hS hA [7, 8, 9, 10, 11, 12, 13, 14, 15] rfl
        refine va_calli (va_runV (As := []) (rest := [.int (nI n)]) ⟨hx, hb, hml, hown, hts⟩ (c_X1_forget l dC dI H.size bd cJ cZ K row2 (nI n) sd vl wt (nI T) kn tl od (nI (pc kb)) cl2 inn stt hK1 hK2) (cwV 0 hts gL_law_X1_forget rfl rfl rfl (by decide +kernel) ⟨Nat.le_of_ble_eq_true rfl, Nat.le_of_ble_eq_true rfl⟩) ⟨wFb, va_recv hKc hPc (ci := 1) (q0 := 0) rfl rfl, fun U hU hW => ⟨rfl, by rw [hU], by rw [hU]; exact hPc, va_K.moved hW.alike hKc, hDc.weaken (fun _ _ _ _ => trivial)⟩⟩ rfl rfl hl.1 rfl (lv_room (Nat.le_of_ble_eq_true rfl)) dL_law_379 ⟨Nat.le_of_ble_eq_true rfl, Nat.le_of_ble_eq_true rfl⟩) hS (fun q _ h => hFc q h) hFc (fun r_3 u_4 t H1 locs ht hvm hw hB hz1 hk1 hS => ?_)
        obtain ⟨hP1, hK1, hD1⟩ := hB
        rw [ht] at hP1
        obtain ⟨hP, hD⟩ := va_join (wr := (xW ad cI K row S V (nI 0) kw ko 0 qu qe 0)) (w1 := (rW bd cJ cZ K row2 (nI 0) sd vl wt (nI T) u_4 tl od 0 0 inn stt)) hP hD [7, 8, 9, 10, 11, 12, 13, 14, 15] [0, 1, 2, 3, 4, 5, 6] rfl rfl (by decide) (by decide) hk1 hFc hP1 hD1
        clear hP1 hD1 hK1 hFc hk1 hz1 hPc hKc hDc
        generalize H1 = H at hP hS ⊢
        have hP : va_P (dC, dI) vwCl ((xW ad cI K row S V (nI 0) kw ko 0 qu qe 0) ++ (rW bd cJ cZ K row2 (nI 0) sd vl wt (nI T) u_4 tl od 0 0 inn stt)) H := hP
        have hD : va_D (fun q : Nat => s.heap.size ≤ q) ((xW ad cI K row S V (nI 0) kw ko 0 qu qe 0) ++ (rW bd cJ cZ K row2 (nI 0) sd vl wt (nI T) u_4 tl od 0 0 inn stt)) := hD
        obtain ⟨rfl, hk9⟩ := hw
        refine lv_icmp_eq (tgt := 387) hx hb dL_law_382 (by decide) (fun c9 => ?_) (fun c9 => ?_)
        · skip
          exact back _ T _ _ _ _ _ _ _ _ _ _ _ _ _ _ _ _ _ _ _ _ _ _ _ ls hP hD hS (lv_sub hl [0, 1, 2, 3] rfl) (by omega) (lw_fg hrow hk9)
        · skip
          exact absurd (rfl) c9
      · skip
        have hsw3 : (nI sw).toInt = (sw : Int) := nI_toInt (by omega)
        refine lv_tableOut (tgt := 387) hx hb dL_law_42 (Or.inr (by rw [hsw3]; omega)) (by decide) ?_
        exact back _ T _ _ _ _ _ _ _ _ _ _ _ _ _ _ _ _ _ _ _ _ _ _ _ ls hP hD hS (lv_sub hl [0, 1, 2, 3] rfl) (by omega) (⟨hn60, hrow, hSd, hVl, hkb, hno, hRR⟩)
