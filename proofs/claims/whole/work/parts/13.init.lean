def adF (l : List Nat) : Nat → Nat := fun i => l.getD i 0
set_option maxHeartbeats 4000000 in
set_option maxRecDepth 100000 in
/-- a new DropCode -/
theorem c_X0_init (l : Launch) (dC : Nat → ClassId) (dI : Nat → Nat → Nat) (sz h0 K : Nat) (hK1 : 1 ≤ K) (hK2 : K ≤ 32) (k : Int32) (hk : fmF k + 1 = nI K) : Met l yX0_init wsX0_init ({ frames := 1, cells := 6, slots := 276, locals := 40 }) (va_Pc [.ref h0, .int k] (wB dC dI [] sz [(h0, .inr (0, [.int 0, .null, .null, .null, .int 0, .null, .null, .int 0, .null, .int 0, .int 0]))])) (va_Qv (fun (u : (Nat → Nat) × ClassId × ClassId) => u.1 0 = h0) (fun u => oB dC dI [(u.2.1, .int)] (va_A [(h0, .inr (0, [.int 0, .null, .null, .null, .int 0, .null, .null, .int 0, .null, .int 0, .int 0]))] sz) (xW u.1 u.2.1 K (fun _ => 0) (fun _ => 0) (fun _ => 0) 0 (fun _ => 0) (fun _ => 0) 0 (fun _ => 0) 0 0)) (va_A [(h0, .inr (0, [.int 0, .null, .null, .null, .int 0, .null, .null, .int 0, .null, .int 0, .int 0]))] sz)) 6 276 (va_A [(h0, .inr (0, [.int 0, .null, .null, .null, .int 0, .null, .null, .int 0, .null, .int 0, .int 0]))] sz) := by
  refine Met.ofW (cc := cX0_init) (maxL := 2) (ret := none) (by decide) rfl ?_
  intro p e s m args below meth c s₁ B hml hv
  obtain ⟨rfl, hsz, hP, hK, hD0⟩ := hv
  have hx := B.exec
  have hb := B.bytes
  have hr := B.returns
  have hts := atoms_spec (ws := wsX0_init) B.pre
  have hown : s.vm.findClass RX0 = some m.cls := findClass_of_methodNamed B.named
  have hlocks := B.notSynchronized
  have hin : meth.name = "<init>" := (name_of_methodNamed B.named B.method).1
  have hw0 : ∀ w ∈ wsX00, w ∈ wsX0_init := fun _ h => List.mem_cons_of_mem _ (List.mem_append_right _ h)
  subst hsz
  have hD := hD0.self (sz := s.heap.size)
  generalize hAe : va_A [(h0, .inr (0, [.int 0, .null, .null, .null, .int 0, .null, .null, .int 0, .null, .int 0, .int 0]))] s.heap.size = A at hD ⊢
  have hA : ∀ q : Nat, s.heap.size ≤ q → A q := fun q h => by rw [← hAe]; exact Or.inr h
  have hS : va_S A s.heap s.heap [] := va_S.rf
  have hP : va_P (dC, dI) vwCl [(h0, .inr (0, [.int 0, .null, .null, .null, .int 0, .null, .null, .int 0, .null, .int 0, .int 0]))] s.heap := hP
  have hl := lv_entry ([.ref h0, .int k]) (n := 2) (Nat.le_of_ble_eq_true rfl)
  rw [lg_entry_eq]
  generalize (lg_sl ([.ref h0, .int k]) ++ List.replicate (2 - (lg_sl ([.ref h0, .int k])).length) Slot.unset).toArray = ls at hl ⊢
  have hl : lv_has ls 2 [(0, .ref h0), (1, .int k)] := hl
  refine lv_aload_n hx hb dX0_init_0 rfl (lv_at hl 0 rfl) ?_
  refine W.objInit hx hb hown (hts (.methodLink RX0 1 objectInit) (by decide +kernel)) (hts (.instanceMethod objectInit) (by decide +kernel)) (hts _ (List.mem_cons_of_mem _ (List.mem_append_left _ (List.mem_of_getElem? (i := 2) rfl)))) rfl (by rw [hml]; exact hl.1) rfl dX0_init_1 (Nat.le_of_ble_eq_true rfl) (Nat.le_of_ble_eq_true rfl) ?_
  refine W.eq (g2 := F0 m 4 ls []) rfl ?_
  refine lv_aload_n hx hb dX0_init_4 rfl (lv_at hl 0 rfl) ?_
  refine lv_bipush (v := 60) hx hb dX0_init_5 (by decide) ?_
  refine va_newa (atype := .int) (ty := .int) (n := 60) (N' := 60) (a0 := (60, .inl (fun _ => 0))) hx hb (hts (.arrayClass .int) (by decide +kernel)) rfl hK hP hD hS hA (fun cA => rfl) (by decide) (by decide) (by show 60 * 4 ≤ 536870912; omega) (Nat.le_of_ble_eq_true rfl) (by show 0 + 60 ≤ 276; omega) dX0_init_7 (fun q1 cA1 H hK hP hD hS => ?_)
  have hP : va_P (dC, dI) vwCl [(h0, .inr (0, [.int 0, .null, .null, .null, .int 0, .null, .null, .int 0, .null, .int 0, .int 0])), (q1, .inl (cA1, 60, .inl (fun _ => 0)))] H := hP
  have hD : va_D A [(h0, .inr (0, [.int 0, .null, .null, .null, .int 0, .null, .null, .int 0, .null, .int 0, .int 0])), (q1, .inl (cA1, 60, .inl (fun _ => 0)))] := hD
  have hK : va_K (dC, dI) vwCl [(cA1, .int)] s := hK
  refine va_putF (D := (dC, dI)) (ci := 0) (v := .ref q1) (ty := .array .int) (C := RX0) (T := TX0) (N := 11) hx hb hts hw0 tyX0 tyX0_ok nmX0 hown hK hP hD hS 0 rfl rfl 2 (by decide) (hts (.fieldLink RX0 9 "DropCode" "dropSets" "[I") (by decide +kernel)) (fun _ h9 => h9) rfl hin rfl (by decide +kernel) rfl rfl (Nat.le_of_ble_eq_true rfl) dX0_init_9 (fun H locs hP hD hS => ?_)
  have hP : va_P (dC, dI) vwCl [(h0, .inr (0, [.int 0, .null, .ref q1, .null, .int 0, .null, .null, .int 0, .null, .int 0, .int 0])), (q1, .inl (cA1, 60, .inl (fun _ => 0)))] H := hP
  have hD : va_D A [(h0, .inr (0, [.int 0, .null, .ref q1, .null, .int 0, .null, .null, .int 0, .null, .int 0, .int 0])), (q1, .inl (cA1, 60, .inl (fun _ => 0)))] := hD
  refine lv_aload_n hx hb dX0_init_12 rfl (lv_at hl 0 rfl) ?_
  refine lv_bipush (v := 60) hx hb dX0_init_13 (by decide) ?_
  refine va_newa (atype := .int) (ty := .int) (n := 60) (N' := 60) (a0 := (60, .inl (fun _ => 0))) hx hb (hts (.arrayClass .int) (by decide +kernel)) rfl hK hP hD hS hA (fun cA => rfl) (by decide) (by decide) (by show 60 * 4 ≤ 536870912; omega) (Nat.le_of_ble_eq_true rfl) (by show 0 + 60 + 60 ≤ 276; omega) dX0_init_15 (fun q2 cA2 H hK hP hD hS => ?_)
  have hP : va_P (dC, dI) vwCl [(h0, .inr (0, [.int 0, .null, .ref q1, .null, .int 0, .null, .null, .int 0, .null, .int 0, .int 0])), (q1, .inl (cA1, 60, .inl (fun _ => 0))), (q2, .inl (cA2, 60, .inl (fun _ => 0)))] H := hP
  have hD : va_D A [(h0, .inr (0, [.int 0, .null, .ref q1, .null, .int 0, .null, .null, .int 0, .null, .int 0, .int 0])), (q1, .inl (cA1, 60, .inl (fun _ => 0))), (q2, .inl (cA2, 60, .inl (fun _ => 0)))] := hD
  have hK : va_K (dC, dI) vwCl [(cA1, .int), (cA2, .int)] s := hK
  refine va_putF (D := (dC, dI)) (ci := 0) (v := .ref q2) (ty := .array .int) (C := RX0) (T := TX0) (N := 11) hx hb hts hw0 tyX0 tyX0_ok nmX0 hown hK hP hD hS 0 rfl rfl 3 (by decide) (hts (.fieldLink RX0 13 "DropCode" "dropWords" "[I") (by decide +kernel)) (fun _ h9 => h9) rfl hin rfl (by decide +kernel) rfl rfl (Nat.le_of_ble_eq_true rfl) dX0_init_17 (fun H locs hP hD hS => ?_)
  have hP : va_P (dC, dI) vwCl [(h0, .inr (0, [.int 0, .null, .ref q1, .ref q2, .int 0, .null, .null, .int 0, .null, .int 0, .int 0])), (q1, .inl (cA1, 60, .inl (fun _ => 0))), (q2, .inl (cA2, 60, .inl (fun _ => 0)))] H := hP
  have hD : va_D A [(h0, .inr (0, [.int 0, .null, .ref q1, .ref q2, .int 0, .null, .null, .int 0, .null, .int 0, .int 0])), (q1, .inl (cA1, 60, .inl (fun _ => 0))), (q2, .inl (cA2, 60, .inl (fun _ => 0)))] := hD
  refine lv_aload_n hx hb dX0_init_20 rfl (lv_at hl 0 rfl) ?_
  refine lv_iconst (v := 0) hx hb dX0_init_21 (by decide) ?_
  refine va_put (D := (dC, dI)) (ci := 0) (v := .int 0) (ty := .int) (C := RX0) (T := TX0) (N := 11) hx hb hts hw0 tyX0 tyX0_ok nmX0 hown hK hP hD hS 0 rfl rfl 4 (by decide) (hts (.fieldLink RX0 16 "DropCode" "dropCount" "I") (by decide +kernel)) (fun _ h9 => h9) rfl (by decide +kernel) rfl rfl (Nat.le_of_ble_eq_true rfl) dX0_init_22 (fun H locs hP hD hS => ?_)
  have hP : va_P (dC, dI) vwCl [(h0, .inr (0, [.int 0, .null, .ref q1, .ref q2, .int 0, .null, .null, .int 0, .null, .int 0, .int 0])), (q1, .inl (cA1, 60, .inl (fun _ => 0))), (q2, .inl (cA2, 60, .inl (fun _ => 0)))] H := hP
  have hD : va_D A [(h0, .inr (0, [.int 0, .null, .ref q1, .ref q2, .int 0, .null, .null, .int 0, .null, .int 0, .int 0])), (q1, .inl (cA1, 60, .inl (fun _ => 0))), (q2, .inl (cA2, 60, .inl (fun _ => 0)))] := hD
  refine lv_aload_n hx hb dX0_init_25 rfl (lv_at hl 0 rfl) ?_
  refine lv_iconst (v := 0) hx hb dX0_init_26 (by decide) ?_
  refine va_put (D := (dC, dI)) (ci := 0) (v := .int 0) (ty := .int) (C := RX0) (T := TX0) (N := 11) hx hb hts hw0 tyX0 tyX0_ok nmX0 hown hK hP hD hS 0 rfl rfl 7 (by decide) (hts (.fieldLink RX0 20 "DropCode" "knownBits" "I") (by decide +kernel)) (fun _ h9 => h9) rfl (by decide +kernel) rfl rfl (Nat.le_of_ble_eq_true rfl) dX0_init_27 (fun H locs hP hD hS => ?_)
  have hP : va_P (dC, dI) vwCl [(h0, .inr (0, [.int 0, .null, .ref q1, .ref q2, .int 0, .null, .null, .int 0, .null, .int 0, .int 0])), (q1, .inl (cA1, 60, .inl (fun _ => 0))), (q2, .inl (cA2, 60, .inl (fun _ => 0)))] H := hP
  have hD : va_D A [(h0, .inr (0, [.int 0, .null, .ref q1, .ref q2, .int 0, .null, .null, .int 0, .null, .int 0, .int 0])), (q1, .inl (cA1, 60, .inl (fun _ => 0))), (q2, .inl (cA2, 60, .inl (fun _ => 0)))] := hD
  refine lv_aload_n hx hb dX0_init_30 rfl (lv_at hl 0 rfl) ?_
  refine lv_bipush (v := 60) hx hb dX0_init_31 (by decide) ?_
  refine va_newa (atype := .int) (ty := .int) (n := 60) (N' := 60) (a0 := (60, .inl (fun _ => 0))) hx hb (hts (.arrayClass .int) (by decide +kernel)) rfl hK hP hD hS hA (fun cA => rfl) (by decide) (by decide) (by show 60 * 4 ≤ 536870912; omega) (Nat.le_of_ble_eq_true rfl) (by show 0 + 60 + 60 + 60 ≤ 276; omega) dX0_init_33 (fun q3 cA3 H hK hP hD hS => ?_)
  have hP : va_P (dC, dI) vwCl [(h0, .inr (0, [.int 0, .null, .ref q1, .ref q2, .int 0, .null, .null, .int 0, .null, .int 0, .int 0])), (q1, .inl (cA1, 60, .inl (fun _ => 0))), (q2, .inl (cA2, 60, .inl (fun _ => 0))), (q3, .inl (cA3, 60, .inl (fun _ => 0)))] H := hP
  have hD : va_D A [(h0, .inr (0, [.int 0, .null, .ref q1, .ref q2, .int 0, .null, .null, .int 0, .null, .int 0, .int 0])), (q1, .inl (cA1, 60, .inl (fun _ => 0))), (q2, .inl (cA2, 60, .inl (fun _ => 0))), (q3, .inl (cA3, 60, .inl (fun _ => 0)))] := hD
  have hK : va_K (dC, dI) vwCl [(cA1, .int), (cA2, .int), (cA3, .int)] s := hK
  refine va_putF (D := (dC, dI)) (ci := 0) (v := .ref q3) (ty := .array .int) (C := RX0) (T := TX0) (N := 11) hx hb hts hw0 tyX0 tyX0_ok nmX0 hown hK hP hD hS 0 rfl rfl 8 (by decide) (hts (.fieldLink RX0 23 "DropCode" "queue" "[I") (by decide +kernel)) (fun _ h9 => h9) rfl hin rfl (by decide +kernel) rfl rfl (Nat.le_of_ble_eq_true rfl) dX0_init_35 (fun H locs hP hD hS => ?_)
  have hP : va_P (dC, dI) vwCl [(h0, .inr (0, [.int 0, .null, .ref q1, .ref q2, .int 0, .null, .null, .int 0, .ref q3, .int 0, .int 0])), (q1, .inl (cA1, 60, .inl (fun _ => 0))), (q2, .inl (cA2, 60, .inl (fun _ => 0))), (q3, .inl (cA3, 60, .inl (fun _ => 0)))] H := hP
  have hD : va_D A [(h0, .inr (0, [.int 0, .null, .ref q1, .ref q2, .int 0, .null, .null, .int 0, .ref q3, .int 0, .int 0])), (q1, .inl (cA1, 60, .inl (fun _ => 0))), (q2, .inl (cA2, 60, .inl (fun _ => 0))), (q3, .inl (cA3, 60, .inl (fun _ => 0)))] := hD
  refine lv_aload_n hx hb dX0_init_38 rfl (lv_at hl 0 rfl) ?_
  refine lv_iconst (v := 0) hx hb dX0_init_39 (by decide) ?_
  refine va_put (D := (dC, dI)) (ci := 0) (v := .int 0) (ty := .int) (C := RX0) (T := TX0) (N := 11) hx hb hts hw0 tyX0 tyX0_ok nmX0 hown hK hP hD hS 0 rfl rfl 9 (by decide) (hts (.fieldLink RX0 26 "DropCode" "queueEnd" "I") (by decide +kernel)) (fun _ h9 => h9) rfl (by decide +kernel) rfl rfl (Nat.le_of_ble_eq_true rfl) dX0_init_40 (fun H locs hP hD hS => ?_)
  have hP : va_P (dC, dI) vwCl [(h0, .inr (0, [.int 0, .null, .ref q1, .ref q2, .int 0, .null, .null, .int 0, .ref q3, .int 0, .int 0])), (q1, .inl (cA1, 60, .inl (fun _ => 0))), (q2, .inl (cA2, 60, .inl (fun _ => 0))), (q3, .inl (cA3, 60, .inl (fun _ => 0)))] H := hP
  have hD : va_D A [(h0, .inr (0, [.int 0, .null, .ref q1, .ref q2, .int 0, .null, .null, .int 0, .ref q3, .int 0, .int 0])), (q1, .inl (cA1, 60, .inl (fun _ => 0))), (q2, .inl (cA2, 60, .inl (fun _ => 0))), (q3, .inl (cA3, 60, .inl (fun _ => 0)))] := hD
  refine lv_aload_n hx hb dX0_init_43 rfl (lv_at hl 0 rfl) ?_
  refine lv_iconst (v := 0) hx hb dX0_init_44 (by decide) ?_
  refine va_put (D := (dC, dI)) (ci := 0) (v := .int 0) (ty := .int) (C := RX0) (T := TX0) (N := 11) hx hb hts hw0 tyX0 tyX0_ok nmX0 hown hK hP hD hS 0 rfl rfl 10 (by decide) (hts (.fieldLink RX0 29 "DropCode" "clashCount" "I") (by decide +kernel)) (fun _ h9 => h9) rfl (by decide +kernel) rfl rfl (Nat.le_of_ble_eq_true rfl) dX0_init_45 (fun H locs hP hD hS => ?_)
  have hP : va_P (dC, dI) vwCl [(h0, .inr (0, [.int 0, .null, .ref q1, .ref q2, .int 0, .null, .null, .int 0, .ref q3, .int 0, .int 0])), (q1, .inl (cA1, 60, .inl (fun _ => 0))), (q2, .inl (cA2, 60, .inl (fun _ => 0))), (q3, .inl (cA3, 60, .inl (fun _ => 0)))] H := hP
  have hD : va_D A [(h0, .inr (0, [.int 0, .null, .ref q1, .ref q2, .int 0, .null, .null, .int 0, .ref q3, .int 0, .int 0])), (q1, .inl (cA1, 60, .inl (fun _ => 0))), (q2, .inl (cA2, 60, .inl (fun _ => 0))), (q3, .inl (cA3, 60, .inl (fun _ => 0)))] := hD
  refine lv_aload_n hx hb dX0_init_48 rfl (lv_at hl 0 rfl) ?_
  refine lv_iload_n hx hb dX0_init_49 rfl (lv_at hl 1 rfl) ?_
  refine lv_bipush (v := 32) hx hb dX0_init_50 (by decide) ?_
  refine vp_callSi (W.runS (As := [.int k, .int 32]) (rest := [.ref h0]) ⟨hx, hb, hml, hown, hts⟩ (c_J9_floorMod_7cf53 l k) (va_cwS 2 hts gX0_init_J9_floorMod_7cf53 rfl rfl rfl (by decide +kernel) ⟨Nat.le_of_ble_eq_true rfl, Nat.le_of_ble_eq_true rfl⟩) ⟨pFb, fun U hU hW => ⟨rfl, trivial⟩⟩ rfl rfl hl.1 rfl (lv_room (Nat.le_of_ble_eq_true rfl)) dX0_init_52 ⟨Nat.le_of_ble_eq_true rfl, Nat.le_of_ble_eq_true rfl⟩) (fun r_1 er_1 => ?_)
  subst er_1
  refine lv_iconst (v := 1) hx hb dX0_init_55 (by decide) ?_
  refine lv_iadd hx hb dX0_init_56 ?_
  refine lv_topi (fun z_2 ez_2 => ?_)
  have ez_2 : z_2 = nI K := ez_2.trans (hk)
  subst ez_2
  refine va_putF (D := (dC, dI)) (ci := 0) (v := .int (nI K)) (ty := .int) (C := RX0) (T := TX0) (N := 11) hx hb hts hw0 tyX0 tyX0_ok nmX0 hown hK hP hD hS 0 rfl rfl 0 (by decide) (hts (.fieldLink RX0 38 "DropCode" "size" "I") (by decide +kernel)) (fun _ h9 => h9) rfl hin rfl (by decide +kernel) rfl rfl (Nat.le_of_ble_eq_true rfl) dX0_init_57 (fun H locs hP hD hS => ?_)
  have hP : va_P (dC, dI) vwCl [(h0, .inr (0, [.int (nI K), .null, .ref q1, .ref q2, .int 0, .null, .null, .int 0, .ref q3, .int 0, .int 0])), (q1, .inl (cA1, 60, .inl (fun _ => 0))), (q2, .inl (cA2, 60, .inl (fun _ => 0))), (q3, .inl (cA3, 60, .inl (fun _ => 0)))] H := hP
  have hD : va_D A [(h0, .inr (0, [.int (nI K), .null, .ref q1, .ref q2, .int 0, .null, .null, .int 0, .ref q3, .int 0, .int 0])), (q1, .inl (cA1, 60, .inl (fun _ => 0))), (q2, .inl (cA2, 60, .inl (fun _ => 0))), (q3, .inl (cA3, 60, .inl (fun _ => 0)))] := hD
  refine lv_aload_n hx hb dX0_init_60 rfl (lv_at hl 0 rfl) ?_
  refine lv_aload_n hx hb dX0_init_61 rfl (lv_at hl 0 rfl) ?_
  refine va_get (D := (dC, dI)) (ci := 0) (v := .int (nI K)) (C := RX0) (T := TX0) (N := 11) hx hb hts hw0 hown hK hP 0 rfl rfl 0 (by decide) (hts (.fieldLink RX0 38 "DropCode" "size" "I") (by decide +kernel)) (fun _ h9 => h9) rfl dX0_init_62 ?_
  refine va_newa (atype := .int) (ty := .int) (n := nI K) (N' := K) (a0 := (K, .inl (fun _ => 0))) hx hb (hts (.arrayClass .int) (by decide +kernel)) rfl hK hP hD hS hA (fun cA => rfl) (nI_pos (by omega)) (nI_clamp (by omega)) (by show K * 4 ≤ 536870912; omega) (Nat.le_of_ble_eq_true rfl) (by show 0 + 60 + 60 + 60 + K ≤ 276; omega) dX0_init_65 (fun q4 cA4 H hK hP hD hS => ?_)
  have hP : va_P (dC, dI) vwCl [(h0, .inr (0, [.int (nI K), .null, .ref q1, .ref q2, .int 0, .null, .null, .int 0, .ref q3, .int 0, .int 0])), (q1, .inl (cA1, 60, .inl (fun _ => 0))), (q2, .inl (cA2, 60, .inl (fun _ => 0))), (q3, .inl (cA3, 60, .inl (fun _ => 0))), (q4, .inl (cA4, K, .inl (fun _ => 0)))] H := hP
  have hD : va_D A [(h0, .inr (0, [.int (nI K), .null, .ref q1, .ref q2, .int 0, .null, .null, .int 0, .ref q3, .int 0, .int 0])), (q1, .inl (cA1, 60, .inl (fun _ => 0))), (q2, .inl (cA2, 60, .inl (fun _ => 0))), (q3, .inl (cA3, 60, .inl (fun _ => 0))), (q4, .inl (cA4, K, .inl (fun _ => 0)))] := hD
  have hK : va_K (dC, dI) vwCl [(cA1, .int), (cA2, .int), (cA3, .int), (cA4, .int)] s := hK
  refine va_putF (D := (dC, dI)) (ci := 0) (v := .ref q4) (ty := .array .int) (C := RX0) (T := TX0) (N := 11) hx hb hts hw0 tyX0 tyX0_ok nmX0 hown hK hP hD hS 0 rfl rfl 1 (by decide) (hts (.fieldLink RX0 41 "DropCode" "row" "[I") (by decide +kernel)) (fun _ h9 => h9) rfl hin rfl (by decide +kernel) rfl rfl (Nat.le_of_ble_eq_true rfl) dX0_init_67 (fun H locs hP hD hS => ?_)
  have hP : va_P (dC, dI) vwCl [(h0, .inr (0, [.int (nI K), .ref q4, .ref q1, .ref q2, .int 0, .null, .null, .int 0, .ref q3, .int 0, .int 0])), (q1, .inl (cA1, 60, .inl (fun _ => 0))), (q2, .inl (cA2, 60, .inl (fun _ => 0))), (q3, .inl (cA3, 60, .inl (fun _ => 0))), (q4, .inl (cA4, K, .inl (fun _ => 0)))] H := hP
  have hD : va_D A [(h0, .inr (0, [.int (nI K), .ref q4, .ref q1, .ref q2, .int 0, .null, .null, .int 0, .ref q3, .int 0, .int 0])), (q1, .inl (cA1, 60, .inl (fun _ => 0))), (q2, .inl (cA2, 60, .inl (fun _ => 0))), (q3, .inl (cA3, 60, .inl (fun _ => 0))), (q4, .inl (cA4, K, .inl (fun _ => 0)))] := hD
  refine lv_aload_n hx hb dX0_init_70 rfl (lv_at hl 0 rfl) ?_
  refine lv_aload_n hx hb dX0_init_71 rfl (lv_at hl 0 rfl) ?_
  refine va_get (D := (dC, dI)) (ci := 0) (v := .int (nI K)) (C := RX0) (T := TX0) (N := 11) hx hb hts hw0 hown hK hP 0 rfl rfl 0 (by decide) (hts (.fieldLink RX0 38 "DropCode" "size" "I") (by decide +kernel)) (fun _ h9 => h9) rfl dX0_init_72 ?_
  refine va_newa (atype := .int) (ty := .int) (n := nI K) (N' := K) (a0 := (K, .inl (fun _ => 0))) hx hb (hts (.arrayClass .int) (by decide +kernel)) rfl hK hP hD hS hA (fun cA => rfl) (nI_pos (by omega)) (nI_clamp (by omega)) (by show K * 4 ≤ 536870912; omega) (Nat.le_of_ble_eq_true rfl) (by show 0 + 60 + 60 + 60 + K + K ≤ 276; omega) dX0_init_75 (fun q5 cA5 H hK hP hD hS => ?_)
  have hP : va_P (dC, dI) vwCl [(h0, .inr (0, [.int (nI K), .ref q4, .ref q1, .ref q2, .int 0, .null, .null, .int 0, .ref q3, .int 0, .int 0])), (q1, .inl (cA1, 60, .inl (fun _ => 0))), (q2, .inl (cA2, 60, .inl (fun _ => 0))), (q3, .inl (cA3, 60, .inl (fun _ => 0))), (q4, .inl (cA4, K, .inl (fun _ => 0))), (q5, .inl (cA5, K, .inl (fun _ => 0)))] H := hP
  have hD : va_D A [(h0, .inr (0, [.int (nI K), .ref q4, .ref q1, .ref q2, .int 0, .null, .null, .int 0, .ref q3, .int 0, .int 0])), (q1, .inl (cA1, 60, .inl (fun _ => 0))), (q2, .inl (cA2, 60, .inl (fun _ => 0))), (q3, .inl (cA3, 60, .inl (fun _ => 0))), (q4, .inl (cA4, K, .inl (fun _ => 0))), (q5, .inl (cA5, K, .inl (fun _ => 0)))] := hD
  have hK : va_K (dC, dI) vwCl [(cA1, .int), (cA2, .int), (cA3, .int), (cA4, .int), (cA5, .int)] s := hK
  refine va_putF (D := (dC, dI)) (ci := 0) (v := .ref q5) (ty := .array .int) (C := RX0) (T := TX0) (N := 11) hx hb hts hw0 tyX0 tyX0_ok nmX0 hown hK hP hD hS 0 rfl rfl 5 (by decide) (hts (.fieldLink RX0 44 "DropCode" "knownWords" "[I") (by decide +kernel)) (fun _ h9 => h9) rfl hin rfl (by decide +kernel) rfl rfl (Nat.le_of_ble_eq_true rfl) dX0_init_77 (fun H locs hP hD hS => ?_)
  have hP : va_P (dC, dI) vwCl [(h0, .inr (0, [.int (nI K), .ref q4, .ref q1, .ref q2, .int 0, .ref q5, .null, .int 0, .ref q3, .int 0, .int 0])), (q1, .inl (cA1, 60, .inl (fun _ => 0))), (q2, .inl (cA2, 60, .inl (fun _ => 0))), (q3, .inl (cA3, 60, .inl (fun _ => 0))), (q4, .inl (cA4, K, .inl (fun _ => 0))), (q5, .inl (cA5, K, .inl (fun _ => 0)))] H := hP
  have hD : va_D A [(h0, .inr (0, [.int (nI K), .ref q4, .ref q1, .ref q2, .int 0, .ref q5, .null, .int 0, .ref q3, .int 0, .int 0])), (q1, .inl (cA1, 60, .inl (fun _ => 0))), (q2, .inl (cA2, 60, .inl (fun _ => 0))), (q3, .inl (cA3, 60, .inl (fun _ => 0))), (q4, .inl (cA4, K, .inl (fun _ => 0))), (q5, .inl (cA5, K, .inl (fun _ => 0)))] := hD
  refine lv_aload_n hx hb dX0_init_80 rfl (lv_at hl 0 rfl) ?_
  refine lv_aload_n hx hb dX0_init_81 rfl (lv_at hl 0 rfl) ?_
  refine va_get (D := (dC, dI)) (ci := 0) (v := .int (nI K)) (C := RX0) (T := TX0) (N := 11) hx hb hts hw0 hown hK hP 0 rfl rfl 0 (by decide) (hts (.fieldLink RX0 38 "DropCode" "size" "I") (by decide +kernel)) (fun _ h9 => h9) rfl dX0_init_82 ?_
  refine va_newa (atype := .int) (ty := .int) (n := nI K) (N' := K) (a0 := (K, .inl (fun _ => 0))) hx hb (hts (.arrayClass .int) (by decide +kernel)) rfl hK hP hD hS hA (fun cA => rfl) (nI_pos (by omega)) (nI_clamp (by omega)) (by show K * 4 ≤ 536870912; omega) (Nat.le_of_ble_eq_true rfl) (by show 0 + 60 + 60 + 60 + K + K + K ≤ 276; omega) dX0_init_85 (fun q6 cA6 H hK hP hD hS => ?_)
  have hP : va_P (dC, dI) vwCl [(h0, .inr (0, [.int (nI K), .ref q4, .ref q1, .ref q2, .int 0, .ref q5, .null, .int 0, .ref q3, .int 0, .int 0])), (q1, .inl (cA1, 60, .inl (fun _ => 0))), (q2, .inl (cA2, 60, .inl (fun _ => 0))), (q3, .inl (cA3, 60, .inl (fun _ => 0))), (q4, .inl (cA4, K, .inl (fun _ => 0))), (q5, .inl (cA5, K, .inl (fun _ => 0))), (q6, .inl (cA6, K, .inl (fun _ => 0)))] H := hP
  have hD : va_D A [(h0, .inr (0, [.int (nI K), .ref q4, .ref q1, .ref q2, .int 0, .ref q5, .null, .int 0, .ref q3, .int 0, .int 0])), (q1, .inl (cA1, 60, .inl (fun _ => 0))), (q2, .inl (cA2, 60, .inl (fun _ => 0))), (q3, .inl (cA3, 60, .inl (fun _ => 0))), (q4, .inl (cA4, K, .inl (fun _ => 0))), (q5, .inl (cA5, K, .inl (fun _ => 0))), (q6, .inl (cA6, K, .inl (fun _ => 0)))] := hD
  have hK : va_K (dC, dI) vwCl [(cA1, .int), (cA2, .int), (cA3, .int), (cA4, .int), (cA5, .int), (cA6, .int)] s := hK
  refine va_putF (D := (dC, dI)) (ci := 0) (v := .ref q6) (ty := .array .int) (C := RX0) (T := TX0) (N := 11) hx hb hts hw0 tyX0 tyX0_ok nmX0 hown hK hP hD hS 0 rfl rfl 6 (by decide) (hts (.fieldLink RX0 47 "DropCode" "knownOrder" "[I") (by decide +kernel)) (fun _ h9 => h9) rfl hin rfl (by decide +kernel) rfl rfl (Nat.le_of_ble_eq_true rfl) dX0_init_87 (fun H locs hP hD hS => ?_)
  have hP : va_P (dC, dI) vwCl [(h0, .inr (0, [.int (nI K), .ref q4, .ref q1, .ref q2, .int 0, .ref q5, .ref q6, .int 0, .ref q3, .int 0, .int 0])), (q1, .inl (cA1, 60, .inl (fun _ => 0))), (q2, .inl (cA2, 60, .inl (fun _ => 0))), (q3, .inl (cA3, 60, .inl (fun _ => 0))), (q4, .inl (cA4, K, .inl (fun _ => 0))), (q5, .inl (cA5, K, .inl (fun _ => 0))), (q6, .inl (cA6, K, .inl (fun _ => 0)))] H := hP
  have hD : va_D A [(h0, .inr (0, [.int (nI K), .ref q4, .ref q1, .ref q2, .int 0, .ref q5, .ref q6, .int 0, .ref q3, .int 0, .int 0])), (q1, .inl (cA1, 60, .inl (fun _ => 0))), (q2, .inl (cA2, 60, .inl (fun _ => 0))), (q3, .inl (cA3, 60, .inl (fun _ => 0))), (q4, .inl (cA4, K, .inl (fun _ => 0))), (q5, .inl (cA5, K, .inl (fun _ => 0))), (q6, .inl (cA6, K, .inl (fun _ => 0)))] := hD
  have hc1 : cA1 = cA2 := Option.some.inj ((hK.2 0 _ rfl).2.symm.trans (hK.2 1 _ rfl).2)
  have hc2 : cA1 = cA3 := Option.some.inj ((hK.2 0 _ rfl).2.symm.trans (hK.2 2 _ rfl).2)
  have hc3 : cA1 = cA4 := Option.some.inj ((hK.2 0 _ rfl).2.symm.trans (hK.2 3 _ rfl).2)
  have hc4 : cA1 = cA5 := Option.some.inj ((hK.2 0 _ rfl).2.symm.trans (hK.2 4 _ rfl).2)
  have hc5 : cA1 = cA6 := Option.some.inj ((hK.2 0 _ rfl).2.symm.trans (hK.2 5 _ rfl).2)
  subst hc1
  subst hc2
  subst hc3
  subst hc4
  subst hc5
  have hP : va_P (dC, dI) vwCl [(h0, .inr (0, [.int (nI K), .ref q4, .ref q1, .ref q2, .int 0, .ref q5, .ref q6, .int 0, .ref q3, .int 0, .int 0])), (q1, .inl (cA1, 60, .inl (fun _ => 0))), (q2, .inl (cA1, 60, .inl (fun _ => 0))), (q3, .inl (cA1, 60, .inl (fun _ => 0))), (q4, .inl (cA1, K, .inl (fun _ => 0))), (q5, .inl (cA1, K, .inl (fun _ => 0))), (q6, .inl (cA1, K, .inl (fun _ => 0)))] H := hP
  have hD : va_D A [(h0, .inr (0, [.int (nI K), .ref q4, .ref q1, .ref q2, .int 0, .ref q5, .ref q6, .int 0, .ref q3, .int 0, .int 0])), (q1, .inl (cA1, 60, .inl (fun _ => 0))), (q2, .inl (cA1, 60, .inl (fun _ => 0))), (q3, .inl (cA1, 60, .inl (fun _ => 0))), (q4, .inl (cA1, K, .inl (fun _ => 0))), (q5, .inl (cA1, K, .inl (fun _ => 0))), (q6, .inl (cA1, K, .inl (fun _ => 0)))] := hD
  have hK9 := hK.sub (tys' := [(cA1, .int)]) [0] rfl
  have hP9 := hP.sub (ws' := (xW (adF [h0, q4, q1, q2, q5, q6, q3]) cA1 K (fun _ => 0) (fun _ => 0) (fun _ => 0) 0 (fun _ => 0) (fun _ => 0) 0 (fun _ => 0) 0 0)) [0, 4, 1, 2, 5, 6, 3] rfl
  have hD9 := hD.sub (ws' := (xW (adF [h0, q4, q1, q2, q5, q6, q3]) cA1 K (fun _ => 0) (fun _ => 0) (fun _ => 0) 0 (fun _ => 0) (fun _ => 0) 0 (fun _ => 0) 0 0)) [0, 4, 1, 2, 5, 6, 3] (by decide) rfl
  refine W.widen (k := 6) (n := 276) (Nat.le_of_ble_eq_true rfl) (by show 0 + 60 + 60 + 60 + K + K + K ≤ 276; omega) ?_
  exact W.vret hx hb hr (fun t ht hW => ⟨⟨(adF [h0, q4, q1, q2, q5, q6, q3], cA1, cA1), rfl, rfl, by rw [ht]; exact hP9, va_K.moved hW.alike hK9, hD9⟩, hS.F ht⟩) hS.2.2 dX0_init_90
set_option maxHeartbeats 4000000 in
set_option maxRecDepth 100000 in
/-- a new DropCodeModel -/
theorem c_X1_init (l : Launch) (dC : Nat → ClassId) (dI : Nat → Nat → Nat) (sz h0 K : Nat) (hK1 : 1 ≤ K) (hK2 : K ≤ 32) (k : Int32) (hk : fmF k + 1 = nI K) : Met l yX1_init wsX1_init ({ frames := 1, cells := 8, slots := 340, locals := 40 }) (va_Pc [.ref h0, .int k] (wB dC dI [] sz [(h0, .inr (1, [.int 0, .null, .int 0, .null, .null, .null, .int 0, .null, .null, .null, .int 0, .int 0, .null, .int 0]))])) (va_Qv (fun (u : (Nat → Nat) × ClassId × ClassId) => u.1 0 = h0) (fun u => oB dC dI [(u.2.1, .int), (u.2.2, .boolean)] (va_A [(h0, .inr (1, [.int 0, .null, .int 0, .null, .null, .null, .int 0, .null, .null, .null, .int 0, .int 0, .null, .int 0]))] sz) (rW u.1 u.2.1 u.2.2 K (fun _ => 0) 0 (fun _ => 0) (fun _ => 0) (fun _ => 0) 0 (fun _ => 0) (fun _ => 0) (fun _ => 0) 0 0 (fun _ => 0) 0)) (va_A [(h0, .inr (1, [.int 0, .null, .int 0, .null, .null, .null, .int 0, .null, .null, .null, .int 0, .int 0, .null, .int 0]))] sz)) 8 340 (va_A [(h0, .inr (1, [.int 0, .null, .int 0, .null, .null, .null, .int 0, .null, .null, .null, .int 0, .int 0, .null, .int 0]))] sz) := by
  refine Met.ofW (cc := cX1_init) (maxL := 3) (ret := none) (by decide) rfl ?_
  intro p e s m args below meth c s₁ B hml hv
  obtain ⟨rfl, hsz, hP, hK, hD0⟩ := hv
  have hx := B.exec
  have hb := B.bytes
  have hr := B.returns
  have hts := atoms_spec (ws := wsX1_init) B.pre
  have hown : s.vm.findClass RX1 = some m.cls := findClass_of_methodNamed B.named
  have hlocks := B.notSynchronized
  have hin : meth.name = "<init>" := (name_of_methodNamed B.named B.method).1
  have hw0 : ∀ w ∈ wsX10, w ∈ wsX1_init := fun _ h => List.mem_cons_of_mem _ (List.mem_append_right _ h)
  subst hsz
  have hD := hD0.self (sz := s.heap.size)
  generalize hAe : va_A [(h0, .inr (1, [.int 0, .null, .int 0, .null, .null, .null, .int 0, .null, .null, .null, .int 0, .int 0, .null, .int 0]))] s.heap.size = A at hD ⊢
  have hA : ∀ q : Nat, s.heap.size ≤ q → A q := fun q h => by rw [← hAe]; exact Or.inr h
  have hS : va_S A s.heap s.heap [] := va_S.rf
  have hP : va_P (dC, dI) vwCl [(h0, .inr (1, [.int 0, .null, .int 0, .null, .null, .null, .int 0, .null, .null, .null, .int 0, .int 0, .null, .int 0]))] s.heap := hP
  have hl := lv_entry ([.ref h0, .int k]) (n := 3) (Nat.le_of_ble_eq_true rfl)
  rw [lg_entry_eq]
  generalize (lg_sl ([.ref h0, .int k]) ++ List.replicate (3 - (lg_sl ([.ref h0, .int k])).length) Slot.unset).toArray = ls at hl ⊢
  have hl : lv_has ls 3 [(0, .ref h0), (1, .int k)] := hl
  refine lv_aload_n hx hb dX1_init_0 rfl (lv_at hl 0 rfl) ?_
  refine W.objInit hx hb hown (hts (.methodLink RX1 1 objectInit) (by decide +kernel)) (hts (.instanceMethod objectInit) (by decide +kernel)) (hts _ (List.mem_cons_of_mem _ (List.mem_append_left _ (List.mem_of_getElem? (i := 2) rfl)))) rfl (by rw [hml]; exact hl.1) rfl dX1_init_1 (Nat.le_of_ble_eq_true rfl) (Nat.le_of_ble_eq_true rfl) ?_
  refine W.eq (g2 := F0 m 4 ls []) rfl ?_
  refine lv_aload_n hx hb dX1_init_4 rfl (lv_at hl 0 rfl) ?_
  refine lv_bipush (v := 32) hx hb dX1_init_5 (by decide) ?_
  refine va_newa (atype := .int) (ty := .int) (n := 32) (N' := 32) (a0 := (32, .inl (fun _ => 0))) hx hb (hts (.arrayClass .int) (by decide +kernel)) rfl hK hP hD hS hA (fun cA => rfl) (by decide) (by decide) (by show 32 * 4 ≤ 536870912; omega) (Nat.le_of_ble_eq_true rfl) (by show 0 + 32 ≤ 340; omega) dX1_init_7 (fun q1 cA1 H hK hP hD hS => ?_)
  have hP : va_P (dC, dI) vwCl [(h0, .inr (1, [.int 0, .null, .int 0, .null, .null, .null, .int 0, .null, .null, .null, .int 0, .int 0, .null, .int 0])), (q1, .inl (cA1, 32, .inl (fun _ => 0)))] H := hP
  have hD : va_D A [(h0, .inr (1, [.int 0, .null, .int 0, .null, .null, .null, .int 0, .null, .null, .null, .int 0, .int 0, .null, .int 0])), (q1, .inl (cA1, 32, .inl (fun _ => 0)))] := hD
  have hK : va_K (dC, dI) vwCl [(cA1, .int)] s := hK
  refine va_putF (D := (dC, dI)) (ci := 1) (v := .ref q1) (ty := .array .int) (C := RX1) (T := TX1) (N := 14) hx hb hts hw0 tyX1 tyX1_ok nmX1 hown hK hP hD hS 0 rfl rfl 1 (by decide) (hts (.fieldLink RX1 7 "DropCodeModel" "row" "[I") (by decide +kernel)) (fun _ h9 => h9) rfl hin rfl (by decide +kernel) rfl rfl (Nat.le_of_ble_eq_true rfl) dX1_init_9 (fun H locs hP hD hS => ?_)
  have hP : va_P (dC, dI) vwCl [(h0, .inr (1, [.int 0, .ref q1, .int 0, .null, .null, .null, .int 0, .null, .null, .null, .int 0, .int 0, .null, .int 0])), (q1, .inl (cA1, 32, .inl (fun _ => 0)))] H := hP
  have hD : va_D A [(h0, .inr (1, [.int 0, .ref q1, .int 0, .null, .null, .null, .int 0, .null, .null, .null, .int 0, .int 0, .null, .int 0])), (q1, .inl (cA1, 32, .inl (fun _ => 0)))] := hD
  refine lv_aload_n hx hb dX1_init_12 rfl (lv_at hl 0 rfl) ?_
  refine lv_bipush (v := 60) hx hb dX1_init_13 (by decide) ?_
  refine va_newa (atype := .int) (ty := .int) (n := 60) (N' := 60) (a0 := (60, .inl (fun _ => 0))) hx hb (hts (.arrayClass .int) (by decide +kernel)) rfl hK hP hD hS hA (fun cA => rfl) (by decide) (by decide) (by show 60 * 4 ≤ 536870912; omega) (Nat.le_of_ble_eq_true rfl) (by show 0 + 32 + 60 ≤ 340; omega) dX1_init_15 (fun q2 cA2 H hK hP hD hS => ?_)
  have hP : va_P (dC, dI) vwCl [(h0, .inr (1, [.int 0, .ref q1, .int 0, .null, .null, .null, .int 0, .null, .null, .null, .int 0, .int 0, .null, .int 0])), (q1, .inl (cA1, 32, .inl (fun _ => 0))), (q2, .inl (cA2, 60, .inl (fun _ => 0)))] H := hP
  have hD : va_D A [(h0, .inr (1, [.int 0, .ref q1, .int 0, .null, .null, .null, .int 0, .null, .null, .null, .int 0, .int 0, .null, .int 0])), (q1, .inl (cA1, 32, .inl (fun _ => 0))), (q2, .inl (cA2, 60, .inl (fun _ => 0)))] := hD
  have hK : va_K (dC, dI) vwCl [(cA1, .int), (cA2, .int)] s := hK
  refine va_putF (D := (dC, dI)) (ci := 1) (v := .ref q2) (ty := .array .int) (C := RX1) (T := TX1) (N := 14) hx hb hts hw0 tyX1 tyX1_ok nmX1 hown hK hP hD hS 0 rfl rfl 3 (by decide) (hts (.fieldLink RX1 13 "DropCodeModel" "seeds" "[I") (by decide +kernel)) (fun _ h9 => h9) rfl hin rfl (by decide +kernel) rfl rfl (Nat.le_of_ble_eq_true rfl) dX1_init_17 (fun H locs hP hD hS => ?_)
  have hP : va_P (dC, dI) vwCl [(h0, .inr (1, [.int 0, .ref q1, .int 0, .ref q2, .null, .null, .int 0, .null, .null, .null, .int 0, .int 0, .null, .int 0])), (q1, .inl (cA1, 32, .inl (fun _ => 0))), (q2, .inl (cA2, 60, .inl (fun _ => 0)))] H := hP
  have hD : va_D A [(h0, .inr (1, [.int 0, .ref q1, .int 0, .ref q2, .null, .null, .int 0, .null, .null, .null, .int 0, .int 0, .null, .int 0])), (q1, .inl (cA1, 32, .inl (fun _ => 0))), (q2, .inl (cA2, 60, .inl (fun _ => 0)))] := hD
  refine lv_aload_n hx hb dX1_init_20 rfl (lv_at hl 0 rfl) ?_
  refine lv_bipush (v := 60) hx hb dX1_init_21 (by decide) ?_
  refine va_newa (atype := .int) (ty := .int) (n := 60) (N' := 60) (a0 := (60, .inl (fun _ => 0))) hx hb (hts (.arrayClass .int) (by decide +kernel)) rfl hK hP hD hS hA (fun cA => rfl) (by decide) (by decide) (by show 60 * 4 ≤ 536870912; omega) (Nat.le_of_ble_eq_true rfl) (by show 0 + 32 + 60 + 60 ≤ 340; omega) dX1_init_23 (fun q3 cA3 H hK hP hD hS => ?_)
  have hP : va_P (dC, dI) vwCl [(h0, .inr (1, [.int 0, .ref q1, .int 0, .ref q2, .null, .null, .int 0, .null, .null, .null, .int 0, .int 0, .null, .int 0])), (q1, .inl (cA1, 32, .inl (fun _ => 0))), (q2, .inl (cA2, 60, .inl (fun _ => 0))), (q3, .inl (cA3, 60, .inl (fun _ => 0)))] H := hP
  have hD : va_D A [(h0, .inr (1, [.int 0, .ref q1, .int 0, .ref q2, .null, .null, .int 0, .null, .null, .null, .int 0, .int 0, .null, .int 0])), (q1, .inl (cA1, 32, .inl (fun _ => 0))), (q2, .inl (cA2, 60, .inl (fun _ => 0))), (q3, .inl (cA3, 60, .inl (fun _ => 0)))] := hD
  have hK : va_K (dC, dI) vwCl [(cA1, .int), (cA2, .int), (cA3, .int)] s := hK
  refine va_putF (D := (dC, dI)) (ci := 1) (v := .ref q3) (ty := .array .int) (C := RX1) (T := TX1) (N := 14) hx hb hts hw0 tyX1 tyX1_ok nmX1 hown hK hP hD hS 0 rfl rfl 4 (by decide) (hts (.fieldLink RX1 16 "DropCodeModel" "values" "[I") (by decide +kernel)) (fun _ h9 => h9) rfl hin rfl (by decide +kernel) rfl rfl (Nat.le_of_ble_eq_true rfl) dX1_init_25 (fun H locs hP hD hS => ?_)
  have hP : va_P (dC, dI) vwCl [(h0, .inr (1, [.int 0, .ref q1, .int 0, .ref q2, .ref q3, .null, .int 0, .null, .null, .null, .int 0, .int 0, .null, .int 0])), (q1, .inl (cA1, 32, .inl (fun _ => 0))), (q2, .inl (cA2, 60, .inl (fun _ => 0))), (q3, .inl (cA3, 60, .inl (fun _ => 0)))] H := hP
  have hD : va_D A [(h0, .inr (1, [.int 0, .ref q1, .int 0, .ref q2, .ref q3, .null, .int 0, .null, .null, .null, .int 0, .int 0, .null, .int 0])), (q1, .inl (cA1, 32, .inl (fun _ => 0))), (q2, .inl (cA2, 60, .inl (fun _ => 0))), (q3, .inl (cA3, 60, .inl (fun _ => 0)))] := hD
  refine lv_aload_n hx hb dX1_init_28 rfl (lv_at hl 0 rfl) ?_
  refine lv_bipush (v := 60) hx hb dX1_init_29 (by decide) ?_
  refine va_newa (atype := .int) (ty := .int) (n := 60) (N' := 60) (a0 := (60, .inl (fun _ => 0))) hx hb (hts (.arrayClass .int) (by decide +kernel)) rfl hK hP hD hS hA (fun cA => rfl) (by decide) (by decide) (by show 60 * 4 ≤ 536870912; omega) (Nat.le_of_ble_eq_true rfl) (by show 0 + 32 + 60 + 60 + 60 ≤ 340; omega) dX1_init_31 (fun q4 cA4 H hK hP hD hS => ?_)
  have hP : va_P (dC, dI) vwCl [(h0, .inr (1, [.int 0, .ref q1, .int 0, .ref q2, .ref q3, .null, .int 0, .null, .null, .null, .int 0, .int 0, .null, .int 0])), (q1, .inl (cA1, 32, .inl (fun _ => 0))), (q2, .inl (cA2, 60, .inl (fun _ => 0))), (q3, .inl (cA3, 60, .inl (fun _ => 0))), (q4, .inl (cA4, 60, .inl (fun _ => 0)))] H := hP
  have hD : va_D A [(h0, .inr (1, [.int 0, .ref q1, .int 0, .ref q2, .ref q3, .null, .int 0, .null, .null, .null, .int 0, .int 0, .null, .int 0])), (q1, .inl (cA1, 32, .inl (fun _ => 0))), (q2, .inl (cA2, 60, .inl (fun _ => 0))), (q3, .inl (cA3, 60, .inl (fun _ => 0))), (q4, .inl (cA4, 60, .inl (fun _ => 0)))] := hD
  have hK : va_K (dC, dI) vwCl [(cA1, .int), (cA2, .int), (cA3, .int), (cA4, .int)] s := hK
  refine va_putF (D := (dC, dI)) (ci := 1) (v := .ref q4) (ty := .array .int) (C := RX1) (T := TX1) (N := 14) hx hb hts hw0 tyX1 tyX1_ok nmX1 hown hK hP hD hS 0 rfl rfl 5 (by decide) (hts (.fieldLink RX1 19 "DropCodeModel" "waits" "[I") (by decide +kernel)) (fun _ h9 => h9) rfl hin rfl (by decide +kernel) rfl rfl (Nat.le_of_ble_eq_true rfl) dX1_init_33 (fun H locs hP hD hS => ?_)
  have hP : va_P (dC, dI) vwCl [(h0, .inr (1, [.int 0, .ref q1, .int 0, .ref q2, .ref q3, .ref q4, .int 0, .null, .null, .null, .int 0, .int 0, .null, .int 0])), (q1, .inl (cA1, 32, .inl (fun _ => 0))), (q2, .inl (cA2, 60, .inl (fun _ => 0))), (q3, .inl (cA3, 60, .inl (fun _ => 0))), (q4, .inl (cA4, 60, .inl (fun _ => 0)))] H := hP
  have hD : va_D A [(h0, .inr (1, [.int 0, .ref q1, .int 0, .ref q2, .ref q3, .ref q4, .int 0, .null, .null, .null, .int 0, .int 0, .null, .int 0])), (q1, .inl (cA1, 32, .inl (fun _ => 0))), (q2, .inl (cA2, 60, .inl (fun _ => 0))), (q3, .inl (cA3, 60, .inl (fun _ => 0))), (q4, .inl (cA4, 60, .inl (fun _ => 0)))] := hD
  refine lv_aload_n hx hb dX1_init_36 rfl (lv_at hl 0 rfl) ?_
  refine lv_bipush (v := 32) hx hb dX1_init_37 (by decide) ?_
  refine va_newa (atype := .boolean) (ty := .boolean) (n := 32) (N' := 32) (a0 := (32, .inl (fun _ => 0))) hx hb (hts (.arrayClass .boolean) (by decide +kernel)) rfl hK hP hD hS hA (fun cA => rfl) (by decide) (by decide) (by show 32 * 1 ≤ 536870912; omega) (Nat.le_of_ble_eq_true rfl) (by show 0 + 32 + 60 + 60 + 60 + 32 ≤ 340; omega) dX1_init_39 (fun q5 cA5 H hK hP hD hS => ?_)
  have hP : va_P (dC, dI) vwCl [(h0, .inr (1, [.int 0, .ref q1, .int 0, .ref q2, .ref q3, .ref q4, .int 0, .null, .null, .null, .int 0, .int 0, .null, .int 0])), (q1, .inl (cA1, 32, .inl (fun _ => 0))), (q2, .inl (cA2, 60, .inl (fun _ => 0))), (q3, .inl (cA3, 60, .inl (fun _ => 0))), (q4, .inl (cA4, 60, .inl (fun _ => 0))), (q5, .inl (cA5, 32, .inl (fun _ => 0)))] H := hP
  have hD : va_D A [(h0, .inr (1, [.int 0, .ref q1, .int 0, .ref q2, .ref q3, .ref q4, .int 0, .null, .null, .null, .int 0, .int 0, .null, .int 0])), (q1, .inl (cA1, 32, .inl (fun _ => 0))), (q2, .inl (cA2, 60, .inl (fun _ => 0))), (q3, .inl (cA3, 60, .inl (fun _ => 0))), (q4, .inl (cA4, 60, .inl (fun _ => 0))), (q5, .inl (cA5, 32, .inl (fun _ => 0)))] := hD
  have hK : va_K (dC, dI) vwCl [(cA1, .int), (cA2, .int), (cA3, .int), (cA4, .int), (cA5, .boolean)] s := hK
  refine va_putF (D := (dC, dI)) (ci := 1) (v := .ref q5) (ty := .array .boolean) (C := RX1) (T := TX1) (N := 14) hx hb hts hw0 tyX1 tyX1_ok nmX1 hown hK hP hD hS 0 rfl rfl 7 (by decide) (hts (.fieldLink RX1 22 "DropCodeModel" "known" "[Z") (by decide +kernel)) (fun _ h9 => h9) rfl hin rfl (by decide +kernel) rfl rfl (Nat.le_of_ble_eq_true rfl) dX1_init_41 (fun H locs hP hD hS => ?_)
  have hP : va_P (dC, dI) vwCl [(h0, .inr (1, [.int 0, .ref q1, .int 0, .ref q2, .ref q3, .ref q4, .int 0, .ref q5, .null, .null, .int 0, .int 0, .null, .int 0])), (q1, .inl (cA1, 32, .inl (fun _ => 0))), (q2, .inl (cA2, 60, .inl (fun _ => 0))), (q3, .inl (cA3, 60, .inl (fun _ => 0))), (q4, .inl (cA4, 60, .inl (fun _ => 0))), (q5, .inl (cA5, 32, .inl (fun _ => 0)))] H := hP
  have hD : va_D A [(h0, .inr (1, [.int 0, .ref q1, .int 0, .ref q2, .ref q3, .ref q4, .int 0, .ref q5, .null, .null, .int 0, .int 0, .null, .int 0])), (q1, .inl (cA1, 32, .inl (fun _ => 0))), (q2, .inl (cA2, 60, .inl (fun _ => 0))), (q3, .inl (cA3, 60, .inl (fun _ => 0))), (q4, .inl (cA4, 60, .inl (fun _ => 0))), (q5, .inl (cA5, 32, .inl (fun _ => 0)))] := hD
  refine lv_aload_n hx hb dX1_init_44 rfl (lv_at hl 0 rfl) ?_
  refine lv_bipush (v := 32) hx hb dX1_init_45 (by decide) ?_
  refine va_newa (atype := .int) (ty := .int) (n := 32) (N' := 32) (a0 := (32, .inl (fun _ => 0))) hx hb (hts (.arrayClass .int) (by decide +kernel)) rfl hK hP hD hS hA (fun cA => rfl) (by decide) (by decide) (by show 32 * 4 ≤ 536870912; omega) (Nat.le_of_ble_eq_true rfl) (by show 0 + 32 + 60 + 60 + 60 + 32 + 32 ≤ 340; omega) dX1_init_47 (fun q6 cA6 H hK hP hD hS => ?_)
  have hP : va_P (dC, dI) vwCl [(h0, .inr (1, [.int 0, .ref q1, .int 0, .ref q2, .ref q3, .ref q4, .int 0, .ref q5, .null, .null, .int 0, .int 0, .null, .int 0])), (q1, .inl (cA1, 32, .inl (fun _ => 0))), (q2, .inl (cA2, 60, .inl (fun _ => 0))), (q3, .inl (cA3, 60, .inl (fun _ => 0))), (q4, .inl (cA4, 60, .inl (fun _ => 0))), (q5, .inl (cA5, 32, .inl (fun _ => 0))), (q6, .inl (cA6, 32, .inl (fun _ => 0)))] H := hP
  have hD : va_D A [(h0, .inr (1, [.int 0, .ref q1, .int 0, .ref q2, .ref q3, .ref q4, .int 0, .ref q5, .null, .null, .int 0, .int 0, .null, .int 0])), (q1, .inl (cA1, 32, .inl (fun _ => 0))), (q2, .inl (cA2, 60, .inl (fun _ => 0))), (q3, .inl (cA3, 60, .inl (fun _ => 0))), (q4, .inl (cA4, 60, .inl (fun _ => 0))), (q5, .inl (cA5, 32, .inl (fun _ => 0))), (q6, .inl (cA6, 32, .inl (fun _ => 0)))] := hD
  have hK : va_K (dC, dI) vwCl [(cA1, .int), (cA2, .int), (cA3, .int), (cA4, .int), (cA5, .boolean), (cA6, .int)] s := hK
  refine va_putF (D := (dC, dI)) (ci := 1) (v := .ref q6) (ty := .array .int) (C := RX1) (T := TX1) (N := 14) hx hb hts hw0 tyX1 tyX1_ok nmX1 hown hK hP hD hS 0 rfl rfl 8 (by decide) (hts (.fieldLink RX1 26 "DropCodeModel" "told" "[I") (by decide +kernel)) (fun _ h9 => h9) rfl hin rfl (by decide +kernel) rfl rfl (Nat.le_of_ble_eq_true rfl) dX1_init_49 (fun H locs hP hD hS => ?_)
  have hP : va_P (dC, dI) vwCl [(h0, .inr (1, [.int 0, .ref q1, .int 0, .ref q2, .ref q3, .ref q4, .int 0, .ref q5, .ref q6, .null, .int 0, .int 0, .null, .int 0])), (q1, .inl (cA1, 32, .inl (fun _ => 0))), (q2, .inl (cA2, 60, .inl (fun _ => 0))), (q3, .inl (cA3, 60, .inl (fun _ => 0))), (q4, .inl (cA4, 60, .inl (fun _ => 0))), (q5, .inl (cA5, 32, .inl (fun _ => 0))), (q6, .inl (cA6, 32, .inl (fun _ => 0)))] H := hP
  have hD : va_D A [(h0, .inr (1, [.int 0, .ref q1, .int 0, .ref q2, .ref q3, .ref q4, .int 0, .ref q5, .ref q6, .null, .int 0, .int 0, .null, .int 0])), (q1, .inl (cA1, 32, .inl (fun _ => 0))), (q2, .inl (cA2, 60, .inl (fun _ => 0))), (q3, .inl (cA3, 60, .inl (fun _ => 0))), (q4, .inl (cA4, 60, .inl (fun _ => 0))), (q5, .inl (cA5, 32, .inl (fun _ => 0))), (q6, .inl (cA6, 32, .inl (fun _ => 0)))] := hD
  refine lv_aload_n hx hb dX1_init_52 rfl (lv_at hl 0 rfl) ?_
  refine lv_bipush (v := 32) hx hb dX1_init_53 (by decide) ?_
  refine va_newa (atype := .int) (ty := .int) (n := 32) (N' := 32) (a0 := (32, .inl (fun _ => 0))) hx hb (hts (.arrayClass .int) (by decide +kernel)) rfl hK hP hD hS hA (fun cA => rfl) (by decide) (by decide) (by show 32 * 4 ≤ 536870912; omega) (Nat.le_of_ble_eq_true rfl) (by show 0 + 32 + 60 + 60 + 60 + 32 + 32 + 32 ≤ 340; omega) dX1_init_55 (fun q7 cA7 H hK hP hD hS => ?_)
  have hP : va_P (dC, dI) vwCl [(h0, .inr (1, [.int 0, .ref q1, .int 0, .ref q2, .ref q3, .ref q4, .int 0, .ref q5, .ref q6, .null, .int 0, .int 0, .null, .int 0])), (q1, .inl (cA1, 32, .inl (fun _ => 0))), (q2, .inl (cA2, 60, .inl (fun _ => 0))), (q3, .inl (cA3, 60, .inl (fun _ => 0))), (q4, .inl (cA4, 60, .inl (fun _ => 0))), (q5, .inl (cA5, 32, .inl (fun _ => 0))), (q6, .inl (cA6, 32, .inl (fun _ => 0))), (q7, .inl (cA7, 32, .inl (fun _ => 0)))] H := hP
  have hD : va_D A [(h0, .inr (1, [.int 0, .ref q1, .int 0, .ref q2, .ref q3, .ref q4, .int 0, .ref q5, .ref q6, .null, .int 0, .int 0, .null, .int 0])), (q1, .inl (cA1, 32, .inl (fun _ => 0))), (q2, .inl (cA2, 60, .inl (fun _ => 0))), (q3, .inl (cA3, 60, .inl (fun _ => 0))), (q4, .inl (cA4, 60, .inl (fun _ => 0))), (q5, .inl (cA5, 32, .inl (fun _ => 0))), (q6, .inl (cA6, 32, .inl (fun _ => 0))), (q7, .inl (cA7, 32, .inl (fun _ => 0)))] := hD
  have hK : va_K (dC, dI) vwCl [(cA1, .int), (cA2, .int), (cA3, .int), (cA4, .int), (cA5, .boolean), (cA6, .int), (cA7, .int)] s := hK
  refine va_putF (D := (dC, dI)) (ci := 1) (v := .ref q7) (ty := .array .int) (C := RX1) (T := TX1) (N := 14) hx hb hts hw0 tyX1 tyX1_ok nmX1 hown hK hP hD hS 0 rfl rfl 9 (by decide) (hts (.fieldLink RX1 29 "DropCodeModel" "order" "[I") (by decide +kernel)) (fun _ h9 => h9) rfl hin rfl (by decide +kernel) rfl rfl (Nat.le_of_ble_eq_true rfl) dX1_init_57 (fun H locs hP hD hS => ?_)
  have hP : va_P (dC, dI) vwCl [(h0, .inr (1, [.int 0, .ref q1, .int 0, .ref q2, .ref q3, .ref q4, .int 0, .ref q5, .ref q6, .ref q7, .int 0, .int 0, .null, .int 0])), (q1, .inl (cA1, 32, .inl (fun _ => 0))), (q2, .inl (cA2, 60, .inl (fun _ => 0))), (q3, .inl (cA3, 60, .inl (fun _ => 0))), (q4, .inl (cA4, 60, .inl (fun _ => 0))), (q5, .inl (cA5, 32, .inl (fun _ => 0))), (q6, .inl (cA6, 32, .inl (fun _ => 0))), (q7, .inl (cA7, 32, .inl (fun _ => 0)))] H := hP
  have hD : va_D A [(h0, .inr (1, [.int 0, .ref q1, .int 0, .ref q2, .ref q3, .ref q4, .int 0, .ref q5, .ref q6, .ref q7, .int 0, .int 0, .null, .int 0])), (q1, .inl (cA1, 32, .inl (fun _ => 0))), (q2, .inl (cA2, 60, .inl (fun _ => 0))), (q3, .inl (cA3, 60, .inl (fun _ => 0))), (q4, .inl (cA4, 60, .inl (fun _ => 0))), (q5, .inl (cA5, 32, .inl (fun _ => 0))), (q6, .inl (cA6, 32, .inl (fun _ => 0))), (q7, .inl (cA7, 32, .inl (fun _ => 0)))] := hD
  refine lv_aload_n hx hb dX1_init_60 rfl (lv_at hl 0 rfl) ?_
  refine lv_bipush (v := 32) hx hb dX1_init_61 (by decide) ?_
  refine va_newa (atype := .boolean) (ty := .boolean) (n := 32) (N' := 32) (a0 := (32, .inl (fun _ => 0))) hx hb (hts (.arrayClass .boolean) (by decide +kernel)) rfl hK hP hD hS hA (fun cA => rfl) (by decide) (by decide) (by show 32 * 1 ≤ 536870912; omega) (Nat.le_of_ble_eq_true rfl) (by show 0 + 32 + 60 + 60 + 60 + 32 + 32 + 32 + 32 ≤ 340; omega) dX1_init_63 (fun q8 cA8 H hK hP hD hS => ?_)
  have hP : va_P (dC, dI) vwCl [(h0, .inr (1, [.int 0, .ref q1, .int 0, .ref q2, .ref q3, .ref q4, .int 0, .ref q5, .ref q6, .ref q7, .int 0, .int 0, .null, .int 0])), (q1, .inl (cA1, 32, .inl (fun _ => 0))), (q2, .inl (cA2, 60, .inl (fun _ => 0))), (q3, .inl (cA3, 60, .inl (fun _ => 0))), (q4, .inl (cA4, 60, .inl (fun _ => 0))), (q5, .inl (cA5, 32, .inl (fun _ => 0))), (q6, .inl (cA6, 32, .inl (fun _ => 0))), (q7, .inl (cA7, 32, .inl (fun _ => 0))), (q8, .inl (cA8, 32, .inl (fun _ => 0)))] H := hP
  have hD : va_D A [(h0, .inr (1, [.int 0, .ref q1, .int 0, .ref q2, .ref q3, .ref q4, .int 0, .ref q5, .ref q6, .ref q7, .int 0, .int 0, .null, .int 0])), (q1, .inl (cA1, 32, .inl (fun _ => 0))), (q2, .inl (cA2, 60, .inl (fun _ => 0))), (q3, .inl (cA3, 60, .inl (fun _ => 0))), (q4, .inl (cA4, 60, .inl (fun _ => 0))), (q5, .inl (cA5, 32, .inl (fun _ => 0))), (q6, .inl (cA6, 32, .inl (fun _ => 0))), (q7, .inl (cA7, 32, .inl (fun _ => 0))), (q8, .inl (cA8, 32, .inl (fun _ => 0)))] := hD
  have hK : va_K (dC, dI) vwCl [(cA1, .int), (cA2, .int), (cA3, .int), (cA4, .int), (cA5, .boolean), (cA6, .int), (cA7, .int), (cA8, .boolean)] s := hK
  refine va_putF (D := (dC, dI)) (ci := 1) (v := .ref q8) (ty := .array .boolean) (C := RX1) (T := TX1) (N := 14) hx hb hts hw0 tyX1 tyX1_ok nmX1 hown hK hP hD hS 0 rfl rfl 12 (by decide) (hts (.fieldLink RX1 32 "DropCodeModel" "in" "[Z") (by decide +kernel)) (fun _ h9 => h9) rfl hin rfl (by decide +kernel) rfl rfl (Nat.le_of_ble_eq_true rfl) dX1_init_65 (fun H locs hP hD hS => ?_)
  have hP : va_P (dC, dI) vwCl [(h0, .inr (1, [.int 0, .ref q1, .int 0, .ref q2, .ref q3, .ref q4, .int 0, .ref q5, .ref q6, .ref q7, .int 0, .int 0, .ref q8, .int 0])), (q1, .inl (cA1, 32, .inl (fun _ => 0))), (q2, .inl (cA2, 60, .inl (fun _ => 0))), (q3, .inl (cA3, 60, .inl (fun _ => 0))), (q4, .inl (cA4, 60, .inl (fun _ => 0))), (q5, .inl (cA5, 32, .inl (fun _ => 0))), (q6, .inl (cA6, 32, .inl (fun _ => 0))), (q7, .inl (cA7, 32, .inl (fun _ => 0))), (q8, .inl (cA8, 32, .inl (fun _ => 0)))] H := hP
  have hD : va_D A [(h0, .inr (1, [.int 0, .ref q1, .int 0, .ref q2, .ref q3, .ref q4, .int 0, .ref q5, .ref q6, .ref q7, .int 0, .int 0, .ref q8, .int 0])), (q1, .inl (cA1, 32, .inl (fun _ => 0))), (q2, .inl (cA2, 60, .inl (fun _ => 0))), (q3, .inl (cA3, 60, .inl (fun _ => 0))), (q4, .inl (cA4, 60, .inl (fun _ => 0))), (q5, .inl (cA5, 32, .inl (fun _ => 0))), (q6, .inl (cA6, 32, .inl (fun _ => 0))), (q7, .inl (cA7, 32, .inl (fun _ => 0))), (q8, .inl (cA8, 32, .inl (fun _ => 0)))] := hD
  refine lv_iload_n hx hb dX1_init_68 rfl (lv_at hl 1 rfl) ?_
  refine lv_bipush (v := 32) hx hb dX1_init_69 (by decide) ?_
  refine lv_irem hx hb dX1_init_71 (by decide) ?_
  refine lv_istore_n (lv' := [(2, .int (k - k / 32 * 32)), (0, .ref h0), (1, .int k)]) hx hb dX1_init_72 rfl hl (by decide) rfl (fun ls hl => ?_)
  refine lv_aload_n hx hb dX1_init_73 rfl (lv_at hl 1 rfl) ?_
  refine lv_iconst (v := 1) hx hb dX1_init_74 (by decide) ?_
  refine lv_iload_n hx hb dX1_init_75 rfl (lv_at hl 0 rfl) ?_
  refine lv_if_ge (tgt := 86) hx hb dX1_init_76 (by decide) (fun c1 => ?_) (fun c1 => ?_)
  · skip
    refine lv_iload_n hx hb dX1_init_86 rfl (lv_at hl 0 rfl) ?_
    refine lv_iadd hx hb dX1_init_87 ?_
    refine lv_topi (fun z_1 ez_1 => ?_)
    have ez_1 : z_1 = nI K := ez_1.trans (by rw [← hk, fmF, if_neg (fun h => Int32.not_lt.mpr c1 h), Int32.add_comm])
    subst ez_1
    refine va_putF (D := (dC, dI)) (ci := 1) (v := .int (nI K)) (ty := .int) (C := RX1) (T := TX1) (N := 14) hx hb hts hw0 tyX1 tyX1_ok nmX1 hown hK hP hD hS 0 rfl rfl 0 (by decide) (hts (.fieldLink RX1 35 "DropCodeModel" "words" "I") (by decide +kernel)) (fun _ h9 => h9) rfl hin rfl (by decide +kernel) rfl rfl (Nat.le_of_ble_eq_true rfl) dX1_init_88 (fun H locs hP hD hS => ?_)
    have hP : va_P (dC, dI) vwCl [(h0, .inr (1, [.int (nI K), .ref q1, .int 0, .ref q2, .ref q3, .ref q4, .int 0, .ref q5, .ref q6, .ref q7, .int 0, .int 0, .ref q8, .int 0])), (q1, .inl (cA1, 32, .inl (fun _ => 0))), (q2, .inl (cA2, 60, .inl (fun _ => 0))), (q3, .inl (cA3, 60, .inl (fun _ => 0))), (q4, .inl (cA4, 60, .inl (fun _ => 0))), (q5, .inl (cA5, 32, .inl (fun _ => 0))), (q6, .inl (cA6, 32, .inl (fun _ => 0))), (q7, .inl (cA7, 32, .inl (fun _ => 0))), (q8, .inl (cA8, 32, .inl (fun _ => 0)))] H := hP
    have hD : va_D A [(h0, .inr (1, [.int (nI K), .ref q1, .int 0, .ref q2, .ref q3, .ref q4, .int 0, .ref q5, .ref q6, .ref q7, .int 0, .int 0, .ref q8, .int 0])), (q1, .inl (cA1, 32, .inl (fun _ => 0))), (q2, .inl (cA2, 60, .inl (fun _ => 0))), (q3, .inl (cA3, 60, .inl (fun _ => 0))), (q4, .inl (cA4, 60, .inl (fun _ => 0))), (q5, .inl (cA5, 32, .inl (fun _ => 0))), (q6, .inl (cA6, 32, .inl (fun _ => 0))), (q7, .inl (cA7, 32, .inl (fun _ => 0))), (q8, .inl (cA8, 32, .inl (fun _ => 0)))] := hD
    have hc1 : cA1 = cA2 := Option.some.inj ((hK.2 0 _ rfl).2.symm.trans (hK.2 1 _ rfl).2)
    have hc2 : cA1 = cA3 := Option.some.inj ((hK.2 0 _ rfl).2.symm.trans (hK.2 2 _ rfl).2)
    have hc3 : cA1 = cA4 := Option.some.inj ((hK.2 0 _ rfl).2.symm.trans (hK.2 3 _ rfl).2)
    have hc5 : cA1 = cA6 := Option.some.inj ((hK.2 0 _ rfl).2.symm.trans (hK.2 5 _ rfl).2)
    have hc6 : cA1 = cA7 := Option.some.inj ((hK.2 0 _ rfl).2.symm.trans (hK.2 6 _ rfl).2)
    have hc7 : cA5 = cA8 := Option.some.inj ((hK.2 4 _ rfl).2.symm.trans (hK.2 7 _ rfl).2)
    subst hc1
    subst hc2
    subst hc3
    subst hc5
    subst hc6
    subst hc7
    have hP : va_P (dC, dI) vwCl [(h0, .inr (1, [.int (nI K), .ref q1, .int 0, .ref q2, .ref q3, .ref q4, .int 0, .ref q5, .ref q6, .ref q7, .int 0, .int 0, .ref q8, .int 0])), (q1, .inl (cA1, 32, .inl (fun _ => 0))), (q2, .inl (cA1, 60, .inl (fun _ => 0))), (q3, .inl (cA1, 60, .inl (fun _ => 0))), (q4, .inl (cA1, 60, .inl (fun _ => 0))), (q5, .inl (cA5, 32, .inl (fun _ => 0))), (q6, .inl (cA1, 32, .inl (fun _ => 0))), (q7, .inl (cA1, 32, .inl (fun _ => 0))), (q8, .inl (cA5, 32, .inl (fun _ => 0)))] H := hP
    have hD : va_D A [(h0, .inr (1, [.int (nI K), .ref q1, .int 0, .ref q2, .ref q3, .ref q4, .int 0, .ref q5, .ref q6, .ref q7, .int 0, .int 0, .ref q8, .int 0])), (q1, .inl (cA1, 32, .inl (fun _ => 0))), (q2, .inl (cA1, 60, .inl (fun _ => 0))), (q3, .inl (cA1, 60, .inl (fun _ => 0))), (q4, .inl (cA1, 60, .inl (fun _ => 0))), (q5, .inl (cA5, 32, .inl (fun _ => 0))), (q6, .inl (cA1, 32, .inl (fun _ => 0))), (q7, .inl (cA1, 32, .inl (fun _ => 0))), (q8, .inl (cA5, 32, .inl (fun _ => 0)))] := hD
    have hK9 := hK.sub (tys' := [(cA1, .int), (cA5, .boolean)]) [0, 4] rfl
    have hP9 := hP.sub (ws' := (rW (adF [h0, q1, q2, q3, q4, q5, q6, q7, q8]) cA1 cA5 K (fun _ => 0) 0 (fun _ => 0) (fun _ => 0) (fun _ => 0) 0 (fun _ => 0) (fun _ => 0) (fun _ => 0) 0 0 (fun _ => 0) 0)) [0, 1, 2, 3, 4, 5, 6, 7, 8] rfl
    have hD9 := hD.sub (ws' := (rW (adF [h0, q1, q2, q3, q4, q5, q6, q7, q8]) cA1 cA5 K (fun _ => 0) 0 (fun _ => 0) (fun _ => 0) (fun _ => 0) 0 (fun _ => 0) (fun _ => 0) (fun _ => 0) 0 0 (fun _ => 0) 0)) [0, 1, 2, 3, 4, 5, 6, 7, 8] (by decide) rfl
    refine W.widen (k := 8) (n := 340) (Nat.le_of_ble_eq_true rfl) (by show 0 + 32 + 60 + 60 + 60 + 32 + 32 + 32 + 32 ≤ 340; omega) ?_
    exact W.vret hx hb hr (fun t ht hW => ⟨⟨(adF [h0, q1, q2, q3, q4, q5, q6, q7, q8], cA1, cA5), rfl, rfl, by rw [ht]; exact hP9, va_K.moved hW.alike hK9, hD9⟩, hS.F ht⟩) hS.2.2 dX1_init_91
  · skip
    refine lv_iload_n hx hb dX1_init_79 rfl (lv_at hl 0 rfl) ?_
    refine lv_bipush (v := 32) hx hb dX1_init_80 (by decide) ?_
    refine lv_iadd hx hb dX1_init_82 ?_
    refine lv_goto (tgt := 87) hx hb dX1_init_83 (by decide) ?_
    refine lv_iadd hx hb dX1_init_87 ?_
    refine lv_topi (fun z_1 ez_1 => ?_)
    have ez_1 : z_1 = nI K := ez_1.trans (by rw [← hk, fmF, if_pos (Int32.not_le.mp c1), Int32.add_comm])
    subst ez_1
    refine va_putF (D := (dC, dI)) (ci := 1) (v := .int (nI K)) (ty := .int) (C := RX1) (T := TX1) (N := 14) hx hb hts hw0 tyX1 tyX1_ok nmX1 hown hK hP hD hS 0 rfl rfl 0 (by decide) (hts (.fieldLink RX1 35 "DropCodeModel" "words" "I") (by decide +kernel)) (fun _ h9 => h9) rfl hin rfl (by decide +kernel) rfl rfl (Nat.le_of_ble_eq_true rfl) dX1_init_88 (fun H locs hP hD hS => ?_)
    have hP : va_P (dC, dI) vwCl [(h0, .inr (1, [.int (nI K), .ref q1, .int 0, .ref q2, .ref q3, .ref q4, .int 0, .ref q5, .ref q6, .ref q7, .int 0, .int 0, .ref q8, .int 0])), (q1, .inl (cA1, 32, .inl (fun _ => 0))), (q2, .inl (cA2, 60, .inl (fun _ => 0))), (q3, .inl (cA3, 60, .inl (fun _ => 0))), (q4, .inl (cA4, 60, .inl (fun _ => 0))), (q5, .inl (cA5, 32, .inl (fun _ => 0))), (q6, .inl (cA6, 32, .inl (fun _ => 0))), (q7, .inl (cA7, 32, .inl (fun _ => 0))), (q8, .inl (cA8, 32, .inl (fun _ => 0)))] H := hP
    have hD : va_D A [(h0, .inr (1, [.int (nI K), .ref q1, .int 0, .ref q2, .ref q3, .ref q4, .int 0, .ref q5, .ref q6, .ref q7, .int 0, .int 0, .ref q8, .int 0])), (q1, .inl (cA1, 32, .inl (fun _ => 0))), (q2, .inl (cA2, 60, .inl (fun _ => 0))), (q3, .inl (cA3, 60, .inl (fun _ => 0))), (q4, .inl (cA4, 60, .inl (fun _ => 0))), (q5, .inl (cA5, 32, .inl (fun _ => 0))), (q6, .inl (cA6, 32, .inl (fun _ => 0))), (q7, .inl (cA7, 32, .inl (fun _ => 0))), (q8, .inl (cA8, 32, .inl (fun _ => 0)))] := hD
    have hc1 : cA1 = cA2 := Option.some.inj ((hK.2 0 _ rfl).2.symm.trans (hK.2 1 _ rfl).2)
    have hc2 : cA1 = cA3 := Option.some.inj ((hK.2 0 _ rfl).2.symm.trans (hK.2 2 _ rfl).2)
    have hc3 : cA1 = cA4 := Option.some.inj ((hK.2 0 _ rfl).2.symm.trans (hK.2 3 _ rfl).2)
    have hc5 : cA1 = cA6 := Option.some.inj ((hK.2 0 _ rfl).2.symm.trans (hK.2 5 _ rfl).2)
    have hc6 : cA1 = cA7 := Option.some.inj ((hK.2 0 _ rfl).2.symm.trans (hK.2 6 _ rfl).2)
    have hc7 : cA5 = cA8 := Option.some.inj ((hK.2 4 _ rfl).2.symm.trans (hK.2 7 _ rfl).2)
    subst hc1
    subst hc2
    subst hc3
    subst hc5
    subst hc6
    subst hc7
    have hP : va_P (dC, dI) vwCl [(h0, .inr (1, [.int (nI K), .ref q1, .int 0, .ref q2, .ref q3, .ref q4, .int 0, .ref q5, .ref q6, .ref q7, .int 0, .int 0, .ref q8, .int 0])), (q1, .inl (cA1, 32, .inl (fun _ => 0))), (q2, .inl (cA1, 60, .inl (fun _ => 0))), (q3, .inl (cA1, 60, .inl (fun _ => 0))), (q4, .inl (cA1, 60, .inl (fun _ => 0))), (q5, .inl (cA5, 32, .inl (fun _ => 0))), (q6, .inl (cA1, 32, .inl (fun _ => 0))), (q7, .inl (cA1, 32, .inl (fun _ => 0))), (q8, .inl (cA5, 32, .inl (fun _ => 0)))] H := hP
    have hD : va_D A [(h0, .inr (1, [.int (nI K), .ref q1, .int 0, .ref q2, .ref q3, .ref q4, .int 0, .ref q5, .ref q6, .ref q7, .int 0, .int 0, .ref q8, .int 0])), (q1, .inl (cA1, 32, .inl (fun _ => 0))), (q2, .inl (cA1, 60, .inl (fun _ => 0))), (q3, .inl (cA1, 60, .inl (fun _ => 0))), (q4, .inl (cA1, 60, .inl (fun _ => 0))), (q5, .inl (cA5, 32, .inl (fun _ => 0))), (q6, .inl (cA1, 32, .inl (fun _ => 0))), (q7, .inl (cA1, 32, .inl (fun _ => 0))), (q8, .inl (cA5, 32, .inl (fun _ => 0)))] := hD
    have hK9 := hK.sub (tys' := [(cA1, .int), (cA5, .boolean)]) [0, 4] rfl
    have hP9 := hP.sub (ws' := (rW (adF [h0, q1, q2, q3, q4, q5, q6, q7, q8]) cA1 cA5 K (fun _ => 0) 0 (fun _ => 0) (fun _ => 0) (fun _ => 0) 0 (fun _ => 0) (fun _ => 0) (fun _ => 0) 0 0 (fun _ => 0) 0)) [0, 1, 2, 3, 4, 5, 6, 7, 8] rfl
    have hD9 := hD.sub (ws' := (rW (adF [h0, q1, q2, q3, q4, q5, q6, q7, q8]) cA1 cA5 K (fun _ => 0) 0 (fun _ => 0) (fun _ => 0) (fun _ => 0) 0 (fun _ => 0) (fun _ => 0) (fun _ => 0) 0 0 (fun _ => 0) 0)) [0, 1, 2, 3, 4, 5, 6, 7, 8] (by decide) rfl
    refine W.widen (k := 8) (n := 340) (Nat.le_of_ble_eq_true rfl) (by show 0 + 32 + 60 + 60 + 60 + 32 + 32 + 32 + 32 ≤ 340; omega) ?_
    exact W.vret hx hb hr (fun t ht hW => ⟨⟨(adF [h0, q1, q2, q3, q4, q5, q6, q7, q8], cA1, cA5), rfl, rfl, by rw [ht]; exact hP9, va_K.moved hW.alike hK9, hD9⟩, hS.F ht⟩) hS.2.2 dX1_init_91
