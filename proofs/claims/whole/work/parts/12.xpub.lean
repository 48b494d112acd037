def knF (K : Nat) (kb i : Int32) : Int32 := if inR K i then (if bt kb i.toNatClampNeg then 1 else 0) else -1
def wdF (K : Nat) (kb : Int32) (kw : Nat → Int32) (i : Int32) : Int32 := if inR K i ∧ bt kb i.toNatClampNeg = true then kw i.toNatClampNeg else 0
def odF (n : Nat) (ko : Nat → Int32) (i : Int32) : Int32 := if inR n i then ko i.toNatClampNeg else -1
def opF (n : Nat) (S : Nat → Int32) (kb i : Int32) : Int32 := if inR n i then nI (opn (S i.toNatClampNeg) kb) else -1
def ptF (K : Nat) (row : Nat → Int32) (i v : Int32) : Nat → Int32 := if inR K i then upd row i.toNatClampNeg v else row
theorem nI_zero {a : Nat} (ha : a ≤ 32) (h : nI a = 0) : a = 0 := (nI_eq (a := a) (b := 0) (by omega) (by omega)).mp h
/-- a drop n has come: the receiver as its queue begins to run -/
def rcI (K n : Nat) (S V kw ko : Nat → Int32) (kb : Int32) (qu : Nat → Int32) (cl : Int32) : QS :=
  (kw, ko, kb, (if opn (S n) kb = 1 then upd qu 0 (nI n) else qu), (if opn (S n) kb = 1 then 1 else 0), (if opn (S n) kb = 0 then clA K kw (S n) kb (V n) cl else cl))
theorem rc_0 {K n : Nat} {S V kw ko : Nat → Int32} {kb : Int32} {qu : Nat → Int32} {cl : Int32} (h : opn (S n) kb = 0) : rcI K n S V kw ko kb qu cl = (kw, ko, kb, qu, 0, clA K kw (S n) kb (V n) cl) := by
  unfold rcI
  rw [if_neg (by omega), if_neg (by omega), if_pos h]
theorem rc_1 {K n : Nat} {S V kw ko : Nat → Int32} {kb : Int32} {qu : Nat → Int32} {cl : Int32} (h : opn (S n) kb = 1) : rcI K n S V kw ko kb qu cl = (kw, ko, kb, upd qu 0 (nI n), 1, cl) := by
  unfold rcI
  rw [if_pos h, if_pos h, if_neg (by omega)]
theorem rc_2 {K n : Nat} {S V kw ko : Nat → Int32} {kb : Int32} {qu : Nat → Int32} {cl : Int32} (h : ¬ opn (S n) kb = 1) (h2 : ¬ opn (S n) kb = 0) : rcI K n S V kw ko kb qu cl = (kw, ko, kb, qu, 0, cl) := by
  unfold rcI
  rw [if_neg h, if_neg h, if_neg h2]
theorem rc_S {K n : Nat} (hK1 : 1 ≤ K) (hK2 : K ≤ 32) {S : Nat → Int32} {seed : Int32} (hS0 : ∀ j, j < n → ∀ i, bt (S j) i = true → i < K) : ∀ j, j < n + 1 → ∀ i, bt (upd S n (setA K seed) j) i = true → i < K := by
  intro j hj i h
  by_cases q : j = n
  · subst q; rw [pk_us] at h; exact setA_lt hK1 hK2 _ h
  · rw [pk_un q] at h; exact hS0 j (by omega) i h
theorem rc_inv {K n : Nat} {S V kw ko : Nat → Int32} {b kb : Int32} {qu : Nat → Int32} {cl : Int32} (hkb : ∀ i, bt kb i = true → i < K) (hno : ∀ j, j < n → ¬ opn (S j) kb = 1) : qInv K (n + 1) (upd S n b) 0 (rcI K n (upd S n b) V kw ko kb qu cl) := by
  have hno' : ∀ j, j < n → ¬ opn (upd S n b j) kb = 1 := fun j hj => by rw [pk_un (by omega)]; exact hno j hj
  by_cases h : opn (upd S n b n) kb = 1
  · rw [rc_1 h]
    refine ⟨hkb, Nat.zero_le _, ?_, ?_, ?_, ?_⟩
    · intro x hx
      have hx : x < 1 := hx
      have : x = 0 := by omega
      subst this
      exact ⟨n, by omega, (pk_us : upd qu 0 (nI n) 0 = nI n), by show opn _ kb ≤ 1; omega⟩
    · intro j hj ho
      have : j = n := by
        rcases Nat.lt_or_ge j n with g | g
        · exact absurd ho (hno' j g)
        · omega
      subst this
      exact ⟨0, Nat.le_refl 0, by show 0 < 1; omega, (pk_us : upd qu 0 (nI j) 0 = nI j)⟩
    · show 1 ≤ cn _ (n + 1)
      rw [cn]
      have : decide (opn (upd S n b n) kb ≤ 1) = true := decide_eq_true (by omega)
      show 1 ≤ _ + (if decide (opn (upd S n b n) kb ≤ 1) = true then 1 else 0)
      rw [this, if_pos rfl]
      omega
    · intro x y hx hy _
      have hx : x < 1 := hx
      have hy : y < 1 := hy
      omega
  · have hz : ∃ cl', rcI K n (upd S n b) V kw ko kb qu cl = (kw, ko, kb, qu, 0, cl') := by
      by_cases h0 : opn (upd S n b n) kb = 0
      · exact ⟨_, rc_0 h0⟩
      · exact ⟨_, rc_2 h h0⟩
    obtain ⟨cl', hz⟩ := hz
    rw [hz]
    refine ⟨hkb, Nat.zero_le _, ?_, ?_, Nat.zero_le _, ?_⟩
    · intro x hx
      have hx : x < 0 := hx
      omega
    · intro j hj ho
      exfalso
      rcases Nat.lt_or_ge j n with g | g
      · exact hno' j g ho
      · have : j = n := by omega
        subst this
        exact h ho
    · intro x y hx _ _
      have hx : x < 0 := hx
      omega
set_option maxHeartbeats 4000000 in
set_option maxRecDepth 100000 in
theorem c_X0_drops (l : Launch) (dC : Nat → ClassId) (dI : Nat → Nat → Nat) (ad : Nat → Nat) (cI : ClassId) (K : Nat) (row S V : Nat → Int32) (dc : Int32) (kw ko : Nat → Int32) (kb : Int32) (qu : Nat → Int32) (qe cl : Int32) : Met l yX0_drops wsX0_drops ({ frames := 0, cells := 0, slots := 0, locals := 0 }) (va_Pc [.ref (ad 0)] (rB dC dI [(cI, .int)] (xW ad cI K row S V dc kw ko kb qu qe cl))) (vp_Si (fun r => r = dc)) 0 0 (fun _ => False) := by
  refine Met.ofW (cc := cX0_drops) (maxL := 1) (ret := (some .int)) (by decide) rfl ?_
  intro p e s m args below meth c s₁ B hml hv
  obtain ⟨rfl, hP, hK⟩ := hv
  have hx := B.exec
  have hb := B.bytes
  have hr := B.returns
  have hts := atoms_spec (ws := wsX0_drops) B.pre
  have hown : s.vm.findClass RX0 = some m.cls := findClass_of_methodNamed B.named
  have hlocks := B.notSynchronized
  have hw0 : ∀ w ∈ wsX00, w ∈ wsX0_drops := fun _ h => List.mem_cons_of_mem _ (List.mem_append_right _ h)
  have hl := lv_entry ([.ref (ad 0)]) (n := 1) (Nat.le_of_ble_eq_true rfl)
  rw [lg_entry_eq]
  generalize (lg_sl ([.ref (ad 0)]) ++ List.replicate (1 - (lg_sl ([.ref (ad 0)])).length) Slot.unset).toArray = ls at hl ⊢
  have hl : lv_has ls 1 [(0, .ref (ad 0))] := hl
  refine lv_aload_n hx hb dX0_drops_0 rfl (lv_at hl 0 rfl) ?_
  refine va_get (D := (dC, dI)) (ci := 0) (v := .int dc) (C := RX0) (T := TX0) (N := 11) hx hb hts hw0 hown hK hP 0 rfl rfl 4 (by decide) (hts (.fieldLink RX0 16 "DropCode" "dropCount" "I") (by decide +kernel)) (fun _ h9 => h9) rfl dX0_drops_1 ?_
  exact W.iret (v := dc) hx hb hr (fun t ht hW => ⟨dc, rfl, rfl, ht⟩) (fun _ h9 => by cases h9) dX0_drops_4
set_option maxHeartbeats 4000000 in
set_option maxRecDepth 100000 in
theorem c_X0_clashes (l : Launch) (dC : Nat → ClassId) (dI : Nat → Nat → Nat) (ad : Nat → Nat) (cI : ClassId) (K : Nat) (row S V : Nat → Int32) (dc : Int32) (kw ko : Nat → Int32) (kb : Int32) (qu : Nat → Int32) (qe cl : Int32) : Met l yX0_clashes wsX0_clashes ({ frames := 0, cells := 0, slots := 0, locals := 0 }) (va_Pc [.ref (ad 0)] (rB dC dI [(cI, .int)] (xW ad cI K row S V dc kw ko kb qu qe cl))) (vp_Si (fun r => r = cl)) 0 0 (fun _ => False) := by
  refine Met.ofW (cc := cX0_clashes) (maxL := 1) (ret := (some .int)) (by decide) rfl ?_
  intro p e s m args below meth c s₁ B hml hv
  obtain ⟨rfl, hP, hK⟩ := hv
  have hx := B.exec
  have hb := B.bytes
  have hr := B.returns
  have hts := atoms_spec (ws := wsX0_clashes) B.pre
  have hown : s.vm.findClass RX0 = some m.cls := findClass_of_methodNamed B.named
  have hlocks := B.notSynchronized
  have hw0 : ∀ w ∈ wsX00, w ∈ wsX0_clashes := fun _ h => List.mem_cons_of_mem _ (List.mem_append_right _ h)
  have hl := lv_entry ([.ref (ad 0)]) (n := 1) (Nat.le_of_ble_eq_true rfl)
  rw [lg_entry_eq]
  generalize (lg_sl ([.ref (ad 0)]) ++ List.replicate (1 - (lg_sl ([.ref (ad 0)])).length) Slot.unset).toArray = ls at hl ⊢
  have hl : lv_has ls 1 [(0, .ref (ad 0))] := hl
  refine lv_aload_n hx hb dX0_clashes_0 rfl (lv_at hl 0 rfl) ?_
  refine va_get (D := (dC, dI)) (ci := 0) (v := .int cl) (C := RX0) (T := TX0) (N := 11) hx hb hts hw0 hown hK hP 0 rfl rfl 10 (by decide) (hts (.fieldLink RX0 29 "DropCode" "clashCount" "I") (by decide +kernel)) (fun _ h9 => h9) rfl dX0_clashes_1 ?_
  exact W.iret (v := cl) hx hb hr (fun t ht hW => ⟨cl, rfl, rfl, ht⟩) (fun _ h9 => by cases h9) dX0_clashes_4
set_option maxHeartbeats 4000000 in
set_option maxRecDepth 100000 in
theorem c_X0_count (l : Launch) (dC : Nat → ClassId) (dI : Nat → Nat → Nat) (ad : Nat → Nat) (cI : ClassId) (K : Nat) (row S V : Nat → Int32) (dc : Int32) (kw ko : Nat → Int32) (kb : Int32) (qu : Nat → Int32) (qe cl : Int32) : Met l yX0_count wsX0_count ({ frames := 2, cells := 0, slots := 0, locals := 40 }) (va_Pc [.ref (ad 0)] (rB dC dI [(cI, .int)] (xW ad cI K row S V dc kw ko kb qu qe cl))) (vp_Si (fun r => r = nI (pc kb))) 0 0 (fun _ => False) := by
  refine Met.ofW (cc := cX0_count) (maxL := 1) (ret := (some .int)) (by decide) rfl ?_
  intro p e s m args below meth c s₁ B hml hv
  obtain ⟨rfl, hP, hK⟩ := hv
  have hx := B.exec
  have hb := B.bytes
  have hr := B.returns
  have hts := atoms_spec (ws := wsX0_count) B.pre
  have hown : s.vm.findClass RX0 = some m.cls := findClass_of_methodNamed B.named
  have hlocks := B.notSynchronized
  have hw0 : ∀ w ∈ wsX00, w ∈ wsX0_count := fun _ h => List.mem_cons_of_mem _ (List.mem_append_right _ h)
  have hl := lv_entry ([.ref (ad 0)]) (n := 1) (Nat.le_of_ble_eq_true rfl)
  rw [lg_entry_eq]
  generalize (lg_sl ([.ref (ad 0)]) ++ List.replicate (1 - (lg_sl ([.ref (ad 0)])).length) Slot.unset).toArray = ls at hl ⊢
  have hl : lv_has ls 1 [(0, .ref (ad 0))] := hl
  refine lv_aload_n hx hb dX0_count_0 rfl (lv_at hl 0 rfl) ?_
  refine vp_callSi (W.runV (As := []) (rest := []) ⟨hx, hb, hml, hown, hts⟩ (c_X0_knownCount l dC dI ad cI K row S V dc kw ko kb qu qe cl) (cwV 0 hts gX0_count_X0_knownCount rfl rfl rfl (by decide +kernel) ⟨Nat.le_of_ble_eq_true rfl, Nat.le_of_ble_eq_true rfl⟩) ⟨rFb, va_recv hK hP (ci := 0) (q0 := 0) rfl rfl, fun U hU hW => ⟨rfl, by rw [hU]; exact hP, va_K.moved hW.alike hK⟩⟩ rfl rfl hl.1 rfl (lv_room (Nat.le_of_ble_eq_true rfl)) dX0_count_1 ⟨Nat.zero_le _, Nat.zero_le _⟩) (fun r_1 er_1 => ?_)
  subst er_1
  exact W.iret (v := nI (pc kb)) hx hb hr (fun t ht hW => ⟨nI (pc kb), rfl, rfl, ht⟩) (fun _ h9 => by cases h9) dX0_count_4
set_option maxHeartbeats 4000000 in
set_option maxRecDepth 100000 in
theorem c_X0_set (l : Launch) (dC : Nat → ClassId) (dI : Nat → Nat → Nat) (ad : Nat → Nat) (cI : ClassId) (K : Nat) (row S V : Nat → Int32) (dc : Int32) (kw ko : Nat → Int32) (kb : Int32) (qu : Nat → Int32) (qe cl : Int32) (hK1 : 1 ≤ K) (hK2 : K ≤ 32) (seed : Int32) : Met l yX0_set wsX0_set ({ frames := 2, cells := 0, slots := 0, locals := 48 }) (va_Pc [.ref (ad 0), .int seed] (rB dC dI [(cI, .int)] (xW ad cI K row S V dc kw ko kb qu qe cl))) (vp_Si (fun r => r = setA K seed)) 0 0 (fun _ => False) := by
  refine Met.ofW (cc := cX0_set) (maxL := 2) (ret := (some .int)) (by decide) rfl ?_
  intro p e s m args below meth c s₁ B hml hv
  obtain ⟨rfl, hP, hK⟩ := hv
  have hx := B.exec
  have hb := B.bytes
  have hr := B.returns
  have hts := atoms_spec (ws := wsX0_set) B.pre
  have hown : s.vm.findClass RX0 = some m.cls := findClass_of_methodNamed B.named
  have hlocks := B.notSynchronized
  have hw0 : ∀ w ∈ wsX00, w ∈ wsX0_set := fun _ h => List.mem_cons_of_mem _ (List.mem_append_right _ h)
  have hl := lv_entry ([.ref (ad 0), .int seed]) (n := 2) (Nat.le_of_ble_eq_true rfl)
  rw [lg_entry_eq]
  generalize (lg_sl ([.ref (ad 0), .int seed]) ++ List.replicate (2 - (lg_sl ([.ref (ad 0), .int seed])).length) Slot.unset).toArray = ls at hl ⊢
  have hl : lv_has ls 2 [(0, .ref (ad 0)), (1, .int seed)] := hl
  refine lv_aload_n hx hb dX0_set_0 rfl (lv_at hl 0 rfl) ?_
  refine lv_iload_n hx hb dX0_set_1 rfl (lv_at hl 1 rfl) ?_
  refine vp_callSi (W.runV (As := [.int seed]) (rest := []) ⟨hx, hb, hml, hown, hts⟩ (c_X0_setOf l dC dI ad cI K row S V dc kw ko kb qu qe cl hK1 hK2 seed) (cwV 1 hts gX0_set_X0_setOf rfl rfl rfl (by decide +kernel) ⟨Nat.le_of_ble_eq_true rfl, Nat.le_of_ble_eq_true rfl⟩) ⟨rFb, va_recv hK hP (ci := 0) (q0 := 0) rfl rfl, fun U hU hW => ⟨rfl, by rw [hU]; exact hP, va_K.moved hW.alike hK⟩⟩ rfl rfl hl.1 rfl (lv_room (Nat.le_of_ble_eq_true rfl)) dX0_set_2 ⟨Nat.zero_le _, Nat.zero_le _⟩) (fun r_1 er_1 => ?_)
  subst er_1
  exact W.iret (v := setA K seed) hx hb hr (fun t ht hW => ⟨setA K seed, rfl, rfl, ht⟩) (fun _ h9 => by cases h9) dX0_set_5
set_option maxHeartbeats 4000000 in
set_option maxRecDepth 100000 in
theorem c_X0_degree (l : Launch) (dC : Nat → ClassId) (dI : Nat → Nat → Nat) (ad : Nat → Nat) (cI : ClassId) (K : Nat) (row S V : Nat → Int32) (dc : Int32) (kw ko : Nat → Int32) (kb : Int32) (qu : Nat → Int32) (qe cl : Int32) (hK1 : 1 ≤ K) (hK2 : K ≤ 32) (seed : Int32) : Met l yX0_degree wsX0_degree ({ frames := 1, cells := 0, slots := 0, locals := 23 }) (va_Pc [.ref (ad 0), .int seed] (rB dC dI [(cI, .int)] (xW ad cI K row S V dc kw ko kb qu qe cl))) (vp_Si (fun r => r = nI (dg K (dr (ns seed))))) 0 0 (fun _ => False) := by
  refine Met.ofW (cc := cX0_degree) (maxL := 2) (ret := (some .int)) (by decide) rfl ?_
  intro p e s m args below meth c s₁ B hml hv
  obtain ⟨rfl, hP, hK⟩ := hv
  have hx := B.exec
  have hb := B.bytes
  have hr := B.returns
  have hts := atoms_spec (ws := wsX0_degree) B.pre
  have hown : s.vm.findClass RX0 = some m.cls := findClass_of_methodNamed B.named
  have hlocks := B.notSynchronized
  have hw0 : ∀ w ∈ wsX00, w ∈ wsX0_degree := fun _ h => List.mem_cons_of_mem _ (List.mem_append_right _ h)
  have hl := lv_entry ([.ref (ad 0), .int seed]) (n := 2) (Nat.le_of_ble_eq_true rfl)
  rw [lg_entry_eq]
  generalize (lg_sl ([.ref (ad 0), .int seed]) ++ List.replicate (2 - (lg_sl ([.ref (ad 0), .int seed])).length) Slot.unset).toArray = ls at hl ⊢
  have hl : lv_has ls 2 [(0, .ref (ad 0)), (1, .int seed)] := hl
  refine lv_aload_n hx hb dX0_degree_0 rfl (lv_at hl 0 rfl) ?_
  refine lv_iload_n hx hb dX0_degree_1 rfl (lv_at hl 1 rfl) ?_
  refine vp_callSi (W.runS (As := [.int seed]) (rest := [.ref (ad 0)]) ⟨hx, hb, hml, hown, hts⟩ (c_X0_nextState l seed) (va_cwS 1 hts gX0_degree_X0_nextState rfl rfl rfl (by decide +kernel) ⟨Nat.le_of_ble_eq_true rfl, Nat.le_of_ble_eq_true rfl⟩) ⟨pFb, fun U hU hW => ⟨rfl, trivial⟩⟩ rfl rfl hl.1 rfl (lv_room (Nat.le_of_ble_eq_true rfl)) dX0_degree_2 ⟨Nat.zero_le _, Nat.zero_le _⟩) (fun r_1 er_1 => ?_)
  subst er_1
  refine vp_callSi (W.runS (As := [.int (ns seed)]) (rest := [.ref (ad 0)]) ⟨hx, hb, hml, hown, hts⟩ (c_X0_drawn l (ns seed)) (va_cwS 1 hts gX0_degree_X0_drawn rfl rfl rfl (by decide +kernel) ⟨Nat.le_of_ble_eq_true rfl, Nat.le_of_ble_eq_true rfl⟩) ⟨pFb, fun U hU hW => ⟨rfl, trivial⟩⟩ rfl rfl hl.1 rfl (lv_room (Nat.le_of_ble_eq_true rfl)) dX0_degree_5 ⟨Nat.zero_le _, Nat.zero_le _⟩) (fun r_2 er_2 => ?_)
  subst er_2
  refine vp_callSi (W.runV (As := [.int (nI (dr (ns seed)))]) (rest := []) ⟨hx, hb, hml, hown, hts⟩ (c_X0_degreeOf l dC dI ad cI K row S V dc kw ko kb qu qe cl hK1 hK2 _ (dr_lt _)) (cwV 1 hts gX0_degree_X0_degreeOf rfl rfl rfl (by decide +kernel) ⟨Nat.le_of_ble_eq_true rfl, Nat.le_of_ble_eq_true rfl⟩) ⟨rFb, va_recv hK hP (ci := 0) (q0 := 0) rfl rfl, fun U hU hW => ⟨rfl, by rw [hU]; exact hP, va_K.moved hW.alike hK⟩⟩ rfl rfl hl.1 rfl (lv_room (Nat.le_of_ble_eq_true rfl)) dX0_degree_8 ⟨Nat.zero_le _, Nat.zero_le _⟩) (fun r_3 er_3 => ?_)
  subst er_3
  exact W.iret (v := nI (dg K (dr (ns seed)))) hx hb hr (fun t ht hW => ⟨nI (dg K (dr (ns seed))), rfl, rfl, ht⟩) (fun _ h9 => by cases h9) dX0_degree_11
set_option maxHeartbeats 4000000 in
set_option maxRecDepth 100000 in
theorem c_X0_drop (l : Launch) (dC : Nat → ClassId) (dI : Nat → Nat → Nat) (ad : Nat → Nat) (cI : ClassId) (K : Nat) (row S V : Nat → Int32) (dc : Int32) (kw ko : Nat → Int32) (kb : Int32) (qu : Nat → Int32) (qe cl : Int32) (hK1 : 1 ≤ K) (hK2 : K ≤ 32) (seed : Int32) : Met l yX0_drop wsX0_drop ({ frames := 2, cells := 0, slots := 0, locals := 48 }) (va_Pc [.ref (ad 0), .int seed] (rB dC dI [(cI, .int)] (xW ad cI K row S V dc kw ko kb qu qe cl))) (vp_Si (fun r => r = xf row (setA K seed) K)) 0 0 (fun _ => False) := by
  refine Met.ofW (cc := cX0_drop) (maxL := 2) (ret := (some .int)) (by decide) rfl ?_
  intro p e s m args below meth c s₁ B hml hv
  obtain ⟨rfl, hP, hK⟩ := hv
  have hx := B.exec
  have hb := B.bytes
  have hr := B.returns
  have hts := atoms_spec (ws := wsX0_drop) B.pre
  have hown : s.vm.findClass RX0 = some m.cls := findClass_of_methodNamed B.named
  have hlocks := B.notSynchronized
  have hw0 : ∀ w ∈ wsX00, w ∈ wsX0_drop := fun _ h => List.mem_cons_of_mem _ (List.mem_append_right _ h)
  have hl := lv_entry ([.ref (ad 0), .int seed]) (n := 2) (Nat.le_of_ble_eq_true rfl)
  rw [lg_entry_eq]
  generalize (lg_sl ([.ref (ad 0), .int seed]) ++ List.replicate (2 - (lg_sl ([.ref (ad 0), .int seed])).length) Slot.unset).toArray = ls at hl ⊢
  have hl : lv_has ls 2 [(0, .ref (ad 0)), (1, .int seed)] := hl
  refine lv_aload_n hx hb dX0_drop_0 rfl (lv_at hl 0 rfl) ?_
  refine va_get (D := (dC, dI)) (ci := 0) (v := .ref (ad 1)) (C := RX0) (T := TX0) (N := 11) hx hb hts hw0 hown hK hP 0 rfl rfl 1 (by decide) (hts (.fieldLink RX0 41 "DropCode" "row" "[I") (by decide +kernel)) (fun _ h9 => h9) rfl dX0_drop_1 ?_
  refine lv_aload_n hx hb dX0_drop_4 rfl (lv_at hl 0 rfl) ?_
  refine lv_iload_n hx hb dX0_drop_5 rfl (lv_at hl 1 rfl) ?_
  refine vp_callSi (W.runV (As := [.int seed]) (rest := [.ref (ad 1)]) ⟨hx, hb, hml, hown, hts⟩ (c_X0_setOf l dC dI ad cI K row S V dc kw ko kb qu qe cl hK1 hK2 seed) (cwV 1 hts gX0_drop_X0_setOf rfl rfl rfl (by decide +kernel) ⟨Nat.le_of_ble_eq_true rfl, Nat.le_of_ble_eq_true rfl⟩) ⟨rFb, va_recv hK hP (ci := 0) (q0 := 0) rfl rfl, fun U hU hW => ⟨rfl, by rw [hU]; exact hP, va_K.moved hW.alike hK⟩⟩ rfl rfl hl.1 rfl (lv_room (Nat.le_of_ble_eq_true rfl)) dX0_drop_6 ⟨Nat.zero_le _, Nat.zero_le _⟩) (fun r_1 er_1 => ?_)
  subst er_1
  have hPc := hP.sub (ws' := [(ad 1, .inl (cI, K, .inl row))]) [1] rfl
  refine vp_callSi (W.runS (As := [.ref (ad 1), .int (setA K seed)]) (rest := []) ⟨hx, hb, hml, hown, hts⟩ (c_X0_xorOf l dC dI (ad 1) cI K hK2 row (setA K seed)) (va_cwS 2 hts gX0_drop_X0_xorOf rfl rfl rfl (by decide +kernel) ⟨Nat.le_of_ble_eq_true rfl, Nat.le_of_ble_eq_true rfl⟩) ⟨rFb, fun U hU hW => ⟨rfl, by rw [hU]; exact hPc, va_K.moved hW.alike hK⟩⟩ rfl rfl hl.1 rfl (lv_room (Nat.le_of_ble_eq_true rfl)) dX0_drop_9 ⟨Nat.zero_le _, Nat.zero_le _⟩) (fun r_2 er_2 => ?_)
  subst er_2
  exact W.iret (v := xf row (setA K seed) K) hx hb hr (fun t ht hW => ⟨xf row (setA K seed) K, rfl, rfl, ht⟩) (fun _ h9 => by cases h9) dX0_drop_12
set_option maxHeartbeats 4000000 in
set_option maxRecDepth 100000 in
theorem c_X0_known (l : Launch) (dC : Nat → ClassId) (dI : Nat → Nat → Nat) (ad : Nat → Nat) (cI : ClassId) (K : Nat) (row S V : Nat → Int32) (dc : Int32) (kw ko : Nat → Int32) (kb : Int32) (qu : Nat → Int32) (qe cl : Int32) (hK1 : 1 ≤ K) (hK2 : K ≤ 32) (i : Int32) : Met l yX0_known wsX0_known ({ frames := 2, cells := 0, slots := 0, locals := 42 }) (va_Pc [.ref (ad 0), .int i] (rB dC dI [(cI, .int)] (xW ad cI K row S V dc kw ko kb qu qe cl))) (vp_Si (fun r => r = knF K kb i)) 0 0 (fun _ => False) := by
  refine Met.ofW (cc := cX0_known) (maxL := 2) (ret := (some .int)) (by decide) rfl ?_
  intro p e s m args below meth c s₁ B hml hv
  obtain ⟨rfl, hP, hK⟩ := hv
  have hx := B.exec
  have hb := B.bytes
  have hr := B.returns
  have hts := atoms_spec (ws := wsX0_known) B.pre
  have hown : s.vm.findClass RX0 = some m.cls := findClass_of_methodNamed B.named
  have hlocks := B.notSynchronized
  have hw0 : ∀ w ∈ wsX00, w ∈ wsX0_known := fun _ h => List.mem_cons_of_mem _ (List.mem_append_right _ h)
  have hl := lv_entry ([.ref (ad 0), .int i]) (n := 2) (Nat.le_of_ble_eq_true rfl)
  rw [lg_entry_eq]
  generalize (lg_sl ([.ref (ad 0), .int i]) ++ List.replicate (2 - (lg_sl ([.ref (ad 0), .int i])).length) Slot.unset).toArray = ls at hl ⊢
  have hl : lv_has ls 2 [(0, .ref (ad 0)), (1, .int i)] := hl
  by_cases h : inR K i
  · skip
    obtain ⟨j, hj, rfl⟩ := inR_ix (by omega) h
    refine lv_aload_n hx hb dX0_known_0 rfl (lv_at hl 0 rfl) ?_
    refine lv_iload_n hx hb dX0_known_1 rfl (lv_at hl 1 rfl) ?_
    refine vp_callSi (W.runV (As := [.int (nI j)]) (rest := []) ⟨hx, hb, hml, hown, hts⟩ (c_X0_isInRow l dC dI ad cI K row S V dc kw ko kb qu qe cl hK1 hK2 (nI j)) (cwV 1 hts gX0_known_X0_isInRow rfl rfl rfl (by decide +kernel) ⟨Nat.le_of_ble_eq_true rfl, Nat.le_of_ble_eq_true rfl⟩) ⟨rFb, va_recv hK hP (ci := 0) (q0 := 0) rfl rfl, fun U hU hW => ⟨rfl, by rw [hU]; exact hP, va_K.moved hW.alike hK⟩⟩ rfl rfl hl.1 rfl (lv_room (Nat.le_of_ble_eq_true rfl)) dX0_known_2 ⟨Nat.zero_le _, Nat.zero_le _⟩) (fun r_1 er_1 => ?_)
    subst er_1
    refine lv_topi (fun z_2 ez_2 => ?_)
    have ez_2 : z_2 = 1 := ez_2.trans (if_pos h)
    subst ez_2
    refine lv_if_ne (tgt := 10) hx hb dX0_known_5 (by decide) (fun c1 => ?_) (fun c1 => ?_)
    · skip
      refine lv_aload_n hx hb dX0_known_10 rfl (lv_at hl 0 rfl) ?_
      refine lv_iload_n hx hb dX0_known_11 rfl (lv_at hl 1 rfl) ?_
      refine vp_callSi (W.runV (As := [.int (nI j)]) (rest := []) ⟨hx, hb, hml, hown, hts⟩ (c_X0_isKnown l dC dI ad cI K row S V dc kw ko kb qu qe cl j (by omega)) (cwV 1 hts gX0_known_X0_isKnown rfl rfl rfl (by decide +kernel) ⟨Nat.le_of_ble_eq_true rfl, Nat.le_of_ble_eq_true rfl⟩) ⟨rFb, va_recv hK hP (ci := 0) (q0 := 0) rfl rfl, fun U hU hW => ⟨rfl, by rw [hU]; exact hP, va_K.moved hW.alike hK⟩⟩ rfl rfl hl.1 rfl (lv_room (Nat.le_of_ble_eq_true rfl)) dX0_known_12 ⟨Nat.zero_le _, Nat.zero_le _⟩) (fun r_3 er_3 => ?_)
      subst er_3
      cases hb9 : bt kb j with
      | false =>
        rw [if_neg Bool.false_ne_true]
        refine lv_if_eq (tgt := 22) hx hb dX0_known_15 (by decide) (fun c3 => ?_) (fun c3 => ?_)
        · skip
          refine lv_iconst (v := 0) hx hb dX0_known_22 (by decide) ?_
          exact W.iret (v := 0) hx hb hr (fun t ht hW => ⟨0, rfl, by show (0 : Int32) = knF K kb (nI j); rw [knF, if_pos h, nI_clamp (by omega), hb9]; rfl, ht⟩) (fun _ h9 => by cases h9) dX0_known_23
        · skip
          exact absurd rfl c3
      | true =>
        rw [if_pos rfl]
        refine lv_if_eq (tgt := 22) hx hb dX0_known_15 (by decide) (fun c3 => ?_) (fun c3 => ?_)
        · skip
          exact absurd c3 (by decide)
        · skip
          refine lv_iconst (v := 1) hx hb dX0_known_18 (by decide) ?_
          refine lv_goto (tgt := 23) hx hb dX0_known_19 (by decide) ?_
          exact W.iret (v := 1) hx hb hr (fun t ht hW => ⟨1, rfl, by show (1 : Int32) = knF K kb (nI j); rw [knF, if_pos h, nI_clamp (by omega), hb9]; rfl, ht⟩) (fun _ h9 => by cases h9) dX0_known_23
    · skip
      exact absurd c1 (by decide)
  · skip
    refine lv_aload_n hx hb dX0_known_0 rfl (lv_at hl 0 rfl) ?_
    refine lv_iload_n hx hb dX0_known_1 rfl (lv_at hl 1 rfl) ?_
    refine vp_callSi (W.runV (As := [.int i]) (rest := []) ⟨hx, hb, hml, hown, hts⟩ (c_X0_isInRow l dC dI ad cI K row S V dc kw ko kb qu qe cl hK1 hK2 i) (cwV 1 hts gX0_known_X0_isInRow rfl rfl rfl (by decide +kernel) ⟨Nat.le_of_ble_eq_true rfl, Nat.le_of_ble_eq_true rfl⟩) ⟨rFb, va_recv hK hP (ci := 0) (q0 := 0) rfl rfl, fun U hU hW => ⟨rfl, by rw [hU]; exact hP, va_K.moved hW.alike hK⟩⟩ rfl rfl hl.1 rfl (lv_room (Nat.le_of_ble_eq_true rfl)) dX0_known_2 ⟨Nat.zero_le _, Nat.zero_le _⟩) (fun r_1 er_1 => ?_)
    subst er_1
    refine lv_topi (fun z_2 ez_2 => ?_)
    have ez_2 : z_2 = 0 := ez_2.trans (if_neg h)
    subst ez_2
    refine lv_if_ne (tgt := 10) hx hb dX0_known_5 (by decide) (fun c1 => ?_) (fun c1 => ?_)
    · skip
      exact absurd rfl c1
    · skip
      refine lv_iconst (v := (-1)) hx hb dX0_known_8 (by decide) ?_
      exact W.iret (v := (-1)) hx hb hr (fun t ht hW => ⟨(-1), rfl, by show (-1 : Int32) = knF K kb i; rw [knF, if_neg h], ht⟩) (fun _ h9 => by cases h9) dX0_known_9
set_option maxHeartbeats 4000000 in
set_option maxRecDepth 100000 in
theorem c_X0_word (l : Launch) (dC : Nat → ClassId) (dI : Nat → Nat → Nat) (ad : Nat → Nat) (cI : ClassId) (K : Nat) (row S V : Nat → Int32) (dc : Int32) (kw ko : Nat → Int32) (kb : Int32) (qu : Nat → Int32) (qe cl : Int32) (hK1 : 1 ≤ K) (hK2 : K ≤ 32) (i : Int32) : Met l yX0_word wsX0_word ({ frames := 2, cells := 0, slots := 0, locals := 42 }) (va_Pc [.ref (ad 0), .int i] (rB dC dI [(cI, .int)] (xW ad cI K row S V dc kw ko kb qu qe cl))) (vp_Si (fun r => r = wdF K kb kw i)) 0 0 (fun _ => False) := by
  refine Met.ofW (cc := cX0_word) (maxL := 2) (ret := (some .int)) (by decide) rfl ?_
  intro p e s m args below meth c s₁ B hml hv
  obtain ⟨rfl, hP, hK⟩ := hv
  have hx := B.exec
  have hb := B.bytes
  have hr := B.returns
  have hts := atoms_spec (ws := wsX0_word) B.pre
  have hown : s.vm.findClass RX0 = some m.cls := findClass_of_methodNamed B.named
  have hlocks := B.notSynchronized
  have hw0 : ∀ w ∈ wsX00, w ∈ wsX0_word := fun _ h => List.mem_cons_of_mem _ (List.mem_append_right _ h)
  have hl := lv_entry ([.ref (ad 0), .int i]) (n := 2) (Nat.le_of_ble_eq_true rfl)
  rw [lg_entry_eq]
  generalize (lg_sl ([.ref (ad 0), .int i]) ++ List.replicate (2 - (lg_sl ([.ref (ad 0), .int i])).length) Slot.unset).toArray = ls at hl ⊢
  have hl : lv_has ls 2 [(0, .ref (ad 0)), (1, .int i)] := hl
  by_cases h : inR K i
  · skip
    obtain ⟨j, hj, rfl⟩ := inR_ix (by omega) h
    refine lv_aload_n hx hb dX0_word_0 rfl (lv_at hl 0 rfl) ?_
    refine lv_iload_n hx hb dX0_word_1 rfl (lv_at hl 1 rfl) ?_
    refine vp_callSi (W.runV (As := [.int (nI j)]) (rest := []) ⟨hx, hb, hml, hown, hts⟩ (c_X0_isInRow l dC dI ad cI K row S V dc kw ko kb qu qe cl hK1 hK2 (nI j)) (cwV 1 hts gX0_word_X0_isInRow rfl rfl rfl (by decide +kernel) ⟨Nat.le_of_ble_eq_true rfl, Nat.le_of_ble_eq_true rfl⟩) ⟨rFb, va_recv hK hP (ci := 0) (q0 := 0) rfl rfl, fun U hU hW => ⟨rfl, by rw [hU]; exact hP, va_K.moved hW.alike hK⟩⟩ rfl rfl hl.1 rfl (lv_room (Nat.le_of_ble_eq_true rfl)) dX0_word_2 ⟨Nat.zero_le _, Nat.zero_le _⟩) (fun r_1 er_1 => ?_)
    subst er_1
    refine lv_topi (fun z_2 ez_2 => ?_)
    have ez_2 : z_2 = 1 := ez_2.trans (if_pos h)
    subst ez_2
    refine lv_if_eq (tgt := 25) hx hb dX0_word_5 (by decide) (fun c1 => ?_) (fun c1 => ?_)
    · skip
      exact absurd c1 (by decide)
    · skip
      refine lv_aload_n hx hb dX0_word_8 rfl (lv_at hl 0 rfl) ?_
      refine lv_iload_n hx hb dX0_word_9 rfl (lv_at hl 1 rfl) ?_
      refine vp_callSi (W.runV (As := [.int (nI j)]) (rest := []) ⟨hx, hb, hml, hown, hts⟩ (c_X0_isKnown l dC dI ad cI K row S V dc kw ko kb qu qe cl j (by omega)) (cwV 1 hts gX0_word_X0_isKnown rfl rfl rfl (by decide +kernel) ⟨Nat.le_of_ble_eq_true rfl, Nat.le_of_ble_eq_true rfl⟩) ⟨rFb, va_recv hK hP (ci := 0) (q0 := 0) rfl rfl, fun U hU hW => ⟨rfl, by rw [hU]; exact hP, va_K.moved hW.alike hK⟩⟩ rfl rfl hl.1 rfl (lv_room (Nat.le_of_ble_eq_true rfl)) dX0_word_10 ⟨Nat.zero_le _, Nat.zero_le _⟩) (fun r_3 er_3 => ?_)
      subst er_3
      cases hb9 : bt kb j with
      | false =>
        rw [if_neg Bool.false_ne_true]
        refine lv_if_eq (tgt := 25) hx hb dX0_word_13 (by decide) (fun c3 => ?_) (fun c3 => ?_)
        · skip
          refine lv_iconst (v := 0) hx hb dX0_word_25 (by decide) ?_
          exact W.iret (v := 0) hx hb hr (fun t ht hW => ⟨0, rfl, by show (0 : Int32) = wdF K kb kw (nI j); rw [wdF, if_neg (by rw [nI_clamp (by omega), hb9]; exact fun q => Bool.false_ne_true q.2)], ht⟩) (fun _ h9 => by cases h9) dX0_word_26
        · skip
          exact absurd rfl c3
      | true =>
        rw [if_pos rfl]
        refine lv_if_eq (tgt := 25) hx hb dX0_word_13 (by decide) (fun c3 => ?_) (fun c3 => ?_)
        · skip
          exact absurd c3 (by decide)
        · skip
          refine lv_aload_n hx hb dX0_word_16 rfl (lv_at hl 0 rfl) ?_
          refine va_get (D := (dC, dI)) (ci := 0) (v := .ref (ad 4)) (C := RX0) (T := TX0) (N := 11) hx hb hts hw0 hown hK hP 0 rfl rfl 5 (by decide) (hts (.fieldLink RX0 44 "DropCode" "knownWords" "[I") (by decide +kernel)) (fun _ h9 => h9) rfl dX0_word_17 ?_
          refine lv_iload_n hx hb dX0_word_20 rfl (lv_at hl 1 rfl) ?_
          refine va_iald (i := nI j) hx hb hK hP 4 0 rfl rfl (vp_in_nI hj (by omega)) dX0_word_21 ?_
          rw [nI_clamp (by omega)]
          refine lv_goto (tgt := 26) hx hb dX0_word_22 (by decide) ?_
          exact W.iret (v := kw j) hx hb hr (fun t ht hW => ⟨kw j, rfl, by show kw j = wdF K kb kw (nI j); rw [wdF, if_pos (by rw [nI_clamp (by omega)]; exact ⟨h, hb9⟩), nI_clamp (by omega)], ht⟩) (fun _ h9 => by cases h9) dX0_word_26
  · skip
    refine lv_aload_n hx hb dX0_word_0 rfl (lv_at hl 0 rfl) ?_
    refine lv_iload_n hx hb dX0_word_1 rfl (lv_at hl 1 rfl) ?_
    refine vp_callSi (W.runV (As := [.int i]) (rest := []) ⟨hx, hb, hml, hown, hts⟩ (c_X0_isInRow l dC dI ad cI K row S V dc kw ko kb qu qe cl hK1 hK2 i) (cwV 1 hts gX0_word_X0_isInRow rfl rfl rfl (by decide +kernel) ⟨Nat.le_of_ble_eq_true rfl, Nat.le_of_ble_eq_true rfl⟩) ⟨rFb, va_recv hK hP (ci := 0) (q0 := 0) rfl rfl, fun U hU hW => ⟨rfl, by rw [hU]; exact hP, va_K.moved hW.alike hK⟩⟩ rfl rfl hl.1 rfl (lv_room (Nat.le_of_ble_eq_true rfl)) dX0_word_2 ⟨Nat.zero_le _, Nat.zero_le _⟩) (fun r_1 er_1 => ?_)
    subst er_1
    refine lv_topi (fun z_2 ez_2 => ?_)
    have ez_2 : z_2 = 0 := ez_2.trans (if_neg h)
    subst ez_2
    refine lv_if_eq (tgt := 25) hx hb dX0_word_5 (by decide) (fun c1 => ?_) (fun c1 => ?_)
    · skip
      refine lv_iconst (v := 0) hx hb dX0_word_25 (by decide) ?_
      exact W.iret (v := 0) hx hb hr (fun t ht hW => ⟨0, rfl, by show (0 : Int32) = wdF K kb kw i; rw [wdF, if_neg (fun q => h q.1)], ht⟩) (fun _ h9 => by cases h9) dX0_word_26
    · skip
      exact absurd rfl c1
set_option maxHeartbeats 4000000 in
set_option maxRecDepth 100000 in
theorem c_X0_order (l : Launch) (dC : Nat → ClassId) (dI : Nat → Nat → Nat) (ad : Nat → Nat) (cI : ClassId) (K : Nat) (row S V : Nat → Int32) (dc : Int32) (kw ko : Nat → Int32) (kb : Int32) (qu : Nat → Int32) (qe cl : Int32) (hK1 : 1 ≤ K) (hK2 : K ≤ 32) (hkc : pc kb ≤ K) (i : Int32) : Met l yX0_order wsX0_order ({ frames := 2, cells := 0, slots := 0, locals := 40 }) (va_Pc [.ref (ad 0), .int i] (rB dC dI [(cI, .int)] (xW ad cI K row S V dc kw ko kb qu qe cl))) (vp_Si (fun r => r = odF (pc kb) ko i)) 0 0 (fun _ => False) := by
  refine Met.ofW (cc := cX0_order) (maxL := 2) (ret := (some .int)) (by decide) rfl ?_
  intro p e s m args below meth c s₁ B hml hv
  obtain ⟨rfl, hP, hK⟩ := hv
  have hx := B.exec
  have hb := B.bytes
  have hr := B.returns
  have hts := atoms_spec (ws := wsX0_order) B.pre
  have hown : s.vm.findClass RX0 = some m.cls := findClass_of_methodNamed B.named
  have hlocks := B.notSynchronized
  have hw0 : ∀ w ∈ wsX00, w ∈ wsX0_order := fun _ h => List.mem_cons_of_mem _ (List.mem_append_right _ h)
  have hl := lv_entry ([.ref (ad 0), .int i]) (n := 2) (Nat.le_of_ble_eq_true rfl)
  rw [lg_entry_eq]
  generalize (lg_sl ([.ref (ad 0), .int i]) ++ List.replicate (2 - (lg_sl ([.ref (ad 0), .int i])).length) Slot.unset).toArray = ls at hl ⊢
  have hl : lv_has ls 2 [(0, .ref (ad 0)), (1, .int i)] := hl
  refine lv_iload_n hx hb dX0_order_0 rfl (lv_at hl 1 rfl) ?_
  refine lv_if_lt (tgt := 21) hx hb dX0_order_1 (by decide) (fun c1 => ?_) (fun c1 => ?_)
  · skip
    refine lv_iconst (v := (-1)) hx hb dX0_order_21 (by decide) ?_
    exact W.iret (v := (-1)) hx hb hr (fun t ht hW => ⟨(-1), rfl, by show (-1 : Int32) = odF (pc kb) ko i; rw [odF, if_neg (fun q => inR_neg q c1)], ht⟩) (fun _ h9 => by cases h9) dX0_order_22
  · skip
    refine lv_iload_n hx hb dX0_order_4 rfl (lv_at hl 1 rfl) ?_
    refine lv_aload_n hx hb dX0_order_5 rfl (lv_at hl 0 rfl) ?_
    refine vp_callSi (W.runV (As := []) (rest := [.int i]) ⟨hx, hb, hml, hown, hts⟩ (c_X0_knownCount l dC dI ad cI K row S V dc kw ko kb qu qe cl) (cwV 0 hts gX0_order_X0_knownCount rfl rfl rfl (by decide +kernel) ⟨Nat.le_of_ble_eq_true rfl, Nat.le_of_ble_eq_true rfl⟩) ⟨rFb, va_recv hK hP (ci := 0) (q0 := 0) rfl rfl, fun U hU hW => ⟨rfl, by rw [hU]; exact hP, va_K.moved hW.alike hK⟩⟩ rfl rfl hl.1 rfl (lv_room (Nat.le_of_ble_eq_true rfl)) dX0_order_6 ⟨Nat.zero_le _, Nat.zero_le _⟩) (fun r_1 er_1 => ?_)
    subst er_1
    refine lv_icmp_ge (tgt := 21) hx hb dX0_order_9 (by decide) (fun c2 => ?_) (fun c2 => ?_)
    · skip
      refine lv_iconst (v := (-1)) hx hb dX0_order_21 (by decide) ?_
      exact W.iret (v := (-1)) hx hb hr (fun t ht hW => ⟨(-1), rfl, by show (-1 : Int32) = odF (pc kb) ko i; rw [odF, if_neg (fun q => inR_ge q c2)], ht⟩) (fun _ h9 => by cases h9) dX0_order_22
    · skip
      have h := inR_of c1 c2
      obtain ⟨j, hj, rfl⟩ := inR_ix (by omega) h
      refine lv_aload_n hx hb dX0_order_12 rfl (lv_at hl 0 rfl) ?_
      refine va_get (D := (dC, dI)) (ci := 0) (v := .ref (ad 5)) (C := RX0) (T := TX0) (N := 11) hx hb hts hw0 hown hK hP 0 rfl rfl 6 (by decide) (hts (.fieldLink RX0 47 "DropCode" "knownOrder" "[I") (by decide +kernel)) (fun _ h9 => h9) rfl dX0_order_13 ?_
      refine lv_iload_n hx hb dX0_order_16 rfl (lv_at hl 1 rfl) ?_
      refine va_iald (i := nI j) hx hb hK hP 5 0 rfl rfl (vp_in_nI (by omega : j < K) (by omega)) dX0_order_17 ?_
      rw [nI_clamp (by omega)]
      refine lv_goto (tgt := 22) hx hb dX0_order_18 (by decide) ?_
      exact W.iret (v := ko j) hx hb hr (fun t ht hW => ⟨ko j, rfl, by show ko j = odF (pc kb) ko (nI j); rw [odF, if_pos h, nI_clamp (by omega)], ht⟩) (fun _ h9 => by cases h9) dX0_order_22
set_option maxHeartbeats 4000000 in
set_option maxRecDepth 100000 in
theorem c_X0_open (l : Launch) (dC : Nat → ClassId) (dI : Nat → Nat → Nat) (ad : Nat → Nat) (cI : ClassId) (K : Nat) (row : Nat → Int32) (S : Nat → Int32) (V : Nat → Int32) (kw : Nat → Int32) (ko : Nat → Int32) (kb : Int32) (qu : Nat → Int32) (qe : Int32) (cl : Int32) (n : Nat) (hn : n ≤ 60) (i : Int32) : Met l yX0_open wsX0_open ({ frames := 2, cells := 0, slots := 0, locals := 42 }) (va_Pc [.ref (ad 0), .int i] (rB dC dI [(cI, .int)] (xW ad cI K row S V (nI n) kw ko kb qu qe cl))) (vp_Si (fun r => r = opF n S kb i)) 0 0 (fun _ => False) := by
  refine Met.ofW (cc := cX0_open) (maxL := 2) (ret := (some .int)) (by decide) rfl ?_
  intro p e s m args below meth c s₁ B hml hv
  obtain ⟨rfl, hP, hK⟩ := hv
  have hx := B.exec
  have hb := B.bytes
  have hr := B.returns
  have hts := atoms_spec (ws := wsX0_open) B.pre
  have hown : s.vm.findClass RX0 = some m.cls := findClass_of_methodNamed B.named
  have hlocks := B.notSynchronized
  have hw0 : ∀ w ∈ wsX00, w ∈ wsX0_open := fun _ h => List.mem_cons_of_mem _ (List.mem_append_right _ h)
  have hl := lv_entry ([.ref (ad 0), .int i]) (n := 2) (Nat.le_of_ble_eq_true rfl)
  rw [lg_entry_eq]
  generalize (lg_sl ([.ref (ad 0), .int i]) ++ List.replicate (2 - (lg_sl ([.ref (ad 0), .int i])).length) Slot.unset).toArray = ls at hl ⊢
  have hl : lv_has ls 2 [(0, .ref (ad 0)), (1, .int i)] := hl
  refine lv_iload_n hx hb dX0_open_0 rfl (lv_at hl 1 rfl) ?_
  refine lv_if_lt (tgt := 20) hx hb dX0_open_1 (by decide) (fun c1 => ?_) (fun c1 => ?_)
  · skip
    refine lv_iconst (v := (-1)) hx hb dX0_open_20 (by decide) ?_
    exact W.iret (v := (-1)) hx hb hr (fun t ht hW => ⟨(-1), rfl, by show (-1 : Int32) = opF n S kb i; rw [opF, if_neg (fun q => inR_neg q c1)], ht⟩) (fun _ h9 => by cases h9) dX0_open_21
  · skip
    refine lv_iload_n hx hb dX0_open_4 rfl (lv_at hl 1 rfl) ?_
    refine lv_aload_n hx hb dX0_open_5 rfl (lv_at hl 0 rfl) ?_
    refine va_get (D := (dC, dI)) (ci := 0) (v := .int (nI n)) (C := RX0) (T := TX0) (N := 11) hx hb hts hw0 hown hK hP 0 rfl rfl 4 (by decide) (hts (.fieldLink RX0 16 "DropCode" "dropCount" "I") (by decide +kernel)) (fun _ h9 => h9) rfl dX0_open_6 ?_
    refine lv_icmp_ge (tgt := 20) hx hb dX0_open_9 (by decide) (fun c2 => ?_) (fun c2 => ?_)
    · skip
      refine lv_iconst (v := (-1)) hx hb dX0_open_20 (by decide) ?_
      exact W.iret (v := (-1)) hx hb hr (fun t ht hW => ⟨(-1), rfl, by show (-1 : Int32) = opF n S kb i; rw [opF, if_neg (fun q => inR_ge q c2)], ht⟩) (fun _ h9 => by cases h9) dX0_open_21
    · skip
      have h := inR_of c1 c2
      obtain ⟨j, hj, rfl⟩ := inR_ix (by omega) h
      refine lv_aload_n hx hb dX0_open_12 rfl (lv_at hl 0 rfl) ?_
      refine lv_iload_n hx hb dX0_open_13 rfl (lv_at hl 1 rfl) ?_
      refine vp_callSi (W.runV (As := [.int (nI j)]) (rest := []) ⟨hx, hb, hml, hown, hts⟩ (c_X0_unknownCount l dC dI ad cI K row S V (nI n) kw ko kb qu qe cl j (by omega)) (cwV 1 hts gX0_open_X0_unknownCount rfl rfl rfl (by decide +kernel) ⟨Nat.le_of_ble_eq_true rfl, Nat.le_of_ble_eq_true rfl⟩) ⟨rFb, va_recv hK hP (ci := 0) (q0 := 0) rfl rfl, fun U hU hW => ⟨rfl, by rw [hU]; exact hP, va_K.moved hW.alike hK⟩⟩ rfl rfl hl.1 rfl (lv_room (Nat.le_of_ble_eq_true rfl)) dX0_open_14 ⟨Nat.zero_le _, Nat.zero_le _⟩) (fun r_1 er_1 => ?_)
      subst er_1
      refine lv_goto (tgt := 21) hx hb dX0_open_17 (by decide) ?_
      exact W.iret (v := nI (pc (unk (S j) kb))) hx hb hr (fun t ht hW => ⟨nI (pc (unk (S j) kb)), rfl, by show nI (pc (unk (S j) kb)) = opF n S kb (nI j); rw [opF, if_pos h, nI_clamp (by omega)]; rfl, ht⟩) (fun _ h9 => by cases h9) dX0_open_21
set_option maxHeartbeats 4000000 in
set_option maxRecDepth 100000 in
theorem c_X0_put (l : Launch) (dC : Nat → ClassId) (dI : Nat → Nat → Nat) (sz : Nat) (ad : Nat → Nat) (cI : ClassId) (K : Nat) (row S V : Nat → Int32) (dc : Int32) (kw ko : Nat → Int32) (kb : Int32) (qu : Nat → Int32) (qe cl : Int32) (hK1 : 1 ≤ K) (hK2 : K ≤ 32) (i v : Int32) : Met l yX0_put wsX0_put ({ frames := 1, cells := 0, slots := 0, locals := 21 }) (va_Pc [.ref (ad 0), .int i, .int v] (wB dC dI [(cI, .int)] sz (xW ad cI K row S V dc kw ko kb qu qe cl))) (va_Qi (fun r (_ : Unit) => r = (if inR K i then 1 else -1)) (fun _ => oB dC dI [(cI, .int)] (va_A (xW ad cI K row S V dc kw ko kb qu qe cl) sz) (xW ad cI K (ptF K row i v) S V dc kw ko kb qu qe cl)) (va_A (xW ad cI K row S V dc kw ko kb qu qe cl) sz)) 0 0 (va_A (xW ad cI K row S V dc kw ko kb qu qe cl) sz) := by
  refine Met.ofW (cc := cX0_put) (maxL := 3) (ret := (some .int)) (by decide) rfl ?_
  intro p e s m args below meth c s₁ B hml hv
  obtain ⟨rfl, hsz, hP, hK, hD0⟩ := hv
  have hx := B.exec
  have hb := B.bytes
  have hr := B.returns
  have hts := atoms_spec (ws := wsX0_put) B.pre
  have hown : s.vm.findClass RX0 = some m.cls := findClass_of_methodNamed B.named
  have hlocks := B.notSynchronized
  have hw0 : ∀ w ∈ wsX00, w ∈ wsX0_put := fun _ h => List.mem_cons_of_mem _ (List.mem_append_right _ h)
  subst hsz
  have hD := hD0.self (sz := s.heap.size)
  generalize hAe : va_A (xW ad cI K row S V dc kw ko kb qu qe cl) s.heap.size = A at hD ⊢
  have hA : ∀ q : Nat, s.heap.size ≤ q → A q := fun q h => by rw [← hAe]; exact Or.inr h
  have hS : va_S A s.heap s.heap [] := va_S.rf
  have hP : va_P (dC, dI) vwCl (xW ad cI K row S V dc kw ko kb qu qe cl) s.heap := hP
  have hl := lv_entry ([.ref (ad 0), .int i, .int v]) (n := 3) (Nat.le_of_ble_eq_true rfl)
  rw [lg_entry_eq]
  generalize (lg_sl ([.ref (ad 0), .int i, .int v]) ++ List.replicate (3 - (lg_sl ([.ref (ad 0), .int i, .int v])).length) Slot.unset).toArray = ls at hl ⊢
  have hl : lv_has ls 3 [(0, .ref (ad 0)), (1, .int i), (2, .int v)] := hl
  by_cases h : inR K i
  · skip
    obtain ⟨j, hj, rfl⟩ := inR_ix (by omega) h
    rw [show ptF K row (nI j) v = upd row j v by rw [ptF, if_pos h, nI_clamp (by omega)]]
    refine lv_aload_n hx hb dX0_put_0 rfl (lv_at hl 0 rfl) ?_
    refine lv_iload_n hx hb dX0_put_1 rfl (lv_at hl 1 rfl) ?_
    refine vp_callSi (W.runV (As := [.int (nI j)]) (rest := []) ⟨hx, hb, hml, hown, hts⟩ (c_X0_isInRow l dC dI ad cI K row S V dc kw ko kb qu qe cl hK1 hK2 (nI j)) (cwV 1 hts gX0_put_X0_isInRow rfl rfl rfl (by decide +kernel) ⟨Nat.le_of_ble_eq_true rfl, Nat.le_of_ble_eq_true rfl⟩) ⟨rFb, va_recv hK hP (ci := 0) (q0 := 0) rfl rfl, fun U hU hW => ⟨rfl, by rw [hU]; exact hP, va_K.moved hW.alike hK⟩⟩ rfl rfl hl.1 rfl (lv_room (Nat.le_of_ble_eq_true rfl)) dX0_put_2 ⟨Nat.zero_le _, Nat.zero_le _⟩) (fun r_1 er_1 => ?_)
    subst er_1
    refine lv_topi (fun z_2 ez_2 => ?_)
    have ez_2 : z_2 = 1 := ez_2.trans (if_pos h)
    subst ez_2
    refine lv_if_ne (tgt := 10) hx hb dX0_put_5 (by decide) (fun c1 => ?_) (fun c1 => ?_)
    · skip
      refine lv_aload_n hx hb dX0_put_10 rfl (lv_at hl 0 rfl) ?_
      refine va_get (D := (dC, dI)) (ci := 0) (v := .ref (ad 1)) (C := RX0) (T := TX0) (N := 11) hx hb hts hw0 hown hK hP 0 rfl rfl 1 (by decide) (hts (.fieldLink RX0 41 "DropCode" "row" "[I") (by decide +kernel)) (fun _ h9 => h9) rfl dX0_put_11 ?_
      refine lv_iload_n hx hb dX0_put_14 rfl (lv_at hl 1 rfl) ?_
      refine lv_iload_n hx hb dX0_put_15 rfl (lv_at hl 2 rfl) ?_
      refine va_iast (i := nI j) hx hb hK hP hD hS 1 0 rfl rfl (vp_in_nI hj (by omega)) dX0_put_16 (fun H locs hP hD hS => ?_)
      rw [nI_clamp (by omega)] at hP hD
      have hP : va_P (dC, dI) vwCl (xW ad cI K (upd row j v) S V dc kw ko kb qu qe cl) H := hP
      have hD : va_D A (xW ad cI K (upd row j v) S V dc kw ko kb qu qe cl) := hD
      refine lv_iconst (v := 1) hx hb dX0_put_17 (by decide) ?_
      exact W.iret (v := 1) hx hb hr (fun t ht hW => ⟨⟨1, (), rfl, by rw [if_pos h], by rw [ht]; exact hP, va_K.moved hW.alike hK, hD⟩, hS.F ht⟩) hS.2.2 dX0_put_18
    · skip
      exact absurd c1 (by decide)
  · skip
    rw [show ptF K row i v = row by rw [ptF, if_neg h]]
    refine lv_aload_n hx hb dX0_put_0 rfl (lv_at hl 0 rfl) ?_
    refine lv_iload_n hx hb dX0_put_1 rfl (lv_at hl 1 rfl) ?_
    refine vp_callSi (W.runV (As := [.int i]) (rest := []) ⟨hx, hb, hml, hown, hts⟩ (c_X0_isInRow l dC dI ad cI K row S V dc kw ko kb qu qe cl hK1 hK2 i) (cwV 1 hts gX0_put_X0_isInRow rfl rfl rfl (by decide +kernel) ⟨Nat.le_of_ble_eq_true rfl, Nat.le_of_ble_eq_true rfl⟩) ⟨rFb, va_recv hK hP (ci := 0) (q0 := 0) rfl rfl, fun U hU hW => ⟨rfl, by rw [hU]; exact hP, va_K.moved hW.alike hK⟩⟩ rfl rfl hl.1 rfl (lv_room (Nat.le_of_ble_eq_true rfl)) dX0_put_2 ⟨Nat.zero_le _, Nat.zero_le _⟩) (fun r_1 er_1 => ?_)
    subst er_1
    refine lv_topi (fun z_2 ez_2 => ?_)
    have ez_2 : z_2 = 0 := ez_2.trans (if_neg h)
    subst ez_2
    refine lv_if_ne (tgt := 10) hx hb dX0_put_5 (by decide) (fun c1 => ?_) (fun c1 => ?_)
    · skip
      exact absurd rfl c1
    · skip
      refine lv_iconst (v := (-1)) hx hb dX0_put_8 (by decide) ?_
      exact W.iret (v := (-1)) hx hb hr (fun t ht hW => ⟨⟨(-1), (), rfl, by rw [if_neg h], by rw [ht]; exact hP, va_K.moved hW.alike hK, hD⟩, hS.F ht⟩) hS.2.2 dX0_put_9
set_option maxHeartbeats 4000000 in
set_option maxRecDepth 100000 in
theorem c_X0_forget (l : Launch) (dC : Nat → ClassId) (dI : Nat → Nat → Nat) (sz : Nat) (ad : Nat → Nat) (cI : ClassId) (K : Nat) (row S V : Nat → Int32) (dc : Int32) (kw ko : Nat → Int32) (kb : Int32) (qu : Nat → Int32) (qe cl : Int32) : Met l yX0_forget wsX0_forget ({ frames := 0, cells := 0, slots := 0, locals := 0 }) (va_Pc [.ref (ad 0)] (wB dC dI [(cI, .int)] sz (xW ad cI K row S V dc kw ko kb qu qe cl))) (va_Qi (fun r (_ : Unit) => r = dc) (fun _ => oB dC dI [(cI, .int)] (va_A (xW ad cI K row S V dc kw ko kb qu qe cl) sz) (xW ad cI K row S V 0 kw ko 0 qu qe 0)) (va_A (xW ad cI K row S V dc kw ko kb qu qe cl) sz)) 0 0 (va_A (xW ad cI K row S V dc kw ko kb qu qe cl) sz) := by
  refine Met.ofW (cc := cX0_forget) (maxL := 2) (ret := (some .int)) (by decide) rfl ?_
  intro p e s m args below meth c s₁ B hml hv
  obtain ⟨rfl, hsz, hP, hK, hD0⟩ := hv
  have hx := B.exec
  have hb := B.bytes
  have hr := B.returns
  have hts := atoms_spec (ws := wsX0_forget) B.pre
  have hown : s.vm.findClass RX0 = some m.cls := findClass_of_methodNamed B.named
  have hlocks := B.notSynchronized
  have hw0 : ∀ w ∈ wsX00, w ∈ wsX0_forget := fun _ h => List.mem_cons_of_mem _ (List.mem_append_right _ h)
  subst hsz
  have hD := hD0.self (sz := s.heap.size)
  generalize hAe : va_A (xW ad cI K row S V dc kw ko kb qu qe cl) s.heap.size = A at hD ⊢
  have hA : ∀ q : Nat, s.heap.size ≤ q → A q := fun q h => by rw [← hAe]; exact Or.inr h
  have hS : va_S A s.heap s.heap [] := va_S.rf
  have hP : va_P (dC, dI) vwCl (xW ad cI K row S V dc kw ko kb qu qe cl) s.heap := hP
  have hl := lv_entry ([.ref (ad 0)]) (n := 2) (Nat.le_of_ble_eq_true rfl)
  rw [lg_entry_eq]
  generalize (lg_sl ([.ref (ad 0)]) ++ List.replicate (2 - (lg_sl ([.ref (ad 0)])).length) Slot.unset).toArray = ls at hl ⊢
  have hl : lv_has ls 2 [(0, .ref (ad 0))] := hl
  refine lv_aload_n hx hb dX0_forget_0 rfl (lv_at hl 0 rfl) ?_
  refine va_get (D := (dC, dI)) (ci := 0) (v := .int dc) (C := RX0) (T := TX0) (N := 11) hx hb hts hw0 hown hK hP 0 rfl rfl 4 (by decide) (hts (.fieldLink RX0 16 "DropCode" "dropCount" "I") (by decide +kernel)) (fun _ h9 => h9) rfl dX0_forget_1 ?_
  refine lv_istore_n (lv' := [(1, .int dc), (0, .ref (ad 0))]) hx hb dX0_forget_4 rfl hl (by decide) rfl (fun ls hl => ?_)
  refine lv_aload_n hx hb dX0_forget_5 rfl (lv_at hl 1 rfl) ?_
  refine lv_iconst (v := 0) hx hb dX0_forget_6 (by decide) ?_
  refine va_put (D := (dC, dI)) (ci := 0) (v := .int 0) (ty := .int) (C := RX0) (T := TX0) (N := 11) hx hb hts hw0 tyX0 tyX0_ok nmX0 hown hK hP hD hS 0 rfl rfl 4 (by decide) (hts (.fieldLink RX0 16 "DropCode" "dropCount" "I") (by decide +kernel)) (fun _ h9 => h9) rfl (by decide +kernel) rfl rfl (Nat.le_of_ble_eq_true rfl) dX0_forget_7 (fun H locs hP hD hS => ?_)
  have hP : va_P (dC, dI) vwCl (xW ad cI K row S V 0 kw ko kb qu qe cl) H := hP
  have hD : va_D A (xW ad cI K row S V 0 kw ko kb qu qe cl) := hD
  refine lv_aload_n hx hb dX0_forget_10 rfl (lv_at hl 1 rfl) ?_
  refine lv_iconst (v := 0) hx hb dX0_forget_11 (by decide) ?_
  refine va_put (D := (dC, dI)) (ci := 0) (v := .int 0) (ty := .int) (C := RX0) (T := TX0) (N := 11) hx hb hts hw0 tyX0 tyX0_ok nmX0 hown hK hP hD hS 0 rfl rfl 7 (by decide) (hts (.fieldLink RX0 20 "DropCode" "knownBits" "I") (by decide +kernel)) (fun _ h9 => h9) rfl (by decide +kernel) rfl rfl (Nat.le_of_ble_eq_true rfl) dX0_forget_12 (fun H locs hP hD hS => ?_)
  have hP : va_P (dC, dI) vwCl (xW ad cI K row S V 0 kw ko 0 qu qe cl) H := hP
  have hD : va_D A (xW ad cI K row S V 0 kw ko 0 qu qe cl) := hD
  refine lv_aload_n hx hb dX0_forget_15 rfl (lv_at hl 1 rfl) ?_
  refine lv_iconst (v := 0) hx hb dX0_forget_16 (by decide) ?_
  refine va_put (D := (dC, dI)) (ci := 0) (v := .int 0) (ty := .int) (C := RX0) (T := TX0) (N := 11) hx hb hts hw0 tyX0 tyX0_ok nmX0 hown hK hP hD hS 0 rfl rfl 10 (by decide) (hts (.fieldLink RX0 29 "DropCode" "clashCount" "I") (by decide +kernel)) (fun _ h9 => h9) rfl (by decide +kernel) rfl rfl (Nat.le_of_ble_eq_true rfl) dX0_forget_17 (fun H locs hP hD hS => ?_)
  have hP : va_P (dC, dI) vwCl (xW ad cI K row S V 0 kw ko 0 qu qe 0) H := hP
  have hD : va_D A (xW ad cI K row S V 0 kw ko 0 qu qe 0) := hD
  refine lv_iload_n hx hb dX0_forget_20 rfl (lv_at hl 0 rfl) ?_
  exact W.iret (v := dc) hx hb hr (fun t ht hW => ⟨⟨dc, (), rfl, rfl, by rw [ht]; exact hP, va_K.moved hW.alike hK, hD⟩, hS.F ht⟩) hS.2.2 dX0_forget_21
set_option maxHeartbeats 4000000 in
set_option maxRecDepth 100000 in
theorem c_X0_receive_full (l : Launch) (dC : Nat → ClassId) (dI : Nat → Nat → Nat) (sz : Nat) (ad : Nat → Nat) (cI : ClassId) (K : Nat) (row : Nat → Int32) (S : Nat → Int32) (V : Nat → Int32) (kw : Nat → Int32) (ko : Nat → Int32) (kb : Int32) (qu : Nat → Int32) (qe : Int32) (cl : Int32) (seed v : Int32) : Met l yX0_receive wsX0_receive ({ frames := 6, cells := 0, slots := 0, locals := 130 }) (va_Pc [.ref (ad 0), .int seed, .int v] (wB dC dI [(cI, .int)] sz (xW ad cI K row S V (nI 60) kw ko kb qu qe cl))) (va_Qi (fun r (_ : Unit) => r = -2) (fun _ => oB dC dI [(cI, .int)] (va_A (xW ad cI K row S V (nI 60) kw ko kb qu qe cl) sz) (xW ad cI K row S V (nI 60) kw ko kb qu qe cl)) (va_A (xW ad cI K row S V (nI 60) kw ko kb qu qe cl) sz)) 0 0 (va_A (xW ad cI K row S V (nI 60) kw ko kb qu qe cl) sz) := by
  refine Met.ofW (cc := cX0_receive) (maxL := 5) (ret := (some .int)) (by decide) rfl ?_
  intro p e s m args below meth c s₁ B hml hv
  obtain ⟨rfl, hsz, hP, hK, hD0⟩ := hv
  have hx := B.exec
  have hb := B.bytes
  have hr := B.returns
  have hts := atoms_spec (ws := wsX0_receive) B.pre
  have hown : s.vm.findClass RX0 = some m.cls := findClass_of_methodNamed B.named
  have hlocks := B.notSynchronized
  have hw0 : ∀ w ∈ wsX00, w ∈ wsX0_receive := fun _ h => List.mem_cons_of_mem _ (List.mem_append_right _ h)
  subst hsz
  have hD := hD0.self (sz := s.heap.size)
  generalize hAe : va_A (xW ad cI K row S V (nI 60) kw ko kb qu qe cl) s.heap.size = A at hD ⊢
  have hA : ∀ q : Nat, s.heap.size ≤ q → A q := fun q h => by rw [← hAe]; exact Or.inr h
  have hS : va_S A s.heap s.heap [] := va_S.rf
  have hP : va_P (dC, dI) vwCl (xW ad cI K row S V (nI 60) kw ko kb qu qe cl) s.heap := hP
  have hl := lv_entry ([.ref (ad 0), .int seed, .int v]) (n := 5) (Nat.le_of_ble_eq_true rfl)
  rw [lg_entry_eq]
  generalize (lg_sl ([.ref (ad 0), .int seed, .int v]) ++ List.replicate (5 - (lg_sl ([.ref (ad 0), .int seed, .int v])).length) Slot.unset).toArray = ls at hl ⊢
  have hl : lv_has ls 5 [(0, .ref (ad 0)), (1, .int seed), (2, .int v)] := hl
  refine lv_aload_n hx hb dX0_receive_0 rfl (lv_at hl 0 rfl) ?_
  refine va_get (D := (dC, dI)) (ci := 0) (v := .int (nI 60)) (C := RX0) (T := TX0) (N := 11) hx hb hts hw0 hown hK hP 0 rfl rfl 4 (by decide) (hts (.fieldLink RX0 16 "DropCode" "dropCount" "I") (by decide +kernel)) (fun _ h9 => h9) rfl dX0_receive_1 ?_
  refine lv_bipush (v := 60) hx hb dX0_receive_4 (by decide) ?_
  refine lv_icmp_lt (tgt := 12) hx hb dX0_receive_6 (by decide) (fun c1 => ?_) (fun c1 => ?_)
  · skip
    exact absurd c1 (by decide)
  · skip
    refine lv_bipush (v := (-2)) hx hb dX0_receive_9 (by decide) ?_
    exact W.iret (v := (-2)) hx hb hr (fun t ht hW => ⟨⟨(-2), (), rfl, rfl, by rw [ht]; exact hP, va_K.moved hW.alike hK, hD⟩, hS.F ht⟩) hS.2.2 dX0_receive_11
set_option maxHeartbeats 4000000 in
set_option maxRecDepth 100000 in
theorem c_X0_receive (l : Launch) (dC : Nat → ClassId) (dI : Nat → Nat → Nat) (sz : Nat) (ad : Nat → Nat) (cI : ClassId) (K : Nat) (row : Nat → Int32) (S : Nat → Int32) (V : Nat → Int32) (kw : Nat → Int32) (ko : Nat → Int32) (kb : Int32) (qu : Nat → Int32) (qe : Int32) (cl : Int32) (hK1 : 1 ≤ K) (hK2 : K ≤ 32) (n : Nat) (hn : n < 60) (seed v : Int32) (hS0 : ∀ j, j < n → ∀ i, bt (S j) i = true → i < K) (hkb : ∀ i, bt kb i = true → i < K) (hno : ∀ j, j < n → ¬ opn (S j) kb = 1) : Met l yX0_receive wsX0_receive ({ frames := 6, cells := 0, slots := 0, locals := 130 }) (va_Pc [.ref (ad 0), .int seed, .int v] (wB dC dI [(cI, .int)] sz (xW ad cI K row S V (nI n) kw ko kb qu qe cl))) (va_Qi (fun r (_ : Unit) => r = nI (pc (rnF K (n + 1) (upd S n (setA K seed)) (upd V n v) 60 0 (rcI K n (upd S n (setA K seed)) (upd V n v) kw ko kb qu cl)).2.2.1)) (fun _ => oB dC dI [(cI, .int)] (va_A (xW ad cI K row S V (nI n) kw ko kb qu qe cl) sz) (xW ad cI K row (upd S n (setA K seed)) (upd V n v) (nI (n + 1)) ((rnF K (n + 1) (upd S n (setA K seed)) (upd V n v) 60 0 (rcI K n (upd S n (setA K seed)) (upd V n v) kw ko kb qu cl)).1) ((rnF K (n + 1) (upd S n (setA K seed)) (upd V n v) 60 0 (rcI K n (upd S n (setA K seed)) (upd V n v) kw ko kb qu cl)).2.1) ((rnF K (n + 1) (upd S n (setA K seed)) (upd V n v) 60 0 (rcI K n (upd S n (setA K seed)) (upd V n v) kw ko kb qu cl)).2.2.1) ((rnF K (n + 1) (upd S n (setA K seed)) (upd V n v) 60 0 (rcI K n (upd S n (setA K seed)) (upd V n v) kw ko kb qu cl)).2.2.2.1) (nI (rnF K (n + 1) (upd S n (setA K seed)) (upd V n v) 60 0 (rcI K n (upd S n (setA K seed)) (upd V n v) kw ko kb qu cl)).2.2.2.2.1) ((rnF K (n + 1) (upd S n (setA K seed)) (upd V n v) 60 0 (rcI K n (upd S n (setA K seed)) (upd V n v) kw ko kb qu cl)).2.2.2.2.2))) (va_A (xW ad cI K row S V (nI n) kw ko kb qu qe cl) sz)) 0 0 (va_A (xW ad cI K row S V (nI n) kw ko kb qu qe cl) sz) := by
  refine Met.ofW (cc := cX0_receive) (maxL := 5) (ret := (some .int)) (by decide) rfl ?_
  intro p e s m args below meth c s₁ B hml hv
  obtain ⟨rfl, hsz, hP, hK, hD0⟩ := hv
  have hx := B.exec
  have hb := B.bytes
  have hr := B.returns
  have hts := atoms_spec (ws := wsX0_receive) B.pre
  have hown : s.vm.findClass RX0 = some m.cls := findClass_of_methodNamed B.named
  have hlocks := B.notSynchronized
  have hw0 : ∀ w ∈ wsX00, w ∈ wsX0_receive := fun _ h => List.mem_cons_of_mem _ (List.mem_append_right _ h)
  subst hsz
  have hD := hD0.self (sz := s.heap.size)
  generalize hAe : va_A (xW ad cI K row S V (nI n) kw ko kb qu qe cl) s.heap.size = A at hD ⊢
  have hA : ∀ q : Nat, s.heap.size ≤ q → A q := fun q h => by rw [← hAe]; exact Or.inr h
  have hS : va_S A s.heap s.heap [] := va_S.rf
  have hP : va_P (dC, dI) vwCl (xW ad cI K row S V (nI n) kw ko kb qu qe cl) s.heap := hP
  have hl := lv_entry ([.ref (ad 0), .int seed, .int v]) (n := 5) (Nat.le_of_ble_eq_true rfl)
  rw [lg_entry_eq]
  generalize (lg_sl ([.ref (ad 0), .int seed, .int v]) ++ List.replicate (5 - (lg_sl ([.ref (ad 0), .int seed, .int v])).length) Slot.unset).toArray = ls at hl ⊢
  have hl : lv_has ls 5 [(0, .ref (ad 0)), (1, .int seed), (2, .int v)] := hl
  refine lv_aload_n hx hb dX0_receive_0 rfl (lv_at hl 0 rfl) ?_
  refine va_get (D := (dC, dI)) (ci := 0) (v := .int (nI n)) (C := RX0) (T := TX0) (N := 11) hx hb hts hw0 hown hK hP 0 rfl rfl 4 (by decide) (hts (.fieldLink RX0 16 "DropCode" "dropCount" "I") (by decide +kernel)) (fun _ h9 => h9) rfl dX0_receive_1 ?_
  refine lv_bipush (v := 60) hx hb dX0_receive_4 (by decide) ?_
  refine lv_icmp_lt (tgt := 12) hx hb dX0_receive_6 (by decide) (fun c1 => ?_) (fun c1 => ?_)
  · skip
    have hSn : ∀ j, j < n + 1 → ∀ i, bt ((upd S n (setA K seed)) j) i = true → i < K := rc_S hK1 hK2 hS0
    have hI : qInv K (n + 1) (upd S n (setA K seed)) 0 (rcI K n (upd S n (setA K seed)) (upd V n v) kw ko kb qu cl) := rc_inv hkb hno
    refine lv_aload_n hx hb dX0_receive_12 rfl (lv_at hl 0 rfl) ?_
    refine va_get (D := (dC, dI)) (ci := 0) (v := .int (nI n)) (C := RX0) (T := TX0) (N := 11) hx hb hts hw0 hown hK hP 0 rfl rfl 4 (by decide) (hts (.fieldLink RX0 16 "DropCode" "dropCount" "I") (by decide +kernel)) (fun _ h9 => h9) rfl dX0_receive_13 ?_
    refine lv_istore_n (lv' := [(3, .int (nI n)), (0, .ref (ad 0)), (1, .int seed), (2, .int v)]) hx hb dX0_receive_16 rfl hl (by decide) rfl (fun ls hl => ?_)
    refine lv_aload_n hx hb dX0_receive_17 rfl (lv_at hl 1 rfl) ?_
    refine va_get (D := (dC, dI)) (ci := 0) (v := .ref (ad 2)) (C := RX0) (T := TX0) (N := 11) hx hb hts hw0 hown hK hP 0 rfl rfl 2 (by decide) (hts (.fieldLink RX0 9 "DropCode" "dropSets" "[I") (by decide +kernel)) (fun _ h9 => h9) rfl dX0_receive_18 ?_
    refine lv_iload_n hx hb dX0_receive_21 rfl (lv_at hl 0 rfl) ?_
    refine lv_aload_n hx hb dX0_receive_22 rfl (lv_at hl 1 rfl) ?_
    refine lv_iload_n hx hb dX0_receive_23 rfl (lv_at hl 2 rfl) ?_
    refine vp_callSi (W.runV (As := [.int seed]) (rest := [.int (nI n), .ref (ad 2)]) ⟨hx, hb, hml, hown, hts⟩ (c_X0_setOf l dC dI ad cI K row S V (nI n) kw ko kb qu qe cl hK1 hK2 seed) (cwV 1 hts gX0_receive_X0_setOf rfl rfl rfl (by decide +kernel) ⟨Nat.le_of_ble_eq_true rfl, Nat.le_of_ble_eq_true rfl⟩) ⟨rFb, va_recv hK hP (ci := 0) (q0 := 0) rfl rfl, fun U hU hW => ⟨rfl, by rw [hU]; exact hP, va_K.moved hW.alike hK⟩⟩ rfl rfl hl.1 rfl (lv_room (Nat.le_of_ble_eq_true rfl)) dX0_receive_24 ⟨Nat.zero_le _, Nat.zero_le _⟩) (fun r_1 er_1 => ?_)
    subst er_1
    refine va_iast (i := nI n) hx hb hK hP hD hS 2 0 rfl rfl (vp_in_nI hn (by omega)) dX0_receive_27 (fun H locs hP hD hS => ?_)
    rw [nI_clamp (by omega)] at hP hD
    have hP : va_P (dC, dI) vwCl (xW ad cI K row (upd S n (setA K seed)) V (nI n) kw ko kb qu qe cl) H := hP
    have hD : va_D A (xW ad cI K row (upd S n (setA K seed)) V (nI n) kw ko kb qu qe cl) := hD
    refine lv_aload_n hx hb dX0_receive_28 rfl (lv_at hl 1 rfl) ?_
    refine va_get (D := (dC, dI)) (ci := 0) (v := .ref (ad 3)) (C := RX0) (T := TX0) (N := 11) hx hb hts hw0 hown hK hP 0 rfl rfl 3 (by decide) (hts (.fieldLink RX0 13 "DropCode" "dropWords" "[I") (by decide +kernel)) (fun _ h9 => h9) rfl dX0_receive_29 ?_
    refine lv_iload_n hx hb dX0_receive_32 rfl (lv_at hl 0 rfl) ?_
    refine lv_iload_n hx hb dX0_receive_33 rfl (lv_at hl 3 rfl) ?_
    refine va_iast (i := nI n) hx hb hK hP hD hS 3 0 rfl rfl (vp_in_nI hn (by omega)) dX0_receive_34 (fun H locs hP hD hS => ?_)
    rw [nI_clamp (by omega)] at hP hD
    have hP : va_P (dC, dI) vwCl (xW ad cI K row (upd S n (setA K seed)) (upd V n v) (nI n) kw ko kb qu qe cl) H := hP
    have hD : va_D A (xW ad cI K row (upd S n (setA K seed)) (upd V n v) (nI n) kw ko kb qu qe cl) := hD
    refine lv_aload_n hx hb dX0_receive_35 rfl (lv_at hl 1 rfl) ?_
    refine lv_dup hx hb dX0_receive_36 rfl ?_
    refine va_get (D := (dC, dI)) (ci := 0) (v := .int (nI n)) (C := RX0) (T := TX0) (N := 11) hx hb hts hw0 hown hK hP 0 rfl rfl 4 (by decide) (hts (.fieldLink RX0 16 "DropCode" "dropCount" "I") (by decide +kernel)) (fun _ h9 => h9) rfl dX0_receive_37 ?_
    refine lv_iconst (v := 1) hx hb dX0_receive_40 (by decide) ?_
    refine lv_iadd hx hb dX0_receive_41 ?_
    refine lv_topi (fun z_2 ez_2 => ?_)
    have ez_2 : z_2 = nI (n + 1) := ez_2.trans (nI_1 n)
    subst ez_2
    refine va_put (D := (dC, dI)) (ci := 0) (v := .int (nI (n + 1))) (ty := .int) (C := RX0) (T := TX0) (N := 11) hx hb hts hw0 tyX0 tyX0_ok nmX0 hown hK hP hD hS 0 rfl rfl 4 (by decide) (hts (.fieldLink RX0 16 "DropCode" "dropCount" "I") (by decide +kernel)) (fun _ h9 => h9) rfl (by decide +kernel) rfl rfl (Nat.le_of_ble_eq_true rfl) dX0_receive_42 (fun H locs hP hD hS => ?_)
    have hP : va_P (dC, dI) vwCl (xW ad cI K row (upd S n (setA K seed)) (upd V n v) (nI (n + 1)) kw ko kb qu qe cl) H := hP
    have hD : va_D A (xW ad cI K row (upd S n (setA K seed)) (upd V n v) (nI (n + 1)) kw ko kb qu qe cl) := hD
    refine lv_aload_n hx hb dX0_receive_45 rfl (lv_at hl 1 rfl) ?_
    refine lv_iconst (v := 0) hx hb dX0_receive_46 (by decide) ?_
    refine lv_topi (fun z_3 ez_3 => ?_)
    have ez_3 : z_3 = nI 0 := ez_3.trans (rfl)
    subst ez_3
    refine va_put (D := (dC, dI)) (ci := 0) (v := .int (nI 0)) (ty := .int) (C := RX0) (T := TX0) (N := 11) hx hb hts hw0 tyX0 tyX0_ok nmX0 hown hK hP hD hS 0 rfl rfl 9 (by decide) (hts (.fieldLink RX0 26 "DropCode" "queueEnd" "I") (by decide +kernel)) (fun _ h9 => h9) rfl (by decide +kernel) rfl rfl (Nat.le_of_ble_eq_true rfl) dX0_receive_47 (fun H locs hP hD hS => ?_)
    have hP : va_P (dC, dI) vwCl (xW ad cI K row (upd S n (setA K seed)) (upd V n v) (nI (n + 1)) kw ko kb qu (nI 0) cl) H := hP
    have hD : va_D A (xW ad cI K row (upd S n (setA K seed)) (upd V n v) (nI (n + 1)) kw ko kb qu (nI 0) cl) := hD
    refine lv_aload_n hx hb dX0_receive_50 rfl (lv_at hl 1 rfl) ?_
    refine lv_iload_n hx hb dX0_receive_51 rfl (lv_at hl 0 rfl) ?_
    refine vp_callSi (W.runV (As := [.int (nI n)]) (rest := []) ⟨hx, hb, hml, hown, hts⟩ (c_X0_unknownCount l dC dI ad cI K row (upd S n (setA K seed)) (upd V n v) (nI (n + 1)) kw ko kb qu (nI 0) cl n hn) (cwV 1 hts gX0_receive_X0_unknownCount rfl rfl rfl (by decide +kernel) ⟨Nat.le_of_ble_eq_true rfl, Nat.le_of_ble_eq_true rfl⟩) ⟨rFb, va_recv hK hP (ci := 0) (q0 := 0) rfl rfl, fun U hU hW => ⟨rfl, by rw [hU]; exact hP, va_K.moved hW.alike hK⟩⟩ rfl rfl hl.1 rfl (lv_room (Nat.le_of_ble_eq_true rfl)) dX0_receive_52 ⟨Nat.zero_le _, Nat.zero_le _⟩) (fun r_4 er_4 => ?_)
    subst er_4
    refine lv_istore (lv' := [(4, .int (nI (pc (unk ((upd S n (setA K seed)) n) kb)))), (3, .int (nI n)), (0, .ref (ad 0)), (1, .int seed), (2, .int v)]) hx hb dX0_receive_55 hl (by decide) rfl (fun ls hl => ?_)
    refine lv_iload hx hb dX0_receive_57 (lv_at hl 0 rfl) ?_
    refine lv_iconst (v := 1) hx hb dX0_receive_59 (by decide) ?_
    refine lv_icmp_ne (tgt := 71) hx hb dX0_receive_60 (by decide) (fun c2 => ?_) (fun c2 => ?_)
    · skip
      refine lv_iload hx hb dX0_receive_71 (lv_at hl 0 rfl) ?_
      refine lv_if_ne (tgt := 81) hx hb dX0_receive_73 (by decide) (fun c3 => ?_) (fun c3 => ?_)
      · skip
        have hz : rcI K n (upd S n (setA K seed)) (upd V n v) kw ko kb qu cl = (kw, ko, kb, qu, 0, cl) := rc_2 (fun h => c2 (by rw [show pc (unk ((upd S n (setA K seed)) n) kb) = 1 from h]; rfl)) (fun h => c3 (by rw [show pc (unk ((upd S n (setA K seed)) n) kb) = 0 from h]; rfl))
        have hP : va_P (dC, dI) vwCl (xW ad cI K row (upd S n (setA K seed)) (upd V n v) (nI (n + 1)) ((rcI K n (upd S n (setA K seed)) (upd V n v) kw ko kb qu cl).1) ((rcI K n (upd S n (setA K seed)) (upd V n v) kw ko kb qu cl).2.1) ((rcI K n (upd S n (setA K seed)) (upd V n v) kw ko kb qu cl).2.2.1) ((rcI K n (upd S n (setA K seed)) (upd V n v) kw ko kb qu cl).2.2.2.1) (nI (rcI K n (upd S n (setA K seed)) (upd V n v) kw ko kb qu cl).2.2.2.2.1) ((rcI K n (upd S n (setA K seed)) (upd V n v) kw ko kb qu cl).2.2.2.2.2)) H := by rw [hz]; exact hP
        have hD : va_D A (xW ad cI K row (upd S n (setA K seed)) (upd V n v) (nI (n + 1)) ((rcI K n (upd S n (setA K seed)) (upd V n v) kw ko kb qu cl).1) ((rcI K n (upd S n (setA K seed)) (upd V n v) kw ko kb qu cl).2.1) ((rcI K n (upd S n (setA K seed)) (upd V n v) kw ko kb qu cl).2.2.1) ((rcI K n (upd S n (setA K seed)) (upd V n v) kw ko kb qu cl).2.2.2.1) (nI (rcI K n (upd S n (setA K seed)) (upd V n v) kw ko kb qu cl).2.2.2.2.1) ((rcI K n (upd S n (setA K seed)) (upd V n v) kw ko kb qu cl).2.2.2.2.2)) := by rw [hz]; exact hD
        refine lv_aload_n hx hb dX0_receive_81 rfl (lv_at hl 2 rfl) ?_
        have hFc := va_free (wc := (xW ad cI K row (upd S n (setA K seed)) (upd V n v) (nI (n + 1)) ((rcI K n (upd S n (setA K seed)) (upd V n v) kw ko kb qu cl).1) ((rcI K n (upd S n (setA K seed)) (upd V n v) kw ko kb qu cl).2.1) ((rcI K n (upd S n (setA K seed)) (upd V n v) kw ko kb qu cl).2.2.1) ((rcI K n (upd S n (setA K seed)) (upd V n v) kw ko kb qu cl).2.2.2.1) (nI (rcI K n (upd S n (setA K seed)) (upd V n v) kw ko kb qu cl).2.2.2.2.1) ((rcI K n (upd S n (setA K seed)) (upd V n v) kw ko kb qu cl).2.2.2.2.2))) hD hS hA [0, 1, 2, 3, 4, 5, 6] rfl
        refine va_callv (va_runV (As := []) (rest := []) ⟨hx, hb, hml, hown, hts⟩ (c_X0_runQueue l dC dI H.size ad cI K row (upd S n (setA K seed)) (upd V n v) hK1 hK2 (n + 1) hn (rcI K n (upd S n (setA K seed)) (upd V n v) kw ko kb qu cl) hSn hI) (cwV 0 hts gX0_receive_X0_runQueue rfl rfl rfl (by decide +kernel) ⟨Nat.le_of_ble_eq_true rfl, Nat.le_of_ble_eq_true rfl⟩) ⟨wFb, va_recv hK hP (ci := 0) (q0 := 0) rfl rfl, fun U hU hW => ⟨rfl, by rw [hU], by rw [hU]; exact hP, va_K.moved hW.alike hK, hD.weaken (fun _ _ _ _ => trivial)⟩⟩ rfl rfl hl.1 rfl (lv_room (Nat.le_of_ble_eq_true rfl)) dX0_receive_82 ⟨Nat.le_of_ble_eq_true rfl, Nat.le_of_ble_eq_true rfl⟩) hS (fun q _ h => hFc q h) hFc (fun u t H1 locs ht hvm hw hB hz1 hk1 hS => ?_)
        obtain ⟨hP1, hK1, hD1⟩ := hB
        rw [ht] at hP1
        obtain ⟨hP, hD⟩ := va_join (wr := []) (w1 := (xW ad cI K row (upd S n (setA K seed)) (upd V n v) (nI (n + 1)) ((rnF K (n + 1) (upd S n (setA K seed)) (upd V n v) 60 0 (rcI K n (upd S n (setA K seed)) (upd V n v) kw ko kb qu cl)).1) ((rnF K (n + 1) (upd S n (setA K seed)) (upd V n v) 60 0 (rcI K n (upd S n (setA K seed)) (upd V n v) kw ko kb qu cl)).2.1) ((rnF K (n + 1) (upd S n (setA K seed)) (upd V n v) 60 0 (rcI K n (upd S n (setA K seed)) (upd V n v) kw ko kb qu cl)).2.2.1) ((rnF K (n + 1) (upd S n (setA K seed)) (upd V n v) 60 0 (rcI K n (upd S n (setA K seed)) (upd V n v) kw ko kb qu cl)).2.2.2.1) (nI (rnF K (n + 1) (upd S n (setA K seed)) (upd V n v) 60 0 (rcI K n (upd S n (setA K seed)) (upd V n v) kw ko kb qu cl)).2.2.2.2.1) ((rnF K (n + 1) (upd S n (setA K seed)) (upd V n v) 60 0 (rcI K n (upd S n (setA K seed)) (upd V n v) kw ko kb qu cl)).2.2.2.2.2))) hP hD [0, 1, 2, 3, 4, 5, 6] [] rfl rfl (by decide) (by decide) hk1 hFc hP1 hD1
        clear hP1 hD1 hK1 hFc hk1 hz1
        generalize H1 = H at hP hS ⊢
        have hP : va_P (dC, dI) vwCl (xW ad cI K row (upd S n (setA K seed)) (upd V n v) (nI (n + 1)) ((rnF K (n + 1) (upd S n (setA K seed)) (upd V n v) 60 0 (rcI K n (upd S n (setA K seed)) (upd V n v) kw ko kb qu cl)).1) ((rnF K (n + 1) (upd S n (setA K seed)) (upd V n v) 60 0 (rcI K n (upd S n (setA K seed)) (upd V n v) kw ko kb qu cl)).2.1) ((rnF K (n + 1) (upd S n (setA K seed)) (upd V n v) 60 0 (rcI K n (upd S n (setA K seed)) (upd V n v) kw ko kb qu cl)).2.2.1) ((rnF K (n + 1) (upd S n (setA K seed)) (upd V n v) 60 0 (rcI K n (upd S n (setA K seed)) (upd V n v) kw ko kb qu cl)).2.2.2.1) (nI (rnF K (n + 1) (upd S n (setA K seed)) (upd V n v) 60 0 (rcI K n (upd S n (setA K seed)) (upd V n v) kw ko kb qu cl)).2.2.2.2.1) ((rnF K (n + 1) (upd S n (setA K seed)) (upd V n v) 60 0 (rcI K n (upd S n (setA K seed)) (upd V n v) kw ko kb qu cl)).2.2.2.2.2)) H := hP
        have hD : va_D A (xW ad cI K row (upd S n (setA K seed)) (upd V n v) (nI (n + 1)) ((rnF K (n + 1) (upd S n (setA K seed)) (upd V n v) 60 0 (rcI K n (upd S n (setA K seed)) (upd V n v) kw ko kb qu cl)).1) ((rnF K (n + 1) (upd S n (setA K seed)) (upd V n v) 60 0 (rcI K n (upd S n (setA K seed)) (upd V n v) kw ko kb qu cl)).2.1) ((rnF K (n + 1) (upd S n (setA K seed)) (upd V n v) 60 0 (rcI K n (upd S n (setA K seed)) (upd V n v) kw ko kb qu cl)).2.2.1) ((rnF K (n + 1) (upd S n (setA K seed)) (upd V n v) 60 0 (rcI K n (upd S n (setA K seed)) (upd V n v) kw ko kb qu cl)).2.2.2.1) (nI (rnF K (n + 1) (upd S n (setA K seed)) (upd V n v) 60 0 (rcI K n (upd S n (setA K seed)) (upd V n v) kw ko kb qu cl)).2.2.2.2.1) ((rnF K (n + 1) (upd S n (setA K seed)) (upd V n v) 60 0 (rcI K n (upd S n (setA K seed)) (upd V n v) kw ko kb qu cl)).2.2.2.2.2)) := hD
        refine lv_aload_n hx hb dX0_receive_85 rfl (lv_at hl 2 rfl) ?_
        refine vp_callSi (W.runV (As := []) (rest := []) ⟨hx, hb, hml, hown, hts⟩ (c_X0_knownCount l dC dI ad cI K row (upd S n (setA K seed)) (upd V n v) (nI (n + 1)) ((rnF K (n + 1) (upd S n (setA K seed)) (upd V n v) 60 0 (rcI K n (upd S n (setA K seed)) (upd V n v) kw ko kb qu cl)).1) ((rnF K (n + 1) (upd S n (setA K seed)) (upd V n v) 60 0 (rcI K n (upd S n (setA K seed)) (upd V n v) kw ko kb qu cl)).2.1) ((rnF K (n + 1) (upd S n (setA K seed)) (upd V n v) 60 0 (rcI K n (upd S n (setA K seed)) (upd V n v) kw ko kb qu cl)).2.2.1) ((rnF K (n + 1) (upd S n (setA K seed)) (upd V n v) 60 0 (rcI K n (upd S n (setA K seed)) (upd V n v) kw ko kb qu cl)).2.2.2.1) (nI (rnF K (n + 1) (upd S n (setA K seed)) (upd V n v) 60 0 (rcI K n (upd S n (setA K seed)) (upd V n v) kw ko kb qu cl)).2.2.2.2.1) ((rnF K (n + 1) (upd S n (setA K seed)) (upd V n v) 60 0 (rcI K n (upd S n (setA K seed)) (upd V n v) kw ko kb qu cl)).2.2.2.2.2)) (cwV 0 hts gX0_receive_X0_knownCount rfl rfl rfl (by decide +kernel) ⟨Nat.le_of_ble_eq_true rfl, Nat.le_of_ble_eq_true rfl⟩) ⟨rFb, va_recv hK hP (ci := 0) (q0 := 0) rfl rfl, fun U hU hW => ⟨rfl, by rw [hU]; exact hP, va_K.moved hW.alike hK⟩⟩ rfl rfl hl.1 rfl (lv_room (Nat.le_of_ble_eq_true rfl)) dX0_receive_86 ⟨Nat.zero_le _, Nat.zero_le _⟩) (fun r_6 er_6 => ?_)
        subst er_6
        exact W.iret (v := nI (pc ((rnF K (n + 1) (upd S n (setA K seed)) (upd V n v) 60 0 (rcI K n (upd S n (setA K seed)) (upd V n v) kw ko kb qu cl)).2.2.1))) hx hb hr (fun t ht hW => ⟨⟨nI (pc ((rnF K (n + 1) (upd S n (setA K seed)) (upd V n v) 60 0 (rcI K n (upd S n (setA K seed)) (upd V n v) kw ko kb qu cl)).2.2.1)), (), rfl, rfl, by rw [ht]; exact hP, va_K.moved hW.alike hK, hD⟩, hS.F ht⟩) hS.2.2 dX0_receive_89
      · skip
        refine lv_aload_n hx hb dX0_receive_76 rfl (lv_at hl 2 rfl) ?_
        refine lv_iload_n hx hb dX0_receive_77 rfl (lv_at hl 1 rfl) ?_
        have hFc := va_free (wc := (xW ad cI K row (upd S n (setA K seed)) (upd V n v) (nI (n + 1)) kw ko kb qu (nI 0) cl)) hD hS hA [0, 1, 2, 3, 4, 5, 6] rfl
        refine va_callv (va_runV (As := [.int (nI n)]) (rest := []) ⟨hx, hb, hml, hown, hts⟩ (c_X0_noteIfClash l dC dI H.size ad cI K row (upd S n (setA K seed)) (upd V n v) (nI (n + 1)) kw ko kb qu (nI 0) cl hK1 hK2 n hn) (cwV 1 hts gX0_receive_X0_noteIfClash rfl rfl rfl (by decide +kernel) ⟨Nat.le_of_ble_eq_true rfl, Nat.le_of_ble_eq_true rfl⟩) ⟨wFb, va_recv hK hP (ci := 0) (q0 := 0) rfl rfl, fun U hU hW => ⟨rfl, by rw [hU], by rw [hU]; exact hP, va_K.moved hW.alike hK, hD.weaken (fun _ _ _ _ => trivial)⟩⟩ rfl rfl hl.1 rfl (lv_room (Nat.le_of_ble_eq_true rfl)) dX0_receive_78 ⟨Nat.le_of_ble_eq_true rfl, Nat.le_of_ble_eq_true rfl⟩) hS (fun q _ h => hFc q h) hFc (fun u t H1 locs ht hvm hw hB hz1 hk1 hS => ?_)
        obtain ⟨hP1, hK1, hD1⟩ := hB
        rw [ht] at hP1
        obtain ⟨hP, hD⟩ := va_join (wr := []) (w1 := (xW ad cI K row (upd S n (setA K seed)) (upd V n v) (nI (n + 1)) kw ko kb qu (nI 0) (clA K kw ((upd S n (setA K seed)) n) kb ((upd V n v) n) cl))) hP hD [0, 1, 2, 3, 4, 5, 6] [] rfl rfl (by decide) (by decide) hk1 hFc hP1 hD1
        clear hP1 hD1 hK1 hFc hk1 hz1
        generalize H1 = H at hP hS ⊢
        have hP : va_P (dC, dI) vwCl (xW ad cI K row (upd S n (setA K seed)) (upd V n v) (nI (n + 1)) kw ko kb qu (nI 0) (clA K kw ((upd S n (setA K seed)) n) kb ((upd V n v) n) cl)) H := hP
        have hD : va_D A (xW ad cI K row (upd S n (setA K seed)) (upd V n v) (nI (n + 1)) kw ko kb qu (nI 0) (clA K kw ((upd S n (setA K seed)) n) kb ((upd V n v) n) cl)) := hD
        have hz : rcI K n (upd S n (setA K seed)) (upd V n v) kw ko kb qu cl = (kw, ko, kb, qu, 0, clA K kw ((upd S n (setA K seed)) n) kb ((upd V n v) n) cl) := rc_0 (nI_zero (pc_le _) c3)
        have hP : va_P (dC, dI) vwCl (xW ad cI K row (upd S n (setA K seed)) (upd V n v) (nI (n + 1)) ((rcI K n (upd S n (setA K seed)) (upd V n v) kw ko kb qu cl).1) ((rcI K n (upd S n (setA K seed)) (upd V n v) kw ko kb qu cl).2.1) ((rcI K n (upd S n (setA K seed)) (upd V n v) kw ko kb qu cl).2.2.1) ((rcI K n (upd S n (setA K seed)) (upd V n v) kw ko kb qu cl).2.2.2.1) (nI (rcI K n (upd S n (setA K seed)) (upd V n v) kw ko kb qu cl).2.2.2.2.1) ((rcI K n (upd S n (setA K seed)) (upd V n v) kw ko kb qu cl).2.2.2.2.2)) H := by rw [hz]; exact hP
        have hD : va_D A (xW ad cI K row (upd S n (setA K seed)) (upd V n v) (nI (n + 1)) ((rcI K n (upd S n (setA K seed)) (upd V n v) kw ko kb qu cl).1) ((rcI K n (upd S n (setA K seed)) (upd V n v) kw ko kb qu cl).2.1) ((rcI K n (upd S n (setA K seed)) (upd V n v) kw ko kb qu cl).2.2.1) ((rcI K n (upd S n (setA K seed)) (upd V n v) kw ko kb qu cl).2.2.2.1) (nI (rcI K n (upd S n (setA K seed)) (upd V n v) kw ko kb qu cl).2.2.2.2.1) ((rcI K n (upd S n (setA K seed)) (upd V n v) kw ko kb qu cl).2.2.2.2.2)) := by rw [hz]; exact hD
        refine lv_aload_n hx hb dX0_receive_81 rfl (lv_at hl 2 rfl) ?_
        have hFc := va_free (wc := (xW ad cI K row (upd S n (setA K seed)) (upd V n v) (nI (n + 1)) ((rcI K n (upd S n (setA K seed)) (upd V n v) kw ko kb qu cl).1) ((rcI K n (upd S n (setA K seed)) (upd V n v) kw ko kb qu cl).2.1) ((rcI K n (upd S n (setA K seed)) (upd V n v) kw ko kb qu cl).2.2.1) ((rcI K n (upd S n (setA K seed)) (upd V n v) kw ko kb qu cl).2.2.2.1) (nI (rcI K n (upd S n (setA K seed)) (upd V n v) kw ko kb qu cl).2.2.2.2.1) ((rcI K n (upd S n (setA K seed)) (upd V n v) kw ko kb qu cl).2.2.2.2.2))) hD hS hA [0, 1, 2, 3, 4, 5, 6] rfl
        refine va_callv (va_runV (As := []) (rest := []) ⟨hx, hb, hml, hown, hts⟩ (c_X0_runQueue l dC dI H.size ad cI K row (upd S n (setA K seed)) (upd V n v) hK1 hK2 (n + 1) hn (rcI K n (upd S n (setA K seed)) (upd V n v) kw ko kb qu cl) hSn hI) (cwV 0 hts gX0_receive_X0_runQueue rfl rfl rfl (by decide +kernel) ⟨Nat.le_of_ble_eq_true rfl, Nat.le_of_ble_eq_true rfl⟩) ⟨wFb, va_recv hK hP (ci := 0) (q0 := 0) rfl rfl, fun U hU hW => ⟨rfl, by rw [hU], by rw [hU]; exact hP, va_K.moved hW.alike hK, hD.weaken (fun _ _ _ _ => trivial)⟩⟩ rfl rfl hl.1 rfl (lv_room (Nat.le_of_ble_eq_true rfl)) dX0_receive_82 ⟨Nat.le_of_ble_eq_true rfl, Nat.le_of_ble_eq_true rfl⟩) hS (fun q _ h => hFc q h) hFc (fun u t H1 locs ht hvm hw hB hz1 hk1 hS => ?_)
        obtain ⟨hP1, hK1, hD1⟩ := hB
        rw [ht] at hP1
        obtain ⟨hP, hD⟩ := va_join (wr := []) (w1 := (xW ad cI K row (upd S n (setA K seed)) (upd V n v) (nI (n + 1)) ((rnF K (n + 1) (upd S n (setA K seed)) (upd V n v) 60 0 (rcI K n (upd S n (setA K seed)) (upd V n v) kw ko kb qu cl)).1) ((rnF K (n + 1) (upd S n (setA K seed)) (upd V n v) 60 0 (rcI K n (upd S n (setA K seed)) (upd V n v) kw ko kb qu cl)).2.1) ((rnF K (n + 1) (upd S n (setA K seed)) (upd V n v) 60 0 (rcI K n (upd S n (setA K seed)) (upd V n v) kw ko kb qu cl)).2.2.1) ((rnF K (n + 1) (upd S n (setA K seed)) (upd V n v) 60 0 (rcI K n (upd S n (setA K seed)) (upd V n v) kw ko kb qu cl)).2.2.2.1) (nI (rnF K (n + 1) (upd S n (setA K seed)) (upd V n v) 60 0 (rcI K n (upd S n (setA K seed)) (upd V n v) kw ko kb qu cl)).2.2.2.2.1) ((rnF K (n + 1) (upd S n (setA K seed)) (upd V n v) 60 0 (rcI K n (upd S n (setA K seed)) (upd V n v) kw ko kb qu cl)).2.2.2.2.2))) hP hD [0, 1, 2, 3, 4, 5, 6] [] rfl rfl (by decide) (by decide) hk1 hFc hP1 hD1
        clear hP1 hD1 hK1 hFc hk1 hz1
        generalize H1 = H at hP hS ⊢
        have hP : va_P (dC, dI) vwCl (xW ad cI K row (upd S n (setA K seed)) (upd V n v) (nI (n + 1)) ((rnF K (n + 1) (upd S n (setA K seed)) (upd V n v) 60 0 (rcI K n (upd S n (setA K seed)) (upd V n v) kw ko kb qu cl)).1) ((rnF K (n + 1) (upd S n (setA K seed)) (upd V n v) 60 0 (rcI K n (upd S n (setA K seed)) (upd V n v) kw ko kb qu cl)).2.1) ((rnF K (n + 1) (upd S n (setA K seed)) (upd V n v) 60 0 (rcI K n (upd S n (setA K seed)) (upd V n v) kw ko kb qu cl)).2.2.1) ((rnF K (n + 1) (upd S n (setA K seed)) (upd V n v) 60 0 (rcI K n (upd S n (setA K seed)) (upd V n v) kw ko kb qu cl)).2.2.2.1) (nI (rnF K (n + 1) (upd S n (setA K seed)) (upd V n v) 60 0 (rcI K n (upd S n (setA K seed)) (upd V n v) kw ko kb qu cl)).2.2.2.2.1) ((rnF K (n + 1) (upd S n (setA K seed)) (upd V n v) 60 0 (rcI K n (upd S n (setA K seed)) (upd V n v) kw ko kb qu cl)).2.2.2.2.2)) H := hP
        have hD : va_D A (xW ad cI K row (upd S n (setA K seed)) (upd V n v) (nI (n + 1)) ((rnF K (n + 1) (upd S n (setA K seed)) (upd V n v) 60 0 (rcI K n (upd S n (setA K seed)) (upd V n v) kw ko kb qu cl)).1) ((rnF K (n + 1) (upd S n (setA K seed)) (upd V n v) 60 0 (rcI K n (upd S n (setA K seed)) (upd V n v) kw ko kb qu cl)).2.1) ((rnF K (n + 1) (upd S n (setA K seed)) (upd V n v) 60 0 (rcI K n (upd S n (setA K seed)) (upd V n v) kw ko kb qu cl)).2.2.1) ((rnF K (n + 1) (upd S n (setA K seed)) (upd V n v) 60 0 (rcI K n (upd S n (setA K seed)) (upd V n v) kw ko kb qu cl)).2.2.2.1) (nI (rnF K (n + 1) (upd S n (setA K seed)) (upd V n v) 60 0 (rcI K n (upd S n (setA K seed)) (upd V n v) kw ko kb qu cl)).2.2.2.2.1) ((rnF K (n + 1) (upd S n (setA K seed)) (upd V n v) 60 0 (rcI K n (upd S n (setA K seed)) (upd V n v) kw ko kb qu cl)).2.2.2.2.2)) := hD
        refine lv_aload_n hx hb dX0_receive_85 rfl (lv_at hl 2 rfl) ?_
        refine vp_callSi (W.runV (As := []) (rest := []) ⟨hx, hb, hml, hown, hts⟩ (c_X0_knownCount l dC dI ad cI K row (upd S n (setA K seed)) (upd V n v) (nI (n + 1)) ((rnF K (n + 1) (upd S n (setA K seed)) (upd V n v) 60 0 (rcI K n (upd S n (setA K seed)) (upd V n v) kw ko kb qu cl)).1) ((rnF K (n + 1) (upd S n (setA K seed)) (upd V n v) 60 0 (rcI K n (upd S n (setA K seed)) (upd V n v) kw ko kb qu cl)).2.1) ((rnF K (n + 1) (upd S n (setA K seed)) (upd V n v) 60 0 (rcI K n (upd S n (setA K seed)) (upd V n v) kw ko kb qu cl)).2.2.1) ((rnF K (n + 1) (upd S n (setA K seed)) (upd V n v) 60 0 (rcI K n (upd S n (setA K seed)) (upd V n v) kw ko kb qu cl)).2.2.2.1) (nI (rnF K (n + 1) (upd S n (setA K seed)) (upd V n v) 60 0 (rcI K n (upd S n (setA K seed)) (upd V n v) kw ko kb qu cl)).2.2.2.2.1) ((rnF K (n + 1) (upd S n (setA K seed)) (upd V n v) 60 0 (rcI K n (upd S n (setA K seed)) (upd V n v) kw ko kb qu cl)).2.2.2.2.2)) (cwV 0 hts gX0_receive_X0_knownCount rfl rfl rfl (by decide +kernel) ⟨Nat.le_of_ble_eq_true rfl, Nat.le_of_ble_eq_true rfl⟩) ⟨rFb, va_recv hK hP (ci := 0) (q0 := 0) rfl rfl, fun U hU hW => ⟨rfl, by rw [hU]; exact hP, va_K.moved hW.alike hK⟩⟩ rfl rfl hl.1 rfl (lv_room (Nat.le_of_ble_eq_true rfl)) dX0_receive_86 ⟨Nat.zero_le _, Nat.zero_le _⟩) (fun r_7 er_7 => ?_)
        subst er_7
        exact W.iret (v := nI (pc ((rnF K (n + 1) (upd S n (setA K seed)) (upd V n v) 60 0 (rcI K n (upd S n (setA K seed)) (upd V n v) kw ko kb qu cl)).2.2.1))) hx hb hr (fun t ht hW => ⟨⟨nI (pc ((rnF K (n + 1) (upd S n (setA K seed)) (upd V n v) 60 0 (rcI K n (upd S n (setA K seed)) (upd V n v) kw ko kb qu cl)).2.2.1)), (), rfl, rfl, by rw [ht]; exact hP, va_K.moved hW.alike hK, hD⟩, hS.F ht⟩) hS.2.2 dX0_receive_89
    · skip
      refine lv_aload_n hx hb dX0_receive_63 rfl (lv_at hl 2 rfl) ?_
      refine lv_iload_n hx hb dX0_receive_64 rfl (lv_at hl 1 rfl) ?_
      have hFc := va_free (wc := (xW ad cI K row (upd S n (setA K seed)) (upd V n v) (nI (n + 1)) kw ko kb qu (nI 0) cl)) hD hS hA [0, 1, 2, 3, 4, 5, 6] rfl
      refine va_callv (va_runV (As := [.int (nI n)]) (rest := []) ⟨hx, hb, hml, hown, hts⟩ (c_X0_enqueue l dC dI H.size ad cI K row (upd S n (setA K seed)) (upd V n v) (nI (n + 1)) kw ko kb qu cl 0 (by omega) (nI n)) (cwV 1 hts gX0_receive_X0_enqueue rfl rfl rfl (by decide +kernel) ⟨Nat.le_of_ble_eq_true rfl, Nat.le_of_ble_eq_true rfl⟩) ⟨wFb, va_recv hK hP (ci := 0) (q0 := 0) rfl rfl, fun U hU hW => ⟨rfl, by rw [hU], by rw [hU]; exact hP, va_K.moved hW.alike hK, hD.weaken (fun _ _ _ _ => trivial)⟩⟩ rfl rfl hl.1 rfl (lv_room (Nat.le_of_ble_eq_true rfl)) dX0_receive_65 ⟨Nat.le_of_ble_eq_true rfl, Nat.le_of_ble_eq_true rfl⟩) hS (fun q _ h => hFc q h) hFc (fun u t H1 locs ht hvm hw hB hz1 hk1 hS => ?_)
      obtain ⟨hP1, hK1, hD1⟩ := hB
      rw [ht] at hP1
      obtain ⟨hP, hD⟩ := va_join (wr := []) (w1 := (xW ad cI K row (upd S n (setA K seed)) (upd V n v) (nI (n + 1)) kw ko kb (upd qu 0 (nI n)) (nI (0 + 1)) cl)) hP hD [0, 1, 2, 3, 4, 5, 6] [] rfl rfl (by decide) (by decide) hk1 hFc hP1 hD1
      clear hP1 hD1 hK1 hFc hk1 hz1
      generalize H1 = H at hP hS ⊢
      have hP : va_P (dC, dI) vwCl (xW ad cI K row (upd S n (setA K seed)) (upd V n v) (nI (n + 1)) kw ko kb (upd qu 0 (nI n)) (nI (0 + 1)) cl) H := hP
      have hD : va_D A (xW ad cI K row (upd S n (setA K seed)) (upd V n v) (nI (n + 1)) kw ko kb (upd qu 0 (nI n)) (nI (0 + 1)) cl) := hD
      refine lv_goto (tgt := 81) hx hb dX0_receive_68 (by decide) ?_
      have hz : rcI K n (upd S n (setA K seed)) (upd V n v) kw ko kb qu cl = (kw, ko, kb, upd qu 0 (nI n), 1, cl) := rc_1 (nI_one (pc_le _) c2)
      have hP : va_P (dC, dI) vwCl (xW ad cI K row (upd S n (setA K seed)) (upd V n v) (nI (n + 1)) ((rcI K n (upd S n (setA K seed)) (upd V n v) kw ko kb qu cl).1) ((rcI K n (upd S n (setA K seed)) (upd V n v) kw ko kb qu cl).2.1) ((rcI K n (upd S n (setA K seed)) (upd V n v) kw ko kb qu cl).2.2.1) ((rcI K n (upd S n (setA K seed)) (upd V n v) kw ko kb qu cl).2.2.2.1) (nI (rcI K n (upd S n (setA K seed)) (upd V n v) kw ko kb qu cl).2.2.2.2.1) ((rcI K n (upd S n (setA K seed)) (upd V n v) kw ko kb qu cl).2.2.2.2.2)) H := by rw [hz]; exact hP
      have hD : va_D A (xW ad cI K row (upd S n (setA K seed)) (upd V n v) (nI (n + 1)) ((rcI K n (upd S n (setA K seed)) (upd V n v) kw ko kb qu cl).1) ((rcI K n (upd S n (setA K seed)) (upd V n v) kw ko kb qu cl).2.1) ((rcI K n (upd S n (setA K seed)) (upd V n v) kw ko kb qu cl).2.2.1) ((rcI K n (upd S n (setA K seed)) (upd V n v) kw ko kb qu cl).2.2.2.1) (nI (rcI K n (upd S n (setA K seed)) (upd V n v) kw ko kb qu cl).2.2.2.2.1) ((rcI K n (upd S n (setA K seed)) (upd V n v) kw ko kb qu cl).2.2.2.2.2)) := by rw [hz]; exact hD
      refine lv_aload_n hx hb dX0_receive_81 rfl (lv_at hl 2 rfl) ?_
      have hFc := va_free (wc := (xW ad cI K row (upd S n (setA K seed)) (upd V n v) (nI (n + 1)) ((rcI K n (upd S n (setA K seed)) (upd V n v) kw ko kb qu cl).1) ((rcI K n (upd S n (setA K seed)) (upd V n v) kw ko kb qu cl).2.1) ((rcI K n (upd S n (setA K seed)) (upd V n v) kw ko kb qu cl).2.2.1) ((rcI K n (upd S n (setA K seed)) (upd V n v) kw ko kb qu cl).2.2.2.1) (nI (rcI K n (upd S n (setA K seed)) (upd V n v) kw ko kb qu cl).2.2.2.2.1) ((rcI K n (upd S n (setA K seed)) (upd V n v) kw ko kb qu cl).2.2.2.2.2))) hD hS hA [0, 1, 2, 3, 4, 5, 6] rfl
      refine va_callv (va_runV (As := []) (rest := []) ⟨hx, hb, hml, hown, hts⟩ (c_X0_runQueue l dC dI H.size ad cI K row (upd S n (setA K seed)) (upd V n v) hK1 hK2 (n + 1) hn (rcI K n (upd S n (setA K seed)) (upd V n v) kw ko kb qu cl) hSn hI) (cwV 0 hts gX0_receive_X0_runQueue rfl rfl rfl (by decide +kernel) ⟨Nat.le_of_ble_eq_true rfl, Nat.le_of_ble_eq_true rfl⟩) ⟨wFb, va_recv hK hP (ci := 0) (q0 := 0) rfl rfl, fun U hU hW => ⟨rfl, by rw [hU], by rw [hU]; exact hP, va_K.moved hW.alike hK, hD.weaken (fun _ _ _ _ => trivial)⟩⟩ rfl rfl hl.1 rfl (lv_room (Nat.le_of_ble_eq_true rfl)) dX0_receive_82 ⟨Nat.le_of_ble_eq_true rfl, Nat.le_of_ble_eq_true rfl⟩) hS (fun q _ h => hFc q h) hFc (fun u t H1 locs ht hvm hw hB hz1 hk1 hS => ?_)
      obtain ⟨hP1, hK1, hD1⟩ := hB
      rw [ht] at hP1
      obtain ⟨hP, hD⟩ := va_join (wr := []) (w1 := (xW ad cI K row (upd S n (setA K seed)) (upd V n v) (nI (n + 1)) ((rnF K (n + 1) (upd S n (setA K seed)) (upd V n v) 60 0 (rcI K n (upd S n (setA K seed)) (upd V n v) kw ko kb qu cl)).1) ((rnF K (n + 1) (upd S n (setA K seed)) (upd V n v) 60 0 (rcI K n (upd S n (setA K seed)) (upd V n v) kw ko kb qu cl)).2.1) ((rnF K (n + 1) (upd S n (setA K seed)) (upd V n v) 60 0 (rcI K n (upd S n (setA K seed)) (upd V n v) kw ko kb qu cl)).2.2.1) ((rnF K (n + 1) (upd S n (setA K seed)) (upd V n v) 60 0 (rcI K n (upd S n (setA K seed)) (upd V n v) kw ko kb qu cl)).2.2.2.1) (nI (rnF K (n + 1) (upd S n (setA K seed)) (upd V n v) 60 0 (rcI K n (upd S n (setA K seed)) (upd V n v) kw ko kb qu cl)).2.2.2.2.1) ((rnF K (n + 1) (upd S n (setA K seed)) (upd V n v) 60 0 (rcI K n (upd S n (setA K seed)) (upd V n v) kw ko kb qu cl)).2.2.2.2.2))) hP hD [0, 1, 2, 3, 4, 5, 6] [] rfl rfl (by decide) (by decide) hk1 hFc hP1 hD1
      clear hP1 hD1 hK1 hFc hk1 hz1
      generalize H1 = H at hP hS ⊢
      have hP : va_P (dC, dI) vwCl (xW ad cI K row (upd S n (setA K seed)) (upd V n v) (nI (n + 1)) ((rnF K (n + 1) (upd S n (setA K seed)) (upd V n v) 60 0 (rcI K n (upd S n (setA K seed)) (upd V n v) kw ko kb qu cl)).1) ((rnF K (n + 1) (upd S n (setA K seed)) (upd V n v) 60 0 (rcI K n (upd S n (setA K seed)) (upd V n v) kw ko kb qu cl)).2.1) ((rnF K (n + 1) (upd S n (setA K seed)) (upd V n v) 60 0 (rcI K n (upd S n (setA K seed)) (upd V n v) kw ko kb qu cl)).2.2.1) ((rnF K (n + 1) (upd S n (setA K seed)) (upd V n v) 60 0 (rcI K n (upd S n (setA K seed)) (upd V n v) kw ko kb qu cl)).2.2.2.1) (nI (rnF K (n + 1) (upd S n (setA K seed)) (upd V n v) 60 0 (rcI K n (upd S n (setA K seed)) (upd V n v) kw ko kb qu cl)).2.2.2.2.1) ((rnF K (n + 1) (upd S n (setA K seed)) (upd V n v) 60 0 (rcI K n (upd S n (setA K seed)) (upd V n v) kw ko kb qu cl)).2.2.2.2.2)) H := hP
      have hD : va_D A (xW ad cI K row (upd S n (setA K seed)) (upd V n v) (nI (n + 1)) ((rnF K (n + 1) (upd S n (setA K seed)) (upd V n v) 60 0 (rcI K n (upd S n (setA K seed)) (upd V n v) kw ko kb qu cl)).1) ((rnF K (n + 1) (upd S n (setA K seed)) (upd V n v) 60 0 (rcI K n (upd S n (setA K seed)) (upd V n v) kw ko kb qu cl)).2.1) ((rnF K (n + 1) (upd S n (setA K seed)) (upd V n v) 60 0 (rcI K n (upd S n (setA K seed)) (upd V n v) kw ko kb qu cl)).2.2.1) ((rnF K (n + 1) (upd S n (setA K seed)) (upd V n v) 60 0 (rcI K n (upd S n (setA K seed)) (upd V n v) kw ko kb qu cl)).2.2.2.1) (nI (rnF K (n + 1) (upd S n (setA K seed)) (upd V n v) 60 0 (rcI K n (upd S n (setA K seed)) (upd V n v) kw ko kb qu cl)).2.2.2.2.1) ((rnF K (n + 1) (upd S n (setA K seed)) (upd V n v) 60 0 (rcI K n (upd S n (setA K seed)) (upd V n v) kw ko kb qu cl)).2.2.2.2.2)) := hD
      refine lv_aload_n hx hb dX0_receive_85 rfl (lv_at hl 2 rfl) ?_
      refine vp_callSi (W.runV (As := []) (rest := []) ⟨hx, hb, hml, hown, hts⟩ (c_X0_knownCount l dC dI ad cI K row (upd S n (setA K seed)) (upd V n v) (nI (n + 1)) ((rnF K (n + 1) (upd S n (setA K seed)) (upd V n v) 60 0 (rcI K n (upd S n (setA K seed)) (upd V n v) kw ko kb qu cl)).1) ((rnF K (n + 1) (upd S n (setA K seed)) (upd V n v) 60 0 (rcI K n (upd S n (setA K seed)) (upd V n v) kw ko kb qu cl)).2.1) ((rnF K (n + 1) (upd S n (setA K seed)) (upd V n v) 60 0 (rcI K n (upd S n (setA K seed)) (upd V n v) kw ko kb qu cl)).2.2.1) ((rnF K (n + 1) (upd S n (setA K seed)) (upd V n v) 60 0 (rcI K n (upd S n (setA K seed)) (upd V n v) kw ko kb qu cl)).2.2.2.1) (nI (rnF K (n + 1) (upd S n (setA K seed)) (upd V n v) 60 0 (rcI K n (upd S n (setA K seed)) (upd V n v) kw ko kb qu cl)).2.2.2.2.1) ((rnF K (n + 1) (upd S n (setA K seed)) (upd V n v) 60 0 (rcI K n (upd S n (setA K seed)) (upd V n v) kw ko kb qu cl)).2.2.2.2.2)) (cwV 0 hts gX0_receive_X0_knownCount rfl rfl rfl (by decide +kernel) ⟨Nat.le_of_ble_eq_true rfl, Nat.le_of_ble_eq_true rfl⟩) ⟨rFb, va_recv hK hP (ci := 0) (q0 := 0) rfl rfl, fun U hU hW => ⟨rfl, by rw [hU]; exact hP, va_K.moved hW.alike hK⟩⟩ rfl rfl hl.1 rfl (lv_room (Nat.le_of_ble_eq_true rfl)) dX0_receive_86 ⟨Nat.zero_le _, Nat.zero_le _⟩) (fun r_7 er_7 => ?_)
      subst er_7
      exact W.iret (v := nI (pc ((rnF K (n + 1) (upd S n (setA K seed)) (upd V n v) 60 0 (rcI K n (upd S n (setA K seed)) (upd V n v) kw ko kb qu cl)).2.2.1))) hx hb hr (fun t ht hW => ⟨⟨nI (pc ((rnF K (n + 1) (upd S n (setA K seed)) (upd V n v) 60 0 (rcI K n (upd S n (setA K seed)) (upd V n v) kw ko kb qu cl)).2.2.1)), (), rfl, rfl, by rw [ht]; exact hP, va_K.moved hW.alike hK, hD⟩, hS.F ht⟩) hS.2.2 dX0_receive_89
  · skip
    exact absurd (nI_lt (a := n) (b := 60) hn (by omega)) c1
