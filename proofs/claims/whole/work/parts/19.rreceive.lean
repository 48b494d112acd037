theorem rc_sd {K n : Nat} {S sd : Nat → Int32} {seed : Int32} (h : ∀ k, k < n → S k = setA K (sd k)) : ∀ k, k < n + 1 → upd S n (setA K seed) k = setA K (upd sd n seed k) := by
  intro k hk
  by_cases q : k = n
  · subst q; rw [pk_us, pk_us]
  · rw [pk_un q, pk_un q]; exact h k (by omega)
theorem rc_vl {n : Nat} {V vl : Nat → Int32} {v : Int32} (h : ∀ k, k < n → V k = vl k) : ∀ k, k < n + 1 → upd V n v k = upd vl n v k := by
  intro k hk
  by_cases q : k = n
  · subst q; rw [pk_us, pk_us]
  · rw [pk_un q, pk_un q]; exact h k (by omega)
theorem rn_stop {K n f h : Nat} {S V : Nat → Int32} {y : QS} (hh : ¬ h < y.2.2.2.2.1) : rnF K n S V f h y = y := by
  cases f with
  | zero => rfl
  | succ f => rw [rnF, if_neg hh]
theorem nI_m1 {j : Nat} (hj : j < 60) : ¬ nI j = -1 := by
  intro h
  have h1 := nI_pos (n := j) (by omega)
  rw [h] at h1
  exact h1 (by decide)
theorem nI_le0 {a : Nat} (ha : a ≤ 32) (h : nI a ≤ 0) : a = 0 := by
  have := (nI_leI (a := a) (b := 0) (by omega) (by omega)).mp h
  omega
theorem q_op {K n h j : Nat} {S : Nat → Int32} {y : QS} (hn : n ≤ 60) (hI : qInv K n S h y) (hh : h < y.2.2.2.2.1) (hj : j < n) (ej : y.2.2.2.1 h = nI j) : opn (S j) y.2.2.1 ≤ 1 := by
  obtain ⟨k, b1, b2, b3⟩ := hI.2.2.1 h hh
  have : k = j := nI_nj (by omega) (by omega) (b2.symm.trans ej)
  subst this
  exact b3
set_option maxHeartbeats 4000000 in
set_option maxRecDepth 100000 in
theorem c_X1_receive_full (l : Launch) (dC : Nat → ClassId) (dI : Nat → Nat → Nat) (sz : Nat) (ad : Nat → Nat) (cI cZ : ClassId) (K : Nat) (row : Nat → Int32) (sd : Nat → Int32) (vl : Nat → Int32) (wt : Nat → Int32) (tn : Int32) (kn : Nat → Int32) (tl : Nat → Int32) (od : Nat → Int32) (fd : Int32) (cl : Int32) (inn : Nat → Int32) (stt : Int32) (seed v : Int32) : Met l yX1_receive wsX1_receive ({ frames := 4, cells := 0, slots := 0, locals := 96 }) (va_Pc [.ref (ad 0), .int seed, .int v] (wB dC dI [(cI, .int), (cZ, .boolean)] sz (rW ad cI cZ K row (nI 60) sd vl wt tn kn tl od fd cl inn stt))) (va_Qi (fun r (_ : Unit) => r = -2) (fun _ => oB dC dI [(cI, .int), (cZ, .boolean)] (va_A (rW ad cI cZ K row (nI 60) sd vl wt tn kn tl od fd cl inn stt) sz) (rW ad cI cZ K row (nI 60) sd vl wt tn kn tl od fd cl inn stt)) (va_A (rW ad cI cZ K row (nI 60) sd vl wt tn kn tl od fd cl inn stt) sz)) 0 0 (va_A (rW ad cI cZ K row (nI 60) sd vl wt tn kn tl od fd cl inn stt) sz) := by
  refine Met.ofW (cc := cX1_receive) (maxL := 6) (ret := (some .int)) (by decide) rfl ?_
  intro p e s m args below meth c s₁ B hml hv
  obtain ⟨rfl, hsz, hP, hK, hD0⟩ := hv
  have hx := B.exec
  have hb := B.bytes
  have hr := B.returns
  have hts := atoms_spec (ws := wsX1_receive) B.pre
  have hown : s.vm.findClass RX1 = some m.cls := findClass_of_methodNamed B.named
  have hlocks := B.notSynchronized
  have hw0 : ∀ w ∈ wsX10, w ∈ wsX1_receive := fun _ h => List.mem_cons_of_mem _ (List.mem_append_right _ h)
  subst hsz
  have hD := hD0.self (sz := s.heap.size)
  generalize hAe : va_A (rW ad cI cZ K row (nI 60) sd vl wt tn kn tl od fd cl inn stt) s.heap.size = A at hD ⊢
  have hA : ∀ q : Nat, s.heap.size ≤ q → A q := fun q h => by rw [← hAe]; exact Or.inr h
  have hS : va_S A s.heap s.heap [] := va_S.rf
  have hP : va_P (dC, dI) vwCl (rW ad cI cZ K row (nI 60) sd vl wt tn kn tl od fd cl inn stt) s.heap := hP
  have hl := lv_entry ([.ref (ad 0), .int seed, .int v]) (n := 6) (Nat.le_of_ble_eq_true rfl)
  rw [lg_entry_eq]
  generalize (lg_sl ([.ref (ad 0), .int seed, .int v]) ++ List.replicate (6 - (lg_sl ([.ref (ad 0), .int seed, .int v])).length) Slot.unset).toArray = ls at hl ⊢
  have hl : lv_has ls 6 [(0, .ref (ad 0)), (1, .int seed), (2, .int v)] := hl
  refine lv_aload_n hx hb dX1_receive_0 rfl (lv_at hl 0 rfl) ?_
  refine va_get (D := (dC, dI)) (ci := 1) (v := .int (nI 60)) (C := RX1) (T := TX1) (N := 14) hx hb hts hw0 hown hK hP 0 rfl rfl 2 (by decide) (hts (.fieldLink RX1 56 "DropCodeModel" "came" "I") (by decide +kernel)) (fun _ h9 => h9) rfl dX1_receive_1 ?_
  refine lv_bipush (v := 60) hx hb dX1_receive_4 (by decide) ?_
  refine lv_icmp_ne (tgt := 12) hx hb dX1_receive_6 (by decide) (fun c1 => ?_) (fun c1 => ?_)
  · skip
    exact absurd rfl c1
  · skip
    refine lv_bipush (v := (-2)) hx hb dX1_receive_9 (by decide) ?_
    exact W.iret (v := (-2)) hx hb hr (fun t ht hW => ⟨⟨(-2), (), rfl, rfl, by rw [ht]; exact hP, va_K.moved hW.alike hK, hD⟩, hS.F ht⟩) hS.2.2 dX1_receive_11
set_option maxHeartbeats 4000000 in
set_option maxRecDepth 100000 in
theorem c_X1_receive (l : Launch) (dC : Nat → ClassId) (dI : Nat → Nat → Nat) (sz : Nat) (ad : Nat → Nat) (cI cZ : ClassId) (K : Nat) (row : Nat → Int32) (sd : Nat → Int32) (vl : Nat → Int32) (wt : Nat → Int32) (kn : Nat → Int32) (tl : Nat → Int32) (od : Nat → Int32) (inn : Nat → Int32) (stt : Int32) (hK1 : 1 ≤ K) (hK2 : K ≤ 32) (n : Nat) (hn : n < 60) (seed v : Int32) (T0 : Nat) (hT0 : T0 ≤ 39000) (S V kw ko : Nat → Int32) (kb : Int32) (qu : Nat → Int32) (cl0 : Int32) (hSd0 : ∀ k, k < n → S k = setA K (sd k)) (hVl0 : ∀ k, k < n → V k = vl k) (hS0 : ∀ j, j < n → ∀ i, bt (S j) i = true → i < K) (hkb : ∀ i, bt kb i = true → i < K) (hno : ∀ j, j < n → ¬ opn (S j) kb = 1) (hR0 : rR K n T0 kw ko kb cl0 wt (nI T0) kn tl od (nI (pc kb)) cl0) : Met l yX1_receive wsX1_receive ({ frames := 4, cells := 0, slots := 0, locals := 96 }) (va_Pc [.ref (ad 0), .int seed, .int v] (wB dC dI [(cI, .int), (cZ, .boolean)] sz (rW ad cI cZ K row (nI n) sd vl wt (nI T0) kn tl od (nI (pc kb)) cl0 inn stt))) (va_Qi (fun r (u : (Nat → Int32) × Int32 × (Nat → Int32) × (Nat → Int32) × (Nat → Int32) × Int32 × Int32 × (Nat → Int32) × Int32) => r = nI (pc (rnF K (n + 1) (upd S n (setA K seed)) (upd V n v) 60 0 (rcI K n (upd S n (setA K seed)) (upd V n v) kw ko kb qu cl0)).2.2.1) ∧ rR K (n + 1) (T0 + (rnF K (n + 1) (upd S n (setA K seed)) (upd V n v) 60 0 (rcI K n (upd S n (setA K seed)) (upd V n v) kw ko kb qu cl0)).2.2.2.2.1) (rnF K (n + 1) (upd S n (setA K seed)) (upd V n v) 60 0 (rcI K n (upd S n (setA K seed)) (upd V n v) kw ko kb qu cl0)).1 (rnF K (n + 1) (upd S n (setA K seed)) (upd V n v) 60 0 (rcI K n (upd S n (setA K seed)) (upd V n v) kw ko kb qu cl0)).2.1 (rnF K (n + 1) (upd S n (setA K seed)) (upd V n v) 60 0 (rcI K n (upd S n (setA K seed)) (upd V n v) kw ko kb qu cl0)).2.2.1 (rnF K (n + 1) (upd S n (setA K seed)) (upd V n v) 60 0 (rcI K n (upd S n (setA K seed)) (upd V n v) kw ko kb qu cl0)).2.2.2.2.2 u.1 u.2.1 u.2.2.1 u.2.2.2.1 u.2.2.2.2.1 u.2.2.2.2.2.1 u.2.2.2.2.2.2.1) (fun u => oB dC dI [(cI, .int), (cZ, .boolean)] (va_A (rW ad cI cZ K row (nI n) sd vl wt (nI T0) kn tl od (nI (pc kb)) cl0 inn stt) sz) (rW ad cI cZ K row (nI (n + 1)) (upd sd n seed) (upd vl n v) u.1 u.2.1 u.2.2.1 u.2.2.2.1 u.2.2.2.2.1 u.2.2.2.2.2.1 u.2.2.2.2.2.2.1 u.2.2.2.2.2.2.2.1 u.2.2.2.2.2.2.2.2)) (va_A (rW ad cI cZ K row (nI n) sd vl wt (nI T0) kn tl od (nI (pc kb)) cl0 inn stt) sz)) 0 0 (va_A (rW ad cI cZ K row (nI n) sd vl wt (nI T0) kn tl od (nI (pc kb)) cl0 inn stt) sz) := by
  refine Met.ofW (cc := cX1_receive) (maxL := 6) (ret := (some .int)) (by decide) rfl ?_
  intro p e s m args below meth c s₁ B hml hv
  obtain ⟨rfl, hsz, hP, hK, hD0⟩ := hv
  have hx := B.exec
  have hb := B.bytes
  have hr := B.returns
  have hts := atoms_spec (ws := wsX1_receive) B.pre
  have hown : s.vm.findClass RX1 = some m.cls := findClass_of_methodNamed B.named
  have hlocks := B.notSynchronized
  have hw0 : ∀ w ∈ wsX10, w ∈ wsX1_receive := fun _ h => List.mem_cons_of_mem _ (List.mem_append_right _ h)
  subst hsz
  have hD := hD0.self (sz := s.heap.size)
  generalize hAe : va_A (rW ad cI cZ K row (nI n) sd vl wt (nI T0) kn tl od (nI (pc kb)) cl0 inn stt) s.heap.size = A at hD ⊢
  have hA : ∀ q : Nat, s.heap.size ≤ q → A q := fun q h => by rw [← hAe]; exact Or.inr h
  have hS : va_S A s.heap s.heap [] := va_S.rf
  have hP : va_P (dC, dI) vwCl (rW ad cI cZ K row (nI n) sd vl wt (nI T0) kn tl od (nI (pc kb)) cl0 inn stt) s.heap := hP
  have hl := lv_entry ([.ref (ad 0), .int seed, .int v]) (n := 6) (Nat.le_of_ble_eq_true rfl)
  rw [lg_entry_eq]
  generalize (lg_sl ([.ref (ad 0), .int seed, .int v]) ++ List.replicate (6 - (lg_sl ([.ref (ad 0), .int seed, .int v])).length) Slot.unset).toArray = ls at hl ⊢
  have hl : lv_has ls 6 [(0, .ref (ad 0)), (1, .int seed), (2, .int v)] := hl
  have hSb : ∀ j, j < n + 1 → ∀ i, bt ((upd S n (setA K seed)) j) i = true → i < K := rc_S hK1 hK2 hS0
  have hI0 : qInv K (n + 1) (upd S n (setA K seed)) 0 (rcI K n (upd S n (setA K seed)) (upd V n v) kw ko kb qu cl0) := rc_inv hkb hno
  have hSd : ∀ k, k < n + 1 → (upd S n (setA K seed)) k = setA K (upd sd n seed k) := rc_sd hSd0
  have hVl : ∀ k, k < n + 1 → (upd V n v) k = upd vl n v k := rc_vl hVl0
  obtain ⟨Y, hY⟩ : ∃ Y, Y = rnF K (n + 1) (upd S n (setA K seed)) (upd V n v) 60 0 (rcI K n (upd S n (setA K seed)) (upd V n v) kw ko kb qu cl0) := ⟨_, rfl⟩
  rw [← hY]
  generalize (upd S n (setA K seed)) = S1 at hSb hI0 hSd hY
  generalize (upd V n v) = V1 at hI0 hVl hY
  have hn1 : n + 1 ≤ 60 := hn
  refine lv_aload_n hx hb dX1_receive_0 rfl (lv_at hl 0 rfl) ?_
  refine va_get (D := (dC, dI)) (ci := 1) (v := .int (nI n)) (C := RX1) (T := TX1) (N := 14) hx hb hts hw0 hown hK hP 0 rfl rfl 2 (by decide) (hts (.fieldLink RX1 56 "DropCodeModel" "came" "I") (by decide +kernel)) (fun _ h9 => h9) rfl dX1_receive_1 ?_
  refine lv_bipush (v := 60) hx hb dX1_receive_4 (by decide) ?_
  have kM : ∀ (f9 h : Nat) (y : QS) (wt1 : Nat → Int32) (tn1 : Int32) (kn1 tl1 od1 : Nat → Int32) (fd1 cl1 : Int32) (in1 : Nat → Int32) (st1 x : Int32) (H : Heap) (locs : List Loc) (ls : Array Slot), h + f9 = 60 → qInv K (n + 1) S1 h y → qR K (n + 1) T0 h y wt1 tn1 kn1 tl1 od1 fd1 cl1 → rnF K (n + 1) S1 V1 f9 h y = Y → fsP (n + 1) wt1 x → va_P (dC, dI) vwCl (rW ad cI cZ K row (nI (n + 1)) (upd sd n seed) (upd vl n v) wt1 tn1 kn1 tl1 od1 fd1 cl1 in1 st1) H → va_D A (rW ad cI cZ K row (nI (n + 1)) (upd sd n seed) (upd vl n v) wt1 tn1 kn1 tl1 od1 fd1 cl1 in1 st1) → va_S A s.heap H locs → lv_has ls 6 [(5, .int x), (0, .ref (ad 0))] → W p l e (headSpec wsX1_receive ({ frames := 4, cells := 0, slots := 0, locals := 96 })).room s m ([.ref (ad 0), .int seed, .int v] : List Value).toArray below meth c H locs 0 0 (MQ below (va_Qi (fun r (u : (Nat → Int32) × Int32 × (Nat → Int32) × (Nat → Int32) × (Nat → Int32) × Int32 × Int32 × (Nat → Int32) × Int32) => r = nI (pc Y.2.2.1) ∧ rR K (n + 1) (T0 + Y.2.2.2.2.1) Y.1 Y.2.1 Y.2.2.1 Y.2.2.2.2.2 u.1 u.2.1 u.2.2.1 u.2.2.2.1 u.2.2.2.2.1 u.2.2.2.2.2.1 u.2.2.2.2.2.2.1) (fun u => oB dC dI [(cI, .int), (cZ, .boolean)] A (rW ad cI cZ K row (nI (n + 1)) (upd sd n seed) (upd vl n v) u.1 u.2.1 u.2.2.1 u.2.2.2.1 u.2.2.2.2.1 u.2.2.2.2.2.1 u.2.2.2.2.2.2.1 u.2.2.2.2.2.2.2.1 u.2.2.2.2.2.2.2.2)) A) ([.ref (ad 0), .int seed, .int v] : List Value).toArray s 0 0 A) (F0 m 98 ls []) := by
    intro f9
    induction f9 with
    | zero =>
      intro h y wt1 tn1 kn1 tl1 od1 fd1 cl1 in1 st1 x H locs ls hf hI hR hv hx9 hP hD hS hl
      have hql := qInv_le hI
      rcases qR_first hn1 (by omega) hI hR hx9 with ⟨rfl, hh⟩ | ⟨hlt, j, hj, rfl, ej⟩
      · skip
        have hyY : y = Y := by rw [← hv]; exact (rn_stop (by omega)).symm
        have hfd := hR.2.2.2.1
        refine lv_iload hx hb dX1_receive_98 (lv_at hl 0 rfl) ?_
        refine lv_iconst (v := (-1)) hx hb dX1_receive_100 (by decide) ?_
        refine lv_icmp_eq (tgt := 158) hx hb dX1_receive_101 (by decide) (fun c1 => ?_) (fun c1 => ?_)
        · skip
          rw [← hyY]
          refine lv_aload_n hx hb dX1_receive_158 rfl (lv_at hl 1 rfl) ?_
          refine va_get (D := (dC, dI)) (ci := 1) (v := .int fd1) (C := RX1) (T := TX1) (N := 14) hx hb hts hw0 hown hK hP 0 rfl rfl 10 (by decide) (hts (.fieldLink RX1 62 "DropCodeModel" "found" "I") (by decide +kernel)) (fun _ h9 => h9) rfl dX1_receive_159 ?_
          exact W.iret (v := fd1) hx hb hr (fun t ht hW => ⟨⟨fd1, (wt1, tn1, kn1, tl1, od1, fd1, cl1, in1, st1), rfl, ⟨hfd, qR_rest hh hR⟩, by rw [ht]; exact hP, va_K.moved hW.alike hK, hD⟩, hS.F ht⟩) hS.2.2 dX1_receive_162
        · skip
          exact absurd rfl c1
      · skip
        exact absurd hlt (by omega)
    | succ f9 ih =>
      intro h y wt1 tn1 kn1 tl1 od1 fd1 cl1 in1 st1 x H locs ls hf hI hR hv hx9 hP hD hS hl
      have hql := qInv_le hI
      rcases qR_first hn1 (by omega) hI hR hx9 with ⟨rfl, hh⟩ | ⟨hlt, j, hj, rfl, ej⟩
      · skip
        have hyY : y = Y := by rw [← hv]; exact (rn_stop (by omega)).symm
        have hfd := hR.2.2.2.1
        refine lv_iload hx hb dX1_receive_98 (lv_at hl 0 rfl) ?_
        refine lv_iconst (v := (-1)) hx hb dX1_receive_100 (by decide) ?_
        refine lv_icmp_eq (tgt := 158) hx hb dX1_receive_101 (by decide) (fun c1 => ?_) (fun c1 => ?_)
        · skip
          rw [← hyY]
          refine lv_aload_n hx hb dX1_receive_158 rfl (lv_at hl 1 rfl) ?_
          refine va_get (D := (dC, dI)) (ci := 1) (v := .int fd1) (C := RX1) (T := TX1) (N := 14) hx hb hts hw0 hown hK hP 0 rfl rfl 10 (by decide) (hts (.fieldLink RX1 62 "DropCodeModel" "found" "I") (by decide +kernel)) (fun _ h9 => h9) rfl dX1_receive_159 ?_
          exact W.iret (v := fd1) hx hb hr (fun t ht hW => ⟨⟨fd1, (wt1, tn1, kn1, tl1, od1, fd1, cl1, in1, st1), rfl, ⟨hfd, qR_rest hh hR⟩, by rw [ht]; exact hP, va_K.moved hW.alike hK, hD⟩, hS.F ht⟩) hS.2.2 dX1_receive_162
        · skip
          exact absurd rfl c1
      · skip
        refine lv_iload hx hb dX1_receive_98 (lv_at hl 0 rfl) ?_
        refine lv_iconst (v := (-1)) hx hb dX1_receive_100 (by decide) ?_
        refine lv_icmp_eq (tgt := 158) hx hb dX1_receive_101 (by decide) (fun c1 => ?_) (fun c1 => ?_)
        · skip
          exact absurd c1 (nI_m1 (by omega))
        · skip
          have r4 := hR.2.2.2.1
          have r5 := hR.2.2.2.2.1
          have r6 := hR.2.2.2.2.2.1
          have r1 := hR.1
          have r2 := hR.2.1
          subst r4
          subst r5
          subst r6
          have hy2 := qInv_tk (V := V1) hK2 hn1 hSb hI hlt hj ej
          have hop1 : opn (S1 j) y.2.2.1 ≤ 1 := q_op hn1 hI hlt hj ej
          have hv2 : rnF K (n + 1) S1 V1 f9 (h + 1) (tkF K (n + 1) S1 V1 j y) = Y := by rw [← hv, rnF, if_pos hlt, ej, nI_clamp (by omega)]
          have hj60 : j < 60 := by omega
          refine lv_aload_n hx hb dX1_receive_104 rfl (lv_at hl 1 rfl) ?_
          refine va_get (D := (dC, dI)) (ci := 1) (v := .ref (ad 4)) (C := RX1) (T := TX1) (N := 14) hx hb hts hw0 hown hK hP 0 rfl rfl 5 (by decide) (hts (.fieldLink RX1 19 "DropCodeModel" "waits" "[I") (by decide +kernel)) (fun _ h9 => h9) rfl dX1_receive_105 ?_
          refine lv_iload hx hb dX1_receive_108 (lv_at hl 0 rfl) ?_
          refine lv_iconst (v := 0) hx hb dX1_receive_110 (by decide) ?_
          refine va_iast (i := nI j) hx hb hK hP hD hS 4 0 rfl rfl (vp_in_nI hj60 (by omega)) dX1_receive_111 (fun H locs hP hD hS => ?_)
          rw [nI_clamp (by omega)] at hP hD
          have hP : va_P (dC, dI) vwCl (rW ad cI cZ K row (nI (n + 1)) (upd sd n seed) (upd vl n v) (upd wt1 j 0) (nI (T0 + y.2.2.2.2.1)) kn1 tl1 od1 (nI (pc y.2.2.1)) y.2.2.2.2.2 in1 st1) H := hP
          have hD : va_D A (rW ad cI cZ K row (nI (n + 1)) (upd sd n seed) (upd vl n v) (upd wt1 j 0) (nI (T0 + y.2.2.2.2.1)) kn1 tl1 od1 (nI (pc y.2.2.1)) y.2.2.2.2.2 in1 st1) := hD
          refine lv_aload_n hx hb dX1_receive_112 rfl (lv_at hl 1 rfl) ?_
          refine lv_iload hx hb dX1_receive_113 (lv_at hl 0 rfl) ?_
          have hFc := va_free (wc := (rW ad cI cZ K row (nI (n + 1)) (upd sd n seed) (upd vl n v) (upd wt1 j 0) (nI (T0 + y.2.2.2.2.1)) kn1 tl1 od1 (nI (pc y.2.2.1)) y.2.2.2.2.2 in1 st1)) hD hS hA [0, 1, 2, 3, 4, 5, 6, 7, 8] rfl
          refine va_calli (va_runV (As := [.int (nI j)]) (rest := []) ⟨hx, hb, hml, hown, hts⟩ (c_X1_isOpen l dC dI H.size ad cI cZ K row (nI (n + 1)) (upd sd n seed) (upd vl n v) (upd wt1 j 0) (nI (T0 + y.2.2.2.2.1)) kn1 tl1 od1 (nI (pc y.2.2.1)) y.2.2.2.2.2 in1 st1 hK1 hK2 y.2.2.1 r1 j hj60) (cwV 1 hts gX1_receive_X1_isOpen rfl rfl rfl (by decide +kernel) ⟨Nat.le_of_ble_eq_true rfl, Nat.le_of_ble_eq_true rfl⟩) ⟨wFb, va_recv hK hP (ci := 1) (q0 := 0) rfl rfl, fun U hU hW => ⟨rfl, by rw [hU], by rw [hU]; exact hP, va_K.moved hW.alike hK, hD.weaken (fun _ _ _ _ => trivial)⟩⟩ rfl rfl hl.1 rfl (lv_room (Nat.le_of_ble_eq_true rfl)) dX1_receive_115 ⟨Nat.le_of_ble_eq_true rfl, Nat.le_of_ble_eq_true rfl⟩) hS (fun q _ h => hFc q h) hFc (fun r_1 u_2 t H1 locs ht hvm hwu_2 hB hz1 hk1 hS => ?_)
          obtain ⟨hP1, hK1, hD1⟩ := hB
          rw [ht] at hP1
          obtain ⟨hP, hD⟩ := va_join (wr := []) (w1 := (rW ad cI cZ K row (nI (n + 1)) (upd sd n seed) (upd vl n v) (upd wt1 j 0) (nI (T0 + y.2.2.2.2.1)) kn1 tl1 od1 (nI (pc y.2.2.1)) y.2.2.2.2.2 u_2.1 u_2.2)) hP hD [0, 1, 2, 3, 4, 5, 6, 7, 8] [] rfl rfl (by decide) (by decide) hk1 hFc hP1 hD1
          clear hP1 hD1 hK1 hFc hk1 hz1
          generalize H1 = H at hP hS ⊢
          have hP : va_P (dC, dI) vwCl (rW ad cI cZ K row (nI (n + 1)) (upd sd n seed) (upd vl n v) (upd wt1 j 0) (nI (T0 + y.2.2.2.2.1)) kn1 tl1 od1 (nI (pc y.2.2.1)) y.2.2.2.2.2 u_2.1 u_2.2) H := hP
          have hD : va_D A (rW ad cI cZ K row (nI (n + 1)) (upd sd n seed) (upd vl n v) (upd wt1 j 0) (nI (T0 + y.2.2.2.2.1)) kn1 tl1 od1 (nI (pc y.2.2.1)) y.2.2.2.2.2 u_2.1 u_2.2) := hD
          obtain ⟨rfl, hinu_2⟩ := hwu_2
          refine lv_topi (fun z_3 ez_3 => ?_)
          have ez_3 : z_3 = nI (opn (S1 j) y.2.2.1) := ez_3.trans (by rw [hSd j hj])
          subst ez_3
          refine lv_if_le (tgt := 130) hx hb dX1_receive_118 (by decide) (fun c2 => ?_) (fun c2 => ?_)
          · skip
            have hu : unk (S1 j) y.2.2.1 = 0 := opn_0' (nI_le0 (pc_le _) c2)
            refine lv_aload_n hx hb dX1_receive_130 rfl (lv_at hl 1 rfl) ?_
            refine lv_iload hx hb dX1_receive_131 (lv_at hl 0 rfl) ?_
            have hFc := va_free (wc := (rW ad cI cZ K row (nI (n + 1)) (upd sd n seed) (upd vl n v) (upd wt1 j 0) (nI (T0 + y.2.2.2.2.1)) kn1 tl1 od1 (nI (pc y.2.2.1)) y.2.2.2.2.2 u_2.1 u_2.2)) hD hS hA [0, 1, 2, 3, 4, 5, 6, 7, 8] rfl
            refine va_calli (va_runV (As := [.int (nI j)]) (rest := []) ⟨hx, hb, hml, hown, hts⟩ (c_X1_off l dC dI H.size ad cI cZ K row (nI (n + 1)) (upd sd n seed) (upd vl n v) (upd wt1 j 0) (nI (T0 + y.2.2.2.2.1)) kn1 tl1 od1 (nI (pc y.2.2.1)) y.2.2.2.2.2 u_2.1 u_2.2 hK1 hK2 y.2.2.1 r1 j hj60) (cwV 1 hts gX1_receive_X1_off rfl rfl rfl (by decide +kernel) ⟨Nat.le_of_ble_eq_true rfl, Nat.le_of_ble_eq_true rfl⟩) ⟨wFb, va_recv hK hP (ci := 1) (q0 := 0) rfl rfl, fun U hU hW => ⟨rfl, by rw [hU], by rw [hU]; exact hP, va_K.moved hW.alike hK, hD.weaken (fun _ _ _ _ => trivial)⟩⟩ rfl rfl hl.1 rfl (lv_room (Nat.le_of_ble_eq_true rfl)) dX1_receive_133 ⟨Nat.le_of_ble_eq_true rfl, Nat.le_of_ble_eq_true rfl⟩) hS (fun q _ h => hFc q h) hFc (fun r_4 u_5 t H1 locs ht hvm hwu_5 hB hz1 hk1 hS => ?_)
            obtain ⟨hP1, hK1, hD1⟩ := hB
            rw [ht] at hP1
            obtain ⟨hP, hD⟩ := va_join (wr := []) (w1 := (rW ad cI cZ K row (nI (n + 1)) (upd sd n seed) (upd vl n v) (upd wt1 j 0) (nI (T0 + y.2.2.2.2.1)) kn1 tl1 od1 (nI (pc y.2.2.1)) y.2.2.2.2.2 u_5.1 u_5.2)) hP hD [0, 1, 2, 3, 4, 5, 6, 7, 8] [] rfl rfl (by decide) (by decide) hk1 hFc hP1 hD1
            clear hP1 hD1 hK1 hFc hk1 hz1
            generalize H1 = H at hP hS ⊢
            have hP : va_P (dC, dI) vwCl (rW ad cI cZ K row (nI (n + 1)) (upd sd n seed) (upd vl n v) (upd wt1 j 0) (nI (T0 + y.2.2.2.2.1)) kn1 tl1 od1 (nI (pc y.2.2.1)) y.2.2.2.2.2 u_5.1 u_5.2) H := hP
            have hD : va_D A (rW ad cI cZ K row (nI (n + 1)) (upd sd n seed) (upd vl n v) (upd wt1 j 0) (nI (T0 + y.2.2.2.2.1)) kn1 tl1 od1 (nI (pc y.2.2.1)) y.2.2.2.2.2 u_5.1 u_5.2) := hD
            obtain ⟨rfl, hinu_5⟩ := hwu_5
            refine lv_topi (fun z_6 ez_6 => ?_)
            have ez_6 : z_6 = V1 j ^^^ xk K tl1 (S1 j) y.2.2.1 := ez_6.trans (by rw [hSd j hj, hVl j hj])
            subst ez_6
            refine lv_if_eq (tgt := 149) hx hb dX1_receive_136 (by decide) (fun c3 => ?_) (fun c3 => ?_)
            · skip
              have hxk : xk K y.1 (S1 j) y.2.2.1 = V1 j := by rw [← xk_congr r2]; exact xor_eq0.mp c3
              refine lv_aload_n hx hb dX1_receive_149 rfl (lv_at hl 1 rfl) ?_
              refine vp_callSi (W.runV (As := []) (rest := []) ⟨hx, hb, hml, hown, hts⟩ (c_X1_first l dC dI ad cI cZ K row (upd sd n seed) (upd vl n v) (upd wt1 j 0) (nI (T0 + y.2.2.2.2.1)) kn1 tl1 od1 (nI (pc y.2.2.1)) y.2.2.2.2.2 u_5.1 u_5.2 (n + 1) hn1) (cwV 0 hts gX1_receive_X1_first rfl rfl rfl (by decide +kernel) ⟨Nat.le_of_ble_eq_true rfl, Nat.le_of_ble_eq_true rfl⟩) ⟨rFb, va_recv hK hP (ci := 1) (q0 := 0) rfl rfl, fun U hU hW => ⟨rfl, by rw [hU]; exact hP, va_K.moved hW.alike hK⟩⟩ rfl rfl hl.1 rfl (lv_room (Nat.le_of_ble_eq_true rfl)) dX1_receive_150 ⟨Nat.zero_le _, Nat.zero_le _⟩) (fun r_7 er_7 => ?_)
              refine lv_istore (lv' := [(5, .int r_7), (0, .ref (ad 0))]) hx hb dX1_receive_153 hl (by decide) rfl (fun ls hl => ?_)
              refine lv_goto (tgt := 98) hx hb dX1_receive_155 (by decide) ?_
              exact ih (h + 1) (tkF K (n + 1) S1 V1 j y) _ _ _ _ _ _ _ _ _ _ _ _ ls (by omega) hy2 (qR_out hn1 hI hR hlt hj ej hu (if_pos hxk).symm) hv2 er_7 hP hD hS (lv_sub hl [0, 1] rfl)
            · skip
              have hxk : ¬ xk K y.1 (S1 j) y.2.2.1 = V1 j := by rw [← xk_congr r2]; exact fun h => c3 (xor_eq0.mpr h)
              refine lv_aload_n hx hb dX1_receive_139 rfl (lv_at hl 1 rfl) ?_
              refine lv_dup hx hb dX1_receive_140 rfl ?_
              refine va_get (D := (dC, dI)) (ci := 1) (v := .int y.2.2.2.2.2) (C := RX1) (T := TX1) (N := 14) hx hb hts hw0 hown hK hP 0 rfl rfl 11 (by decide) (hts (.fieldLink RX1 72 "DropCodeModel" "clashes" "I") (by decide +kernel)) (fun _ h9 => h9) rfl dX1_receive_141 ?_
              refine lv_iconst (v := 1) hx hb dX1_receive_144 (by decide) ?_
              refine lv_iadd hx hb dX1_receive_145 ?_
              refine va_put (D := (dC, dI)) (ci := 1) (v := .int (y.2.2.2.2.2 + 1)) (ty := .int) (C := RX1) (T := TX1) (N := 14) hx hb hts hw0 tyX1 tyX1_ok nmX1 hown hK hP hD hS 0 rfl rfl 11 (by decide) (hts (.fieldLink RX1 72 "DropCodeModel" "clashes" "I") (by decide +kernel)) (fun _ h9 => h9) rfl (by decide +kernel) rfl rfl (Nat.le_of_ble_eq_true rfl) dX1_receive_146 (fun H locs hP hD hS => ?_)
              have hP : va_P (dC, dI) vwCl (rW ad cI cZ K row (nI (n + 1)) (upd sd n seed) (upd vl n v) (upd wt1 j 0) (nI (T0 + y.2.2.2.2.1)) kn1 tl1 od1 (nI (pc y.2.2.1)) (y.2.2.2.2.2 + 1) u_5.1 u_5.2) H := hP
              have hD : va_D A (rW ad cI cZ K row (nI (n + 1)) (upd sd n seed) (upd vl n v) (upd wt1 j 0) (nI (T0 + y.2.2.2.2.1)) kn1 tl1 od1 (nI (pc y.2.2.1)) (y.2.2.2.2.2 + 1) u_5.1 u_5.2) := hD
              refine lv_aload_n hx hb dX1_receive_149 rfl (lv_at hl 1 rfl) ?_
              refine vp_callSi (W.runV (As := []) (rest := []) ⟨hx, hb, hml, hown, hts⟩ (c_X1_first l dC dI ad cI cZ K row (upd sd n seed) (upd vl n v) (upd wt1 j 0) (nI (T0 + y.2.2.2.2.1)) kn1 tl1 od1 (nI (pc y.2.2.1)) (y.2.2.2.2.2 + 1) u_5.1 u_5.2 (n + 1) hn1) (cwV 0 hts gX1_receive_X1_first rfl rfl rfl (by decide +kernel) ⟨Nat.le_of_ble_eq_true rfl, Nat.le_of_ble_eq_true rfl⟩) ⟨rFb, va_recv hK hP (ci := 1) (q0 := 0) rfl rfl, fun U hU hW => ⟨rfl, by rw [hU]; exact hP, va_K.moved hW.alike hK⟩⟩ rfl rfl hl.1 rfl (lv_room (Nat.le_of_ble_eq_true rfl)) dX1_receive_150 ⟨Nat.zero_le _, Nat.zero_le _⟩) (fun r_7 er_7 => ?_)
              refine lv_istore (lv' := [(5, .int r_7), (0, .ref (ad 0))]) hx hb dX1_receive_153 hl (by decide) rfl (fun ls hl => ?_)
              refine lv_goto (tgt := 98) hx hb dX1_receive_155 (by decide) ?_
              exact ih (h + 1) (tkF K (n + 1) S1 V1 j y) _ _ _ _ _ _ _ _ _ _ _ _ ls (by omega) hy2 (qR_out hn1 hI hR hlt hj ej hu (if_neg hxk).symm) hv2 er_7 hP hD hS (lv_sub hl [0, 1] rfl)
          · skip
            have ho1 : opn (S1 j) y.2.2.1 = 1 := by rcases Nat.lt_or_ge (opn (S1 j) y.2.2.1) 1 with g | g; exact absurd (by rw [show opn (S1 j) y.2.2.1 = 0 by omega]; exact Int32.le_refl _) c2; omega
            obtain ⟨i, hi, e1, e2, e3⟩ := opn_1 ho1
            have hiK : i < K := hSb j hj i e2
            have hpc := pc_room hK2 hI.1 hiK e3
            have hnc : ∀ k, k < n + 1 → bt (S1 k) i = true → opn (S1 k) (y.2.2.1 ||| tw i) = 0 → upd wt1 j 0 k = 0 → upd vl n v k ^^^ xk K (upd tl1 i (upd vl n v j ^^^ xk K tl1 (S1 j) y.2.2.1)) (S1 k) (y.2.2.1 ||| tw i) = 0 := by
              intro k hk hb9 ho9 hw9
              rw [← hVl k hk, ← hVl j hj]
              exact qR_nc hn1 (by omega) hI hR hj hi hiK e2 e3 k hk hb9 ho9 hw9
            refine lv_aload_n hx hb dX1_receive_121 rfl (lv_at hl 1 rfl) ?_
            refine lv_iload hx hb dX1_receive_122 (lv_at hl 0 rfl) ?_
            have hFc := va_free (wc := (rW ad cI cZ K row (nI (n + 1)) (upd sd n seed) (upd vl n v) (upd wt1 j 0) (nI (T0 + y.2.2.2.2.1)) kn1 tl1 od1 (nI (pc y.2.2.1)) y.2.2.2.2.2 u_2.1 u_2.2)) hD hS hA [0, 1, 2, 3, 4, 5, 6, 7, 8] rfl
            refine va_callv (va_runV (As := [.int (nI j)]) (rest := []) ⟨hx, hb, hml, hown, hts⟩ (c_X1_learn l dC dI H.size ad cI cZ K row (upd sd n seed) (upd vl n v) (upd wt1 j 0) kn1 tl1 od1 y.2.2.2.2.2 u_2.1 u_2.2 hK1 hK2 (n + 1) hn1 (T0 + y.2.2.2.2.1) (pc y.2.2.1) (by omega) y.2.2.1 r1 S1 hSd j hj i hiK e1 e2 e3 hnc) (cwV 1 hts gX1_receive_X1_learn rfl rfl rfl (by decide +kernel) ⟨Nat.le_of_ble_eq_true rfl, Nat.le_of_ble_eq_true rfl⟩) ⟨wFb, va_recv hK hP (ci := 1) (q0 := 0) rfl rfl, fun U hU hW => ⟨rfl, by rw [hU], by rw [hU]; exact hP, va_K.moved hW.alike hK, hD.weaken (fun _ _ _ _ => trivial)⟩⟩ rfl rfl hl.1 rfl (lv_room (Nat.le_of_ble_eq_true rfl)) dX1_receive_124 ⟨Nat.le_of_ble_eq_true rfl, Nat.le_of_ble_eq_true rfl⟩) hS (fun q _ h => hFc q h) hFc (fun u_5 t H1 locs ht hvm hwu_5 hB hz1 hk1 hS => ?_)
            obtain ⟨hP1, hK1, hD1⟩ := hB
            rw [ht] at hP1
            obtain ⟨hP, hD⟩ := va_join (wr := []) (w1 := (rW ad cI cZ K row (nI (n + 1)) (upd sd n seed) (upd vl n v) (awA (upd wt1 j 0) (T0 + y.2.2.2.2.1) (eqP i S1 (y.2.2.1 ||| tw i)) (n + 1)) (nI (T0 + y.2.2.2.2.1 + cn (eqP i S1 (y.2.2.1 ||| tw i)) (n + 1))) (upd kn1 i (vp_nar .boolean 1)) (upd tl1 i (upd vl n v j ^^^ xk K tl1 (S1 j) y.2.2.1)) (upd od1 (pc y.2.2.1) (nI i)) (nI (pc y.2.2.1 + 1)) y.2.2.2.2.2 u_5.1 u_5.2)) hP hD [0, 1, 2, 3, 4, 5, 6, 7, 8] [] rfl rfl (by decide) (by decide) hk1 hFc hP1 hD1
            clear hP1 hD1 hK1 hFc hk1 hz1
            generalize H1 = H at hP hS ⊢
            have hP : va_P (dC, dI) vwCl (rW ad cI cZ K row (nI (n + 1)) (upd sd n seed) (upd vl n v) (awA (upd wt1 j 0) (T0 + y.2.2.2.2.1) (eqP i S1 (y.2.2.1 ||| tw i)) (n + 1)) (nI (T0 + y.2.2.2.2.1 + cn (eqP i S1 (y.2.2.1 ||| tw i)) (n + 1))) (upd kn1 i (vp_nar .boolean 1)) (upd tl1 i (upd vl n v j ^^^ xk K tl1 (S1 j) y.2.2.1)) (upd od1 (pc y.2.2.1) (nI i)) (nI (pc y.2.2.1 + 1)) y.2.2.2.2.2 u_5.1 u_5.2) H := hP
            have hD : va_D A (rW ad cI cZ K row (nI (n + 1)) (upd sd n seed) (upd vl n v) (awA (upd wt1 j 0) (T0 + y.2.2.2.2.1) (eqP i S1 (y.2.2.1 ||| tw i)) (n + 1)) (nI (T0 + y.2.2.2.2.1 + cn (eqP i S1 (y.2.2.1 ||| tw i)) (n + 1))) (upd kn1 i (vp_nar .boolean 1)) (upd tl1 i (upd vl n v j ^^^ xk K tl1 (S1 j) y.2.2.1)) (upd od1 (pc y.2.2.1) (nI i)) (nI (pc y.2.2.1 + 1)) y.2.2.2.2.2 u_5.1 u_5.2) := hD
            skip
            refine lv_goto (tgt := 149) hx hb dX1_receive_127 (by decide) ?_
            refine lv_aload_n hx hb dX1_receive_149 rfl (lv_at hl 1 rfl) ?_
            refine vp_callSi (W.runV (As := []) (rest := []) ⟨hx, hb, hml, hown, hts⟩ (c_X1_first l dC dI ad cI cZ K row (upd sd n seed) (upd vl n v) (awA (upd wt1 j 0) (T0 + y.2.2.2.2.1) (eqP i S1 (y.2.2.1 ||| tw i)) (n + 1)) (nI (T0 + y.2.2.2.2.1 + cn (eqP i S1 (y.2.2.1 ||| tw i)) (n + 1))) (upd kn1 i (vp_nar .boolean 1)) (upd tl1 i (upd vl n v j ^^^ xk K tl1 (S1 j) y.2.2.1)) (upd od1 (pc y.2.2.1) (nI i)) (nI (pc y.2.2.1 + 1)) y.2.2.2.2.2 u_5.1 u_5.2 (n + 1) hn1) (cwV 0 hts gX1_receive_X1_first rfl rfl rfl (by decide +kernel) ⟨Nat.le_of_ble_eq_true rfl, Nat.le_of_ble_eq_true rfl⟩) ⟨rFb, va_recv hK hP (ci := 1) (q0 := 0) rfl rfl, fun U hU hW => ⟨rfl, by rw [hU]; exact hP, va_K.moved hW.alike hK⟩⟩ rfl rfl hl.1 rfl (lv_room (Nat.le_of_ble_eq_true rfl)) dX1_receive_150 ⟨Nat.zero_le _, Nat.zero_le _⟩) (fun r_6 er_6 => ?_)
            refine lv_istore (lv' := [(5, .int r_6), (0, .ref (ad 0))]) hx hb dX1_receive_153 hl (by decide) rfl (fun ls hl => ?_)
            refine lv_goto (tgt := 98) hx hb dX1_receive_155 (by decide) ?_
            exact ih (h + 1) (tkF K (n + 1) S1 V1 j y) _ _ _ _ _ _ _ _ _ _ _ _ ls (by omega) hy2 (by rw [← hVl j hj]; exact qR_learn hK2 hn1 hI hR hlt hj ej hi hiK e1 e3) hv2 er_6 hP hD hS (lv_sub hl [0, 1] rfl)
  refine lv_icmp_ne (tgt := 12) hx hb dX1_receive_6 (by decide) (fun c1 => ?_) (fun c1 => ?_)
  · skip
    refine lv_aload_n hx hb dX1_receive_12 rfl (lv_at hl 0 rfl) ?_
    refine va_get (D := (dC, dI)) (ci := 1) (v := .int (nI n)) (C := RX1) (T := TX1) (N := 14) hx hb hts hw0 hown hK hP 0 rfl rfl 2 (by decide) (hts (.fieldLink RX1 56 "DropCodeModel" "came" "I") (by decide +kernel)) (fun _ h9 => h9) rfl dX1_receive_13 ?_
    refine lv_istore_n (lv' := [(3, .int (nI n)), (0, .ref (ad 0)), (1, .int seed), (2, .int v)]) hx hb dX1_receive_16 rfl hl (by decide) rfl (fun ls hl => ?_)
    refine lv_aload_n hx hb dX1_receive_17 rfl (lv_at hl 1 rfl) ?_
    refine lv_dup hx hb dX1_receive_18 rfl ?_
    refine va_get (D := (dC, dI)) (ci := 1) (v := .int (nI n)) (C := RX1) (T := TX1) (N := 14) hx hb hts hw0 hown hK hP 0 rfl rfl 2 (by decide) (hts (.fieldLink RX1 56 "DropCodeModel" "came" "I") (by decide +kernel)) (fun _ h9 => h9) rfl dX1_receive_19 ?_
    refine lv_iconst (v := 1) hx hb dX1_receive_22 (by decide) ?_
    refine lv_iadd hx hb dX1_receive_23 ?_
    refine lv_topi (fun z_1 ez_1 => ?_)
    have ez_1 : z_1 = nI (n + 1) := ez_1.trans (nI_1 n)
    subst ez_1
    refine va_put (D := (dC, dI)) (ci := 1) (v := .int (nI (n + 1))) (ty := .int) (C := RX1) (T := TX1) (N := 14) hx hb hts hw0 tyX1 tyX1_ok nmX1 hown hK hP hD hS 0 rfl rfl 2 (by decide) (hts (.fieldLink RX1 56 "DropCodeModel" "came" "I") (by decide +kernel)) (fun _ h9 => h9) rfl (by decide +kernel) rfl rfl (Nat.le_of_ble_eq_true rfl) dX1_receive_24 (fun H locs hP hD hS => ?_)
    have hP : va_P (dC, dI) vwCl (rW ad cI cZ K row (nI (n + 1)) sd vl wt (nI T0) kn tl od (nI (pc kb)) cl0 inn stt) H := hP
    have hD : va_D A (rW ad cI cZ K row (nI (n + 1)) sd vl wt (nI T0) kn tl od (nI (pc kb)) cl0 inn stt) := hD
    refine lv_aload_n hx hb dX1_receive_27 rfl (lv_at hl 1 rfl) ?_
    refine va_get (D := (dC, dI)) (ci := 1) (v := .ref (ad 2)) (C := RX1) (T := TX1) (N := 14) hx hb hts hw0 hown hK hP 0 rfl rfl 3 (by decide) (hts (.fieldLink RX1 13 "DropCodeModel" "seeds" "[I") (by decide +kernel)) (fun _ h9 => h9) rfl dX1_receive_28 ?_
    refine lv_iload_n hx hb dX1_receive_31 rfl (lv_at hl 0 rfl) ?_
    refine lv_iload_n hx hb dX1_receive_32 rfl (lv_at hl 2 rfl) ?_
    refine va_iast (i := nI n) hx hb hK hP hD hS 2 0 rfl rfl (vp_in_nI hn (by omega)) dX1_receive_33 (fun H locs hP hD hS => ?_)
    rw [nI_clamp (by omega)] at hP hD
    have hP : va_P (dC, dI) vwCl (rW ad cI cZ K row (nI (n + 1)) (upd sd n seed) vl wt (nI T0) kn tl od (nI (pc kb)) cl0 inn stt) H := hP
    have hD : va_D A (rW ad cI cZ K row (nI (n + 1)) (upd sd n seed) vl wt (nI T0) kn tl od (nI (pc kb)) cl0 inn stt) := hD
    refine lv_aload_n hx hb dX1_receive_34 rfl (lv_at hl 1 rfl) ?_
    refine va_get (D := (dC, dI)) (ci := 1) (v := .ref (ad 3)) (C := RX1) (T := TX1) (N := 14) hx hb hts hw0 hown hK hP 0 rfl rfl 4 (by decide) (hts (.fieldLink RX1 16 "DropCodeModel" "values" "[I") (by decide +kernel)) (fun _ h9 => h9) rfl dX1_receive_35 ?_
    refine lv_iload_n hx hb dX1_receive_38 rfl (lv_at hl 0 rfl) ?_
    refine lv_iload_n hx hb dX1_receive_39 rfl (lv_at hl 3 rfl) ?_
    refine va_iast (i := nI n) hx hb hK hP hD hS 3 0 rfl rfl (vp_in_nI hn (by omega)) dX1_receive_40 (fun H locs hP hD hS => ?_)
    rw [nI_clamp (by omega)] at hP hD
    have hP : va_P (dC, dI) vwCl (rW ad cI cZ K row (nI (n + 1)) (upd sd n seed) (upd vl n v) wt (nI T0) kn tl od (nI (pc kb)) cl0 inn stt) H := hP
    have hD : va_D A (rW ad cI cZ K row (nI (n + 1)) (upd sd n seed) (upd vl n v) wt (nI T0) kn tl od (nI (pc kb)) cl0 inn stt) := hD
    refine lv_aload_n hx hb dX1_receive_41 rfl (lv_at hl 1 rfl) ?_
    refine va_get (D := (dC, dI)) (ci := 1) (v := .ref (ad 4)) (C := RX1) (T := TX1) (N := 14) hx hb hts hw0 hown hK hP 0 rfl rfl 5 (by decide) (hts (.fieldLink RX1 19 "DropCodeModel" "waits" "[I") (by decide +kernel)) (fun _ h9 => h9) rfl dX1_receive_42 ?_
    refine lv_iload_n hx hb dX1_receive_45 rfl (lv_at hl 0 rfl) ?_
    refine lv_iconst (v := 0) hx hb dX1_receive_46 (by decide) ?_
    refine va_iast (i := nI n) hx hb hK hP hD hS 4 0 rfl rfl (vp_in_nI hn (by omega)) dX1_receive_47 (fun H locs hP hD hS => ?_)
    rw [nI_clamp (by omega)] at hP hD
    have hP : va_P (dC, dI) vwCl (rW ad cI cZ K row (nI (n + 1)) (upd sd n seed) (upd vl n v) (upd wt n 0) (nI T0) kn tl od (nI (pc kb)) cl0 inn stt) H := hP
    have hD : va_D A (rW ad cI cZ K row (nI (n + 1)) (upd sd n seed) (upd vl n v) (upd wt n 0) (nI T0) kn tl od (nI (pc kb)) cl0 inn stt) := hD
    refine lv_aload_n hx hb dX1_receive_48 rfl (lv_at hl 1 rfl) ?_
    refine lv_iload_n hx hb dX1_receive_49 rfl (lv_at hl 0 rfl) ?_
    have hFc := va_free (wc := (rW ad cI cZ K row (nI (n + 1)) (upd sd n seed) (upd vl n v) (upd wt n 0) (nI T0) kn tl od (nI (pc kb)) cl0 inn stt)) hD hS hA [0, 1, 2, 3, 4, 5, 6, 7, 8] rfl
    refine va_calli (va_runV (As := [.int (nI n)]) (rest := []) ⟨hx, hb, hml, hown, hts⟩ (c_X1_isOpen l dC dI H.size ad cI cZ K row (nI (n + 1)) (upd sd n seed) (upd vl n v) (upd wt n 0) (nI T0) kn tl od (nI (pc kb)) cl0 inn stt hK1 hK2 kb hR0.1 n hn) (cwV 1 hts gX1_receive_X1_isOpen rfl rfl rfl (by decide +kernel) ⟨Nat.le_of_ble_eq_true rfl, Nat.le_of_ble_eq_true rfl⟩) ⟨wFb, va_recv hK hP (ci := 1) (q0 := 0) rfl rfl, fun U hU hW => ⟨rfl, by rw [hU], by rw [hU]; exact hP, va_K.moved hW.alike hK, hD.weaken (fun _ _ _ _ => trivial)⟩⟩ rfl rfl hl.1 rfl (lv_room (Nat.le_of_ble_eq_true rfl)) dX1_receive_50 ⟨Nat.le_of_ble_eq_true rfl, Nat.le_of_ble_eq_true rfl⟩) hS (fun q _ h => hFc q h) hFc (fun r_2 u_3 t H1 locs ht hvm hwu_3 hB hz1 hk1 hS => ?_)
    obtain ⟨hP1, hK1, hD1⟩ := hB
    rw [ht] at hP1
    obtain ⟨hP, hD⟩ := va_join (wr := []) (w1 := (rW ad cI cZ K row (nI (n + 1)) (upd sd n seed) (upd vl n v) (upd wt n 0) (nI T0) kn tl od (nI (pc kb)) cl0 u_3.1 u_3.2)) hP hD [0, 1, 2, 3, 4, 5, 6, 7, 8] [] rfl rfl (by decide) (by decide) hk1 hFc hP1 hD1
    clear hP1 hD1 hK1 hFc hk1 hz1
    generalize H1 = H at hP hS ⊢
    have hP : va_P (dC, dI) vwCl (rW ad cI cZ K row (nI (n + 1)) (upd sd n seed) (upd vl n v) (upd wt n 0) (nI T0) kn tl od (nI (pc kb)) cl0 u_3.1 u_3.2) H := hP
    have hD : va_D A (rW ad cI cZ K row (nI (n + 1)) (upd sd n seed) (upd vl n v) (upd wt n 0) (nI T0) kn tl od (nI (pc kb)) cl0 u_3.1 u_3.2) := hD
    obtain ⟨rfl, hinu_3⟩ := hwu_3
    refine lv_topi (fun z_4 ez_4 => ?_)
    have ez_4 : z_4 = nI (opn (S1 n) kb) := ez_4.trans (by rw [hSd n (by omega)])
    subst ez_4
    refine lv_istore (lv' := [(4, .int (nI (opn (S1 n) kb))), (3, .int (nI n)), (0, .ref (ad 0)), (1, .int seed), (2, .int v)]) hx hb dX1_receive_53 hl (by decide) rfl (fun ls hl => ?_)
    refine lv_iload hx hb dX1_receive_55 (lv_at hl 0 rfl) ?_
    refine lv_iconst (v := 1) hx hb dX1_receive_57 (by decide) ?_
    refine lv_icmp_ne (tgt := 69) hx hb dX1_receive_58 (by decide) (fun c2 => ?_) (fun c2 => ?_)
    · skip
      have hne : ¬ opn (S1 n) kb = 1 := fun h => c2 (by rw [h]; rfl)
      refine lv_iload hx hb dX1_receive_69 (lv_at hl 0 rfl) ?_
      refine lv_if_ne (tgt := 92) hx hb dX1_receive_71 (by decide) (fun c3 => ?_) (fun c3 => ?_)
      · skip
        refine lv_aload_n hx hb dX1_receive_92 rfl (lv_at hl 2 rfl) ?_
        refine vp_callSi (W.runV (As := []) (rest := []) ⟨hx, hb, hml, hown, hts⟩ (c_X1_first l dC dI ad cI cZ K row (upd sd n seed) (upd vl n v) (upd wt n 0) (nI T0) kn tl od (nI (pc kb)) cl0 u_3.1 u_3.2 (n + 1) hn1) (cwV 0 hts gX1_receive_X1_first rfl rfl rfl (by decide +kernel) ⟨Nat.le_of_ble_eq_true rfl, Nat.le_of_ble_eq_true rfl⟩) ⟨rFb, va_recv hK hP (ci := 1) (q0 := 0) rfl rfl, fun U hU hW => ⟨rfl, by rw [hU]; exact hP, va_K.moved hW.alike hK⟩⟩ rfl rfl hl.1 rfl (lv_room (Nat.le_of_ble_eq_true rfl)) dX1_receive_93 ⟨Nat.zero_le _, Nat.zero_le _⟩) (fun r_5 er_5 => ?_)
        refine lv_istore (lv' := [(5, .int r_5), (4, .int (nI (opn (S1 n) kb))), (3, .int (nI n)), (0, .ref (ad 0)), (1, .int seed), (2, .int v)]) hx hb dX1_receive_96 hl (by decide) rfl (fun ls hl => ?_)
        exact kM 60 0 _ _ _ _ _ _ _ _ _ _ _ _ _ ls (by omega) hI0 (rest_qR hR0 hne (if_neg (fun h => c3 (by rw [h]; rfl))).symm) hY.symm er_5 hP hD hS (lv_sub hl [0, 3] rfl)
      · skip
        have ho0 : opn (S1 n) kb = 0 := nI_zero (pc_le _) c3
        refine lv_aload_n hx hb dX1_receive_74 rfl (lv_at hl 2 rfl) ?_
        refine lv_iload_n hx hb dX1_receive_75 rfl (lv_at hl 1 rfl) ?_
        have hFc := va_free (wc := (rW ad cI cZ K row (nI (n + 1)) (upd sd n seed) (upd vl n v) (upd wt n 0) (nI T0) kn tl od (nI (pc kb)) cl0 u_3.1 u_3.2)) hD hS hA [0, 1, 2, 3, 4, 5, 6, 7, 8] rfl
        refine va_calli (va_runV (As := [.int (nI n)]) (rest := []) ⟨hx, hb, hml, hown, hts⟩ (c_X1_off l dC dI H.size ad cI cZ K row (nI (n + 1)) (upd sd n seed) (upd vl n v) (upd wt n 0) (nI T0) kn tl od (nI (pc kb)) cl0 u_3.1 u_3.2 hK1 hK2 kb hR0.1 n hn) (cwV 1 hts gX1_receive_X1_off rfl rfl rfl (by decide +kernel) ⟨Nat.le_of_ble_eq_true rfl, Nat.le_of_ble_eq_true rfl⟩) ⟨wFb, va_recv hK hP (ci := 1) (q0 := 0) rfl rfl, fun U hU hW => ⟨rfl, by rw [hU], by rw [hU]; exact hP, va_K.moved hW.alike hK, hD.weaken (fun _ _ _ _ => trivial)⟩⟩ rfl rfl hl.1 rfl (lv_room (Nat.le_of_ble_eq_true rfl)) dX1_receive_76 ⟨Nat.le_of_ble_eq_true rfl, Nat.le_of_ble_eq_true rfl⟩) hS (fun q _ h => hFc q h) hFc (fun r_5 u_6 t H1 locs ht hvm hwu_6 hB hz1 hk1 hS => ?_)
        obtain ⟨hP1, hK1, hD1⟩ := hB
        rw [ht] at hP1
        obtain ⟨hP, hD⟩ := va_join (wr := []) (w1 := (rW ad cI cZ K row (nI (n + 1)) (upd sd n seed) (upd vl n v) (upd wt n 0) (nI T0) kn tl od (nI (pc kb)) cl0 u_6.1 u_6.2)) hP hD [0, 1, 2, 3, 4, 5, 6, 7, 8] [] rfl rfl (by decide) (by decide) hk1 hFc hP1 hD1
        clear hP1 hD1 hK1 hFc hk1 hz1
        generalize H1 = H at hP hS ⊢
        have hP : va_P (dC, dI) vwCl (rW ad cI cZ K row (nI (n + 1)) (upd sd n seed) (upd vl n v) (upd wt n 0) (nI T0) kn tl od (nI (pc kb)) cl0 u_6.1 u_6.2) H := hP
        have hD : va_D A (rW ad cI cZ K row (nI (n + 1)) (upd sd n seed) (upd vl n v) (upd wt n 0) (nI T0) kn tl od (nI (pc kb)) cl0 u_6.1 u_6.2) := hD
        obtain ⟨rfl, hinu_6⟩ := hwu_6
        refine lv_topi (fun z_7 ez_7 => ?_)
        have ez_7 : z_7 = V1 n ^^^ xk K tl (S1 n) kb := ez_7.trans (by rw [hSd n (by omega), hVl n (by omega)])
        subst ez_7
        refine lv_if_eq (tgt := 92) hx hb dX1_receive_79 (by decide) (fun c4 => ?_) (fun c4 => ?_)
        · skip
          have hxk : xk K kw (S1 n) kb = V1 n := by rw [← xk_congr hR0.2.1]; exact xor_eq0.mp c4
          refine lv_aload_n hx hb dX1_receive_92 rfl (lv_at hl 2 rfl) ?_
          refine vp_callSi (W.runV (As := []) (rest := []) ⟨hx, hb, hml, hown, hts⟩ (c_X1_first l dC dI ad cI cZ K row (upd sd n seed) (upd vl n v) (upd wt n 0) (nI T0) kn tl od (nI (pc kb)) cl0 u_6.1 u_6.2 (n + 1) hn1) (cwV 0 hts gX1_receive_X1_first rfl rfl rfl (by decide +kernel) ⟨Nat.le_of_ble_eq_true rfl, Nat.le_of_ble_eq_true rfl⟩) ⟨rFb, va_recv hK hP (ci := 1) (q0 := 0) rfl rfl, fun U hU hW => ⟨rfl, by rw [hU]; exact hP, va_K.moved hW.alike hK⟩⟩ rfl rfl hl.1 rfl (lv_room (Nat.le_of_ble_eq_true rfl)) dX1_receive_93 ⟨Nat.zero_le _, Nat.zero_le _⟩) (fun r_8 er_8 => ?_)
          refine lv_istore (lv' := [(5, .int r_8), (4, .int (nI (opn (S1 n) kb))), (3, .int (nI n)), (0, .ref (ad 0)), (1, .int seed), (2, .int v)]) hx hb dX1_receive_96 hl (by decide) rfl (fun ls hl => ?_)
          exact kM 60 0 _ _ _ _ _ _ _ _ _ _ _ _ _ ls (by omega) hI0 (rest_qR hR0 hne (by rw [if_pos ho0, clA, if_pos hxk])) hY.symm er_8 hP hD hS (lv_sub hl [0, 3] rfl)
        · skip
          have hxk : ¬ xk K kw (S1 n) kb = V1 n := by rw [← xk_congr hR0.2.1]; exact fun h => c4 (xor_eq0.mpr h)
          refine lv_aload_n hx hb dX1_receive_82 rfl (lv_at hl 2 rfl) ?_
          refine lv_dup hx hb dX1_receive_83 rfl ?_
          refine va_get (D := (dC, dI)) (ci := 1) (v := .int cl0) (C := RX1) (T := TX1) (N := 14) hx hb hts hw0 hown hK hP 0 rfl rfl 11 (by decide) (hts (.fieldLink RX1 72 "DropCodeModel" "clashes" "I") (by decide +kernel)) (fun _ h9 => h9) rfl dX1_receive_84 ?_
          refine lv_iconst (v := 1) hx hb dX1_receive_87 (by decide) ?_
          refine lv_iadd hx hb dX1_receive_88 ?_
          refine va_put (D := (dC, dI)) (ci := 1) (v := .int (cl0 + 1)) (ty := .int) (C := RX1) (T := TX1) (N := 14) hx hb hts hw0 tyX1 tyX1_ok nmX1 hown hK hP hD hS 0 rfl rfl 11 (by decide) (hts (.fieldLink RX1 72 "DropCodeModel" "clashes" "I") (by decide +kernel)) (fun _ h9 => h9) rfl (by decide +kernel) rfl rfl (Nat.le_of_ble_eq_true rfl) dX1_receive_89 (fun H locs hP hD hS => ?_)
          have hP : va_P (dC, dI) vwCl (rW ad cI cZ K row (nI (n + 1)) (upd sd n seed) (upd vl n v) (upd wt n 0) (nI T0) kn tl od (nI (pc kb)) (cl0 + 1) u_6.1 u_6.2) H := hP
          have hD : va_D A (rW ad cI cZ K row (nI (n + 1)) (upd sd n seed) (upd vl n v) (upd wt n 0) (nI T0) kn tl od (nI (pc kb)) (cl0 + 1) u_6.1 u_6.2) := hD
          refine lv_aload_n hx hb dX1_receive_92 rfl (lv_at hl 2 rfl) ?_
          refine vp_callSi (W.runV (As := []) (rest := []) ⟨hx, hb, hml, hown, hts⟩ (c_X1_first l dC dI ad cI cZ K row (upd sd n seed) (upd vl n v) (upd wt n 0) (nI T0) kn tl od (nI (pc kb)) (cl0 + 1) u_6.1 u_6.2 (n + 1) hn1) (cwV 0 hts gX1_receive_X1_first rfl rfl rfl (by decide +kernel) ⟨Nat.le_of_ble_eq_true rfl, Nat.le_of_ble_eq_true rfl⟩) ⟨rFb, va_recv hK hP (ci := 1) (q0 := 0) rfl rfl, fun U hU hW => ⟨rfl, by rw [hU]; exact hP, va_K.moved hW.alike hK⟩⟩ rfl rfl hl.1 rfl (lv_room (Nat.le_of_ble_eq_true rfl)) dX1_receive_93 ⟨Nat.zero_le _, Nat.zero_le _⟩) (fun r_8 er_8 => ?_)
          refine lv_istore (lv' := [(5, .int r_8), (4, .int (nI (opn (S1 n) kb))), (3, .int (nI n)), (0, .ref (ad 0)), (1, .int seed), (2, .int v)]) hx hb dX1_receive_96 hl (by decide) rfl (fun ls hl => ?_)
          exact kM 60 0 _ _ _ _ _ _ _ _ _ _ _ _ _ ls (by omega) hI0 (rest_qR hR0 hne (by rw [if_pos ho0, clA, if_neg hxk])) hY.symm er_8 hP hD hS (lv_sub hl [0, 3] rfl)
    · skip
      refine lv_aload_n hx hb dX1_receive_61 rfl (lv_at hl 2 rfl) ?_
      refine lv_iload_n hx hb dX1_receive_62 rfl (lv_at hl 1 rfl) ?_
      have hFc := va_free (wc := (rW ad cI cZ K row (nI (n + 1)) (upd sd n seed) (upd vl n v) (upd wt n 0) (nI T0) kn tl od (nI (pc kb)) cl0 u_3.1 u_3.2)) hD hS hA [0, 1, 2, 3, 4, 5, 6, 7, 8] rfl
      refine va_callv (va_runV (As := [.int (nI n)]) (rest := []) ⟨hx, hb, hml, hown, hts⟩ (c_X1_await l dC dI H.size ad cI cZ K row (nI (n + 1)) (upd sd n seed) (upd vl n v) (upd wt n 0) kn tl od (nI (pc kb)) cl0 u_3.1 u_3.2 T0 n hn) (cwV 1 hts gX1_receive_X1_await rfl rfl rfl (by decide +kernel) ⟨Nat.le_of_ble_eq_true rfl, Nat.le_of_ble_eq_true rfl⟩) ⟨wFb, va_recv hK hP (ci := 1) (q0 := 0) rfl rfl, fun U hU hW => ⟨rfl, by rw [hU], by rw [hU]; exact hP, va_K.moved hW.alike hK, hD.weaken (fun _ _ _ _ => trivial)⟩⟩ rfl rfl hl.1 rfl (lv_room (Nat.le_of_ble_eq_true rfl)) dX1_receive_63 ⟨Nat.le_of_ble_eq_true rfl, Nat.le_of_ble_eq_true rfl⟩) hS (fun q _ h => hFc q h) hFc (fun u t H1 locs ht hvm hw hB hz1 hk1 hS => ?_)
      obtain ⟨hP1, hK1, hD1⟩ := hB
      rw [ht] at hP1
      obtain ⟨hP, hD⟩ := va_join (wr := []) (w1 := (rW ad cI cZ K row (nI (n + 1)) (upd sd n seed) (upd vl n v) (upd (upd wt n 0) n (nI (T0 + 1))) (nI (T0 + 1)) kn tl od (nI (pc kb)) cl0 u_3.1 u_3.2)) hP hD [0, 1, 2, 3, 4, 5, 6, 7, 8] [] rfl rfl (by decide) (by decide) hk1 hFc hP1 hD1
      clear hP1 hD1 hK1 hFc hk1 hz1
      generalize H1 = H at hP hS ⊢
      have hP : va_P (dC, dI) vwCl (rW ad cI cZ K row (nI (n + 1)) (upd sd n seed) (upd vl n v) (upd (upd wt n 0) n (nI (T0 + 1))) (nI (T0 + 1)) kn tl od (nI (pc kb)) cl0 u_3.1 u_3.2) H := hP
      have hD : va_D A (rW ad cI cZ K row (nI (n + 1)) (upd sd n seed) (upd vl n v) (upd (upd wt n 0) n (nI (T0 + 1))) (nI (T0 + 1)) kn tl od (nI (pc kb)) cl0 u_3.1 u_3.2) := hD
      refine lv_goto (tgt := 92) hx hb dX1_receive_66 (by decide) ?_
      refine lv_aload_n hx hb dX1_receive_92 rfl (lv_at hl 2 rfl) ?_
      refine vp_callSi (W.runV (As := []) (rest := []) ⟨hx, hb, hml, hown, hts⟩ (c_X1_first l dC dI ad cI cZ K row (upd sd n seed) (upd vl n v) (upd (upd wt n 0) n (nI (T0 + 1))) (nI (T0 + 1)) kn tl od (nI (pc kb)) cl0 u_3.1 u_3.2 (n + 1) hn1) (cwV 0 hts gX1_receive_X1_first rfl rfl rfl (by decide +kernel) ⟨Nat.le_of_ble_eq_true rfl, Nat.le_of_ble_eq_true rfl⟩) ⟨rFb, va_recv hK hP (ci := 1) (q0 := 0) rfl rfl, fun U hU hW => ⟨rfl, by rw [hU]; exact hP, va_K.moved hW.alike hK⟩⟩ rfl rfl hl.1 rfl (lv_room (Nat.le_of_ble_eq_true rfl)) dX1_receive_93 ⟨Nat.zero_le _, Nat.zero_le _⟩) (fun r_6 er_6 => ?_)
      refine lv_istore (lv' := [(5, .int r_6), (4, .int (nI (opn (S1 n) kb))), (3, .int (nI n)), (0, .ref (ad 0)), (1, .int seed), (2, .int v)]) hx hb dX1_receive_96 hl (by decide) rfl (fun ls hl => ?_)
      exact kM 60 0 _ _ _ _ _ _ _ _ _ _ _ _ _ ls (by omega) hI0 (rest_qR1 hn hR0 (nI_one (pc_le _) c2)) hY.symm er_6 hP hD hS (lv_sub hl [0, 3] rfl)
  · skip
    exact absurd ((nI_eq (a := n) (b := 60) (by omega) (by omega)).mp c1) (by omega)
