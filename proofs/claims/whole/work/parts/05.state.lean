/-! ===== the worlds of the two objects, and the shapes of contracts ===== -/
/-- the class's object and its six arrays -/
abbrev xW (ad : Nat → Nat) (cI : ClassId) (K : Nat) (row S V : Nat → Int32) (dc : Int32) (kw ko : Nat → Int32) (kb : Int32) (qu : Nat → Int32) (qe cl : Int32) : va_W :=
  [(ad 0, .inr (0, [.int (nI K), .ref (ad 1), .ref (ad 2), .ref (ad 3), .int dc, .ref (ad 4), .ref (ad 5), .int kb, .ref (ad 6), .int qe, .int cl])),
   (ad 1, .inl (cI, K, .inl row)), (ad 2, .inl (cI, 60, .inl S)), (ad 3, .inl (cI, 60, .inl V)), (ad 4, .inl (cI, K, .inl kw)), (ad 5, .inl (cI, K, .inl ko)), (ad 6, .inl (cI, 60, .inl qu))]
/-- the reference's object and its eight arrays -/
abbrev rW (ad : Nat → Nat) (cI cZ : ClassId) (K : Nat) (row : Nat → Int32) (cm : Int32) (sd vl wt : Nat → Int32) (tn : Int32) (kn tl od : Nat → Int32) (fd cl : Int32) (inn : Nat → Int32) (stt : Int32) : va_W :=
  [(ad 0, .inr (1, [.int (nI K), .ref (ad 1), .int cm, .ref (ad 2), .ref (ad 3), .ref (ad 4), .int tn, .ref (ad 5), .ref (ad 6), .ref (ad 7), .int fd, .int cl, .ref (ad 8), .int stt])),
   (ad 1, .inl (cI, 32, .inl row)), (ad 2, .inl (cI, 60, .inl sd)), (ad 3, .inl (cI, 60, .inl vl)), (ad 4, .inl (cI, 60, .inl wt)), (ad 5, .inl (cZ, 32, .inl kn)), (ad 6, .inl (cI, 32, .inl tl)), (ad 7, .inl (cI, 32, .inl od)), (ad 8, .inl (cZ, 32, .inl inn))]
/-- what a method that only reads asks of the heap -/
abbrev rB (dC : Nat → ClassId) (dI : Nat → Nat → Nat) (tys : List (ClassId × FieldType)) (ws : va_W) (U : State) : Prop := va_P (dC, dI) vwCl ws U.heap ∧ va_K (dC, dI) vwCl tys U
/-- what a method that writes asks of the heap -/
abbrev wB (dC : Nat → ClassId) (dI : Nat → Nat → Nat) (tys : List (ClassId × FieldType)) (sz : Nat) (ws : va_W) (U : State) : Prop := U.heap.size = sz ∧ va_P (dC, dI) vwCl ws U.heap ∧ va_K (dC, dI) vwCl tys U ∧ va_D (fun _ => True) ws
/-- what a method that writes leaves -/
abbrev oB (dC : Nat → ClassId) (dI : Nat → Nat → Nat) (tys : List (ClassId × FieldType)) (A : Nat → Prop) (ws : va_W) (t : State) : Prop := va_P (dC, dI) vwCl ws t.heap ∧ va_K (dC, dI) vwCl tys t ∧ va_D A ws
theorem pFb {av : List Value} : FrameBlind (va_Pc av (fun _ => True)) := fun _ _ _ _ q => q
theorem rFb {av : List Value} {dC : Nat → ClassId} {dI : Nat → Nat → Nat} {tys : List (ClassId × FieldType)} {ws : va_W} : FrameBlind (va_Pc av (rB dC dI tys ws)) :=
  fun a U g mk q => ⟨q.1, q.2.1, va_K.moved (u := U) (U := U.calling g mk a) (Vm.Alike.refl U.vm) q.2.2⟩
theorem wFb {av : List Value} {dC : Nat → ClassId} {dI : Nat → Nat → Nat} {tys : List (ClassId × FieldType)} {sz : Nat} {ws : va_W} : FrameBlind (va_Pc av (wB dC dI tys sz ws)) :=
  fun a U g mk q => ⟨q.1, q.2.1, q.2.2.1, va_K.moved (u := U) (U := U.calling g mk a) (Vm.Alike.refl U.vm) q.2.2.2.1, q.2.2.2.2⟩
/-- a contract out of a walk, for a method that isn't a native's name (Math) -/
theorem ofWF {l : Launch} {y : MethodName} {ws ws' : List Cond} {rm : Room} {Pc : Array Value → State → Prop} {Qc : Array Value → State → Outcome → State → Prop} {mc ms : Nat} {free : Addr → Prop} {cc : ByteArray} {maxL : Nat} {ret : Option FieldType}
    (hy : plainFor y = true) (hw : ws = Cond.code y cc maxL ret :: ws')
    (body : ∀ p e s m args below meth c s₁, BodyLoose p l y (headSpec ws rm) cc maxL ret e s m args below meth c s₁ → c.maxLocals = maxL → Pc args s →
      W p l e (headSpec ws rm).room s m args below meth c s.heap [] 0 0 (MQ below Qc args s mc ms free) (entryFrame m args maxL)) : Met l y ws rm Pc Qc mc ms free := by
  refine MetFree.of_bodySF (code := cc) (maxLocals := maxL) (ret := ret) hy ?_ ?_
  · intro args s m h hn
    obtain ⟨meth, c, h1, h2, h3, h4, h5, h6, -, -⟩ := Cond.code_spec hn (atoms_spec (ws := ws) h _ (by rw [hw]; exact List.mem_cons_self))
    exact ⟨meth, c, h1, h2, h3, h4, h5, h6⟩
  · intro p e s m args below meth c s₁ B hml hP _
    have hh0 : s₁.heap = s.heap := by rw [B.state]; rfl
    obtain ⟨t, a1, o, b1, b2, b3⟩ := body p e s m args below meth c s₁ B hml hP s₁ hh0 (Stand.of_body B)
    exact ⟨t, o, a1, b1, b2, ⟨b3.1, b3.2⟩⟩
