/-! ===== worlds as functions of (kind, index): a world is a partial map to addresses and what lies there ===== -/
abbrev WD : Type := Nat → Nat → Option (Nat × va_E)
def fP (D : va_G) (w : WD) (H : Heap) : Prop := ∀ (k i : Nat) (q : Nat × va_E), w k i = some q → va_at D vwCl q H
def fD (A : Nat → Prop) (w : WD) : Prop := (∀ (k i k' i' : Nat) (q q' : Nat × va_E), w k i = some q → w k' i' = some q' → q.1 = q'.1 → k = k' ∧ i = i') ∧ ∀ (k i : Nat) (q : Nat × va_E), w k i = some q → A q.1
def fU (w : WD) (k i : Nat) (x : Nat × va_E) : WD := fun k' i' => if k' = k ∧ i' = i then some x else w k' i'
def fA (w : WD) (sz : Nat) : Nat → Prop := fun q => (∃ (k i : Nat) (e : va_E), w k i = some (q, e)) ∨ sz ≤ q
abbrev TYS (T : Nat → ClassId) : List (ClassId × FieldType) := [(T 0, .int), (T 0, .int), (T 0, .int), (T 0, .int), (T 4, .object "java/lang/Object")]
/-- world, distinctness, frame: all that a walk carries of the heap -/
def fI (D : va_G) (A : Nat → Prop) (H0 : Heap) (w : WD) (H : Heap) (locs : List Loc) : Prop := fP D w H ∧ fD A w ∧ va_S A H0 H locs ∧ ∀ q, H0.size ≤ q → A q
theorem fU_same {w : WD} {k i : Nat} {x : Nat × va_E} : fU w k i x k i = some x := if_pos ⟨rfl, rfl⟩
theorem fU_ne {w : WD} {k i k' i' : Nat} {x : Nat × va_E} (h : ¬ (k' = k ∧ i' = i)) : fU w k i x k' i' = w k' i' := if_neg h
theorem fP.lt {D : va_G} {w : WD} {H : Heap} (h : fP D w H) {k i : Nat} {q : Nat × va_E} (hk : w k i = some q) : q.1 < H.size := (h k i q hk).lt
theorem fA.in {w : WD} {sz k i : Nat} {q : Nat × va_E} (h : w k i = some q) : fA w sz q.1 := Or.inl ⟨k, i, q.2, h⟩
theorem fD.weaken {A B : Nat → Prop} {w : WD} (h : fD A w) (hAB : ∀ q, A q → B q) : fD B w := ⟨h.1, fun k i q hk => hAB _ (h.2 k i q hk)⟩
theorem fI.free {D : va_G} {A : Nat → Prop} {H0 : Heap} {w : WD} {H : Heap} {locs : List Loc} (h : fI D A H0 w H locs) : ∀ q, fA w H.size q → A q := by
  intro q hq
  rcases hq with ⟨k, i, e, he⟩ | hq
  · exact h.2.1.2 k i (q, e) he
  · exact h.2.2.2 q (Nat.le_trans h.2.2.1.1 hq)
theorem fI.set {D : va_G} {A : Nat → Prop} {H0 : Heap} {w : WD} {H H1 : Heap} {locs : List Loc} (h : fI D A H0 w H locs) {k i a j : Nat} {e0 e : va_E} (he : w k i = some (a, e0)) (hat : va_at D vwCl (a, e) H1) (z : H1.size = H.size) (oq : ∀ q : Nat, q ≠ a → H1[q]? = H[q]?) : fI D A H0 (fU w k i (a, e)) H1 (locs ++ [⟨a, j⟩]) := by
  obtain ⟨hP, hD, hS, hA⟩ := h
  refine ⟨fun k' i' q hq => ?_, ⟨fun k1 i1 k2 i2 q1 q2 h1 h2 h3 => ?_, fun k' i' q hq => ?_⟩, hS.put z oq (hD.2 k i _ he), hA⟩
  · by_cases c : k' = k ∧ i' = i
    · obtain ⟨rfl, rfl⟩ := c
      rw [fU_same] at hq
      cases hq
      exact hat
    · rw [fU_ne c] at hq
      exact (hP k' i' q hq).kept (oq q.1 (fun z => c (hD.1 k' i' k i q (a, e0) hq he z)))
  · have key : ∀ (k' i' : Nat) (q : Nat × va_E), fU w k i (a, e) k' i' = some q → ∃ q0, w k' i' = some q0 ∧ q0.1 = q.1 := by
      intro k' i' q hq
      by_cases c : k' = k ∧ i' = i
      · obtain ⟨rfl, rfl⟩ := c
        rw [fU_same] at hq
        cases hq
        exact ⟨_, he, rfl⟩
      · rw [fU_ne c] at hq
        exact ⟨q, hq, rfl⟩
    obtain ⟨p1, a1, b1⟩ := key k1 i1 q1 h1
    obtain ⟨p2, a2, b2⟩ := key k2 i2 q2 h2
    exact hD.1 k1 i1 k2 i2 p1 p2 a1 a2 (b1.trans (h3.trans b2.symm))
  · by_cases c : k' = k ∧ i' = i
    · obtain ⟨rfl, rfl⟩ := c
      rw [fU_same] at hq
      cases hq
      exact (show A a from hD.2 k' i' (a, e0) he)
    · rw [fU_ne c] at hq
      exact hD.2 k' i' q hq
theorem fI.push {D : va_G} {A : Nat → Prop} {H0 : Heap} {w : WD} {H H1 : Heap} {locs : List Loc} (h : fI D A H0 w H locs) {k i : Nat} {e : va_E} (hn : w k i = none) (hat : va_at D vwCl (H.size, e) H1) (z : H1.size = H.size + 1) (oq : ∀ q : Nat, q < H.size → H1[q]? = H[q]?) : fI D A H0 (fU w k i (H.size, e)) H1 locs := by
  obtain ⟨hP, hD, hS, hA⟩ := h
  have key : ∀ (k' i' : Nat) (q : Nat × va_E), fU w k i (H.size, e) k' i' = some q → (k' = k ∧ i' = i ∧ q = (H.size, e)) ∨ (w k' i' = some q ∧ q.1 < H.size) := by
    intro k' i' q hq
    by_cases c : k' = k ∧ i' = i
    · obtain ⟨rfl, rfl⟩ := c
      rw [fU_same] at hq
      cases hq
      exact Or.inl ⟨rfl, rfl, rfl⟩
    · rw [fU_ne c] at hq
      exact Or.inr ⟨hq, (hP k' i' q hq).lt⟩
  refine ⟨fun k' i' q hq => ?_, ⟨fun k1 i1 k2 i2 q1 q2 h1 h2 h3 => ?_, fun k' i' q hq => ?_⟩, ⟨Nat.le_trans hS.1 (by omega), fun x h1 h2 => (oq x (Nat.lt_of_lt_of_le h1 hS.1)).trans (hS.2.1 x h1 h2), hS.2.2⟩, hA⟩
  · rcases key k' i' q hq with ⟨-, -, rfl⟩ | ⟨g, gl⟩
    · exact hat
    · exact (hP k' i' q g).kept (oq q.1 gl)
  · rcases key k1 i1 q1 h1 with ⟨e1, e2, rfl⟩ | ⟨g1, l1⟩ <;> rcases key k2 i2 q2 h2 with ⟨e3, e4, rfl⟩ | ⟨g2, l2⟩
    · exact ⟨e1.trans e3.symm, e2.trans e4.symm⟩
    · exact absurd h3 (fun z => by simp only at z; omega)
    · exact absurd h3 (fun z => by simp only at z; omega)
    · exact hD.1 k1 i1 k2 i2 q1 q2 g1 g2 h3
  · rcases key k' i' q hq with ⟨-, -, rfl⟩ | ⟨g, -⟩
    · exact hA _ hS.1
    · exact hD.2 k' i' q g
/-- a world that is a part of another -/
theorem fI.sub {D : va_G} {A : Nat → Prop} {H0 : Heap} {w w' : WD} {H : Heap} {locs : List Loc} (h : fI D A H0 w H locs) (hs : ∀ k i q, w' k i = some q → w k i = some q) : fI D A H0 w' H locs :=
  ⟨fun k i q hq => h.1 k i q (hs k i q hq), ⟨fun k i k' i' q q' a b => h.2.1.1 k i k' i' q q' (hs _ _ _ a) (hs _ _ _ b), fun k i q hq => h.2.1.2 k i q (hs k i q hq)⟩, h.2.2.1, h.2.2.2⟩
/-! ===== what a method takes of the launch: words of faces, texts, statics ===== -/
def SLs : List (String × Nat × String) := [("Icehighway", 227, "a value is out of range"), ("Icehighway", 58, "no more pieces can be laid"), ("Icehighway", 235, "there is no such piece"), ("Icehighway", 91, "the piece can't be flooded so"), ("Icehighway", 109, "no vehicle can be added"), ("Icehighway", 237, "there is no such vehicle"), ("Icehighway", 232, "there are no such goods"), ("Icehighway", 132, "the vehicle can't be loaded"), ("Icehighway", 142, "the vehicle is not at the base or the mine"), ("Icehighway", 148, "the vehicle is not at a ramp"), ("Icehighway", 156, "the mine would have ordered too much"), ("Icehighway", 159, "the minute would be too high")]
/-- exceptions that a catch of another lets by -/
def NCs : List (String × String) := [("java/lang/IllegalStateException", "java/lang/IllegalArgumentException"), ("java/lang/IllegalArgumentException", "java/lang/IndexOutOfBoundsException"), ("java/lang/IllegalStateException", "java/lang/IndexOutOfBoundsException")]
def EV (z : Nat × Nat) (A : Nat → Prop) (U : State) (H : Heap) : Prop :=
  (∀ w ∈ XL, w.before #[] U = true) ∧ (∀ q ∈ SLs, ∃ a, vk_R q.1 q.2.1 q.2.2 a U) ∧ vx_Zq Bundle.tN "UNASSIGNED_STACK" Bundle.steD A U H ∧ vx_Zq Bundle.tN "SUPPRESSED_SENTINEL" Bundle.listD A U H ∧ va_Z "java/util/ArrayList" "DEFAULTCAPACITY_EMPTY_ELEMENTDATA" "[Ljava/lang/Object;" (.ref z.1) A U H ∧ va_T (.object "java/lang/Object") z.1 0 (fun _ => .null) A U H ∧ va_AO "java/lang/Object" U ∧ va_Mi "[Ljava/lang/Object;" z.2 U ∧ (∀ q ∈ NCs, va_Nc q.1 q.2 U)
theorem XL_warm {s U : State} (hW : s.WarmedH U.vm) {w : Cond} (hw : w ∈ XL) (h : w.before #[] s = true) : w.before #[] U = true := by
  have hx := (List.mem_filter.mp hw).2
  simp only [XF, Bool.and_eq_true] at hx
  exact va_tabs hx.1 (rfl : (s.setVm U.vm).vm = U.vm) (Cond.faceAtom_setVm hW.alike w hx.2 h)
theorem XL_use {s : State} {args : Array Value} {w : Cond} (hw : w ∈ XL) (h : w.before #[] s = true) : w.before args s = true := by
  have hx := (List.mem_filter.mp hw).2
  simp only [XF, Bool.and_eq_true] at hx
  exact va_tabs hx.1 rfl h
theorem EV.next {z : Nat × Nat} {A B : Nat → Prop} {s U : State} {H : Heap} {locs : List Loc} (h : EV z A s s.heap) (hS : va_S A s.heap H locs) (hW : s.WarmedH U.vm) (hAB : ∀ q, B q → A q) : EV z B U H := by
  obtain ⟨h1, h2, h3, h4, h5, h6, h8, h7, h9⟩ := h
  refine ⟨fun w hw => XL_warm hW hw (h1 w hw), fun q hq => ?_, ?_, ?_, ?_, ?_, h8.moved hW.alike, h7.moved hW.alike, fun q hq => (h9 q hq).moved hW.alike⟩
  · obtain ⟨a, ha⟩ := h2 q hq
    exact ⟨a, ha.warm hW⟩
  · exact ((h3.kept hS.2.1).moved hW.alike).narrow hAB
  · exact ((h4.kept hS.2.1).moved hW.alike).narrow hAB
  · exact ((h5.kept hS.2.1).moved hW.alike).narrow hAB
  · exact ((h6.kept hS.2.1).moved hW.alike).narrow hAB
theorem EV.calling {z : Nat × Nat} {A : Nat → Prop} {U : State} {g : JFrame} {mk : MethodId} {a : Array Value} (h : EV z A U U.heap) : EV z A (U.calling g mk a) (U.calling g mk a).heap := by
  obtain ⟨h1, h2, h3, h4, h5, h6, h8, h7, h9⟩ := h
  have hv : U.vm.Alike (U.calling g mk a).vm := Vm.Alike.refl U.vm
  refine ⟨fun w hw => ?_, fun q hq => ?_, h3.moved hv, h4.moved hv, h5.moved hv, h6.moved hv, h8.moved hv, h7.moved hv, fun q hq => (h9 q hq).moved hv⟩
  · have hx := (List.mem_filter.mp hw).2
    simp only [XF, Bool.and_eq_true] at hx
    exact va_tabs hx.1 (u := U) rfl (h1 w hw)
  · obtain ⟨a, ha⟩ := h2 q hq
    exact ⟨a, ha.same rfl⟩
/-- the launch, the empty array's address, the classes' numbers and slots, the array classes -/
abbrev GX : Type := Launch × Nat × va_G × (Nat → ClassId)
def FPre (G : GX) (w : WD) (sz : Nat) (U : State) : Prop := U.heap.size = sz ∧ fP G.2.2.1 w U.heap ∧ va_K G.2.2.1 vwCl (TYS G.2.2.2) U ∧ fD (fun _ => True) w ∧ EV (G.2.1, G.2.2.2 5) (fA w sz) U U.heap
def FQ (G : GX) (w : WD) (sz : Nat) (po : Option Value → WD → Prop) : Array Value → State → Outcome → State → Prop := fun _ st oc t =>
  (∃ (v : Option Value) (w' : WD), oc = .returned v ∧ po v w' ∧ fP G.2.2.1 w' t.heap ∧ fD (fA w sz) w') ∧ va_F (fA w sz) st t
def FXq (G : GX) (w : WD) (sz : Nat) (px : String → WD → Prop) : String → State → State → Prop := fun E st t =>
  (∃ w' : WD, px E w' ∧ fP G.2.2.1 w' t.heap ∧ fD (fA w sz) w') ∧ va_F (fA w sz) st t
/-- a method's contract: from a world w and the arguments as it comes to an answer v and a world w' with po v w' -/
def FC (G : GX) (y : MethodName) (cc : ByteArray) (nL : Nat) (ret : Option FieldType) (rm : Room) (as : List Value) (w : WD) (po : Option Value → WD → Prop) : Prop :=
  ∀ sz, Met G.1 y (Cond.code y cc nL ret :: WL) rm (va_Pc as (FPre G w sz)) (FQ G w sz po) rm.cells rm.slots (fA w sz)
/-- the same of a method that may throw: px of the class' name and the world then -/
def FX (G : GX) (y : MethodName) (cc : ByteArray) (nL : Nat) (ret : Option FieldType) (rm : Room) (as : List Value) (w : WD) (po : Option Value → WD → Prop) (px : String → WD → Prop) : Prop :=
  ∀ sz, vx_Met G.1 y (Cond.code y cc nL ret :: WL) rm (va_Pc as (FPre G w sz)) (FQ G w sz po) (FXq G w sz px) rm.cells rm.slots (fA w sz)
theorem FPre.blind {G : GX} {w : WD} {sz : Nat} {as : List Value} : FrameBlind (va_Pc as (FPre G w sz)) := by
  intro a U g mk h
  obtain ⟨h0, h1, h2, h3, h4, h5⟩ := h
  exact ⟨h0, h1, h2, va_K.moved (u := U) (U := U.calling g mk a) (Vm.Alike.refl U.vm) h3, h4, h5.calling⟩
/-- what a caller owes at a call -/
theorem FPre.go {G : GX} {A : Nat → Prop} {s : State} {w : WD} {H : Heap} {locs : List Loc} (hK : va_K G.2.2.1 vwCl (TYS G.2.2.2) s) (hE : EV (G.2.1, G.2.2.2 5) A s s.heap) (hI : fI G.2.2.1 A s.heap w H locs) {as : List Value} {U : State} (hU : U.heap = H) (hW : s.WarmedH U.vm) : va_Pc as (FPre G w H.size) as.toArray U := by
  refine ⟨rfl, by rw [hU], by rw [hU]; exact hI.1, va_K.moved hW.alike hK, hI.2.1.weaken (fun _ _ => trivial), ?_⟩
  rw [hU]
  exact hE.next hI.2.2.1 hW hI.free
theorem FC.of {G : GX} {y : MethodName} {cc : ByteArray} {nL : Nat} {ret : Option FieldType} {rm : Room} {as : List Value} {w : WD} {po : Option Value → WD → Prop} (hy : plainName y.cls = true) (hlen : (lg_sl as).length ≤ nL)
    (body : ∀ (p : Program) (e : Env) (s : State) (m : MethodId) (below : List Frame) (meth : Method) (c : Code) (A : Nat → Prop) (ls : Array Slot), p.tables.exec = Jvm.exec → c.code = cc → meth.sig.returnType = ret → (∀ w ∈ WL, w.before as.toArray s = true) → s.vm.findClass y.cls = some m.cls → c.maxLocals = nL → meth.locks = false → meth.name = y.name → va_K G.2.2.1 vwCl (TYS G.2.2.2) s → EV (G.2.1, G.2.2.2 5) A s s.heap → fI G.2.2.1 A s.heap w s.heap [] → A = fA w s.heap.size → lv_has ls nL (lv_args 0 as) →
      W p G.1 e rm s m as.toArray below meth c s.heap [] 0 0 (MQ below (FQ G w s.heap.size po) as.toArray s rm.cells rm.slots (fA w s.heap.size)) (F0 m 0 ls [])) : FC G y cc nL ret rm as w po := by
  intro sz
  refine Met.ofW (cc := cc) (maxL := nL) (ret := ret) hy rfl ?_
  intro p e s m args below meth c s₁ B hml hv
  obtain ⟨rfl, hsz, hP, hK, hD0, hE⟩ := hv
  subst hsz
  have hts := atoms_spec (ws := Cond.code y cc nL ret :: WL) B.pre
  have hD : fD (fA w s.heap.size) w := ⟨hD0.1, fun k i q hq => fA.in hq⟩
  rw [lg_entry_eq]
  exact body p e s m below meth c (fA w s.heap.size) _ B.exec B.bytes B.returns (fun x hx => hts x (List.mem_cons_of_mem _ hx)) (findClass_of_methodNamed B.named) hml B.notSynchronized (name_of_methodNamed B.named B.method).1 hK hE ⟨hP, hD, va_S.rf, fun q h => Or.inr h⟩ rfl (lv_entry as hlen)
theorem FX.of {G : GX} {y : MethodName} {cc : ByteArray} {nL : Nat} {ret : Option FieldType} {rm : Room} {as : List Value} {w : WD} {po : Option Value → WD → Prop} {px : String → WD → Prop} (hy : plainName y.cls = true) (hlen : (lg_sl as).length ≤ nL)
    (body : ∀ (p : Program) (e : Env) (s : State) (m : MethodId) (below : List Frame) (meth : Method) (c : Code) (A : Nat → Prop) (ls : Array Slot), p.tables.exec = Jvm.exec → c.code = cc → meth.sig.returnType = ret → (∀ w ∈ WL, w.before as.toArray s = true) → s.vm.findClass y.cls = some m.cls → c.maxLocals = nL → meth.locks = false → (∀ x ∈ c.exceptionTable.toList, ∀ pc, covers x pc = false) → va_K G.2.2.1 vwCl (TYS G.2.2.2) s → EV (G.2.1, G.2.2.2 5) A s s.heap → fI G.2.2.1 A s.heap w s.heap [] → A = fA w s.heap.size → lv_has ls nL (lv_args 0 as) →
      W p G.1 e rm s m as.toArray below meth c s.heap [] 0 0 (vx_MQ below (FQ G w s.heap.size po) (FXq G w s.heap.size px) as.toArray s rm.cells rm.slots (fA w s.heap.size)) (F0 m 0 ls [])) : FX G y cc nL ret rm as w po px := by
  intro sz
  refine vx_ofW (cc := cc) (maxL := nL) (ret := ret) hy rfl ?_
  intro p e s m args below meth c s₁ B hml ht hv
  obtain ⟨rfl, hsz, hP, hK, hD0, hE⟩ := hv
  subst hsz
  have hts := atoms_spec (ws := Cond.code y cc nL ret :: WL) B.pre
  have hD : fD (fA w s.heap.size) w := ⟨hD0.1, fun k i q hq => fA.in hq⟩
  rw [lg_entry_eq]
  exact body p e s m below meth c (fA w s.heap.size) _ B.exec B.bytes B.returns (fun x hx => hts x (List.mem_cons_of_mem _ hx)) (findClass_of_methodNamed B.named) hml B.notSynchronized (fun x hx => (ht x hx).elim) hK hE ⟨hP, hD, va_S.rf, fun q h => Or.inr h⟩ rfl (lv_entry as hlen)
