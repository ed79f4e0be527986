/-! ===== rows over worlds that are functions ===== -/
/-- a call's words: of a virtual (or private) method, of a static one, of a constructor, of an interface's -/
def CkV (own : String) (index : Nat) (y : MethodName) (cc : ByteArray) (nL : Nat) (ret : Option FieldType) (n : Nat) : Prop :=
  Cond.code y cc nL ret ∈ WL ∧ Cond.methodLink own index y ∈ WL ∧ Cond.instanceMethod y ∈ WL ∧ Cond.selects y.cls y y ∈ WL ∧ Cond.initialized y.cls ∈ WL ∧ y.cls ≠ "java/lang/invoke/MethodHandle" ∧ y.cls ≠ "java/lang/invoke/VarHandle" ∧ (parseMethodDescriptor y.desc).map (fun d => d.parameters.length) = some n
def CkS (own : String) (index : Nat) (y : MethodName) (cc : ByteArray) (nL : Nat) (ret : Option FieldType) (n : Nat) : Prop :=
  Cond.code y cc nL ret ∈ WL ∧ Cond.methodLink own index y ∈ WL ∧ Cond.static y ∈ WL ∧ Cond.initialized y.cls ∈ WL ∧ y.cls ≠ "java/lang/invoke/MethodHandle" ∧ y.cls ≠ "java/lang/invoke/VarHandle" ∧ (parseMethodDescriptor y.desc).map (fun d => d.parameters.length) = some n
def CkI (own : String) (index : Nat) (y : MethodName) (cc : ByteArray) (nL : Nat) (n : Nat) : Prop :=
  Cond.code y cc nL none ∈ WL ∧ Cond.methodLink own index y ∈ WL ∧ Cond.instanceMethod y ∈ WL ∧ Cond.initialized y.cls ∈ WL ∧ y.name = "<init>" ∧ y.cls ≠ "java/lang/invoke/MethodHandle" ∧ y.cls ≠ "java/lang/invoke/VarHandle" ∧ (parseMethodDescriptor y.desc).map (fun d => d.parameters.length) = some n
def CkF (own : String) (index : Nat) (x y : MethodName) (cc : ByteArray) (nL : Nat) (ret : Option FieldType) (n : Nat) : Prop :=
  Cond.code y cc nL ret ∈ WL ∧ Cond.methodLink own index x ∈ WL ∧ Cond.selects y.cls x y ∈ WL ∧ Cond.instanceMethod y ∈ WL ∧ Cond.initialized y.cls ∈ WL ∧ (Cond.declares x ∈ XL ∧ Cond.interfaceMethod x.cls x.cls x.name x.desc ∈ XL ∧ Cond.publicMethod y ∈ XL ∧ Cond.unhidden y.cls x.name x.desc ∈ XL ∧ Cond.castable y.cls x.cls ∈ XL) ∧ x.cls ≠ "java/lang/invoke/MethodHandle" ∧ x.cls ≠ "java/lang/invoke/VarHandle" ∧ (parseMethodDescriptor x.desc).map (fun d => d.parameters.length) = some n
/-- contracts that tell answer and world outright -/
def pv (vv : Value) (w1 : WD) : Option Value → WD → Prop := fun v w' => v = some vv ∧ w' = w1
def p0 (w1 : WD) : Option Value → WD → Prop := fun v w' => v = none ∧ w' = w1
def pvx (thr : Option String) (vv : Value) (w1 : WD) : Option Value → WD → Prop := fun v w' => thr = none ∧ v = some vv ∧ w' = w1
def p0x (thr : Option String) (w1 : WD) : Option Value → WD → Prop := fun v w' => thr = none ∧ v = none ∧ w' = w1
def px (thr : Option String) (w0 : WD) : String → WD → Prop := fun E w' => thr = some E ∧ w' = w0
section FXR
variable {p : Program} {e : Env} {R : Room} {s : State} {m : MethodId} {args : Array Value} {below : List Frame} {meth : Method} {c : Code} {H : Heap} {locs : List Loc} {cells slots : Nat} {Q : State → Prop}
variable {cc : ByteArray} {pc : Nat} {ls : Array Slot} {rest : List Value} {G : GX} {A : Nat → Prop} {w : WD} {H0 : Heap} {own : String} {nL : Nat}
theorem fx_get (hx : p.tables.exec = Jvm.exec) (hb : c.code = cc) (hts : ∀ w ∈ WL, w.before args s = true) (hown : s.vm.findClass own = some m.cls) (hK : va_K G.2.2.1 vwCl (TYS G.2.2.2) s) (hI : fI G.2.2.1 A H0 w H locs) {ref C : String} {T : u_T} {N ci index : Nat} (hin : ∀ w ∈ u_ws C T N, w ∈ WL) (hc : vwCl[ci]? = some (C, T, N)) (f : Nat) (hf : f < N) (hlink : Cond.fieldLink own index ref (T f).2.1 (T f).2.2.1 ∈ WL) (hsame : ∀ x, s.fieldFound? (T f).1 (T f).2.1 (T f).2.2.1 = some x → s.fieldFound? ref (T f).2.1 (T f).2.2.1 = some x) {k i a : Nat} {fs : List Value} (he : w k i = some (a, .inr (ci, fs))) {v : Value} (hv : fs[f]? = some v) (hdg : decode cc pc = .ok (.getfield index, 3))
    (kk : W p G.1 e R s m args below meth c H locs cells slots Q (F0 m (pc + 3) ls (v :: rest))) : W p G.1 e R s m args below meth c H locs cells slots Q (F0 m pc ls (.ref a :: rest)) :=
  va_get (D := G.2.2.1) (cl := vwCl) (tys := TYS G.2.2.2) (ws := [(a, .inr (ci, fs))]) hx hb hts hin hown hK (fun n q hq => by
    cases n with
    | zero => cases hq; exact hI.1 k i _ he
    | succ n => simp at hq) 0 rfl hc f hf (hts _ hlink) hsame hv hdg kk
theorem fx_put (hx : p.tables.exec = Jvm.exec) (hb : c.code = cc) (hts : ∀ w ∈ WL, w.before args s = true) (hown : s.vm.findClass own = some m.cls) (hK : va_K G.2.2.1 vwCl (TYS G.2.2.2) s) (hI : fI G.2.2.1 A H0 w H locs) {ref C : String} {T : u_T} {N ci index : Nat} (hin : ∀ w ∈ u_ws C T N, w ∈ WL) (hc : vwCl[ci]? = some (C, T, N)) (ty0 : Nat → FieldType) (hty : ∀ k, k < N → parseFieldDescriptor (T k).2.2.1 = some (ty0 k)) (hnm : ∀ a, a < N → ∀ b, b < N → a ≠ b → (T a).2.1 ≠ (T b).2.1) (f : Nat) (hf : f < N) (hlink : Cond.fieldLink own index ref (T f).2.1 (T f).2.2.1 ∈ WL) (hsame : ∀ x, s.fieldFound? (T f).1 (T f).2.1 (T f).2.2.1 = some x → s.fieldFound? ref (T f).2.1 (T f).2.2.1 = some x) (hfin : (T f).2.2.2 = false) {k i a : Nat} {fs : List Value} (he : w k i = some (a, .inr (ci, fs))) {v : Value} (hn : narrow (ty0 f) v = v) (hfit : fits (ty0 f) v = true) (hl : f < fs.length) {w' : WD} (hw : fU w k i (a, .inr (ci, fs.set f v)) = w') (hdg : decode cc pc = .ok (.putfield index, 3))
    (kk : ∀ (H1 : Heap) (locs1 : List Loc), fI G.2.2.1 A H0 w' H1 locs1 → W p G.1 e R s m args below meth c H1 locs1 cells slots Q (F0 m (pc + 3) ls rest)) : W p G.1 e R s m args below meth c H locs cells slots Q (F0 m pc ls (v :: .ref a :: rest)) := by
  have hap := va_apart (own := own) hts hin ty0 hty hnm hK hc
  obtain ⟨r, h1, cell, q1, q2, q3, q4⟩ := hI.1 k i _ he
  have hr : r = (C, T, N) := Option.some.inj (h1.symm.trans hc)
  subst hr
  obtain ⟨hS, hfc, kC, hkC, hkind⟩ := hK.1 ci _ hc
  obtain ⟨cf, kf, fi, fd, hi, hsl⟩ := hS f hf
  have hlay := hts _ (hin _ (u_in_lay hf))
  unfold u_lay at hlay
  rw [if_neg (by rw [hfin]; decide)] at hlay
  have hst := (u_facts hfc hkC (u_lays hts hin hf) hi).1
  have h6 := u_store hfc hkC hkind hlay hi (hty f hf) hn hfit
  refine W.putK hx hb (f := fd) ⟨hown, hts _ hlink, ⟨_, _, _, hsame _ hi⟩, hst⟩ (by rw [q2]; exact h6) q1 q3 (by rw [hsl]; exact k2_hasslot (q4 f hf)) rfl rfl hdg fun H' e1 e2 e3 => ?_
  rw [hsl] at e1 ⊢
  have hI' := hI.set (e := .inr (ci, fs.set f v)) (j := G.2.2.1.2 ci f) he ⟨_, hc, t_OB.to (V := updV (vp_V fs) f v) ⟨_, e1, q2, q3, t_set q4 hap hf v⟩ (fun j _ => vp_updV_set hl v j)⟩ e2 e3
  rw [hw] at hI'
  exact kk H' _ hI'
theorem fx_putF (hx : p.tables.exec = Jvm.exec) (hb : c.code = cc) (hts : ∀ w ∈ WL, w.before args s = true) (hown : s.vm.findClass own = some m.cls) (hK : va_K G.2.2.1 vwCl (TYS G.2.2.2) s) (hI : fI G.2.2.1 A H0 w H locs) {ref C : String} {T : u_T} {N ci index : Nat} (hin : ∀ w ∈ u_ws C T N, w ∈ WL) (hc : vwCl[ci]? = some (C, T, N)) (ty0 : Nat → FieldType) (hty : ∀ k, k < N → parseFieldDescriptor (T k).2.2.1 = some (ty0 k)) (hnm : ∀ a, a < N → ∀ b, b < N → a ≠ b → (T a).2.1 ≠ (T b).2.1) (f : Nat) (hf : f < N) (hlink : Cond.fieldLink own index ref (T f).2.1 (T f).2.2.1 ∈ WL) (hsame : ∀ x, s.fieldFound? (T f).1 (T f).2.1 (T f).2.2.1 = some x → s.fieldFound? ref (T f).2.1 (T f).2.2.1 = some x) (hfin : (T f).2.2.2 = true) (hin2 : meth.name = "<init>") (hdecl : (T f).1 = own) {k i a : Nat} {fs : List Value} (he : w k i = some (a, .inr (ci, fs))) {v : Value} (hn : narrow (ty0 f) v = v) (hfit : fits (ty0 f) v = true) (hl : f < fs.length) {w' : WD} (hw : fU w k i (a, .inr (ci, fs.set f v)) = w') (hdg : decode cc pc = .ok (.putfield index, 3))
    (kk : ∀ (H1 : Heap) (locs1 : List Loc), fI G.2.2.1 A H0 w' H1 locs1 → W p G.1 e R s m args below meth c H1 locs1 cells slots Q (F0 m (pc + 3) ls rest)) : W p G.1 e R s m args below meth c H locs cells slots Q (F0 m pc ls (v :: .ref a :: rest)) := by
  have hap := va_apart (own := own) hts hin ty0 hty hnm hK hc
  obtain ⟨r, h1, cell, q1, q2, q3, q4⟩ := hI.1 k i _ he
  have hr : r = (C, T, N) := Option.some.inj (h1.symm.trans hc)
  subst hr
  obtain ⟨hS, hfc, kC, hkC, hkind⟩ := hK.1 ci _ hc
  obtain ⟨cf, kf, fi, fd, hi, hsl⟩ := hS f hf
  have hlay := hts _ (hin _ (u_in_lay hf))
  unfold u_lay at hlay
  rw [if_pos hfin] at hlay
  have hst := (u_facts hfc hkC (u_lays hts hin hf) hi).1
  have hcf : m.cls = cf := by
    obtain ⟨_, _, c', _, _, _, -, -, hf', -, -, -, hown2, -⟩ := Cond.laysFinal_spec hlay
    have e1 : c' = cf := by have := hi.symm.trans hf'; simp at this; exact this.1.symm
    rw [hdecl] at hown2
    rw [← e1]; exact Option.some.inj (hown.symm.trans hown2)
  have h6 := u_fits hfc hkC hkind (Or.inr hlay) hi (hty f hf) hn hfit
  refine W.putFinK hx hb hown (hts _ hlink) (hsame _ hi) hst hcf hin2 (by rw [q2]; exact h6) q1 q3 (by rw [hsl]; exact k2_hasslot (q4 f hf)) rfl rfl hdg fun H' e1 e2 e3 => ?_
  rw [hsl] at e1 ⊢
  have hI' := hI.set (e := .inr (ci, fs.set f v)) (j := G.2.2.1.2 ci f) he ⟨_, hc, t_OB.to (V := updV (vp_V fs) f v) ⟨_, e1, q2, q3, t_set q4 hap hf v⟩ (fun j _ => vp_updV_set hl v j)⟩ e2 e3
  rw [hw] at hI'
  exact kk H' _ hI'
theorem fx_new (hx : p.tables.exec = Jvm.exec) (hb : c.code = cc) (hts : ∀ w ∈ WL, w.before args s = true) (hown : s.vm.findClass own = some m.cls) (hK : va_K G.2.2.1 vwCl (TYS G.2.2.2) s) (hI : fI G.2.2.1 A H0 w H locs) {C : String} {T : u_T} {N ci index : Nat} (hin : ∀ w ∈ u_ws C T N, w ∈ WL) (hc : vwCl[ci]? = some (C, T, N)) (ty0 : Nat → FieldType) (hty : ∀ k, k < N → parseFieldDescriptor (T k).2.2.1 = some (ty0 k)) (hcl : Cond.classLink own index C ∈ WL) (hinst : Cond.instantiable C N ∈ WL) (hini : Cond.initialized C ∈ WL) {fs : List Value} (hfs : ∀ j, j < N → defaultValue (ty0 j) = vp_V fs j) (hcells : cells + 1 ≤ R.cells) (hslots : slots + N ≤ R.slots) {k i : Nat} (hn : w k i = none) (hdg : decode cc pc = .ok (.new index, 3))
    (kk : ∀ (H1 : Heap), fI G.2.2.1 A H0 (fU w k i (H.size, .inr (ci, fs))) H1 locs → H1.size = H.size + 1 → W p G.1 e R s m args below meth c H1 locs (cells + 1) (slots + N) Q (F0 m (pc + 3) ls (.ref H.size :: rest))) : W p G.1 e R s m args below meth c H locs cells slots Q (F0 m pc ls rest) := by
  have hKn := hK.1 ci _ hc
  refine W.newcK hx hb hown (hts _ hcl) (hts _ hinst) (hts _ hini) rfl hdg hcells hslots hKn.2.1 rfl fun H1 kC hkC e1 z1 o1 => ?_
  exact kk H1 (hI.push hn ⟨_, hc, (u_born ty0 hts hin hKn hkC e1 hty).to hfs⟩ z1 o1) z1
theorem fx_iald (hx : p.tables.exec = Jvm.exec) (hb : c.code = cc) (hK : va_K G.2.2.1 vwCl (TYS G.2.2.2) s) (hI : fI G.2.2.1 A H0 w H locs) {k j a n : Nat} {f : Nat → Int32} (he : w k j = some (a, .inl (G.2.2.2 0, n, .inl f))) {i : Int32} (hin : vp_in i n) (hdg : decode cc pc = .ok (.iaload, 1))
    (kk : W p G.1 e R s m args below meth c H locs cells slots Q (F0 m (pc + 1) ls (.int (f i.toNatClampNeg) :: rest))) : W p G.1 e R s m args below meth c H locs cells slots Q (F0 m pc ls (.int i :: .ref a :: rest)) := by
  have hlt : i.toNatClampNeg < n := Nat.not_le.mp fun q => hin (Or.inr q)
  exact W.iald (v := .int (f i.toNatClampNeg)) hx hb (hI.1 k j _ he) ((hK.2 0 _ rfl).1 n (fun j => .int (f j))) (fun q => by cases q) (by show ¬ (i < 0 ∨ (arrV _ _ _).slots.size ≤ _); rw [arrV_size]; exact hin) (by show (arrV _ _ _).slots[_]? = _; rw [arrV_read _ _ hlt]) rfl rfl hdg kk
theorem fx_iast (hx : p.tables.exec = Jvm.exec) (hb : c.code = cc) (hK : va_K G.2.2.1 vwCl (TYS G.2.2.2) s) (hI : fI G.2.2.1 A H0 w H locs) {k j a n : Nat} {f : Nat → Int32} (he : w k j = some (a, .inl (G.2.2.2 0, n, .inl f))) {i x : Int32} (hin : vp_in i n) {w' : WD} (hw : fU w k j (a, .inl (G.2.2.2 0, n, .inl (upd f i.toNatClampNeg x))) = w') (hdg : decode cc pc = .ok (.iastore, 1))
    (kk : ∀ (H1 : Heap) (locs1 : List Loc), fI G.2.2.1 A H0 w' H1 locs1 → W p G.1 e R s m args below meth c H1 locs1 cells slots Q (F0 m (pc + 1) ls rest)) : W p G.1 e R s m args below meth c H locs cells slots Q (F0 m pc ls (.int x :: .int i :: .ref a :: rest)) := by
  refine W.iast hx hb (hI.1 k j _ he) ((hK.2 0 _ rfl).1 n (fun j => .int (f j))) (fun q => by cases q) (by show ¬ (i < 0 ∨ (arrV _ _ _).slots.size ≤ _); rw [arrV_size]; exact hin) rfl rfl hdg fun H1 e z oq => ?_
  have hI' := hI.set (e := .inl (G.2.2.2 0, n, .inl (upd f i.toNatClampNeg x))) (j := i.toNatClampNeg) he (by
    show H1[a]? = some (vp_cell _ _)
    rw [e]
    rw [vp_cell_i, vp_cell_i, arrV_store]
    congr 2
    funext q
    by_cases hq : q = i.toNatClampNeg
    · subst hq
      simp [updV, upd]
    · simp [updV, upd, hq]) z oq
  rw [hw] at hI'
  exact kk H1 _ hI'
end FXR
