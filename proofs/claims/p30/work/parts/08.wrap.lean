/-! ===== wrappers for walks that a program lays ===== -/
def bI (P : Prop) [Decidable P] : Int32 := if P then 1 else 0
theorem bI_t {P : Prop} [Decidable P] (h : P) : bI P = 1 := if_pos h
theorem bI_f {P : Prop} [Decidable P] (h : ¬ P) : bI P = 0 := if_neg h
theorem bI_nar {P : Prop} [Decidable P] : vp_nar .boolean (bI P) = bI P := by
  by_cases h : P
  · rw [bI_t h]; decide
  · rw [bI_f h]; decide
theorem bI_narrow {P : Prop} [Decidable P] : narrow .boolean (.int (bI P)) = .int (bI P) := by
  by_cases h : P
  · rw [bI_t h]; decide
  · rw [bI_f h]; decide
theorem bI_ite (c : Prop) [Decidable c] : (if c then (1 : Int32) else 0) = bI c := rfl
theorem bI_iten (c : Prop) [Decidable c] : (if c then (0 : Int32) else 1) = bI (¬ c) := by
  by_cases h : c
  · rw [if_pos h, bI_f (fun k => k h)]
  · rw [if_neg h, bI_t h]
theorem bI_congr {P Q : Prop} [Decidable P] [Decidable Q] (h : P ↔ Q) : bI P = bI Q := by
  by_cases k : P
  · rw [bI_t k, bI_t (h.mp k)]
  · rw [bI_f k, bI_f (fun q => k (h.mpr q))]
theorem FC.go {G : GX} {y : MethodName} {cc : ByteArray} {nL : Nat} {ret : Option FieldType} {rm : Room} {as : List Value} {w : WD} {po : Option Value → WD → Prop} (hy : plainName y.cls = true) (hlen : (lg_sl as).length ≤ nL) {lv : List (Nat × Value)} (hlv : lv_args 0 as = lv)
    (body : ∀ (p : Program) (e : Env) (s : State) (m : MethodId) (args : Array Value) (below : List Frame) (meth : Method) (c : Code) (A : Nat → Prop) (H : Heap) (locs : List Loc) (ls : Array Slot) (Q : State → Prop), p.tables.exec = Jvm.exec → c.code = cc → meth.sig.returnType = ret → (∀ w ∈ WL, w.before args s = true) → s.vm.findClass y.cls = some m.cls → c.maxLocals = nL → meth.locks = false → meth.name = y.name → va_K G.2.2.1 vwCl (TYS G.2.2.2) s → EV (G.2.1, G.2.2.2 5) A s s.heap → fI G.2.2.1 A s.heap w H locs → A = fA w s.heap.size → lv_has ls nL lv → Q = MQ below (FQ G w s.heap.size po) args s rm.cells rm.slots (fA w s.heap.size) →
      W p G.1 e rm s m args below meth c H locs 0 0 Q (F0 m 0 ls [])) : FC G y cc nL ret rm as w po :=
  FC.of hy hlen fun p e s m below meth c A ls h1 h2 h3 h4 h5 h6 h7 h8 h9 h10 h11 h12 h13 => body p e s m as.toArray below meth c A s.heap [] ls _ h1 h2 h3 h4 h5 h6 h7 h8 h9 h10 h11 h12 (hlv ▸ h13) rfl
theorem FX.go {G : GX} {y : MethodName} {cc : ByteArray} {nL : Nat} {ret : Option FieldType} {rm : Room} {as : List Value} {w : WD} {po : Option Value → WD → Prop} {pX : String → WD → Prop} (hy : plainName y.cls = true) (hlen : (lg_sl as).length ≤ nL) {lv : List (Nat × Value)} (hlv : lv_args 0 as = lv)
    (body : ∀ (p : Program) (e : Env) (s : State) (m : MethodId) (args : Array Value) (below : List Frame) (meth : Method) (c : Code) (A : Nat → Prop) (H : Heap) (locs : List Loc) (ls : Array Slot) (Q : State → Prop), p.tables.exec = Jvm.exec → c.code = cc → meth.sig.returnType = ret → (∀ w ∈ WL, w.before args s = true) → s.vm.findClass y.cls = some m.cls → c.maxLocals = nL → meth.locks = false → (∀ x ∈ c.exceptionTable.toList, ∀ pc, covers x pc = false) → va_K G.2.2.1 vwCl (TYS G.2.2.2) s → EV (G.2.1, G.2.2.2 5) A s s.heap → fI G.2.2.1 A s.heap w H locs → A = fA w s.heap.size → lv_has ls nL lv → Q = vx_MQ below (FQ G w s.heap.size po) (FXq G w s.heap.size pX) args s rm.cells rm.slots (fA w s.heap.size) →
      W p G.1 e rm s m args below meth c H locs 0 0 Q (F0 m 0 ls [])) : FX G y cc nL ret rm as w po pX :=
  FX.of hy hlen fun p e s m below meth c A ls h1 h2 h3 h4 h5 h6 h7 h8 h9 h10 h11 h12 h13 => body p e s m as.toArray below meth c A s.heap [] ls _ h1 h2 h3 h4 h5 h6 h7 h8 h9 h10 h11 h12 (hlv ▸ h13) rfl
section FXD
variable {p : Program} {e : Env} {R : Room} {s : State} {m : MethodId} {args : Array Value} {below : List Frame} {meth : Method} {c : Code} {H : Heap} {locs : List Loc} {cells slots : Nat} {Q : State → Prop}
variable {cc : ByteArray} {pc : Nat} {ls : Array Slot} {rest st0 : List Value} {G : GX} {A : Nat → Prop} {w w0 w1 : WD} {own : String} {nL mc ms : Nat} {po : Option Value → WD → Prop} {pX : String → WD → Prop} {vv : Value} {thr : Option String}
theorem xb_eq {P : Prop} [Decidable P] (hx : p.tables.exec = Jvm.exec) (hb : c.code = cc) {off : Int} {tgt : Nat} (hdg : decode cc pc = .ok (.ifCond .eq off, 3)) (ht : (pc : Int) + off = (tgt : Int)) (kt : ¬ P → W p G.1 e R s m args below meth c H locs cells slots Q (F0 m tgt ls rest)) (kf : P → W p G.1 e R s m args below meth c H locs cells slots Q (F0 m (pc + 3) ls rest)) : W p G.1 e R s m args below meth c H locs cells slots Q (F0 m pc ls (.int (bI P) :: rest)) :=
  lv_if_eq hx hb hdg ht (fun h => kt (fun k => by rw [bI_t k] at h; exact absurd h (by decide))) (fun h => kf (Classical.byContradiction fun k => h (bI_f k)))
theorem xb_ne {P : Prop} [Decidable P] (hx : p.tables.exec = Jvm.exec) (hb : c.code = cc) {off : Int} {tgt : Nat} (hdg : decode cc pc = .ok (.ifCond .ne off, 3)) (ht : (pc : Int) + off = (tgt : Int)) (kt : P → W p G.1 e R s m args below meth c H locs cells slots Q (F0 m tgt ls rest)) (kf : ¬ P → W p G.1 e R s m args below meth c H locs cells slots Q (F0 m (pc + 3) ls rest)) : W p G.1 e R s m args below meth c H locs cells slots Q (F0 m pc ls (.int (bI P) :: rest)) :=
  lv_if_ne hx hb hdg ht (fun h => kt (Classical.byContradiction fun k => h (bI_f k))) (fun h => kf (fun k => by rw [bI_t k] at h; exact absurd h (by decide)))
theorem cVv {y : MethodName} {cc' : ByteArray} {nL' index : Nat} {ret' : Option FieldType} {rm : Room} {as : List Value} {b : Nat} (hx : p.tables.exec = Jvm.exec) (hb : c.code = cc) (hml : c.maxLocals = nL) (hts : ∀ w ∈ WL, w.before args s = true) (hown : s.vm.findClass own = some m.cls) (hK : va_K G.2.2.1 vwCl (TYS G.2.2.2) s) (hE : EV (G.2.1, G.2.2.2 5) A s s.heap) (hI : fI G.2.2.1 A s.heap w H locs) (hC : FC G y cc' nL' ret' rm (.ref b :: as) w (pv vv w1)) (hk : CkV own index y cc' nL' ret' as.length) (hR : rm.frames + 1 ≤ R.frames ∧ 8 + (nL' + 11) + rm.locals ≤ R.locals) (h0 : rm.cells = 0) (h00 : rm.slots = 0) {kk ii ci : Nat} {fs : List Value} {q : vw_C} (he : w kk ii = some (b, .inr (ci, fs))) (hc : vwCl[ci]? = some q) (hq : q.1 = y.cls) (hsize : ls.size = nL) (hst : as.reverse ++ .ref b :: rest = st0) (hroom : (rest.map fun v => v.category).sum ≤ 8) (hdg : decode cc pc = .ok (.invokevirtual index, 3)) (hf : cells ≤ R.cells ∧ slots ≤ R.slots)
    (k : ∀ (H1 : Heap) (locs1 : List Loc), fI G.2.2.1 A s.heap w1 H1 locs1 → W p G.1 e R s m args below meth c H1 locs1 cells slots Q (F0 m (pc + 3) ls (vv :: rest))) : W p G.1 e R s m args below meth c H locs cells slots Q (F0 m pc ls st0) := by
  subst hst
  refine fx_callV hx hb hml hts hown hK hE hI hC hk hR he hc hq hsize hroom hdg ⟨by rw [h0]; exact hf.1, by rw [h00]; exact hf.2⟩ (fun v w' H1 locs1 hp hI => ?_)
  obtain ⟨rfl, rfl⟩ := hp
  rw [h0, h00]
  exact k H1 locs1 hI
theorem cV0 {y : MethodName} {cc' : ByteArray} {nL' index : Nat} {ret' : Option FieldType} {rm : Room} {as : List Value} {b : Nat} (hx : p.tables.exec = Jvm.exec) (hb : c.code = cc) (hml : c.maxLocals = nL) (hts : ∀ w ∈ WL, w.before args s = true) (hown : s.vm.findClass own = some m.cls) (hK : va_K G.2.2.1 vwCl (TYS G.2.2.2) s) (hE : EV (G.2.1, G.2.2.2 5) A s s.heap) (hI : fI G.2.2.1 A s.heap w H locs) (hC : FC G y cc' nL' ret' rm (.ref b :: as) w (p0 w1)) (hk : CkV own index y cc' nL' ret' as.length) (hR : rm.frames + 1 ≤ R.frames ∧ 8 + (nL' + 11) + rm.locals ≤ R.locals) (h0 : rm.cells = 0) (h00 : rm.slots = 0) {kk ii ci : Nat} {fs : List Value} {q : vw_C} (he : w kk ii = some (b, .inr (ci, fs))) (hc : vwCl[ci]? = some q) (hq : q.1 = y.cls) (hsize : ls.size = nL) (hst : as.reverse ++ .ref b :: rest = st0) (hroom : (rest.map fun v => v.category).sum ≤ 8) (hdg : decode cc pc = .ok (.invokevirtual index, 3)) (hf : cells ≤ R.cells ∧ slots ≤ R.slots)
    (k : ∀ (H1 : Heap) (locs1 : List Loc), fI G.2.2.1 A s.heap w1 H1 locs1 → W p G.1 e R s m args below meth c H1 locs1 cells slots Q (F0 m (pc + 3) ls rest)) : W p G.1 e R s m args below meth c H locs cells slots Q (F0 m pc ls st0) := by
  subst hst
  refine fx_callV hx hb hml hts hown hK hE hI hC hk hR he hc hq hsize hroom hdg ⟨by rw [h0]; exact hf.1, by rw [h00]; exact hf.2⟩ (fun v w' H1 locs1 hp hI => ?_)
  obtain ⟨rfl, rfl⟩ := hp
  rw [h0, h00]
  exact k H1 locs1 hI
theorem cSv {y : MethodName} {cc' : ByteArray} {nL' index : Nat} {ret' : Option FieldType} {rm : Room} {as : List Value} (hx : p.tables.exec = Jvm.exec) (hb : c.code = cc) (hml : c.maxLocals = nL) (hts : ∀ w ∈ WL, w.before args s = true) (hown : s.vm.findClass own = some m.cls) (hK : va_K G.2.2.1 vwCl (TYS G.2.2.2) s) (hE : EV (G.2.1, G.2.2.2 5) A s s.heap) (hI : fI G.2.2.1 A s.heap w H locs) (hC : FC G y cc' nL' ret' rm (as) w (pv vv w1)) (hk : CkS own index y cc' nL' ret' as.length) (hR : rm.frames + 1 ≤ R.frames ∧ 8 + (nL' + 11) + rm.locals ≤ R.locals) (h0 : rm.cells = 0) (h00 : rm.slots = 0)  (hsize : ls.size = nL) (hst : as.reverse ++ rest = st0) (hroom : (rest.map fun v => v.category).sum ≤ 8) (hdg : decode cc pc = .ok (.invokestatic index, 3)) (hf : cells ≤ R.cells ∧ slots ≤ R.slots)
    (k : ∀ (H1 : Heap) (locs1 : List Loc), fI G.2.2.1 A s.heap w1 H1 locs1 → W p G.1 e R s m args below meth c H1 locs1 cells slots Q (F0 m (pc + 3) ls (vv :: rest))) : W p G.1 e R s m args below meth c H locs cells slots Q (F0 m pc ls st0) := by
  subst hst
  refine fx_callS hx hb hml hts hown hK hE hI hC hk hR hsize hroom hdg ⟨by rw [h0]; exact hf.1, by rw [h00]; exact hf.2⟩ (fun v w' H1 locs1 hp hI => ?_)
  obtain ⟨rfl, rfl⟩ := hp
  rw [h0, h00]
  exact k H1 locs1 hI
theorem cS0 {y : MethodName} {cc' : ByteArray} {nL' index : Nat} {ret' : Option FieldType} {rm : Room} {as : List Value} (hx : p.tables.exec = Jvm.exec) (hb : c.code = cc) (hml : c.maxLocals = nL) (hts : ∀ w ∈ WL, w.before args s = true) (hown : s.vm.findClass own = some m.cls) (hK : va_K G.2.2.1 vwCl (TYS G.2.2.2) s) (hE : EV (G.2.1, G.2.2.2 5) A s s.heap) (hI : fI G.2.2.1 A s.heap w H locs) (hC : FC G y cc' nL' ret' rm (as) w (p0 w1)) (hk : CkS own index y cc' nL' ret' as.length) (hR : rm.frames + 1 ≤ R.frames ∧ 8 + (nL' + 11) + rm.locals ≤ R.locals) (h0 : rm.cells = 0) (h00 : rm.slots = 0)  (hsize : ls.size = nL) (hst : as.reverse ++ rest = st0) (hroom : (rest.map fun v => v.category).sum ≤ 8) (hdg : decode cc pc = .ok (.invokestatic index, 3)) (hf : cells ≤ R.cells ∧ slots ≤ R.slots)
    (k : ∀ (H1 : Heap) (locs1 : List Loc), fI G.2.2.1 A s.heap w1 H1 locs1 → W p G.1 e R s m args below meth c H1 locs1 cells slots Q (F0 m (pc + 3) ls rest)) : W p G.1 e R s m args below meth c H locs cells slots Q (F0 m pc ls st0) := by
  subst hst
  refine fx_callS hx hb hml hts hown hK hE hI hC hk hR hsize hroom hdg ⟨by rw [h0]; exact hf.1, by rw [h00]; exact hf.2⟩ (fun v w' H1 locs1 hp hI => ?_)
  obtain ⟨rfl, rfl⟩ := hp
  rw [h0, h00]
  exact k H1 locs1 hI
theorem cFv {x y : MethodName} {cc' : ByteArray} {nL' index count : Nat} {ret' : Option FieldType} {rm : Room} {as : List Value} {b : Nat} (hx : p.tables.exec = Jvm.exec) (hb : c.code = cc) (hml : c.maxLocals = nL) (hts : ∀ w ∈ WL, w.before args s = true) (hown : s.vm.findClass own = some m.cls) (hK : va_K G.2.2.1 vwCl (TYS G.2.2.2) s) (hE : EV (G.2.1, G.2.2.2 5) A s s.heap) (hI : fI G.2.2.1 A s.heap w H locs) (hC : FC G y cc' nL' ret' rm (.ref b :: as) w (pv vv w1)) (hk : CkF own index x y cc' nL' ret' as.length) (hR : rm.frames + 1 ≤ R.frames ∧ 8 + (nL' + 11) + rm.locals ≤ R.locals) (h0 : rm.cells = 0) (h00 : rm.slots = 0) {kk ii ci : Nat} {fs : List Value} {q : vw_C} (he : w kk ii = some (b, .inr (ci, fs))) (hc : vwCl[ci]? = some q) (hq : q.1 = y.cls) (hsize : ls.size = nL) (hst : as.reverse ++ .ref b :: rest = st0) (hroom : (rest.map fun v => v.category).sum ≤ 8) (hdg : decode cc pc = .ok (.invokeinterface index count, 5)) (hf : cells ≤ R.cells ∧ slots ≤ R.slots)
    (k : ∀ (H1 : Heap) (locs1 : List Loc), fI G.2.2.1 A s.heap w1 H1 locs1 → W p G.1 e R s m args below meth c H1 locs1 cells slots Q (F0 m (pc + 5) ls (vv :: rest))) : W p G.1 e R s m args below meth c H locs cells slots Q (F0 m pc ls st0) := by
  subst hst
  refine fx_callF hx hb hml hts hown hK hE hI hC hk hR he hc hq hsize hroom hdg ⟨by rw [h0]; exact hf.1, by rw [h00]; exact hf.2⟩ (fun v w' H1 locs1 hp hI => ?_)
  obtain ⟨rfl, rfl⟩ := hp
  rw [h0, h00]
  exact k H1 locs1 hI
theorem cF0 {x y : MethodName} {cc' : ByteArray} {nL' index count : Nat} {ret' : Option FieldType} {rm : Room} {as : List Value} {b : Nat} (hx : p.tables.exec = Jvm.exec) (hb : c.code = cc) (hml : c.maxLocals = nL) (hts : ∀ w ∈ WL, w.before args s = true) (hown : s.vm.findClass own = some m.cls) (hK : va_K G.2.2.1 vwCl (TYS G.2.2.2) s) (hE : EV (G.2.1, G.2.2.2 5) A s s.heap) (hI : fI G.2.2.1 A s.heap w H locs) (hC : FC G y cc' nL' ret' rm (.ref b :: as) w (p0 w1)) (hk : CkF own index x y cc' nL' ret' as.length) (hR : rm.frames + 1 ≤ R.frames ∧ 8 + (nL' + 11) + rm.locals ≤ R.locals) (h0 : rm.cells = 0) (h00 : rm.slots = 0) {kk ii ci : Nat} {fs : List Value} {q : vw_C} (he : w kk ii = some (b, .inr (ci, fs))) (hc : vwCl[ci]? = some q) (hq : q.1 = y.cls) (hsize : ls.size = nL) (hst : as.reverse ++ .ref b :: rest = st0) (hroom : (rest.map fun v => v.category).sum ≤ 8) (hdg : decode cc pc = .ok (.invokeinterface index count, 5)) (hf : cells ≤ R.cells ∧ slots ≤ R.slots)
    (k : ∀ (H1 : Heap) (locs1 : List Loc), fI G.2.2.1 A s.heap w1 H1 locs1 → W p G.1 e R s m args below meth c H1 locs1 cells slots Q (F0 m (pc + 5) ls rest)) : W p G.1 e R s m args below meth c H locs cells slots Q (F0 m pc ls st0) := by
  subst hst
  refine fx_callF hx hb hml hts hown hK hE hI hC hk hR he hc hq hsize hroom hdg ⟨by rw [h0]; exact hf.1, by rw [h00]; exact hf.2⟩ (fun v w' H1 locs1 hp hI => ?_)
  obtain ⟨rfl, rfl⟩ := hp
  rw [h0, h00]
  exact k H1 locs1 hI
theorem cI0 {y : MethodName} {cc' : ByteArray} {nL' index : Nat} {rm : Room} {as : List Value} {b : Nat} (hx : p.tables.exec = Jvm.exec) (hb : c.code = cc) (hml : c.maxLocals = nL) (hts : ∀ w ∈ WL, w.before args s = true) (hown : s.vm.findClass own = some m.cls) (hK : va_K G.2.2.1 vwCl (TYS G.2.2.2) s) (hE : EV (G.2.1, G.2.2.2 5) A s s.heap) (hI : fI G.2.2.1 A s.heap w H locs) (hC : FC G y cc' nL' none rm (.ref b :: as) w (p0 w1)) (hk : CkI own index y cc' nL' as.length) (hR : rm.frames + 1 ≤ R.frames ∧ 8 + (nL' + 11) + rm.locals ≤ R.locals) (h0 : rm.cells = 0) (h00 : rm.slots = 0)  (hsize : ls.size = nL) (hst : as.reverse ++ .ref b :: rest = st0) (hroom : (rest.map fun v => v.category).sum ≤ 8) (hdg : decode cc pc = .ok (.invokespecial index, 3)) (hf : cells ≤ R.cells ∧ slots ≤ R.slots)
    (k : ∀ (H1 : Heap) (locs1 : List Loc), fI G.2.2.1 A s.heap w1 H1 locs1 → W p G.1 e R s m args below meth c H1 locs1 cells slots Q (F0 m (pc + 3) ls rest)) : W p G.1 e R s m args below meth c H locs cells slots Q (F0 m pc ls st0) := by
  subst hst
  refine fx_callI hx hb hml hts hown hK hE hI hC hk hR hsize hroom hdg ⟨by rw [h0]; exact hf.1, by rw [h00]; exact hf.2⟩ (fun v w' H1 locs1 hp hI => ?_)
  obtain ⟨rfl, rfl⟩ := hp
  rw [h0, h00]
  exact k H1 locs1 hI
theorem cxVv {y : MethodName} {cc' : ByteArray} {nL' index : Nat} {ret' : Option FieldType} {rm : Room} {as : List Value} {b : Nat} (hx : p.tables.exec = Jvm.exec) (hb : c.code = cc) (hml : c.maxLocals = nL) (hts : ∀ w ∈ WL, w.before args s = true) (hown : s.vm.findClass own = some m.cls) (hK : va_K G.2.2.1 vwCl (TYS G.2.2.2) s) (hE : EV (G.2.1, G.2.2.2 5) A s s.heap) (hI : fI G.2.2.1 A s.heap w H locs) (hC : FX G y cc' nL' ret' rm (.ref b :: as) w (pvx thr vv w1) (px thr w)) (hk : CkV own index y cc' nL' ret' as.length) (hR : rm.frames + 1 ≤ R.frames ∧ 8 + (nL' + 11) + rm.locals ≤ R.locals) (h0 : rm.cells = 0) (h00 : rm.slots = 0) {kk ii ci : Nat} {fs : List Value} {q : vw_C} (he : w kk ii = some (b, .inr (ci, fs))) (hc : vwCl[ci]? = some q) (hq : q.1 = y.cls) (hsize : ls.size = nL) (hst : as.reverse ++ .ref b :: rest = st0) (hroom : (rest.map fun v => v.category).sum ≤ 8) (hdg : decode cc pc = .ok (.invokevirtual index, 3)) (hf : cells ≤ R.cells ∧ slots ≤ R.slots)
    (kx : ∀ (E : String) (ce : Cell) (q9 : Addr) (H1 : Heap) (locs1 : List Loc), thr = some E → fI G.2.2.1 A s.heap w H1 locs1 → H1[q9]? = some ce → ce.vm = .none → s.vm.findClass E = some ce.cls → vx_W p G.1 e R s m args below meth c H1 locs1 cells slots Q (F0 m pc ls rest) q9) (k : thr = none → ∀ (H1 : Heap) (locs1 : List Loc), fI G.2.2.1 A s.heap w1 H1 locs1 → W p G.1 e R s m args below meth c H1 locs1 cells slots Q (F0 m (pc + 3) ls (vv :: rest))) : W p G.1 e R s m args below meth c H locs cells slots Q (F0 m pc ls st0) := by
  subst hst
  refine fx_xcallV hx hb hml hts hown hK hE hI hC hk hR he hc hq hsize hroom hdg ⟨by rw [h0]; exact hf.1, by rw [h00]; exact hf.2⟩ (fun E ce q9 w' H1 locs1 hp hI h1 h2 h3 => ?_) (fun v w' H1 locs1 hp hI => ?_)
  · obtain ⟨e1, e2⟩ := hp
    rw [e2] at hI
    rw [h0, h00]
    exact kx E ce q9 H1 locs1 e1 hI h1 h2 h3
  · obtain ⟨e1, rfl, rfl⟩ := hp
    rw [h0, h00]
    exact k e1 H1 locs1 hI
theorem cxV0 {y : MethodName} {cc' : ByteArray} {nL' index : Nat} {ret' : Option FieldType} {rm : Room} {as : List Value} {b : Nat} (hx : p.tables.exec = Jvm.exec) (hb : c.code = cc) (hml : c.maxLocals = nL) (hts : ∀ w ∈ WL, w.before args s = true) (hown : s.vm.findClass own = some m.cls) (hK : va_K G.2.2.1 vwCl (TYS G.2.2.2) s) (hE : EV (G.2.1, G.2.2.2 5) A s s.heap) (hI : fI G.2.2.1 A s.heap w H locs) (hC : FX G y cc' nL' ret' rm (.ref b :: as) w (p0x thr w1) (px thr w)) (hk : CkV own index y cc' nL' ret' as.length) (hR : rm.frames + 1 ≤ R.frames ∧ 8 + (nL' + 11) + rm.locals ≤ R.locals) (h0 : rm.cells = 0) (h00 : rm.slots = 0) {kk ii ci : Nat} {fs : List Value} {q : vw_C} (he : w kk ii = some (b, .inr (ci, fs))) (hc : vwCl[ci]? = some q) (hq : q.1 = y.cls) (hsize : ls.size = nL) (hst : as.reverse ++ .ref b :: rest = st0) (hroom : (rest.map fun v => v.category).sum ≤ 8) (hdg : decode cc pc = .ok (.invokevirtual index, 3)) (hf : cells ≤ R.cells ∧ slots ≤ R.slots)
    (kx : ∀ (E : String) (ce : Cell) (q9 : Addr) (H1 : Heap) (locs1 : List Loc), thr = some E → fI G.2.2.1 A s.heap w H1 locs1 → H1[q9]? = some ce → ce.vm = .none → s.vm.findClass E = some ce.cls → vx_W p G.1 e R s m args below meth c H1 locs1 cells slots Q (F0 m pc ls rest) q9) (k : thr = none → ∀ (H1 : Heap) (locs1 : List Loc), fI G.2.2.1 A s.heap w1 H1 locs1 → W p G.1 e R s m args below meth c H1 locs1 cells slots Q (F0 m (pc + 3) ls rest)) : W p G.1 e R s m args below meth c H locs cells slots Q (F0 m pc ls st0) := by
  subst hst
  refine fx_xcallV hx hb hml hts hown hK hE hI hC hk hR he hc hq hsize hroom hdg ⟨by rw [h0]; exact hf.1, by rw [h00]; exact hf.2⟩ (fun E ce q9 w' H1 locs1 hp hI h1 h2 h3 => ?_) (fun v w' H1 locs1 hp hI => ?_)
  · obtain ⟨e1, e2⟩ := hp
    rw [e2] at hI
    rw [h0, h00]
    exact kx E ce q9 H1 locs1 e1 hI h1 h2 h3
  · obtain ⟨e1, rfl, rfl⟩ := hp
    rw [h0, h00]
    exact k e1 H1 locs1 hI
theorem cxSv {y : MethodName} {cc' : ByteArray} {nL' index : Nat} {ret' : Option FieldType} {rm : Room} {as : List Value} (hx : p.tables.exec = Jvm.exec) (hb : c.code = cc) (hml : c.maxLocals = nL) (hts : ∀ w ∈ WL, w.before args s = true) (hown : s.vm.findClass own = some m.cls) (hK : va_K G.2.2.1 vwCl (TYS G.2.2.2) s) (hE : EV (G.2.1, G.2.2.2 5) A s s.heap) (hI : fI G.2.2.1 A s.heap w H locs) (hC : FX G y cc' nL' ret' rm (as) w (pvx thr vv w1) (px thr w)) (hk : CkS own index y cc' nL' ret' as.length) (hR : rm.frames + 1 ≤ R.frames ∧ 8 + (nL' + 11) + rm.locals ≤ R.locals) (h0 : rm.cells = 0) (h00 : rm.slots = 0)  (hsize : ls.size = nL) (hst : as.reverse ++ rest = st0) (hroom : (rest.map fun v => v.category).sum ≤ 8) (hdg : decode cc pc = .ok (.invokestatic index, 3)) (hf : cells ≤ R.cells ∧ slots ≤ R.slots)
    (kx : ∀ (E : String) (ce : Cell) (q9 : Addr) (H1 : Heap) (locs1 : List Loc), thr = some E → fI G.2.2.1 A s.heap w H1 locs1 → H1[q9]? = some ce → ce.vm = .none → s.vm.findClass E = some ce.cls → vx_W p G.1 e R s m args below meth c H1 locs1 cells slots Q (F0 m pc ls rest) q9) (k : thr = none → ∀ (H1 : Heap) (locs1 : List Loc), fI G.2.2.1 A s.heap w1 H1 locs1 → W p G.1 e R s m args below meth c H1 locs1 cells slots Q (F0 m (pc + 3) ls (vv :: rest))) : W p G.1 e R s m args below meth c H locs cells slots Q (F0 m pc ls st0) := by
  subst hst
  refine fx_xcallS hx hb hml hts hown hK hE hI hC hk hR hsize hroom hdg ⟨by rw [h0]; exact hf.1, by rw [h00]; exact hf.2⟩ (fun E ce q9 w' H1 locs1 hp hI h1 h2 h3 => ?_) (fun v w' H1 locs1 hp hI => ?_)
  · obtain ⟨e1, e2⟩ := hp
    rw [e2] at hI
    rw [h0, h00]
    exact kx E ce q9 H1 locs1 e1 hI h1 h2 h3
  · obtain ⟨e1, rfl, rfl⟩ := hp
    rw [h0, h00]
    exact k e1 H1 locs1 hI
theorem cxS0 {y : MethodName} {cc' : ByteArray} {nL' index : Nat} {ret' : Option FieldType} {rm : Room} {as : List Value} (hx : p.tables.exec = Jvm.exec) (hb : c.code = cc) (hml : c.maxLocals = nL) (hts : ∀ w ∈ WL, w.before args s = true) (hown : s.vm.findClass own = some m.cls) (hK : va_K G.2.2.1 vwCl (TYS G.2.2.2) s) (hE : EV (G.2.1, G.2.2.2 5) A s s.heap) (hI : fI G.2.2.1 A s.heap w H locs) (hC : FX G y cc' nL' ret' rm (as) w (p0x thr w1) (px thr w)) (hk : CkS own index y cc' nL' ret' as.length) (hR : rm.frames + 1 ≤ R.frames ∧ 8 + (nL' + 11) + rm.locals ≤ R.locals) (h0 : rm.cells = 0) (h00 : rm.slots = 0)  (hsize : ls.size = nL) (hst : as.reverse ++ rest = st0) (hroom : (rest.map fun v => v.category).sum ≤ 8) (hdg : decode cc pc = .ok (.invokestatic index, 3)) (hf : cells ≤ R.cells ∧ slots ≤ R.slots)
    (kx : ∀ (E : String) (ce : Cell) (q9 : Addr) (H1 : Heap) (locs1 : List Loc), thr = some E → fI G.2.2.1 A s.heap w H1 locs1 → H1[q9]? = some ce → ce.vm = .none → s.vm.findClass E = some ce.cls → vx_W p G.1 e R s m args below meth c H1 locs1 cells slots Q (F0 m pc ls rest) q9) (k : thr = none → ∀ (H1 : Heap) (locs1 : List Loc), fI G.2.2.1 A s.heap w1 H1 locs1 → W p G.1 e R s m args below meth c H1 locs1 cells slots Q (F0 m (pc + 3) ls rest)) : W p G.1 e R s m args below meth c H locs cells slots Q (F0 m pc ls st0) := by
  subst hst
  refine fx_xcallS hx hb hml hts hown hK hE hI hC hk hR hsize hroom hdg ⟨by rw [h0]; exact hf.1, by rw [h00]; exact hf.2⟩ (fun E ce q9 w' H1 locs1 hp hI h1 h2 h3 => ?_) (fun v w' H1 locs1 hp hI => ?_)
  · obtain ⟨e1, e2⟩ := hp
    rw [e2] at hI
    rw [h0, h00]
    exact kx E ce q9 H1 locs1 e1 hI h1 h2 h3
  · obtain ⟨e1, rfl, rfl⟩ := hp
    rw [h0, h00]
    exact k e1 H1 locs1 hI
theorem rt_i (hx : p.tables.exec = Jvm.exec) (hb : c.code = cc) (hr : meth.sig.returnType = some .int) (hlocks : meth.locks = false) {v : Int32}  (hI : fI G.2.2.1 A s.heap w H locs) (hA : A = fA w0 s.heap.size) (hQ : Q = MQ below (FQ G w0 s.heap.size po) args s mc ms (fA w0 s.heap.size)) (hp : po (some (.int v)) w) (hc : cells ≤ mc) (hs : slots ≤ ms) (hdg : decode cc pc = .ok (.ireturn, 1)) : W p G.1 e R s m args below meth c H locs cells slots Q (F0 m pc ls [.int v]) := by
  subst hQ
  exact fx_iret hx hb hr hlocks hp hI hA hc hs hdg
theorem rx_i (hx : p.tables.exec = Jvm.exec) (hb : c.code = cc) (hr : meth.sig.returnType = some .int) (hlocks : meth.locks = false) {v : Int32}  (hI : fI G.2.2.1 A s.heap w H locs) (hA : A = fA w0 s.heap.size) (hQ : Q = vx_MQ below (FQ G w0 s.heap.size po) (FXq G w0 s.heap.size pX) args s mc ms (fA w0 s.heap.size)) (hp : po (some (.int v)) w) (hc : cells ≤ mc) (hs : slots ≤ ms) (hdg : decode cc pc = .ok (.ireturn, 1)) : W p G.1 e R s m args below meth c H locs cells slots Q (F0 m pc ls [.int v]) := by
  subst hQ
  exact vx_ret (fx_iret hx hb hr hlocks hp hI hA hc hs hdg)
theorem rt_z (hx : p.tables.exec = Jvm.exec) (hb : c.code = cc) (hr : meth.sig.returnType = some .boolean) (hlocks : meth.locks = false) {v : Int32} (hn : narrow .boolean (.int v) = .int v) (hI : fI G.2.2.1 A s.heap w H locs) (hA : A = fA w0 s.heap.size) (hQ : Q = MQ below (FQ G w0 s.heap.size po) args s mc ms (fA w0 s.heap.size)) (hp : po (some (.int v)) w) (hc : cells ≤ mc) (hs : slots ≤ ms) (hdg : decode cc pc = .ok (.ireturn, 1)) : W p G.1 e R s m args below meth c H locs cells slots Q (F0 m pc ls [.int v]) := by
  subst hQ
  exact fx_zret hx hb hr hlocks hn hp hI hA hc hs hdg
theorem rx_z (hx : p.tables.exec = Jvm.exec) (hb : c.code = cc) (hr : meth.sig.returnType = some .boolean) (hlocks : meth.locks = false) {v : Int32} (hn : narrow .boolean (.int v) = .int v) (hI : fI G.2.2.1 A s.heap w H locs) (hA : A = fA w0 s.heap.size) (hQ : Q = vx_MQ below (FQ G w0 s.heap.size po) (FXq G w0 s.heap.size pX) args s mc ms (fA w0 s.heap.size)) (hp : po (some (.int v)) w) (hc : cells ≤ mc) (hs : slots ≤ ms) (hdg : decode cc pc = .ok (.ireturn, 1)) : W p G.1 e R s m args below meth c H locs cells slots Q (F0 m pc ls [.int v]) := by
  subst hQ
  exact vx_ret (fx_zret hx hb hr hlocks hn hp hI hA hc hs hdg)
theorem rt_l (hx : p.tables.exec = Jvm.exec) (hb : c.code = cc) (hr : meth.sig.returnType = some .long) (hlocks : meth.locks = false) {v : Int64}  (hI : fI G.2.2.1 A s.heap w H locs) (hA : A = fA w0 s.heap.size) (hQ : Q = MQ below (FQ G w0 s.heap.size po) args s mc ms (fA w0 s.heap.size)) (hp : po (some (.long v)) w) (hc : cells ≤ mc) (hs : slots ≤ ms) (hdg : decode cc pc = .ok (.lreturn, 1)) : W p G.1 e R s m args below meth c H locs cells slots Q (F0 m pc ls [.long v]) := by
  subst hQ
  exact fx_lret hx hb hr hlocks hp hI hA hc hs hdg
theorem rx_l (hx : p.tables.exec = Jvm.exec) (hb : c.code = cc) (hr : meth.sig.returnType = some .long) (hlocks : meth.locks = false) {v : Int64}  (hI : fI G.2.2.1 A s.heap w H locs) (hA : A = fA w0 s.heap.size) (hQ : Q = vx_MQ below (FQ G w0 s.heap.size po) (FXq G w0 s.heap.size pX) args s mc ms (fA w0 s.heap.size)) (hp : po (some (.long v)) w) (hc : cells ≤ mc) (hs : slots ≤ ms) (hdg : decode cc pc = .ok (.lreturn, 1)) : W p G.1 e R s m args below meth c H locs cells slots Q (F0 m pc ls [.long v]) := by
  subst hQ
  exact vx_ret (fx_lret hx hb hr hlocks hp hI hA hc hs hdg)
theorem rt_d (hx : p.tables.exec = Jvm.exec) (hb : c.code = cc) (hr : meth.sig.returnType = some .double) (hlocks : meth.locks = false) {v : UInt64}  (hI : fI G.2.2.1 A s.heap w H locs) (hA : A = fA w0 s.heap.size) (hQ : Q = MQ below (FQ G w0 s.heap.size po) args s mc ms (fA w0 s.heap.size)) (hp : po (some (.double v)) w) (hc : cells ≤ mc) (hs : slots ≤ ms) (hdg : decode cc pc = .ok (.dreturn, 1)) : W p G.1 e R s m args below meth c H locs cells slots Q (F0 m pc ls [.double v]) := by
  subst hQ
  exact fx_dret hx hb hr hlocks hp hI hA hc hs hdg
theorem rx_d (hx : p.tables.exec = Jvm.exec) (hb : c.code = cc) (hr : meth.sig.returnType = some .double) (hlocks : meth.locks = false) {v : UInt64}  (hI : fI G.2.2.1 A s.heap w H locs) (hA : A = fA w0 s.heap.size) (hQ : Q = vx_MQ below (FQ G w0 s.heap.size po) (FXq G w0 s.heap.size pX) args s mc ms (fA w0 s.heap.size)) (hp : po (some (.double v)) w) (hc : cells ≤ mc) (hs : slots ≤ ms) (hdg : decode cc pc = .ok (.dreturn, 1)) : W p G.1 e R s m args below meth c H locs cells slots Q (F0 m pc ls [.double v]) := by
  subst hQ
  exact vx_ret (fx_dret hx hb hr hlocks hp hI hA hc hs hdg)
theorem rt_v (hx : p.tables.exec = Jvm.exec) (hb : c.code = cc) (hr : meth.sig.returnType = none) (hlocks : meth.locks = false) (hI : fI G.2.2.1 A s.heap w H locs) (hA : A = fA w0 s.heap.size) (hQ : Q = MQ below (FQ G w0 s.heap.size po) args s mc ms (fA w0 s.heap.size)) (hp : po none w) (hc : cells ≤ mc) (hs : slots ≤ ms) (hdg : decode cc pc = .ok (.return_, 1)) : W p G.1 e R s m args below meth c H locs cells slots Q (F0 m pc ls []) := by
  subst hQ
  exact fx_vret hx hb hr hlocks hp hI hA hc hs hdg
theorem rt_a (hx : p.tables.exec = Jvm.exec) (hb : c.code = cc) {rt : FieldType} (hr : meth.sig.returnType = some rt) (hrt : (∃ n, rt = .object n) ∨ ∃ t, rt = .array t) (hlocks : meth.locks = false) {v : Value} (hv : v = .null ∨ ∃ a, v = .ref a) (hI : fI G.2.2.1 A s.heap w H locs) (hA : A = fA w0 s.heap.size) (hQ : Q = MQ below (FQ G w0 s.heap.size po) args s mc ms (fA w0 s.heap.size)) (hp : po (some v) w) (hc : cells ≤ mc) (hs : slots ≤ ms) (hdg : decode cc pc = .ok (.areturn, 1)) : W p G.1 e R s m args below meth c H locs cells slots Q (F0 m pc ls [v]) := by
  subst hQ
  exact fx_aret hx hb hr hrt hlocks hv hp hI hA hc hs hdg
theorem rx_v (hx : p.tables.exec = Jvm.exec) (hb : c.code = cc) (hr : meth.sig.returnType = none) (hlocks : meth.locks = false) (hI : fI G.2.2.1 A s.heap w H locs) (hA : A = fA w0 s.heap.size) (hQ : Q = vx_MQ below (FQ G w0 s.heap.size po) (FXq G w0 s.heap.size pX) args s mc ms (fA w0 s.heap.size)) (hp : po none w) (hc : cells ≤ mc) (hs : slots ≤ ms) (hdg : decode cc pc = .ok (.return_, 1)) : W p G.1 e R s m args below meth c H locs cells slots Q (F0 m pc ls []) := by
  subst hQ
  exact vx_ret (fx_vret hx hb hr hlocks hp hI hA hc hs hdg)
theorem rx_a (hx : p.tables.exec = Jvm.exec) (hb : c.code = cc) {rt : FieldType} (hr : meth.sig.returnType = some rt) (hrt : (∃ n, rt = .object n) ∨ ∃ t, rt = .array t) (hlocks : meth.locks = false) {v : Value} (hv : v = .null ∨ ∃ a, v = .ref a) (hI : fI G.2.2.1 A s.heap w H locs) (hA : A = fA w0 s.heap.size) (hQ : Q = vx_MQ below (FQ G w0 s.heap.size po) (FXq G w0 s.heap.size pX) args s mc ms (fA w0 s.heap.size)) (hp : po (some v) w) (hc : cells ≤ mc) (hs : slots ≤ ms) (hdg : decode cc pc = .ok (.areturn, 1)) : W p G.1 e R s m args below meth c H locs cells slots Q (F0 m pc ls [v]) := by
  subst hQ
  exact vx_ret (fx_aret hx hb hr hrt hlocks hv hp hI hA hc hs hdg)
theorem rx_thru (hout : ∀ x ∈ c.exceptionTable.toList, ∀ pc, covers x pc = false) (hlocks : meth.locks = false) {E : String} {ce : Cell} {q9 : Addr} (hI : fI G.2.2.1 A s.heap w H locs) (hA : A = fA w0 s.heap.size) (hQ : Q = vx_MQ below (FQ G w0 s.heap.size po) (FXq G w0 s.heap.size pX) args s mc ms (fA w0 s.heap.size)) (hp : pX E w) (hc : cells ≤ mc) (hs : slots ≤ ms) (h1 : H[q9]? = some ce) (h2 : ce.vm = .none) (h3 : s.vm.findClass E = some ce.cls) : vx_W p G.1 e R s m args below meth c H locs cells slots Q (F0 m pc ls rest) q9 := by
  subst hQ
  exact fx_thru hout hlocks hp hI hA hc hs h1 h2 h3
end FXD
