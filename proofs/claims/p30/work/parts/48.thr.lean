/-! ===== throws: the class throws itself, and calls of throwing methods ===== -/
def EIAE : String := "java/lang/IllegalArgumentException"
theorem at_IAE : ∀ w ∈ vx_atS "Icehighway" 229 "java/lang/IllegalArgumentException" ["java/lang/RuntimeException", "java/lang/Exception"], w ∈ WL ∨ w ∈ XL := by
  decide +kernel
theorem go_IAE : ∀ w ∈ Cond.classLink "Icehighway" 225 "java/lang/IllegalArgumentException" :: Cond.initialized "java/lang/IllegalArgumentException" :: vx_atS "Icehighway" 229 "java/lang/IllegalArgumentException" ["java/lang/RuntimeException", "java/lang/Exception"], vx_ot w = true := by
  decide +kernel
def EISE : String := "java/lang/IllegalStateException"
theorem at_ISE : ∀ w ∈ vx_atS "Icehighway" 60 "java/lang/IllegalStateException" ["java/lang/RuntimeException", "java/lang/Exception"], w ∈ WL ∨ w ∈ XL := by
  decide +kernel
theorem go_ISE : ∀ w ∈ Cond.classLink "Icehighway" 56 "java/lang/IllegalStateException" :: Cond.initialized "java/lang/IllegalStateException" :: vx_atS "Icehighway" 60 "java/lang/IllegalStateException" ["java/lang/RuntimeException", "java/lang/Exception"], vx_ot w = true := by
  decide +kernel
def EIOB : String := "java/lang/IndexOutOfBoundsException"
theorem at_IOB : ∀ w ∈ vx_atS "Icehighway" 234 "java/lang/IndexOutOfBoundsException" ["java/lang/RuntimeException", "java/lang/Exception"], w ∈ WL ∨ w ∈ XL := by
  decide +kernel
theorem go_IOB : ∀ w ∈ Cond.classLink "Icehighway" 230 "java/lang/IndexOutOfBoundsException" :: Cond.initialized "java/lang/IndexOutOfBoundsException" :: vx_atS "Icehighway" 234 "java/lang/IndexOutOfBoundsException" ["java/lang/RuntimeException", "java/lang/Exception"], vx_ot w = true := by
  decide +kernel
section XT
variable {p : Program} {e : Env} {R : Room} {s : State} {m : MethodId} {args : Array Value} {below : List Frame} {meth : Method} {c : Code} {H : Heap} {locs : List Loc} {cells slots : Nat} {Q : State → Prop}
variable {cc : ByteArray} {pc : Nat} {ls : Array Slot} {rest st0 : List Value} {G : GX} {A : Nat → Prop} {w w0 w1 : WD} {own : String} {nL mc ms : Nat} {po : Option Value → WD → Prop} {pX : String → WD → Prop} {vv : Value} {thr : Option String}
theorem fx_throw (hx : p.tables.exec = Jvm.exec) (hb : c.code = cc) (hst : G.1.stackTraces = false) (hts : ∀ w ∈ WL, w.before args s = true) (hown : s.vm.findClass "Icehighway" = some m.cls) (hE : EV (G.2.1, G.2.2.2 5) A s s.heap) (hI : fI G.2.2.1 A s.heap w H locs) (hA : A = fA w0 s.heap.size) (hQ : Q = vx_MQ below (FQ G w0 s.heap.size po) (FXq G w0 s.heap.size pX) args s mc ms (fA w0 s.heap.size)) {cls text : String} {ik is ic : Nat} (hcls : Bundle.fit cls = true) (hk : Cond.classLink "Icehighway" ik cls ∈ WL) (hini : Cond.initialized cls ∈ WL) (hat : ∀ w ∈ vx_atS "Icehighway" ic cls ["java/lang/RuntimeException", "java/lang/Exception"], w ∈ WL ∨ w ∈ XL) (hgood : ∀ w ∈ Cond.classLink "Icehighway" ik cls :: Cond.initialized cls :: vx_atS "Icehighway" ic cls ["java/lang/RuntimeException", "java/lang/Exception"], vx_ot w = true) (hsl : ("Icehighway", is, text) ∈ SLs) (hp : pX cls w) (hsize : ls.size = c.maxLocals) (hout : ∀ x ∈ c.exceptionTable.toList, ∀ pc, covers x pc = false) (hlocks : meth.locks = false) (hRf : 6 ≤ R.frames) (hRl : 82 ≤ R.locals) (hRc : cells + 1 ≤ R.cells) (hRs : slots + 6 ≤ R.slots) (hc : cells + 1 ≤ mc) (hs : slots + 6 ≤ ms)
    (d0 : decode cc pc = .ok (.new ik, 3)) (d3 : decode cc (pc + 3) = .ok (.dup, 1)) (d4 : decode cc (pc + 4) = .ok (.ldc is, 2)) (d6 : decode cc (pc + 6) = .ok (.invokespecial ic, 3)) (d9 : decode cc (pc + 9) = .ok (.athrow, 1)) : W p G.1 e R s m args below meth c H locs cells slots Q (F0 m pc ls []) := by
  subst hQ
  subst hA
  obtain ⟨h1, h2, h3, h4, -, -⟩ := id hE
  obtain ⟨sa, hsa⟩ := h2 _ hsl
  refine vx_throwS hx hb hst hown hcls (names := ["java/lang/RuntimeException", "java/lang/Exception"]) (by decide +kernel) (hts _ hk) (hts _ hini) hsa (fun w hw => ?_) hgood h3 h4 hI.2.2.1 hsize d0 d3 d4 d6 d9 (fun x hx => hout x hx _) hRf (by simpa using hRl) hRc hRs hlocks (fun t ht hz hq => ?_) hI.2.2.1.2.2 hc hs
  · rcases hat w hw with g | g
    · exact hts _ g
    · exact XL_use g (h1 _ g)
  · refine ⟨⟨w, hp, fun k i q hk => (hI.1 k i q hk).kept (hq _ (hI.1.lt hk)), hI.2.1⟩, Nat.le_trans hI.2.2.1.1 hz, fun q g1 g2 => (hq q (Nat.lt_of_lt_of_le g1 hI.2.2.1.1)).trans (hI.2.2.1.2.1 q g1 g2)⟩
theorem dxVv {y : MethodName} {cc' : ByteArray} {nL' index : Nat} {ret' : Option FieldType} {rm : Room} {as : List Value} {b : Nat} (hx : p.tables.exec = Jvm.exec) (hb : c.code = cc) (hml : c.maxLocals = nL) (hts : ∀ w ∈ WL, w.before args s = true) (hown : s.vm.findClass own = some m.cls) (hK : va_K G.2.2.1 vwCl (TYS G.2.2.2) s) (hE : EV (G.2.1, G.2.2.2 5) A s s.heap) (hI : fI G.2.2.1 A s.heap w H locs) (hC : FX G y cc' nL' ret' rm (.ref b :: as) w (pvx thr vv w1) (px thr w)) (hk : CkV own index y cc' nL' ret' as.length) (hR : rm.frames + 1 ≤ R.frames ∧ 8 + (nL' + 11) + rm.locals ≤ R.locals) {kk ii ci : Nat} {fs : List Value} {q : vw_C} (he : w kk ii = some (b, .inr (ci, fs))) (hc : vwCl[ci]? = some q) (hq : q.1 = y.cls) (hsize : ls.size = nL) (hst : as.reverse ++ .ref b :: rest = st0) (hroom : (rest.map fun v => v.category).sum ≤ 8) (hdg : decode cc pc = .ok (.invokevirtual index, 3)) (hf : cells + rm.cells ≤ R.cells ∧ slots + rm.slots ≤ R.slots)
    (kx : ∀ (E : String) (ce : Cell) (q9 : Addr) (H1 : Heap) (locs1 : List Loc), thr = some E → fI G.2.2.1 A s.heap w H1 locs1 → H1[q9]? = some ce → ce.vm = .none → s.vm.findClass E = some ce.cls → vx_W p G.1 e R s m args below meth c H1 locs1 (cells + rm.cells) (slots + rm.slots) Q (F0 m pc ls rest) q9) (k : thr = none → ∀ (H1 : Heap) (locs1 : List Loc), fI G.2.2.1 A s.heap w1 H1 locs1 → W p G.1 e R s m args below meth c H1 locs1 (cells + rm.cells) (slots + rm.slots) Q (F0 m (pc + 3) ls (vv :: rest))) : W p G.1 e R s m args below meth c H locs cells slots Q (F0 m pc ls st0) := by
  subst hst
  refine fx_xcallV hx hb hml hts hown hK hE hI hC hk hR he hc hq hsize hroom hdg hf (fun E ce q9 w' H1 locs1 hp hI h1 h2 h3 => ?_) (fun v w' H1 locs1 hp hI => ?_)
  · obtain ⟨e1, e2⟩ := hp
    rw [e2] at hI
    exact kx E ce q9 H1 locs1 e1 hI h1 h2 h3
  · obtain ⟨e1, rfl, rfl⟩ := hp
    exact k e1 H1 locs1 hI
theorem dxV0 {y : MethodName} {cc' : ByteArray} {nL' index : Nat} {ret' : Option FieldType} {rm : Room} {as : List Value} {b : Nat} (hx : p.tables.exec = Jvm.exec) (hb : c.code = cc) (hml : c.maxLocals = nL) (hts : ∀ w ∈ WL, w.before args s = true) (hown : s.vm.findClass own = some m.cls) (hK : va_K G.2.2.1 vwCl (TYS G.2.2.2) s) (hE : EV (G.2.1, G.2.2.2 5) A s s.heap) (hI : fI G.2.2.1 A s.heap w H locs) (hC : FX G y cc' nL' ret' rm (.ref b :: as) w (p0x thr w1) (px thr w)) (hk : CkV own index y cc' nL' ret' as.length) (hR : rm.frames + 1 ≤ R.frames ∧ 8 + (nL' + 11) + rm.locals ≤ R.locals) {kk ii ci : Nat} {fs : List Value} {q : vw_C} (he : w kk ii = some (b, .inr (ci, fs))) (hc : vwCl[ci]? = some q) (hq : q.1 = y.cls) (hsize : ls.size = nL) (hst : as.reverse ++ .ref b :: rest = st0) (hroom : (rest.map fun v => v.category).sum ≤ 8) (hdg : decode cc pc = .ok (.invokevirtual index, 3)) (hf : cells + rm.cells ≤ R.cells ∧ slots + rm.slots ≤ R.slots)
    (kx : ∀ (E : String) (ce : Cell) (q9 : Addr) (H1 : Heap) (locs1 : List Loc), thr = some E → fI G.2.2.1 A s.heap w H1 locs1 → H1[q9]? = some ce → ce.vm = .none → s.vm.findClass E = some ce.cls → vx_W p G.1 e R s m args below meth c H1 locs1 (cells + rm.cells) (slots + rm.slots) Q (F0 m pc ls rest) q9) (k : thr = none → ∀ (H1 : Heap) (locs1 : List Loc), fI G.2.2.1 A s.heap w1 H1 locs1 → W p G.1 e R s m args below meth c H1 locs1 (cells + rm.cells) (slots + rm.slots) Q (F0 m (pc + 3) ls rest)) : W p G.1 e R s m args below meth c H locs cells slots Q (F0 m pc ls st0) := by
  subst hst
  refine fx_xcallV hx hb hml hts hown hK hE hI hC hk hR he hc hq hsize hroom hdg hf (fun E ce q9 w' H1 locs1 hp hI h1 h2 h3 => ?_) (fun v w' H1 locs1 hp hI => ?_)
  · obtain ⟨e1, e2⟩ := hp
    rw [e2] at hI
    exact kx E ce q9 H1 locs1 e1 hI h1 h2 h3
  · obtain ⟨e1, rfl, rfl⟩ := hp
    exact k e1 H1 locs1 hI
theorem dxSv {y : MethodName} {cc' : ByteArray} {nL' index : Nat} {ret' : Option FieldType} {rm : Room} {as : List Value} (hx : p.tables.exec = Jvm.exec) (hb : c.code = cc) (hml : c.maxLocals = nL) (hts : ∀ w ∈ WL, w.before args s = true) (hown : s.vm.findClass own = some m.cls) (hK : va_K G.2.2.1 vwCl (TYS G.2.2.2) s) (hE : EV (G.2.1, G.2.2.2 5) A s s.heap) (hI : fI G.2.2.1 A s.heap w H locs) (hC : FX G y cc' nL' ret' rm (as) w (pvx thr vv w1) (px thr w)) (hk : CkS own index y cc' nL' ret' as.length) (hR : rm.frames + 1 ≤ R.frames ∧ 8 + (nL' + 11) + rm.locals ≤ R.locals)  (hsize : ls.size = nL) (hst : as.reverse ++ rest = st0) (hroom : (rest.map fun v => v.category).sum ≤ 8) (hdg : decode cc pc = .ok (.invokestatic index, 3)) (hf : cells + rm.cells ≤ R.cells ∧ slots + rm.slots ≤ R.slots)
    (kx : ∀ (E : String) (ce : Cell) (q9 : Addr) (H1 : Heap) (locs1 : List Loc), thr = some E → fI G.2.2.1 A s.heap w H1 locs1 → H1[q9]? = some ce → ce.vm = .none → s.vm.findClass E = some ce.cls → vx_W p G.1 e R s m args below meth c H1 locs1 (cells + rm.cells) (slots + rm.slots) Q (F0 m pc ls rest) q9) (k : thr = none → ∀ (H1 : Heap) (locs1 : List Loc), fI G.2.2.1 A s.heap w1 H1 locs1 → W p G.1 e R s m args below meth c H1 locs1 (cells + rm.cells) (slots + rm.slots) Q (F0 m (pc + 3) ls (vv :: rest))) : W p G.1 e R s m args below meth c H locs cells slots Q (F0 m pc ls st0) := by
  subst hst
  refine fx_xcallS hx hb hml hts hown hK hE hI hC hk hR hsize hroom hdg hf (fun E ce q9 w' H1 locs1 hp hI h1 h2 h3 => ?_) (fun v w' H1 locs1 hp hI => ?_)
  · obtain ⟨e1, e2⟩ := hp
    rw [e2] at hI
    exact kx E ce q9 H1 locs1 e1 hI h1 h2 h3
  · obtain ⟨e1, rfl, rfl⟩ := hp
    exact k e1 H1 locs1 hI
theorem dxS0 {y : MethodName} {cc' : ByteArray} {nL' index : Nat} {ret' : Option FieldType} {rm : Room} {as : List Value} (hx : p.tables.exec = Jvm.exec) (hb : c.code = cc) (hml : c.maxLocals = nL) (hts : ∀ w ∈ WL, w.before args s = true) (hown : s.vm.findClass own = some m.cls) (hK : va_K G.2.2.1 vwCl (TYS G.2.2.2) s) (hE : EV (G.2.1, G.2.2.2 5) A s s.heap) (hI : fI G.2.2.1 A s.heap w H locs) (hC : FX G y cc' nL' ret' rm (as) w (p0x thr w1) (px thr w)) (hk : CkS own index y cc' nL' ret' as.length) (hR : rm.frames + 1 ≤ R.frames ∧ 8 + (nL' + 11) + rm.locals ≤ R.locals)  (hsize : ls.size = nL) (hst : as.reverse ++ rest = st0) (hroom : (rest.map fun v => v.category).sum ≤ 8) (hdg : decode cc pc = .ok (.invokestatic index, 3)) (hf : cells + rm.cells ≤ R.cells ∧ slots + rm.slots ≤ R.slots)
    (kx : ∀ (E : String) (ce : Cell) (q9 : Addr) (H1 : Heap) (locs1 : List Loc), thr = some E → fI G.2.2.1 A s.heap w H1 locs1 → H1[q9]? = some ce → ce.vm = .none → s.vm.findClass E = some ce.cls → vx_W p G.1 e R s m args below meth c H1 locs1 (cells + rm.cells) (slots + rm.slots) Q (F0 m pc ls rest) q9) (k : thr = none → ∀ (H1 : Heap) (locs1 : List Loc), fI G.2.2.1 A s.heap w1 H1 locs1 → W p G.1 e R s m args below meth c H1 locs1 (cells + rm.cells) (slots + rm.slots) Q (F0 m (pc + 3) ls rest)) : W p G.1 e R s m args below meth c H locs cells slots Q (F0 m pc ls st0) := by
  subst hst
  refine fx_xcallS hx hb hml hts hown hK hE hI hC hk hR hsize hroom hdg hf (fun E ce q9 w' H1 locs1 hp hI h1 h2 h3 => ?_) (fun v w' H1 locs1 hp hI => ?_)
  · obtain ⟨e1, e2⟩ := hp
    rw [e2] at hI
    exact kx E ce q9 H1 locs1 e1 hI h1 h2 h3
  · obtain ⟨e1, rfl, rfl⟩ := hp
    exact k e1 H1 locs1 hI
end XT
