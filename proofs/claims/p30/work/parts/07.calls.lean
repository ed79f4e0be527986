/-! ===== calls and ends over worlds that are functions ===== -/
section FXC
variable {p : Program} {e : Env} {R : Room} {s : State} {m : MethodId} {args : Array Value} {below : List Frame} {meth : Method} {c : Code} {H : Heap} {locs : List Loc} {cells slots : Nat} {Q : State → Prop}
variable {cc : ByteArray} {pc : Nat} {ls : Array Slot} {rest st0 : List Value} {G : GX} {A : Nat → Prop} {w w0 w1 : WD} {own : String} {nL mc ms : Nat} {a : Array Value} {po : Option Value → WD → Prop} {pX : String → WD → Prop} {vv : Value} {thr : Option String}
theorem fx_recv {b k i ci : Nat} {fs : List Value} {q : vw_C} (hK : va_K G.2.2.1 vwCl (TYS G.2.2.2) s) (hP : fP G.2.2.1 w H) (he : w k i = some (b, .inr (ci, fs))) (hc : vwCl[ci]? = some q) : ∃ cell : Cell, H[b]? = some cell ∧ cell.vm.isStatics = false ∧ s.vm.findClass q.1 = some cell.cls := by
  obtain ⟨q', h1, cell, g1, g2, g3, -⟩ := hP k i _ he
  exact ⟨cell, g1, by rw [g3]; rfl, by rw [g2]; exact (hK.1 ci q hc).2.1⟩
theorem fx_kk (hr : va_Run p G.1 e R s m args below meth c H locs cells slots mc ms (F0 m pc ls st0) rest (FQ G w H.size po a) (fA w H.size)) (hI : fI G.2.2.1 A s.heap w H locs)
    (k : ∀ (v : Option Value) (w' : WD) (H1 : Heap) (locs1 : List Loc), po v w' → fI G.2.2.1 A s.heap w' H1 locs1 → W p G.1 e R s m args below meth c H1 locs1 (cells + mc) (slots + ms) Q (F0 m (pc + 3) ls (v.toList ++ rest))) : W p G.1 e R s m args below meth c H locs cells slots Q (F0 m pc ls st0) := by
  intro T hT X
  obtain ⟨v, st₀, t, T', L, h0, X', hL, e1, e2, ⟨⟨v', w', hv, hp, hPw, hDw⟩, hF⟩, st⟩ := hr T hT X
  cases hv
  obtain ⟨hz, hk, hS⟩ := vx_keep h0 e1 hI.2.2.1 (fun q _ h => hI.free q h) hI.free hL hF
  obtain ⟨t2, a1, b1⟩ := k v w' T'.heap (locs ++ L) hp ⟨by rw [e1]; exact hPw, hDw.weaken hI.free, hS, hI.2.2.2⟩ T' rfl X'
  exact ⟨t2, st t2 a1, b1⟩
theorem fx_kk5 (hr : va_Run5 p G.1 e R s m args below meth c H locs cells slots mc ms (F0 m pc ls st0) rest (FQ G w H.size po a) (fA w H.size)) (hI : fI G.2.2.1 A s.heap w H locs)
    (k : ∀ (v : Option Value) (w' : WD) (H1 : Heap) (locs1 : List Loc), po v w' → fI G.2.2.1 A s.heap w' H1 locs1 → W p G.1 e R s m args below meth c H1 locs1 (cells + mc) (slots + ms) Q (F0 m (pc + 5) ls (v.toList ++ rest))) : W p G.1 e R s m args below meth c H locs cells slots Q (F0 m pc ls st0) := by
  intro T hT X
  obtain ⟨v, st₀, t, T', L, h0, X', hL, e1, e2, ⟨⟨v', w', hv, hp, hPw, hDw⟩, hF⟩, st⟩ := hr T hT X
  cases hv
  obtain ⟨hz, hk, hS⟩ := vx_keep h0 e1 hI.2.2.1 (fun q _ h => hI.free q h) hI.free hL hF
  obtain ⟨t2, a1, b1⟩ := k v w' T'.heap (locs ++ L) hp ⟨by rw [e1]; exact hPw, hDw.weaken hI.free, hS, hI.2.2.2⟩ T' rfl X'
  exact ⟨t2, st t2 a1, b1⟩
theorem fx_xkk (hr : vx_Run p G.1 e R s m args below meth c H locs cells slots mc ms (F0 m pc ls st0) rest (FQ G w H.size po a) (FXq G w H.size pX) (fA w H.size)) (hI : fI G.2.2.1 A s.heap w H locs)
    (kx : ∀ (E : String) (ce : Cell) (q9 : Addr) (w' : WD) (H1 : Heap) (locs1 : List Loc), pX E w' → fI G.2.2.1 A s.heap w' H1 locs1 → H1[q9]? = some ce → ce.vm = .none → s.vm.findClass E = some ce.cls → vx_W p G.1 e R s m args below meth c H1 locs1 (cells + mc) (slots + ms) Q (F0 m pc ls rest) q9)
    (k : ∀ (v : Option Value) (w' : WD) (H1 : Heap) (locs1 : List Loc), po v w' → fI G.2.2.1 A s.heap w' H1 locs1 → W p G.1 e R s m args below meth c H1 locs1 (cells + mc) (slots + ms) Q (F0 m (pc + 3) ls (v.toList ++ rest))) : W p G.1 e R s m args below meth c H locs cells slots Q (F0 m pc ls st0) := by
  intro T hT X
  rcases hr T hT X with ⟨v, st₀, t, T', L, h0, X', hL, e1, e2, ⟨⟨v', w', hv, hp, hPw, hDw⟩, hF⟩, st⟩ | ⟨q, st₀, t, T', L, E, ce, h0, X', hL, e1, e2, ⟨⟨w', hp, hPw, hDw⟩, hF⟩, hce, hcv, hcl, st⟩
  · cases hv
    obtain ⟨hz, hk, hS⟩ := vx_keep h0 e1 hI.2.2.1 (fun q _ h => hI.free q h) hI.free hL hF
    obtain ⟨t2, a1, b1⟩ := k v w' T'.heap (locs ++ L) hp ⟨by rw [e1]; exact hPw, hDw.weaken hI.free, hS, hI.2.2.2⟩ T' rfl X'
    exact ⟨t2, st t2 a1, b1⟩
  · obtain ⟨hz, hk, hS⟩ := vx_keep h0 e1 hI.2.2.1 (fun q _ h => hI.free q h) hI.free hL hF
    obtain ⟨t2, a1, b1⟩ := kx E ce q w' T'.heap (locs ++ L) hp ⟨by rw [e1]; exact hPw, hDw.weaken hI.free, hS, hI.2.2.2⟩ (by rw [e1]; exact hce) hcv hcl T' rfl X'
    exact ⟨t2, st.trans a1, b1⟩
theorem CkV.good {y : MethodName} {cc' : ByteArray} {nL' index n : Nat} {ret' : Option FieldType} (hk : CkV own index y cc' nL' ret' n) : GoodIn WL (wsV own index y.cls y (Cond.code y cc' nL' ret' :: WL)) := by
  obtain ⟨h1, h2, h3, h4, h5, -⟩ := hk
  intro x hx
  have key : x ∈ WL := by
    unfold wsV at hx
    rcases List.mem_append.mp hx with hx | hx
    · simp only [List.mem_cons, List.not_mem_nil, or_false] at hx
      rcases hx with rfl | rfl | rfl | rfl
      · exact h2
      · exact h3
      · exact h4
      · exact h5
    · rcases List.mem_cons.mp hx with rfl | hx
      · exact h1
      · exact hx
  exact ⟨key, good_of_word (WL_good key)⟩
theorem fx_cwV {y : MethodName} {cc' : ByteArray} {nL' index n : Nat} {ret' : Option FieldType} {rm : Room} (hts : ∀ w ∈ WL, w.before args s = true) (hk : CkV own index y cc' nL' ret' n) (hR : rm.frames + 1 ≤ R.frames ∧ 8 + (nL' + 11) + rm.locals ≤ R.locals) : CallW R s args own y.cls index y cc' nL' ret' (Cond.code y cc' nL' ret' :: WL) rm rm.cells rm.slots n :=
  cwV n hts hk.good rfl rfl rfl ⟨rfl, hk.2.2.2.2.2⟩ hR
theorem fx_cwS {y : MethodName} {cc' : ByteArray} {nL' index n : Nat} {ret' : Option FieldType} {rm : Room} (hts : ∀ w ∈ WL, w.before args s = true) (hk : CkS own index y cc' nL' ret' n) (hR : rm.frames + 1 ≤ R.frames ∧ 8 + (nL' + 11) + rm.locals ≤ R.locals) : CallB R s args own index y cc' nL' ret' (Cond.code y cc' nL' ret' :: WL) rm rm.cells rm.slots n ∧ (Cond.static y).before args s = true :=
  ⟨callB_of n hts (WL_in0 hk.1) rfl rfl rfl (hts _ hk.2.2.2.1) (hts _ hk.2.1) hk.2.2.2.2 hR, hts _ hk.2.2.1⟩
theorem fx_cwI {y : MethodName} {cc' : ByteArray} {nL' index n : Nat} {rm : Room} (hts : ∀ w ∈ WL, w.before args s = true) (hk : CkI own index y cc' nL' n) (hR : rm.frames + 1 ≤ R.frames ∧ 8 + (nL' + 11) + rm.locals ≤ R.locals) : CallB R s args own index y cc' nL' none (Cond.code y cc' nL' none :: WL) rm rm.cells rm.slots n ∧ y.name = "<init>" ∧ (Cond.instanceMethod y).before args s = true :=
  ⟨callB_of n hts (WL_in0 hk.1) rfl rfl rfl (hts _ hk.2.2.2.1) (hts _ hk.2.1) hk.2.2.2.2.2 hR, hk.2.2.2.2.1, hts _ hk.2.2.1⟩
theorem CkF.good {x y : MethodName} {cc' : ByteArray} {nL' index n : Nat} {ret' : Option FieldType} (hk : CkF own index x y cc' nL' ret' n) : GoodIn WL (va_wsF own index y.cls x y (Cond.code y cc' nL' ret' :: WL)) := by
  obtain ⟨h1, h2, h3, h4, h5, -⟩ := hk
  intro x hx
  have key : x ∈ WL := by
    unfold va_wsF at hx
    rcases List.mem_append.mp hx with hx | hx
    · simp only [List.mem_cons, List.not_mem_nil, or_false] at hx
      rcases hx with rfl | rfl | rfl | rfl
      · exact h2
      · exact h3
      · exact h4
      · exact h5
    · rcases List.mem_cons.mp hx with rfl | hx
      · exact h1
      · exact hx
  exact ⟨key, good_of_word (WL_good key)⟩
theorem fx_cwF {x y : MethodName} {cc' : ByteArray} {nL' index n : Nat} {ret' : Option FieldType} {rm : Room} (hts : ∀ w ∈ WL, w.before args s = true) (hX : ∀ w ∈ XL, w.before #[] s = true) (hk : CkF own index x y cc' nL' ret' n) (hR : rm.frames + 1 ≤ R.frames ∧ 8 + (nL' + 11) + rm.locals ≤ R.locals) : va_CI R s args own y.cls index x y cc' nL' ret' (Cond.code y cc' nL' ret' :: WL) rm rm.cells rm.slots n := by
  obtain ⟨-, -, -, -, -, ⟨f1, f2, f3, f4, f5⟩, hd⟩ := id hk
  exact va_cwF n hts hk.good rfl rfl rfl ⟨hX _ f1, hX _ f2, hX _ f3, hX _ f4, hX _ f5⟩ hd hR
/-! calls -/
theorem fx_callV {y : MethodName} {cc' : ByteArray} {nL' index : Nat} {ret' : Option FieldType} {rm : Room} {as : List Value} {b : Nat} (hx : p.tables.exec = Jvm.exec) (hb : c.code = cc) (hml : c.maxLocals = nL) (hts : ∀ w ∈ WL, w.before args s = true) (hown : s.vm.findClass own = some m.cls) (hK : va_K G.2.2.1 vwCl (TYS G.2.2.2) s) (hE : EV (G.2.1, G.2.2.2 5) A s s.heap) (hI : fI G.2.2.1 A s.heap w H locs) (hC : FC G y cc' nL' ret' rm (.ref b :: as) w po) (hk : CkV own index y cc' nL' ret' as.length) (hR : rm.frames + 1 ≤ R.frames ∧ 8 + (nL' + 11) + rm.locals ≤ R.locals) {kk ii ci : Nat} {fs : List Value} {q : vw_C} (he : w kk ii = some (b, .inr (ci, fs))) (hc : vwCl[ci]? = some q) (hq : q.1 = y.cls) (hsize : ls.size = nL) (hroom : (rest.map fun v => v.category).sum ≤ 8) (hdg : decode cc pc = .ok (.invokevirtual index, 3)) (hf : cells + rm.cells ≤ R.cells ∧ slots + rm.slots ≤ R.slots)
    (k : ∀ (v : Option Value) (w' : WD) (H1 : Heap) (locs1 : List Loc), po v w' → fI G.2.2.1 A s.heap w' H1 locs1 → W p G.1 e R s m args below meth c H1 locs1 (cells + rm.cells) (slots + rm.slots) Q (F0 m (pc + 3) ls (v.toList ++ rest))) : W p G.1 e R s m args below meth c H locs cells slots Q (F0 m pc ls (as.reverse ++ .ref b :: rest)) := by
  have hrecv := fx_recv hK hI.1 he hc
  rw [hq] at hrecv
  exact fx_kk (va_runV (As := as) (rest := rest) ⟨hx, hb, hml, hown, hts⟩ (hC H.size) (fx_cwV hts hk hR) ⟨FPre.blind, hrecv, fun U hU hW => FPre.go hK hE hI hU hW⟩ rfl rfl hsize rfl (lv_room hroom) hdg hf) hI k
theorem fx_callS {y : MethodName} {cc' : ByteArray} {nL' index : Nat} {ret' : Option FieldType} {rm : Room} {as : List Value} (hx : p.tables.exec = Jvm.exec) (hb : c.code = cc) (hml : c.maxLocals = nL) (hts : ∀ w ∈ WL, w.before args s = true) (hown : s.vm.findClass own = some m.cls) (hK : va_K G.2.2.1 vwCl (TYS G.2.2.2) s) (hE : EV (G.2.1, G.2.2.2 5) A s s.heap) (hI : fI G.2.2.1 A s.heap w H locs) (hC : FC G y cc' nL' ret' rm as w po) (hk : CkS own index y cc' nL' ret' as.length) (hR : rm.frames + 1 ≤ R.frames ∧ 8 + (nL' + 11) + rm.locals ≤ R.locals) (hsize : ls.size = nL) (hroom : (rest.map fun v => v.category).sum ≤ 8) (hdg : decode cc pc = .ok (.invokestatic index, 3)) (hf : cells + rm.cells ≤ R.cells ∧ slots + rm.slots ≤ R.slots)
    (k : ∀ (v : Option Value) (w' : WD) (H1 : Heap) (locs1 : List Loc), po v w' → fI G.2.2.1 A s.heap w' H1 locs1 → W p G.1 e R s m args below meth c H1 locs1 (cells + rm.cells) (slots + rm.slots) Q (F0 m (pc + 3) ls (v.toList ++ rest))) : W p G.1 e R s m args below meth c H locs cells slots Q (F0 m pc ls (as.reverse ++ rest)) :=
  fx_kk (va_runS (As := as) (rest := rest) ⟨hx, hb, hml, hown, hts⟩ (hC H.size) (fx_cwS hts hk hR) ⟨FPre.blind, fun U hU hW => FPre.go hK hE hI hU hW⟩ rfl rfl hsize rfl (lv_room hroom) hdg hf) hI k
theorem fx_callI {y : MethodName} {cc' : ByteArray} {nL' index : Nat} {rm : Room} {as : List Value} {b : Nat} (hx : p.tables.exec = Jvm.exec) (hb : c.code = cc) (hml : c.maxLocals = nL) (hts : ∀ w ∈ WL, w.before args s = true) (hown : s.vm.findClass own = some m.cls) (hK : va_K G.2.2.1 vwCl (TYS G.2.2.2) s) (hE : EV (G.2.1, G.2.2.2 5) A s s.heap) (hI : fI G.2.2.1 A s.heap w H locs) (hC : FC G y cc' nL' none rm (.ref b :: as) w po) (hk : CkI own index y cc' nL' as.length) (hR : rm.frames + 1 ≤ R.frames ∧ 8 + (nL' + 11) + rm.locals ≤ R.locals) (hsize : ls.size = nL) (hroom : (rest.map fun v => v.category).sum ≤ 8) (hdg : decode cc pc = .ok (.invokespecial index, 3)) (hf : cells + rm.cells ≤ R.cells ∧ slots + rm.slots ≤ R.slots)
    (k : ∀ (v : Option Value) (w' : WD) (H1 : Heap) (locs1 : List Loc), po v w' → fI G.2.2.1 A s.heap w' H1 locs1 → W p G.1 e R s m args below meth c H1 locs1 (cells + rm.cells) (slots + rm.slots) Q (F0 m (pc + 3) ls (v.toList ++ rest))) : W p G.1 e R s m args below meth c H locs cells slots Q (F0 m pc ls (as.reverse ++ .ref b :: rest)) :=
  fx_kk (va_runI (As := as) (rest := rest) ⟨hx, hb, hml, hown, hts⟩ (hC H.size) (fx_cwI hts hk hR) ⟨FPre.blind, fun U hU hW => FPre.go hK hE hI hU hW⟩ rfl rfl hsize rfl (lv_room hroom) hdg hf) hI k
theorem fx_callF {x y : MethodName} {cc' : ByteArray} {nL' index count : Nat} {ret' : Option FieldType} {rm : Room} {as : List Value} {b : Nat} (hx : p.tables.exec = Jvm.exec) (hb : c.code = cc) (hml : c.maxLocals = nL) (hts : ∀ w ∈ WL, w.before args s = true) (hown : s.vm.findClass own = some m.cls) (hK : va_K G.2.2.1 vwCl (TYS G.2.2.2) s) (hE : EV (G.2.1, G.2.2.2 5) A s s.heap) (hI : fI G.2.2.1 A s.heap w H locs) (hC : FC G y cc' nL' ret' rm (.ref b :: as) w po) (hk : CkF own index x y cc' nL' ret' as.length) (hR : rm.frames + 1 ≤ R.frames ∧ 8 + (nL' + 11) + rm.locals ≤ R.locals) {kk ii ci : Nat} {fs : List Value} {q : vw_C} (he : w kk ii = some (b, .inr (ci, fs))) (hc : vwCl[ci]? = some q) (hq : q.1 = y.cls) (hsize : ls.size = nL) (hroom : (rest.map fun v => v.category).sum ≤ 8) (hdg : decode cc pc = .ok (.invokeinterface index count, 5)) (hf : cells + rm.cells ≤ R.cells ∧ slots + rm.slots ≤ R.slots)
    (k : ∀ (v : Option Value) (w' : WD) (H1 : Heap) (locs1 : List Loc), po v w' → fI G.2.2.1 A s.heap w' H1 locs1 → W p G.1 e R s m args below meth c H1 locs1 (cells + rm.cells) (slots + rm.slots) Q (F0 m (pc + 5) ls (v.toList ++ rest))) : W p G.1 e R s m args below meth c H locs cells slots Q (F0 m pc ls (as.reverse ++ .ref b :: rest)) := by
  have hrecv := fx_recv hK hI.1 he hc
  have hat : ClassAt s q.1 (G.2.2.1.1 ci) := (hK.1 ci q hc).2
  rw [hq] at hrecv hat
  exact fx_kk5 (va_runF (As := as) (rest := rest) hat ⟨hx, hb, hml, hown, hts⟩ (hC H.size) (fx_cwF hts hE.1 hk hR) ⟨FPre.blind, hrecv, fun U hU hW => FPre.go hK hE hI hU hW⟩ rfl rfl hsize rfl (lv_room hroom) hdg hf) hI k
theorem fx_xcallV {y : MethodName} {cc' : ByteArray} {nL' index : Nat} {ret' : Option FieldType} {rm : Room} {as : List Value} {b : Nat} (hx : p.tables.exec = Jvm.exec) (hb : c.code = cc) (hml : c.maxLocals = nL) (hts : ∀ w ∈ WL, w.before args s = true) (hown : s.vm.findClass own = some m.cls) (hK : va_K G.2.2.1 vwCl (TYS G.2.2.2) s) (hE : EV (G.2.1, G.2.2.2 5) A s s.heap) (hI : fI G.2.2.1 A s.heap w H locs) (hC : FX G y cc' nL' ret' rm (.ref b :: as) w po pX) (hk : CkV own index y cc' nL' ret' as.length) (hR : rm.frames + 1 ≤ R.frames ∧ 8 + (nL' + 11) + rm.locals ≤ R.locals) {kk ii ci : Nat} {fs : List Value} {q : vw_C} (he : w kk ii = some (b, .inr (ci, fs))) (hc : vwCl[ci]? = some q) (hq : q.1 = y.cls) (hsize : ls.size = nL) (hroom : (rest.map fun v => v.category).sum ≤ 8) (hdg : decode cc pc = .ok (.invokevirtual index, 3)) (hf : cells + rm.cells ≤ R.cells ∧ slots + rm.slots ≤ R.slots)
    (kx : ∀ (E : String) (ce : Cell) (q9 : Addr) (w' : WD) (H1 : Heap) (locs1 : List Loc), pX E w' → fI G.2.2.1 A s.heap w' H1 locs1 → H1[q9]? = some ce → ce.vm = .none → s.vm.findClass E = some ce.cls → vx_W p G.1 e R s m args below meth c H1 locs1 (cells + rm.cells) (slots + rm.slots) Q (F0 m pc ls rest) q9)
    (k : ∀ (v : Option Value) (w' : WD) (H1 : Heap) (locs1 : List Loc), po v w' → fI G.2.2.1 A s.heap w' H1 locs1 → W p G.1 e R s m args below meth c H1 locs1 (cells + rm.cells) (slots + rm.slots) Q (F0 m (pc + 3) ls (v.toList ++ rest))) : W p G.1 e R s m args below meth c H locs cells slots Q (F0 m pc ls (as.reverse ++ .ref b :: rest)) := by
  have hrecv := fx_recv hK hI.1 he hc
  rw [hq] at hrecv
  exact fx_xkk (vx_runV (As := as) (rest := rest) ⟨hx, hb, hml, hown, hts⟩ (hC H.size) (fx_cwV hts hk hR) ⟨FPre.blind, hrecv, fun U hU hW => FPre.go hK hE hI hU hW⟩ rfl rfl hsize rfl (lv_room hroom) hdg hf) hI kx k
theorem fx_xcallS {y : MethodName} {cc' : ByteArray} {nL' index : Nat} {ret' : Option FieldType} {rm : Room} {as : List Value} (hx : p.tables.exec = Jvm.exec) (hb : c.code = cc) (hml : c.maxLocals = nL) (hts : ∀ w ∈ WL, w.before args s = true) (hown : s.vm.findClass own = some m.cls) (hK : va_K G.2.2.1 vwCl (TYS G.2.2.2) s) (hE : EV (G.2.1, G.2.2.2 5) A s s.heap) (hI : fI G.2.2.1 A s.heap w H locs) (hC : FX G y cc' nL' ret' rm as w po pX) (hk : CkS own index y cc' nL' ret' as.length) (hR : rm.frames + 1 ≤ R.frames ∧ 8 + (nL' + 11) + rm.locals ≤ R.locals) (hsize : ls.size = nL) (hroom : (rest.map fun v => v.category).sum ≤ 8) (hdg : decode cc pc = .ok (.invokestatic index, 3)) (hf : cells + rm.cells ≤ R.cells ∧ slots + rm.slots ≤ R.slots)
    (kx : ∀ (E : String) (ce : Cell) (q9 : Addr) (w' : WD) (H1 : Heap) (locs1 : List Loc), pX E w' → fI G.2.2.1 A s.heap w' H1 locs1 → H1[q9]? = some ce → ce.vm = .none → s.vm.findClass E = some ce.cls → vx_W p G.1 e R s m args below meth c H1 locs1 (cells + rm.cells) (slots + rm.slots) Q (F0 m pc ls rest) q9)
    (k : ∀ (v : Option Value) (w' : WD) (H1 : Heap) (locs1 : List Loc), po v w' → fI G.2.2.1 A s.heap w' H1 locs1 → W p G.1 e R s m args below meth c H1 locs1 (cells + rm.cells) (slots + rm.slots) Q (F0 m (pc + 3) ls (v.toList ++ rest))) : W p G.1 e R s m args below meth c H locs cells slots Q (F0 m pc ls (as.reverse ++ rest)) :=
  fx_xkk (vx_runS (As := as) (rest := rest) ⟨hx, hb, hml, hown, hts⟩ (hC H.size) (fx_cwS hts hk hR) ⟨FPre.blind, fun U hU hW => FPre.go hK hE hI hU hW⟩ rfl rfl hsize rfl (lv_room hroom) hdg hf) hI kx k
/-! ends -/
theorem fx_iret (hx : p.tables.exec = Jvm.exec) (hb : c.code = cc) (hr : meth.sig.returnType = some .int) (hlocks : meth.locks = false) {v : Int32} (hp : po (some (.int v)) w) (hI : fI G.2.2.1 A s.heap w H locs) (hA : A = fA w0 s.heap.size) (hc : cells ≤ mc) (hs : slots ≤ ms) (hdg : decode cc pc = .ok (.ireturn, 1)) : W p G.1 e R s m args below meth c H locs cells slots (MQ below (FQ G w0 s.heap.size po) args s mc ms (fA w0 s.heap.size)) (F0 m pc ls [.int v]) := by
  subst hA
  refine W.widen (k := mc) (n := ms) hc hs ?_
  exact W.iret hx hb hr (fun t ht hW => ⟨⟨_, w, rfl, hp, by rw [ht]; exact hI.1, hI.2.1⟩, hI.2.2.1.F ht⟩) hI.2.2.1.2.2 hdg hlocks
theorem fx_zret (hx : p.tables.exec = Jvm.exec) (hb : c.code = cc) (hr : meth.sig.returnType = some .boolean) (hlocks : meth.locks = false) {v : Int32} (hn : narrow .boolean (.int v) = .int v) (hp : po (some (.int v)) w) (hI : fI G.2.2.1 A s.heap w H locs) (hA : A = fA w0 s.heap.size) (hc : cells ≤ mc) (hs : slots ≤ ms) (hdg : decode cc pc = .ok (.ireturn, 1)) : W p G.1 e R s m args below meth c H locs cells slots (MQ below (FQ G w0 s.heap.size po) args s mc ms (fA w0 s.heap.size)) (F0 m pc ls [.int v]) := by
  subst hA
  refine W.widen (k := mc) (n := ms) hc hs ?_
  exact W.zret hx hb hr hn (fun t ht hW => ⟨⟨_, w, rfl, hp, by rw [ht]; exact hI.1, hI.2.1⟩, hI.2.2.1.F ht⟩) hI.2.2.1.2.2 hdg hlocks
theorem fx_lret (hx : p.tables.exec = Jvm.exec) (hb : c.code = cc) (hr : meth.sig.returnType = some .long) (hlocks : meth.locks = false) {v : Int64} (hp : po (some (.long v)) w) (hI : fI G.2.2.1 A s.heap w H locs) (hA : A = fA w0 s.heap.size) (hc : cells ≤ mc) (hs : slots ≤ ms) (hdg : decode cc pc = .ok (.lreturn, 1)) : W p G.1 e R s m args below meth c H locs cells slots (MQ below (FQ G w0 s.heap.size po) args s mc ms (fA w0 s.heap.size)) (F0 m pc ls [.long v]) := by
  subst hA
  refine W.widen (k := mc) (n := ms) hc hs ?_
  exact W.lret hx hb hr (fun t ht hW => ⟨⟨_, w, rfl, hp, by rw [ht]; exact hI.1, hI.2.1⟩, hI.2.2.1.F ht⟩) hI.2.2.1.2.2 hdg hlocks
theorem fx_dret (hx : p.tables.exec = Jvm.exec) (hb : c.code = cc) (hr : meth.sig.returnType = some .double) (hlocks : meth.locks = false) {v : UInt64} (hp : po (some (.double v)) w) (hI : fI G.2.2.1 A s.heap w H locs) (hA : A = fA w0 s.heap.size) (hc : cells ≤ mc) (hs : slots ≤ ms) (hdg : decode cc pc = .ok (.dreturn, 1)) : W p G.1 e R s m args below meth c H locs cells slots (MQ below (FQ G w0 s.heap.size po) args s mc ms (fA w0 s.heap.size)) (F0 m pc ls [.double v]) := by
  subst hA
  refine W.widen (k := mc) (n := ms) hc hs ?_
  exact W.dret hx hb hr (fun t ht hW => ⟨⟨_, w, rfl, hp, by rw [ht]; exact hI.1, hI.2.1⟩, hI.2.2.1.F ht⟩) hI.2.2.1.2.2 hdg hlocks
theorem fx_vret (hx : p.tables.exec = Jvm.exec) (hb : c.code = cc) (hr : meth.sig.returnType = none) (hlocks : meth.locks = false) (hp : po none w) (hI : fI G.2.2.1 A s.heap w H locs) (hA : A = fA w0 s.heap.size) (hc : cells ≤ mc) (hs : slots ≤ ms) (hdg : decode cc pc = .ok (.return_, 1)) : W p G.1 e R s m args below meth c H locs cells slots (MQ below (FQ G w0 s.heap.size po) args s mc ms (fA w0 s.heap.size)) (F0 m pc ls []) := by
  subst hA
  refine W.widen (k := mc) (n := ms) hc hs ?_
  exact W.vret hx hb hr (fun t ht hW => ⟨⟨_, w, rfl, hp, by rw [ht]; exact hI.1, hI.2.1⟩, hI.2.2.1.F ht⟩) hI.2.2.1.2.2 hdg hlocks
theorem fx_aret (hx : p.tables.exec = Jvm.exec) (hb : c.code = cc) {rt : FieldType} (hr : meth.sig.returnType = some rt) (hrt : (∃ n, rt = .object n) ∨ ∃ t, rt = .array t) (hlocks : meth.locks = false) {v : Value} (hv : v = .null ∨ ∃ a, v = .ref a) (hp : po (some v) w) (hI : fI G.2.2.1 A s.heap w H locs) (hA : A = fA w0 s.heap.size) (hc : cells ≤ mc) (hs : slots ≤ ms) (hdg : decode cc pc = .ok (.areturn, 1)) : W p G.1 e R s m args below meth c H locs cells slots (MQ below (FQ G w0 s.heap.size po) args s mc ms (fA w0 s.heap.size)) (F0 m pc ls [v]) := by
  subst hA
  refine W.widen (k := mc) (n := ms) hc hs ?_
  exact W.aret hx hb hr hrt hv (fun t ht hW => ⟨⟨_, w, rfl, hp, by rw [ht]; exact hI.1, hI.2.1⟩, hI.2.2.1.F ht⟩) hI.2.2.1.2.2 hdg hlocks
/-- a throw of a callee goes on -/
theorem fx_thru (hout : ∀ x ∈ c.exceptionTable.toList, ∀ pc, covers x pc = false) (hlocks : meth.locks = false) {E : String} {ce : Cell} {q9 : Addr} (hp : pX E w) (hI : fI G.2.2.1 A s.heap w H locs) (hA : A = fA w0 s.heap.size) (hc : cells ≤ mc) (hs : slots ≤ ms) (h1 : H[q9]? = some ce) (h2 : ce.vm = .none) (h3 : s.vm.findClass E = some ce.cls) : vx_W p G.1 e R s m args below meth c H locs cells slots (vx_MQ below (FQ G w0 s.heap.size po) (FXq G w0 s.heap.size pX) args s mc ms (fA w0 s.heap.size)) (F0 m pc ls rest) q9 := by
  subst hA
  exact vx_out (fun x hx => hout x hx pc) hlocks h1 h2 h3 (fun t ht hv => ⟨⟨w, hp, by rw [ht]; exact hI.1, hI.2.1⟩, hI.2.2.1.F ht⟩) hI.2.2.1.2.2 hc hs
end FXC
