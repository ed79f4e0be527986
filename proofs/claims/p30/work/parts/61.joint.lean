/-! ===== calls in a bigger world: the rest stays ===== -/
/-- w, and R beside it -/
def jn (w R : WD) : WD := fun k i => match R k i with
  | some q => some q
  | none => w k i
def Dj (w R : WD) : Prop := ∀ k i q, R k i = some q → w k i = none
theorem jn_R {w R : WD} {k i : Nat} {q : Nat × va_E} (h : R k i = some q) : jn w R k i = some q := by
  unfold jn
  rw [h]
theorem jn_N {w R : WD} {k i : Nat} (h : R k i = none) : jn w R k i = w k i := by
  unfold jn
  rw [h]
theorem jn_w {w R : WD} (hD : Dj w R) {k i : Nat} {q : Nat × va_E} (h : w k i = some q) : jn w R k i = some q := by
  cases hr : R k i with
  | none => rw [jn_N hr]; exact h
  | some q9 => rw [hD k i q9 hr] at h; cases h
theorem jn_join {D : va_G} {A : Nat → Prop} {w w' R : WD} {H0 H H1 : Heap} {locs : List Loc} (hD : Dj w R) (hI : fI D A H0 (jn w R) H locs) (hk : ∀ q : Nat, q < H.size → ¬ fA w H.size q → H1[q]? = H[q]?) (hP' : fP D w' H1) (hD' : fD (fA w H.size) w') : fP D (jn w' R) H1 ∧ fD A (jn w' R) := by
  have hf : ∀ q, fA w H.size q → A q := (hI.sub (fun k i q h => jn_w hD h)).free
  have hRn : ∀ k i q, R k i = some q → ¬ fA w H.size q.1 := fun k i q h z => by
    rcases z with ⟨k2, i2, e2, h2⟩ | z
    · obtain ⟨rfl, rfl⟩ := hI.2.1.1 k i k2 i2 q (q.1, e2) (jn_R h) (jn_w hD h2) rfl
      rw [hD _ _ _ h] at h2
      cases h2
    · have := hI.1.lt (jn_R (w := w) h)
      omega
  refine ⟨fun k i q hq => ?_, ⟨fun k i k2 i2 q q2 h1 h2 e => ?_, fun k i q hq => ?_⟩⟩
  · cases hr : R k i with
    | none => rw [jn_N hr] at hq; exact hP' k i q hq
    | some q9 =>
      rw [jn_R hr] at hq
      cases hq
      exact (hI.1 k i q (jn_R hr)).kept (hk q.1 (hI.1.lt (jn_R hr)) (hRn k i q hr))
  · cases hr : R k i with
    | none =>
      rw [jn_N hr] at h1
      cases hr2 : R k2 i2 with
      | none => rw [jn_N hr2] at h2; exact hD'.1 k i k2 i2 q q2 h1 h2 e
      | some q9 =>
        rw [jn_R hr2] at h2
        cases h2
        exact absurd (by rw [← e]; exact hD'.2 k i q h1) (hRn k2 i2 q2 hr2)
    | some q9 =>
      rw [jn_R hr] at h1
      cases h1
      cases hr2 : R k2 i2 with
      | none =>
        rw [jn_N hr2] at h2
        exact absurd (by rw [e]; exact hD'.2 k2 i2 q2 h2) (hRn k i q hr)
      | some q8 =>
        rw [jn_R hr2] at h2
        cases h2
        exact hI.2.1.1 k i k2 i2 q q2 (jn_R hr) (jn_R hr2) e
  · cases hr : R k i with
    | none => rw [jn_N hr] at hq; exact hf _ (hD'.2 k i q hq)
    | some q9 => rw [jn_R hr] at hq; cases hq; exact hI.2.1.2 k i q (jn_R hr)
section FXJ
variable {p : Program} {e : Env} {R : Room} {s : State} {m : MethodId} {args : Array Value} {below : List Frame} {meth : Method} {c : Code} {H : Heap} {locs : List Loc} {cells slots : Nat} {Q : State → Prop}
variable {cc : ByteArray} {pc : Nat} {ls : Array Slot} {rest st0 : List Value} {G : GX} {A : Nat → Prop} {w w0 w1 wr : WD} {own : String} {nL mc ms : Nat} {a : Array Value} {po : Option Value → WD → Prop} {pX : String → WD → Prop} {vv : Value} {thr : Option String}
theorem fx_kkJ (hr : va_Run p G.1 e R s m args below meth c H locs cells slots mc ms (F0 m pc ls st0) rest (FQ G w H.size po a) (fA w H.size)) (hD : Dj w wr) (hI : fI G.2.2.1 A s.heap (jn w wr) H locs)
    (k : ∀ (v : Option Value) (w' : WD) (H1 : Heap) (locs1 : List Loc), po v w' → fI G.2.2.1 A s.heap (jn w' wr) H1 locs1 → W p G.1 e R s m args below meth c H1 locs1 (cells + mc) (slots + ms) Q (F0 m (pc + 3) ls (v.toList ++ rest))) : W p G.1 e R s m args below meth c H locs cells slots Q (F0 m pc ls st0) := by
  have hI1 := hI.sub (w' := w) (fun k i q h => jn_w hD h)
  intro T hT X
  obtain ⟨v, st₀, t, T', L, h0, X', hL, e1, e2, ⟨⟨v', w', hv, hp, hPw, hDw⟩, hF⟩, st⟩ := hr T hT X
  cases hv
  obtain ⟨hz, hk, hS⟩ := vx_keep h0 e1 hI1.2.2.1 (fun q _ h => hI1.free q h) hI1.free hL hF
  obtain ⟨j1, j2⟩ := jn_join hD hI hk (show fP _ w' T'.heap by rw [e1]; exact hPw) hDw
  obtain ⟨t2, a1, b1⟩ := k v w' T'.heap (locs ++ L) hp ⟨j1, j2, hS, hI.2.2.2⟩ T' rfl X'
  exact ⟨t2, st t2 a1, b1⟩
theorem fx_xkkJ (hr : vx_Run p G.1 e R s m args below meth c H locs cells slots mc ms (F0 m pc ls st0) rest (FQ G w H.size po a) (FXq G w H.size pX) (fA w H.size)) (hD : Dj w wr) (hI : fI G.2.2.1 A s.heap (jn w wr) H locs)
    (kx : ∀ (E : String) (ce : Cell) (q9 : Addr) (w' : WD) (H1 : Heap) (locs1 : List Loc), pX E w' → fI G.2.2.1 A s.heap (jn w' wr) H1 locs1 → H1[q9]? = some ce → ce.vm = .none → s.vm.findClass E = some ce.cls → vx_W p G.1 e R s m args below meth c H1 locs1 (cells + mc) (slots + ms) Q (F0 m pc ls rest) q9)
    (k : ∀ (v : Option Value) (w' : WD) (H1 : Heap) (locs1 : List Loc), po v w' → fI G.2.2.1 A s.heap (jn w' wr) H1 locs1 → W p G.1 e R s m args below meth c H1 locs1 (cells + mc) (slots + ms) Q (F0 m (pc + 3) ls (v.toList ++ rest))) : W p G.1 e R s m args below meth c H locs cells slots Q (F0 m pc ls st0) := by
  have hI1 := hI.sub (w' := w) (fun k i q h => jn_w hD h)
  intro T hT X
  rcases hr T hT X with ⟨v, st₀, t, T', L, h0, X', hL, e1, e2, ⟨⟨v', w', hv, hp, hPw, hDw⟩, hF⟩, st⟩ | ⟨q, st₀, t, T', L, E, ce, h0, X', hL, e1, e2, ⟨⟨w', hp, hPw, hDw⟩, hF⟩, hce, hcv, hcl, st⟩
  · cases hv
    obtain ⟨hz, hk, hS⟩ := vx_keep h0 e1 hI1.2.2.1 (fun q _ h => hI1.free q h) hI1.free hL hF
    obtain ⟨j1, j2⟩ := jn_join hD hI hk (show fP _ w' T'.heap by rw [e1]; exact hPw) hDw
    obtain ⟨t2, a1, b1⟩ := k v w' T'.heap (locs ++ L) hp ⟨j1, j2, hS, hI.2.2.2⟩ T' rfl X'
    exact ⟨t2, st t2 a1, b1⟩
  · obtain ⟨hz, hk, hS⟩ := vx_keep h0 e1 hI1.2.2.1 (fun q _ h => hI1.free q h) hI1.free hL hF
    obtain ⟨j1, j2⟩ := jn_join hD hI hk (show fP _ w' T'.heap by rw [e1]; exact hPw) hDw
    obtain ⟨t2, a1, b1⟩ := kx E ce q w' T'.heap (locs ++ L) hp ⟨j1, j2, hS, hI.2.2.2⟩ (by rw [e1]; exact hce) hcv hcl T' rfl X'
    exact ⟨t2, st.trans a1, b1⟩
theorem jx_callV {y : MethodName} {cc' : ByteArray} {nL' index : Nat} {ret' : Option FieldType} {rm : Room} {as : List Value} {b : Nat} (hx : p.tables.exec = Jvm.exec) (hb : c.code = cc) (hml : c.maxLocals = nL) (hts : ∀ w ∈ WL, w.before args s = true) (hown : s.vm.findClass own = some m.cls) (hK : va_K G.2.2.1 vwCl (TYS G.2.2.2) s) (hE : EV (G.2.1, G.2.2.2 5) A s s.heap) (hD : Dj w wr) (hI : fI G.2.2.1 A s.heap (jn w wr) H locs) (hC : FC G y cc' nL' ret' rm (.ref b :: as) w po) (hk : CkV own index y cc' nL' ret' as.length) (hR : rm.frames + 1 ≤ R.frames ∧ 8 + (nL' + 11) + rm.locals ≤ R.locals) {kk ii ci : Nat} {fs : List Value} {q : vw_C} (he : w kk ii = some (b, .inr (ci, fs))) (hc : vwCl[ci]? = some q) (hq : q.1 = y.cls) (hsize : ls.size = nL) (hroom : (rest.map fun v => v.category).sum ≤ 8) (hdg : decode cc pc = .ok (.invokevirtual index, 3)) (hf : cells + rm.cells ≤ R.cells ∧ slots + rm.slots ≤ R.slots)
    (k : ∀ (v : Option Value) (w' : WD) (H1 : Heap) (locs1 : List Loc), po v w' → fI G.2.2.1 A s.heap (jn w' wr) H1 locs1 → W p G.1 e R s m args below meth c H1 locs1 (cells + rm.cells) (slots + rm.slots) Q (F0 m (pc + 3) ls (v.toList ++ rest))) : W p G.1 e R s m args below meth c H locs cells slots Q (F0 m pc ls (as.reverse ++ .ref b :: rest)) := by
  have hI1 := hI.sub (w' := w) (fun k i q h => jn_w hD h)
  have hrecv := fx_recv hK hI1.1 he hc
  rw [hq] at hrecv
  exact fx_kkJ (va_runV (As := as) (rest := rest) ⟨hx, hb, hml, hown, hts⟩ (hC H.size) (fx_cwV hts hk hR) ⟨FPre.blind, hrecv, fun U hU hW => FPre.go hK hE hI1 hU hW⟩ rfl rfl hsize rfl (lv_room hroom) hdg hf) hD hI k
theorem jx_callI {y : MethodName} {cc' : ByteArray} {nL' index : Nat} {rm : Room} {as : List Value} {b : Nat} (hx : p.tables.exec = Jvm.exec) (hb : c.code = cc) (hml : c.maxLocals = nL) (hts : ∀ w ∈ WL, w.before args s = true) (hown : s.vm.findClass own = some m.cls) (hK : va_K G.2.2.1 vwCl (TYS G.2.2.2) s) (hE : EV (G.2.1, G.2.2.2 5) A s s.heap) (hD : Dj w wr) (hI : fI G.2.2.1 A s.heap (jn w wr) H locs) (hC : FC G y cc' nL' none rm (.ref b :: as) w po) (hk : CkI own index y cc' nL' as.length) (hR : rm.frames + 1 ≤ R.frames ∧ 8 + (nL' + 11) + rm.locals ≤ R.locals) (hsize : ls.size = nL) (hroom : (rest.map fun v => v.category).sum ≤ 8) (hdg : decode cc pc = .ok (.invokespecial index, 3)) (hf : cells + rm.cells ≤ R.cells ∧ slots + rm.slots ≤ R.slots)
    (k : ∀ (v : Option Value) (w' : WD) (H1 : Heap) (locs1 : List Loc), po v w' → fI G.2.2.1 A s.heap (jn w' wr) H1 locs1 → W p G.1 e R s m args below meth c H1 locs1 (cells + rm.cells) (slots + rm.slots) Q (F0 m (pc + 3) ls (v.toList ++ rest))) : W p G.1 e R s m args below meth c H locs cells slots Q (F0 m pc ls (as.reverse ++ .ref b :: rest)) :=
  fx_kkJ (va_runI (As := as) (rest := rest) ⟨hx, hb, hml, hown, hts⟩ (hC H.size) (fx_cwI hts hk hR) ⟨FPre.blind, fun U hU hW => FPre.go hK hE (hI.sub (w' := w) (fun k i q h => jn_w hD h)) hU hW⟩ rfl rfl hsize rfl (lv_room hroom) hdg hf) hD hI k
theorem jx_xcallV {y : MethodName} {cc' : ByteArray} {nL' index : Nat} {ret' : Option FieldType} {rm : Room} {as : List Value} {b : Nat} (hx : p.tables.exec = Jvm.exec) (hb : c.code = cc) (hml : c.maxLocals = nL) (hts : ∀ w ∈ WL, w.before args s = true) (hown : s.vm.findClass own = some m.cls) (hK : va_K G.2.2.1 vwCl (TYS G.2.2.2) s) (hE : EV (G.2.1, G.2.2.2 5) A s s.heap) (hD : Dj w wr) (hI : fI G.2.2.1 A s.heap (jn w wr) H locs) (hC : FX G y cc' nL' ret' rm (.ref b :: as) w po pX) (hk : CkV own index y cc' nL' ret' as.length) (hR : rm.frames + 1 ≤ R.frames ∧ 8 + (nL' + 11) + rm.locals ≤ R.locals) {kk ii ci : Nat} {fs : List Value} {q : vw_C} (he : w kk ii = some (b, .inr (ci, fs))) (hc : vwCl[ci]? = some q) (hq : q.1 = y.cls) (hsize : ls.size = nL) (hroom : (rest.map fun v => v.category).sum ≤ 8) (hdg : decode cc pc = .ok (.invokevirtual index, 3)) (hf : cells + rm.cells ≤ R.cells ∧ slots + rm.slots ≤ R.slots)
    (kx : ∀ (E : String) (ce : Cell) (q9 : Addr) (w' : WD) (H1 : Heap) (locs1 : List Loc), pX E w' → fI G.2.2.1 A s.heap (jn w' wr) H1 locs1 → H1[q9]? = some ce → ce.vm = .none → s.vm.findClass E = some ce.cls → vx_W p G.1 e R s m args below meth c H1 locs1 (cells + rm.cells) (slots + rm.slots) Q (F0 m pc ls rest) q9)
    (k : ∀ (v : Option Value) (w' : WD) (H1 : Heap) (locs1 : List Loc), po v w' → fI G.2.2.1 A s.heap (jn w' wr) H1 locs1 → W p G.1 e R s m args below meth c H1 locs1 (cells + rm.cells) (slots + rm.slots) Q (F0 m (pc + 3) ls (v.toList ++ rest))) : W p G.1 e R s m args below meth c H locs cells slots Q (F0 m pc ls (as.reverse ++ .ref b :: rest)) := by
  have hI1 := hI.sub (w' := w) (fun k i q h => jn_w hD h)
  have hrecv := fx_recv hK hI1.1 he hc
  rw [hq] at hrecv
  exact fx_xkkJ (vx_runV (As := as) (rest := rest) ⟨hx, hb, hml, hown, hts⟩ (hC H.size) (fx_cwV hts hk hR) ⟨FPre.blind, hrecv, fun U hU hW => FPre.go hK hE hI1 hU hW⟩ rfl rfl hsize rfl (lv_room hroom) hdg hf) hD hI kx k
/-! ===== a method with a table of handlers that lets nothing out ===== -/
def FH (G : GX) (y : MethodName) (cc : ByteArray) (nL : Nat) (ret : Option FieldType) (hh : List (Nat × Nat × Nat × Nat)) (rm : Room) (as : List Value) (w : WD) (po : Option Value → WD → Prop) : Prop :=
  ∀ sz, vx_Met G.1 y (Cond.codeWith y cc nL ret hh :: WL) rm (va_Pc as (FPre G w sz)) (FQ G w sz po) (FXq G w sz (fun _ _ => False)) rm.cells rm.slots (fA w sz)
/-- words of a static call of such a method -/
def CkH (own : String) (index : Nat) (y : MethodName) (cc : ByteArray) (nL : Nat) (ret : Option FieldType) (hh : List (Nat × Nat × Nat × Nat)) (n : Nat) : Prop :=
  Cond.codeWith y cc nL ret hh ∈ WL ∧ Cond.methodLink own index y ∈ WL ∧ Cond.static y ∈ WL ∧ Cond.initialized y.cls ∈ WL ∧ y.cls ≠ "java/lang/invoke/MethodHandle" ∧ y.cls ≠ "java/lang/invoke/VarHandle" ∧ (parseMethodDescriptor y.desc).map (fun d => d.parameters.length) = some n
theorem CkH.good {own : String} {index : Nat} {y : MethodName} {cc : ByteArray} {nL : Nat} {ret : Option FieldType} {hh : List (Nat × Nat × Nat × Nat)} {n : Nat} (hk : CkH own index y cc nL ret hh n) : GoodIn WL (va_wsS own index y (Cond.codeWith y cc nL ret hh :: WL)) := by
  obtain ⟨h1, h2, h3, h4, -⟩ := hk
  intro x hx
  have key : x ∈ WL := by
    unfold va_wsS at hx
    rcases List.mem_append.mp hx with hx | hx
    · simp only [List.mem_cons, List.not_mem_nil, or_false] at hx
      rcases hx with rfl | rfl | rfl
      · exact h2
      · exact h3
      · exact h4
    · rcases List.mem_cons.mp hx with rfl | hx
      · exact h1
      · exact hx
  exact ⟨key, good_of_word (WL_good key)⟩
theorem jx_callH {y : MethodName} {cc' : ByteArray} {nL' index : Nat} {ret' : Option FieldType} {hh : List (Nat × Nat × Nat × Nat)} {rm : Room} {as : List Value} (hx : p.tables.exec = Jvm.exec) (hb : c.code = cc) (hml : c.maxLocals = nL) (hts : ∀ w ∈ WL, w.before args s = true) (hown : s.vm.findClass own = some m.cls) (hK : va_K G.2.2.1 vwCl (TYS G.2.2.2) s) (hE : EV (G.2.1, G.2.2.2 5) A s s.heap) (hD : Dj w wr) (hI : fI G.2.2.1 A s.heap (jn w wr) H locs) (hC : FH G y cc' nL' ret' hh rm as w po) (hk : CkH own index y cc' nL' ret' hh as.length) (hR : rm.frames + 1 ≤ R.frames ∧ 8 + (nL' + 11) + rm.locals ≤ R.locals) (hsize : ls.size = nL) (hroom : (rest.map fun v => v.category).sum ≤ 8) (hdg : decode cc pc = .ok (.invokestatic index, 3)) (hf : cells + rm.cells ≤ R.cells ∧ slots + rm.slots ≤ R.slots)
    (k : ∀ (v : Option Value) (w' : WD) (H1 : Heap) (locs1 : List Loc), po v w' → fI G.2.2.1 A s.heap (jn w' wr) H1 locs1 → W p G.1 e R s m args below meth c H1 locs1 (cells + rm.cells) (slots + rm.slots) Q (F0 m (pc + 3) ls (v.toList ++ rest))) : W p G.1 e R s m args below meth c H locs cells slots Q (F0 m pc ls (as.reverse ++ rest)) :=
  fx_xkkJ (vx_runSX (As := as) (rest := rest) ⟨hx, hb, hml, hown, hts⟩ (hC H.size) (vx_cwSW as.length hts hk.good rfl rfl rfl hk.2.2.2.2 hR) ⟨FPre.blind, fun U hU hW => FPre.go hK hE (hI.sub (w' := w) (fun k i q h => jn_w hD h)) hU hW⟩ rfl rfl hsize rfl (lv_room hroom) hdg hf) hD hI (fun _ _ _ _ _ _ hp => hp.elim) k
end FXJ
