/-! ===== the law's wrappers: a call, and what they catch ===== -/
theorem FH.go {G : GX} {y : MethodName} {cc : ByteArray} {nL : Nat} {ret : Option FieldType} {hh : List (Nat × Nat × Nat × Nat)} {rm : Room} {as : List Value} {w : WD} {po : Option Value → WD → Prop} (hy : plainName y.cls = true) (hlen : (lg_sl as).length ≤ nL) {lv : List (Nat × Value)} (hlv : lv_args 0 as = lv)
    (body : ∀ (p : Program) (e : Env) (s : State) (m : MethodId) (args : Array Value) (below : List Frame) (meth : Method) (c : Code) (A : Nat → Prop) (H : Heap) (locs : List Loc) (ls : Array Slot) (Q : State → Prop), p.tables.exec = Jvm.exec → c.code = cc → meth.sig.returnType = ret → (∀ w ∈ WL, w.before args s = true) → s.vm.findClass y.cls = some m.cls → c.maxLocals = nL → meth.locks = false → c.exceptionTable.toList = tableOf hh → va_K G.2.2.1 vwCl (TYS G.2.2.2) s → EV (G.2.1, G.2.2.2 5) A s s.heap → fI G.2.2.1 A s.heap w H locs → A = fA w s.heap.size → lv_has ls nL lv → Q = vx_MQ below (FQ G w s.heap.size po) (FXq G w s.heap.size (fun _ _ => False)) args s rm.cells rm.slots (fA w s.heap.size) →
      W p G.1 e rm s m args below meth c H locs 0 0 Q (F0 m 0 ls [])) : FH G y cc nL ret hh rm as w po := by
  intro sz
  refine vx_ofWH (cc := cc) (maxL := nL) (ret := ret) (hh := hh) hy rfl ?_
  intro p e s m args below meth c s₁ B hml hv
  obtain ⟨rfl, hsz, hP, hK, hD0, hE⟩ := hv
  subst hsz
  have hts := atoms_spec (ws := Cond.codeWith y cc nL ret hh :: WL) B.pre
  have hD : fD (fA w s.heap.size) w := ⟨hD0.1, fun k i q hq => fA.in hq⟩
  rw [lg_entry_eq]
  exact body p e s m as.toArray below meth c (fA w s.heap.size) s.heap [] _ _ B.exec B.bytes B.returns (fun x hx => hts x (List.mem_cons_of_mem _ hx)) (findClass_of_methodNamed B.named) hml B.notSynchronized (vx_table (x := y) B (hts _ List.mem_cons_self)) hK hE ⟨hP, hD, va_S.rf, fun q h => Or.inr h⟩ rfl (hlv ▸ lv_entry as hlen) rfl
section FXK
variable {p : Program} {e : Env} {R : Room} {s : State} {m : MethodId} {args : Array Value} {below : List Frame} {meth : Method} {c : Code} {H : Heap} {locs : List Loc} {cells slots : Nat} {Q : State → Prop}
variable {cc : ByteArray} {pc : Nat} {ls : Array Slot} {rest st0 : List Value} {G : GX} {A : Nat → Prop}
theorem jx_catch (hts : ∀ w ∈ WL, w.before args s = true) (hown : s.vm.findClass "IcehighwayLaw" = some m.cls) (hE : EV (G.2.1, G.2.2.2 5) A s s.heap) {hh : List (Nat × Nat × Nat × Nat)} (htab : c.exceptionTable.toList = tableOf hh) (pre : List (Nat × Nat × Nat × Nat)) (x : Nat × Nat × Nat × Nat) (suf : List (Nat × Nat × Nat × Nat)) (hhs : hh = pre ++ x :: suf) {E name : String}
    (hpre : ∀ z ∈ pre, z.2.2.2 ≠ 0 ∧ ∃ nm, Cond.classLink "IcehighwayLaw" z.2.2.2 nm ∈ WL ∧ (E, nm) ∈ NCs) (hx : covers ⟨x.1, x.2.1, x.2.2.1, x.2.2.2⟩ pc = true) (h0 : x.2.2.2 ≠ 0) (hlink : Cond.classLink "IcehighwayLaw" x.2.2.2 name ∈ WL) (hcast : Cond.castable E name ∈ XL) {ce : Cell} {q9 : Addr} (hcell : H[q9]? = some ce) (hv : ce.vm = .none) (hcl : s.vm.findClass E = some ce.cls)
    (kk : W p G.1 e R s m args below meth c H locs cells slots Q (F0 m x.2.2.1 ls [.ref q9])) : vx_W p G.1 e R s m args below meth c H locs cells slots Q (F0 m pc ls rest) q9 := by
  refine vx_catch (E := E) (name := name) hown (tableOf pre) ⟨x.1, x.2.1, x.2.2.1, x.2.2.2⟩ (tableOf suf) ?_ ?_ hx h0 (hts _ hlink) (XL_use hcast (hE.1 _ hcast)) hcell hv hcl kk
  · rw [htab, hhs]
    unfold tableOf
    rw [List.map_append, List.map_cons]
  · intro z hz
    obtain ⟨z0, hz0, rfl⟩ := List.mem_map.mp hz
    obtain ⟨g0, nm, g1, g2⟩ := hpre z0 hz0
    exact Or.inr ⟨g0, nm, hts _ g1, hE.2.2.2.2.2.2.2.2 _ g2⟩
end FXK
/-- the out array of the law: of longs (10), of doubles (11) -/
def oW (T : Nat → ClassId) (b : Nat) (f : Nat → Int64) : WD := fun k i => if k = 10 ∧ i = 0 then some (b, .inl (T 3, 1, .inr (.inl f))) else none
def oD (T : Nat → ClassId) (b : Nat) (f : Nat → UInt64) : WD := fun k i => if k = 11 ∧ i = 0 then some (b, .inl (T 1, 1, .inr (.inr (.inr (.inl f))))) else none
theorem xW_10 {T : Nat → ClassId} {z : Nat} {Z : XZ} {S : XS} {i : Nat} : xW T z Z S 10 i = none := rfl
theorem xW_11 {T : Nat → ClassId} {z : Nat} {Z : XZ} {S : XS} {i : Nat} : xW T z Z S 11 i = none := rfl
theorem Dj_oW {T : Nat → ClassId} {z b : Nat} {Z : XZ} {S : XS} {f : Nat → Int64} : Dj (xW T z Z S) (oW T b f) := fun k i q h => by
  unfold oW at h
  split at h
  · rename_i hk
    rw [hk.1]
    rfl
  · cases h
theorem Dj_oD {T : Nat → ClassId} {z b : Nat} {Z : XZ} {S : XS} {f : Nat → UInt64} : Dj (xW T z Z S) (oD T b f) := fun k i q h => by
  unfold oD at h
  split at h
  · rename_i hk
    rw [hk.1]
    rfl
  · cases h
theorem oW_s {T : Nat → ClassId} {w : WD} {b : Nat} {f : Nat → Int64} : jn w (oW T b f) 10 0 = some (b, .inl (T 3, 1, .inr (.inl f))) := jn_R (if_pos ⟨rfl, rfl⟩)
theorem oD_s {T : Nat → ClassId} {w : WD} {b : Nat} {f : Nat → UInt64} : jn w (oD T b f) 11 0 = some (b, .inl (T 1, 1, .inr (.inr (.inr (.inl f))))) := jn_R (if_pos ⟨rfl, rfl⟩)
theorem oW_u {T : Nat → ClassId} {w : WD} {b : Nat} {f : Nat → Int64} {x : Int64} : fU (jn w (oW T b f)) 10 0 (b, .inl (T 3, 1, .inr (.inl (vp_updL f 0 x)))) = jn w (oW T b (vp_updL f 0 x)) := by
  funext k i
  by_cases q : k = 10 ∧ i = 0
  · obtain ⟨rfl, rfl⟩ := q
    rw [fU_same, oW_s]
  · rw [fU_ne q, jn_N (if_neg q), jn_N (if_neg q)]
theorem oD_u {T : Nat → ClassId} {w : WD} {b : Nat} {f : Nat → UInt64} {x : UInt64} : fU (jn w (oD T b f)) 11 0 (b, .inl (T 1, 1, .inr (.inr (.inr (.inl (vf_upd f 0 x)))))) = jn w (oD T b (vf_upd f 0 x)) := by
  funext k i
  by_cases q : k = 11 ∧ i = 0
  · obtain ⟨rfl, rfl⟩ := q
    rw [fU_same, oD_s]
  · rw [fU_ne q, jn_N (if_neg q), jn_N (if_neg q)]
/-- what a wrapper comes to: 0 and the answer told, or the number of the exception and nothing changed -/
def poL (T : Nat → ClassId) (w0 : WD) (b : Nat) (f : Nat → Int64) (cv : Value → Int64) (po : Option Value → WD → Prop) (pX : String → WD → Prop) (code : String → Int32) : Option Value → WD → Prop := fun v w' => (∃ x w1, po (some x) w1 ∧ v = some (.int 0) ∧ w' = jn w1 (oW T b (vp_updL f 0 (cv x)))) ∨ (∃ E, pX E w0 ∧ v = some (.int (code E)) ∧ w' = jn w0 (oW T b f))
def poD (T : Nat → ClassId) (w0 : WD) (b : Nat) (f : Nat → UInt64) (cv : Value → UInt64) (po : Option Value → WD → Prop) (pX : String → WD → Prop) (code : String → Int32) : Option Value → WD → Prop := fun v w' => (∃ x w1, po (some x) w1 ∧ v = some (.int 0) ∧ w' = jn w1 (oD T b (vf_upd f 0 (cv x)))) ∨ (∃ E, pX E w0 ∧ v = some (.int (code E)) ∧ w' = jn w0 (oD T b f))
