/-! ===== a new array ===== -/
section FXN
variable {p : Program} {e : Env} {R : Room} {s : State} {m : MethodId} {args : Array Value} {below : List Frame} {meth : Method} {c : Code} {H : Heap} {locs : List Loc} {cells slots : Nat} {Q : State → Prop}
variable {cc : ByteArray} {pc : Nat} {ls : Array Slot} {rest : List Value} {G : GX} {A : Nat → Prop} {w : WD} {H0 : Heap} {own : String} {nL : Nat}
theorem fx_newa (hx : p.tables.exec = Jvm.exec) (hb : c.code = cc) (hts : ∀ w ∈ WL, w.before args s = true) (hK : va_K G.2.2.1 vwCl (TYS G.2.2.2) s) (hI : fI G.2.2.1 A H0 w H locs) {atype : ArrayType} {kt : Nat} (hkt : (TYS G.2.2.2)[kt]? = some (G.2.2.2 kt, newarray.typeOf atype)) (harr : Cond.arrayClass (newarray.typeOf atype) ∈ WL) {n : Int32} {N : Nat} {a0 : vp_A} (ha : ∀ cA : ClassId, vp_cell cA a0 = arrV cA N (fun _ => defaultValue (newarray.typeOf atype))) (hn : ¬ n < 0) (hN : n.toNatClampNeg = N) (hbytes : N * componentBytes (newarray.typeOf atype) ≤ 536870912) (hcells : cells + 1 ≤ R.cells) (hslots : slots + N ≤ R.slots) {k i : Nat} (hno : w k i = none) {w' : WD} (hw : ∀ h, fU w k i (h, .inl (G.2.2.2 kt, a0)) = fU w k i (h, .inl (G.2.2.2 kt, a0))) (hdg : decode cc pc = .ok (.newarray atype, 2))
    (kk : ∀ (H1 : Heap), fI G.2.2.1 A H0 (fU w k i (H.size, .inl (G.2.2.2 kt, a0))) H1 locs → H1.size = H.size + 1 → W p G.1 e R s m args below meth c H1 locs (cells + 1) (slots + N) Q (F0 m (pc + 2) ls (.ref H.size :: rest))) : W p G.1 e R s m args below meth c H locs cells slots Q (F0 m pc ls (.int n :: rest)) := by
  refine va_newaK hx hb (hts _ harr) rfl hdg rfl hn hN hbytes hcells hslots rfl fun H1 cA e1 z1 o1 hAr hNm => ?_
  have h2 := (hK.2 kt _ hkt).2
  have h3 : s.vm.findClass ("[" ++ (newarray.typeOf atype).toString) = some (G.2.2.2 kt) := by cases atype <;> exact h2
  have h4 : cA = G.2.2.2 kt := Option.some.inj (hNm.symm.trans h3)
  subst h4
  refine kk H1 (hI.push hno ?_ z1 o1) z1
  show H1[H.size]? = some (vp_cell _ _)
  rw [ha]
  exact e1
end FXN
