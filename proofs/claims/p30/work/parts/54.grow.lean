/-! ===== rows for arrays of references; Arrays.copyOf, ArrayList.grow, add ===== -/
section FXG
variable {p : Program} {e : Env} {R : Room} {s : State} {m : MethodId} {args : Array Value} {below : List Frame} {meth : Method} {c : Code} {H : Heap} {locs : List Loc} {cells slots : Nat} {Q : State → Prop}
variable {cc : ByteArray} {pc : Nat} {ls : Array Slot} {rest : List Value} {G : GX} {A : Nat → Prop} {w : WD} {H0 : Heap} {own : String} {nL : Nat}
theorem fx_newq (hx : p.tables.exec = Jvm.exec) (hb : c.code = cc) (hts : ∀ w ∈ WL, w.before args s = true) (hown : s.vm.findClass own = some m.cls) (hK : va_K G.2.2.1 vwCl (TYS G.2.2.2) s) (hE : EV (G.2.1, G.2.2.2 5) A s s.heap) (hI : fI G.2.2.1 A H0 w H locs) {index : Nat} (hcl : Cond.classLink own index "java/lang/Object" ∈ WL) {n : Int32} {N : Nat} (hn : ¬ n < 0) (hN : n.toNatClampNeg = N) (hbytes : N * 4 ≤ 536870912) (hcells : cells + 1 ≤ R.cells) (hslots : slots + N ≤ R.slots) {k i : Nat} (hno : w k i = none) (hdg : decode cc pc = .ok (.anewarray index, 3))
    (kk : ∀ (H1 : Heap), fI G.2.2.1 A H0 (fU w k i (H.size, aQ G.2.2.2 N (fun _ => none))) H1 locs → H1.size = H.size + 1 → W p G.1 e R s m args below meth c H1 locs (cells + 1) (slots + N) Q (F0 m (pc + 3) ls (.ref H.size :: rest))) : W p G.1 e R s m args below meth c H locs cells slots Q (F0 m pc ls (.int n :: rest)) := by
  subst hN
  refine W.anew hx hb hown (hts _ hcl) (va_AO.use hE.2.2.2.2.2.2.1) rfl hdg rfl hn hbytes hcells hslots fun cA kA comp f1 f2 f3 f4 => ?_
  generalize hH1 : H.push ({ cls := cA, slots := Array.replicate n.toNatClampNeg .null, vm := .none } : Cell) = H1
  have z1 : H1.size = H.size + 1 := by rw [← hH1, Array.size_push]
  have e1 : H1[H.size]? = some (arrV cA n.toNatClampNeg (fun _ => .null)) := by rw [← hH1, Array.getElem?_push_size, ← arrV_new]
  have o1 : ∀ q : Nat, q < H.size → H1[q]? = H[q]? := fun q hq => by rw [← hH1, Array.getElem?_push, if_neg (Nat.ne_of_lt hq)]
  obtain ⟨kB, comp2, g1, g2, g3, g4⟩ := (hK.2 4 _ rfl).2
  have h4 : cA = G.2.2.2 4 := Option.some.inj (f1.symm.trans g4)
  subst h4
  exact kk H1 (hI.push hno e1 z1 o1) z1
theorem fx_aast (hx : p.tables.exec = Jvm.exec) (hb : c.code = cc) (hK : va_K G.2.2.1 vwCl (TYS G.2.2.2) s) (hI : fI G.2.2.1 A H0 w H locs) {k j a n v : Nat} {f : Nat → Option Nat} (he : w k j = some (a, aQ G.2.2.2 n f)) (hr : va_Any "java/lang/Object" s H v) {i : Int32} (hin : vp_in i n) (hdg : decode cc pc = .ok (.aastore, 1))
    (kk : ∀ (H1 : Heap) (locs1 : List Loc), fI G.2.2.1 A H0 (fU w k j (a, aQ G.2.2.2 n (va_up f i.toNatClampNeg (some v)))) H1 locs1 → W p G.1 e R s m args below meth c H1 locs1 cells slots Q (F0 m (pc + 1) ls rest)) : W p G.1 e R s m args below meth c H locs cells slots Q (F0 m pc ls (.ref v :: .int i :: .ref a :: rest)) := by
  have hlt : i.toNatClampNeg < n := Nat.not_le.mp fun q => hin (Or.inr q)
  have h0 : ¬ i < 0 := fun q => hin (Or.inl q)
  obtain ⟨cellV, g1, g3, ⟨kC, hkC⟩, hasg⟩ := hr
  obtain ⟨kA, comp, k1, k2, k3, -⟩ := (hK.2 4 _ rfl).2
  obtain ⟨kE, hkE, -⟩ := Vm.findClass_spec k3
  refine W.aast hx hb (hI.1 k j _ he) (fun q h => by cases h) (fun h => by cases h) k1 k2 rfl hkE ⟨h0, by show _ < (arrV _ _ _).slots.size; rw [arrV_size]; exact hlt⟩ g1 (fun q h => by rw [h] at g3; cases g3) hkC (hasg _ k3) rfl rfl hdg fun H1 e z oq => ?_
  refine kk H1 _ (hI.set (e := aQ G.2.2.2 n (va_up f i.toNatClampNeg (some v))) (j := i.toNatClampNeg) he ?_ z oq)
  show H1[a]? = some (vp_cell _ _)
  rw [e]
  rw [vp_cell_q, vp_cell_q, arrV_store]
  congr 2
  funext q
  by_cases hq : q = i.toNatClampNeg
  · subst hq
    simp [updV, va_up, va_rf]
  · simp [updV, va_up, hq]
theorem fx_alenq (hx : p.tables.exec = Jvm.exec) (hb : c.code = cc) (hK : va_K G.2.2.1 vwCl (TYS G.2.2.2) s) (hI : fI G.2.2.1 A H0 w H locs) {k j a n : Nat} {f : Nat → Option Nat} (he : w k j = some (a, aQ G.2.2.2 n f)) (hdg : decode cc pc = .ok (.arraylength, 1))
    (kk : W p G.1 e R s m args below meth c H locs cells slots Q (F0 m (pc + 1) ls (.int (nI n) :: rest))) : W p G.1 e R s m args below meth c H locs cells slots Q (F0 m pc ls (.ref a :: rest)) :=
  va_alen (D := G.2.2.1) (cl := vwCl) (tys := TYS G.2.2.2) (ws := [(a, aQ G.2.2.2 n f)]) hx hb hK (fun n q hq => by
    cases n with
    | zero => cases hq; exact hI.1 k j _ he
    | succ n => simp at hq) 0 4 rfl rfl (v := nI n) rfl hdg kk
theorem fx_alenz (hx : p.tables.exec = Jvm.exec) (hb : c.code = cc) (hE : EV (G.2.1, G.2.2.2 5) A s s.heap) (hI : fI G.2.2.1 A s.heap w H locs) (hdg : decode cc pc = .ok (.arraylength, 1))
    (kk : W p G.1 e R s m args below meth c H locs cells slots Q (F0 m (pc + 1) ls (.int 0 :: rest))) : W p G.1 e R s m args below meth c H locs cells slots Q (F0 m pc ls (.ref G.2.1 :: rest)) := by
  obtain ⟨cell, h1, h2, h3, h4, h5, h6, h7⟩ := hE.2.2.2.2.2.1
  exact W.alen (n := 0) hx hb (by rw [hI.2.2.1.2.1 G.2.1 (Array.getElem?_eq_some_iff.mp h1).1 h7]; exact h1) h2 h5 rfl rfl hdg kk
theorem fx_any (hE : EV (G.2.1, G.2.2.2 5) A s s.heap) (hK : va_K G.2.2.1 vwCl (TYS G.2.2.2) s) (hI : fI G.2.2.1 A H0 w H locs) {k i y ci : Nat} {fs : List Value} (he : w k i = some (y, .inr (ci, fs))) (hci : ci = 1 ∨ ci = 2 ∨ ci = 3) : va_Any "java/lang/Object" s H y := by
  have key : ∀ (r : vw_C), vwCl[ci]? = some r → Cond.castable r.1 "java/lang/Object" ∈ XL → va_Any "java/lang/Object" s H y := fun r hr hw => by
    obtain ⟨c3, t3, w1, w2, w3⟩ := Cond.castable_spec (XL_use (args := #[]) hw (hE.1 _ hw))
    refine va_rAny (D := G.2.2.1) (cl := vwCl) (tys := TYS G.2.2.2) (ws := [(y, .inr (ci, fs))]) hK (fun n q hq => by
      cases n with
      | zero => cases hq; exact hI.1 k i _ he
      | succ n => simp at hq) (q0 := 0) rfl hr (fun comp c0 h1 h2 => ?_)
    cases w1.symm.trans h2
    cases w2.symm.trans h1
    exact w3
  rcases hci with rfl | rfl | rfl
  · exact key _ rfl q744
  · exact key _ rfl q741
  · exact key _ rfl q743
theorem fx_copyq (hx : p.tables.exec = Jvm.exec) (hb : c.code = cc) (hml : c.maxLocals = ls.size) (hts : ∀ w ∈ WL, w.before args s = true) (hown : s.vm.findClass own = some m.cls) {index : Nat} (hlink : Cond.methodLink own index arraycopyName ∈ WL) (hK : va_K G.2.2.1 vwCl (TYS G.2.2.2) s) (hI : fI G.2.2.1 A H0 w H locs) {k0 j0 k1 j1 a0 a n0 n1 : Nat} {f g : Nat → Option Nat} (ha0 : w k0 j0 = some (a0, aQ G.2.2.2 n0 f)) (ha1 : w k1 j1 = some (a, aQ G.2.2.2 n1 g))
    {sp dp n : Int32} (h1 : ¬ sp < 0) (h2 : ¬ dp < 0) (h3 : ¬ n < 0) (h4 : sp.toNatClampNeg + n.toNatClampNeg ≤ n0) (h5 : dp.toNatClampNeg + n.toNatClampNeg ≤ n1) (hel : ∀ i : Nat, i < n.toNatClampNeg → ∀ y : Nat, f (sp.toNatClampNeg + i) = some y → va_Any "java/lang/Object" s H y)
    (hframes : 1 ≤ R.frames) (hlocals : (rest.map fun v => v.category).sum + (nativeFrameWords "java/lang/System" "arraycopy" 5 + 11) ≤ R.locals) (hdg : decode cc pc = .ok (.invokestatic index, 3))
    (kk : ∀ (H1 : Heap) (locs1 : List Loc), fI G.2.2.1 A H0 (fU w k1 j1 (a, aQ G.2.2.2 n1 (va_cpy f g sp.toNatClampNeg dp.toNatClampNeg n.toNatClampNeg))) H1 locs1 → W p G.1 e R s m args below meth c H1 locs1 cells slots Q (F0 m (pc + 3) ls rest)) : W p G.1 e R s m args below meth c H locs cells slots Q (F0 m pc ls (.int n :: .int dp :: .ref a :: .int sp :: .ref a0 :: rest)) := by
  have nn : ∀ z : Int32, ¬ z < 0 → z.toInt = (z.toNatClampNeg : Int) := by
    intro z hz
    have hz0 : (0 : Int) ≤ z.toInt := by
      have := Int32.not_lt.mp hz
      simpa using Int32.le_iff_toInt_le.mp this
    show z.toInt = ((z.toInt.toNat : Nat) : Int)
    omega
  intro T hT X
  obtain ⟨c0, hc0e⟩ : ∃ z, z = G.2.2.2 4 := ⟨_, rfl⟩
  have hc0 : H[a0]? = some (vp_cell (G.2.2.2 4) (n0, .inr (.inr (.inr (.inr f))))) := hI.1 k0 j0 _ ha0
  have hc1 : H[a]? = some (vp_cell (G.2.2.2 4) (n1, .inr (.inr (.inr (.inr g))))) := hI.1 k1 j1 _ ha1
  obtain ⟨-, kk0, hk0, cm0, hkk0⟩ := (hK.2 4 _ rfl).1 n0 (fun j => va_rf (f j))
  obtain ⟨-, kk1, hk1, cm1, hkk1⟩ := (hK.2 4 _ rfl).1 n1 (fun j => va_rf (g j))
  obtain ⟨vm', X', step⟩ := X.arraycopy hx hown (hts _ hlink) (hts _ q338) (hts _ q337) (hts _ q14) (src := a0) (dst := a) (cs := vp_cell (G.2.2.2 4) (n0, .inr (.inr (.inr (.inr f))))) (cd := vp_cell (G.2.2.2 4) (n1, .inr (.inr (.inr (.inr g))))) (srcPos := sp) (destPos := dp) (n := n) (by rw [hT]; exact hc0) (by rw [hT]; exact hc1)
    (fun _ h => by cases h) (fun _ h => by cases h) (fun h => by cases h) (fun h => by cases h) hk0 hk1 hkk0 hkk1 rfl h1 h2 h3
    (by rw [nn sp h1, nn n h3]; show ¬ _ > ((arrV _ n0 (fun j => va_rf (f j))).slots.size : Int); rw [arrV_size]; omega)
    (by rw [nn dp h2, nn n h3]; show ¬ _ > ((arrV _ n1 (fun j => va_rf (g j))).slots.size : Int); rw [arrV_size]; omega)
    (fun vm₁ hal i hi => by
      have e : (vp_cell (G.2.2.2 4) (n0, .inr (.inr (.inr (.inr f))))).slots.getD (sp.toNatClampNeg + i) .null = va_rf (f (sp.toNatClampNeg + i)) := by
        show (arrV _ n0 (fun j => va_rf (f j))).slots.getD _ _ = _
        rw [Array.getD_eq_getD_getElem?, arrV_read _ _ (by omega)]
        rfl
      rw [e]
      cases hy : f (sp.toNatClampNeg + i) with
      | none => exact ⟨rfl, trivial⟩
      | some y =>
        obtain ⟨cellV, g1, g2, ⟨kC, hkC⟩, hasg⟩ := hel i hi y hy
        obtain ⟨kA, comp, r1, r2, r3, -⟩ := (hK.2 4 _ rfl).2
        cases hk1.symm.trans r1
        cases hkk1.symm.trans r2
        obtain ⟨kE, hkE, -⟩ := Vm.findClass_spec r3
        obtain ⟨kC', hkC', -⟩ := hal.2.2 _ _ hkC
        obtain ⟨kE', hkE', -⟩ := hal.2.2 _ _ hkE
        refine ⟨rfl, cellV, (show T.heap[y]? = some cellV by rw [hT]; exact g1), (fun q h => by rw [h] at g2; cases g2), ⟨kC', hkC'⟩, ?_, ?_⟩
        · exact ⟨kE', hkE'⟩
        · show vm₁.assignable _ _ = true
          rw [hal.assignable]
          exact hasg _ r3)
    (g := F0 m pc ls (.int n :: .int dp :: .ref a :: .int sp :: .ref a0 :: rest)) rfl (by rw [hml]) (rest := rest) rfl (by rw [hb]; exact hdg) hframes (by show 2 * 0 + _ + _ ≤ _; omega)
  have e1 : copied (vp_cell (G.2.2.2 4) (n0, .inr (.inr (.inr (.inr f))))) (vp_cell (G.2.2.2 4) (n1, .inr (.inr (.inr (.inr g))))) sp dp n = vp_cell (G.2.2.2 4) (n1, .inr (.inr (.inr (.inr (va_cpy f g sp.toNatClampNeg dp.toNatClampNeg n.toNatClampNeg))))) := by
    rw [vp_cell_q, vp_cell_q, vp_cell_q]
    exact va_copied (fun z => va_rf z) _ _ f g h4
  rw [e1] at X' step
  have hl : a < H.size := (Array.getElem?_eq_some_iff.mp hc1).1
  have hheap : ((T.setVm vm').setCell a (vp_cell (G.2.2.2 4) (n1, .inr (.inr (.inr (.inr (va_cpy f g sp.toNatClampNeg dp.toNatClampNeg n.toNatClampNeg))))))).heap = H.setIfInBounds a (vp_cell (G.2.2.2 4) (n1, .inr (.inr (.inr (.inr (va_cpy f g sp.toNatClampNeg dp.toNatClampNeg n.toNatClampNeg)))))) := by rw [← hT]; rfl
  have oq : ∀ q : Nat, q ≠ a → (H.setIfInBounds a (vp_cell (G.2.2.2 4) (n1, .inr (.inr (.inr (.inr (va_cpy f g sp.toNatClampNeg dp.toNatClampNeg n.toNatClampNeg)))))))[q]? = H[q]? := fun q hq => by simp [Array.getElem?_setIfInBounds, Ne.symm hq]
  have hI1 := hI.set (e := aQ G.2.2.2 n1 (va_cpy f g sp.toNatClampNeg dp.toNatClampNeg n.toNatClampNeg)) (j := 0) ha1 (show (H.setIfInBounds a _)[a]? = some _ by simp [Array.getElem?_setIfInBounds, hl]) (by simp) oq
  obtain ⟨t, a1, b1⟩ := kk _ _ ⟨hI1.1, hI1.2.1, ⟨hI1.2.2.1.1, hI1.2.2.1.2.1, fun q hq => by
      rcases List.mem_append.mp hq with h | h
      · exact hI.2.2.1.2.2 q h
      · obtain ⟨z, -, hz⟩ := List.mem_map.mp h
        rw [← hz]
        exact hI.2.1.2 k1 j1 _ ha1⟩, hI.2.2.2⟩ _ hheap X'
  exact ⟨t, step t a1, b1⟩
end FXG
