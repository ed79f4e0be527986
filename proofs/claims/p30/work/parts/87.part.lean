/-! ===== part of the script ===== -/
theorem laF_dummy : True := trivial
def w0e : WD := fun _ _ => none
theorem Dj_e {wr : WD} : Dj w0e wr := fun _ _ _ _ => rfl
theorem jn_e {wr : WD} : jn w0e wr = wr := by
  funext k i
  cases h : wr k i with
  | none => exact jn_N h
  | some q => exact jn_R h
theorem andM (x : Int32) : ∃ a : Nat, x &&& 2147483647 = nI a ∧ a < 2147483648 := by
  refine ⟨(x &&& 2147483647).toBitVec.toNat, ?_, ?_⟩
  · apply Int32.toBitVec_inj.mp
    show (x &&& 2147483647).toBitVec = (Int32.ofNat _).toBitVec
    rw [Int32.toBitVec_ofNat', BitVec.ofNat_toNat, BitVec.setWidth_eq]
  · have e : (x &&& 2147483647).toBitVec = x.toBitVec &&& (2147483647 : Int32).toBitVec := Int32.toBitVec_and x 2147483647
    rw [e, BitVec.toNat_and]
    exact Nat.lt_of_le_of_lt Nat.and_le_right (by decide)
theorem and_nB {v : Int32} {n : Nat} (hn : 0 < n) (hn2 : n ≤ 100000) : nB ((v &&& 2147483647) - (v &&& 2147483647) / nI n * nI n) n := by
  obtain ⟨a, ea, ha⟩ := andM v
  rw [ea, nI_rem (by omega) (by omega)]
  exact ⟨_, rfl, Nat.mod_lt a hn⟩
def PPre (G : GX) (b L : Nat) (xs : Nat → Int32) (sz : Nat) (U : State) : Prop := FPre G w0e sz U ∧ va_X b L xs U U.heap ∧ b < sz
def poP (n : Nat) : Option Value → WD → Prop := fun v w' => w' = w0e ∧ ∃ y : Int32, v = some (.int y) ∧ nB y n
def FPt (G : GX) (b L : Nat) (xs : Nat → Int32) (k n : Nat) : Prop := ∀ sz, Met G.1 yL_part (Cond.code yL_part cL_part 4 (some .int) :: WL) ({ frames := 0, cells := 0, slots := 0, locals := 0 }) (va_Pc [.ref b, .int (nI k), .int (nI n)] (PPre G b L xs sz)) (FQ G w0e sz (poP n)) 0 0 (fA w0e sz)
theorem PPre.blind {G : GX} {b L : Nat} {xs : Nat → Int32} {sz : Nat} {as : List Value} : FrameBlind (va_Pc as (PPre G b L xs sz)) := by
  intro a U g mk h
  obtain ⟨h0, h1, h2, h3⟩ := h
  exact ⟨h0, (FPre.blind (as := as) a U g mk ⟨h0, h1⟩).2, va_X.moved (u := U) (U := U.calling g mk a) (Vm.Alike.refl U.vm) h2, h3⟩
set_option maxHeartbeats 4000000 in
set_option maxRecDepth 100000 in
theorem q_part (G : GX) {b L : Nat} {xs : Nat → Int32} (hL : L ≤ 260) {k n : Nat} (hk : k ≤ 1000) (hn : 0 < n) (hn2 : n ≤ 100000) : FPt G b L xs k n := by
  intro sz
  refine Met.ofW (cc := cL_part) (maxL := 4) (ret := (some .int)) (by decide) rfl ?_
  intro p e s m args below meth c s₁ B hml hv
  obtain ⟨rfl, ⟨hsz, hP, hK, hD0, hE⟩, hX, hbl⟩ := hv
  subst hsz
  have hts := atoms_spec (ws := Cond.code yL_part cL_part 4 (some .int) :: WL) B.pre
  have hD : fD (fA w0e s.heap.size) w0e := ⟨hD0.1, fun k i q hq => fA.in hq⟩
  rw [lg_entry_eq]
  have hx := B.exec
  have hb := B.bytes
  have hr := B.returns
  have hlocks := B.notSynchronized
  have hown : s.vm.findClass "IcehighwayLaw" = some m.cls := findClass_of_methodNamed B.named
  have hts : ∀ w ∈ WL, w.before (#[.ref b, .int (nI k), .int (nI n)] : Array Value) s = true := fun x hx => hts x (List.mem_cons_of_mem _ hx)
  have hl := lv_entry ([.ref b, .int (nI k), .int (nI n)]) (n := 4) (Nat.le_of_ble_eq_true rfl)
  generalize (lg_sl ([.ref b, .int (nI k), .int (nI n)]) ++ List.replicate (4 - (lg_sl ([.ref b, .int (nI k), .int (nI n)])).length) Slot.unset).toArray = ls at hl ⊢
  have hl : lv_has ls 4 [(0, .ref b), (1, .int (nI k)), (2, .int (nI n))] := hl
  have hI : fI G.2.2.1 (fA w0e s.heap.size) s.heap w0e s.heap [] := ⟨hP, hD, va_S.rf, fun q h => Or.inr h⟩
  have hbA : ¬ fA w0e s.heap.size b := fun z => by
    rcases z with ⟨_, _, _, h⟩ | h
    · cases h
    · exact absurd hbl (Nat.not_lt.mpr h)
  have hT : ∀ (v : Int32), W p G.1 e ({ frames := 0, cells := 0, slots := 0, locals := 0 }) s m #[.ref b, .int (nI k), .int (nI n)] below meth c s.heap [] 0 0 (MQ below (FQ G w0e s.heap.size (poP n)) #[.ref b, .int (nI k), .int (nI n)] s 0 0 (fA w0e s.heap.size)) (F0 m 25 ls [.int v]) := by
    intro v
    refine lv_istore_n (lv' := [(3, .int v), (0, .ref b), (1, .int (nI k)), (2, .int (nI n))]) hx hb dL_part_25 rfl hl (by decide) rfl (fun ls hl => ?_)
    refine lv_iload_n hx hb dL_part_26 rfl (lv_at hl 0 rfl) ?_
    refine lv_ldc (v := 2147483647) hx hb hown (hts _ q98) dL_part_27 ?_
    refine lv_iand hx hb dL_part_29 ?_
    refine lv_iload_n hx hb dL_part_30 rfl (lv_at hl 3 rfl) ?_
    refine lv_irem hx hb dL_part_31 (nI_ne0 hn (by omega)) ?_
    exact rt_i hx hb hr hlocks hI rfl rfl ⟨rfl, _, rfl, and_nB hn hn2⟩ (Nat.zero_le _) (Nat.zero_le _) dL_part_32
  refine lv_iload_n hx hb dL_part_0 rfl (lv_at hl 1 rfl) ?_
  refine lv_aload_n hx hb dL_part_1 rfl (lv_at hl 0 rfl) ?_
  refine va_slen hx hb hX hbl hbA hI.2.2.1 dL_part_2 ?_
  refine lv_icmp_ge (tgt := 12) hx hb dL_part_3 (by decide) (fun _ => ?_) (fun hc => ?_)
  · refine lv_sipush (v := 997) hx hb dL_part_12 (by decide) ?_
    refine lv_iload_n hx hb dL_part_15 rfl (lv_at hl 1 rfl) ?_
    refine lv_imul hx hb dL_part_16 ?_
    refine lv_sipush (v := 877) hx hb dL_part_17 (by decide) ?_
    refine lv_iload_n hx hb dL_part_20 rfl (lv_at hl 1 rfl) ?_
    refine lv_imul hx hb dL_part_21 ?_
    refine lv_iload_n hx hb dL_part_22 rfl (lv_at hl 1 rfl) ?_
    refine lv_imul hx hb dL_part_23 ?_
    refine lv_iadd hx hb dL_part_24 ?_
    exact hT _
  · have hin : vp_in (nI k) L := vp_in_nI (Nat.lt_of_not_le (fun z => hc (nI_le (a := L) (b := k) z (by omega)))) (by omega)
    refine lv_aload_n hx hb dL_part_6 rfl (lv_at hl 0 rfl) ?_
    refine lv_iload_n hx hb dL_part_7 rfl (lv_at hl 1 rfl) ?_
    refine va_sld hx hb hX hbl hbA hI.2.2.1 hin dL_part_8 ?_
    refine lv_goto (tgt := 25) hx hb dL_part_9 (by decide) ?_
    exact hT _
section CPT
variable {p : Program} {e : Env} {R : Room} {s : State} {m : MethodId} {args : Array Value} {below : List Frame} {meth : Method} {c : Code} {H : Heap} {locs : List Loc} {cells slots : Nat} {Q : State → Prop}
variable {cc : ByteArray} {pc : Nat} {ls : Array Slot} {rest : List Value} {G : GX} {A : Nat → Prop} {wr : WD} {nL : Nat}
theorem call_part {b L : Nat} {xs : Nat → Int32} (hL : L ≤ 260) (k n : Nat) (hk : k ≤ 1000) (hn : 0 < n) (hn2 : n ≤ 100000) (hx : p.tables.exec = Jvm.exec) (hb : c.code = cc) (hml : c.maxLocals = nL) (hts : ∀ w ∈ WL, w.before args s = true) (hown : s.vm.findClass "IcehighwayLaw" = some m.cls) (hK : va_K G.2.2.1 vwCl (TYS G.2.2.2) s) (hE : EV (G.2.1, G.2.2.2 5) A s s.heap) (hX : va_X b L xs s s.heap) (hbl : b < s.heap.size) (hbA : ¬ A b) (hI : fI G.2.2.1 A s.heap wr H locs) (hR : 1 ≤ R.frames ∧ 8 + (4 + 11) ≤ R.locals) (hsize : ls.size = nL) (hroom : (rest.map fun v => v.category).sum ≤ 8) (hdg : decode cc pc = .ok (.invokestatic 165, 3)) (hf : cells ≤ R.cells ∧ slots ≤ R.slots)
    (kk : ∀ (y : Int32) (H1 : Heap) (locs1 : List Loc), nB y n → fI G.2.2.1 A s.heap wr H1 locs1 → W p G.1 e R s m args below meth c H1 locs1 cells slots Q (F0 m (pc + 3) ls (.int y :: rest))) : W p G.1 e R s m args below meth c H locs cells slots Q (F0 m pc ls (.int (nI n) :: .int (nI k) :: .ref b :: rest)) := by
  have hI0 : fI G.2.2.1 A s.heap (jn w0e wr) H locs := by rw [jn_e]; exact hI
  have hIe := hI0.sub (w' := w0e) (fun k i q h => jn_w Dj_e h)
  have hq := hI.2.2.1.2.1 b hbl hbA
  have hX1 : va_X b L xs s H := hX.kept hq
  have hbH : b < H.size := by
    obtain ⟨scr, h1, -⟩ := hX1
    exact (Array.getElem?_eq_some_iff.mp h1).1
  refine fx_kkJ (w := w0e) (va_runS (As := [.ref b, .int (nI k), .int (nI n)]) (rest := rest) ⟨hx, hb, hml, hown, hts⟩ (q_part G (b := b) (xs := xs) hL hk hn hn2 H.size) (fx_cwS hts kw_165 hR) ⟨PPre.blind, fun U hU hW => ?_⟩ rfl rfl hsize rfl (lv_room hroom) hdg hf) Dj_e hI0 (fun v w' H1 locs1 hp hI1 => ?_)
  · refine ⟨rfl, (FPre.go (as := []) hK hE hIe hU hW).2, ?_, hbH⟩
    rw [hU]
    exact va_X.moved hW.alike hX1
  · obtain ⟨rfl, y, rfl, hy⟩ := hp
    rw [jn_e] at hI1
    exact kk y H1 locs1 hy hI1
end CPT
