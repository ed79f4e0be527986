/-! ===== the start of the law: what the launch gives ===== -/
theorem ev_eqI {args : Array Value} {s : State} {t : Term} {z : Int32} (h : (Cond.eq t (.int z)).before args s = true) : t.eval args s none [] s = some (.int z) := by
  cases hv : t.eval args s none [] s with
  | none => simp [Cond.before, Cond.holds, Cond.value, hv] at h
  | some w =>
    have hz : (Term.int z).eval args s none [] s = some (.int z) := rfl
    simp only [Cond.before, Cond.holds, Cond.value, hv, hz] at h
    cases w <;> simp_all
theorem arr_prim {args : Array Value} {s : State} {ty : FieldType} (h : (Cond.arrayClass ty).before args s = true) : ∃ cA : ClassId, ArrOfT s cA ty ∧ s.vm.findClass ("[" ++ ty.toString) = some cA := by
  obtain ⟨cA, kA, comp, h1, h2, h3⟩ := Cond.arrayClass_spec h
  exact ⟨cA, fun n z => ⟨fun k h => (by cases h), kA, h2, comp, h3⟩, h1⟩
theorem arr_obj {args : Array Value} {s : State} {C : String} (h : (Cond.arrayOver (.object C)).before args s = true) : ∃ cA : ClassId, ArrOfT s cA (.object C) ∧ va_RA s cA (.object C) := by
  obtain ⟨comp, cA, kA, h1, -, h3, h4, h5⟩ := Cond.arrayOver_spec h
  exact ⟨cA, fun n z => ⟨fun k h => (by cases h), kA, h3, comp, h4⟩, kA, comp, h3, h4, h1, h5⟩
set_option maxHeartbeats 4000000 in
set_option maxRecDepth 100000 in
theorem ev_start {args : Array Value} {s : State} (ht1 : ∀ w ∈ tables_1, w.before args s = true) (hgv : (Jvm.Cond.and given_1 narrow_1).before args s = true) : ∃ t0 mi : Nat, EV (t0, mi) (fun q : Nat => s.heap.size ≤ q) s s.heap := by
  have hs := flat_of_before _ hgv
  have hA : ∀ a : Nat, a < s.heap.size → ¬ (fun q : Nat => s.heap.size ≤ q) a := fun a h => Nat.not_le.mpr h
  obtain ⟨mi, hmi⟩ := va_Mi.of (hs (.isRef (.mirror "[Ljava/lang/Object;")) (by decide +kernel))
  obtain ⟨t0, ht0, hT0⟩ := va_Tof (tm := .static "java/util/ArrayList" "DEFAULTCAPACITY_EMPTY_ELEMENTDATA" "[Ljava/lang/Object;") (ty := .object "java/lang/Object") (N := 0) (f := fun _ => .null) (A := fun q : Nat => s.heap.size ≤ q) (by decide) (hs (.arrayOf (.static "java/util/ArrayList" "DEFAULTCAPACITY_EMPTY_ELEMENTDATA" "[Ljava/lang/Object;") (.object "java/lang/Object")) (by decide +kernel)) (ev_eqI (hs (.eq (.length (.static "java/util/ArrayList" "DEFAULTCAPACITY_EMPTY_ELEMENTDATA" "[Ljava/lang/Object;")) (.int 0)) (by decide +kernel))) (fun j hj => absurd hj (Nat.not_lt_zero _)) hA
  have sl : ∀ (k : Nat) (tx : String), Cond.stringRef "Icehighway" k tx ∈ tables_1 → Cond.exactly (.string "Icehighway" k) "java/lang/String" ∈ flatC (Jvm.Cond.and given_1 narrow_1) → ∃ a, vk_R "Icehighway" k tx a s := fun k tx h1 h2 => by
    obtain ⟨a, c, cell, kk, ha, -⟩ := Cond.exactly_spec (hs _ h2)
    exact ⟨a, vk_R.of (ht1 _ h1) ha⟩
  refine ⟨t0, mi, fun w hw => ?_, ?_, ?_, ?_, ?_, hT0, va_AO.of (ht1 (.arrayOver (.object "java/lang/Object")) (List.mem_of_getElem? (i := 331) (by decide +kernel))), hmi, ?_⟩
  · have hx := List.mem_filter.mp hw
    have h2 := hx.2
    simp only [XF, Bool.and_eq_true] at h2
    exact va_tabs h2.1 rfl (ht1 w hx.1)
  · unfold SLs
    refine List.forall_mem_cons.mpr ⟨sl 227 "a value is out of range" (List.mem_of_getElem? (i := 153) (by decide +kernel)) (by decide +kernel), ?_⟩
    refine List.forall_mem_cons.mpr ⟨sl 58 "no more pieces can be laid" (List.mem_of_getElem? (i := 208) (by decide +kernel)) (by decide +kernel), ?_⟩
    refine List.forall_mem_cons.mpr ⟨sl 235 "there is no such piece" (List.mem_of_getElem? (i := 385) (by decide +kernel)) (by decide +kernel), ?_⟩
    refine List.forall_mem_cons.mpr ⟨sl 91 "the piece can't be flooded so" (List.mem_of_getElem? (i := 404) (by decide +kernel)) (by decide +kernel), ?_⟩
    refine List.forall_mem_cons.mpr ⟨sl 109 "no vehicle can be added" (List.mem_of_getElem? (i := 433) (by decide +kernel)) (by decide +kernel), ?_⟩
    refine List.forall_mem_cons.mpr ⟨sl 237 "there is no such vehicle" (List.mem_of_getElem? (i := 481) (by decide +kernel)) (by decide +kernel), ?_⟩
    refine List.forall_mem_cons.mpr ⟨sl 232 "there are no such goods" (List.mem_of_getElem? (i := 485) (by decide +kernel)) (by decide +kernel), ?_⟩
    refine List.forall_mem_cons.mpr ⟨sl 132 "the vehicle can't be loaded" (List.mem_of_getElem? (i := 486) (by decide +kernel)) (by decide +kernel), ?_⟩
    refine List.forall_mem_cons.mpr ⟨sl 142 "the vehicle is not at the base or the mine" (List.mem_of_getElem? (i := 515) (by decide +kernel)) (by decide +kernel), ?_⟩
    refine List.forall_mem_cons.mpr ⟨sl 148 "the vehicle is not at a ramp" (List.mem_of_getElem? (i := 520) (by decide +kernel)) (by decide +kernel), ?_⟩
    refine List.forall_mem_cons.mpr ⟨sl 156 "the mine would have ordered too much" (List.mem_of_getElem? (i := 535) (by decide +kernel)) (by decide +kernel), ?_⟩
    refine List.forall_mem_cons.mpr ⟨sl 159 "the minute would be too high" (List.mem_of_getElem? (i := 541) (by decide +kernel)) (by decide +kernel), ?_⟩
    exact fun _ h => absurd h List.not_mem_nil
  · exact vx_Zqof (ht1 (.laysStatic Bundle.tN "UNASSIGNED_STACK" Bundle.steD) (List.mem_of_getElem? (i := 139) (by decide +kernel))) (ht1 (.initialized Bundle.tN) (List.mem_of_getElem? (i := 5) (by decide +kernel))) (hs (.isRef (.static Bundle.tN "UNASSIGNED_STACK" Bundle.steD)) (by decide +kernel)) hA
  · exact vx_Zqof (ht1 (.laysStatic Bundle.tN "SUPPRESSED_SENTINEL" Bundle.listD) (List.mem_of_getElem? (i := 141) (by decide +kernel))) (ht1 (.initialized Bundle.tN) (List.mem_of_getElem? (i := 5) (by decide +kernel))) (hs (.isRef (.static Bundle.tN "SUPPRESSED_SENTINEL" Bundle.listD)) (by decide +kernel)) hA
  · exact va_Zof (ht1 (.laysStatic "java/util/ArrayList" "DEFAULTCAPACITY_EMPTY_ELEMENTDATA" "[Ljava/lang/Object;") (List.mem_of_getElem? (i := 41) (by decide +kernel))) (ht1 (.initialized "java/util/ArrayList") (List.mem_of_getElem? (i := 4) (by decide +kernel))) ht0 hA
  · unfold NCs
    refine List.forall_mem_cons.mpr ⟨va_Nc.of (hs (.not (.castable "java/lang/IllegalStateException" "java/lang/IllegalArgumentException")) (by decide +kernel)), ?_⟩
    refine List.forall_mem_cons.mpr ⟨va_Nc.of (hs (.not (.castable "java/lang/IllegalArgumentException" "java/lang/IndexOutOfBoundsException")) (by decide +kernel)), ?_⟩
    refine List.forall_mem_cons.mpr ⟨va_Nc.of (hs (.not (.castable "java/lang/IllegalStateException" "java/lang/IndexOutOfBoundsException")) (by decide +kernel)), ?_⟩
    exact fun _ h => absurd h List.not_mem_nil
set_option maxHeartbeats 4000000 in
set_option maxRecDepth 100000 in
theorem known_start {args : Array Value} {s : State} (hts : ∀ w ∈ WL, w.before args s = true) (ht1 : ∀ w ∈ tables_1, w.before args s = true) (mi : Nat) : ∃ (D : va_G) (T : Nat → ClassId), T 5 = mi ∧ va_K D vwCl (TYS T) s := by
  obtain ⟨c0, i0, k0⟩ := u_known (C := RJx4a65c) (T := TJx4a65c) (N := 3) (n := 3) hts inXL (hts _ q29)
  obtain ⟨c1, i1, k1⟩ := u_known (C := RX0) (T := TX0) (N := 3) (n := 3) hts inX0 (hts _ q488)
  obtain ⟨c2, i2, k2⟩ := u_known (C := RX1) (T := TX1) (N := 16) (n := 16) hts inX1 (hts _ q216)
  obtain ⟨c3, i3, k3⟩ := u_known (C := RX2) (T := TX2) (N := 8) (n := 8) hts inX2 (hts _ q435)
  obtain ⟨c4, i4, k4⟩ := u_known (C := RX3) (T := TX3) (N := 9) (n := 9) hts inX3 (hts _ q21)
  obtain ⟨tI, aI, nI_⟩ := arr_prim (ht1 (.arrayClass .int) (List.mem_of_getElem? (i := 82) (by decide +kernel)))
  obtain ⟨tO, aO, rO⟩ := arr_obj (ht1 (.arrayOver (.object "java/lang/Object")) (List.mem_of_getElem? (i := 331) (by decide +kernel)))
  refine ⟨(fun k => match k with | 0 => c0 | 1 => c1 | 2 => c2 | 3 => c3 | _ => c4, fun k => match k with | 0 => i0 | 1 => i1 | 2 => i2 | 3 => i3 | _ => i4), fun k => match k with | 0 => tI | 4 => tO | _ => mi, rfl, fun k q hq => ?_, fun k q hq => ?_⟩
  · match k, hq with
    | 0, hq => cases hq; exact k0
    | 1, hq => cases hq; exact k1
    | 2, hq => cases hq; exact k2
    | 3, hq => cases hq; exact k3
    | 4, hq => cases hq; exact k4
    | k + 5, hq => simp [vwCl] at hq
  · match k, hq with
    | 0, hq => cases hq; exact ⟨aI, nI_⟩
    | 1, hq => cases hq; exact ⟨aI, nI_⟩
    | 2, hq => cases hq; exact ⟨aI, nI_⟩
    | 3, hq => cases hq; exact ⟨aI, nI_⟩
    | 4, hq => cases hq; exact ⟨aO, rO⟩
    | k + 5, hq => simp [TYS] at hq
theorem kLI_164 : CkI "IcehighwayLaw" 164 yX3_init cX3_init 1 0 := ⟨q24, q22, q23, q1, rfl, by decide +kernel, by decide +kernel, by decide +kernel⟩
theorem xW_8 {T : Nat → ClassId} {z : Nat} {Z : XZ} {S : XS} {i : Nat} : xW T z Z S 8 i = none := rfl
def laF (h0 h1 h2 h3 h4 h5 h6 : Nat) : Nat → Nat
  | 0 => h0
  | 1 => h1
  | 2 => h2
  | 3 => h3
  | 4 => h4
  | 5 => h5
  | _ => h6
theorem wl_start {T : Nat → ClassId} {z h0 h1 h2 h3 h4 h5 h6 : Nat} {Z : XZ} {S : XS} : (fU (fU (fU (fU (fU (fU (fU (xW T z Z S) 8 0 (h0, .inl (T 0, 57, .inl fun _ => 0))) 8 1 (h1, .inl (T 0, 9, .inl fun _ => 0))) 8 2 (h2, .inl (T 0, 16, .inl fun _ => 0))) 8 3 (h3, .inl (T 0, 8, .inl fun _ => 0))) 8 4 (h4, .inl (T 0, 40, .inl fun _ => 0))) 8 5 (h5, .inl (T 0, 10, .inl fun _ => 0))) 8 6 (h6, .inl (T 0, 5, .inl fun _ => 0))) = jn (xW T z Z S) (lW T (laF h0 h1 h2 h3 h4 h5 h6) (fun _ _ => 0)) := by
  funext k i
  by_cases c : k = 8 ∧ i < 7
  · obtain ⟨rfl, hi⟩ := c
    rw [jn_R (lW_s hi)]
    rcases (show i = 0 ∨ i = 1 ∨ i = 2 ∨ i = 3 ∨ i = 4 ∨ i = 5 ∨ i = 6 by omega) with rfl | rfl | rfl | rfl | rfl | rfl | rfl <;> rfl
  · rw [jn_N (if_neg c), fU_ne (by omega), fU_ne (by omega), fU_ne (by omega), fU_ne (by omega), fU_ne (by omega), fU_ne (by omega), fU_ne (by omega)]
def L1 : LwS := lset (fun _ _ => 0) 6 2 5
theorem KI_0 : KI MS0 := by
  intro g hg
  have h : ∀ n, sC MS0 g n = 0 := fun n => by
    induction n with
    | zero => rfl
    | succ n ih =>
      show sC MS0 g n + cr MS0 g n = 0
      rw [ih]
      unfold cr
      split <;> rfl
  rw [h]
  rfl
theorem RR_0 (a : Nat) (ad : Nat → Nat) : RR (XZ0 a ad) XS0 MS0 L1 0 := by
  refine ⟨RXA_0 a ad, ⟨Nat.zero_le _, Nat.zero_le _, ⟨rfl, rfl, rfl, rfl, rfl⟩, fun p hp => absurd hp (Nat.not_lt_zero _), fun j hj => absurd hj (Nat.not_lt_zero _), fun g hg => ⟨?_, ?_, ?_⟩, fun p _ hp => ⟨rfl, rfl, rfl, rfl, rfl⟩, fun j _ hj => ⟨rfl, rfl, rfl⟩⟩, ?_, fun g hg => ?_, KI_0⟩
  · rfl
  · rfl
  · rfl
  · decide
  · show (0 : Int32).toInt ≤ _
    rw [Int32.toInt_zero]
    omega
theorem RR_N1 {Z : XZ} {S : XS} {M : MS} {t : Nat} (hR : RR Z S M L1 t) : Z.N 1 = 0 ∧ Z.N 0 = 0 := by
  have h1 : nI 0 = nI (Z.N 1) := hR.l.g.2.2.2.2
  have h2 : nI 0 = nI (Z.N 0) := hR.l.g.2.2.2.1
  have hn := hR.np
  have hv := hR.nv
  exact ⟨((nI_eq (by omega) (by omega)).mp h1).symm, ((nI_eq (by omega) (by omega)).mp h2).symm⟩
theorem cost_0 : (L_cost L1 3).toInt64 = 0 := by decide +kernel
theorem no_why {Z : XZ} {S : XS} {M : MS} {L : LwS} {t : Nat} (hR : RR Z S M L t) (ht : t < 512) (h0 : Z.N 1 = 0) {T : Nat → ClassId} {z : Nat} {v : Option Value} {w1 : WD} (hp : poE cvi (pvx (X_why Z S 0).1 (.int (X_why Z S 0).2) (xW T z Z S)) (px (X_why Z S 0).1 (xW T z Z S)) v w1) : v = some (.int (-30000000)) ∧ w1 = xW T z Z S := by
  refine no_1 (st_why hR.1 ht 0) ?_ hp
  have hv : ¬ M_isVehicle M 0 := by
    have := isV_no hR.n
    rw [h0] at this
    exact this
  unfold M_why
  rw [if_neg hv]
  exact mset_s
