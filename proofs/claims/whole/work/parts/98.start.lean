/-! ===== the start of the law: what the launch gives ===== -/
theorem kLI_97 : CkI "IcehighwayLaw" 97 yX3_init cX3_init 1 0 := ⟨q25, q23, q24, q1, rfl, by decide +kernel, by decide +kernel, by decide +kernel⟩
theorem kLI_100 : CkI "IcehighwayLaw" 100 yX4_init cX4_init 1 0 := ⟨q755, q753, q754, q5, rfl, by decide +kernel, by decide +kernel, by decide +kernel⟩
theorem ev_eqI {args : Array Value} {s : State} {t : Term} {z : Int32} (h : (Cond.eq t (.int z)).before args s = true) : t.eval args s none [] s = some (.int z) := by
  cases hv : t.eval args s none [] s with
  | none => simp [Cond.before, Cond.holds, Cond.value, hv] at h
  | some w =>
    have hz : (Term.int z).eval args s none [] s = some (.int z) := rfl
    simp only [Cond.before, Cond.holds, Cond.value, hv, hz] at h
    cases w <;> simp_all
theorem fU_m0 {T : Nat → ClassId} {z a : Nat} {Z : XZ} {S : XS} : fU (xW T z Z S) 4 0 (a, .inr (5, [.int 0, .int 0, .int 0, .int 0, .null, .null, .null, .null, .null, .null, .null, .null, .null, .null, .null, .null, .int 0, .null, .null, .null, .null, .null, .null, .null, .null, .null, .null, .null, .null, .int 0])) = jn (m0 a) (xW T z Z S) := by
  funext k i
  by_cases c : k = 4 ∧ i = 0
  · obtain ⟨rfl, rfl⟩ := c
    rw [fU_same, jn_N xW_4]
    exact (if_pos ⟨rfl, rfl⟩).symm
  · rw [fU_ne c, jn_c (if_neg c)]
theorem Dj_m0 {T : Nat → ClassId} {z a : Nat} {Z : XZ} {S : XS} : Dj (m0 a) (xW T z Z S) := fun k i q h => by
  by_cases c : k = 4 ∧ i = 0
  · rw [c.1, xW_4] at h
    cases h
  · exact if_neg c
theorem FW_start {T : Nat → ClassId} {z bo bd : Nat} {Z : XZ} {S : XS} {ad : Nat → Nat} {SM : MS} : fU (fU (jn (mW T ad SM) (xW T z Z S)) 10 0 (bo, .inl (T 3, 1, .inr (.inl fun _ => 0)))) 11 0 (bd, .inl (T 1, 1, .inr (.inr (.inr (.inl fun _ => 0))))) = FW T z Z S ad SM bo (fun _ => 0) bd (fun _ => 0) := by
  refine FW_go (fun i => ?_) (fun i => ?_) (fun i => ?_) (fun k i c4 c10 c11 => ?_)
  · rw [fU_ne (by omega), fU_ne (by omega), jn_N xW_4]
  · rw [fU_ne (by omega)]
    by_cases c : i = 0
    · subst c
      rw [fU_same]
      exact (if_pos ⟨rfl, rfl⟩).symm
    · rw [fU_ne (by omega), jn_N xW_10, mW_4 (by decide)]
      exact (if_neg (fun z => c z.2)).symm
  · by_cases c : i = 0
    · subst c
      rw [fU_same]
      exact (if_pos ⟨rfl, rfl⟩).symm
    · rw [fU_ne (by omega), fU_ne (by omega), jn_N xW_11, mW_4 (by decide)]
      exact (if_neg (fun z => c z.2)).symm
  · rw [fU_ne (by omega), fU_ne (by omega), jn_c (mW_4 c4)]
theorem arr_prim {args : Array Value} {s : State} {ty : FieldType} (h : (Cond.arrayClass ty).before args s = true) : ∃ cA : ClassId, ArrOfT s cA ty ∧ s.vm.findClass ("[" ++ ty.toString) = some cA := by
  obtain ⟨cA, kA, comp, h1, h2, h3⟩ := Cond.arrayClass_spec h
  exact ⟨cA, fun n z => ⟨fun k h => (by cases h), kA, h2, comp, h3⟩, h1⟩
theorem arr_obj {args : Array Value} {s : State} {C : String} (h : (Cond.arrayOver (.object C)).before args s = true) : ∃ cA : ClassId, ArrOfT s cA (.object C) ∧ va_RA s cA (.object C) := by
  obtain ⟨comp, cA, kA, h1, -, h3, h4, h5⟩ := Cond.arrayOver_spec h
  exact ⟨cA, fun n z => ⟨fun k h => (by cases h), kA, h3, comp, h4⟩, kA, comp, h3, h4, h1, h5⟩
set_option maxHeartbeats 4000000 in
set_option maxRecDepth 100000 in
theorem ev_start {args : Array Value} {s : State} (ht1 : ∀ w ∈ tables_1, w.before args s = true) (hgv : (Jvm.Cond.and given_1 narrow_1).before args s = true) : ∃ t0 mi : Nat, EV (t0, mi) (fun q : Nat => s.heap.size ≤ q) s s.heap := by
  have hs := flat_of_before _ hgv
  have hA : ∀ a : Nat, a < s.heap.size → ¬ (fun q : Nat => s.heap.size ≤ q) a := fun a h => Nat.not_le.mpr h
  obtain ⟨mi, hmi⟩ := va_Mi.of (hs (.isRef (.mirror "[Ljava/lang/Object;")) (by decide +kernel))
  obtain ⟨t0, ht0, hT0⟩ := va_Tof (tm := .static "java/util/ArrayList" "DEFAULTCAPACITY_EMPTY_ELEMENTDATA" "[Ljava/lang/Object;") (ty := .object "java/lang/Object") (N := 0) (f := fun _ => .null) (A := fun q : Nat => s.heap.size ≤ q) (by decide) (hs (.arrayOf (.static "java/util/ArrayList" "DEFAULTCAPACITY_EMPTY_ELEMENTDATA" "[Ljava/lang/Object;") (.object "java/lang/Object")) (by decide +kernel)) (ev_eqI (hs (.eq (.length (.static "java/util/ArrayList" "DEFAULTCAPACITY_EMPTY_ELEMENTDATA" "[Ljava/lang/Object;")) (.int 0)) (by decide +kernel))) (fun j hj => absurd hj (Nat.not_lt_zero _)) hA
  have sl : ∀ (k : Nat) (tx : String), Cond.stringRef "Icehighway" k tx ∈ tables_1 → Cond.exactly (.string "Icehighway" k) "java/lang/String" ∈ flatC (Jvm.Cond.and given_1 narrow_1) → ∃ a, vk_R "Icehighway" k tx a s := fun k tx h1 h2 => by
    obtain ⟨a, c, cell, kk, ha, -⟩ := Cond.exactly_spec (hs _ h2)
    exact ⟨a, vk_R.of (ht1 _ h1) ha⟩
  refine ⟨t0, mi, fun w hw => ?_, ?_, ?_, ?_, ?_, hT0, va_AO.of (ht1 (.arrayOver (.object "java/lang/Object")) (List.mem_of_getElem? (i := 332) (by decide +kernel))), hmi, ?_⟩
  · have hx := List.mem_filter.mp hw
    have h2 := hx.2
    simp only [XF, Bool.and_eq_true] at h2
    exact va_tabs h2.1 rfl (ht1 w hx.1)
  · unfold SLs
    refine List.forall_mem_cons.mpr ⟨sl 227 "a value is out of range" (List.mem_of_getElem? (i := 153) (by decide +kernel)) (by decide +kernel), ?_⟩
    refine List.forall_mem_cons.mpr ⟨sl 58 "no more pieces can be laid" (List.mem_of_getElem? (i := 208) (by decide +kernel)) (by decide +kernel), ?_⟩
    refine List.forall_mem_cons.mpr ⟨sl 235 "there is no such piece" (List.mem_of_getElem? (i := 396) (by decide +kernel)) (by decide +kernel), ?_⟩
    refine List.forall_mem_cons.mpr ⟨sl 91 "the piece can't be flooded so" (List.mem_of_getElem? (i := 418) (by decide +kernel)) (by decide +kernel), ?_⟩
    refine List.forall_mem_cons.mpr ⟨sl 109 "no vehicle can be added" (List.mem_of_getElem? (i := 461) (by decide +kernel)) (by decide +kernel), ?_⟩
    refine List.forall_mem_cons.mpr ⟨sl 237 "there is no such vehicle" (List.mem_of_getElem? (i := 512) (by decide +kernel)) (by decide +kernel), ?_⟩
    refine List.forall_mem_cons.mpr ⟨sl 232 "there are no such goods" (List.mem_of_getElem? (i := 516) (by decide +kernel)) (by decide +kernel), ?_⟩
    refine List.forall_mem_cons.mpr ⟨sl 132 "the vehicle can't be loaded" (List.mem_of_getElem? (i := 517) (by decide +kernel)) (by decide +kernel), ?_⟩
    refine List.forall_mem_cons.mpr ⟨sl 142 "the vehicle is not at the base or the mine" (List.mem_of_getElem? (i := 549) (by decide +kernel)) (by decide +kernel), ?_⟩
    refine List.forall_mem_cons.mpr ⟨sl 148 "the vehicle is not at a ramp" (List.mem_of_getElem? (i := 557) (by decide +kernel)) (by decide +kernel), ?_⟩
    refine List.forall_mem_cons.mpr ⟨sl 156 "the mine would have ordered too much" (List.mem_of_getElem? (i := 575) (by decide +kernel)) (by decide +kernel), ?_⟩
    refine List.forall_mem_cons.mpr ⟨sl 159 "the minute would be too high" (List.mem_of_getElem? (i := 584) (by decide +kernel)) (by decide +kernel), ?_⟩
    exact fun _ h => absurd h List.not_mem_nil
  · exact vx_Zqof (ht1 (.laysStatic Bundle.tN "UNASSIGNED_STACK" Bundle.steD) (List.mem_of_getElem? (i := 139) (by decide +kernel))) (ht1 (.initialized Bundle.tN) (List.mem_of_getElem? (i := 6) (by decide +kernel))) (hs (.isRef (.static Bundle.tN "UNASSIGNED_STACK" Bundle.steD)) (by decide +kernel)) hA
  · exact vx_Zqof (ht1 (.laysStatic Bundle.tN "SUPPRESSED_SENTINEL" Bundle.listD) (List.mem_of_getElem? (i := 141) (by decide +kernel))) (ht1 (.initialized Bundle.tN) (List.mem_of_getElem? (i := 6) (by decide +kernel))) (hs (.isRef (.static Bundle.tN "SUPPRESSED_SENTINEL" Bundle.listD)) (by decide +kernel)) hA
  · exact va_Zof (ht1 (.laysStatic "java/util/ArrayList" "DEFAULTCAPACITY_EMPTY_ELEMENTDATA" "[Ljava/lang/Object;") (List.mem_of_getElem? (i := 42) (by decide +kernel))) (ht1 (.initialized "java/util/ArrayList") (List.mem_of_getElem? (i := 4) (by decide +kernel))) ht0 hA
  · unfold NCs
    refine List.forall_mem_cons.mpr ⟨va_Nc.of (hs (.not (.castable "java/lang/IllegalStateException" "java/lang/IllegalArgumentException")) (by decide +kernel)), ?_⟩
    refine List.forall_mem_cons.mpr ⟨va_Nc.of (hs (.not (.castable "java/lang/IllegalArgumentException" "java/lang/IndexOutOfBoundsException")) (by decide +kernel)), ?_⟩
    refine List.forall_mem_cons.mpr ⟨va_Nc.of (hs (.not (.castable "java/lang/IllegalStateException" "java/lang/IndexOutOfBoundsException")) (by decide +kernel)), ?_⟩
    exact fun _ h => absurd h List.not_mem_nil
set_option maxHeartbeats 4000000 in
set_option maxRecDepth 100000 in
theorem known_start {args : Array Value} {s : State} (hts : ∀ w ∈ WL, w.before args s = true) (ht1 : ∀ w ∈ tables_1, w.before args s = true) (mi : Nat) : ∃ (D : va_G) (T : Nat → ClassId), T 5 = mi ∧ va_K D vwCl (TYS T) s := by
  obtain ⟨c0, i0, k0⟩ := u_known (C := RJx4a65c) (T := TJx4a65c) (N := 3) (n := 3) hts inXL (hts _ q30)
  obtain ⟨c1, i1, k1⟩ := u_known (C := RX0) (T := TX0) (N := 3) (n := 3) hts inX0 (hts _ q519)
  obtain ⟨c2, i2, k2⟩ := u_known (C := RX1) (T := TX1) (N := 16) (n := 16) hts inX1 (hts _ q216)
  obtain ⟨c3, i3, k3⟩ := u_known (C := RX2) (T := TX2) (N := 8) (n := 8) hts inX2 (hts _ q463)
  obtain ⟨c4, i4, k4⟩ := u_known (C := RX3) (T := TX3) (N := 9) (n := 9) hts inX3 (hts _ q22)
  obtain ⟨c5, i5, k5⟩ := u_known (C := RX4) (T := TX4) (N := 30) (n := 30) hts inM (hts _ q752)
  obtain ⟨tI, aI, nI_⟩ := arr_prim (ht1 (.arrayClass .int) (List.mem_of_getElem? (i := 83) (by decide +kernel)))
  obtain ⟨tD, aD, nD⟩ := arr_prim (ht1 (.arrayClass .double) (List.mem_of_getElem? (i := 848) (by decide +kernel)))
  obtain ⟨tZ, aZ, nZ⟩ := arr_prim (ht1 (.arrayClass .boolean) (List.mem_of_getElem? (i := 849) (by decide +kernel)))
  obtain ⟨tJ, aJ, nJ⟩ := arr_prim (ht1 (.arrayClass .long) (List.mem_of_getElem? (i := 1081) (by decide +kernel)))
  obtain ⟨tO, aO, rO⟩ := arr_obj (ht1 (.arrayOver (.object "java/lang/Object")) (List.mem_of_getElem? (i := 332) (by decide +kernel)))
  refine ⟨(fun k => match k with | 0 => c0 | 1 => c1 | 2 => c2 | 3 => c3 | 4 => c4 | _ => c5, fun k => match k with | 0 => i0 | 1 => i1 | 2 => i2 | 3 => i3 | 4 => i4 | _ => i5), fun k => match k with | 0 => tI | 1 => tD | 2 => tZ | 3 => tJ | 4 => tO | _ => mi, rfl, fun k q hq => ?_, fun k q hq => ?_⟩
  · match k, hq with
    | 0, hq => cases hq; exact k0
    | 1, hq => cases hq; exact k1
    | 2, hq => cases hq; exact k2
    | 3, hq => cases hq; exact k3
    | 4, hq => cases hq; exact k4
    | 5, hq => cases hq; exact k5
    | k + 6, hq => simp [vwCl] at hq
  · match k, hq with
    | 0, hq => cases hq; exact ⟨aI, nI_⟩
    | 1, hq => cases hq; exact ⟨aD, nD⟩
    | 2, hq => cases hq; exact ⟨aZ, nZ⟩
    | 3, hq => cases hq; exact ⟨aJ, nJ⟩
    | 4, hq => cases hq; exact ⟨aO, rO⟩
    | k + 5, hq => simp [TYS] at hq
