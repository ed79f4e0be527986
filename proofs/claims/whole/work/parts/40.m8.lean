/-! ===== a new array; the reference's constructor ===== -/
section FXN
variable {p : Program} {e : Env} {R : Room} {s : State} {m : MethodId} {args : Array Value} {below : List Frame} {meth : Method} {c : Code} {H : Heap} {locs : List Loc} {cells slots : Nat} {Q : State → Prop}
variable {cc : ByteArray} {pc : Nat} {ls : Array Slot} {rest : List Value} {G : GX} {A : Nat → Prop} {w : WD} {H0 : Heap} {own : String} {nL : Nat}
theorem fx_newa (hx : p.tables.exec = Jvm.exec) (hb : c.code = cc) (hts : ∀ w ∈ WL, w.before args s = true) (hK : va_K G.2.2.1 vwCl (TYS G.2.2.2) s) (hI : fI G.2.2.1 A H0 w H locs) {atype : ArrayType} {kt : Nat} (hkt : (TYS G.2.2.2)[kt]? = some (G.2.2.2 kt, newarray.typeOf atype)) (harr : Cond.arrayClass (newarray.typeOf atype) ∈ WL) {n : Int32} {N : Nat} {a0 : vp_A} (ha : ∀ cA : ClassId, vp_cell cA a0 = arrV cA N (fun _ => defaultValue (newarray.typeOf atype))) (hn : ¬ n < 0) (hN : n.toNatClampNeg = N) (hbytes : N * componentBytes (newarray.typeOf atype) ≤ 536870912) (hcells : cells + 1 ≤ R.cells) (hslots : slots + N ≤ R.slots) {k i : Nat} (hno : w k i = none) {w' : WD} (hw : ∀ h, fU w k i (h, .inl (G.2.2.2 kt, a0)) = fU w k i (h, .inl (G.2.2.2 kt, a0))) (hdg : decode cc pc = .ok (.newarray atype, 2))
    (kk : ∀ (H1 : Heap), fI G.2.2.1 A H0 (fU w k i (H.size, .inl (G.2.2.2 kt, a0))) H1 locs → H1.size = H.size + 1 → W p G.1 e R s m args below meth c H1 locs (cells + 1) (slots + N) Q (F0 m (pc + 2) ls (.ref H.size :: rest))) : W p G.1 e R s m args below meth c H locs cells slots Q (F0 m pc ls (.int n :: rest)) := by
  refine va_newaK hx hb (hts _ harr) rfl hdg rfl hn hN hbytes hcells hslots rfl fun H1 cA e1 z1 o1 hAr hNm => ?_
  have h2 := (hK.2 kt _ hkt).2
  have h3 : s.vm.findClass ("[" ++ (newarray.typeOf atype).toString) = some (G.2.2.2 kt) := by cases atype <;> exact h2
  have h4 : cA = G.2.2.2 kt := Option.some.inj (hNm.symm.trans h3)
  subst h4
  refine kk H1 (hI.push hno ?_ z1 o1) z1
  show H1[H.size]? = some (vp_cell _ _)
  rw [ha]
  exact e1
end FXN
def MS0 : MS := (fun k _ => if k = 2 then 5 else 0, fun _ => ⟨0, nn_0⟩)
def mR (n : Nat) (ad : Nat → Nat) (j : Nat) : Value := if j < n then .ref (ad j) else .null
def mFs (n : Nat) (ad : Nat → Nat) : List Value := [.int 0, .int 0, .int 5, .int 0, mR n ad 4, mR n ad 5, mR n ad 6, mR n ad 7, mR n ad 8, mR n ad 9, mR n ad 10, mR n ad 11, mR n ad 12, mR n ad 13, mR n ad 14, mR n ad 15, .int 0, mR n ad 17, mR n ad 18, mR n ad 19, mR n ad 20, mR n ad 21, mR n ad 22, mR n ad 23, mR n ad 24, mR n ad 25, mR n ad 26, mR n ad 27, mR n ad 28, .int 0]
/-- the reference's world with the arrays below n made -/
def mWs (n : Nat) (T : Nat → ClassId) (ad : Nat → Nat) : WD := fun k i => if k = 4 then (if i = 0 then some (ad 0, .inr (5, mFs n ad)) else if i < n then mC T ad MS0 i else none) else none
def updA (ad : Nat → Nat) (n h : Nat) : Nat → Nat := fun j => if j = n then h else ad j
theorem updA_s {ad : Nat → Nat} {n h : Nat} : updA ad n h n = h := if_pos rfl
theorem updA_n {ad : Nat → Nat} {n h j : Nat} (q : j ≠ n) : updA ad n h j = ad j := if_neg q
theorem mC_upd {T : Nat → ClassId} {ad : Nat → Nat} {n h i : Nat} (h0 : i ≠ 0) (hi : i ≠ n) : mC T (updA ad n h) MS0 i = mC T ad MS0 i := by
  unfold mC
  rw [if_neg h0, if_neg h0]
  by_cases c : i = 14
  · subst c
    rw [if_pos rfl, if_pos rfl, updA_n hi]
  · rw [if_neg c, if_neg c, updA_n hi]
theorem mWs_none {n : Nat} {T : Nat → ClassId} {ad : Nat → Nat} (h0 : n ≠ 0) : mWs n T ad 4 n = none := by
  unfold mWs
  rw [if_pos rfl, if_neg h0, if_neg (Nat.lt_irrefl n)]
theorem mWs_next {n h : Nat} {T : Nat → ClassId} {ad : Nat → Nat} {x : va_E} (h0 : n ≠ 0) (hx : mC T (updA ad n h) MS0 n = some (h, x)) (hF : (mFs n ad).set n (.ref h) = mFs (n + 1) (updA ad n h)) : fU (fU (mWs n T ad) 4 n (h, x)) 4 0 (ad 0, .inr (5, (mFs n ad).set n (.ref h))) = mWs (n + 1) T (updA ad n h) := by
  funext k i
  by_cases hk : k = 4
  · subst hk
    by_cases hi : i = 0
    · subst hi
      rw [fU_same, hF]
      show _ = ite _ _ _
      rw [if_pos rfl, if_pos rfl, updA_n (fun z => h0 z.symm)]
    · rw [fU_ne (fun z => hi z.2)]
      by_cases hn : i = n
      · subst hn
        rw [fU_same]
        show _ = ite _ _ _
        rw [if_pos rfl, if_neg hi, if_pos (Nat.lt_succ_self i), hx]
      · rw [fU_ne (fun z => hn z.2)]
        show ite _ _ _ = ite _ _ _
        rw [if_pos rfl, if_pos rfl, if_neg hi, if_neg hi, mC_upd hi hn]
        by_cases hl : i < n
        · rw [if_pos hl, if_pos (Nat.lt_succ_of_lt hl)]
        · rw [if_neg hl, if_neg (by omega)]
  · rw [fU_ne (fun z => hk z.1), fU_ne (fun z => hk z.1)]
    show ite _ _ _ = ite _ _ _
    rw [if_neg hk, if_neg hk]
theorem mWs_16 {T : Nat → ClassId} {ad : Nat → Nat} : mWs 16 T ad = mWs 17 T ad := by
  funext k i
  show ite _ _ _ = ite _ _ _
  by_cases hk : k = 4
  · rw [if_pos hk, if_pos hk]
    by_cases hi : i = 0
    · rw [if_pos hi, if_pos hi]
      rfl
    · rw [if_neg hi, if_neg hi]
      by_cases h16 : i = 16
      · subst h16
        rfl
      · by_cases hl : i < 16
        · rw [if_pos hl, if_pos (by omega)]
        · rw [if_neg hl, if_neg (by omega)]
  · rw [if_neg hk, if_neg hk]
theorem mWs_end {T : Nat → ClassId} {ad : Nat → Nat} : mWs 29 T ad = mW T ad MS0 := by
  funext k i
  show ite _ _ _ = ite _ _ _
  by_cases hk : k = 4
  · rw [if_pos hk, if_pos hk]
    by_cases hi : i = 0
    · subst hi
      rfl
    · rw [if_neg hi]
      by_cases hl : i < 29
      · rw [if_pos hl]
      · rw [if_neg hl]
        have h9 : mLen i = 0 := by
          unfold mLen
          rw [if_neg (by omega), if_neg (by omega), if_neg (by omega), if_neg (by omega)]
        unfold mC
        rw [if_neg hi, if_neg (by omega), if_pos h9]
  · rw [if_neg hk, if_neg hk]
def m0 (a : Nat) : WD := fun k i => if k = 4 ∧ i = 0 then some (a, .inr (5, [.int 0, .int 0, .int 0, .int 0, .null, .null, .null, .null, .null, .null, .null, .null, .null, .null, .null, .null, .int 0, .null, .null, .null, .null, .null, .null, .null, .null, .null, .null, .null, .null, .int 0])) else none
theorem m0_4 {a : Nat} {T : Nat → ClassId} : fU (m0 a) 4 0 (a, .inr (5, [.int 0, .int 0, .int 5, .int 0, .null, .null, .null, .null, .null, .null, .null, .null, .null, .null, .null, .null, .int 0, .null, .null, .null, .null, .null, .null, .null, .null, .null, .null, .null, .null, .int 0])) = mWs 4 T (fun _ => a) := by
  funext k i
  by_cases h : k = 4 ∧ i = 0
  · obtain ⟨rfl, rfl⟩ := h
    rw [fU_same]
    rfl
  · rw [fU_ne h]
    show ite _ _ _ = ite _ _ _
    rw [if_neg h]
    by_cases hk : k = 4
    · have hi : i ≠ 0 := fun z => h ⟨hk, z⟩
      rw [if_pos hk, if_neg hi]
      by_cases hl : i < 4
      · rw [if_pos hl]
        have h9 : mLen i = 0 := by
          unfold mLen
          rw [if_neg (by omega), if_neg (by omega), if_neg (by omega), if_neg (by omega)]
        unfold mC
        rw [if_neg hi, if_neg (by omega), if_pos h9]
      · rw [if_neg hl]
    · rw [if_neg hk]

set_option maxHeartbeats 4000000 in
set_option maxRecDepth 100000 in
theorem cM_init (G : GX) (a : Nat) : FC G yX4_init cX4_init 1 none ({ frames := 1, cells := 24, slots := 283, locals := 40 }) [.ref a] (m0 a) (fun v w' => v = none ∧ ∃ ad : Nat → Nat, ad 0 = a ∧ w' = mW G.2.2.2 ad MS0) := by
  refine FC.go (lv := [(0, .ref a)]) (by decide) (Nat.le_of_ble_eq_true rfl) rfl (fun p e s m args below meth c A H locs ls Q hx hb hr hts hown hml hlocks hnm hK hE hI hA hl hQ => ?_)
  have hown : s.vm.findClass RX4 = some m.cls := hown
  refine lv_aload_n hx hb dX4_init_0 rfl (lv_at hl 0 rfl) ?_
  refine W.objInit hx hb hown (hts _ q756) (hts _ q27) (hts _ q28) rfl (by rw [hml]; exact hl.1) rfl dX4_init_1 (Nat.le_of_ble_eq_true rfl) (Nat.le_of_ble_eq_true rfl) ?_
  refine lv_aload_n hx hb dX4_init_4 rfl (lv_at hl 0 rfl) ?_
  refine lv_iconst (v := 5) hx hb dX4_init_5 (by decide) ?_
  refine fx_put hx hb hts hown hK hI inM rfl tyX4 tyX4_ok nmX4 2 (by decide) q759 (fun _ h => h) rfl (k := 4) (i := 0) rfl rfl rfl (Nat.le_of_ble_eq_true rfl) (m0_4 (T := G.2.2.2)) dX4_init_6 (fun Hp4 locs hI => ?_)
  obtain ⟨ad4, had4⟩ : ∃ z : Nat → Nat, z = fun _ => a := ⟨_, rfl⟩
  rw [← had4] at hI
  have h00 : ad4 0 = a := by rw [had4]
  have hl0 : lv_has ls 1 [(0, .ref (ad4 0))] := by rw [h00]; exact hl
  refine lv_aload_n hx hb dX4_init_9 rfl (lv_at hl0 0 rfl) ?_
  refine lv_bipush (v := 10) hx hb dX4_init_10 (by decide) ?_
  refine fx_newa (atype := .int) (kt := 0) (a0 := (10, .inl fun _ => 0)) (w' := mWs 4 G.2.2.2 ad4) hx hb hts hK hI rfl q83 (fun cA => by rw [vp_cell_i]; rfl) (by decide) (N := 10) rfl (Nat.le_of_ble_eq_true rfl) (Nat.le_of_ble_eq_true rfl) (Nat.le_of_ble_eq_true rfl) (mWs_none (n := 4) (by decide)) (fun _ => rfl) dX4_init_12 (fun H1 hI z1 => ?_)
  refine fx_putF hx hb hts hown hK hI inM rfl tyX4 tyX4_ok nmX4 4 (by decide) q761 (fun _ h => h) rfl hnm rfl (k := 4) (i := 0) rfl rfl rfl (Nat.le_of_ble_eq_true rfl) (mWs_next (n := 4) (by decide) (by rfl) (by rfl)) dX4_init_14 (fun Hp5 locs hI => ?_)
  obtain ⟨ad5, had5⟩ : ∃ z : Nat → Nat, z = updA ad4 4 Hp4.size := ⟨_, rfl⟩
  rw [← had5] at hI
  have h00 : ad5 0 = a := by rw [had5, updA_n (by decide)]; exact h00
  have hl0 : lv_has ls 1 [(0, .ref (ad5 0))] := by rw [h00]; exact hl
  refine lv_aload_n hx hb dX4_init_17 rfl (lv_at hl0 0 rfl) ?_
  refine lv_bipush (v := 10) hx hb dX4_init_18 (by decide) ?_
  refine fx_newa (atype := .int) (kt := 0) (a0 := (10, .inl fun _ => 0)) (w' := mWs 5 G.2.2.2 ad5) hx hb hts hK hI rfl q83 (fun cA => by rw [vp_cell_i]; rfl) (by decide) (N := 10) rfl (Nat.le_of_ble_eq_true rfl) (Nat.le_of_ble_eq_true rfl) (Nat.le_of_ble_eq_true rfl) (mWs_none (n := 5) (by decide)) (fun _ => rfl) dX4_init_20 (fun H1 hI z1 => ?_)
  refine fx_putF hx hb hts hown hK hI inM rfl tyX4 tyX4_ok nmX4 5 (by decide) q762 (fun _ h => h) rfl hnm rfl (k := 4) (i := 0) rfl rfl rfl (Nat.le_of_ble_eq_true rfl) (mWs_next (n := 5) (by decide) (by rfl) (by rfl)) dX4_init_22 (fun Hp6 locs hI => ?_)
  obtain ⟨ad6, had6⟩ : ∃ z : Nat → Nat, z = updA ad5 5 Hp5.size := ⟨_, rfl⟩
  rw [← had6] at hI
  have h00 : ad6 0 = a := by rw [had6, updA_n (by decide)]; exact h00
  have hl0 : lv_has ls 1 [(0, .ref (ad6 0))] := by rw [h00]; exact hl
  refine lv_aload_n hx hb dX4_init_25 rfl (lv_at hl0 0 rfl) ?_
  refine lv_bipush (v := 10) hx hb dX4_init_26 (by decide) ?_
  refine fx_newa (atype := .int) (kt := 0) (a0 := (10, .inl fun _ => 0)) (w' := mWs 6 G.2.2.2 ad6) hx hb hts hK hI rfl q83 (fun cA => by rw [vp_cell_i]; rfl) (by decide) (N := 10) rfl (Nat.le_of_ble_eq_true rfl) (Nat.le_of_ble_eq_true rfl) (Nat.le_of_ble_eq_true rfl) (mWs_none (n := 6) (by decide)) (fun _ => rfl) dX4_init_28 (fun H1 hI z1 => ?_)
  refine fx_putF hx hb hts hown hK hI inM rfl tyX4 tyX4_ok nmX4 6 (by decide) q763 (fun _ h => h) rfl hnm rfl (k := 4) (i := 0) rfl rfl rfl (Nat.le_of_ble_eq_true rfl) (mWs_next (n := 6) (by decide) (by rfl) (by rfl)) dX4_init_30 (fun Hp7 locs hI => ?_)
  obtain ⟨ad7, had7⟩ : ∃ z : Nat → Nat, z = updA ad6 6 Hp6.size := ⟨_, rfl⟩
  rw [← had7] at hI
  have h00 : ad7 0 = a := by rw [had7, updA_n (by decide)]; exact h00
  have hl0 : lv_has ls 1 [(0, .ref (ad7 0))] := by rw [h00]; exact hl
  refine lv_aload_n hx hb dX4_init_33 rfl (lv_at hl0 0 rfl) ?_
  refine lv_bipush (v := 10) hx hb dX4_init_34 (by decide) ?_
  refine fx_newa (atype := .int) (kt := 0) (a0 := (10, .inl fun _ => 0)) (w' := mWs 7 G.2.2.2 ad7) hx hb hts hK hI rfl q83 (fun cA => by rw [vp_cell_i]; rfl) (by decide) (N := 10) rfl (Nat.le_of_ble_eq_true rfl) (Nat.le_of_ble_eq_true rfl) (Nat.le_of_ble_eq_true rfl) (mWs_none (n := 7) (by decide)) (fun _ => rfl) dX4_init_36 (fun H1 hI z1 => ?_)
  refine fx_putF hx hb hts hown hK hI inM rfl tyX4 tyX4_ok nmX4 7 (by decide) q764 (fun _ h => h) rfl hnm rfl (k := 4) (i := 0) rfl rfl rfl (Nat.le_of_ble_eq_true rfl) (mWs_next (n := 7) (by decide) (by rfl) (by rfl)) dX4_init_38 (fun Hp8 locs hI => ?_)
  obtain ⟨ad8, had8⟩ : ∃ z : Nat → Nat, z = updA ad7 7 Hp7.size := ⟨_, rfl⟩
  rw [← had8] at hI
  have h00 : ad8 0 = a := by rw [had8, updA_n (by decide)]; exact h00
  have hl0 : lv_has ls 1 [(0, .ref (ad8 0))] := by rw [h00]; exact hl
  refine lv_aload_n hx hb dX4_init_41 rfl (lv_at hl0 0 rfl) ?_
  refine lv_bipush (v := 10) hx hb dX4_init_42 (by decide) ?_
  refine fx_newa (atype := .int) (kt := 0) (a0 := (10, .inl fun _ => 0)) (w' := mWs 8 G.2.2.2 ad8) hx hb hts hK hI rfl q83 (fun cA => by rw [vp_cell_i]; rfl) (by decide) (N := 10) rfl (Nat.le_of_ble_eq_true rfl) (Nat.le_of_ble_eq_true rfl) (Nat.le_of_ble_eq_true rfl) (mWs_none (n := 8) (by decide)) (fun _ => rfl) dX4_init_44 (fun H1 hI z1 => ?_)
  refine fx_putF hx hb hts hown hK hI inM rfl tyX4 tyX4_ok nmX4 8 (by decide) q765 (fun _ h => h) rfl hnm rfl (k := 4) (i := 0) rfl rfl rfl (Nat.le_of_ble_eq_true rfl) (mWs_next (n := 8) (by decide) (by rfl) (by rfl)) dX4_init_46 (fun Hp9 locs hI => ?_)
  obtain ⟨ad9, had9⟩ : ∃ z : Nat → Nat, z = updA ad8 8 Hp8.size := ⟨_, rfl⟩
  rw [← had9] at hI
  have h00 : ad9 0 = a := by rw [had9, updA_n (by decide)]; exact h00
  have hl0 : lv_has ls 1 [(0, .ref (ad9 0))] := by rw [h00]; exact hl
  refine lv_aload_n hx hb dX4_init_49 rfl (lv_at hl0 0 rfl) ?_
  refine lv_bipush (v := 10) hx hb dX4_init_50 (by decide) ?_
  refine fx_newa (atype := .int) (kt := 0) (a0 := (10, .inl fun _ => 0)) (w' := mWs 9 G.2.2.2 ad9) hx hb hts hK hI rfl q83 (fun cA => by rw [vp_cell_i]; rfl) (by decide) (N := 10) rfl (Nat.le_of_ble_eq_true rfl) (Nat.le_of_ble_eq_true rfl) (Nat.le_of_ble_eq_true rfl) (mWs_none (n := 9) (by decide)) (fun _ => rfl) dX4_init_52 (fun H1 hI z1 => ?_)
  refine fx_putF hx hb hts hown hK hI inM rfl tyX4 tyX4_ok nmX4 9 (by decide) q766 (fun _ h => h) rfl hnm rfl (k := 4) (i := 0) rfl rfl rfl (Nat.le_of_ble_eq_true rfl) (mWs_next (n := 9) (by decide) (by rfl) (by rfl)) dX4_init_54 (fun Hp10 locs hI => ?_)
  obtain ⟨ad10, had10⟩ : ∃ z : Nat → Nat, z = updA ad9 9 Hp9.size := ⟨_, rfl⟩
  rw [← had10] at hI
  have h00 : ad10 0 = a := by rw [had10, updA_n (by decide)]; exact h00
  have hl0 : lv_has ls 1 [(0, .ref (ad10 0))] := by rw [h00]; exact hl
  refine lv_aload_n hx hb dX4_init_57 rfl (lv_at hl0 0 rfl) ?_
  refine lv_bipush (v := 10) hx hb dX4_init_58 (by decide) ?_
  refine fx_newa (atype := .int) (kt := 0) (a0 := (10, .inl fun _ => 0)) (w' := mWs 10 G.2.2.2 ad10) hx hb hts hK hI rfl q83 (fun cA => by rw [vp_cell_i]; rfl) (by decide) (N := 10) rfl (Nat.le_of_ble_eq_true rfl) (Nat.le_of_ble_eq_true rfl) (Nat.le_of_ble_eq_true rfl) (mWs_none (n := 10) (by decide)) (fun _ => rfl) dX4_init_60 (fun H1 hI z1 => ?_)
  refine fx_putF hx hb hts hown hK hI inM rfl tyX4 tyX4_ok nmX4 10 (by decide) q767 (fun _ h => h) rfl hnm rfl (k := 4) (i := 0) rfl rfl rfl (Nat.le_of_ble_eq_true rfl) (mWs_next (n := 10) (by decide) (by rfl) (by rfl)) dX4_init_62 (fun Hp11 locs hI => ?_)
  obtain ⟨ad11, had11⟩ : ∃ z : Nat → Nat, z = updA ad10 10 Hp10.size := ⟨_, rfl⟩
  rw [← had11] at hI
  have h00 : ad11 0 = a := by rw [had11, updA_n (by decide)]; exact h00
  have hl0 : lv_has ls 1 [(0, .ref (ad11 0))] := by rw [h00]; exact hl
  refine lv_aload_n hx hb dX4_init_65 rfl (lv_at hl0 0 rfl) ?_
  refine lv_bipush (v := 10) hx hb dX4_init_66 (by decide) ?_
  refine fx_newa (atype := .int) (kt := 0) (a0 := (10, .inl fun _ => 0)) (w' := mWs 11 G.2.2.2 ad11) hx hb hts hK hI rfl q83 (fun cA => by rw [vp_cell_i]; rfl) (by decide) (N := 10) rfl (Nat.le_of_ble_eq_true rfl) (Nat.le_of_ble_eq_true rfl) (Nat.le_of_ble_eq_true rfl) (mWs_none (n := 11) (by decide)) (fun _ => rfl) dX4_init_68 (fun H1 hI z1 => ?_)
  refine fx_putF hx hb hts hown hK hI inM rfl tyX4 tyX4_ok nmX4 11 (by decide) q768 (fun _ h => h) rfl hnm rfl (k := 4) (i := 0) rfl rfl rfl (Nat.le_of_ble_eq_true rfl) (mWs_next (n := 11) (by decide) (by rfl) (by rfl)) dX4_init_70 (fun Hp12 locs hI => ?_)
  obtain ⟨ad12, had12⟩ : ∃ z : Nat → Nat, z = updA ad11 11 Hp11.size := ⟨_, rfl⟩
  rw [← had12] at hI
  have h00 : ad12 0 = a := by rw [had12, updA_n (by decide)]; exact h00
  have hl0 : lv_has ls 1 [(0, .ref (ad12 0))] := by rw [h00]; exact hl
  refine lv_aload_n hx hb dX4_init_73 rfl (lv_at hl0 0 rfl) ?_
  refine lv_bipush (v := 10) hx hb dX4_init_74 (by decide) ?_
  refine fx_newa (atype := .int) (kt := 0) (a0 := (10, .inl fun _ => 0)) (w' := mWs 12 G.2.2.2 ad12) hx hb hts hK hI rfl q83 (fun cA => by rw [vp_cell_i]; rfl) (by decide) (N := 10) rfl (Nat.le_of_ble_eq_true rfl) (Nat.le_of_ble_eq_true rfl) (Nat.le_of_ble_eq_true rfl) (mWs_none (n := 12) (by decide)) (fun _ => rfl) dX4_init_76 (fun H1 hI z1 => ?_)
  refine fx_putF hx hb hts hown hK hI inM rfl tyX4 tyX4_ok nmX4 12 (by decide) q769 (fun _ h => h) rfl hnm rfl (k := 4) (i := 0) rfl rfl rfl (Nat.le_of_ble_eq_true rfl) (mWs_next (n := 12) (by decide) (by rfl) (by rfl)) dX4_init_78 (fun Hp13 locs hI => ?_)
  obtain ⟨ad13, had13⟩ : ∃ z : Nat → Nat, z = updA ad12 12 Hp12.size := ⟨_, rfl⟩
  rw [← had13] at hI
  have h00 : ad13 0 = a := by rw [had13, updA_n (by decide)]; exact h00
  have hl0 : lv_has ls 1 [(0, .ref (ad13 0))] := by rw [h00]; exact hl
  refine lv_aload_n hx hb dX4_init_81 rfl (lv_at hl0 0 rfl) ?_
  refine lv_bipush (v := 10) hx hb dX4_init_82 (by decide) ?_
  refine fx_newa (atype := .int) (kt := 0) (a0 := (10, .inl fun _ => 0)) (w' := mWs 13 G.2.2.2 ad13) hx hb hts hK hI rfl q83 (fun cA => by rw [vp_cell_i]; rfl) (by decide) (N := 10) rfl (Nat.le_of_ble_eq_true rfl) (Nat.le_of_ble_eq_true rfl) (Nat.le_of_ble_eq_true rfl) (mWs_none (n := 13) (by decide)) (fun _ => rfl) dX4_init_84 (fun H1 hI z1 => ?_)
  refine fx_putF hx hb hts hown hK hI inM rfl tyX4 tyX4_ok nmX4 13 (by decide) q770 (fun _ h => h) rfl hnm rfl (k := 4) (i := 0) rfl rfl rfl (Nat.le_of_ble_eq_true rfl) (mWs_next (n := 13) (by decide) (by rfl) (by rfl)) dX4_init_86 (fun Hp14 locs hI => ?_)
  obtain ⟨ad14, had14⟩ : ∃ z : Nat → Nat, z = updA ad13 13 Hp13.size := ⟨_, rfl⟩
  rw [← had14] at hI
  have h00 : ad14 0 = a := by rw [had14, updA_n (by decide)]; exact h00
  have hl0 : lv_has ls 1 [(0, .ref (ad14 0))] := by rw [h00]; exact hl
  refine lv_aload_n hx hb dX4_init_89 rfl (lv_at hl0 0 rfl) ?_
  refine lv_bipush (v := 10) hx hb dX4_init_90 (by decide) ?_
  refine fx_newa (atype := .double) (kt := 1) (a0 := (10, .inr (.inr (.inr (.inl fun _ => 0))))) (w' := mWs 14 G.2.2.2 ad14) hx hb hts hK hI rfl q848 (fun cA => by rw [vp_cell_d]; rfl) (by decide) (N := 10) rfl (Nat.le_of_ble_eq_true rfl) (Nat.le_of_ble_eq_true rfl) (Nat.le_of_ble_eq_true rfl) (mWs_none (n := 14) (by decide)) (fun _ => rfl) dX4_init_92 (fun H1 hI z1 => ?_)
  refine fx_putF hx hb hts hown hK hI inM rfl tyX4 tyX4_ok nmX4 14 (by decide) q771 (fun _ h => h) rfl hnm rfl (k := 4) (i := 0) rfl rfl rfl (Nat.le_of_ble_eq_true rfl) (mWs_next (n := 14) (by decide) (by rfl) (by rfl)) dX4_init_94 (fun Hp15 locs hI => ?_)
  obtain ⟨ad15, had15⟩ : ∃ z : Nat → Nat, z = updA ad14 14 Hp14.size := ⟨_, rfl⟩
  rw [← had15] at hI
  have h00 : ad15 0 = a := by rw [had15, updA_n (by decide)]; exact h00
  have hl0 : lv_has ls 1 [(0, .ref (ad15 0))] := by rw [h00]; exact hl
  refine lv_aload_n hx hb dX4_init_97 rfl (lv_at hl0 0 rfl) ?_
  refine lv_bipush (v := 20) hx hb dX4_init_98 (by decide) ?_
  refine fx_newa (atype := .int) (kt := 0) (a0 := (20, .inl fun _ => 0)) (w' := mWs 15 G.2.2.2 ad15) hx hb hts hK hI rfl q83 (fun cA => by rw [vp_cell_i]; rfl) (by decide) (N := 20) rfl (Nat.le_of_ble_eq_true rfl) (Nat.le_of_ble_eq_true rfl) (Nat.le_of_ble_eq_true rfl) (mWs_none (n := 15) (by decide)) (fun _ => rfl) dX4_init_100 (fun H1 hI z1 => ?_)
  refine fx_putF hx hb hts hown hK hI inM rfl tyX4 tyX4_ok nmX4 15 (by decide) q772 (fun _ h => h) rfl hnm rfl (k := 4) (i := 0) rfl rfl rfl (Nat.le_of_ble_eq_true rfl) (mWs_next (n := 15) (by decide) (by rfl) (by rfl)) dX4_init_102 (fun Hp16 locs hI => ?_)
  obtain ⟨ad16, had16⟩ : ∃ z : Nat → Nat, z = updA ad15 15 Hp15.size := ⟨_, rfl⟩
  rw [← had16] at hI
  have h00 : ad16 0 = a := by rw [had16, updA_n (by decide)]; exact h00
  have hl0 : lv_has ls 1 [(0, .ref (ad16 0))] := by rw [h00]; exact hl
  refine lv_aload_n hx hb dX4_init_105 rfl (lv_at hl0 0 rfl) ?_
  refine lv_bipush (v := 16) hx hb dX4_init_106 (by decide) ?_
  rw [mWs_16] at hI
  refine fx_newa (atype := .int) (kt := 0) (a0 := (16, .inl fun _ => 0)) (w' := mWs 17 G.2.2.2 ad16) hx hb hts hK hI rfl q83 (fun cA => by rw [vp_cell_i]; rfl) (by decide) (N := 16) rfl (Nat.le_of_ble_eq_true rfl) (Nat.le_of_ble_eq_true rfl) (Nat.le_of_ble_eq_true rfl) (mWs_none (n := 17) (by decide)) (fun _ => rfl) dX4_init_108 (fun H1 hI z1 => ?_)
  refine fx_putF hx hb hts hown hK hI inM rfl tyX4 tyX4_ok nmX4 17 (by decide) q774 (fun _ h => h) rfl hnm rfl (k := 4) (i := 0) rfl rfl rfl (Nat.le_of_ble_eq_true rfl) (mWs_next (n := 17) (by decide) (by rfl) (by rfl)) dX4_init_110 (fun Hp18 locs hI => ?_)
  obtain ⟨ad18, had18⟩ : ∃ z : Nat → Nat, z = updA ad16 17 Hp16.size := ⟨_, rfl⟩
  rw [← had18] at hI
  have h00 : ad18 0 = a := by rw [had18, updA_n (by decide)]; exact h00
  have hl0 : lv_has ls 1 [(0, .ref (ad18 0))] := by rw [h00]; exact hl
  refine lv_aload_n hx hb dX4_init_113 rfl (lv_at hl0 0 rfl) ?_
  refine lv_bipush (v := 16) hx hb dX4_init_114 (by decide) ?_
  refine fx_newa (atype := .int) (kt := 0) (a0 := (16, .inl fun _ => 0)) (w' := mWs 18 G.2.2.2 ad18) hx hb hts hK hI rfl q83 (fun cA => by rw [vp_cell_i]; rfl) (by decide) (N := 16) rfl (Nat.le_of_ble_eq_true rfl) (Nat.le_of_ble_eq_true rfl) (Nat.le_of_ble_eq_true rfl) (mWs_none (n := 18) (by decide)) (fun _ => rfl) dX4_init_116 (fun H1 hI z1 => ?_)
  refine fx_putF hx hb hts hown hK hI inM rfl tyX4 tyX4_ok nmX4 18 (by decide) q775 (fun _ h => h) rfl hnm rfl (k := 4) (i := 0) rfl rfl rfl (Nat.le_of_ble_eq_true rfl) (mWs_next (n := 18) (by decide) (by rfl) (by rfl)) dX4_init_118 (fun Hp19 locs hI => ?_)
  obtain ⟨ad19, had19⟩ : ∃ z : Nat → Nat, z = updA ad18 18 Hp18.size := ⟨_, rfl⟩
  rw [← had19] at hI
  have h00 : ad19 0 = a := by rw [had19, updA_n (by decide)]; exact h00
  have hl0 : lv_has ls 1 [(0, .ref (ad19 0))] := by rw [h00]; exact hl
  refine lv_aload_n hx hb dX4_init_121 rfl (lv_at hl0 0 rfl) ?_
  refine lv_bipush (v := 16) hx hb dX4_init_122 (by decide) ?_
  refine fx_newa (atype := .int) (kt := 0) (a0 := (16, .inl fun _ => 0)) (w' := mWs 19 G.2.2.2 ad19) hx hb hts hK hI rfl q83 (fun cA => by rw [vp_cell_i]; rfl) (by decide) (N := 16) rfl (Nat.le_of_ble_eq_true rfl) (Nat.le_of_ble_eq_true rfl) (Nat.le_of_ble_eq_true rfl) (mWs_none (n := 19) (by decide)) (fun _ => rfl) dX4_init_124 (fun H1 hI z1 => ?_)
  refine fx_putF hx hb hts hown hK hI inM rfl tyX4 tyX4_ok nmX4 19 (by decide) q776 (fun _ h => h) rfl hnm rfl (k := 4) (i := 0) rfl rfl rfl (Nat.le_of_ble_eq_true rfl) (mWs_next (n := 19) (by decide) (by rfl) (by rfl)) dX4_init_126 (fun Hp20 locs hI => ?_)
  obtain ⟨ad20, had20⟩ : ∃ z : Nat → Nat, z = updA ad19 19 Hp19.size := ⟨_, rfl⟩
  rw [← had20] at hI
  have h00 : ad20 0 = a := by rw [had20, updA_n (by decide)]; exact h00
  have hl0 : lv_has ls 1 [(0, .ref (ad20 0))] := by rw [h00]; exact hl
  refine lv_aload_n hx hb dX4_init_129 rfl (lv_at hl0 0 rfl) ?_
  refine lv_bipush (v := 16) hx hb dX4_init_130 (by decide) ?_
  refine fx_newa (atype := .int) (kt := 0) (a0 := (16, .inl fun _ => 0)) (w' := mWs 20 G.2.2.2 ad20) hx hb hts hK hI rfl q83 (fun cA => by rw [vp_cell_i]; rfl) (by decide) (N := 16) rfl (Nat.le_of_ble_eq_true rfl) (Nat.le_of_ble_eq_true rfl) (Nat.le_of_ble_eq_true rfl) (mWs_none (n := 20) (by decide)) (fun _ => rfl) dX4_init_132 (fun H1 hI z1 => ?_)
  refine fx_putF hx hb hts hown hK hI inM rfl tyX4 tyX4_ok nmX4 20 (by decide) q777 (fun _ h => h) rfl hnm rfl (k := 4) (i := 0) rfl rfl rfl (Nat.le_of_ble_eq_true rfl) (mWs_next (n := 20) (by decide) (by rfl) (by rfl)) dX4_init_134 (fun Hp21 locs hI => ?_)
  obtain ⟨ad21, had21⟩ : ∃ z : Nat → Nat, z = updA ad20 20 Hp20.size := ⟨_, rfl⟩
  rw [← had21] at hI
  have h00 : ad21 0 = a := by rw [had21, updA_n (by decide)]; exact h00
  have hl0 : lv_has ls 1 [(0, .ref (ad21 0))] := by rw [h00]; exact hl
  refine lv_aload_n hx hb dX4_init_137 rfl (lv_at hl0 0 rfl) ?_
  refine lv_bipush (v := 16) hx hb dX4_init_138 (by decide) ?_
  refine fx_newa (atype := .int) (kt := 0) (a0 := (16, .inl fun _ => 0)) (w' := mWs 21 G.2.2.2 ad21) hx hb hts hK hI rfl q83 (fun cA => by rw [vp_cell_i]; rfl) (by decide) (N := 16) rfl (Nat.le_of_ble_eq_true rfl) (Nat.le_of_ble_eq_true rfl) (Nat.le_of_ble_eq_true rfl) (mWs_none (n := 21) (by decide)) (fun _ => rfl) dX4_init_140 (fun H1 hI z1 => ?_)
  refine fx_putF hx hb hts hown hK hI inM rfl tyX4 tyX4_ok nmX4 21 (by decide) q778 (fun _ h => h) rfl hnm rfl (k := 4) (i := 0) rfl rfl rfl (Nat.le_of_ble_eq_true rfl) (mWs_next (n := 21) (by decide) (by rfl) (by rfl)) dX4_init_142 (fun Hp22 locs hI => ?_)
  obtain ⟨ad22, had22⟩ : ∃ z : Nat → Nat, z = updA ad21 21 Hp21.size := ⟨_, rfl⟩
  rw [← had22] at hI
  have h00 : ad22 0 = a := by rw [had22, updA_n (by decide)]; exact h00
  have hl0 : lv_has ls 1 [(0, .ref (ad22 0))] := by rw [h00]; exact hl
  refine lv_aload_n hx hb dX4_init_145 rfl (lv_at hl0 0 rfl) ?_
  refine lv_bipush (v := 16) hx hb dX4_init_146 (by decide) ?_
  refine fx_newa (atype := .boolean) (kt := 2) (a0 := (16, .inl fun _ => 0)) (w' := mWs 22 G.2.2.2 ad22) hx hb hts hK hI rfl q849 (fun cA => by rw [vp_cell_i]; rfl) (by decide) (N := 16) rfl (Nat.le_of_ble_eq_true rfl) (Nat.le_of_ble_eq_true rfl) (Nat.le_of_ble_eq_true rfl) (mWs_none (n := 22) (by decide)) (fun _ => rfl) dX4_init_148 (fun H1 hI z1 => ?_)
  refine fx_putF hx hb hts hown hK hI inM rfl tyX4 tyX4_ok nmX4 22 (by decide) q779 (fun _ h => h) rfl hnm rfl (k := 4) (i := 0) rfl rfl rfl (Nat.le_of_ble_eq_true rfl) (mWs_next (n := 22) (by decide) (by rfl) (by rfl)) dX4_init_150 (fun Hp23 locs hI => ?_)
  obtain ⟨ad23, had23⟩ : ∃ z : Nat → Nat, z = updA ad22 22 Hp22.size := ⟨_, rfl⟩
  rw [← had23] at hI
  have h00 : ad23 0 = a := by rw [had23, updA_n (by decide)]; exact h00
  have hl0 : lv_has ls 1 [(0, .ref (ad23 0))] := by rw [h00]; exact hl
  refine lv_aload_n hx hb dX4_init_153 rfl (lv_at hl0 0 rfl) ?_
  refine lv_bipush (v := 16) hx hb dX4_init_154 (by decide) ?_
  refine fx_newa (atype := .int) (kt := 0) (a0 := (16, .inl fun _ => 0)) (w' := mWs 23 G.2.2.2 ad23) hx hb hts hK hI rfl q83 (fun cA => by rw [vp_cell_i]; rfl) (by decide) (N := 16) rfl (Nat.le_of_ble_eq_true rfl) (Nat.le_of_ble_eq_true rfl) (Nat.le_of_ble_eq_true rfl) (mWs_none (n := 23) (by decide)) (fun _ => rfl) dX4_init_156 (fun H1 hI z1 => ?_)
  refine fx_putF hx hb hts hown hK hI inM rfl tyX4 tyX4_ok nmX4 23 (by decide) q780 (fun _ h => h) rfl hnm rfl (k := 4) (i := 0) rfl rfl rfl (Nat.le_of_ble_eq_true rfl) (mWs_next (n := 23) (by decide) (by rfl) (by rfl)) dX4_init_158 (fun Hp24 locs hI => ?_)
  obtain ⟨ad24, had24⟩ : ∃ z : Nat → Nat, z = updA ad23 23 Hp23.size := ⟨_, rfl⟩
  rw [← had24] at hI
  have h00 : ad24 0 = a := by rw [had24, updA_n (by decide)]; exact h00
  have hl0 : lv_has ls 1 [(0, .ref (ad24 0))] := by rw [h00]; exact hl
  refine lv_aload_n hx hb dX4_init_161 rfl (lv_at hl0 0 rfl) ?_
  refine lv_bipush (v := 16) hx hb dX4_init_162 (by decide) ?_
  refine fx_newa (atype := .int) (kt := 0) (a0 := (16, .inl fun _ => 0)) (w' := mWs 24 G.2.2.2 ad24) hx hb hts hK hI rfl q83 (fun cA => by rw [vp_cell_i]; rfl) (by decide) (N := 16) rfl (Nat.le_of_ble_eq_true rfl) (Nat.le_of_ble_eq_true rfl) (Nat.le_of_ble_eq_true rfl) (mWs_none (n := 24) (by decide)) (fun _ => rfl) dX4_init_164 (fun H1 hI z1 => ?_)
  refine fx_putF hx hb hts hown hK hI inM rfl tyX4 tyX4_ok nmX4 24 (by decide) q781 (fun _ h => h) rfl hnm rfl (k := 4) (i := 0) rfl rfl rfl (Nat.le_of_ble_eq_true rfl) (mWs_next (n := 24) (by decide) (by rfl) (by rfl)) dX4_init_166 (fun Hp25 locs hI => ?_)
  obtain ⟨ad25, had25⟩ : ∃ z : Nat → Nat, z = updA ad24 24 Hp24.size := ⟨_, rfl⟩
  rw [← had25] at hI
  have h00 : ad25 0 = a := by rw [had25, updA_n (by decide)]; exact h00
  have hl0 : lv_has ls 1 [(0, .ref (ad25 0))] := by rw [h00]; exact hl
  refine lv_aload_n hx hb dX4_init_169 rfl (lv_at hl0 0 rfl) ?_
  refine lv_bipush (v := 16) hx hb dX4_init_170 (by decide) ?_
  refine fx_newa (atype := .int) (kt := 0) (a0 := (16, .inl fun _ => 0)) (w' := mWs 25 G.2.2.2 ad25) hx hb hts hK hI rfl q83 (fun cA => by rw [vp_cell_i]; rfl) (by decide) (N := 16) rfl (Nat.le_of_ble_eq_true rfl) (Nat.le_of_ble_eq_true rfl) (Nat.le_of_ble_eq_true rfl) (mWs_none (n := 25) (by decide)) (fun _ => rfl) dX4_init_172 (fun H1 hI z1 => ?_)
  refine fx_putF hx hb hts hown hK hI inM rfl tyX4 tyX4_ok nmX4 25 (by decide) q782 (fun _ h => h) rfl hnm rfl (k := 4) (i := 0) rfl rfl rfl (Nat.le_of_ble_eq_true rfl) (mWs_next (n := 25) (by decide) (by rfl) (by rfl)) dX4_init_174 (fun Hp26 locs hI => ?_)
  obtain ⟨ad26, had26⟩ : ∃ z : Nat → Nat, z = updA ad25 25 Hp25.size := ⟨_, rfl⟩
  rw [← had26] at hI
  have h00 : ad26 0 = a := by rw [had26, updA_n (by decide)]; exact h00
  have hl0 : lv_has ls 1 [(0, .ref (ad26 0))] := by rw [h00]; exact hl
  refine lv_aload_n hx hb dX4_init_177 rfl (lv_at hl0 0 rfl) ?_
  refine lv_iconst (v := 3) hx hb dX4_init_178 (by decide) ?_
  refine fx_newa (atype := .int) (kt := 0) (a0 := (3, .inl fun _ => 0)) (w' := mWs 26 G.2.2.2 ad26) hx hb hts hK hI rfl q83 (fun cA => by rw [vp_cell_i]; rfl) (by decide) (N := 3) rfl (Nat.le_of_ble_eq_true rfl) (Nat.le_of_ble_eq_true rfl) (Nat.le_of_ble_eq_true rfl) (mWs_none (n := 26) (by decide)) (fun _ => rfl) dX4_init_179 (fun H1 hI z1 => ?_)
  refine fx_putF hx hb hts hown hK hI inM rfl tyX4 tyX4_ok nmX4 26 (by decide) q783 (fun _ h => h) rfl hnm rfl (k := 4) (i := 0) rfl rfl rfl (Nat.le_of_ble_eq_true rfl) (mWs_next (n := 26) (by decide) (by rfl) (by rfl)) dX4_init_181 (fun Hp27 locs hI => ?_)
  obtain ⟨ad27, had27⟩ : ∃ z : Nat → Nat, z = updA ad26 26 Hp26.size := ⟨_, rfl⟩
  rw [← had27] at hI
  have h00 : ad27 0 = a := by rw [had27, updA_n (by decide)]; exact h00
  have hl0 : lv_has ls 1 [(0, .ref (ad27 0))] := by rw [h00]; exact hl
  refine lv_aload_n hx hb dX4_init_184 rfl (lv_at hl0 0 rfl) ?_
  refine lv_iconst (v := 3) hx hb dX4_init_185 (by decide) ?_
  refine fx_newa (atype := .int) (kt := 0) (a0 := (3, .inl fun _ => 0)) (w' := mWs 27 G.2.2.2 ad27) hx hb hts hK hI rfl q83 (fun cA => by rw [vp_cell_i]; rfl) (by decide) (N := 3) rfl (Nat.le_of_ble_eq_true rfl) (Nat.le_of_ble_eq_true rfl) (Nat.le_of_ble_eq_true rfl) (mWs_none (n := 27) (by decide)) (fun _ => rfl) dX4_init_186 (fun H1 hI z1 => ?_)
  refine fx_putF hx hb hts hown hK hI inM rfl tyX4 tyX4_ok nmX4 27 (by decide) q784 (fun _ h => h) rfl hnm rfl (k := 4) (i := 0) rfl rfl rfl (Nat.le_of_ble_eq_true rfl) (mWs_next (n := 27) (by decide) (by rfl) (by rfl)) dX4_init_188 (fun Hp28 locs hI => ?_)
  obtain ⟨ad28, had28⟩ : ∃ z : Nat → Nat, z = updA ad27 27 Hp27.size := ⟨_, rfl⟩
  rw [← had28] at hI
  have h00 : ad28 0 = a := by rw [had28, updA_n (by decide)]; exact h00
  have hl0 : lv_has ls 1 [(0, .ref (ad28 0))] := by rw [h00]; exact hl
  refine lv_aload_n hx hb dX4_init_191 rfl (lv_at hl0 0 rfl) ?_
  refine lv_iconst (v := 3) hx hb dX4_init_192 (by decide) ?_
  refine fx_newa (atype := .int) (kt := 0) (a0 := (3, .inl fun _ => 0)) (w' := mWs 28 G.2.2.2 ad28) hx hb hts hK hI rfl q83 (fun cA => by rw [vp_cell_i]; rfl) (by decide) (N := 3) rfl (Nat.le_of_ble_eq_true rfl) (Nat.le_of_ble_eq_true rfl) (Nat.le_of_ble_eq_true rfl) (mWs_none (n := 28) (by decide)) (fun _ => rfl) dX4_init_193 (fun H1 hI z1 => ?_)
  refine fx_putF hx hb hts hown hK hI inM rfl tyX4 tyX4_ok nmX4 28 (by decide) q785 (fun _ h => h) rfl hnm rfl (k := 4) (i := 0) rfl rfl rfl (Nat.le_of_ble_eq_true rfl) (mWs_next (n := 28) (by decide) (by rfl) (by rfl)) dX4_init_195 (fun Hp29 locs hI => ?_)
  obtain ⟨ad29, had29⟩ : ∃ z : Nat → Nat, z = updA ad28 28 Hp28.size := ⟨_, rfl⟩
  rw [← had29] at hI
  have h00 : ad29 0 = a := by rw [had29, updA_n (by decide)]; exact h00
  rw [mWs_end] at hI
  exact rt_v hx hb hr hlocks hI hA hQ ⟨rfl, ad29, h00, rfl⟩ (Nat.le_of_ble_eq_true rfl) (Nat.le_of_ble_eq_true rfl) dX4_init_198
