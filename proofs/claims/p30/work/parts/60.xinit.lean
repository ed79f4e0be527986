/-! ===== the class' constructor ===== -/
theorem fU_id {w : WD} {k i : Nat} {x : Nat × va_E} (h : w k i = some x) : fU w k i x = w := by
  funext k' i'
  by_cases q : k' = k ∧ i' = i
  · obtain ⟨rfl, rfl⟩ := q
    rw [fU_same, h]
  · rw [fU_ne q]
theorem fU_fU {w : WD} {k i : Nat} {x y : Nat × va_E} : fU (fU w k i x) k i y = fU w k i y := by
  funext k' i'
  by_cases q : k' = k ∧ i' = i
  · obtain ⟨rfl, rfl⟩ := q
    rw [fU_same, fU_same]
  · rw [fU_ne q, fU_ne q, fU_ne q]
theorem cAC_init (G : GX) (w : WD) (b : Nat) : FC G yJxa1e45_init_da8c8 cJxa1e45_init_da8c8 1 none { frames := 1, cells := 0, slots := 0, locals := 24 } [.ref b] w (p0 w) := by
  refine FC.go (lv := [(0, .ref b)]) (by decide) (Nat.le_of_ble_eq_true rfl) rfl (fun p e s m args below meth c A H locs ls Q hx hb hr hts hown hml hlocks hnm hK hE hI hA hl hQ => ?_)
  have hown : s.vm.findClass RJxa1e45 = some m.cls := hown
  refine lv_aload_n hx hb dJxa1e45_init_da8c8_0 rfl (lv_at hl 0 rfl) ?_
  refine W.objInit hx hb hown (hts _ q39) (hts _ q26) (hts _ q27) rfl (by rw [hml]; exact hl.1) rfl dJxa1e45_init_da8c8_1 (Nat.le_of_ble_eq_true rfl) (Nat.le_of_ble_eq_true rfl) ?_
  exact rt_v hx hb hr hlocks hI hA hQ ⟨rfl, rfl⟩ (Nat.zero_le _) (Nat.zero_le _) dJxa1e45_init_da8c8_4
theorem cAL_init (G : GX) (w : WD) (k i b : Nat) (he : w k i = some (b, .inr (0, [.int 0, .null, .int 0]))) : FC G yJxc12de_init_da8c8 cJxc12de_init_da8c8 1 none { frames := 2, cells := 0, slots := 0, locals := 48 } [.ref b] w (p0 w) := by
  refine FC.go (lv := [(0, .ref b)]) (by decide) (Nat.le_of_ble_eq_true rfl) rfl (fun p e s m args below meth c A H locs ls Q hx hb hr hts hown hml hlocks hnm hK hE hI hA hl hQ => ?_)
  have hown : s.vm.findClass RJxc12de = some m.cls := hown
  refine lv_aload_n hx hb dJxc12de_init_da8c8_0 rfl (lv_at hl 0 rfl) ?_
  refine cI0 (rest := []) hx hb hml hts hown hK hE hI (cAC_init G w b) kAL_1 ⟨(Nat.le_of_ble_eq_true rfl), (Nat.le_of_ble_eq_true rfl)⟩ rfl rfl hl.1 rfl (Nat.le_of_ble_eq_true rfl) dJxc12de_init_da8c8_1 ⟨(Nat.le_of_ble_eq_true rfl), (Nat.le_of_ble_eq_true rfl)⟩ (fun H locs hI => ?_)
  refine lv_aload_n hx hb dJxc12de_init_da8c8_4 rfl (lv_at hl 0 rfl) ?_
  refine lv_iconst (v := 0) hx hb dJxc12de_init_da8c8_5 (by decide) ?_
  refine fx_put hx hb hts hown hK hI inXL rfl tyJx4a65c tyJx4a65c_ok nmJx4a65c 0 (by decide) q44 (fun _ h => h) rfl he rfl rfl (Nat.le_of_ble_eq_true rfl) (fU_id he) dJxc12de_init_da8c8_6 (fun H locs hI => ?_)
  exact rt_v hx hb hr hlocks hI hA hQ ⟨rfl, rfl⟩ (Nat.zero_le _) (Nat.zero_le _) dJxc12de_init_da8c8_9
theorem cL_init (G : GX) (w : WD) (k i b : Nat) (he : w k i = some (b, .inr (0, [.int 0, .null, .int 0]))) : FC G yJx4a65c_init_da8c8 cJx4a65c_init_da8c8 1 none { frames := 3, cells := 0, slots := 0, locals := 72 } [.ref b] w (p0 (fU w k i (b, .inr (0, [.int 0, .ref G.2.1, .int 0])))) := by
  refine FC.go (lv := [(0, .ref b)]) (by decide) (Nat.le_of_ble_eq_true rfl) rfl (fun p e s m args below meth c A H locs ls Q hx hb hr hts hown hml hlocks hnm hK hE hI hA hl hQ => ?_)
  have hown : s.vm.findClass RJx4a65c = some m.cls := hown
  refine lv_aload_n hx hb dJx4a65c_init_da8c8_0 rfl (lv_at hl 0 rfl) ?_
  refine cI0 (rest := []) hx hb hml hts hown hK hE hI (cAL_init G w k i b he) kL_1 ⟨(Nat.le_of_ble_eq_true rfl), (Nat.le_of_ble_eq_true rfl)⟩ rfl rfl hl.1 rfl (Nat.le_of_ble_eq_true rfl) dJx4a65c_init_da8c8_1 ⟨(Nat.le_of_ble_eq_true rfl), (Nat.le_of_ble_eq_true rfl)⟩ (fun H locs hI => ?_)
  refine lv_aload_n hx hb dJx4a65c_init_da8c8_4 rfl (lv_at hl 0 rfl) ?_
  refine va_gets hx hb hE.2.2.2.2.1 hI.2.2.1 hown (hts _ q40) (fun _ h => h) dJx4a65c_init_da8c8_5 ?_
  refine fx_put hx hb hts hown hK hI inXL rfl tyJx4a65c tyJx4a65c_ok nmJx4a65c 1 (by decide) q42 (fun _ h => h) rfl he rfl rfl (Nat.le_of_ble_eq_true rfl) rfl dJx4a65c_init_da8c8_8 (fun H locs hI => ?_)
  exact rt_v hx hb hr hlocks hI hA hQ ⟨rfl, rfl⟩ (Nat.zero_le _) (Nat.zero_le _) dJx4a65c_init_da8c8_11
def xr (n : Nat) (ad : Nat → Nat) (j : Nat) : Value := if j < n then .ref (ad j) else .null
def xFs (n : Nat) (ad : Nat → Nat) : List Value := [xr n ad 0, xr n ad 1, xr n ad 2, xr n ad 3, xr n ad 4, xr n ad 5, .int 0, .int 0, .int 0]
/-- the class' world with the first n parts made -/
def xs0 (n : Nat) (T : Nat → ClassId) (z a : Nat) (ad : Nat → Nat) : WD := fun k i => match k with
  | 0 => if i < 1 then some (a, .inr (4, xFs n ad)) else none
  | 5 => if 3 ≤ i ∧ i < n then some (ad i, .inl (T 0, 3, .inl fun _ => 0)) else none
  | 6 => if i < 3 ∧ i < n then some (ad i, .inr (0, [.int 0, .ref z, .int 0])) else none
  | _ => none
theorem xs0_0 {n : Nat} {T : Nat → ClassId} {z a : Nat} {ad : Nat → Nat} : xs0 n T z a ad 0 0 = some (a, .inr (4, xFs n ad)) := rfl
theorem xs0_next {n : Nat} {T : Nat → ClassId} {z a h k : Nat} {ad : Nat → Nat} {x : va_E} (hk : (k = 5 ∧ 3 ≤ n ∧ x = .inl (T 0, 3, .inl fun _ => 0)) ∨ (k = 6 ∧ n < 3 ∧ x = .inr (0, [.int 0, .ref z, .int 0]))) (hF : (xFs n ad).set n (.ref h) = xFs (n + 1) (updA ad n h)) : fU (fU (xs0 n T z a ad) k n (h, x)) 0 0 (a, .inr (4, (xFs n ad).set n (.ref h))) = xs0 (n + 1) T z a (updA ad n h) := by
  funext k' i'
  have k0 : k ≠ 0 := by rcases hk with q | q <;> omega
  by_cases q0 : k' = 0 ∧ i' = 0
  · obtain ⟨rfl, rfl⟩ := q0
    rw [fU_same, hF]
    rfl
  · rw [fU_ne q0]
    by_cases q1 : k' = k ∧ i' = n
    · obtain ⟨rfl, rfl⟩ := q1
      rw [fU_same]
      rcases hk with ⟨rfl, h3, rfl⟩ | ⟨rfl, h3, rfl⟩
      · show _ = ite _ _ _
        rw [if_pos ⟨h3, Nat.lt_succ_self _⟩, updA_s]
      · show _ = ite _ _ _
        rw [if_pos ⟨h3, Nat.lt_succ_self _⟩, updA_s]
    · rw [fU_ne q1]
      unfold xs0
      split
      · rw [if_neg (fun z => q0 ⟨rfl, by omega⟩), if_neg (fun z => q0 ⟨rfl, by omega⟩)]
      · by_cases c : 3 ≤ i' ∧ i' < n
        · rw [if_pos c, if_pos ⟨c.1, by omega⟩, updA_n (by omega)]
        · have c2 : ¬ (3 ≤ i' ∧ i' < n + 1) := fun w => by
            have e : i' = n := by omega
            rcases hk with ⟨e1, -, -⟩ | ⟨-, e1, -⟩
            · exact q1 ⟨e1.symm, e⟩
            · omega
          rw [if_neg c, if_neg c2]
      · by_cases c : i' < 3 ∧ i' < n
        · rw [if_pos c, if_pos ⟨c.1, by omega⟩, updA_n (by omega)]
        · have c2 : ¬ (i' < 3 ∧ i' < n + 1) := fun w => by
            have e : i' = n := by omega
            rcases hk with ⟨-, e1, -⟩ | ⟨e1, -, -⟩
            · omega
            · exact q1 ⟨e1.symm, e⟩
          rw [if_neg c, if_neg c2]
      · rfl
def XS0 : XS := (fun k _ f => if k = 0 ∧ f = 8 then 5 else 0, fun _ => ⟨FP.dconst0, nn_0⟩, fun _ => 0)
def XZ0 (a : Nat) (ad : Nat → Nat) : XZ := (fun k i => if k = 0 then a else ad i, fun _ => 0, fun _ => 0, fun _ => 0)
theorem xs0_end {T : Nat → ClassId} {z a : Nat} {ad : Nat → Nat} : fU (xs0 6 T z a ad) 0 0 (a, .inr (4, (xFs 6 ad).set 8 (.int 5))) = xW T z (XZ0 a ad) XS0 := by
  funext k i
  by_cases q0 : k = 0 ∧ i = 0
  · obtain ⟨rfl, rfl⟩ := q0
    rw [fU_same]
    rfl
  · rw [fU_ne q0]
    unfold xs0 xW
    split
    · rw [if_neg (fun z => q0 ⟨rfl, by omega⟩)]
      show none = ite (i < 1) _ _
      rw [if_neg (fun z => q0 ⟨rfl, by omega⟩)]
    · rfl
    · by_cases c : i < 3
      · rw [if_pos ⟨c, by omega⟩]
        show _ = ite (i < 3) _ _
        rw [if_pos c]
        rfl
      · rw [if_neg (fun z => c z.1)]
        show none = ite (i < 3) _ _
        rw [if_neg c]
    · rename_i h0 h5 h6
      split
      · exact (h0 rfl).elim
      · show none = ite (i < 0) _ _
        rw [if_neg (Nat.not_lt_zero _)]
      · show none = ite (i < 0) _ _
        rw [if_neg (Nat.not_lt_zero _)]
      · show none = ite (i < 0) _ _
        rw [if_neg (Nat.not_lt_zero _)]
      · exact (h5 rfl).elim
      · exact (h6 rfl).elim
      · show none = ite (i < 3 ∧ ¬ (0 : Nat) = 0) _ _
        rw [if_neg (fun z => z.2 rfl)]
      · rfl
def x0 (a : Nat) : WD := fun k i => if k = 0 ∧ i = 0 then some (a, .inr (4, [.null, .null, .null, .null, .null, .null, .int 0, .int 0, .int 0])) else none
theorem x0_s {T : Nat → ClassId} {z a : Nat} {ad : Nat → Nat} : x0 a = xs0 0 T z a ad := by
  funext k i
  show ite _ _ _ = _
  by_cases q : k = 0 ∧ i = 0
  · obtain ⟨rfl, rfl⟩ := q
    rw [if_pos ⟨rfl, rfl⟩]
    rfl
  · rw [if_neg q]
    unfold xs0
    split
    · rw [if_neg (fun z => q ⟨rfl, by omega⟩)]
    · rw [if_neg (by omega)]
    · rw [if_neg (by omega)]
    · rfl
set_option maxHeartbeats 4000000 in
set_option maxRecDepth 100000 in
theorem cX_init (G : GX) (a : Nat) : FC G yX3_init cX3_init 1 none { frames := 4, cells := 6, slots := 18, locals := 96 } [.ref a] (x0 a) (fun v w' => v = none ∧ ∃ ad : Nat → Nat, w' = xW G.2.2.2 G.2.1 (XZ0 a ad) XS0) := by
  refine FC.go (lv := [(0, .ref a)]) (by decide) (Nat.le_of_ble_eq_true rfl) rfl (fun p e s m args below meth c A H locs ls Q hx hb hr hts hown hml hlocks hnm hK hE hI hA hl hQ => ?_)
  have hown : s.vm.findClass RX3 = some m.cls := hown
  rw [x0_s (T := G.2.2.2) (z := G.2.1) (ad := fun _ => 0)] at hI
  refine lv_aload_n hx hb dX3_init_0 rfl (lv_at hl 0 rfl) ?_
  refine W.objInit hx hb hown (hts _ q25) (hts _ q26) (hts _ q27) rfl (by rw [hml]; exact hl.1) rfl dX3_init_1 (Nat.le_of_ble_eq_true rfl) (Nat.le_of_ble_eq_true rfl) ?_
  refine lv_aload_n hx hb dX3_init_4 rfl (lv_at hl 0 rfl) ?_
  refine fx_new (ci := 0) (k := 6) (i := 0) (fs := [.int 0, .null, .int 0]) hx hb hts hown hK hI inXL rfl tyJx4a65c tyJx4a65c_ok q28 q29 q4 (fun j hj => by match j, hj with | 0, _ => rfl | 1, _ => rfl | 2, _ => rfl | n + 3, h => exact absurd h (by omega)) (Nat.le_of_ble_eq_true rfl) (Nat.le_of_ble_eq_true rfl) rfl dX3_init_5 (fun H1 hI z1 => ?_)
  refine lv_dup hx hb dX3_init_8 rfl ?_
  refine cI0 (rest := [.ref H.size, .ref a]) hx hb hml hts hown hK hE hI (cL_init G _ 6 0 H.size fU_same) kX3_9 ⟨(Nat.le_of_ble_eq_true rfl), (Nat.le_of_ble_eq_true rfl)⟩ rfl rfl hl.1 rfl (Nat.le_of_ble_eq_true rfl) dX3_init_9 ⟨(Nat.le_of_ble_eq_true rfl), (Nat.le_of_ble_eq_true rfl)⟩ (fun H2 locs hI => ?_)
  rw [fU_fU] at hI
  refine fx_putF hx hb hts hown hK hI inX3 rfl tyX3 tyX3_ok nmX3 0 (by decide) q54 (fun _ h => h) rfl hnm rfl (k := 0) (i := 0) (by rw [fU_ne (by decide)]; exact xs0_0) rfl rfl (Nat.le_of_ble_eq_true rfl) (xs0_next (n := 0) (k := 6) (Or.inr ⟨rfl, by decide, rfl⟩) (by rfl)) dX3_init_12 (fun Hp1 locs hI => ?_)
  obtain ⟨ad1, had1⟩ : ∃ z : Nat → Nat, z = updA (fun _ => 0) 0 H.size := ⟨_, rfl⟩
  rw [← had1] at hI
  refine lv_aload_n hx hb dX3_init_15 rfl (lv_at hl 0 rfl) ?_
  refine fx_new (ci := 0) (k := 6) (i := 1) (fs := [.int 0, .null, .int 0]) hx hb hts hown hK hI inXL rfl tyJx4a65c tyJx4a65c_ok q28 q29 q4 (fun j hj => by match j, hj with | 0, _ => rfl | 1, _ => rfl | 2, _ => rfl | n + 3, h => exact absurd h (by omega)) (Nat.le_of_ble_eq_true rfl) (Nat.le_of_ble_eq_true rfl) rfl dX3_init_16 (fun H1 hI z1 => ?_)
  refine lv_dup hx hb dX3_init_19 rfl ?_
  refine cI0 (rest := [.ref Hp1.size, .ref a]) hx hb hml hts hown hK hE hI (cL_init G _ 6 1 Hp1.size fU_same) kX3_9 ⟨(Nat.le_of_ble_eq_true rfl), (Nat.le_of_ble_eq_true rfl)⟩ rfl rfl hl.1 rfl (Nat.le_of_ble_eq_true rfl) dX3_init_20 ⟨(Nat.le_of_ble_eq_true rfl), (Nat.le_of_ble_eq_true rfl)⟩ (fun H2 locs hI => ?_)
  rw [fU_fU] at hI
  refine fx_putF hx hb hts hown hK hI inX3 rfl tyX3 tyX3_ok nmX3 1 (by decide) q55 (fun _ h => h) rfl hnm rfl (k := 0) (i := 0) (by rw [fU_ne (by decide)]; exact xs0_0) rfl rfl (Nat.le_of_ble_eq_true rfl) (xs0_next (n := 1) (k := 6) (Or.inr ⟨rfl, by decide, rfl⟩) (by rfl)) dX3_init_23 (fun Hp2 locs hI => ?_)
  obtain ⟨ad2, had2⟩ : ∃ z : Nat → Nat, z = updA ad1 1 Hp1.size := ⟨_, rfl⟩
  rw [← had2] at hI
  refine lv_aload_n hx hb dX3_init_26 rfl (lv_at hl 0 rfl) ?_
  refine fx_new (ci := 0) (k := 6) (i := 2) (fs := [.int 0, .null, .int 0]) hx hb hts hown hK hI inXL rfl tyJx4a65c tyJx4a65c_ok q28 q29 q4 (fun j hj => by match j, hj with | 0, _ => rfl | 1, _ => rfl | 2, _ => rfl | n + 3, h => exact absurd h (by omega)) (Nat.le_of_ble_eq_true rfl) (Nat.le_of_ble_eq_true rfl) rfl dX3_init_27 (fun H1 hI z1 => ?_)
  refine lv_dup hx hb dX3_init_30 rfl ?_
  refine cI0 (rest := [.ref Hp2.size, .ref a]) hx hb hml hts hown hK hE hI (cL_init G _ 6 2 Hp2.size fU_same) kX3_9 ⟨(Nat.le_of_ble_eq_true rfl), (Nat.le_of_ble_eq_true rfl)⟩ rfl rfl hl.1 rfl (Nat.le_of_ble_eq_true rfl) dX3_init_31 ⟨(Nat.le_of_ble_eq_true rfl), (Nat.le_of_ble_eq_true rfl)⟩ (fun H2 locs hI => ?_)
  rw [fU_fU] at hI
  refine fx_putF hx hb hts hown hK hI inX3 rfl tyX3 tyX3_ok nmX3 2 (by decide) q56 (fun _ h => h) rfl hnm rfl (k := 0) (i := 0) (by rw [fU_ne (by decide)]; exact xs0_0) rfl rfl (Nat.le_of_ble_eq_true rfl) (xs0_next (n := 2) (k := 6) (Or.inr ⟨rfl, by decide, rfl⟩) (by rfl)) dX3_init_34 (fun Hp3 locs hI => ?_)
  obtain ⟨ad3, had3⟩ : ∃ z : Nat → Nat, z = updA ad2 2 Hp2.size := ⟨_, rfl⟩
  rw [← had3] at hI
  refine lv_aload_n hx hb dX3_init_37 rfl (lv_at hl 0 rfl) ?_
  refine lv_iconst (v := 3) hx hb dX3_init_38 (by decide) ?_
  refine fx_newa (atype := .int) (kt := 0) (a0 := (3, .inl fun _ => 0)) (w' := fun _ _ => none) (k := 5) (i := 3) hx hb hts hK hI rfl q82 (fun cA => by rw [vp_cell_i]; rfl) (by decide) (N := 3) rfl (Nat.le_of_ble_eq_true rfl) (Nat.le_of_ble_eq_true rfl) (Nat.le_of_ble_eq_true rfl) rfl (fun _ => rfl) dX3_init_39 (fun H1 hI z1 => ?_)
  refine fx_putF hx hb hts hown hK hI inX3 rfl tyX3 tyX3_ok nmX3 3 (by decide) q57 (fun _ h => h) rfl hnm rfl (k := 0) (i := 0) (by rw [fU_ne (by decide)]; exact xs0_0) rfl rfl (Nat.le_of_ble_eq_true rfl) (xs0_next (n := 3) (k := 5) (Or.inl ⟨rfl, by decide, rfl⟩) (by rfl)) dX3_init_41 (fun Hp4 locs hI => ?_)
  obtain ⟨ad4, had4⟩ : ∃ z : Nat → Nat, z = updA ad3 3 Hp3.size := ⟨_, rfl⟩
  rw [← had4] at hI
  refine lv_aload_n hx hb dX3_init_44 rfl (lv_at hl 0 rfl) ?_
  refine lv_iconst (v := 3) hx hb dX3_init_45 (by decide) ?_
  refine fx_newa (atype := .int) (kt := 0) (a0 := (3, .inl fun _ => 0)) (w' := fun _ _ => none) (k := 5) (i := 4) hx hb hts hK hI rfl q82 (fun cA => by rw [vp_cell_i]; rfl) (by decide) (N := 3) rfl (Nat.le_of_ble_eq_true rfl) (Nat.le_of_ble_eq_true rfl) (Nat.le_of_ble_eq_true rfl) rfl (fun _ => rfl) dX3_init_46 (fun H1 hI z1 => ?_)
  refine fx_putF hx hb hts hown hK hI inX3 rfl tyX3 tyX3_ok nmX3 4 (by decide) q58 (fun _ h => h) rfl hnm rfl (k := 0) (i := 0) (by rw [fU_ne (by decide)]; exact xs0_0) rfl rfl (Nat.le_of_ble_eq_true rfl) (xs0_next (n := 4) (k := 5) (Or.inl ⟨rfl, by decide, rfl⟩) (by rfl)) dX3_init_48 (fun Hp5 locs hI => ?_)
  obtain ⟨ad5, had5⟩ : ∃ z : Nat → Nat, z = updA ad4 4 Hp4.size := ⟨_, rfl⟩
  rw [← had5] at hI
  refine lv_aload_n hx hb dX3_init_51 rfl (lv_at hl 0 rfl) ?_
  refine lv_iconst (v := 3) hx hb dX3_init_52 (by decide) ?_
  refine fx_newa (atype := .int) (kt := 0) (a0 := (3, .inl fun _ => 0)) (w' := fun _ _ => none) (k := 5) (i := 5) hx hb hts hK hI rfl q82 (fun cA => by rw [vp_cell_i]; rfl) (by decide) (N := 3) rfl (Nat.le_of_ble_eq_true rfl) (Nat.le_of_ble_eq_true rfl) (Nat.le_of_ble_eq_true rfl) rfl (fun _ => rfl) dX3_init_53 (fun H1 hI z1 => ?_)
  refine fx_putF hx hb hts hown hK hI inX3 rfl tyX3 tyX3_ok nmX3 5 (by decide) q59 (fun _ h => h) rfl hnm rfl (k := 0) (i := 0) (by rw [fU_ne (by decide)]; exact xs0_0) rfl rfl (Nat.le_of_ble_eq_true rfl) (xs0_next (n := 5) (k := 5) (Or.inl ⟨rfl, by decide, rfl⟩) (by rfl)) dX3_init_55 (fun Hp6 locs hI => ?_)
  obtain ⟨ad6, had6⟩ : ∃ z : Nat → Nat, z = updA ad5 5 Hp5.size := ⟨_, rfl⟩
  rw [← had6] at hI
  refine lv_aload_n hx hb dX3_init_58 rfl (lv_at hl 0 rfl) ?_
  refine lv_iconst (v := 0) hx hb dX3_init_59 (by decide) ?_
  refine fx_put hx hb hts hown hK hI inX3 rfl tyX3 tyX3_ok nmX3 6 (by decide) q60 (fun _ h => h) rfl (k := 0) (i := 0) xs0_0 rfl rfl (Nat.le_of_ble_eq_true rfl) (fU_id xs0_0) dX3_init_60 (fun H9 locs hI => ?_)
  refine lv_aload_n hx hb dX3_init_63 rfl (lv_at hl 0 rfl) ?_
  refine lv_iconst (v := 0) hx hb dX3_init_64 (by decide) ?_
  refine fx_put hx hb hts hown hK hI inX3 rfl tyX3 tyX3_ok nmX3 7 (by decide) q61 (fun _ h => h) rfl (k := 0) (i := 0) xs0_0 rfl rfl (Nat.le_of_ble_eq_true rfl) (fU_id xs0_0) dX3_init_65 (fun H9 locs hI => ?_)
  refine lv_aload_n hx hb dX3_init_68 rfl (lv_at hl 0 rfl) ?_
  refine lv_iconst (v := 5) hx hb dX3_init_69 (by decide) ?_
  refine fx_put hx hb hts hown hK hI inX3 rfl tyX3 tyX3_ok nmX3 8 (by decide) q62 (fun _ h => h) rfl (k := 0) (i := 0) xs0_0 rfl rfl (Nat.le_of_ble_eq_true rfl) xs0_end dX3_init_70 (fun H9 locs hI => ?_)
  exact rt_v hx hb hr hlocks hI hA hQ ⟨rfl, ad6, rfl⟩ (Nat.le_of_ble_eq_true rfl) (Nat.le_of_ble_eq_true rfl) dX3_init_73
