/-! ===== the law, call by call ===== -/
theorem kLM_182 : CkV "IcehighwayLaw" 182 yX4_minutes cX4_minutes 3 (some .int) 2 := ⟨q1054, q1051, q1052, q1053, q5, by decide +kernel⟩
set_option maxHeartbeats 4000000 in
set_option maxRecDepth 100000 in
theorem law_c22 {p : Program} {e : Env} {s : State} {m : MethodId} {below : List Frame} {meth : Method} {c : Code} {b L : Nat} {xs : Nat → Int32} {Q : State → Prop} {G : GX} {A : Nat → Prop} (C0 : LCtx p s m c b L xs G A) (hL : L ≤ 2048) {t : Nat} (hi : 4 * t + 4 ≤ L) {Z : XZ} {S : XS} {M : MS} {ad : Nat → Nat} {bo bd : Nat} {f : Nat → Int64} {g : Nat → UInt64} {H : Heap} {locs : List Loc} {ls : Array Slot} {cells slots : Nat} (h : RXA Z S M t) (hI : fI G.2.2.1 A s.heap (FW G.2.2.2 G.2.1 Z S ad M bo f bd g) H locs) (hl : lv_has ls 9 [(5, .int (nI (4 * t))), (4, .ref bd), (3, .ref bo), (2, .ref (ad 0)), (1, .ref (Z.A 0 0)), (0, .ref b)]) (hcs : cells + 5 ≤ 601024 ∧ slots + 802 ≤ 7293034) (K : LK p e s m below meth c b Q G A ad bo bd (Z.A 0 0) t cells slots) : W p G.1 e room_1 s m #[Value.ref b] below meth c H locs cells slots Q (F0 m 1625 ls []) := by
  obtain ⟨hx, hb, hml, hts, hown, hK, hE, hX, hbl, hbA, hst0⟩ := C0
  have ht : t < 512 := by omega
  obtain ⟨a1, ea1⟩ : ∃ z, z = xs (nI (4 * t) + 1).toNatClampNeg := ⟨_, rfl⟩
  have hin1 : vp_in (nI (4 * t) + 1) L := sc_in (k := 1) rfl (by omega) hL
  obtain ⟨a2, ea2⟩ : ∃ z, z = xs (nI (4 * t) + 2).toNatClampNeg := ⟨_, rfl⟩
  have hin2 : vp_in (nI (4 * t) + 2) L := sc_in (k := 2) rfl (by omega) hL
  have hst := st_minutes h ht a1 a2
  refine lv_aload_n hx hb dL_law_1625 rfl (lv_at hl 4 rfl) ?_
  refine lv_aload_n hx hb dL_law_1626 rfl (lv_at hl 5 rfl) ?_
  refine lv_iload hx hb dL_law_1627 (lv_at hl 0 rfl) ?_
  refine lv_iconst (v := 1) hx hb dL_law_1629 (by decide) ?_
  refine lv_iadd hx hb dL_law_1630 ?_
  refine va_sld hx hb hX hbl hbA hI.2.2.1 hin1 dL_law_1631 ?_
  rw [← ea1]
  refine lv_aload_n hx hb dL_law_1632 rfl (lv_at hl 5 rfl) ?_
  refine lv_iload hx hb dL_law_1633 (lv_at hl 0 rfl) ?_
  refine lv_iconst (v := 2) hx hb dL_law_1635 (by decide) ?_
  refine lv_iadd hx hb dL_law_1636 ?_
  refine va_sld hx hb hX hbl hbA hI.2.2.1 hin2 dL_law_1637 ?_
  rw [← ea2]
  refine lv_aload_n hx hb dL_law_1638 rfl (lv_at hl 2 rfl) ?_
  have hI1 : fI G.2.2.1 A s.heap (jn (jn (xW G.2.2.2 G.2.1 Z S) (oW G.2.2.2 bo f)) (jn (mW G.2.2.2 ad M) (oD G.2.2.2 bd g))) H locs := by rw [FW_w]; exact hI
  refine jx_callH (rest := []) (as := [.ref (Z.A 0 0), .int a1, .int a2, .ref bo]) hx hb hml hts hown hK hE Dj_w hI1 (cL_minutesw G hst0 Z S bo f a1 a2 h.1.1) kH_minutes ⟨(Nat.le_of_ble_eq_true rfl), (Nat.le_of_ble_eq_true rfl)⟩ hl.1 (Nat.le_of_ble_eq_true rfl) dL_law_1639 ⟨by show cells + 2 ≤ 601024; omega, by show slots + 12 ≤ 7293034; omega⟩ (fun v w' H locs hp hI => ?_)
  rcases hp with ⟨x9, w9, ⟨hT, hx9, rfl⟩, rfl, rfl⟩ | ⟨E9, ⟨hT, hw9⟩, rfl, rfl⟩
  · rcases hst with ⟨sT, s29, sx, hR⟩ | ⟨E, sT, -⟩
    rotate_left
    · exact absurd (hT.symm.trans sT) (fun z => nomatch z)
    cases hx9
    rw [FW_w] at hI
    refine lv_istore (lv' := [(6, .int (0)), (5, .int (nI (4 * t))), (4, .ref bd), (3, .ref bo), (2, .ref (ad 0)), (1, .ref (Z.A 0 0)), (0, .ref b)]) hx hb dL_law_1642 hl (by decide) rfl (fun ls hl => ?_)
    refine lv_aload_n hx hb dL_law_1644 rfl (lv_at hl 4 rfl) ?_
    refine lv_aload_n hx hb dL_law_1645 rfl (lv_at hl 6 rfl) ?_
    refine lv_iload hx hb dL_law_1646 (lv_at hl 1 rfl) ?_
    refine lv_iconst (v := 1) hx hb dL_law_1648 (by decide) ?_
    refine lv_iadd hx hb dL_law_1649 ?_
    refine va_sld hx hb hX hbl hbA hI.2.2.1 hin1 dL_law_1650 ?_
    rw [← ea1]
    refine lv_aload_n hx hb dL_law_1651 rfl (lv_at hl 6 rfl) ?_
    refine lv_iload hx hb dL_law_1652 (lv_at hl 1 rfl) ?_
    refine lv_iconst (v := 2) hx hb dL_law_1654 (by decide) ?_
    refine lv_iadd hx hb dL_law_1655 ?_
    refine va_sld hx hb hX hbl hbA hI.2.2.1 hin2 dL_law_1656 ?_
    rw [← ea2]
    have hI2 := hI
    rw [← FW_m] at hI2
    refine jx_callV (rest := []) (as := [.int a1, .int a2]) hx hb hml hts hown hK hE Dj_m hI2 (cM_minutes G ad M a1 a2 h.2.1) kLM_182 ⟨(Nat.le_of_ble_eq_true rfl), (Nat.le_of_ble_eq_true rfl)⟩ (kk := 4) (ii := 0) rfl rfl rfl hl.1 (Nat.le_of_ble_eq_true rfl) dL_law_1657 ⟨by show cells + 2 + 0 ≤ 601024; omega, by show slots + 12 + 0 ≤ 7293034; omega⟩ (fun v w' H locs hp hI => ?_)
    obtain ⟨rfl, rfl⟩ := hp
    rw [FW_m] at hI
    refine lv_istore (lv' := [(7, .int (M_minutes M a1 a2).1), (6, .int (0)), (5, .int (nI (4 * t))), (4, .ref bd), (3, .ref bo), (2, .ref (ad 0)), (1, .ref (Z.A 0 0)), (0, .ref b)]) hx hb dL_law_1660 hl (by decide) rfl (fun ls hl => ?_)
    refine lv_aload_n hx hb dL_law_1662 rfl (lv_at hl 5 rfl) ?_
    have hI3 := hI
    rw [← FW_m] at hI3
    refine jx_callV (rest := []) (as := []) hx hb hml hts hown hK hE Dj_m hI3 (cM_thrown G ad (M_minutes M a1 a2).2) kLM_107 ⟨(Nat.le_of_ble_eq_true rfl), (Nat.le_of_ble_eq_true rfl)⟩ (kk := 4) (ii := 0) rfl rfl rfl hl.1 (Nat.le_of_ble_eq_true rfl) dL_law_1663 ⟨by show cells + 2 + 0 + 0 ≤ 601024; omega, by show slots + 12 + 0 + 0 ≤ 7293034; omega⟩ (fun v w' H locs hp hI => ?_)
    obtain ⟨rfl, rfl⟩ := hp
    rw [FW_m] at hI
    refine lv_iload (rest := [.int (M_thrown (M_minutes M a1 a2).2)]) hx hb dL_law_1666 (lv_at hl 1 rfl) ?_
    refine lv_icmp_eq (tgt := 1673) hx hb dL_law_1668 (by decide) (fun _ => ?_) (fun h0 => absurd s29 h0)
    refine lv_iload hx hb dL_law_1673 (lv_at hl 1 rfl) ?_
    refine lv_if_ne (tgt := 1690) hx hb dL_law_1675 (by decide) (fun h0 => absurd rfl h0) (fun _ => ?_)
    refine lv_aload_n hx hb dL_law_1678 rfl (lv_at hl 4 rfl) ?_
    refine lv_iconst (v := 0) hx hb dL_law_1679 (by decide) ?_
    refine fx_lald (k := 10) (j := 0) (n := 1) hx hb hK hI FW_10 (i := 0) (by unfold vp_in; decide) dL_law_1680 ?_
    refine lv_iload hx hb dL_law_1681 (lv_at hl 0 rfl) ?_
    refine lv_i2l hx hb dL_law_1683 rfl ?_
    refine W.lcmp hx hb dL_law_1684 ?_
    refine lv_if_eq (tgt := 1690) hx hb dL_law_1685 (by decide) (fun _ => ?_) (fun h0 => absurd (cmpI sx) h0)
    refine lv_goto (tgt := 1899) hx hb dL_law_1690 (by decide) ?_
    refine W.widen (k := cells + 5) (n := slots + 802) (by show cells + 2 + 0 + 0 ≤ cells + 5; omega) (by show slots + 12 + 0 + 0 ≤ slots + 802; omega) ?_
    exact K _ _ _ _ _ _ _ _ hR rfl hI (lv_sub hl [2, 3, 4, 5, 6, 7] rfl)
  · rcases hst with ⟨sT, -⟩ | ⟨E, sT, s29, hR⟩
    · exact absurd (hT.symm.trans sT) (fun z => nomatch z)
    have hEE : E = E9 := Option.some.inj (sT.symm.trans hT)
    subst hEE
    rw [FW_w] at hI
    refine lv_istore (lv' := [(6, .int (cdL EIOB "" E)), (5, .int (nI (4 * t))), (4, .ref bd), (3, .ref bo), (2, .ref (ad 0)), (1, .ref (Z.A 0 0)), (0, .ref b)]) hx hb dL_law_1642 hl (by decide) rfl (fun ls hl => ?_)
    refine lv_aload_n hx hb dL_law_1644 rfl (lv_at hl 4 rfl) ?_
    refine lv_aload_n hx hb dL_law_1645 rfl (lv_at hl 6 rfl) ?_
    refine lv_iload hx hb dL_law_1646 (lv_at hl 1 rfl) ?_
    refine lv_iconst (v := 1) hx hb dL_law_1648 (by decide) ?_
    refine lv_iadd hx hb dL_law_1649 ?_
    refine va_sld hx hb hX hbl hbA hI.2.2.1 hin1 dL_law_1650 ?_
    rw [← ea1]
    refine lv_aload_n hx hb dL_law_1651 rfl (lv_at hl 6 rfl) ?_
    refine lv_iload hx hb dL_law_1652 (lv_at hl 1 rfl) ?_
    refine lv_iconst (v := 2) hx hb dL_law_1654 (by decide) ?_
    refine lv_iadd hx hb dL_law_1655 ?_
    refine va_sld hx hb hX hbl hbA hI.2.2.1 hin2 dL_law_1656 ?_
    rw [← ea2]
    have hI2 := hI
    rw [← FW_m] at hI2
    refine jx_callV (rest := []) (as := [.int a1, .int a2]) hx hb hml hts hown hK hE Dj_m hI2 (cM_minutes G ad M a1 a2 h.2.1) kLM_182 ⟨(Nat.le_of_ble_eq_true rfl), (Nat.le_of_ble_eq_true rfl)⟩ (kk := 4) (ii := 0) rfl rfl rfl hl.1 (Nat.le_of_ble_eq_true rfl) dL_law_1657 ⟨by show cells + 2 + 0 ≤ 601024; omega, by show slots + 12 + 0 ≤ 7293034; omega⟩ (fun v w' H locs hp hI => ?_)
    obtain ⟨rfl, rfl⟩ := hp
    rw [FW_m] at hI
    refine lv_istore (lv' := [(7, .int (M_minutes M a1 a2).1), (6, .int (cdL EIOB "" E)), (5, .int (nI (4 * t))), (4, .ref bd), (3, .ref bo), (2, .ref (ad 0)), (1, .ref (Z.A 0 0)), (0, .ref b)]) hx hb dL_law_1660 hl (by decide) rfl (fun ls hl => ?_)
    refine lv_aload_n hx hb dL_law_1662 rfl (lv_at hl 5 rfl) ?_
    have hI3 := hI
    rw [← FW_m] at hI3
    refine jx_callV (rest := []) (as := []) hx hb hml hts hown hK hE Dj_m hI3 (cM_thrown G ad (M_minutes M a1 a2).2) kLM_107 ⟨(Nat.le_of_ble_eq_true rfl), (Nat.le_of_ble_eq_true rfl)⟩ (kk := 4) (ii := 0) rfl rfl rfl hl.1 (Nat.le_of_ble_eq_true rfl) dL_law_1663 ⟨by show cells + 2 + 0 + 0 ≤ 601024; omega, by show slots + 12 + 0 + 0 ≤ 7293034; omega⟩ (fun v w' H locs hp hI => ?_)
    obtain ⟨rfl, rfl⟩ := hp
    rw [FW_m] at hI
    refine lv_iload (rest := [.int (M_thrown (M_minutes M a1 a2).2)]) hx hb dL_law_1666 (lv_at hl 1 rfl) ?_
    refine lv_icmp_eq (tgt := 1673) hx hb dL_law_1668 (by decide) (fun _ => ?_) (fun h0 => absurd s29 h0)
    refine lv_iload hx hb dL_law_1673 (lv_at hl 1 rfl) ?_
    refine lv_if_ne (tgt := 1690) hx hb dL_law_1675 (by decide) (fun _ => ?_) (fun h0 => absurd h0 cdL_ne)
    refine lv_goto (tgt := 1899) hx hb dL_law_1690 (by decide) ?_
    refine W.widen (k := cells + 5) (n := slots + 802) (by show cells + 2 + 0 + 0 ≤ cells + 5; omega) (by show slots + 12 + 0 + 0 ≤ slots + 802; omega) ?_
    exact K _ _ _ _ _ _ _ _ hR rfl hI (lv_sub hl [2, 3, 4, 5, 6, 7] rfl)
theorem kLM_185 : CkV "IcehighwayLaw" 185 yX4_minutesAnew cX4_minutesAnew 3 (some .int) 2 := ⟨q1058, q1055, q1056, q1057, q5, by decide +kernel⟩
set_option maxHeartbeats 4000000 in
set_option maxRecDepth 100000 in
theorem law_c23 {p : Program} {e : Env} {s : State} {m : MethodId} {below : List Frame} {meth : Method} {c : Code} {b L : Nat} {xs : Nat → Int32} {Q : State → Prop} {G : GX} {A : Nat → Prop} (C0 : LCtx p s m c b L xs G A) (hL : L ≤ 2048) {t : Nat} (hi : 4 * t + 4 ≤ L) {Z : XZ} {S : XS} {M : MS} {ad : Nat → Nat} {bo bd : Nat} {f : Nat → Int64} {g : Nat → UInt64} {H : Heap} {locs : List Loc} {ls : Array Slot} {cells slots : Nat} (h : RXA Z S M t) (hI : fI G.2.2.1 A s.heap (FW G.2.2.2 G.2.1 Z S ad M bo f bd g) H locs) (hl : lv_has ls 9 [(5, .int (nI (4 * t))), (4, .ref bd), (3, .ref bo), (2, .ref (ad 0)), (1, .ref (Z.A 0 0)), (0, .ref b)]) (hcs : cells + 5 ≤ 601024 ∧ slots + 802 ≤ 7293034) (K : LK p e s m below meth c b Q G A ad bo bd (Z.A 0 0) t cells slots) : W p G.1 e room_1 s m #[Value.ref b] below meth c H locs cells slots Q (F0 m 1693 ls []) := by
  obtain ⟨hx, hb, hml, hts, hown, hK, hE, hX, hbl, hbA, hst0⟩ := C0
  have ht : t < 512 := by omega
  obtain ⟨a1, ea1⟩ : ∃ z, z = xs (nI (4 * t) + 1).toNatClampNeg := ⟨_, rfl⟩
  have hin1 : vp_in (nI (4 * t) + 1) L := sc_in (k := 1) rfl (by omega) hL
  obtain ⟨a2, ea2⟩ : ∃ z, z = xs (nI (4 * t) + 2).toNatClampNeg := ⟨_, rfl⟩
  have hin2 : vp_in (nI (4 * t) + 2) L := sc_in (k := 2) rfl (by omega) hL
  have hst := st_minutesAnew h ht a1 a2
  refine lv_aload_n hx hb dL_law_1693 rfl (lv_at hl 4 rfl) ?_
  refine lv_aload_n hx hb dL_law_1694 rfl (lv_at hl 5 rfl) ?_
  refine lv_iload hx hb dL_law_1695 (lv_at hl 0 rfl) ?_
  refine lv_iconst (v := 1) hx hb dL_law_1697 (by decide) ?_
  refine lv_iadd hx hb dL_law_1698 ?_
  refine va_sld hx hb hX hbl hbA hI.2.2.1 hin1 dL_law_1699 ?_
  rw [← ea1]
  refine lv_aload_n hx hb dL_law_1700 rfl (lv_at hl 5 rfl) ?_
  refine lv_iload hx hb dL_law_1701 (lv_at hl 0 rfl) ?_
  refine lv_iconst (v := 2) hx hb dL_law_1703 (by decide) ?_
  refine lv_iadd hx hb dL_law_1704 ?_
  refine va_sld hx hb hX hbl hbA hI.2.2.1 hin2 dL_law_1705 ?_
  rw [← ea2]
  refine lv_aload_n hx hb dL_law_1706 rfl (lv_at hl 2 rfl) ?_
  have hI1 : fI G.2.2.1 A s.heap (jn (jn (xW G.2.2.2 G.2.1 Z S) (oW G.2.2.2 bo f)) (jn (mW G.2.2.2 ad M) (oD G.2.2.2 bd g))) H locs := by rw [FW_w]; exact hI
  refine jx_callH (rest := []) (as := [.ref (Z.A 0 0), .int a1, .int a2, .ref bo]) hx hb hml hts hown hK hE Dj_w hI1 (cL_minutesAneww G hst0 Z S bo f a1 a2 h.1.1) kH_minutesAnew ⟨(Nat.le_of_ble_eq_true rfl), (Nat.le_of_ble_eq_true rfl)⟩ hl.1 (Nat.le_of_ble_eq_true rfl) dL_law_1707 ⟨by show cells + 2 ≤ 601024; omega, by show slots + 12 ≤ 7293034; omega⟩ (fun v w' H locs hp hI => ?_)
  rcases hp with ⟨x9, w9, ⟨hT, hx9, rfl⟩, rfl, rfl⟩ | ⟨E9, ⟨hT, hw9⟩, rfl, rfl⟩
  · rcases hst with ⟨sT, s29, sx, hR⟩ | ⟨E, sT, -⟩
    rotate_left
    · exact absurd (hT.symm.trans sT) (fun z => nomatch z)
    cases hx9
    rw [FW_w] at hI
    refine lv_istore (lv' := [(6, .int (0)), (5, .int (nI (4 * t))), (4, .ref bd), (3, .ref bo), (2, .ref (ad 0)), (1, .ref (Z.A 0 0)), (0, .ref b)]) hx hb dL_law_1710 hl (by decide) rfl (fun ls hl => ?_)
    refine lv_aload_n hx hb dL_law_1712 rfl (lv_at hl 4 rfl) ?_
    refine lv_aload_n hx hb dL_law_1713 rfl (lv_at hl 6 rfl) ?_
    refine lv_iload hx hb dL_law_1714 (lv_at hl 1 rfl) ?_
    refine lv_iconst (v := 1) hx hb dL_law_1716 (by decide) ?_
    refine lv_iadd hx hb dL_law_1717 ?_
    refine va_sld hx hb hX hbl hbA hI.2.2.1 hin1 dL_law_1718 ?_
    rw [← ea1]
    refine lv_aload_n hx hb dL_law_1719 rfl (lv_at hl 6 rfl) ?_
    refine lv_iload hx hb dL_law_1720 (lv_at hl 1 rfl) ?_
    refine lv_iconst (v := 2) hx hb dL_law_1722 (by decide) ?_
    refine lv_iadd hx hb dL_law_1723 ?_
    refine va_sld hx hb hX hbl hbA hI.2.2.1 hin2 dL_law_1724 ?_
    rw [← ea2]
    have hI2 := hI
    rw [← FW_m] at hI2
    refine jx_callV (rest := []) (as := [.int a1, .int a2]) hx hb hml hts hown hK hE Dj_m hI2 (cM_minutesAnew G ad M a1 a2 h.2.1) kLM_185 ⟨(Nat.le_of_ble_eq_true rfl), (Nat.le_of_ble_eq_true rfl)⟩ (kk := 4) (ii := 0) rfl rfl rfl hl.1 (Nat.le_of_ble_eq_true rfl) dL_law_1725 ⟨by show cells + 2 + 0 ≤ 601024; omega, by show slots + 12 + 0 ≤ 7293034; omega⟩ (fun v w' H locs hp hI => ?_)
    obtain ⟨rfl, rfl⟩ := hp
    rw [FW_m] at hI
    refine lv_istore (lv' := [(7, .int (M_minutesAnew M a1 a2).1), (6, .int (0)), (5, .int (nI (4 * t))), (4, .ref bd), (3, .ref bo), (2, .ref (ad 0)), (1, .ref (Z.A 0 0)), (0, .ref b)]) hx hb dL_law_1728 hl (by decide) rfl (fun ls hl => ?_)
    refine lv_aload_n hx hb dL_law_1730 rfl (lv_at hl 5 rfl) ?_
    have hI3 := hI
    rw [← FW_m] at hI3
    refine jx_callV (rest := []) (as := []) hx hb hml hts hown hK hE Dj_m hI3 (cM_thrown G ad (M_minutesAnew M a1 a2).2) kLM_107 ⟨(Nat.le_of_ble_eq_true rfl), (Nat.le_of_ble_eq_true rfl)⟩ (kk := 4) (ii := 0) rfl rfl rfl hl.1 (Nat.le_of_ble_eq_true rfl) dL_law_1731 ⟨by show cells + 2 + 0 + 0 ≤ 601024; omega, by show slots + 12 + 0 + 0 ≤ 7293034; omega⟩ (fun v w' H locs hp hI => ?_)
    obtain ⟨rfl, rfl⟩ := hp
    rw [FW_m] at hI
    refine lv_iload (rest := [.int (M_thrown (M_minutesAnew M a1 a2).2)]) hx hb dL_law_1734 (lv_at hl 1 rfl) ?_
    refine lv_icmp_eq (tgt := 1741) hx hb dL_law_1736 (by decide) (fun _ => ?_) (fun h0 => absurd s29 h0)
    refine lv_iload hx hb dL_law_1741 (lv_at hl 1 rfl) ?_
    refine lv_if_ne (tgt := 1758) hx hb dL_law_1743 (by decide) (fun h0 => absurd rfl h0) (fun _ => ?_)
    refine lv_aload_n hx hb dL_law_1746 rfl (lv_at hl 4 rfl) ?_
    refine lv_iconst (v := 0) hx hb dL_law_1747 (by decide) ?_
    refine fx_lald (k := 10) (j := 0) (n := 1) hx hb hK hI FW_10 (i := 0) (by unfold vp_in; decide) dL_law_1748 ?_
    refine lv_iload hx hb dL_law_1749 (lv_at hl 0 rfl) ?_
    refine lv_i2l hx hb dL_law_1751 rfl ?_
    refine W.lcmp hx hb dL_law_1752 ?_
    refine lv_if_eq (tgt := 1758) hx hb dL_law_1753 (by decide) (fun _ => ?_) (fun h0 => absurd (cmpI sx) h0)
    refine lv_goto (tgt := 1899) hx hb dL_law_1758 (by decide) ?_
    refine W.widen (k := cells + 5) (n := slots + 802) (by show cells + 2 + 0 + 0 ≤ cells + 5; omega) (by show slots + 12 + 0 + 0 ≤ slots + 802; omega) ?_
    exact K _ _ _ _ _ _ _ _ hR rfl hI (lv_sub hl [2, 3, 4, 5, 6, 7] rfl)
  · rcases hst with ⟨sT, -⟩ | ⟨E, sT, s29, hR⟩
    · exact absurd (hT.symm.trans sT) (fun z => nomatch z)
    have hEE : E = E9 := Option.some.inj (sT.symm.trans hT)
    subst hEE
    rw [FW_w] at hI
    refine lv_istore (lv' := [(6, .int (cdL EIOB "" E)), (5, .int (nI (4 * t))), (4, .ref bd), (3, .ref bo), (2, .ref (ad 0)), (1, .ref (Z.A 0 0)), (0, .ref b)]) hx hb dL_law_1710 hl (by decide) rfl (fun ls hl => ?_)
    refine lv_aload_n hx hb dL_law_1712 rfl (lv_at hl 4 rfl) ?_
    refine lv_aload_n hx hb dL_law_1713 rfl (lv_at hl 6 rfl) ?_
    refine lv_iload hx hb dL_law_1714 (lv_at hl 1 rfl) ?_
    refine lv_iconst (v := 1) hx hb dL_law_1716 (by decide) ?_
    refine lv_iadd hx hb dL_law_1717 ?_
    refine va_sld hx hb hX hbl hbA hI.2.2.1 hin1 dL_law_1718 ?_
    rw [← ea1]
    refine lv_aload_n hx hb dL_law_1719 rfl (lv_at hl 6 rfl) ?_
    refine lv_iload hx hb dL_law_1720 (lv_at hl 1 rfl) ?_
    refine lv_iconst (v := 2) hx hb dL_law_1722 (by decide) ?_
    refine lv_iadd hx hb dL_law_1723 ?_
    refine va_sld hx hb hX hbl hbA hI.2.2.1 hin2 dL_law_1724 ?_
    rw [← ea2]
    have hI2 := hI
    rw [← FW_m] at hI2
    refine jx_callV (rest := []) (as := [.int a1, .int a2]) hx hb hml hts hown hK hE Dj_m hI2 (cM_minutesAnew G ad M a1 a2 h.2.1) kLM_185 ⟨(Nat.le_of_ble_eq_true rfl), (Nat.le_of_ble_eq_true rfl)⟩ (kk := 4) (ii := 0) rfl rfl rfl hl.1 (Nat.le_of_ble_eq_true rfl) dL_law_1725 ⟨by show cells + 2 + 0 ≤ 601024; omega, by show slots + 12 + 0 ≤ 7293034; omega⟩ (fun v w' H locs hp hI => ?_)
    obtain ⟨rfl, rfl⟩ := hp
    rw [FW_m] at hI
    refine lv_istore (lv' := [(7, .int (M_minutesAnew M a1 a2).1), (6, .int (cdL EIOB "" E)), (5, .int (nI (4 * t))), (4, .ref bd), (3, .ref bo), (2, .ref (ad 0)), (1, .ref (Z.A 0 0)), (0, .ref b)]) hx hb dL_law_1728 hl (by decide) rfl (fun ls hl => ?_)
    refine lv_aload_n hx hb dL_law_1730 rfl (lv_at hl 5 rfl) ?_
    have hI3 := hI
    rw [← FW_m] at hI3
    refine jx_callV (rest := []) (as := []) hx hb hml hts hown hK hE Dj_m hI3 (cM_thrown G ad (M_minutesAnew M a1 a2).2) kLM_107 ⟨(Nat.le_of_ble_eq_true rfl), (Nat.le_of_ble_eq_true rfl)⟩ (kk := 4) (ii := 0) rfl rfl rfl hl.1 (Nat.le_of_ble_eq_true rfl) dL_law_1731 ⟨by show cells + 2 + 0 + 0 ≤ 601024; omega, by show slots + 12 + 0 + 0 ≤ 7293034; omega⟩ (fun v w' H locs hp hI => ?_)
    obtain ⟨rfl, rfl⟩ := hp
    rw [FW_m] at hI
    refine lv_iload (rest := [.int (M_thrown (M_minutesAnew M a1 a2).2)]) hx hb dL_law_1734 (lv_at hl 1 rfl) ?_
    refine lv_icmp_eq (tgt := 1741) hx hb dL_law_1736 (by decide) (fun _ => ?_) (fun h0 => absurd s29 h0)
    refine lv_iload hx hb dL_law_1741 (lv_at hl 1 rfl) ?_
    refine lv_if_ne (tgt := 1758) hx hb dL_law_1743 (by decide) (fun _ => ?_) (fun h0 => absurd h0 cdL_ne)
    refine lv_goto (tgt := 1899) hx hb dL_law_1758 (by decide) ?_
    refine W.widen (k := cells + 5) (n := slots + 802) (by show cells + 2 + 0 + 0 ≤ cells + 5; omega) (by show slots + 12 + 0 + 0 ≤ slots + 802; omega) ?_
    exact K _ _ _ _ _ _ _ _ hR rfl hI (lv_sub hl [2, 3, 4, 5, 6, 7] rfl)
theorem kLM_188 : CkV "IcehighwayLaw" 188 yX4_kilos cX4_kilos 3 (some .int) 2 := ⟨q1063, q1060, q1061, q1062, q5, by decide +kernel⟩
set_option maxHeartbeats 4000000 in
set_option maxRecDepth 100000 in
theorem law_c24 {p : Program} {e : Env} {s : State} {m : MethodId} {below : List Frame} {meth : Method} {c : Code} {b L : Nat} {xs : Nat → Int32} {Q : State → Prop} {G : GX} {A : Nat → Prop} (C0 : LCtx p s m c b L xs G A) (hL : L ≤ 2048) {t : Nat} (hi : 4 * t + 4 ≤ L) {Z : XZ} {S : XS} {M : MS} {ad : Nat → Nat} {bo bd : Nat} {f : Nat → Int64} {g : Nat → UInt64} {H : Heap} {locs : List Loc} {ls : Array Slot} {cells slots : Nat} (h : RXA Z S M t) (hI : fI G.2.2.1 A s.heap (FW G.2.2.2 G.2.1 Z S ad M bo f bd g) H locs) (hl : lv_has ls 9 [(5, .int (nI (4 * t))), (4, .ref bd), (3, .ref bo), (2, .ref (ad 0)), (1, .ref (Z.A 0 0)), (0, .ref b)]) (hcs : cells + 5 ≤ 601024 ∧ slots + 802 ≤ 7293034) (K : LK p e s m below meth c b Q G A ad bo bd (Z.A 0 0) t cells slots) : W p G.1 e room_1 s m #[Value.ref b] below meth c H locs cells slots Q (F0 m 1761 ls []) := by
  obtain ⟨hx, hb, hml, hts, hown, hK, hE, hX, hbl, hbA, hst0⟩ := C0
  have ht : t < 512 := by omega
  obtain ⟨a1, ea1⟩ : ∃ z, z = xs (nI (4 * t) + 1).toNatClampNeg := ⟨_, rfl⟩
  have hin1 : vp_in (nI (4 * t) + 1) L := sc_in (k := 1) rfl (by omega) hL
  obtain ⟨a2, ea2⟩ : ∃ z, z = xs (nI (4 * t) + 2).toNatClampNeg := ⟨_, rfl⟩
  have hin2 : vp_in (nI (4 * t) + 2) L := sc_in (k := 2) rfl (by omega) hL
  have hst := st_kilos h ht a1 a2
  refine lv_aload_n hx hb dL_law_1761 rfl (lv_at hl 4 rfl) ?_
  refine lv_aload_n hx hb dL_law_1762 rfl (lv_at hl 5 rfl) ?_
  refine lv_iload hx hb dL_law_1763 (lv_at hl 0 rfl) ?_
  refine lv_iconst (v := 1) hx hb dL_law_1765 (by decide) ?_
  refine lv_iadd hx hb dL_law_1766 ?_
  refine va_sld hx hb hX hbl hbA hI.2.2.1 hin1 dL_law_1767 ?_
  rw [← ea1]
  refine lv_aload_n hx hb dL_law_1768 rfl (lv_at hl 5 rfl) ?_
  refine lv_iload hx hb dL_law_1769 (lv_at hl 0 rfl) ?_
  refine lv_iconst (v := 2) hx hb dL_law_1771 (by decide) ?_
  refine lv_iadd hx hb dL_law_1772 ?_
  refine va_sld hx hb hX hbl hbA hI.2.2.1 hin2 dL_law_1773 ?_
  rw [← ea2]
  refine lv_aload_n hx hb dL_law_1774 rfl (lv_at hl 2 rfl) ?_
  have hI1 : fI G.2.2.1 A s.heap (jn (jn (xW G.2.2.2 G.2.1 Z S) (oW G.2.2.2 bo f)) (jn (mW G.2.2.2 ad M) (oD G.2.2.2 bd g))) H locs := by rw [FW_w]; exact hI
  refine jx_callH (rest := []) (as := [.ref (Z.A 0 0), .int a1, .int a2, .ref bo]) hx hb hml hts hown hK hE Dj_w hI1 (cL_kilosw G hst0 Z S bo f a1 a2 h.1.1 h.1.2.1) kH_kilos ⟨(Nat.le_of_ble_eq_true rfl), (Nat.le_of_ble_eq_true rfl)⟩ hl.1 (Nat.le_of_ble_eq_true rfl) dL_law_1775 ⟨by show cells + 2 ≤ 601024; omega, by show slots + 12 ≤ 7293034; omega⟩ (fun v w' H locs hp hI => ?_)
  rcases hp with ⟨x9, w9, ⟨hT, hx9, rfl⟩, rfl, rfl⟩ | ⟨E9, ⟨hT, hw9⟩, rfl, rfl⟩
  · rcases hst with ⟨sT, s29, sx, hR⟩ | ⟨E, sT, -⟩
    rotate_left
    · exact absurd (hT.symm.trans sT) (fun z => nomatch z)
    cases hx9
    rw [FW_w] at hI
    refine lv_istore (lv' := [(6, .int (0)), (5, .int (nI (4 * t))), (4, .ref bd), (3, .ref bo), (2, .ref (ad 0)), (1, .ref (Z.A 0 0)), (0, .ref b)]) hx hb dL_law_1778 hl (by decide) rfl (fun ls hl => ?_)
    refine lv_aload_n hx hb dL_law_1780 rfl (lv_at hl 4 rfl) ?_
    refine lv_aload_n hx hb dL_law_1781 rfl (lv_at hl 6 rfl) ?_
    refine lv_iload hx hb dL_law_1782 (lv_at hl 1 rfl) ?_
    refine lv_iconst (v := 1) hx hb dL_law_1784 (by decide) ?_
    refine lv_iadd hx hb dL_law_1785 ?_
    refine va_sld hx hb hX hbl hbA hI.2.2.1 hin1 dL_law_1786 ?_
    rw [← ea1]
    refine lv_aload_n hx hb dL_law_1787 rfl (lv_at hl 6 rfl) ?_
    refine lv_iload hx hb dL_law_1788 (lv_at hl 1 rfl) ?_
    refine lv_iconst (v := 2) hx hb dL_law_1790 (by decide) ?_
    refine lv_iadd hx hb dL_law_1791 ?_
    refine va_sld hx hb hX hbl hbA hI.2.2.1 hin2 dL_law_1792 ?_
    rw [← ea2]
    have hI2 := hI
    rw [← FW_m] at hI2
    refine jx_callV (rest := []) (as := [.int a1, .int a2]) hx hb hml hts hown hK hE Dj_m hI2 (cM_kilos G ad M a1 a2 h.2.1.1) kLM_188 ⟨(Nat.le_of_ble_eq_true rfl), (Nat.le_of_ble_eq_true rfl)⟩ (kk := 4) (ii := 0) rfl rfl rfl hl.1 (Nat.le_of_ble_eq_true rfl) dL_law_1793 ⟨by show cells + 2 + 0 ≤ 601024; omega, by show slots + 12 + 0 ≤ 7293034; omega⟩ (fun v w' H locs hp hI => ?_)
    obtain ⟨rfl, rfl⟩ := hp
    rw [FW_m] at hI
    refine lv_istore (lv' := [(7, .int (M_kilos M a1 a2).1), (6, .int (0)), (5, .int (nI (4 * t))), (4, .ref bd), (3, .ref bo), (2, .ref (ad 0)), (1, .ref (Z.A 0 0)), (0, .ref b)]) hx hb dL_law_1796 hl (by decide) rfl (fun ls hl => ?_)
    refine lv_aload_n hx hb dL_law_1798 rfl (lv_at hl 5 rfl) ?_
    have hI3 := hI
    rw [← FW_m] at hI3
    refine jx_callV (rest := []) (as := []) hx hb hml hts hown hK hE Dj_m hI3 (cM_thrown G ad (M_kilos M a1 a2).2) kLM_107 ⟨(Nat.le_of_ble_eq_true rfl), (Nat.le_of_ble_eq_true rfl)⟩ (kk := 4) (ii := 0) rfl rfl rfl hl.1 (Nat.le_of_ble_eq_true rfl) dL_law_1799 ⟨by show cells + 2 + 0 + 0 ≤ 601024; omega, by show slots + 12 + 0 + 0 ≤ 7293034; omega⟩ (fun v w' H locs hp hI => ?_)
    obtain ⟨rfl, rfl⟩ := hp
    rw [FW_m] at hI
    refine lv_iload (rest := [.int (M_thrown (M_kilos M a1 a2).2)]) hx hb dL_law_1802 (lv_at hl 1 rfl) ?_
    refine lv_icmp_eq (tgt := 1809) hx hb dL_law_1804 (by decide) (fun _ => ?_) (fun h0 => absurd s29 h0)
    refine lv_iload hx hb dL_law_1809 (lv_at hl 1 rfl) ?_
    refine lv_if_ne (tgt := 1826) hx hb dL_law_1811 (by decide) (fun h0 => absurd rfl h0) (fun _ => ?_)
    refine lv_aload_n hx hb dL_law_1814 rfl (lv_at hl 4 rfl) ?_
    refine lv_iconst (v := 0) hx hb dL_law_1815 (by decide) ?_
    refine fx_lald (k := 10) (j := 0) (n := 1) hx hb hK hI FW_10 (i := 0) (by unfold vp_in; decide) dL_law_1816 ?_
    refine lv_iload hx hb dL_law_1817 (lv_at hl 0 rfl) ?_
    refine lv_i2l hx hb dL_law_1819 rfl ?_
    refine W.lcmp hx hb dL_law_1820 ?_
    refine lv_if_eq (tgt := 1826) hx hb dL_law_1821 (by decide) (fun _ => ?_) (fun h0 => absurd (cmpI sx) h0)
    refine lv_goto (tgt := 1899) hx hb dL_law_1826 (by decide) ?_
    refine W.widen (k := cells + 5) (n := slots + 802) (by show cells + 2 + 0 + 0 ≤ cells + 5; omega) (by show slots + 12 + 0 + 0 ≤ slots + 802; omega) ?_
    exact K _ _ _ _ _ _ _ _ hR rfl hI (lv_sub hl [2, 3, 4, 5, 6, 7] rfl)
  · rcases hst with ⟨sT, -⟩ | ⟨E, sT, s29, hR⟩
    · exact absurd (hT.symm.trans sT) (fun z => nomatch z)
    have hEE : E = E9 := Option.some.inj (sT.symm.trans hT)
    subst hEE
    rw [FW_w] at hI
    refine lv_istore (lv' := [(6, .int (cdL EIOB EIAE E)), (5, .int (nI (4 * t))), (4, .ref bd), (3, .ref bo), (2, .ref (ad 0)), (1, .ref (Z.A 0 0)), (0, .ref b)]) hx hb dL_law_1778 hl (by decide) rfl (fun ls hl => ?_)
    refine lv_aload_n hx hb dL_law_1780 rfl (lv_at hl 4 rfl) ?_
    refine lv_aload_n hx hb dL_law_1781 rfl (lv_at hl 6 rfl) ?_
    refine lv_iload hx hb dL_law_1782 (lv_at hl 1 rfl) ?_
    refine lv_iconst (v := 1) hx hb dL_law_1784 (by decide) ?_
    refine lv_iadd hx hb dL_law_1785 ?_
    refine va_sld hx hb hX hbl hbA hI.2.2.1 hin1 dL_law_1786 ?_
    rw [← ea1]
    refine lv_aload_n hx hb dL_law_1787 rfl (lv_at hl 6 rfl) ?_
    refine lv_iload hx hb dL_law_1788 (lv_at hl 1 rfl) ?_
    refine lv_iconst (v := 2) hx hb dL_law_1790 (by decide) ?_
    refine lv_iadd hx hb dL_law_1791 ?_
    refine va_sld hx hb hX hbl hbA hI.2.2.1 hin2 dL_law_1792 ?_
    rw [← ea2]
    have hI2 := hI
    rw [← FW_m] at hI2
    refine jx_callV (rest := []) (as := [.int a1, .int a2]) hx hb hml hts hown hK hE Dj_m hI2 (cM_kilos G ad M a1 a2 h.2.1.1) kLM_188 ⟨(Nat.le_of_ble_eq_true rfl), (Nat.le_of_ble_eq_true rfl)⟩ (kk := 4) (ii := 0) rfl rfl rfl hl.1 (Nat.le_of_ble_eq_true rfl) dL_law_1793 ⟨by show cells + 2 + 0 ≤ 601024; omega, by show slots + 12 + 0 ≤ 7293034; omega⟩ (fun v w' H locs hp hI => ?_)
    obtain ⟨rfl, rfl⟩ := hp
    rw [FW_m] at hI
    refine lv_istore (lv' := [(7, .int (M_kilos M a1 a2).1), (6, .int (cdL EIOB EIAE E)), (5, .int (nI (4 * t))), (4, .ref bd), (3, .ref bo), (2, .ref (ad 0)), (1, .ref (Z.A 0 0)), (0, .ref b)]) hx hb dL_law_1796 hl (by decide) rfl (fun ls hl => ?_)
    refine lv_aload_n hx hb dL_law_1798 rfl (lv_at hl 5 rfl) ?_
    have hI3 := hI
    rw [← FW_m] at hI3
    refine jx_callV (rest := []) (as := []) hx hb hml hts hown hK hE Dj_m hI3 (cM_thrown G ad (M_kilos M a1 a2).2) kLM_107 ⟨(Nat.le_of_ble_eq_true rfl), (Nat.le_of_ble_eq_true rfl)⟩ (kk := 4) (ii := 0) rfl rfl rfl hl.1 (Nat.le_of_ble_eq_true rfl) dL_law_1799 ⟨by show cells + 2 + 0 + 0 ≤ 601024; omega, by show slots + 12 + 0 + 0 ≤ 7293034; omega⟩ (fun v w' H locs hp hI => ?_)
    obtain ⟨rfl, rfl⟩ := hp
    rw [FW_m] at hI
    refine lv_iload (rest := [.int (M_thrown (M_kilos M a1 a2).2)]) hx hb dL_law_1802 (lv_at hl 1 rfl) ?_
    refine lv_icmp_eq (tgt := 1809) hx hb dL_law_1804 (by decide) (fun _ => ?_) (fun h0 => absurd s29 h0)
    refine lv_iload hx hb dL_law_1809 (lv_at hl 1 rfl) ?_
    refine lv_if_ne (tgt := 1826) hx hb dL_law_1811 (by decide) (fun _ => ?_) (fun h0 => absurd h0 cdL_ne)
    refine lv_goto (tgt := 1899) hx hb dL_law_1826 (by decide) ?_
    refine W.widen (k := cells + 5) (n := slots + 802) (by show cells + 2 + 0 + 0 ≤ cells + 5; omega) (by show slots + 12 + 0 + 0 ≤ slots + 802; omega) ?_
    exact K _ _ _ _ _ _ _ _ hR rfl hI (lv_sub hl [2, 3, 4, 5, 6, 7] rfl)
theorem kLM_191 : CkV "IcehighwayLaw" 191 yX4_kilosAnew cX4_kilosAnew 2 (some .int) 1 := ⟨q1075, q1072, q1073, q1074, q5, by decide +kernel⟩
set_option maxHeartbeats 4000000 in
set_option maxRecDepth 100000 in
theorem law_c25 {p : Program} {e : Env} {s : State} {m : MethodId} {below : List Frame} {meth : Method} {c : Code} {b L : Nat} {xs : Nat → Int32} {Q : State → Prop} {G : GX} {A : Nat → Prop} (C0 : LCtx p s m c b L xs G A) (hL : L ≤ 2048) {t : Nat} (hi : 4 * t + 4 ≤ L) {Z : XZ} {S : XS} {M : MS} {ad : Nat → Nat} {bo bd : Nat} {f : Nat → Int64} {g : Nat → UInt64} {H : Heap} {locs : List Loc} {ls : Array Slot} {cells slots : Nat} (h : RXA Z S M t) (hI : fI G.2.2.1 A s.heap (FW G.2.2.2 G.2.1 Z S ad M bo f bd g) H locs) (hl : lv_has ls 9 [(5, .int (nI (4 * t))), (4, .ref bd), (3, .ref bo), (2, .ref (ad 0)), (1, .ref (Z.A 0 0)), (0, .ref b)]) (hcs : cells + 5 ≤ 601024 ∧ slots + 802 ≤ 7293034) (K : LK p e s m below meth c b Q G A ad bo bd (Z.A 0 0) t cells slots) : W p G.1 e room_1 s m #[Value.ref b] below meth c H locs cells slots Q (F0 m 1829 ls []) := by
  obtain ⟨hx, hb, hml, hts, hown, hK, hE, hX, hbl, hbA, hst0⟩ := C0
  have ht : t < 512 := by omega
  obtain ⟨a1, ea1⟩ : ∃ z, z = xs (nI (4 * t) + 1).toNatClampNeg := ⟨_, rfl⟩
  have hin1 : vp_in (nI (4 * t) + 1) L := sc_in (k := 1) rfl (by omega) hL
  have hst := st_kilosAnew h ht a1
  refine lv_aload_n hx hb dL_law_1829 rfl (lv_at hl 4 rfl) ?_
  refine lv_aload_n hx hb dL_law_1830 rfl (lv_at hl 5 rfl) ?_
  refine lv_iload hx hb dL_law_1831 (lv_at hl 0 rfl) ?_
  refine lv_iconst (v := 1) hx hb dL_law_1833 (by decide) ?_
  refine lv_iadd hx hb dL_law_1834 ?_
  refine va_sld hx hb hX hbl hbA hI.2.2.1 hin1 dL_law_1835 ?_
  rw [← ea1]
  refine lv_aload_n hx hb dL_law_1836 rfl (lv_at hl 2 rfl) ?_
  have hI1 : fI G.2.2.1 A s.heap (jn (jn (xW G.2.2.2 G.2.1 Z S) (oW G.2.2.2 bo f)) (jn (mW G.2.2.2 ad M) (oD G.2.2.2 bd g))) H locs := by rw [FW_w]; exact hI
  refine jx_callH (rest := []) (as := [.ref (Z.A 0 0), .int a1, .ref bo]) hx hb hml hts hown hK hE Dj_w hI1 (cL_kilosAneww G hst0 Z S bo f a1 h.1.1) kH_kilosAnew ⟨(Nat.le_of_ble_eq_true rfl), (Nat.le_of_ble_eq_true rfl)⟩ hl.1 (Nat.le_of_ble_eq_true rfl) dL_law_1837 ⟨by show cells + 1 ≤ 601024; omega, by show slots + 6 ≤ 7293034; omega⟩ (fun v w' H locs hp hI => ?_)
  rcases hp with ⟨x9, w9, ⟨hT, hx9, rfl⟩, rfl, rfl⟩ | ⟨E9, ⟨hT, hw9⟩, rfl, rfl⟩
  · rcases hst with ⟨sT, s29, sx, hR⟩ | ⟨E, sT, -⟩
    rotate_left
    · exact absurd (hT.symm.trans sT) (fun z => nomatch z)
    cases hx9
    rw [FW_w] at hI
    refine lv_istore (lv' := [(6, .int (0)), (5, .int (nI (4 * t))), (4, .ref bd), (3, .ref bo), (2, .ref (ad 0)), (1, .ref (Z.A 0 0)), (0, .ref b)]) hx hb dL_law_1840 hl (by decide) rfl (fun ls hl => ?_)
    refine lv_aload_n hx hb dL_law_1842 rfl (lv_at hl 4 rfl) ?_
    refine lv_aload_n hx hb dL_law_1843 rfl (lv_at hl 6 rfl) ?_
    refine lv_iload hx hb dL_law_1844 (lv_at hl 1 rfl) ?_
    refine lv_iconst (v := 1) hx hb dL_law_1846 (by decide) ?_
    refine lv_iadd hx hb dL_law_1847 ?_
    refine va_sld hx hb hX hbl hbA hI.2.2.1 hin1 dL_law_1848 ?_
    rw [← ea1]
    have hI2 := hI
    rw [← FW_m] at hI2
    refine jx_callV (rest := []) (as := [.int a1]) hx hb hml hts hown hK hE Dj_m hI2 (cM_kilosAnew G ad M a1 h.2.1.1) kLM_191 ⟨(Nat.le_of_ble_eq_true rfl), (Nat.le_of_ble_eq_true rfl)⟩ (kk := 4) (ii := 0) rfl rfl rfl hl.1 (Nat.le_of_ble_eq_true rfl) dL_law_1849 ⟨by show cells + 1 + 0 ≤ 601024; omega, by show slots + 6 + 0 ≤ 7293034; omega⟩ (fun v w' H locs hp hI => ?_)
    obtain ⟨rfl, rfl⟩ := hp
    rw [FW_m] at hI
    refine lv_istore (lv' := [(7, .int (M_kilosAnew M a1).1), (6, .int (0)), (5, .int (nI (4 * t))), (4, .ref bd), (3, .ref bo), (2, .ref (ad 0)), (1, .ref (Z.A 0 0)), (0, .ref b)]) hx hb dL_law_1852 hl (by decide) rfl (fun ls hl => ?_)
    refine lv_aload_n hx hb dL_law_1854 rfl (lv_at hl 5 rfl) ?_
    have hI3 := hI
    rw [← FW_m] at hI3
    refine jx_callV (rest := []) (as := []) hx hb hml hts hown hK hE Dj_m hI3 (cM_thrown G ad (M_kilosAnew M a1).2) kLM_107 ⟨(Nat.le_of_ble_eq_true rfl), (Nat.le_of_ble_eq_true rfl)⟩ (kk := 4) (ii := 0) rfl rfl rfl hl.1 (Nat.le_of_ble_eq_true rfl) dL_law_1855 ⟨by show cells + 1 + 0 + 0 ≤ 601024; omega, by show slots + 6 + 0 + 0 ≤ 7293034; omega⟩ (fun v w' H locs hp hI => ?_)
    obtain ⟨rfl, rfl⟩ := hp
    rw [FW_m] at hI
    refine lv_iload (rest := [.int (M_thrown (M_kilosAnew M a1).2)]) hx hb dL_law_1858 (lv_at hl 1 rfl) ?_
    refine lv_icmp_eq (tgt := 1865) hx hb dL_law_1860 (by decide) (fun _ => ?_) (fun h0 => absurd s29 h0)
    refine lv_iload hx hb dL_law_1865 (lv_at hl 1 rfl) ?_
    refine lv_if_ne (tgt := 1882) hx hb dL_law_1867 (by decide) (fun h0 => absurd rfl h0) (fun _ => ?_)
    refine lv_aload_n hx hb dL_law_1870 rfl (lv_at hl 4 rfl) ?_
    refine lv_iconst (v := 0) hx hb dL_law_1871 (by decide) ?_
    refine fx_lald (k := 10) (j := 0) (n := 1) hx hb hK hI FW_10 (i := 0) (by unfold vp_in; decide) dL_law_1872 ?_
    refine lv_iload hx hb dL_law_1873 (lv_at hl 0 rfl) ?_
    refine lv_i2l hx hb dL_law_1875 rfl ?_
    refine W.lcmp hx hb dL_law_1876 ?_
    refine lv_if_eq (tgt := 1882) hx hb dL_law_1877 (by decide) (fun _ => ?_) (fun h0 => absurd (cmpI sx) h0)
    refine lv_goto (tgt := 1899) hx hb dL_law_1882 (by decide) ?_
    refine W.widen (k := cells + 5) (n := slots + 802) (by show cells + 1 + 0 + 0 ≤ cells + 5; omega) (by show slots + 6 + 0 + 0 ≤ slots + 802; omega) ?_
    exact K _ _ _ _ _ _ _ _ hR rfl hI (lv_sub hl [2, 3, 4, 5, 6, 7] rfl)
  · rcases hst with ⟨sT, -⟩ | ⟨E, sT, s29, hR⟩
    · exact absurd (hT.symm.trans sT) (fun z => nomatch z)
    have hEE : E = E9 := Option.some.inj (sT.symm.trans hT)
    subst hEE
    rw [FW_w] at hI
    refine lv_istore (lv' := [(6, .int (cdL EIOB "" E)), (5, .int (nI (4 * t))), (4, .ref bd), (3, .ref bo), (2, .ref (ad 0)), (1, .ref (Z.A 0 0)), (0, .ref b)]) hx hb dL_law_1840 hl (by decide) rfl (fun ls hl => ?_)
    refine lv_aload_n hx hb dL_law_1842 rfl (lv_at hl 4 rfl) ?_
    refine lv_aload_n hx hb dL_law_1843 rfl (lv_at hl 6 rfl) ?_
    refine lv_iload hx hb dL_law_1844 (lv_at hl 1 rfl) ?_
    refine lv_iconst (v := 1) hx hb dL_law_1846 (by decide) ?_
    refine lv_iadd hx hb dL_law_1847 ?_
    refine va_sld hx hb hX hbl hbA hI.2.2.1 hin1 dL_law_1848 ?_
    rw [← ea1]
    have hI2 := hI
    rw [← FW_m] at hI2
    refine jx_callV (rest := []) (as := [.int a1]) hx hb hml hts hown hK hE Dj_m hI2 (cM_kilosAnew G ad M a1 h.2.1.1) kLM_191 ⟨(Nat.le_of_ble_eq_true rfl), (Nat.le_of_ble_eq_true rfl)⟩ (kk := 4) (ii := 0) rfl rfl rfl hl.1 (Nat.le_of_ble_eq_true rfl) dL_law_1849 ⟨by show cells + 1 + 0 ≤ 601024; omega, by show slots + 6 + 0 ≤ 7293034; omega⟩ (fun v w' H locs hp hI => ?_)
    obtain ⟨rfl, rfl⟩ := hp
    rw [FW_m] at hI
    refine lv_istore (lv' := [(7, .int (M_kilosAnew M a1).1), (6, .int (cdL EIOB "" E)), (5, .int (nI (4 * t))), (4, .ref bd), (3, .ref bo), (2, .ref (ad 0)), (1, .ref (Z.A 0 0)), (0, .ref b)]) hx hb dL_law_1852 hl (by decide) rfl (fun ls hl => ?_)
    refine lv_aload_n hx hb dL_law_1854 rfl (lv_at hl 5 rfl) ?_
    have hI3 := hI
    rw [← FW_m] at hI3
    refine jx_callV (rest := []) (as := []) hx hb hml hts hown hK hE Dj_m hI3 (cM_thrown G ad (M_kilosAnew M a1).2) kLM_107 ⟨(Nat.le_of_ble_eq_true rfl), (Nat.le_of_ble_eq_true rfl)⟩ (kk := 4) (ii := 0) rfl rfl rfl hl.1 (Nat.le_of_ble_eq_true rfl) dL_law_1855 ⟨by show cells + 1 + 0 + 0 ≤ 601024; omega, by show slots + 6 + 0 + 0 ≤ 7293034; omega⟩ (fun v w' H locs hp hI => ?_)
    obtain ⟨rfl, rfl⟩ := hp
    rw [FW_m] at hI
    refine lv_iload (rest := [.int (M_thrown (M_kilosAnew M a1).2)]) hx hb dL_law_1858 (lv_at hl 1 rfl) ?_
    refine lv_icmp_eq (tgt := 1865) hx hb dL_law_1860 (by decide) (fun _ => ?_) (fun h0 => absurd s29 h0)
    refine lv_iload hx hb dL_law_1865 (lv_at hl 1 rfl) ?_
    refine lv_if_ne (tgt := 1882) hx hb dL_law_1867 (by decide) (fun _ => ?_) (fun h0 => absurd h0 cdL_ne)
    refine lv_goto (tgt := 1899) hx hb dL_law_1882 (by decide) ?_
    refine W.widen (k := cells + 5) (n := slots + 802) (by show cells + 1 + 0 + 0 ≤ cells + 5; omega) (by show slots + 6 + 0 + 0 ≤ slots + 802; omega) ?_
    exact K _ _ _ _ _ _ _ _ hR rfl hI (lv_sub hl [2, 3, 4, 5, 6, 7] rfl)
theorem kLM_192 : CkV "IcehighwayLaw" 192 yX3_bill cX3_bill 4 (some .long) 0 := ⟨q91, q88, q89, q90, q1, by decide +kernel⟩
theorem kLM_196 : CkV "IcehighwayLaw" 196 yX4_bill cX4_bill 4 (some .long) 0 := ⟨q1079, q1076, q1077, q1078, q5, by decide +kernel⟩
set_option maxHeartbeats 4000000 in
set_option maxRecDepth 100000 in
theorem law_c26 {p : Program} {e : Env} {s : State} {m : MethodId} {below : List Frame} {meth : Method} {c : Code} {b L : Nat} {xs : Nat → Int32} {Q : State → Prop} {G : GX} {A : Nat → Prop} (C0 : LCtx p s m c b L xs G A) (hL : L ≤ 2048) {t : Nat} (hi : 4 * t + 4 ≤ L) {Z : XZ} {S : XS} {M : MS} {ad : Nat → Nat} {bo bd : Nat} {f : Nat → Int64} {g : Nat → UInt64} {H : Heap} {locs : List Loc} {ls : Array Slot} {cells slots : Nat} (h : RXA Z S M t) (hI : fI G.2.2.1 A s.heap (FW G.2.2.2 G.2.1 Z S ad M bo f bd g) H locs) (hl : lv_has ls 9 [(5, .int (nI (4 * t))), (4, .ref bd), (3, .ref bo), (2, .ref (ad 0)), (1, .ref (Z.A 0 0)), (0, .ref b)]) (hcs : cells + 5 ≤ 601024 ∧ slots + 802 ≤ 7293034) (K : LK p e s m below meth c b Q G A ad bo bd (Z.A 0 0) t cells slots) : W p G.1 e room_1 s m #[Value.ref b] below meth c H locs cells slots Q (F0 m 1885 ls []) := by
  obtain ⟨hx, hb, hml, hts, hown, hK, hE, hX, hbl, hbA, hst0⟩ := C0
  have ht : t < 512 := by omega
  obtain ⟨sx, hR⟩ := st_bill h ht
  refine lv_aload_n hx hb dL_law_1885 rfl (lv_at hl 4 rfl) ?_
  have hI1 : fI G.2.2.1 A s.heap (jn (xW G.2.2.2 G.2.1 Z S) (jn (jn (mW G.2.2.2 ad M) (oW G.2.2.2 bo f)) (oD G.2.2.2 bd g))) H locs := by rw [FW_x]; exact hI
  refine jx_callV (rest := []) (as := []) hx hb hml hts hown hK hE Dj_x hI1 (cX_bill G Z S) kLM_192 ⟨(Nat.le_of_ble_eq_true rfl), (Nat.le_of_ble_eq_true rfl)⟩ (kk := 0) (ii := 0) (xW0 (by decide)) rfl rfl hl.1 (Nat.le_of_ble_eq_true rfl) dL_law_1886 ⟨by show cells + 0 ≤ 601024; omega, by show slots + 0 ≤ 7293034; omega⟩ (fun v w' H locs hp hI => ?_)
  obtain ⟨rfl, rfl⟩ := hp
  rw [FW_x] at hI
  refine lv_aload_n (rest := [.long (X_bill Z S)]) hx hb dL_law_1889 rfl (lv_at hl 3 rfl) ?_
  have hI2 : fI G.2.2.1 A s.heap (jn (mW G.2.2.2 ad M) (jn (jn (xW G.2.2.2 G.2.1 Z S) (oW G.2.2.2 bo f)) (oD G.2.2.2 bd g))) H locs := by rw [FW_m]; exact hI
  refine jx_callV (rest := [.long (X_bill Z S)]) (as := []) hx hb hml hts hown hK hE Dj_m hI2 (cM_bill G ad M) kLM_196 ⟨(Nat.le_of_ble_eq_true rfl), (Nat.le_of_ble_eq_true rfl)⟩ (kk := 4) (ii := 0) rfl rfl rfl hl.1 (Nat.le_of_ble_eq_true rfl) dL_law_1890 ⟨by show cells + 0 + 0 ≤ 601024; omega, by show slots + 0 + 0 ≤ 7293034; omega⟩ (fun v w' H locs hp hI => ?_)
  obtain ⟨rfl, rfl⟩ := hp
  rw [FW_m] at hI
  refine W.lcmp hx hb dL_law_1893 ?_
  refine lv_if_eq (tgt := 1899) hx hb dL_law_1894 (by decide) (fun _ => ?_) (fun h0 => absurd ((lg_cmp_eq _ _).mpr sx) h0)
  refine W.widen (k := cells + 5) (n := slots + 802) (by show cells + 0 + 0 ≤ cells + 5; omega) (by show slots + 0 + 0 ≤ slots + 802; omega) ?_
  exact K _ _ _ _ _ _ _ _ hR rfl hI hl
