/-! ===== the law, call by call ===== -/
theorem kLM_128 : CkV "IcehighwayLaw" 128 yX4_drill cX4_drill 2 (some .double) 1 := ⟨q893, q890, q891, q892, q5, by decide +kernel⟩
set_option maxHeartbeats 4000000 in
set_option maxRecDepth 100000 in
theorem law_c5 {p : Program} {e : Env} {s : State} {m : MethodId} {below : List Frame} {meth : Method} {c : Code} {b L : Nat} {xs : Nat → Int32} {Q : State → Prop} {G : GX} {A : Nat → Prop} (C0 : LCtx p s m c b L xs G A) (hL : L ≤ 2048) {t : Nat} (hi : 4 * t + 4 ≤ L) {Z : XZ} {S : XS} {M : MS} {ad : Nat → Nat} {bo bd : Nat} {f : Nat → Int64} {g : Nat → UInt64} {H : Heap} {locs : List Loc} {ls : Array Slot} {cells slots : Nat} (h : RXA Z S M t) (hI : fI G.2.2.1 A s.heap (FW G.2.2.2 G.2.1 Z S ad M bo f bd g) H locs) (hl : lv_has ls 9 [(5, .int (nI (4 * t))), (4, .ref bd), (3, .ref bo), (2, .ref (ad 0)), (1, .ref (Z.A 0 0)), (0, .ref b)]) (hcs : cells + 5 ≤ 601024 ∧ slots + 802 ≤ 7293034) (K : LK p e s m below meth c b Q G A ad bo bd (Z.A 0 0) t cells slots) : W p G.1 e room_1 s m #[Value.ref b] below meth c H locs cells slots Q (F0 m 484 ls []) := by
  obtain ⟨hx, hb, hml, hts, hown, hK, hE, hX, hbl, hbA, hst0⟩ := C0
  have ht : t < 512 := by omega
  obtain ⟨a1, ea1⟩ : ∃ z, z = xs (nI (4 * t) + 1).toNatClampNeg := ⟨_, rfl⟩
  have hin1 : vp_in (nI (4 * t) + 1) L := sc_in (k := 1) rfl (by omega) hL
  have hst := st_drill h ht a1
  refine lv_aload_n hx hb dL_law_484 rfl (lv_at hl 4 rfl) ?_
  refine lv_aload_n hx hb dL_law_485 rfl (lv_at hl 5 rfl) ?_
  refine lv_iload hx hb dL_law_486 (lv_at hl 0 rfl) ?_
  refine lv_iconst (v := 1) hx hb dL_law_488 (by decide) ?_
  refine lv_iadd hx hb dL_law_489 ?_
  refine va_sld hx hb hX hbl hbA hI.2.2.1 hin1 dL_law_490 ?_
  rw [← ea1]
  refine lv_aload hx hb dL_law_491 (lv_at hl 1 rfl) ?_
  have hI1 : fI G.2.2.1 A s.heap (jn (jn (xW G.2.2.2 G.2.1 Z S) (oD G.2.2.2 bd g)) (jn (mW G.2.2.2 ad M) (oW G.2.2.2 bo f))) H locs := by rw [FW_d]; exact hI
  refine jx_callH (rest := []) (as := [.ref (Z.A 0 0), .int a1, .ref bd]) hx hb hml hts hown hK hE Dj_d hI1 (cL_drillw G hst0 Z S bd g a1 h.1.1) kH_drill ⟨(Nat.le_of_ble_eq_true rfl), (Nat.le_of_ble_eq_true rfl)⟩ hl.1 (Nat.le_of_ble_eq_true rfl) dL_law_493 ⟨by show cells + 1 ≤ 601024; omega, by show slots + 6 ≤ 7293034; omega⟩ (fun v w' H locs hp hI => ?_)
  rcases hp with ⟨x9, w9, ⟨hT, hx9, rfl⟩, rfl, rfl⟩ | ⟨E9, ⟨hT, hw9⟩, rfl, rfl⟩
  · rcases hst with ⟨sT, s29, sx, hR⟩ | ⟨E, sT, -⟩
    rotate_left
    · exact absurd (hT.symm.trans sT) (fun z => nomatch z)
    cases hx9
    rw [FW_d] at hI
    refine lv_istore (lv' := [(6, .int (0)), (5, .int (nI (4 * t))), (4, .ref bd), (3, .ref bo), (2, .ref (ad 0)), (1, .ref (Z.A 0 0)), (0, .ref b)]) hx hb dL_law_496 hl (by decide) rfl (fun ls hl => ?_)
    refine lv_aload_n hx hb dL_law_498 rfl (lv_at hl 4 rfl) ?_
    refine lv_aload_n hx hb dL_law_499 rfl (lv_at hl 6 rfl) ?_
    refine lv_iload hx hb dL_law_500 (lv_at hl 1 rfl) ?_
    refine lv_iconst (v := 1) hx hb dL_law_502 (by decide) ?_
    refine lv_iadd hx hb dL_law_503 ?_
    refine va_sld hx hb hX hbl hbA hI.2.2.1 hin1 dL_law_504 ?_
    rw [← ea1]
    have hI2 := hI
    rw [← FW_m] at hI2
    refine jx_callV (rest := []) (as := [.int a1]) hx hb hml hts hown hK hE Dj_m hI2 (cM_drill G ad M a1 h.2.1.1) kLM_128 ⟨(Nat.le_of_ble_eq_true rfl), (Nat.le_of_ble_eq_true rfl)⟩ (kk := 4) (ii := 0) rfl rfl rfl hl.1 (Nat.le_of_ble_eq_true rfl) dL_law_505 ⟨by show cells + 1 + 0 ≤ 601024; omega, by show slots + 6 + 0 ≤ 7293034; omega⟩ (fun v w' H locs hp hI => ?_)
    obtain ⟨rfl, rfl⟩ := hp
    rw [FW_m] at hI
    refine lv_dstore (lv' := [(7, .double (M_drill M a1).1), (6, .int (0)), (5, .int (nI (4 * t))), (4, .ref bd), (3, .ref bo), (2, .ref (ad 0)), (1, .ref (Z.A 0 0)), (0, .ref b)]) hx hb dL_law_508 hl (by decide) rfl (fun ls hl => ?_)
    refine lv_aload_n hx hb dL_law_510 rfl (lv_at hl 5 rfl) ?_
    have hI3 := hI
    rw [← FW_m] at hI3
    refine jx_callV (rest := []) (as := []) hx hb hml hts hown hK hE Dj_m hI3 (cM_thrown G ad (M_drill M a1).2) kLM_107 ⟨(Nat.le_of_ble_eq_true rfl), (Nat.le_of_ble_eq_true rfl)⟩ (kk := 4) (ii := 0) rfl rfl rfl hl.1 (Nat.le_of_ble_eq_true rfl) dL_law_511 ⟨by show cells + 1 + 0 + 0 ≤ 601024; omega, by show slots + 6 + 0 + 0 ≤ 7293034; omega⟩ (fun v w' H locs hp hI => ?_)
    obtain ⟨rfl, rfl⟩ := hp
    rw [FW_m] at hI
    refine lv_iload (rest := [.int (M_thrown (M_drill M a1).2)]) hx hb dL_law_514 (lv_at hl 1 rfl) ?_
    refine lv_icmp_eq (tgt := 521) hx hb dL_law_516 (by decide) (fun _ => ?_) (fun h0 => absurd s29 h0)
    refine lv_iload hx hb dL_law_521 (lv_at hl 1 rfl) ?_
    refine lv_if_ne (tgt := 558) hx hb dL_law_523 (by decide) (fun h0 => absurd rfl h0) (fun _ => ?_)
    refine lv_aload hx hb dL_law_526 (lv_at hl 3 rfl) ?_
    refine lv_iconst (v := 0) hx hb dL_law_528 (by decide) ?_
    refine fx_dald (k := 11) (j := 0) (n := 1) hx hb hK hI FW_11 (i := 0) (by unfold vp_in; decide) dL_law_529 ?_
    rw [at_D sx]
    refine lv_dload hx hb dL_law_530 (lv_at hl 0 rfl) ?_
    refine lv_dcmp hx hb dL_law_532 ?_
    refine lv_if_eq (tgt := 558) hx hb dL_law_533 (by decide) (fun _ => ?_) (fun hn => ?_)
    · refine lv_goto (tgt := 1899) hx hb dL_law_558 (by decide) ?_
      refine W.widen (k := cells + 5) (n := slots + 802) (by show cells + 1 + 0 + 0 ≤ cells + 5; omega) (by show slots + 6 + 0 + 0 ≤ slots + 802; omega) ?_
      exact K _ _ _ _ _ _ _ _ hR rfl hI (lv_sub hl [2, 3, 4, 5, 6, 7] rfl)
    · refine lv_aload hx hb dL_law_536 (lv_at hl 3 rfl) ?_
      refine lv_iconst (v := 0) hx hb dL_law_538 (by decide) ?_
      refine fx_dald (k := 11) (j := 0) (n := 1) hx hb hK hI FW_11 (i := 0) (by unfold vp_in; decide) dL_law_539 ?_
      rw [at_D sx]
      refine lv_aload hx hb dL_law_540 (lv_at hl 3 rfl) ?_
      refine lv_iconst (v := 0) hx hb dL_law_542 (by decide) ?_
      refine fx_dald (k := 11) (j := 0) (n := 1) hx hb hK hI FW_11 (i := 0) (by unfold vp_in; decide) dL_law_543 ?_
      rw [at_D sx]
      refine lv_dcmp hx hb dL_law_544 ?_
      refine lv_if_eq (tgt := 556) hx hb dL_law_545 (by decide) (fun h0 => absurd h0 hn) (fun _ => ?_)
      refine lv_dload hx hb dL_law_548 (lv_at hl 0 rfl) ?_
      refine lv_dload hx hb dL_law_550 (lv_at hl 0 rfl) ?_
      refine lv_dcmp hx hb dL_law_552 ?_
      refine lv_if_ne (tgt := 558) hx hb dL_law_553 (by decide) (fun _ => ?_) (fun h0 => absurd h0 hn)
      refine lv_goto (tgt := 1899) hx hb dL_law_558 (by decide) ?_
      refine W.widen (k := cells + 5) (n := slots + 802) (by show cells + 1 + 0 + 0 ≤ cells + 5; omega) (by show slots + 6 + 0 + 0 ≤ slots + 802; omega) ?_
      exact K _ _ _ _ _ _ _ _ hR rfl hI (lv_sub hl [2, 3, 4, 5, 6, 7] rfl)
  · rcases hst with ⟨sT, -⟩ | ⟨E, sT, s29, hR⟩
    · exact absurd (hT.symm.trans sT) (fun z => nomatch z)
    have hEE : E = E9 := Option.some.inj (sT.symm.trans hT)
    subst hEE
    rw [FW_d] at hI
    refine lv_istore (lv' := [(6, .int (cdL EIOB "" E)), (5, .int (nI (4 * t))), (4, .ref bd), (3, .ref bo), (2, .ref (ad 0)), (1, .ref (Z.A 0 0)), (0, .ref b)]) hx hb dL_law_496 hl (by decide) rfl (fun ls hl => ?_)
    refine lv_aload_n hx hb dL_law_498 rfl (lv_at hl 4 rfl) ?_
    refine lv_aload_n hx hb dL_law_499 rfl (lv_at hl 6 rfl) ?_
    refine lv_iload hx hb dL_law_500 (lv_at hl 1 rfl) ?_
    refine lv_iconst (v := 1) hx hb dL_law_502 (by decide) ?_
    refine lv_iadd hx hb dL_law_503 ?_
    refine va_sld hx hb hX hbl hbA hI.2.2.1 hin1 dL_law_504 ?_
    rw [← ea1]
    have hI2 := hI
    rw [← FW_m] at hI2
    refine jx_callV (rest := []) (as := [.int a1]) hx hb hml hts hown hK hE Dj_m hI2 (cM_drill G ad M a1 h.2.1.1) kLM_128 ⟨(Nat.le_of_ble_eq_true rfl), (Nat.le_of_ble_eq_true rfl)⟩ (kk := 4) (ii := 0) rfl rfl rfl hl.1 (Nat.le_of_ble_eq_true rfl) dL_law_505 ⟨by show cells + 1 + 0 ≤ 601024; omega, by show slots + 6 + 0 ≤ 7293034; omega⟩ (fun v w' H locs hp hI => ?_)
    obtain ⟨rfl, rfl⟩ := hp
    rw [FW_m] at hI
    refine lv_dstore (lv' := [(7, .double (M_drill M a1).1), (6, .int (cdL EIOB "" E)), (5, .int (nI (4 * t))), (4, .ref bd), (3, .ref bo), (2, .ref (ad 0)), (1, .ref (Z.A 0 0)), (0, .ref b)]) hx hb dL_law_508 hl (by decide) rfl (fun ls hl => ?_)
    refine lv_aload_n hx hb dL_law_510 rfl (lv_at hl 5 rfl) ?_
    have hI3 := hI
    rw [← FW_m] at hI3
    refine jx_callV (rest := []) (as := []) hx hb hml hts hown hK hE Dj_m hI3 (cM_thrown G ad (M_drill M a1).2) kLM_107 ⟨(Nat.le_of_ble_eq_true rfl), (Nat.le_of_ble_eq_true rfl)⟩ (kk := 4) (ii := 0) rfl rfl rfl hl.1 (Nat.le_of_ble_eq_true rfl) dL_law_511 ⟨by show cells + 1 + 0 + 0 ≤ 601024; omega, by show slots + 6 + 0 + 0 ≤ 7293034; omega⟩ (fun v w' H locs hp hI => ?_)
    obtain ⟨rfl, rfl⟩ := hp
    rw [FW_m] at hI
    refine lv_iload (rest := [.int (M_thrown (M_drill M a1).2)]) hx hb dL_law_514 (lv_at hl 1 rfl) ?_
    refine lv_icmp_eq (tgt := 521) hx hb dL_law_516 (by decide) (fun _ => ?_) (fun h0 => absurd s29 h0)
    refine lv_iload hx hb dL_law_521 (lv_at hl 1 rfl) ?_
    refine lv_if_ne (tgt := 558) hx hb dL_law_523 (by decide) (fun _ => ?_) (fun h0 => absurd h0 cdL_ne)
    refine lv_goto (tgt := 1899) hx hb dL_law_558 (by decide) ?_
    refine W.widen (k := cells + 5) (n := slots + 802) (by show cells + 1 + 0 + 0 ≤ cells + 5; omega) (by show slots + 6 + 0 + 0 ≤ slots + 802; omega) ?_
    exact K _ _ _ _ _ _ _ _ hR rfl hI (lv_sub hl [2, 3, 4, 5, 6, 7] rfl)
theorem kLM_131 : CkV "IcehighwayLaw" 131 yX4_open cX4_open 4 (some .int) 2 := ⟨q902, q899, q900, q901, q5, by decide +kernel⟩
set_option maxHeartbeats 4000000 in
set_option maxRecDepth 100000 in
theorem law_c6 {p : Program} {e : Env} {s : State} {m : MethodId} {below : List Frame} {meth : Method} {c : Code} {b L : Nat} {xs : Nat → Int32} {Q : State → Prop} {G : GX} {A : Nat → Prop} (C0 : LCtx p s m c b L xs G A) (hL : L ≤ 2048) {t : Nat} (hi : 4 * t + 4 ≤ L) {Z : XZ} {S : XS} {M : MS} {ad : Nat → Nat} {bo bd : Nat} {f : Nat → Int64} {g : Nat → UInt64} {H : Heap} {locs : List Loc} {ls : Array Slot} {cells slots : Nat} (h : RXA Z S M t) (hI : fI G.2.2.1 A s.heap (FW G.2.2.2 G.2.1 Z S ad M bo f bd g) H locs) (hl : lv_has ls 9 [(5, .int (nI (4 * t))), (4, .ref bd), (3, .ref bo), (2, .ref (ad 0)), (1, .ref (Z.A 0 0)), (0, .ref b)]) (hcs : cells + 5 ≤ 601024 ∧ slots + 802 ≤ 7293034) (K : LK p e s m below meth c b Q G A ad bo bd (Z.A 0 0) t cells slots) : W p G.1 e room_1 s m #[Value.ref b] below meth c H locs cells slots Q (F0 m 561 ls []) := by
  obtain ⟨hx, hb, hml, hts, hown, hK, hE, hX, hbl, hbA, hst0⟩ := C0
  have ht : t < 512 := by omega
  obtain ⟨a1, ea1⟩ : ∃ z, z = xs (nI (4 * t) + 1).toNatClampNeg := ⟨_, rfl⟩
  have hin1 : vp_in (nI (4 * t) + 1) L := sc_in (k := 1) rfl (by omega) hL
  obtain ⟨a2, ea2⟩ : ∃ z, z = xs (nI (4 * t) + 2).toNatClampNeg := ⟨_, rfl⟩
  have hin2 : vp_in (nI (4 * t) + 2) L := sc_in (k := 2) rfl (by omega) hL
  have hst := st_open h ht a1 a2
  refine lv_aload_n hx hb dL_law_561 rfl (lv_at hl 4 rfl) ?_
  refine lv_aload_n hx hb dL_law_562 rfl (lv_at hl 5 rfl) ?_
  refine lv_iload hx hb dL_law_563 (lv_at hl 0 rfl) ?_
  refine lv_iconst (v := 1) hx hb dL_law_565 (by decide) ?_
  refine lv_iadd hx hb dL_law_566 ?_
  refine va_sld hx hb hX hbl hbA hI.2.2.1 hin1 dL_law_567 ?_
  rw [← ea1]
  refine lv_aload_n hx hb dL_law_568 rfl (lv_at hl 5 rfl) ?_
  refine lv_iload hx hb dL_law_569 (lv_at hl 0 rfl) ?_
  refine lv_iconst (v := 2) hx hb dL_law_571 (by decide) ?_
  refine lv_iadd hx hb dL_law_572 ?_
  refine va_sld hx hb hX hbl hbA hI.2.2.1 hin2 dL_law_573 ?_
  rw [← ea2]
  refine lv_aload_n hx hb dL_law_574 rfl (lv_at hl 2 rfl) ?_
  have hI1 : fI G.2.2.1 A s.heap (jn (jn (xW G.2.2.2 G.2.1 Z S) (oW G.2.2.2 bo f)) (jn (mW G.2.2.2 ad M) (oD G.2.2.2 bd g))) H locs := by rw [FW_w]; exact hI
  refine jx_callH (rest := []) (as := [.ref (Z.A 0 0), .int a1, .int a2, .ref bo]) hx hb hml hts hown hK hE Dj_w hI1 (cL_openw G hst0 Z S bo f a1 a2 h.1.1) kH_open ⟨(Nat.le_of_ble_eq_true rfl), (Nat.le_of_ble_eq_true rfl)⟩ hl.1 (Nat.le_of_ble_eq_true rfl) dL_law_575 ⟨by show cells + 2 ≤ 601024; omega, by show slots + 12 ≤ 7293034; omega⟩ (fun v w' H locs hp hI => ?_)
  rcases hp with ⟨x9, w9, ⟨hT, hx9, rfl⟩, rfl, rfl⟩ | ⟨E9, ⟨hT, hw9⟩, rfl, rfl⟩
  · rcases hst with ⟨sT, s29, sx, hR⟩ | ⟨E, sT, -⟩
    rotate_left
    · exact absurd (hT.symm.trans sT) (fun z => nomatch z)
    cases hx9
    rw [FW_w] at hI
    refine lv_istore (lv' := [(6, .int (0)), (5, .int (nI (4 * t))), (4, .ref bd), (3, .ref bo), (2, .ref (ad 0)), (1, .ref (Z.A 0 0)), (0, .ref b)]) hx hb dL_law_578 hl (by decide) rfl (fun ls hl => ?_)
    refine lv_aload_n hx hb dL_law_580 rfl (lv_at hl 4 rfl) ?_
    refine lv_aload_n hx hb dL_law_581 rfl (lv_at hl 6 rfl) ?_
    refine lv_iload hx hb dL_law_582 (lv_at hl 1 rfl) ?_
    refine lv_iconst (v := 1) hx hb dL_law_584 (by decide) ?_
    refine lv_iadd hx hb dL_law_585 ?_
    refine va_sld hx hb hX hbl hbA hI.2.2.1 hin1 dL_law_586 ?_
    rw [← ea1]
    refine lv_aload_n hx hb dL_law_587 rfl (lv_at hl 6 rfl) ?_
    refine lv_iload hx hb dL_law_588 (lv_at hl 1 rfl) ?_
    refine lv_iconst (v := 2) hx hb dL_law_590 (by decide) ?_
    refine lv_iadd hx hb dL_law_591 ?_
    refine va_sld hx hb hX hbl hbA hI.2.2.1 hin2 dL_law_592 ?_
    rw [← ea2]
    have hI2 := hI
    rw [← FW_m] at hI2
    refine jx_callV (rest := []) (as := [.int a1, .int a2]) hx hb hml hts hown hK hE Dj_m hI2 (cM_open G ad M a1 a2 h.2.1.1) kLM_131 ⟨(Nat.le_of_ble_eq_true rfl), (Nat.le_of_ble_eq_true rfl)⟩ (kk := 4) (ii := 0) rfl rfl rfl hl.1 (Nat.le_of_ble_eq_true rfl) dL_law_593 ⟨by show cells + 2 + 0 ≤ 601024; omega, by show slots + 12 + 0 ≤ 7293034; omega⟩ (fun v w' H locs hp hI => ?_)
    obtain ⟨rfl, rfl⟩ := hp
    rw [FW_m] at hI
    refine lv_istore (lv' := [(7, .int (M_open M a1 a2).1), (6, .int (0)), (5, .int (nI (4 * t))), (4, .ref bd), (3, .ref bo), (2, .ref (ad 0)), (1, .ref (Z.A 0 0)), (0, .ref b)]) hx hb dL_law_596 hl (by decide) rfl (fun ls hl => ?_)
    refine lv_aload_n hx hb dL_law_598 rfl (lv_at hl 5 rfl) ?_
    have hI3 := hI
    rw [← FW_m] at hI3
    refine jx_callV (rest := []) (as := []) hx hb hml hts hown hK hE Dj_m hI3 (cM_thrown G ad (M_open M a1 a2).2) kLM_107 ⟨(Nat.le_of_ble_eq_true rfl), (Nat.le_of_ble_eq_true rfl)⟩ (kk := 4) (ii := 0) rfl rfl rfl hl.1 (Nat.le_of_ble_eq_true rfl) dL_law_599 ⟨by show cells + 2 + 0 + 0 ≤ 601024; omega, by show slots + 12 + 0 + 0 ≤ 7293034; omega⟩ (fun v w' H locs hp hI => ?_)
    obtain ⟨rfl, rfl⟩ := hp
    rw [FW_m] at hI
    refine lv_iload (rest := [.int (M_thrown (M_open M a1 a2).2)]) hx hb dL_law_602 (lv_at hl 1 rfl) ?_
    refine lv_icmp_eq (tgt := 609) hx hb dL_law_604 (by decide) (fun _ => ?_) (fun h0 => absurd s29 h0)
    refine lv_iload hx hb dL_law_609 (lv_at hl 1 rfl) ?_
    refine lv_if_ne (tgt := 626) hx hb dL_law_611 (by decide) (fun h0 => absurd rfl h0) (fun _ => ?_)
    refine lv_aload_n hx hb dL_law_614 rfl (lv_at hl 4 rfl) ?_
    refine lv_iconst (v := 0) hx hb dL_law_615 (by decide) ?_
    refine fx_lald (k := 10) (j := 0) (n := 1) hx hb hK hI FW_10 (i := 0) (by unfold vp_in; decide) dL_law_616 ?_
    refine lv_iload hx hb dL_law_617 (lv_at hl 0 rfl) ?_
    refine lv_i2l hx hb dL_law_619 rfl ?_
    refine W.lcmp hx hb dL_law_620 ?_
    refine lv_if_eq (tgt := 626) hx hb dL_law_621 (by decide) (fun _ => ?_) (fun h0 => absurd (cmpI sx) h0)
    refine lv_goto (tgt := 1899) hx hb dL_law_626 (by decide) ?_
    refine W.widen (k := cells + 5) (n := slots + 802) (by show cells + 2 + 0 + 0 ≤ cells + 5; omega) (by show slots + 12 + 0 + 0 ≤ slots + 802; omega) ?_
    exact K _ _ _ _ _ _ _ _ hR rfl hI (lv_sub hl [2, 3, 4, 5, 6, 7] rfl)
  · rcases hst with ⟨sT, -⟩ | ⟨E, sT, s29, hR⟩
    · exact absurd (hT.symm.trans sT) (fun z => nomatch z)
    have hEE : E = E9 := Option.some.inj (sT.symm.trans hT)
    subst hEE
    rw [FW_w] at hI
    refine lv_istore (lv' := [(6, .int (cdL EIOB EIAE E)), (5, .int (nI (4 * t))), (4, .ref bd), (3, .ref bo), (2, .ref (ad 0)), (1, .ref (Z.A 0 0)), (0, .ref b)]) hx hb dL_law_578 hl (by decide) rfl (fun ls hl => ?_)
    refine lv_aload_n hx hb dL_law_580 rfl (lv_at hl 4 rfl) ?_
    refine lv_aload_n hx hb dL_law_581 rfl (lv_at hl 6 rfl) ?_
    refine lv_iload hx hb dL_law_582 (lv_at hl 1 rfl) ?_
    refine lv_iconst (v := 1) hx hb dL_law_584 (by decide) ?_
    refine lv_iadd hx hb dL_law_585 ?_
    refine va_sld hx hb hX hbl hbA hI.2.2.1 hin1 dL_law_586 ?_
    rw [← ea1]
    refine lv_aload_n hx hb dL_law_587 rfl (lv_at hl 6 rfl) ?_
    refine lv_iload hx hb dL_law_588 (lv_at hl 1 rfl) ?_
    refine lv_iconst (v := 2) hx hb dL_law_590 (by decide) ?_
    refine lv_iadd hx hb dL_law_591 ?_
    refine va_sld hx hb hX hbl hbA hI.2.2.1 hin2 dL_law_592 ?_
    rw [← ea2]
    have hI2 := hI
    rw [← FW_m] at hI2
    refine jx_callV (rest := []) (as := [.int a1, .int a2]) hx hb hml hts hown hK hE Dj_m hI2 (cM_open G ad M a1 a2 h.2.1.1) kLM_131 ⟨(Nat.le_of_ble_eq_true rfl), (Nat.le_of_ble_eq_true rfl)⟩ (kk := 4) (ii := 0) rfl rfl rfl hl.1 (Nat.le_of_ble_eq_true rfl) dL_law_593 ⟨by show cells + 2 + 0 ≤ 601024; omega, by show slots + 12 + 0 ≤ 7293034; omega⟩ (fun v w' H locs hp hI => ?_)
    obtain ⟨rfl, rfl⟩ := hp
    rw [FW_m] at hI
    refine lv_istore (lv' := [(7, .int (M_open M a1 a2).1), (6, .int (cdL EIOB EIAE E)), (5, .int (nI (4 * t))), (4, .ref bd), (3, .ref bo), (2, .ref (ad 0)), (1, .ref (Z.A 0 0)), (0, .ref b)]) hx hb dL_law_596 hl (by decide) rfl (fun ls hl => ?_)
    refine lv_aload_n hx hb dL_law_598 rfl (lv_at hl 5 rfl) ?_
    have hI3 := hI
    rw [← FW_m] at hI3
    refine jx_callV (rest := []) (as := []) hx hb hml hts hown hK hE Dj_m hI3 (cM_thrown G ad (M_open M a1 a2).2) kLM_107 ⟨(Nat.le_of_ble_eq_true rfl), (Nat.le_of_ble_eq_true rfl)⟩ (kk := 4) (ii := 0) rfl rfl rfl hl.1 (Nat.le_of_ble_eq_true rfl) dL_law_599 ⟨by show cells + 2 + 0 + 0 ≤ 601024; omega, by show slots + 12 + 0 + 0 ≤ 7293034; omega⟩ (fun v w' H locs hp hI => ?_)
    obtain ⟨rfl, rfl⟩ := hp
    rw [FW_m] at hI
    refine lv_iload (rest := [.int (M_thrown (M_open M a1 a2).2)]) hx hb dL_law_602 (lv_at hl 1 rfl) ?_
    refine lv_icmp_eq (tgt := 609) hx hb dL_law_604 (by decide) (fun _ => ?_) (fun h0 => absurd s29 h0)
    refine lv_iload hx hb dL_law_609 (lv_at hl 1 rfl) ?_
    refine lv_if_ne (tgt := 626) hx hb dL_law_611 (by decide) (fun _ => ?_) (fun h0 => absurd h0 cdL_ne)
    refine lv_goto (tgt := 1899) hx hb dL_law_626 (by decide) ?_
    refine W.widen (k := cells + 5) (n := slots + 802) (by show cells + 2 + 0 + 0 ≤ cells + 5; omega) (by show slots + 12 + 0 + 0 ≤ slots + 802; omega) ?_
    exact K _ _ _ _ _ _ _ _ hR rfl hI (lv_sub hl [2, 3, 4, 5, 6, 7] rfl)
theorem kLM_134 : CkV "IcehighwayLaw" 134 yX4_limit cX4_limit 4 (some .int) 2 := ⟨q906, q903, q904, q905, q5, by decide +kernel⟩
set_option maxHeartbeats 4000000 in
set_option maxRecDepth 100000 in
theorem law_c7 {p : Program} {e : Env} {s : State} {m : MethodId} {below : List Frame} {meth : Method} {c : Code} {b L : Nat} {xs : Nat → Int32} {Q : State → Prop} {G : GX} {A : Nat → Prop} (C0 : LCtx p s m c b L xs G A) (hL : L ≤ 2048) {t : Nat} (hi : 4 * t + 4 ≤ L) {Z : XZ} {S : XS} {M : MS} {ad : Nat → Nat} {bo bd : Nat} {f : Nat → Int64} {g : Nat → UInt64} {H : Heap} {locs : List Loc} {ls : Array Slot} {cells slots : Nat} (h : RXA Z S M t) (hI : fI G.2.2.1 A s.heap (FW G.2.2.2 G.2.1 Z S ad M bo f bd g) H locs) (hl : lv_has ls 9 [(5, .int (nI (4 * t))), (4, .ref bd), (3, .ref bo), (2, .ref (ad 0)), (1, .ref (Z.A 0 0)), (0, .ref b)]) (hcs : cells + 5 ≤ 601024 ∧ slots + 802 ≤ 7293034) (K : LK p e s m below meth c b Q G A ad bo bd (Z.A 0 0) t cells slots) : W p G.1 e room_1 s m #[Value.ref b] below meth c H locs cells slots Q (F0 m 629 ls []) := by
  obtain ⟨hx, hb, hml, hts, hown, hK, hE, hX, hbl, hbA, hst0⟩ := C0
  have ht : t < 512 := by omega
  obtain ⟨a1, ea1⟩ : ∃ z, z = xs (nI (4 * t) + 1).toNatClampNeg := ⟨_, rfl⟩
  have hin1 : vp_in (nI (4 * t) + 1) L := sc_in (k := 1) rfl (by omega) hL
  obtain ⟨a2, ea2⟩ : ∃ z, z = xs (nI (4 * t) + 2).toNatClampNeg := ⟨_, rfl⟩
  have hin2 : vp_in (nI (4 * t) + 2) L := sc_in (k := 2) rfl (by omega) hL
  have hst := st_limit h ht a1 a2
  refine lv_aload_n hx hb dL_law_629 rfl (lv_at hl 4 rfl) ?_
  refine lv_aload_n hx hb dL_law_630 rfl (lv_at hl 5 rfl) ?_
  refine lv_iload hx hb dL_law_631 (lv_at hl 0 rfl) ?_
  refine lv_iconst (v := 1) hx hb dL_law_633 (by decide) ?_
  refine lv_iadd hx hb dL_law_634 ?_
  refine va_sld hx hb hX hbl hbA hI.2.2.1 hin1 dL_law_635 ?_
  rw [← ea1]
  refine lv_aload_n hx hb dL_law_636 rfl (lv_at hl 5 rfl) ?_
  refine lv_iload hx hb dL_law_637 (lv_at hl 0 rfl) ?_
  refine lv_iconst (v := 2) hx hb dL_law_639 (by decide) ?_
  refine lv_iadd hx hb dL_law_640 ?_
  refine va_sld hx hb hX hbl hbA hI.2.2.1 hin2 dL_law_641 ?_
  rw [← ea2]
  refine lv_aload_n hx hb dL_law_642 rfl (lv_at hl 2 rfl) ?_
  have hI1 : fI G.2.2.1 A s.heap (jn (jn (xW G.2.2.2 G.2.1 Z S) (oW G.2.2.2 bo f)) (jn (mW G.2.2.2 ad M) (oD G.2.2.2 bd g))) H locs := by rw [FW_w]; exact hI
  refine jx_callH (rest := []) (as := [.ref (Z.A 0 0), .int a1, .int a2, .ref bo]) hx hb hml hts hown hK hE Dj_w hI1 (cL_limitw G hst0 Z S bo f a1 a2 h.1.1) kH_limit ⟨(Nat.le_of_ble_eq_true rfl), (Nat.le_of_ble_eq_true rfl)⟩ hl.1 (Nat.le_of_ble_eq_true rfl) dL_law_643 ⟨by show cells + 2 ≤ 601024; omega, by show slots + 12 ≤ 7293034; omega⟩ (fun v w' H locs hp hI => ?_)
  rcases hp with ⟨x9, w9, ⟨hT, hx9, rfl⟩, rfl, rfl⟩ | ⟨E9, ⟨hT, hw9⟩, rfl, rfl⟩
  · rcases hst with ⟨sT, s29, sx, hR⟩ | ⟨E, sT, -⟩
    rotate_left
    · exact absurd (hT.symm.trans sT) (fun z => nomatch z)
    cases hx9
    rw [FW_w] at hI
    refine lv_istore (lv' := [(6, .int (0)), (5, .int (nI (4 * t))), (4, .ref bd), (3, .ref bo), (2, .ref (ad 0)), (1, .ref (Z.A 0 0)), (0, .ref b)]) hx hb dL_law_646 hl (by decide) rfl (fun ls hl => ?_)
    refine lv_aload_n hx hb dL_law_648 rfl (lv_at hl 4 rfl) ?_
    refine lv_aload_n hx hb dL_law_649 rfl (lv_at hl 6 rfl) ?_
    refine lv_iload hx hb dL_law_650 (lv_at hl 1 rfl) ?_
    refine lv_iconst (v := 1) hx hb dL_law_652 (by decide) ?_
    refine lv_iadd hx hb dL_law_653 ?_
    refine va_sld hx hb hX hbl hbA hI.2.2.1 hin1 dL_law_654 ?_
    rw [← ea1]
    refine lv_aload_n hx hb dL_law_655 rfl (lv_at hl 6 rfl) ?_
    refine lv_iload hx hb dL_law_656 (lv_at hl 1 rfl) ?_
    refine lv_iconst (v := 2) hx hb dL_law_658 (by decide) ?_
    refine lv_iadd hx hb dL_law_659 ?_
    refine va_sld hx hb hX hbl hbA hI.2.2.1 hin2 dL_law_660 ?_
    rw [← ea2]
    have hI2 := hI
    rw [← FW_m] at hI2
    refine jx_callV (rest := []) (as := [.int a1, .int a2]) hx hb hml hts hown hK hE Dj_m hI2 (cM_limit G ad M a1 a2 h.2.1.1) kLM_134 ⟨(Nat.le_of_ble_eq_true rfl), (Nat.le_of_ble_eq_true rfl)⟩ (kk := 4) (ii := 0) rfl rfl rfl hl.1 (Nat.le_of_ble_eq_true rfl) dL_law_661 ⟨by show cells + 2 + 0 ≤ 601024; omega, by show slots + 12 + 0 ≤ 7293034; omega⟩ (fun v w' H locs hp hI => ?_)
    obtain ⟨rfl, rfl⟩ := hp
    rw [FW_m] at hI
    refine lv_istore (lv' := [(7, .int (M_limit M a1 a2).1), (6, .int (0)), (5, .int (nI (4 * t))), (4, .ref bd), (3, .ref bo), (2, .ref (ad 0)), (1, .ref (Z.A 0 0)), (0, .ref b)]) hx hb dL_law_664 hl (by decide) rfl (fun ls hl => ?_)
    refine lv_aload_n hx hb dL_law_666 rfl (lv_at hl 5 rfl) ?_
    have hI3 := hI
    rw [← FW_m] at hI3
    refine jx_callV (rest := []) (as := []) hx hb hml hts hown hK hE Dj_m hI3 (cM_thrown G ad (M_limit M a1 a2).2) kLM_107 ⟨(Nat.le_of_ble_eq_true rfl), (Nat.le_of_ble_eq_true rfl)⟩ (kk := 4) (ii := 0) rfl rfl rfl hl.1 (Nat.le_of_ble_eq_true rfl) dL_law_667 ⟨by show cells + 2 + 0 + 0 ≤ 601024; omega, by show slots + 12 + 0 + 0 ≤ 7293034; omega⟩ (fun v w' H locs hp hI => ?_)
    obtain ⟨rfl, rfl⟩ := hp
    rw [FW_m] at hI
    refine lv_iload (rest := [.int (M_thrown (M_limit M a1 a2).2)]) hx hb dL_law_670 (lv_at hl 1 rfl) ?_
    refine lv_icmp_eq (tgt := 677) hx hb dL_law_672 (by decide) (fun _ => ?_) (fun h0 => absurd s29 h0)
    refine lv_iload hx hb dL_law_677 (lv_at hl 1 rfl) ?_
    refine lv_if_ne (tgt := 694) hx hb dL_law_679 (by decide) (fun h0 => absurd rfl h0) (fun _ => ?_)
    refine lv_aload_n hx hb dL_law_682 rfl (lv_at hl 4 rfl) ?_
    refine lv_iconst (v := 0) hx hb dL_law_683 (by decide) ?_
    refine fx_lald (k := 10) (j := 0) (n := 1) hx hb hK hI FW_10 (i := 0) (by unfold vp_in; decide) dL_law_684 ?_
    refine lv_iload hx hb dL_law_685 (lv_at hl 0 rfl) ?_
    refine lv_i2l hx hb dL_law_687 rfl ?_
    refine W.lcmp hx hb dL_law_688 ?_
    refine lv_if_eq (tgt := 694) hx hb dL_law_689 (by decide) (fun _ => ?_) (fun h0 => absurd (cmpI sx) h0)
    refine lv_goto (tgt := 1899) hx hb dL_law_694 (by decide) ?_
    refine W.widen (k := cells + 5) (n := slots + 802) (by show cells + 2 + 0 + 0 ≤ cells + 5; omega) (by show slots + 12 + 0 + 0 ≤ slots + 802; omega) ?_
    exact K _ _ _ _ _ _ _ _ hR rfl hI (lv_sub hl [2, 3, 4, 5, 6, 7] rfl)
  · rcases hst with ⟨sT, -⟩ | ⟨E, sT, s29, hR⟩
    · exact absurd (hT.symm.trans sT) (fun z => nomatch z)
    have hEE : E = E9 := Option.some.inj (sT.symm.trans hT)
    subst hEE
    rw [FW_w] at hI
    refine lv_istore (lv' := [(6, .int (cdL EIOB EIAE E)), (5, .int (nI (4 * t))), (4, .ref bd), (3, .ref bo), (2, .ref (ad 0)), (1, .ref (Z.A 0 0)), (0, .ref b)]) hx hb dL_law_646 hl (by decide) rfl (fun ls hl => ?_)
    refine lv_aload_n hx hb dL_law_648 rfl (lv_at hl 4 rfl) ?_
    refine lv_aload_n hx hb dL_law_649 rfl (lv_at hl 6 rfl) ?_
    refine lv_iload hx hb dL_law_650 (lv_at hl 1 rfl) ?_
    refine lv_iconst (v := 1) hx hb dL_law_652 (by decide) ?_
    refine lv_iadd hx hb dL_law_653 ?_
    refine va_sld hx hb hX hbl hbA hI.2.2.1 hin1 dL_law_654 ?_
    rw [← ea1]
    refine lv_aload_n hx hb dL_law_655 rfl (lv_at hl 6 rfl) ?_
    refine lv_iload hx hb dL_law_656 (lv_at hl 1 rfl) ?_
    refine lv_iconst (v := 2) hx hb dL_law_658 (by decide) ?_
    refine lv_iadd hx hb dL_law_659 ?_
    refine va_sld hx hb hX hbl hbA hI.2.2.1 hin2 dL_law_660 ?_
    rw [← ea2]
    have hI2 := hI
    rw [← FW_m] at hI2
    refine jx_callV (rest := []) (as := [.int a1, .int a2]) hx hb hml hts hown hK hE Dj_m hI2 (cM_limit G ad M a1 a2 h.2.1.1) kLM_134 ⟨(Nat.le_of_ble_eq_true rfl), (Nat.le_of_ble_eq_true rfl)⟩ (kk := 4) (ii := 0) rfl rfl rfl hl.1 (Nat.le_of_ble_eq_true rfl) dL_law_661 ⟨by show cells + 2 + 0 ≤ 601024; omega, by show slots + 12 + 0 ≤ 7293034; omega⟩ (fun v w' H locs hp hI => ?_)
    obtain ⟨rfl, rfl⟩ := hp
    rw [FW_m] at hI
    refine lv_istore (lv' := [(7, .int (M_limit M a1 a2).1), (6, .int (cdL EIOB EIAE E)), (5, .int (nI (4 * t))), (4, .ref bd), (3, .ref bo), (2, .ref (ad 0)), (1, .ref (Z.A 0 0)), (0, .ref b)]) hx hb dL_law_664 hl (by decide) rfl (fun ls hl => ?_)
    refine lv_aload_n hx hb dL_law_666 rfl (lv_at hl 5 rfl) ?_
    have hI3 := hI
    rw [← FW_m] at hI3
    refine jx_callV (rest := []) (as := []) hx hb hml hts hown hK hE Dj_m hI3 (cM_thrown G ad (M_limit M a1 a2).2) kLM_107 ⟨(Nat.le_of_ble_eq_true rfl), (Nat.le_of_ble_eq_true rfl)⟩ (kk := 4) (ii := 0) rfl rfl rfl hl.1 (Nat.le_of_ble_eq_true rfl) dL_law_667 ⟨by show cells + 2 + 0 + 0 ≤ 601024; omega, by show slots + 12 + 0 + 0 ≤ 7293034; omega⟩ (fun v w' H locs hp hI => ?_)
    obtain ⟨rfl, rfl⟩ := hp
    rw [FW_m] at hI
    refine lv_iload (rest := [.int (M_thrown (M_limit M a1 a2).2)]) hx hb dL_law_670 (lv_at hl 1 rfl) ?_
    refine lv_icmp_eq (tgt := 677) hx hb dL_law_672 (by decide) (fun _ => ?_) (fun h0 => absurd s29 h0)
    refine lv_iload hx hb dL_law_677 (lv_at hl 1 rfl) ?_
    refine lv_if_ne (tgt := 694) hx hb dL_law_679 (by decide) (fun _ => ?_) (fun h0 => absurd h0 cdL_ne)
    refine lv_goto (tgt := 1899) hx hb dL_law_694 (by decide) ?_
    refine W.widen (k := cells + 5) (n := slots + 802) (by show cells + 2 + 0 + 0 ≤ cells + 5; omega) (by show slots + 12 + 0 + 0 ≤ slots + 802; omega) ?_
    exact K _ _ _ _ _ _ _ _ hR rfl hI (lv_sub hl [2, 3, 4, 5, 6, 7] rfl)
theorem kLM_137 : CkV "IcehighwayLaw" 137 yX4_gap cX4_gap 3 (some .int) 1 := ⟨q910, q907, q908, q909, q5, by decide +kernel⟩
set_option maxHeartbeats 4000000 in
set_option maxRecDepth 100000 in
theorem law_c8 {p : Program} {e : Env} {s : State} {m : MethodId} {below : List Frame} {meth : Method} {c : Code} {b L : Nat} {xs : Nat → Int32} {Q : State → Prop} {G : GX} {A : Nat → Prop} (C0 : LCtx p s m c b L xs G A) (hL : L ≤ 2048) {t : Nat} (hi : 4 * t + 4 ≤ L) {Z : XZ} {S : XS} {M : MS} {ad : Nat → Nat} {bo bd : Nat} {f : Nat → Int64} {g : Nat → UInt64} {H : Heap} {locs : List Loc} {ls : Array Slot} {cells slots : Nat} (h : RXA Z S M t) (hI : fI G.2.2.1 A s.heap (FW G.2.2.2 G.2.1 Z S ad M bo f bd g) H locs) (hl : lv_has ls 9 [(5, .int (nI (4 * t))), (4, .ref bd), (3, .ref bo), (2, .ref (ad 0)), (1, .ref (Z.A 0 0)), (0, .ref b)]) (hcs : cells + 5 ≤ 601024 ∧ slots + 802 ≤ 7293034) (K : LK p e s m below meth c b Q G A ad bo bd (Z.A 0 0) t cells slots) : W p G.1 e room_1 s m #[Value.ref b] below meth c H locs cells slots Q (F0 m 697 ls []) := by
  obtain ⟨hx, hb, hml, hts, hown, hK, hE, hX, hbl, hbA, hst0⟩ := C0
  have ht : t < 512 := by omega
  obtain ⟨a1, ea1⟩ : ∃ z, z = xs (nI (4 * t) + 1).toNatClampNeg := ⟨_, rfl⟩
  have hin1 : vp_in (nI (4 * t) + 1) L := sc_in (k := 1) rfl (by omega) hL
  have hst := st_gapA h ht a1
  refine lv_aload_n hx hb dL_law_697 rfl (lv_at hl 4 rfl) ?_
  refine lv_aload_n hx hb dL_law_698 rfl (lv_at hl 5 rfl) ?_
  refine lv_iload hx hb dL_law_699 (lv_at hl 0 rfl) ?_
  refine lv_iconst (v := 1) hx hb dL_law_701 (by decide) ?_
  refine lv_iadd hx hb dL_law_702 ?_
  refine va_sld hx hb hX hbl hbA hI.2.2.1 hin1 dL_law_703 ?_
  rw [← ea1]
  refine lv_aload_n hx hb dL_law_704 rfl (lv_at hl 2 rfl) ?_
  have hI1 : fI G.2.2.1 A s.heap (jn (jn (xW G.2.2.2 G.2.1 Z S) (oW G.2.2.2 bo f)) (jn (mW G.2.2.2 ad M) (oD G.2.2.2 bd g))) H locs := by rw [FW_w]; exact hI
  refine jx_callH (rest := []) (as := [.ref (Z.A 0 0), .int a1, .ref bo]) hx hb hml hts hown hK hE Dj_w hI1 (cL_gapw G hst0 Z S bo f a1) kH_gap ⟨(Nat.le_of_ble_eq_true rfl), (Nat.le_of_ble_eq_true rfl)⟩ hl.1 (Nat.le_of_ble_eq_true rfl) dL_law_705 ⟨by show cells + 1 ≤ 601024; omega, by show slots + 6 ≤ 7293034; omega⟩ (fun v w' H locs hp hI => ?_)
  rcases hp with ⟨x9, w9, ⟨hT, hx9, rfl⟩, rfl, rfl⟩ | ⟨E9, ⟨hT, hw9⟩, rfl, rfl⟩
  · rcases hst with ⟨sT, s29, sx, hR⟩ | ⟨E, sT, -⟩
    rotate_left
    · exact absurd (hT.symm.trans sT) (fun z => nomatch z)
    cases hx9
    rw [FW_w] at hI
    refine lv_istore (lv' := [(6, .int (0)), (5, .int (nI (4 * t))), (4, .ref bd), (3, .ref bo), (2, .ref (ad 0)), (1, .ref (Z.A 0 0)), (0, .ref b)]) hx hb dL_law_708 hl (by decide) rfl (fun ls hl => ?_)
    refine lv_aload_n hx hb dL_law_710 rfl (lv_at hl 4 rfl) ?_
    refine lv_aload_n hx hb dL_law_711 rfl (lv_at hl 6 rfl) ?_
    refine lv_iload hx hb dL_law_712 (lv_at hl 1 rfl) ?_
    refine lv_iconst (v := 1) hx hb dL_law_714 (by decide) ?_
    refine lv_iadd hx hb dL_law_715 ?_
    refine va_sld hx hb hX hbl hbA hI.2.2.1 hin1 dL_law_716 ?_
    rw [← ea1]
    have hI2 := hI
    rw [← FW_m] at hI2
    refine jx_callV (rest := []) (as := [.int a1]) hx hb hml hts hown hK hE Dj_m hI2 (cM_gap G ad M a1) kLM_137 ⟨(Nat.le_of_ble_eq_true rfl), (Nat.le_of_ble_eq_true rfl)⟩ (kk := 4) (ii := 0) rfl rfl rfl hl.1 (Nat.le_of_ble_eq_true rfl) dL_law_717 ⟨by show cells + 1 + 0 ≤ 601024; omega, by show slots + 6 + 0 ≤ 7293034; omega⟩ (fun v w' H locs hp hI => ?_)
    obtain ⟨rfl, rfl⟩ := hp
    rw [FW_m] at hI
    refine lv_istore (lv' := [(7, .int (M_gap M a1).1), (6, .int (0)), (5, .int (nI (4 * t))), (4, .ref bd), (3, .ref bo), (2, .ref (ad 0)), (1, .ref (Z.A 0 0)), (0, .ref b)]) hx hb dL_law_720 hl (by decide) rfl (fun ls hl => ?_)
    refine lv_aload_n hx hb dL_law_722 rfl (lv_at hl 5 rfl) ?_
    have hI3 := hI
    rw [← FW_m] at hI3
    refine jx_callV (rest := []) (as := []) hx hb hml hts hown hK hE Dj_m hI3 (cM_thrown G ad (M_gap M a1).2) kLM_107 ⟨(Nat.le_of_ble_eq_true rfl), (Nat.le_of_ble_eq_true rfl)⟩ (kk := 4) (ii := 0) rfl rfl rfl hl.1 (Nat.le_of_ble_eq_true rfl) dL_law_723 ⟨by show cells + 1 + 0 + 0 ≤ 601024; omega, by show slots + 6 + 0 + 0 ≤ 7293034; omega⟩ (fun v w' H locs hp hI => ?_)
    obtain ⟨rfl, rfl⟩ := hp
    rw [FW_m] at hI
    refine lv_iload (rest := [.int (M_thrown (M_gap M a1).2)]) hx hb dL_law_726 (lv_at hl 1 rfl) ?_
    refine lv_icmp_eq (tgt := 733) hx hb dL_law_728 (by decide) (fun _ => ?_) (fun h0 => absurd s29 h0)
    refine lv_iload hx hb dL_law_733 (lv_at hl 1 rfl) ?_
    refine lv_if_ne (tgt := 750) hx hb dL_law_735 (by decide) (fun h0 => absurd rfl h0) (fun _ => ?_)
    refine lv_aload_n hx hb dL_law_738 rfl (lv_at hl 4 rfl) ?_
    refine lv_iconst (v := 0) hx hb dL_law_739 (by decide) ?_
    refine fx_lald (k := 10) (j := 0) (n := 1) hx hb hK hI FW_10 (i := 0) (by unfold vp_in; decide) dL_law_740 ?_
    refine lv_iload hx hb dL_law_741 (lv_at hl 0 rfl) ?_
    refine lv_i2l hx hb dL_law_743 rfl ?_
    refine W.lcmp hx hb dL_law_744 ?_
    refine lv_if_eq (tgt := 750) hx hb dL_law_745 (by decide) (fun _ => ?_) (fun h0 => absurd (cmpI sx) h0)
    refine lv_goto (tgt := 1899) hx hb dL_law_750 (by decide) ?_
    refine W.widen (k := cells + 5) (n := slots + 802) (by show cells + 1 + 0 + 0 ≤ cells + 5; omega) (by show slots + 6 + 0 + 0 ≤ slots + 802; omega) ?_
    exact K _ _ _ _ _ _ _ _ hR rfl hI (lv_sub hl [2, 3, 4, 5, 6, 7] rfl)
  · rcases hst with ⟨sT, -⟩ | ⟨E, sT, s29, hR⟩
    · exact absurd (hT.symm.trans sT) (fun z => nomatch z)
    have hEE : E = E9 := Option.some.inj (sT.symm.trans hT)
    subst hEE
    rw [FW_w] at hI
    refine lv_istore (lv' := [(6, .int (cdL EIAE "" E)), (5, .int (nI (4 * t))), (4, .ref bd), (3, .ref bo), (2, .ref (ad 0)), (1, .ref (Z.A 0 0)), (0, .ref b)]) hx hb dL_law_708 hl (by decide) rfl (fun ls hl => ?_)
    refine lv_aload_n hx hb dL_law_710 rfl (lv_at hl 4 rfl) ?_
    refine lv_aload_n hx hb dL_law_711 rfl (lv_at hl 6 rfl) ?_
    refine lv_iload hx hb dL_law_712 (lv_at hl 1 rfl) ?_
    refine lv_iconst (v := 1) hx hb dL_law_714 (by decide) ?_
    refine lv_iadd hx hb dL_law_715 ?_
    refine va_sld hx hb hX hbl hbA hI.2.2.1 hin1 dL_law_716 ?_
    rw [← ea1]
    have hI2 := hI
    rw [← FW_m] at hI2
    refine jx_callV (rest := []) (as := [.int a1]) hx hb hml hts hown hK hE Dj_m hI2 (cM_gap G ad M a1) kLM_137 ⟨(Nat.le_of_ble_eq_true rfl), (Nat.le_of_ble_eq_true rfl)⟩ (kk := 4) (ii := 0) rfl rfl rfl hl.1 (Nat.le_of_ble_eq_true rfl) dL_law_717 ⟨by show cells + 1 + 0 ≤ 601024; omega, by show slots + 6 + 0 ≤ 7293034; omega⟩ (fun v w' H locs hp hI => ?_)
    obtain ⟨rfl, rfl⟩ := hp
    rw [FW_m] at hI
    refine lv_istore (lv' := [(7, .int (M_gap M a1).1), (6, .int (cdL EIAE "" E)), (5, .int (nI (4 * t))), (4, .ref bd), (3, .ref bo), (2, .ref (ad 0)), (1, .ref (Z.A 0 0)), (0, .ref b)]) hx hb dL_law_720 hl (by decide) rfl (fun ls hl => ?_)
    refine lv_aload_n hx hb dL_law_722 rfl (lv_at hl 5 rfl) ?_
    have hI3 := hI
    rw [← FW_m] at hI3
    refine jx_callV (rest := []) (as := []) hx hb hml hts hown hK hE Dj_m hI3 (cM_thrown G ad (M_gap M a1).2) kLM_107 ⟨(Nat.le_of_ble_eq_true rfl), (Nat.le_of_ble_eq_true rfl)⟩ (kk := 4) (ii := 0) rfl rfl rfl hl.1 (Nat.le_of_ble_eq_true rfl) dL_law_723 ⟨by show cells + 1 + 0 + 0 ≤ 601024; omega, by show slots + 6 + 0 + 0 ≤ 7293034; omega⟩ (fun v w' H locs hp hI => ?_)
    obtain ⟨rfl, rfl⟩ := hp
    rw [FW_m] at hI
    refine lv_iload (rest := [.int (M_thrown (M_gap M a1).2)]) hx hb dL_law_726 (lv_at hl 1 rfl) ?_
    refine lv_icmp_eq (tgt := 733) hx hb dL_law_728 (by decide) (fun _ => ?_) (fun h0 => absurd s29 h0)
    refine lv_iload hx hb dL_law_733 (lv_at hl 1 rfl) ?_
    refine lv_if_ne (tgt := 750) hx hb dL_law_735 (by decide) (fun _ => ?_) (fun h0 => absurd h0 cdL_ne)
    refine lv_goto (tgt := 1899) hx hb dL_law_750 (by decide) ?_
    refine W.widen (k := cells + 5) (n := slots + 802) (by show cells + 1 + 0 + 0 ≤ cells + 5; omega) (by show slots + 6 + 0 + 0 ≤ slots + 802; omega) ?_
    exact K _ _ _ _ _ _ _ _ hR rfl hI (lv_sub hl [2, 3, 4, 5, 6, 7] rfl)
theorem kLM_140 : CkV "IcehighwayLaw" 140 yX4_vehicle cX4_vehicle 5 (some .int) 3 := ⟨q914, q911, q912, q913, q5, by decide +kernel⟩
set_option maxHeartbeats 4000000 in
set_option maxRecDepth 100000 in
theorem law_c9 {p : Program} {e : Env} {s : State} {m : MethodId} {below : List Frame} {meth : Method} {c : Code} {b L : Nat} {xs : Nat → Int32} {Q : State → Prop} {G : GX} {A : Nat → Prop} (C0 : LCtx p s m c b L xs G A) (hL : L ≤ 2048) {t : Nat} (hi : 4 * t + 4 ≤ L) {Z : XZ} {S : XS} {M : MS} {ad : Nat → Nat} {bo bd : Nat} {f : Nat → Int64} {g : Nat → UInt64} {H : Heap} {locs : List Loc} {ls : Array Slot} {cells slots : Nat} (h : RXA Z S M t) (hI : fI G.2.2.1 A s.heap (FW G.2.2.2 G.2.1 Z S ad M bo f bd g) H locs) (hl : lv_has ls 9 [(5, .int (nI (4 * t))), (4, .ref bd), (3, .ref bo), (2, .ref (ad 0)), (1, .ref (Z.A 0 0)), (0, .ref b)]) (hcs : cells + 5 ≤ 601024 ∧ slots + 802 ≤ 7293034) (K : LK p e s m below meth c b Q G A ad bo bd (Z.A 0 0) t cells slots) : W p G.1 e room_1 s m #[Value.ref b] below meth c H locs cells slots Q (F0 m 753 ls []) := by
  obtain ⟨hx, hb, hml, hts, hown, hK, hE, hX, hbl, hbA, hst0⟩ := C0
  have ht : t < 512 := by omega
  obtain ⟨a1, ea1⟩ : ∃ z, z = xs (nI (4 * t) + 1).toNatClampNeg := ⟨_, rfl⟩
  have hin1 : vp_in (nI (4 * t) + 1) L := sc_in (k := 1) rfl (by omega) hL
  obtain ⟨a2, ea2⟩ : ∃ z, z = xs (nI (4 * t) + 2).toNatClampNeg := ⟨_, rfl⟩
  have hin2 : vp_in (nI (4 * t) + 2) L := sc_in (k := 2) rfl (by omega) hL
  obtain ⟨a3, ea3⟩ : ∃ z, z = xs (nI (4 * t) + 3).toNatClampNeg := ⟨_, rfl⟩
  have hin3 : vp_in (nI (4 * t) + 3) L := sc_in (k := 3) rfl (by omega) hL
  have hst := st_vehicle h ht a1 a2 a3
  refine lv_aload_n hx hb dL_law_753 rfl (lv_at hl 4 rfl) ?_
  refine lv_aload_n hx hb dL_law_754 rfl (lv_at hl 5 rfl) ?_
  refine lv_iload hx hb dL_law_755 (lv_at hl 0 rfl) ?_
  refine lv_iconst (v := 1) hx hb dL_law_757 (by decide) ?_
  refine lv_iadd hx hb dL_law_758 ?_
  refine va_sld hx hb hX hbl hbA hI.2.2.1 hin1 dL_law_759 ?_
  rw [← ea1]
  refine lv_aload_n hx hb dL_law_760 rfl (lv_at hl 5 rfl) ?_
  refine lv_iload hx hb dL_law_761 (lv_at hl 0 rfl) ?_
  refine lv_iconst (v := 2) hx hb dL_law_763 (by decide) ?_
  refine lv_iadd hx hb dL_law_764 ?_
  refine va_sld hx hb hX hbl hbA hI.2.2.1 hin2 dL_law_765 ?_
  rw [← ea2]
  refine lv_aload_n hx hb dL_law_766 rfl (lv_at hl 5 rfl) ?_
  refine lv_iload hx hb dL_law_767 (lv_at hl 0 rfl) ?_
  refine lv_iconst (v := 3) hx hb dL_law_769 (by decide) ?_
  refine lv_iadd hx hb dL_law_770 ?_
  refine va_sld hx hb hX hbl hbA hI.2.2.1 hin3 dL_law_771 ?_
  rw [← ea3]
  refine lv_aload_n hx hb dL_law_772 rfl (lv_at hl 2 rfl) ?_
  have hI1 : fI G.2.2.1 A s.heap (jn (jn (xW G.2.2.2 G.2.1 Z S) (oW G.2.2.2 bo f)) (jn (mW G.2.2.2 ad M) (oD G.2.2.2 bd g))) H locs := by rw [FW_w]; exact hI
  refine jx_callH (rest := []) (as := [.ref (Z.A 0 0), .int a1, .int a2, .int a3, .ref bo]) hx hb hml hts hown hK hE Dj_w hI1 (cL_vehiclew G hst0 Z S bo f a1 a2 a3 h.1.1 h.1.2.1) kH_vehicle ⟨(Nat.le_of_ble_eq_true rfl), (Nat.le_of_ble_eq_true rfl)⟩ hl.1 (Nat.le_of_ble_eq_true rfl) dL_law_773 ⟨by show cells + 5 ≤ 601024; omega, by show slots + 794 ≤ 7293034; omega⟩ (fun v w' H locs hp hI => ?_)
  rcases hp with ⟨x9, w9, ⟨hT, hx9, h1, h2, rfl⟩, rfl, rfl⟩ | ⟨E9, ⟨hT, hw9⟩, rfl, rfl⟩
  · rcases hst with ⟨sT, s29, sx, hR⟩ | ⟨E, sT, -⟩
    rotate_left
    · exact absurd (hT.symm.trans sT) (fun z => nomatch z)
    cases hx9
    have hR := hR h1 h2
    rw [FW_w] at hI
    refine lv_istore (lv' := [(6, .int (0)), (5, .int (nI (4 * t))), (4, .ref bd), (3, .ref bo), (2, .ref (ad 0)), (1, .ref (Z.A 0 0)), (0, .ref b)]) hx hb dL_law_776 hl (by decide) rfl (fun ls hl => ?_)
    refine lv_aload_n hx hb dL_law_778 rfl (lv_at hl 4 rfl) ?_
    refine lv_aload_n hx hb dL_law_779 rfl (lv_at hl 6 rfl) ?_
    refine lv_iload hx hb dL_law_780 (lv_at hl 1 rfl) ?_
    refine lv_iconst (v := 1) hx hb dL_law_782 (by decide) ?_
    refine lv_iadd hx hb dL_law_783 ?_
    refine va_sld hx hb hX hbl hbA hI.2.2.1 hin1 dL_law_784 ?_
    rw [← ea1]
    refine lv_aload_n hx hb dL_law_785 rfl (lv_at hl 6 rfl) ?_
    refine lv_iload hx hb dL_law_786 (lv_at hl 1 rfl) ?_
    refine lv_iconst (v := 2) hx hb dL_law_788 (by decide) ?_
    refine lv_iadd hx hb dL_law_789 ?_
    refine va_sld hx hb hX hbl hbA hI.2.2.1 hin2 dL_law_790 ?_
    rw [← ea2]
    refine lv_aload_n hx hb dL_law_791 rfl (lv_at hl 6 rfl) ?_
    refine lv_iload hx hb dL_law_792 (lv_at hl 1 rfl) ?_
    refine lv_iconst (v := 3) hx hb dL_law_794 (by decide) ?_
    refine lv_iadd hx hb dL_law_795 ?_
    refine va_sld hx hb hX hbl hbA hI.2.2.1 hin3 dL_law_796 ?_
    rw [← ea3]
    have hI2 := hI
    rw [← FW_m] at hI2
    refine jx_callV (rest := []) (as := [.int a1, .int a2, .int a3]) hx hb hml hts hown hK hE Dj_m hI2 (cM_vehicle G ad M a1 a2 a3 h.2.1.1) kLM_140 ⟨(Nat.le_of_ble_eq_true rfl), (Nat.le_of_ble_eq_true rfl)⟩ (kk := 4) (ii := 0) rfl rfl rfl hl.1 (Nat.le_of_ble_eq_true rfl) dL_law_797 ⟨by show cells + 5 + 0 ≤ 601024; omega, by show slots + 794 + 0 ≤ 7293034; omega⟩ (fun v w' H locs hp hI => ?_)
    obtain ⟨rfl, rfl⟩ := hp
    rw [FW_m] at hI
    refine lv_istore (lv' := [(7, .int (M_vehicle M a1 a2 a3).1), (6, .int (0)), (5, .int (nI (4 * t))), (4, .ref bd), (3, .ref bo), (2, .ref (ad 0)), (1, .ref (Z.A 0 0)), (0, .ref b)]) hx hb dL_law_800 hl (by decide) rfl (fun ls hl => ?_)
    refine lv_aload_n hx hb dL_law_802 rfl (lv_at hl 5 rfl) ?_
    have hI3 := hI
    rw [← FW_m] at hI3
    refine jx_callV (rest := []) (as := []) hx hb hml hts hown hK hE Dj_m hI3 (cM_thrown G ad (M_vehicle M a1 a2 a3).2) kLM_107 ⟨(Nat.le_of_ble_eq_true rfl), (Nat.le_of_ble_eq_true rfl)⟩ (kk := 4) (ii := 0) rfl rfl rfl hl.1 (Nat.le_of_ble_eq_true rfl) dL_law_803 ⟨by show cells + 5 + 0 + 0 ≤ 601024; omega, by show slots + 794 + 0 + 0 ≤ 7293034; omega⟩ (fun v w' H locs hp hI => ?_)
    obtain ⟨rfl, rfl⟩ := hp
    rw [FW_m] at hI
    refine lv_iload (rest := [.int (M_thrown (M_vehicle M a1 a2 a3).2)]) hx hb dL_law_806 (lv_at hl 1 rfl) ?_
    refine lv_icmp_eq (tgt := 813) hx hb dL_law_808 (by decide) (fun _ => ?_) (fun h0 => absurd s29 h0)
    refine lv_iload hx hb dL_law_813 (lv_at hl 1 rfl) ?_
    refine lv_if_ne (tgt := 830) hx hb dL_law_815 (by decide) (fun h0 => absurd rfl h0) (fun _ => ?_)
    refine lv_aload_n hx hb dL_law_818 rfl (lv_at hl 4 rfl) ?_
    refine lv_iconst (v := 0) hx hb dL_law_819 (by decide) ?_
    refine fx_lald (k := 10) (j := 0) (n := 1) hx hb hK hI FW_10 (i := 0) (by unfold vp_in; decide) dL_law_820 ?_
    refine lv_iload hx hb dL_law_821 (lv_at hl 0 rfl) ?_
    refine lv_i2l hx hb dL_law_823 rfl ?_
    refine W.lcmp hx hb dL_law_824 ?_
    refine lv_if_eq (tgt := 830) hx hb dL_law_825 (by decide) (fun _ => ?_) (fun h0 => absurd (cmpI sx) h0)
    refine lv_goto (tgt := 1899) hx hb dL_law_830 (by decide) ?_
    refine W.widen (k := cells + 5) (n := slots + 802) (by show cells + 5 + 0 + 0 ≤ cells + 5; omega) (by show slots + 794 + 0 + 0 ≤ slots + 802; omega) ?_
    exact K _ _ _ _ _ _ _ _ hR (zA_A (by decide) (by decide)) hI (lv_sub hl [2, 3, 4, 5, 6, 7] rfl)
  · rcases hst with ⟨sT, -⟩ | ⟨E, sT, s29, hR⟩
    · exact absurd (hT.symm.trans sT) (fun z => nomatch z)
    have hEE : E = E9 := Option.some.inj (sT.symm.trans hT)
    subst hEE
    rw [FW_w] at hI
    refine lv_istore (lv' := [(6, .int (cdL EIAE EISE E)), (5, .int (nI (4 * t))), (4, .ref bd), (3, .ref bo), (2, .ref (ad 0)), (1, .ref (Z.A 0 0)), (0, .ref b)]) hx hb dL_law_776 hl (by decide) rfl (fun ls hl => ?_)
    refine lv_aload_n hx hb dL_law_778 rfl (lv_at hl 4 rfl) ?_
    refine lv_aload_n hx hb dL_law_779 rfl (lv_at hl 6 rfl) ?_
    refine lv_iload hx hb dL_law_780 (lv_at hl 1 rfl) ?_
    refine lv_iconst (v := 1) hx hb dL_law_782 (by decide) ?_
    refine lv_iadd hx hb dL_law_783 ?_
    refine va_sld hx hb hX hbl hbA hI.2.2.1 hin1 dL_law_784 ?_
    rw [← ea1]
    refine lv_aload_n hx hb dL_law_785 rfl (lv_at hl 6 rfl) ?_
    refine lv_iload hx hb dL_law_786 (lv_at hl 1 rfl) ?_
    refine lv_iconst (v := 2) hx hb dL_law_788 (by decide) ?_
    refine lv_iadd hx hb dL_law_789 ?_
    refine va_sld hx hb hX hbl hbA hI.2.2.1 hin2 dL_law_790 ?_
    rw [← ea2]
    refine lv_aload_n hx hb dL_law_791 rfl (lv_at hl 6 rfl) ?_
    refine lv_iload hx hb dL_law_792 (lv_at hl 1 rfl) ?_
    refine lv_iconst (v := 3) hx hb dL_law_794 (by decide) ?_
    refine lv_iadd hx hb dL_law_795 ?_
    refine va_sld hx hb hX hbl hbA hI.2.2.1 hin3 dL_law_796 ?_
    rw [← ea3]
    have hI2 := hI
    rw [← FW_m] at hI2
    refine jx_callV (rest := []) (as := [.int a1, .int a2, .int a3]) hx hb hml hts hown hK hE Dj_m hI2 (cM_vehicle G ad M a1 a2 a3 h.2.1.1) kLM_140 ⟨(Nat.le_of_ble_eq_true rfl), (Nat.le_of_ble_eq_true rfl)⟩ (kk := 4) (ii := 0) rfl rfl rfl hl.1 (Nat.le_of_ble_eq_true rfl) dL_law_797 ⟨by show cells + 5 + 0 ≤ 601024; omega, by show slots + 794 + 0 ≤ 7293034; omega⟩ (fun v w' H locs hp hI => ?_)
    obtain ⟨rfl, rfl⟩ := hp
    rw [FW_m] at hI
    refine lv_istore (lv' := [(7, .int (M_vehicle M a1 a2 a3).1), (6, .int (cdL EIAE EISE E)), (5, .int (nI (4 * t))), (4, .ref bd), (3, .ref bo), (2, .ref (ad 0)), (1, .ref (Z.A 0 0)), (0, .ref b)]) hx hb dL_law_800 hl (by decide) rfl (fun ls hl => ?_)
    refine lv_aload_n hx hb dL_law_802 rfl (lv_at hl 5 rfl) ?_
    have hI3 := hI
    rw [← FW_m] at hI3
    refine jx_callV (rest := []) (as := []) hx hb hml hts hown hK hE Dj_m hI3 (cM_thrown G ad (M_vehicle M a1 a2 a3).2) kLM_107 ⟨(Nat.le_of_ble_eq_true rfl), (Nat.le_of_ble_eq_true rfl)⟩ (kk := 4) (ii := 0) rfl rfl rfl hl.1 (Nat.le_of_ble_eq_true rfl) dL_law_803 ⟨by show cells + 5 + 0 + 0 ≤ 601024; omega, by show slots + 794 + 0 + 0 ≤ 7293034; omega⟩ (fun v w' H locs hp hI => ?_)
    obtain ⟨rfl, rfl⟩ := hp
    rw [FW_m] at hI
    refine lv_iload (rest := [.int (M_thrown (M_vehicle M a1 a2 a3).2)]) hx hb dL_law_806 (lv_at hl 1 rfl) ?_
    refine lv_icmp_eq (tgt := 813) hx hb dL_law_808 (by decide) (fun _ => ?_) (fun h0 => absurd s29 h0)
    refine lv_iload hx hb dL_law_813 (lv_at hl 1 rfl) ?_
    refine lv_if_ne (tgt := 830) hx hb dL_law_815 (by decide) (fun _ => ?_) (fun h0 => absurd h0 cdL_ne)
    refine lv_goto (tgt := 1899) hx hb dL_law_830 (by decide) ?_
    refine W.widen (k := cells + 5) (n := slots + 802) (by show cells + 5 + 0 + 0 ≤ cells + 5; omega) (by show slots + 794 + 0 + 0 ≤ slots + 802; omega) ?_
    exact K _ _ _ _ _ _ _ _ hR rfl hI (lv_sub hl [2, 3, 4, 5, 6, 7] rfl)
