/-! ===== the law's loop ===== -/
theorem and31 (x : Int32) : ∃ n : Nat, n < 32 ∧ x &&& 31 = nI n := by
  refine ⟨(x &&& 31).toBitVec.toNat, ?_, ?_⟩
  · have e : (x &&& 31).toBitVec = x.toBitVec &&& (31 : Int32).toBitVec := Int32.toBitVec_and x 31
    rw [e, BitVec.toNat_and]
    exact Nat.lt_of_le_of_lt Nat.and_le_right (by decide)
  · apply Int32.toBitVec_inj.mp
    show (x &&& 31).toBitVec = (Int32.ofNat _).toBitVec
    rw [Int32.toBitVec_ofNat', BitVec.ofNat_toNat, BitVec.setWidth_eq]
set_option maxHeartbeats 4000000 in
set_option maxRecDepth 100000 in
theorem law_head {p : Program} {e : Env} {s : State} {m : MethodId} {below : List Frame} {meth : Method} {c : Code} {b L : Nat} {xs : Nat → Int32} {Q : State → Prop} {G : GX} {A : Nat → Prop} (C0 : LCtx p s m c b L xs G A) (hL : L ≤ 2048) (KE : ∀ (H : Heap) (locs : List Loc) (ls : Array Slot) (cells slots : Nat), va_S A s.heap H locs → cells ≤ 601024 → slots ≤ 7293034 → W p G.1 e room_1 s m #[Value.ref b] below meth c H locs cells slots Q (F0 m 1905 ls [])) {t : Nat} (ht : t ≤ 512) {H : Heap} {locs : List Loc} {ls : Array Slot} {cells slots : Nat} {ad : Nat → Nat} {bo bd x0 : Nat} (hS : va_S A s.heap H locs) (hl : lv_has ls 9 [(5, .int (nI (4 * t))), (4, .ref bd), (3, .ref bo), (2, .ref (ad 0)), (1, .ref x0), (0, .ref b)]) (hc : cells ≤ 601024 ∧ slots ≤ 7293034) (K : 4 * t + 4 ≤ L → W p G.1 e room_1 s m #[Value.ref b] below meth c H locs cells slots Q (F0 m 37 ls [])) : W p G.1 e room_1 s m #[Value.ref b] below meth c H locs cells slots Q (F0 m 28 ls []) := by
  obtain ⟨hx, hb, hml, hts, hown, hK, hE, hX, hbl, hbA, hst0⟩ := C0
  refine lv_iload hx hb dL_law_28 (lv_at hl 0 rfl) ?_
  refine lv_aload_n hx hb dL_law_30 rfl (lv_at hl 5 rfl) ?_
  refine va_slen hx hb hX hbl hbA hS dL_law_31 ?_
  refine lv_iconst (v := 4) hx hb dL_law_32 (by decide) ?_
  refine lv_isub hx hb dL_law_33 ?_
  have e1 : (Int32.ofNat L - 4).toInt = (L : Int) - 4 := by
    have e0 : (Int32.ofNat L).toInt = (L : Int) := nI_toInt (n := L) (by omega)
    rw [Int32.toInt_sub, e0, show (4 : Int32).toInt = 4 by decide, Int.bmod_eq_of_le (by omega) (by omega)]
  have e2 : (nI (4 * t)).toInt = 4 * (t : Int) := by rw [nI_toInt (by omega)]; omega
  refine lv_icmp_gt (tgt := 1905) hx hb dL_law_34 (by decide) (fun _ => KE _ _ _ _ _ hS hc.1 hc.2) (fun hn => K ?_)
  rw [Int32.lt_iff_toInt_lt, e1, e2] at hn
  omega
set_option maxHeartbeats 4000000 in
set_option maxRecDepth 100000 in
theorem law_body {p : Program} {e : Env} {s : State} {m : MethodId} {below : List Frame} {meth : Method} {c : Code} {b L : Nat} {xs : Nat → Int32} {Q : State → Prop} {G : GX} {A : Nat → Prop} (C0 : LCtx p s m c b L xs G A) (hL : L ≤ 2048) {t : Nat} (hi : 4 * t + 4 ≤ L) {Z : XZ} {S : XS} {M : MS} {ad : Nat → Nat} {bo bd : Nat} {f : Nat → Int64} {g : Nat → UInt64} {H : Heap} {locs : List Loc} {ls : Array Slot} {cells slots : Nat} (h : RXA Z S M t) (hI : fI G.2.2.1 A s.heap (FW G.2.2.2 G.2.1 Z S ad M bo f bd g) H locs) (hl : lv_has ls 9 [(5, .int (nI (4 * t))), (4, .ref bd), (3, .ref bo), (2, .ref (ad 0)), (1, .ref (Z.A 0 0)), (0, .ref b)]) (hcs : cells + 5 ≤ 601024 ∧ slots + 802 ≤ 7293034) (K : LK p e s m below meth c b Q G A ad bo bd (Z.A 0 0) t cells slots) : W p G.1 e room_1 s m #[Value.ref b] below meth c H locs cells slots Q (F0 m 37 ls []) := by
  obtain ⟨hx, hb, hml, hts, hown, hK, hE, hX, hbl, hbA, hst0⟩ := id C0
  refine lv_aload_n hx hb dL_law_37 rfl (lv_at hl 5 rfl) ?_
  refine lv_iload hx hb dL_law_38 (lv_at hl 0 rfl) ?_
  have hin : vp_in (nI (4 * t)) L := vp_in_nI (by omega) (by omega)
  refine va_sld hx hb hX hbl hbA hI.2.2.1 hin dL_law_40 ?_
  refine lv_bipush (v := 31) hx hb dL_law_41 (by decide) ?_
  refine lv_iand hx hb dL_law_43 ?_
  obtain ⟨n, hn, en⟩ := and31 (xs (nI (4 * t)).toNatClampNeg)
  rw [en]
  rcases (show n = 0 ∨ n = 1 ∨ n = 2 ∨ n = 3 ∨ n = 4 ∨ n = 5 ∨ n = 6 ∨ n = 7 ∨ n = 8 ∨ n = 9 ∨ n = 10 ∨ n = 11 ∨ n = 12 ∨ n = 13 ∨ n = 14 ∨ n = 15 ∨ n = 16 ∨ n = 17 ∨ n = 18 ∨ n = 19 ∨ n = 20 ∨ n = 21 ∨ n = 22 ∨ n = 23 ∨ n = 24 ∨ n = 25 ∨ n = 26 ∨ 27 ≤ n by omega) with rfl | rfl | rfl | rfl | rfl | rfl | rfl | rfl | rfl | rfl | rfl | rfl | rfl | rfl | rfl | rfl | rfl | rfl | rfl | rfl | rfl | rfl | rfl | rfl | rfl | rfl | rfl | hge
  · refine lv_tableIn (off := 124) (tgt := 168) hx hb dL_law_44 (by decide) (by decide) (by decide) (by decide) ?_
    exact law_c0 C0 hL hi h hI hl hcs K
  · refine lv_tableIn (off := 204) (tgt := 248) hx hb dL_law_44 (by decide) (by decide) (by decide) (by decide) ?_
    exact law_c1 C0 hL hi h hI hl hcs K
  · refine lv_tableIn (off := 260) (tgt := 304) hx hb dL_law_44 (by decide) (by decide) (by decide) (by decide) ?_
    exact law_c2 C0 hL hi h hI hl hcs K
  · refine lv_tableIn (off := 316) (tgt := 360) hx hb dL_law_44 (by decide) (by decide) (by decide) (by decide) ?_
    exact law_c3 C0 hL hi h hI hl hcs K
  · refine lv_tableIn (off := 372) (tgt := 416) hx hb dL_law_44 (by decide) (by decide) (by decide) (by decide) ?_
    exact law_c4 C0 hL hi h hI hl hcs K
  · refine lv_tableIn (off := 440) (tgt := 484) hx hb dL_law_44 (by decide) (by decide) (by decide) (by decide) ?_
    exact law_c5 C0 hL hi h hI hl hcs K
  · refine lv_tableIn (off := 517) (tgt := 561) hx hb dL_law_44 (by decide) (by decide) (by decide) (by decide) ?_
    exact law_c6 C0 hL hi h hI hl hcs K
  · refine lv_tableIn (off := 585) (tgt := 629) hx hb dL_law_44 (by decide) (by decide) (by decide) (by decide) ?_
    exact law_c7 C0 hL hi h hI hl hcs K
  · refine lv_tableIn (off := 653) (tgt := 697) hx hb dL_law_44 (by decide) (by decide) (by decide) (by decide) ?_
    exact law_c8 C0 hL hi h hI hl hcs K
  · refine lv_tableIn (off := 709) (tgt := 753) hx hb dL_law_44 (by decide) (by decide) (by decide) (by decide) ?_
    exact law_c9 C0 hL hi h hI hl hcs K
  · refine lv_tableIn (off := 789) (tgt := 833) hx hb dL_law_44 (by decide) (by decide) (by decide) (by decide) ?_
    exact law_c10 C0 hL hi h hI hl hcs K
  · refine lv_tableIn (off := 869) (tgt := 913) hx hb dL_law_44 (by decide) (by decide) (by decide) (by decide) ?_
    exact law_c11 C0 hL hi h hI hl hcs K
  · refine lv_tableIn (off := 932) (tgt := 976) hx hb dL_law_44 (by decide) (by decide) (by decide) (by decide) ?_
    exact law_c12 C0 hL hi h hI hl hcs K
  · refine lv_tableIn (off := 995) (tgt := 1039) hx hb dL_law_44 (by decide) (by decide) (by decide) (by decide) ?_
    exact law_c13 C0 hL hi h hI hl hcs K
  · refine lv_tableIn (off := 1063) (tgt := 1107) hx hb dL_law_44 (by decide) (by decide) (by decide) (by decide) ?_
    exact law_c14 C0 hL hi h hI hl hcs K
  · refine lv_tableIn (off := 1119) (tgt := 1163) hx hb dL_law_44 (by decide) (by decide) (by decide) (by decide) ?_
    exact law_c15 C0 hL hi h hI hl hcs K
  · refine lv_tableIn (off := 1132) (tgt := 1176) hx hb dL_law_44 (by decide) (by decide) (by decide) (by decide) ?_
    exact law_c16 C0 hL hi h hI hl hcs K
  · refine lv_tableIn (off := 1200) (tgt := 1244) hx hb dL_law_44 (by decide) (by decide) (by decide) (by decide) ?_
    exact law_c17 C0 hL hi h hI hl hcs K
  · refine lv_tableIn (off := 1305) (tgt := 1349) hx hb dL_law_44 (by decide) (by decide) (by decide) (by decide) ?_
    exact law_c18 C0 hL hi h hI hl hcs K
  · refine lv_tableIn (off := 1389) (tgt := 1433) hx hb dL_law_44 (by decide) (by decide) (by decide) (by decide) ?_
    exact law_c19 C0 hL hi h hI hl hcs K
  · refine lv_tableIn (off := 1457) (tgt := 1501) hx hb dL_law_44 (by decide) (by decide) (by decide) (by decide) ?_
    exact law_c20 C0 hL hi h hI hl hcs K
  · refine lv_tableIn (off := 1513) (tgt := 1557) hx hb dL_law_44 (by decide) (by decide) (by decide) (by decide) ?_
    exact law_c21 C0 hL hi h hI hl hcs K
  · refine lv_tableIn (off := 1581) (tgt := 1625) hx hb dL_law_44 (by decide) (by decide) (by decide) (by decide) ?_
    exact law_c22 C0 hL hi h hI hl hcs K
  · refine lv_tableIn (off := 1649) (tgt := 1693) hx hb dL_law_44 (by decide) (by decide) (by decide) (by decide) ?_
    exact law_c23 C0 hL hi h hI hl hcs K
  · refine lv_tableIn (off := 1717) (tgt := 1761) hx hb dL_law_44 (by decide) (by decide) (by decide) (by decide) ?_
    exact law_c24 C0 hL hi h hI hl hcs K
  · refine lv_tableIn (off := 1785) (tgt := 1829) hx hb dL_law_44 (by decide) (by decide) (by decide) (by decide) ?_
    exact law_c25 C0 hL hi h hI hl hcs K
  · refine lv_tableIn (off := 1841) (tgt := 1885) hx hb dL_law_44 (by decide) (by decide) (by decide) (by decide) ?_
    exact law_c26 C0 hL hi h hI hl hcs K
  · refine lv_tableOut (tgt := 1899) hx hb dL_law_44 (Or.inr (by rw [nI_toInt (by omega)]; omega)) (by decide) ?_
    refine W.widen (k := cells + 5) (n := slots + 802) (by omega) (by omega) ?_
    exact K _ _ _ _ _ _ _ _ (RXA_t h (by omega)) rfl hI hl
set_option maxHeartbeats 4000000 in
set_option maxRecDepth 100000 in
theorem law_loop {p : Program} {e : Env} {s : State} {m : MethodId} {below : List Frame} {meth : Method} {c : Code} {b L : Nat} {xs : Nat → Int32} {Q : State → Prop} {G : GX} {A : Nat → Prop} (C0 : LCtx p s m c b L xs G A) (hL : L ≤ 2048) (KE : ∀ (H : Heap) (locs : List Loc) (ls : Array Slot) (cells slots : Nat), va_S A s.heap H locs → cells ≤ 601024 → slots ≤ 7293034 → W p G.1 e room_1 s m #[Value.ref b] below meth c H locs cells slots Q (F0 m 1905 ls [])) {ad : Nat → Nat} {bo bd x0 : Nat} : ∀ (n t : Nat), L < 4 * (t + n) → ∀ (Z : XZ) (S : XS) (M : MS) (f : Nat → Int64) (g : Nat → UInt64) (H : Heap) (locs : List Loc) (ls : Array Slot), RXA Z S M t → Z.A 0 0 = x0 → fI G.2.2.1 A s.heap (FW G.2.2.2 G.2.1 Z S ad M bo f bd g) H locs → lv_has ls 9 [(5, .int (nI (4 * t))), (4, .ref bd), (3, .ref bo), (2, .ref (ad 0)), (1, .ref x0), (0, .ref b)] → W p G.1 e room_1 s m #[Value.ref b] below meth c H locs (100 + 5 * t) (2000 + 802 * t) Q (F0 m 28 ls []) := by
  intro n
  induction n with
  | zero =>
    intro t hlt Z S M f g H locs ls h hx0 hI hl
    have ht : t ≤ 512 := h.2.1.2.2.2.2.2.2.1
    exact law_head C0 hL KE ht hI.2.2.1 hl ⟨by omega, by omega⟩ (fun hi => absurd hlt (by omega))
  | succ n ih =>
    intro t hlt Z S M f g H locs ls h hx0 hI hl
    have ht : t ≤ 512 := h.2.1.2.2.2.2.2.2.1
    refine law_head C0 hL KE ht hI.2.2.1 hl ⟨by omega, by omega⟩ (fun hi => ?_)
    refine law_body C0 hL hi h hI (by rw [hx0]; exact hl) ⟨by omega, by omega⟩ (fun Z1 S1 M1 f1 g1 H1 locs1 ls1 h1 hx1 hI1 hl1 => ?_)
    obtain ⟨hx, hb, hml, hts, hown, hK, hE, hX, hbl, hbA, hst0⟩ := id C0
    refine lv_iinc (k := 0) (v := nI (4 * (t + 1))) (lv' := [(5, .int (nI (4 * (t + 1)))), (4, .ref bd), (3, .ref bo), (2, .ref (ad 0)), (1, .ref (Z.A 0 0)), (0, .ref b)]) hx hb dL_law_1899 hl1 rfl ?_ (by decide) rfl (fun ls2 hl2 => ?_)
    · show nI (4 * t) + nI 4 = nI (4 * (t + 1))
      rw [nI_add]
      rfl
    · refine lv_goto (tgt := 28) hx hb dL_law_1902 (by decide) ?_
      refine W.widen (k := 100 + 5 * (t + 1)) (n := 2000 + 802 * (t + 1)) (by omega) (by omega) ?_
      exact ih (t + 1) (by omega) Z1 S1 M1 f1 g1 H1 locs1 ls2 h1 (hx1.trans hx0) hI1 (by rw [← hx0]; exact hl2)
