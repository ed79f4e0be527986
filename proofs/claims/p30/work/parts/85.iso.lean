/-! ===== isSo: what the law asks when nothing changes ===== -/
theorem W_cs {p : Program} {l : Launch} {e : Env} {R : Room} {s : State} {m : MethodId} {args : Array Value} {below : List Frame} {meth : Method} {c : Code} {H : Heap} {locs : List Loc} {Q : State → Prop} {g : JFrame} {c1 c2 s1 s2 : Nat} (hc : c1 = c2) (hs : s1 = s2) (h : W p l e R s m args below meth c H locs c1 s1 Q g) : W p l e R s m args below meth c H locs c2 s2 Q g := by
  subst hc hs
  exact h
theorem qL_why_no (G : GX) (w0 : WD) (la : Nat → Nat) (L : LwS) {j : Nat} (hj8 : j < 8) (hw : ¬ (L 3 j) - (L 3 j) / 8 * 8 = 2) : FC G yL_why cL_why 13 (some .int) ({ frames := 1, cells := 0, slots := 0, locals := 25 }) [.ref (la 0), .ref (la 1), .ref (la 3), .ref (la 4), .ref (la 6), .int (nI j)] (jn w0 (lW G.2.2.2 la L)) (pv (.int (-1)) (jn w0 (lW G.2.2.2 la L))) := by
  refine FC.go (lv := [(0, .ref (la 0)), (1, .ref (la 1)), (2, .ref (la 3)), (3, .ref (la 4)), (4, .ref (la 6)), (5, .int (nI j))]) (by decide) (Nat.le_of_ble_eq_true rfl) rfl (fun p e s m args below meth c A H locs ls Q hx hb hr hts hown hml hlocks hnm hK hE hI hA hl hQ => ?_)
  have hown : s.vm.findClass "IcehighwayLaw" = some m.cls := hown
  refine lv_aload_n hx hb dL_why_0 rfl (lv_at hl 2 rfl) ?_
  refine lv_iload hx hb dL_why_1 (lv_at hl 5 rfl) ?_
  refine gA (k := 3) (n := 8) (q := j) hx hb hK hI (by decide) rfl (vp_in_nI (Nat.lt_of_lt_of_le hj8 (by decide)) (by decide)) (nI_clamp (Nat.lt_of_lt_of_le hj8 (by decide))) dL_why_3 ?_
  refine lv_bipush (v := 8) hx hb dL_why_4 (by decide) ?_
  refine lv_irem hx hb dL_why_6 (by decide) ?_
  refine lv_iconst (v := 2) hx hb dL_why_7 (by decide) ?_
  refine lv_icmp_eq (tgt := 13) hx hb dL_why_8 (by decide) (fun h9 => absurd h9 hw) (fun _ => ?_)
  refine lv_iconst (v := (-1)) hx hb dL_why_11 (by decide) ?_
  exact rt_i hx hb hr hlocks hI hA hQ ⟨rfl, rfl⟩ (Nat.zero_le _) (Nat.zero_le _) dL_why_12
theorem qL_whyA (G : GX) {w0 : WD} {la : Nat → Nat} {Z : XZ} {S : XS} {M : MS} {L : LwS} {t j : Nat} (hR : RR Z S M L t) (hj : j < Z.N 1) : FC G yL_why cL_why 13 (some .int) ({ frames := 1, cells := 0, slots := 0, locals := 25 }) [.ref (la 0), .ref (la 1), .ref (la 3), .ref (la 4), .ref (la 6), .int (nI j)] (jn w0 (lW G.2.2.2 la L)) (pv (.int (L_why L (nI j))) (jn w0 (lW G.2.2.2 la L))) := by
  have hnv := hR.nv
  by_cases c : (L 3 j) - (L 3 j) / 8 * 8 = 2
  · exact qL_why G w0 la L (nI j) (vp_in_nI (by omega) (by decide)) (L_why_pre hR.l hR.i hj c).1 (L_why_pre hR.l hR.i hj c).2 hR.l.g.2.2.2.2 hR.nv
  · rw [L_why_no hR.l hj (fun z => c (by rw [(hR.l.w hj).wh]; exact z))]
    exact qL_why_no G w0 la L (by omega) c
set_option maxHeartbeats 8000000 in
set_option maxRecDepth 100000 in
theorem qS (G : GX) (hst : G.1.stackTraces = false) {Z : XZ} {S0 : XS} {M : MS} {L : LwS} {t : Nat} {la : Nat → Nat} (hR : RR Z S0 M L t) (ht : t ≤ 100) : FC G yL_isSo cL_isSo 14 (some .boolean) ({ frames := 9, cells := 383, slots := 2298, locals := 152 }) [.ref (Z.A 0 0), .ref (la 0), .ref (la 1), .ref (la 2), .ref (la 3), .ref (la 4), .ref (la 5), .ref (la 6)] (jn (xW G.2.2.2 G.2.1 Z S0) (lW G.2.2.2 la L)) (pv (.int 1) (jn (xW G.2.2.2 G.2.1 Z S0) (lW G.2.2.2 la L))) := by
  refine FC.go (lv := [(0, .ref (Z.A 0 0)), (1, .ref (la 0)), (2, .ref (la 1)), (3, .ref (la 2)), (4, .ref (la 3)), (5, .ref (la 4)), (6, .ref (la 5)), (7, .ref (la 6))]) (by decide) (Nat.le_of_ble_eq_true rfl) rfl (fun p e s m args below meth c A H locs ls Q hx hb hr hts hown hml hlocks hnm hK hE hI hA hl hQ => ?_)
  have hown : s.vm.findClass "IcehighwayLaw" = some m.cls := hown
  have h63 : L 6 3 = nI (Z.N 0) := hR.l.g.2.2.2.1
  have h64 : L 6 4 = nI (Z.N 1) := hR.l.g.2.2.2.2
  have hnp := hR.np
  have hnv := hR.nv
  have ht5 : t < 512 := by omega
  refine lv_aload_n hx hb dL_isSo_0 rfl (lv_at hl 0 rfl) ?_
  refine jx_callV (rest := []) (as := []) hx hb hml hts hown hK hE Dj_xl hI (cX_minute G Z S0) kLX_126 ⟨(Nat.le_of_ble_eq_true rfl), (Nat.le_of_ble_eq_true rfl)⟩ (kk := 0) (ii := 0) (xW0 (by decide)) rfl rfl hl.1 (Nat.le_of_ble_eq_true rfl) dL_isSo_1 ⟨by show 0 ≤ 383; omega, by show 0 ≤ 2298; omega⟩ (fun v w' H locs hp hI => ?_)
  obtain ⟨rfl, rfl⟩ := hp
  rw [vmin hR ht5]
  refine lv_aload hx hb dL_isSo_4 (lv_at hl 7 rfl) ?_
  refine lv_iconst (v := 0) hx hb dL_isSo_6 (by decide) ?_
  refine gA (k := 6) (n := 5) (q := 0) hx hb hK hI (by decide) rfl (by unfold vp_in; decide) (by decide) dL_isSo_7 ?_
  have hm : (L 6 0 : Int32) = L 6 0 := rfl
  refine lv_icmp_ne (tgt := 15) hx hb dL_isSo_8 (by decide) (fun h9 => absurd hm h9) (fun _ => ?_)
  refine lv_iconst (v := 1) hx hb dL_isSo_11 (by decide) ?_
  refine lv_goto (tgt := 16) hx hb dL_isSo_12 (by decide) ?_
  refine lv_istore (lv' := [(8, .int 1), (0, .ref (Z.A 0 0)), (1, .ref (la 0)), (2, .ref (la 1)), (3, .ref (la 2)), (4, .ref (la 3)), (5, .ref (la 4)), (6, .ref (la 5)), (7, .ref (la 6))]) hx hb dL_isSo_16 hl (by decide) rfl (fun ls hl => ?_)
  refine lv_iconst (v := 0) hx hb dL_isSo_18 (by decide) ?_
  refine lv_istore (lv' := [(9, .int 0), (8, .int 1), (0, .ref (Z.A 0 0)), (1, .ref (la 0)), (2, .ref (la 1)), (3, .ref (la 2)), (4, .ref (la 3)), (5, .ref (la 4)), (6, .ref (la 5)), (7, .ref (la 6))]) hx hb dL_isSo_19 hl (by decide) rfl (fun ls hl => ?_)
  have hL_n1 : ∀ (k n1 : Nat), n1 + k = Z.N 0 → ∀ (H : Heap) (locs : List Loc) (ls : Array Slot), fI G.2.2.1 A s.heap (jn (xW G.2.2.2 G.2.1 Z S0) (lW G.2.2.2 la L)) H locs → lv_has ls 14 [(9, .int (nI n1)), (8, .int 1), (0, .ref (Z.A 0 0)), (1, .ref (la 0)), (2, .ref (la 1)), (3, .ref (la 2)), (4, .ref (la 3)), (5, .ref (la 4)), (6, .ref (la 5)), (7, .ref (la 6))] → W p G.1 e ({ frames := 9, cells := 383, slots := 2298, locals := 152 }) s m args below meth c H locs (0 + 20 * n1) (0 + 120 * n1) Q (F0 m 21 ls []) := by
    intro k
    induction k with
    | zero =>
      intro n1 hkn1 H locs ls hI hl
      refine lv_iload hx hb dL_isSo_21 (lv_at hl 0 rfl) ?_
      refine lv_aload hx hb dL_isSo_23 (lv_at hl 9 rfl) ?_
      refine lv_iconst (v := 3) hx hb dL_isSo_25 (by decide) ?_
      refine gA (k := 6) (n := 5) (q := 3) hx hb hK hI (by decide) rfl (by unfold vp_in; decide) (by decide) dL_isSo_26 ?_
      refine lv_icmp_ge (tgt := 344) hx hb dL_isSo_27 (by decide) (fun _ => ?_) (fun h => absurd (by rw [h63]; exact nI_le (by omega) (by omega)) h)
      have enn1 : n1 = Z.N 0 := by omega
      rw [enn1] at hl
      rw [enn1]
      have hl : lv_has ls 14 [(8, .int 1), (0, .ref (Z.A 0 0)), (1, .ref (la 0)), (2, .ref (la 1)), (3, .ref (la 2)), (4, .ref (la 3)), (5, .ref (la 4)), (6, .ref (la 5)), (7, .ref (la 6))] := lv_sub hl [1, 2, 3, 4, 5, 6, 7, 8, 9] rfl
      refine lv_iconst (v := 0) hx hb dL_isSo_344 (by decide) ?_
      refine lv_istore (lv' := [(9, .int 0), (8, .int 1), (0, .ref (Z.A 0 0)), (1, .ref (la 0)), (2, .ref (la 1)), (3, .ref (la 2)), (4, .ref (la 3)), (5, .ref (la 4)), (6, .ref (la 5)), (7, .ref (la 6))]) hx hb dL_isSo_345 hl (by decide) rfl (fun ls hl => ?_)
      have hL_n2 : ∀ (k n2 : Nat), n2 + k = Z.N 1 → ∀ (H : Heap) (locs : List Loc) (ls : Array Slot), fI G.2.2.1 A s.heap (jn (xW G.2.2.2 G.2.1 Z S0) (lW G.2.2.2 la L)) H locs → lv_has ls 14 [(9, .int (nI n2)), (8, .int 1), (0, .ref (Z.A 0 0)), (1, .ref (la 0)), (2, .ref (la 1)), (3, .ref (la 2)), (4, .ref (la 3)), (5, .ref (la 4)), (6, .ref (la 5)), (7, .ref (la 6))] → W p G.1 e ({ frames := 9, cells := 383, slots := 2298, locals := 152 }) s m args below meth c H locs (0 + 20 * Z.N 0 + 23 * n2) (0 + 120 * Z.N 0 + 138 * n2) Q (F0 m 347 ls []) := by
        intro k
        induction k with
        | zero =>
          intro n2 hkn2 H locs ls hI hl
          refine lv_iload hx hb dL_isSo_347 (lv_at hl 0 rfl) ?_
          refine lv_aload hx hb dL_isSo_349 (lv_at hl 9 rfl) ?_
          refine lv_iconst (v := 4) hx hb dL_isSo_351 (by decide) ?_
          refine gA (k := 6) (n := 5) (q := 4) hx hb hK hI (by decide) rfl (by unfold vp_in; decide) (by decide) dL_isSo_352 ?_
          refine lv_icmp_ge (tgt := 628) hx hb dL_isSo_353 (by decide) (fun _ => ?_) (fun h => absurd (by rw [h64]; exact nI_le (by omega) (by omega)) h)
          have enn2 : n2 = Z.N 1 := by omega
          rw [enn2] at hl
          rw [enn2]
          have hl : lv_has ls 14 [(8, .int 1), (0, .ref (Z.A 0 0)), (1, .ref (la 0)), (2, .ref (la 1)), (3, .ref (la 2)), (4, .ref (la 3)), (5, .ref (la 4)), (6, .ref (la 5)), (7, .ref (la 6))] := lv_sub hl [1, 2, 3, 4, 5, 6, 7, 8, 9] rfl
          refine lv_iconst (v := 0) hx hb dL_isSo_628 (by decide) ?_
          refine lv_istore (lv' := [(9, .int 0), (8, .int 1), (0, .ref (Z.A 0 0)), (1, .ref (la 0)), (2, .ref (la 1)), (3, .ref (la 2)), (4, .ref (la 3)), (5, .ref (la 4)), (6, .ref (la 5)), (7, .ref (la 6))]) hx hb dL_isSo_629 hl (by decide) rfl (fun ls hl => ?_)
          refine lv_iconst (v := 0) hx hb dL_isSo_631 (by decide) ?_
          refine lv_istore (lv' := [(10, .int 0), (9, .int 0), (8, .int 1), (0, .ref (Z.A 0 0)), (1, .ref (la 0)), (2, .ref (la 1)), (3, .ref (la 2)), (4, .ref (la 3)), (5, .ref (la 4)), (6, .ref (la 5)), (7, .ref (la 6))]) hx hb dL_isSo_632 hl (by decide) rfl (fun ls hl => ?_)
          have hL_n3 : ∀ (k n3 : Nat), n3 + k = 3 → ∀ (H : Heap) (locs : List Loc) (ls : Array Slot), fI G.2.2.1 A s.heap (jn (xW G.2.2.2 G.2.1 Z S0) (lW G.2.2.2 la L)) H locs → lv_has ls 14 [(10, .int (nI n3)), (9, .int (L_cost L n3)), (8, .int 1), (0, .ref (Z.A 0 0)), (1, .ref (la 0)), (2, .ref (la 1)), (3, .ref (la 2)), (4, .ref (la 3)), (5, .ref (la 4)), (6, .ref (la 5)), (7, .ref (la 6))] → W p G.1 e ({ frames := 9, cells := 383, slots := 2298, locals := 152 }) s m args below meth c H locs (0 + 20 * Z.N 0 + 23 * Z.N 1 + 11 * n3) (0 + 120 * Z.N 0 + 138 * Z.N 1 + 66 * n3) Q (F0 m 634 ls []) := by
            intro k
            induction k with
            | zero =>
              intro n3 hkn3 H locs ls hI hl
              refine lv_iload hx hb dL_isSo_634 (lv_at hl 0 rfl) ?_
              refine lv_iconst (v := 3) hx hb dL_isSo_636 (by decide) ?_
              refine lv_icmp_ge (tgt := 933) hx hb dL_isSo_637 (by decide) (fun _ => ?_) (fun h => absurd (by rw [show (3 : Int32) = nI 3 from rfl]; exact nI_le (by omega) (by omega)) h)
              have enn3 : n3 = 3 := by omega
              rw [enn3] at hl
              rw [enn3]
              have hl : lv_has ls 14 [(9, .int (L_cost L 3)), (8, .int 1), (0, .ref (Z.A 0 0)), (1, .ref (la 0)), (2, .ref (la 1)), (3, .ref (la 2)), (4, .ref (la 3)), (5, .ref (la 4)), (6, .ref (la 5)), (7, .ref (la 6))] := lv_sub hl [1, 2, 3, 4, 5, 6, 7, 8, 9, 10] rfl
              refine lv_iload hx hb dL_isSo_933 (lv_at hl 1 rfl) ?_
              refine lv_if_eq (tgt := 1001) hx hb dL_isSo_935 (by decide) (fun h => absurd h (by decide)) (fun _ => ?_)
              refine lv_aload_n hx hb dL_isSo_938 rfl (lv_at hl 2 rfl) ?_
              refine jx_callV (rest := []) (as := []) hx hb hml hts hown hK hE Dj_xl hI (cX_bill G Z S0) kLX_147 ⟨(Nat.le_of_ble_eq_true rfl), (Nat.le_of_ble_eq_true rfl)⟩ (kk := 0) (ii := 0) (xW0 (by decide)) rfl rfl hl.1 (Nat.le_of_ble_eq_true rfl) dL_isSo_939 ⟨by show 0 + 20 * Z.N 0 + 23 * Z.N 1 + 11 * 3 ≤ 383; omega, by show 0 + 120 * Z.N 0 + 138 * Z.N 1 + 66 * 3 ≤ 2298; omega⟩ (fun v w' H locs hp hI => ?_)
              obtain ⟨rfl, rfl⟩ := hp
              rw [vbill hR ht]
              refine lv_iload hx hb dL_isSo_942 (lv_at hl 0 rfl) ?_
              refine lv_i2l hx hb dL_isSo_944 rfl ?_
              refine W.lcmp hx hb dL_isSo_945 ?_
              refine lv_if_ne (tgt := 1001) hx hb dL_isSo_946 (by decide) (fun h9 => absurd (lg_self _) h9) (fun _ => ?_)
              refine lv_aload_n hx hb dL_isSo_949 rfl (lv_at hl 2 rfl) ?_
              refine lv_bipush (v := 15) hx hb dL_isSo_950 (by decide) ?_
              refine lv_aload hx hb dL_isSo_952 (lv_at hl 9 rfl) ?_
              refine lv_iconst (v := 3) hx hb dL_isSo_954 (by decide) ?_
              refine gA (k := 6) (n := 5) (q := 3) hx hb hK hI (by decide) rfl (by unfold vp_in; decide) (by decide) dL_isSo_955 ?_
              refine lv_iconst (v := 0) hx hb dL_isSo_956 (by decide) ?_
              refine lv_iconst (v := 0) hx hb dL_isSo_957 (by decide) ?_
              refine jx_callH (rest := []) (as := [.ref (Z.A 0 0), .int 15, .int (L 6 3), .int 0, .int 0]) hx hb hml hts hown hK hE Dj_xl hI (qD_told G hst Z S0 (L 6 3) 0 0 hR.1.1.1) kw_does ⟨(Nat.le_of_ble_eq_true rfl), (Nat.le_of_ble_eq_true rfl)⟩ hl.1 (Nat.le_of_ble_eq_true rfl) dL_isSo_958 ⟨by show 0 + 20 * Z.N 0 + 23 * Z.N 1 + 11 * 3 + 2 ≤ 383; omega, by show 0 + 120 * Z.N 0 + 138 * Z.N 1 + 66 * 3 + 12 ≤ 2298; omega⟩ (fun v w1 H locs hpE hI => ?_)
              obtain ⟨rfl, rfl⟩ := no_told hR ht5 hpE
              refine lv_ldc (v := -30000000) hx hb hown (hts _ q652) dL_isSo_961 ?_
              have hm : ((-30000000) : Int32) = -30000000 := rfl
              refine lv_icmp_ne (tgt := 1001) hx hb dL_isSo_963 (by decide) (fun h9 => absurd hm h9) (fun _ => ?_)
              refine lv_aload_n hx hb dL_isSo_966 rfl (lv_at hl 2 rfl) ?_
              refine lv_bipush (v := 16) hx hb dL_isSo_967 (by decide) ?_
              refine lv_aload hx hb dL_isSo_969 (lv_at hl 9 rfl) ?_
              refine lv_iconst (v := 4) hx hb dL_isSo_971 (by decide) ?_
              refine gA (k := 6) (n := 5) (q := 4) hx hb hK hI (by decide) rfl (by unfold vp_in; decide) (by decide) dL_isSo_972 ?_
              refine lv_iconst (v := 0) hx hb dL_isSo_973 (by decide) ?_
              refine lv_iconst (v := 0) hx hb dL_isSo_974 (by decide) ?_
              refine jx_callH (rest := []) (as := [.ref (Z.A 0 0), .int 16, .int (L 6 4), .int 0, .int 0]) hx hb hml hts hown hK hE Dj_xl hI (qD_ofVehicle G hst Z S0 (L 6 4) 0 0 hR.1.1.1 hR.1.1.2.1) kw_does ⟨(Nat.le_of_ble_eq_true rfl), (Nat.le_of_ble_eq_true rfl)⟩ hl.1 (Nat.le_of_ble_eq_true rfl) dL_isSo_975 ⟨by show 0 + 20 * Z.N 0 + 23 * Z.N 1 + 11 * 3 + 2 + 2 ≤ 383; omega, by show 0 + 120 * Z.N 0 + 138 * Z.N 1 + 66 * 3 + 12 + 12 ≤ 2298; omega⟩ (fun v w1 H locs hpE hI => ?_)
              obtain ⟨rfl, rfl⟩ := no_ofV hR ht5 hpE
              refine lv_ldc (v := -30000000) hx hb hown (hts _ q652) dL_isSo_978 ?_
              have hm : ((-30000000) : Int32) = -30000000 := rfl
              refine lv_icmp_ne (tgt := 1001) hx hb dL_isSo_980 (by decide) (fun h9 => absurd hm h9) (fun _ => ?_)
              refine lv_aload_n hx hb dL_isSo_983 rfl (lv_at hl 2 rfl) ?_
              refine lv_bipush (v := 18) hx hb dL_isSo_984 (by decide) ?_
              refine lv_iconst (v := 3) hx hb dL_isSo_986 (by decide) ?_
              refine lv_iconst (v := 0) hx hb dL_isSo_987 (by decide) ?_
              refine lv_iconst (v := 0) hx hb dL_isSo_988 (by decide) ?_
              refine jx_callH (rest := []) (as := [.ref (Z.A 0 0), .int 18, .int 3, .int 0, .int 0]) hx hb hml hts hown hK hE Dj_xl hI (qD_kilos G hst Z S0 3 0 0 hR.1.1.1 hR.1.1.2.1) kw_does ⟨(Nat.le_of_ble_eq_true rfl), (Nat.le_of_ble_eq_true rfl)⟩ hl.1 (Nat.le_of_ble_eq_true rfl) dL_isSo_989 ⟨by show 0 + 20 * Z.N 0 + 23 * Z.N 1 + 11 * 3 + 2 + 2 + 2 ≤ 383; omega, by show 0 + 120 * Z.N 0 + 138 * Z.N 1 + 66 * 3 + 12 + 12 + 12 ≤ 2298; omega⟩ (fun v w1 H locs hpE hI => ?_)
              obtain ⟨rfl, rfl⟩ := no_kilos hR ht5 hpE
              refine lv_ldc (v := -30000000) hx hb hown (hts _ q652) dL_isSo_992 ?_
              have hm : ((-30000000) : Int32) = -30000000 := rfl
              refine lv_icmp_ne (tgt := 1001) hx hb dL_isSo_994 (by decide) (fun h9 => absurd hm h9) (fun _ => ?_)
              refine lv_iconst (v := 1) hx hb dL_isSo_997 (by decide) ?_
              refine lv_goto (tgt := 1002) hx hb dL_isSo_998 (by decide) ?_
              exact rt_z hx hb hr hlocks (by decide) hI hA hQ ⟨rfl, rfl⟩ (by show 0 + 20 * Z.N 0 + 23 * Z.N 1 + 11 * 3 + 2 + 2 + 2 ≤ 383; omega) (by show 0 + 120 * Z.N 0 + 138 * Z.N 1 + 66 * 3 + 12 + 12 + 12 ≤ 2298; omega) dL_isSo_1002
            | succ k ih =>
              intro n3 hkn3 H locs ls hI hl
              have hnn3 : n3 < 3 := by omega
              refine lv_iload hx hb dL_isSo_634 (lv_at hl 0 rfl) ?_
              refine lv_iconst (v := 3) hx hb dL_isSo_636 (by decide) ?_
              refine lv_icmp_ge (tgt := 933) hx hb dL_isSo_637 (by decide) (fun h => absurd h (by rw [show (3 : Int32) = nI 3 from rfl]; exact nI_ge (by omega) (by omega))) (fun _ => ?_)
              refine lv_iload hx hb dL_isSo_640 (lv_at hl 2 rfl) ?_
              refine lv_if_eq (tgt := 933) hx hb dL_isSo_642 (by decide) (fun h => absurd h (by decide)) (fun _ => ?_)
              refine lv_iconst (v := 0) hx hb dL_isSo_645 (by decide) ?_
              refine lv_istore (lv' := [(11, .int 0), (10, .int (nI n3)), (9, .int (L_cost L n3)), (8, .int 1), (0, .ref (Z.A 0 0)), (1, .ref (la 0)), (2, .ref (la 1)), (3, .ref (la 2)), (4, .ref (la 3)), (5, .ref (la 4)), (6, .ref (la 5)), (7, .ref (la 6))]) hx hb dL_isSo_646 hl (by decide) rfl (fun ls hl => ?_)
              refine lv_iconst (v := 0) hx hb dL_isSo_648 (by decide) ?_
              refine lv_istore (lv' := [(12, .int 0), (11, .int 0), (10, .int (nI n3)), (9, .int (L_cost L n3)), (8, .int 1), (0, .ref (Z.A 0 0)), (1, .ref (la 0)), (2, .ref (la 1)), (3, .ref (la 2)), (4, .ref (la 3)), (5, .ref (la 4)), (6, .ref (la 5)), (7, .ref (la 6))]) hx hb dL_isSo_649 hl (by decide) rfl (fun ls hl => ?_)
              refine lv_iconst (v := 0) hx hb dL_isSo_651 (by decide) ?_
              refine lv_istore (lv' := [(13, .int 0), (12, .int 0), (11, .int 0), (10, .int (nI n3)), (9, .int (L_cost L n3)), (8, .int 1), (0, .ref (Z.A 0 0)), (1, .ref (la 0)), (2, .ref (la 1)), (3, .ref (la 2)), (4, .ref (la 3)), (5, .ref (la 4)), (6, .ref (la 5)), (7, .ref (la 6))]) hx hb dL_isSo_652 hl (by decide) rfl (fun ls hl => ?_)
              have hL_m3 : ∀ (k m3 : Nat), m3 + k = Z.N 1 → ∀ (H : Heap) (locs : List Loc) (ls : Array Slot), fI G.2.2.1 A s.heap (jn (xW G.2.2.2 G.2.1 Z S0) (lW G.2.2.2 la L)) H locs → lv_has ls 14 [(13, .int (nI m3)), (12, .int (L_lost_f L (nI n3) m3)), (11, .int (L_on_f L (nI n3) m3)), (10, .int (nI n3)), (9, .int (L_cost L n3)), (8, .int 1), (0, .ref (Z.A 0 0)), (1, .ref (la 0)), (2, .ref (la 1)), (3, .ref (la 2)), (4, .ref (la 3)), (5, .ref (la 4)), (6, .ref (la 5)), (7, .ref (la 6))] → W p G.1 e ({ frames := 9, cells := 383, slots := 2298, locals := 152 }) s m args below meth c H locs (0 + 20 * Z.N 0 + 23 * Z.N 1 + 11 * n3) (0 + 120 * Z.N 0 + 138 * Z.N 1 + 66 * n3) Q (F0 m 654 ls []) := by
                intro k
                induction k with
                | zero =>
                  intro m3 hkm3 H locs ls hI hl
                  refine lv_iload hx hb dL_isSo_654 (lv_at hl 0 rfl) ?_
                  refine lv_aload hx hb dL_isSo_656 (lv_at hl 13 rfl) ?_
                  refine lv_iconst (v := 4) hx hb dL_isSo_658 (by decide) ?_
                  refine gA (k := 6) (n := 5) (q := 4) hx hb hK hI (by decide) rfl (by unfold vp_in; decide) (by decide) dL_isSo_659 ?_
                  refine lv_icmp_ge (tgt := 759) hx hb dL_isSo_660 (by decide) (fun _ => ?_) (fun h => absurd (by rw [h64]; exact nI_le (by omega) (by omega)) h)
                  have enm3 : m3 = Z.N 1 := by omega
                  rw [enm3] at hl
                  have hl : lv_has ls 14 [(12, .int (L_lost_f L (nI n3) (Z.N 1))), (11, .int (L_on_f L (nI n3) (Z.N 1))), (10, .int (nI n3)), (9, .int (L_cost L n3)), (8, .int 1), (0, .ref (Z.A 0 0)), (1, .ref (la 0)), (2, .ref (la 1)), (3, .ref (la 2)), (4, .ref (la 3)), (5, .ref (la 4)), (6, .ref (la 5)), (7, .ref (la 6))] := lv_sub hl [1, 2, 3, 4, 5, 6, 7, 8, 9, 10, 11, 12, 13] rfl
                  refine lv_aload hx hb dL_isSo_759 (lv_at hl 11 rfl) ?_
                  refine lv_bipush (v := 6) hx hb dL_isSo_761 (by decide) ?_
                  refine lv_iload hx hb dL_isSo_763 (lv_at hl 2 rfl) ?_
                  refine lv_iadd hx hb dL_isSo_765 ?_
                  refine gA (k := 5) (n := 10) (q := 6 + n3) hx hb hK hI (by decide) rfl (vo_n 6 rfl hnn3 (by decide) (by decide)) (vo_nc 6 rfl hnn3 (by decide)) dL_isSo_766 ?_
                  refine lv_aload hx hb dL_isSo_767 (lv_at hl 11 rfl) ?_
                  refine lv_iconst (v := 3) hx hb dL_isSo_769 (by decide) ?_
                  refine lv_iload hx hb dL_isSo_770 (lv_at hl 2 rfl) ?_
                  refine lv_iadd hx hb dL_isSo_772 ?_
                  refine gA (k := 5) (n := 10) (q := 3 + n3) hx hb hK hI (by decide) rfl (vo_n 3 rfl hnn3 (by decide) (by decide)) (vo_nc 3 rfl hnn3 (by decide)) dL_isSo_773 ?_
                  have hJ2 : ∀ (x1 : Int32), (x1 = if (L 5 (6 + n3)) ≤ (L 5 (3 + n3)) then 0 else ((L 5 (6 + n3)) - (L 5 (3 + n3)))) → W p G.1 e ({ frames := 9, cells := 383, slots := 2298, locals := 152 }) s m args below meth c H locs (0 + 20 * Z.N 0 + 23 * Z.N 1 + 11 * n3) (0 + 120 * Z.N 0 + 138 * Z.N 1 + 66 * n3) Q (F0 m 797 ls [.int x1]) := by
                    intro x1 ex1
                    refine lv_istore (lv' := [(13, .int x1), (12, .int (L_lost_f L (nI n3) (Z.N 1))), (11, .int (L_on_f L (nI n3) (Z.N 1))), (10, .int (nI n3)), (9, .int (L_cost L n3)), (8, .int 1), (0, .ref (Z.A 0 0)), (1, .ref (la 0)), (2, .ref (la 1)), (3, .ref (la 2)), (4, .ref (la 3)), (5, .ref (la 4)), (6, .ref (la 5)), (7, .ref (la 6))]) hx hb dL_isSo_797 hl (by decide) rfl (fun ls hl => ?_)
                    refine lv_iload hx hb dL_isSo_799 (lv_at hl 4 rfl) ?_
                    refine lv_aload hx hb dL_isSo_801 (lv_at hl 12 rfl) ?_
                    refine lv_iconst (v := 3) hx hb dL_isSo_803 (by decide) ?_
                    refine lv_iload hx hb dL_isSo_804 (lv_at hl 3 rfl) ?_
                    refine lv_iadd hx hb dL_isSo_806 ?_
                    refine gA (k := 5) (n := 10) (q := 3 + n3) hx hb hK hI (by decide) rfl (vo_n 3 rfl hnn3 (by decide) (by decide)) (vo_nc 3 rfl hnn3 (by decide)) dL_isSo_807 ?_
                    refine lv_bipush (v := 40) hx hb dL_isSo_808 (by decide) ?_
                    refine lv_iload hx hb dL_isSo_810 (lv_at hl 0 rfl) ?_
                    refine lv_imul hx hb dL_isSo_812 ?_
                    refine lv_iadd hx hb dL_isSo_813 ?_
                    refine lv_iadd hx hb dL_isSo_814 ?_
                    refine lv_istore (lv' := [(9, .int ((L_cost L n3) + ((L 5 (3 + n3)) + (40 * x1)))), (13, .int x1), (12, .int (L_lost_f L (nI n3) (Z.N 1))), (11, .int (L_on_f L (nI n3) (Z.N 1))), (10, .int (nI n3)), (8, .int 1), (0, .ref (Z.A 0 0)), (1, .ref (la 0)), (2, .ref (la 1)), (3, .ref (la 2)), (4, .ref (la 3)), (5, .ref (la 4)), (6, .ref (la 5)), (7, .ref (la 6))]) hx hb dL_isSo_815 hl (by decide) rfl (fun ls hl => ?_)
                    refine lv_aload_n hx hb dL_isSo_817 rfl (lv_at hl 6 rfl) ?_
                    refine lv_iload hx hb dL_isSo_818 (lv_at hl 4 rfl) ?_
                    refine lv_iconst (v := 0) hx hb dL_isSo_820 (by decide) ?_
                    refine jx_xcallV (rest := []) (as := [.int (nI n3), .int 0]) hx hb hml hts hown hK hE Dj_xl hI (cX_kilos G hst Z S0 (nI n3) 0 hR.1.1.1 hR.1.1.2.1) kLX_71 ⟨(Nat.le_of_ble_eq_true rfl), (Nat.le_of_ble_eq_true rfl)⟩ (kk := 0) (ii := 0) (xW0 (by decide)) rfl rfl hl.1 (Nat.le_of_ble_eq_true rfl) dL_isSo_821 ⟨by show 0 + 20 * Z.N 0 + 23 * Z.N 1 + 11 * n3 + 2 ≤ 383; omega, by show 0 + 120 * Z.N 0 + 138 * Z.N 1 + 66 * n3 + 12 ≤ 2298; omega⟩ (fun E ce q9 w' H locs hp hI g1 g2 g3 => absurd ((vg0 hR ht5 hnn3).1.symm.trans hp.1) (by intro z; cases z)) (fun v w' H locs hp hI => ?_)
                    obtain ⟨-, rfl, rfl⟩ := hp
                    rw [(vg0 hR ht5 hnn3).2]
                    refine lv_aload hx hb dL_isSo_824 (lv_at hl 12 rfl) ?_
                    refine lv_iload hx hb dL_isSo_826 (lv_at hl 4 rfl) ?_
                    refine gA (k := 5) (n := 10) (q := n3) hx hb hK hI (by decide) rfl (vp_in_nI (Nat.lt_of_lt_of_le hnn3 (by decide)) (by decide)) (nI_clamp (Nat.lt_of_lt_of_le hnn3 (by decide))) dL_isSo_828 ?_
                    have hm : (L 5 n3 : Int32) = L 5 n3 := rfl
                    refine lv_icmp_ne (tgt := 924) hx hb dL_isSo_829 (by decide) (fun h9 => absurd hm h9) (fun _ => ?_)
                    refine lv_aload_n hx hb dL_isSo_832 rfl (lv_at hl 6 rfl) ?_
                    refine lv_iload hx hb dL_isSo_833 (lv_at hl 4 rfl) ?_
                    refine jx_xcallV (rest := []) (as := [.int (nI n3)]) hx hb hml hts hown hK hE Dj_xl hI (cX_kilosAnew G hst Z S0 (nI n3) hR.1.1.1) kLX_144 ⟨(Nat.le_of_ble_eq_true rfl), (Nat.le_of_ble_eq_true rfl)⟩ (kk := 0) (ii := 0) (xW0 (by decide)) rfl rfl hl.1 (Nat.le_of_ble_eq_true rfl) dL_isSo_835 ⟨by show 0 + 20 * Z.N 0 + 23 * Z.N 1 + 11 * n3 + 2 + 1 ≤ 383; omega, by show 0 + 120 * Z.N 0 + 138 * Z.N 1 + 66 * n3 + 12 + 6 ≤ 2298; omega⟩ (fun E ce q9 w' H locs hp hI g1 g2 g3 => absurd ((vga hR ht5 hnn3).1.symm.trans hp.1) (by intro z; cases z)) (fun v w' H locs hp hI => ?_)
                    obtain ⟨-, rfl, rfl⟩ := hp
                    rw [(vga hR ht5 hnn3).2]
                    refine lv_aload hx hb dL_isSo_838 (lv_at hl 12 rfl) ?_
                    refine lv_iload hx hb dL_isSo_840 (lv_at hl 4 rfl) ?_
                    refine gA (k := 5) (n := 10) (q := n3) hx hb hK hI (by decide) rfl (vp_in_nI (Nat.lt_of_lt_of_le hnn3 (by decide)) (by decide)) (nI_clamp (Nat.lt_of_lt_of_le hnn3 (by decide))) dL_isSo_842 ?_
                    have hm : (L 5 n3 : Int32) = L 5 n3 := rfl
                    refine lv_icmp_ne (tgt := 924) hx hb dL_isSo_843 (by decide) (fun h9 => absurd hm h9) (fun _ => ?_)
                    refine lv_aload_n hx hb dL_isSo_846 rfl (lv_at hl 6 rfl) ?_
                    refine lv_iload hx hb dL_isSo_847 (lv_at hl 4 rfl) ?_
                    refine lv_iconst (v := 1) hx hb dL_isSo_849 (by decide) ?_
                    refine jx_xcallV (rest := []) (as := [.int (nI n3), .int 1]) hx hb hml hts hown hK hE Dj_xl hI (cX_kilos G hst Z S0 (nI n3) 1 hR.1.1.1 hR.1.1.2.1) kLX_71 ⟨(Nat.le_of_ble_eq_true rfl), (Nat.le_of_ble_eq_true rfl)⟩ (kk := 0) (ii := 0) (xW0 (by decide)) rfl rfl hl.1 (Nat.le_of_ble_eq_true rfl) dL_isSo_850 ⟨by show 0 + 20 * Z.N 0 + 23 * Z.N 1 + 11 * n3 + 2 + 1 + 2 ≤ 383; omega, by show 0 + 120 * Z.N 0 + 138 * Z.N 1 + 66 * n3 + 12 + 6 + 12 ≤ 2298; omega⟩ (fun E ce q9 w' H locs hp hI g1 g2 g3 => absurd ((vg1 hR ht5 hnn3).1.symm.trans hp.1) (by intro z; cases z)) (fun v w' H locs hp hI => ?_)
                    obtain ⟨-, rfl, rfl⟩ := hp
                    rw [(vg1 hR ht5 hnn3).2]
                    refine lv_aload hx hb dL_isSo_853 (lv_at hl 12 rfl) ?_
                    refine lv_iconst (v := 3) hx hb dL_isSo_855 (by decide) ?_
                    refine lv_iload hx hb dL_isSo_856 (lv_at hl 4 rfl) ?_
                    refine lv_iadd hx hb dL_isSo_858 ?_
                    refine gA (k := 5) (n := 10) (q := 3 + n3) hx hb hK hI (by decide) rfl (vo_n 3 rfl hnn3 (by decide) (by decide)) (vo_nc 3 rfl hnn3 (by decide)) dL_isSo_859 ?_
                    have hm : (L 5 (3 + n3) : Int32) = L 5 (3 + n3) := rfl
                    refine lv_icmp_ne (tgt := 924) hx hb dL_isSo_860 (by decide) (fun h9 => absurd hm h9) (fun _ => ?_)
                    refine lv_aload_n hx hb dL_isSo_863 rfl (lv_at hl 6 rfl) ?_
                    refine lv_iload hx hb dL_isSo_864 (lv_at hl 4 rfl) ?_
                    refine lv_iconst (v := 2) hx hb dL_isSo_866 (by decide) ?_
                    refine jx_xcallV (rest := []) (as := [.int (nI n3), .int 2]) hx hb hml hts hown hK hE Dj_xl hI (cX_kilos G hst Z S0 (nI n3) 2 hR.1.1.1 hR.1.1.2.1) kLX_71 ⟨(Nat.le_of_ble_eq_true rfl), (Nat.le_of_ble_eq_true rfl)⟩ (kk := 0) (ii := 0) (xW0 (by decide)) rfl rfl hl.1 (Nat.le_of_ble_eq_true rfl) dL_isSo_867 ⟨by show 0 + 20 * Z.N 0 + 23 * Z.N 1 + 11 * n3 + 2 + 1 + 2 + 2 ≤ 383; omega, by show 0 + 120 * Z.N 0 + 138 * Z.N 1 + 66 * n3 + 12 + 6 + 12 + 12 ≤ 2298; omega⟩ (fun E ce q9 w' H locs hp hI g1 g2 g3 => absurd ((vg2 hR ht5 hnn3).1.symm.trans hp.1) (by intro z; cases z)) (fun v w' H locs hp hI => ?_)
                    obtain ⟨-, rfl, rfl⟩ := hp
                    rw [(vg2 hR ht5 hnn3).2]
                    refine lv_iload hx hb dL_isSo_870 (lv_at hl 3 rfl) ?_
                    have hm : (L_on_f L (nI n3) (Z.N 1) : Int32) = L_on_f L (nI n3) (Z.N 1) := rfl
                    refine lv_icmp_ne (tgt := 924) hx hb dL_isSo_872 (by decide) (fun h9 => absurd hm h9) (fun _ => ?_)
                    refine lv_aload_n hx hb dL_isSo_875 rfl (lv_at hl 6 rfl) ?_
                    refine lv_iload hx hb dL_isSo_876 (lv_at hl 4 rfl) ?_
                    refine lv_iconst (v := 3) hx hb dL_isSo_878 (by decide) ?_
                    refine jx_xcallV (rest := []) (as := [.int (nI n3), .int 3]) hx hb hml hts hown hK hE Dj_xl hI (cX_kilos G hst Z S0 (nI n3) 3 hR.1.1.1 hR.1.1.2.1) kLX_71 ⟨(Nat.le_of_ble_eq_true rfl), (Nat.le_of_ble_eq_true rfl)⟩ (kk := 0) (ii := 0) (xW0 (by decide)) rfl rfl hl.1 (Nat.le_of_ble_eq_true rfl) dL_isSo_879 ⟨by show 0 + 20 * Z.N 0 + 23 * Z.N 1 + 11 * n3 + 2 + 1 + 2 + 2 + 2 ≤ 383; omega, by show 0 + 120 * Z.N 0 + 138 * Z.N 1 + 66 * n3 + 12 + 6 + 12 + 12 + 12 ≤ 2298; omega⟩ (fun E ce q9 w' H locs hp hI g1 g2 g3 => absurd ((vg3 hR ht5 hnn3).1.symm.trans hp.1) (by intro z; cases z)) (fun v w' H locs hp hI => ?_)
                    obtain ⟨-, rfl, rfl⟩ := hp
                    rw [(vg3 hR ht5 hnn3).2]
                    refine lv_iload hx hb dL_isSo_882 (lv_at hl 2 rfl) ?_
                    have hm : (L_lost_f L (nI n3) (Z.N 1) : Int32) = L_lost_f L (nI n3) (Z.N 1) := rfl
                    refine lv_icmp_ne (tgt := 924) hx hb dL_isSo_884 (by decide) (fun h9 => absurd hm h9) (fun _ => ?_)
                    refine lv_aload_n hx hb dL_isSo_887 rfl (lv_at hl 6 rfl) ?_
                    refine lv_iload hx hb dL_isSo_888 (lv_at hl 4 rfl) ?_
                    refine lv_iconst (v := 4) hx hb dL_isSo_890 (by decide) ?_
                    refine jx_xcallV (rest := []) (as := [.int (nI n3), .int 4]) hx hb hml hts hown hK hE Dj_xl hI (cX_kilos G hst Z S0 (nI n3) 4 hR.1.1.1 hR.1.1.2.1) kLX_71 ⟨(Nat.le_of_ble_eq_true rfl), (Nat.le_of_ble_eq_true rfl)⟩ (kk := 0) (ii := 0) (xW0 (by decide)) rfl rfl hl.1 (Nat.le_of_ble_eq_true rfl) dL_isSo_891 ⟨by show 0 + 20 * Z.N 0 + 23 * Z.N 1 + 11 * n3 + 2 + 1 + 2 + 2 + 2 + 2 ≤ 383; omega, by show 0 + 120 * Z.N 0 + 138 * Z.N 1 + 66 * n3 + 12 + 6 + 12 + 12 + 12 + 12 ≤ 2298; omega⟩ (fun E ce q9 w' H locs hp hI g1 g2 g3 => absurd ((vg4 hR ht5 hnn3).1.symm.trans hp.1) (by intro z; cases z)) (fun v w' H locs hp hI => ?_)
                    obtain ⟨-, rfl, rfl⟩ := hp
                    rw [(vg4 hR ht5 hnn3).2]
                    refine lv_iload hx hb dL_isSo_894 (lv_at hl 1 rfl) ?_
                    have hm : (L_lacks L n3 : Int32) = x1 := ex1.symm
                    refine lv_icmp_ne (tgt := 924) hx hb dL_isSo_896 (by decide) (fun h9 => absurd hm h9) (fun _ => ?_)
                    refine lv_aload hx hb dL_isSo_899 (lv_at hl 12 rfl) ?_
                    refine lv_iload hx hb dL_isSo_901 (lv_at hl 4 rfl) ?_
                    refine gA (k := 5) (n := 10) (q := n3) hx hb hK hI (by decide) rfl (vp_in_nI (Nat.lt_of_lt_of_le hnn3 (by decide)) (by decide)) (nI_clamp (Nat.lt_of_lt_of_le hnn3 (by decide))) dL_isSo_903 ?_
                    refine lv_aload hx hb dL_isSo_904 (lv_at hl 12 rfl) ?_
                    refine lv_iconst (v := 3) hx hb dL_isSo_906 (by decide) ?_
                    refine lv_iload hx hb dL_isSo_907 (lv_at hl 4 rfl) ?_
                    refine lv_iadd hx hb dL_isSo_909 ?_
                    refine gA (k := 5) (n := 10) (q := 3 + n3) hx hb hK hI (by decide) rfl (vo_n 3 rfl hnn3 (by decide) (by decide)) (vo_nc 3 rfl hnn3 (by decide)) dL_isSo_910 ?_
                    refine lv_iload hx hb dL_isSo_911 (lv_at hl 3 rfl) ?_
                    refine lv_iadd hx hb dL_isSo_913 ?_
                    refine lv_iload hx hb dL_isSo_914 (lv_at hl 2 rfl) ?_
                    refine lv_iadd hx hb dL_isSo_916 ?_
                    have hm : (L 5 n3 : Int32) = ((L 5 (3 + n3)) + (L_on_f L (nI n3) (Z.N 1))) + (L_lost_f L (nI n3) (Z.N 1)) := taken_eq hR hnn3
                    refine lv_icmp_ne (tgt := 924) hx hb dL_isSo_917 (by decide) (fun h9 => absurd hm h9) (fun _ => ?_)
                    refine lv_iconst (v := 1) hx hb dL_isSo_920 (by decide) ?_
                    refine lv_goto (tgt := 925) hx hb dL_isSo_921 (by decide) ?_
                    refine lv_istore (lv' := [(8, .int 1), (9, .int ((L_cost L n3) + ((L 5 (3 + n3)) + (40 * x1)))), (13, .int x1), (12, .int (L_lost_f L (nI n3) (Z.N 1))), (11, .int (L_on_f L (nI n3) (Z.N 1))), (10, .int (nI n3)), (0, .ref (Z.A 0 0)), (1, .ref (la 0)), (2, .ref (la 1)), (3, .ref (la 2)), (4, .ref (la 3)), (5, .ref (la 4)), (6, .ref (la 5)), (7, .ref (la 6))]) hx hb dL_isSo_925 hl (by decide) rfl (fun ls hl => ?_)
                    obtain ⟨x3, ex3⟩ : ∃ z : Int32, z = (nI n3) + 1 := ⟨_, rfl⟩
                    refine lv_iinc (v := x3) (lv' := [(10, .int x3), (8, .int 1), (9, .int ((L_cost L n3) + ((L 5 (3 + n3)) + (40 * x1)))), (13, .int x1), (12, .int (L_lost_f L (nI n3) (Z.N 1))), (11, .int (L_on_f L (nI n3) (Z.N 1))), (0, .ref (Z.A 0 0)), (1, .ref (la 0)), (2, .ref (la 1)), (3, .ref (la 2)), (4, .ref (la 3)), (5, .ref (la 4)), (6, .ref (la 5)), (7, .ref (la 6))]) hx hb dL_isSo_927 hl (k := 5) rfl (by rw [ex3]; rfl) (by decide) rfl (fun ls hl => ?_)
                    refine lv_goto (tgt := 634) hx hb dL_isSo_930 (by decide) ?_
                    rw [ex3, nI_1] at hl
                    have hc9 : ((L_cost L n3) + ((L 5 (3 + n3)) + (40 * x1)) : Int32) = L_cost L (n3 + 1) := by rw [ex1]; rfl
                    rw [hc9] at hl
                    refine W_cs (c1 := 0 + 20 * Z.N 0 + 23 * Z.N 1 + 11 * (n3 + 1)) (s1 := 0 + 120 * Z.N 0 + 138 * Z.N 1 + 66 * (n3 + 1)) (by show 0 + 20 * Z.N 0 + 23 * Z.N 1 + 11 * (n3 + 1) = 0 + 20 * Z.N 0 + 23 * Z.N 1 + 11 * n3 + 2 + 1 + 2 + 2 + 2 + 2; omega) (by show 0 + 120 * Z.N 0 + 138 * Z.N 1 + 66 * (n3 + 1) = 0 + 120 * Z.N 0 + 138 * Z.N 1 + 66 * n3 + 12 + 6 + 12 + 12 + 12 + 12; omega) ?_
                    exact ih (n3 + 1) (by omega) H locs ls hI (lv_sub hl [0, 2, 1, 6, 7, 8, 9, 10, 11, 12, 13] rfl)
                  refine lv_icmp_le (tgt := 796) hx hb dL_isSo_774 (by decide) (fun c4 => ?_) (fun c4 => ?_)
                  · refine lv_iconst (v := 0) hx hb dL_isSo_796 (by decide) ?_
                    exact hJ2 0 (by exact (if_pos c4).symm)
                  · refine lv_aload hx hb dL_isSo_777 (lv_at hl 11 rfl) ?_
                    refine lv_bipush (v := 6) hx hb dL_isSo_779 (by decide) ?_
                    refine lv_iload hx hb dL_isSo_781 (lv_at hl 2 rfl) ?_
                    refine lv_iadd hx hb dL_isSo_783 ?_
                    refine gA (k := 5) (n := 10) (q := 6 + n3) hx hb hK hI (by decide) rfl (vo_n 6 rfl hnn3 (by decide) (by decide)) (vo_nc 6 rfl hnn3 (by decide)) dL_isSo_784 ?_
                    refine lv_aload hx hb dL_isSo_785 (lv_at hl 11 rfl) ?_
                    refine lv_iconst (v := 3) hx hb dL_isSo_787 (by decide) ?_
                    refine lv_iload hx hb dL_isSo_788 (lv_at hl 2 rfl) ?_
                    refine lv_iadd hx hb dL_isSo_790 ?_
                    refine gA (k := 5) (n := 10) (q := 3 + n3) hx hb hK hI (by decide) rfl (vo_n 3 rfl hnn3 (by decide) (by decide)) (vo_nc 3 rfl hnn3 (by decide)) dL_isSo_791 ?_
                    refine lv_isub hx hb dL_isSo_792 ?_
                    refine lv_goto (tgt := 797) hx hb dL_isSo_793 (by decide) ?_
                    exact hJ2 ((L 5 (6 + n3)) - (L 5 (3 + n3))) (by exact (if_neg c4).symm)
                | succ k ih =>
                  intro m3 hkm3 H locs ls hI hl
                  have hnm3 : m3 < Z.N 1 := by omega
                  refine lv_iload hx hb dL_isSo_654 (lv_at hl 0 rfl) ?_
                  refine lv_aload hx hb dL_isSo_656 (lv_at hl 13 rfl) ?_
                  refine lv_iconst (v := 4) hx hb dL_isSo_658 (by decide) ?_
                  refine gA (k := 6) (n := 5) (q := 4) hx hb hK hI (by decide) rfl (by unfold vp_in; decide) (by decide) dL_isSo_659 ?_
                  refine lv_icmp_ge (tgt := 759) hx hb dL_isSo_660 (by decide) (fun h => absurd h (by rw [h64]; exact nI_ge (by omega) (by omega))) (fun _ => ?_)
                  refine lv_iload hx hb dL_isSo_663 (lv_at hl 2 rfl) ?_
                  refine lv_aload hx hb dL_isSo_665 (lv_at hl 10 rfl) ?_
                  refine lv_iload hx hb dL_isSo_667 (lv_at hl 0 rfl) ?_
                  refine gA (k := 3) (n := 8) (q := m3) hx hb hK hI (by decide) rfl (vp_in_nI (Nat.lt_of_lt_of_le (show m3 < 8 by omega) (by decide)) (by decide)) (nI_clamp (Nat.lt_of_lt_of_le (show m3 < 8 by omega) (by decide))) dL_isSo_669 ?_
                  refine lv_sipush (v := 256) hx hb dL_isSo_670 (by decide) ?_
                  refine lv_idiv hx hb dL_isSo_673 (by decide) ?_
                  refine lv_iconst (v := 1) hx hb dL_isSo_674 (by decide) ?_
                  refine lv_isub hx hb dL_isSo_675 ?_
                  refine lv_iload hx hb dL_isSo_676 (lv_at hl 3 rfl) ?_
                  have hJ6 : ∀ (x5 : Int32), (x5 = if (((L 3 m3) / 256) - 1) = (nI n3) then (if 4 ≤ ((L 3 m3) - (L 3 m3) / 8 * 8) then 0 else (L 4 (8 + m3))) else 0) → W p G.1 e ({ frames := 9, cells := 383, slots := 2298, locals := 152 }) s m args below meth c H locs (0 + 20 * Z.N 0 + 23 * Z.N 1 + 11 * n3) (0 + 120 * Z.N 0 + 138 * Z.N 1 + 66 * n3) Q (F0 m 705 ls [.int x5, .int (L_on_f L (nI n3) m3)]) := by
                    intro x5 ex5
                    refine lv_iadd hx hb dL_isSo_705 ?_
                    refine lv_istore (lv' := [(11, .int ((L_on_f L (nI n3) m3) + x5)), (13, .int (nI m3)), (12, .int (L_lost_f L (nI n3) m3)), (10, .int (nI n3)), (9, .int (L_cost L n3)), (8, .int 1), (0, .ref (Z.A 0 0)), (1, .ref (la 0)), (2, .ref (la 1)), (3, .ref (la 2)), (4, .ref (la 3)), (5, .ref (la 4)), (6, .ref (la 5)), (7, .ref (la 6))]) hx hb dL_isSo_706 hl (by decide) rfl (fun ls hl => ?_)
                    refine lv_iload hx hb dL_isSo_708 (lv_at hl 2 rfl) ?_
                    refine lv_aload hx hb dL_isSo_710 (lv_at hl 10 rfl) ?_
                    refine lv_iload hx hb dL_isSo_712 (lv_at hl 1 rfl) ?_
                    refine gA (k := 3) (n := 8) (q := m3) hx hb hK hI (by decide) rfl (vp_in_nI (Nat.lt_of_lt_of_le (show m3 < 8 by omega) (by decide)) (by decide)) (nI_clamp (Nat.lt_of_lt_of_le (show m3 < 8 by omega) (by decide))) dL_isSo_714 ?_
                    refine lv_sipush (v := 256) hx hb dL_isSo_715 (by decide) ?_
                    refine lv_idiv hx hb dL_isSo_718 (by decide) ?_
                    refine lv_iconst (v := 1) hx hb dL_isSo_719 (by decide) ?_
                    refine lv_isub hx hb dL_isSo_720 ?_
                    refine lv_iload hx hb dL_isSo_721 (lv_at hl 3 rfl) ?_
                    have hJ8 : ∀ (x7 : Int32), (x7 = if (((L 3 m3) / 256) - 1) = (nI n3) then (if ((L 3 m3) - (L 3 m3) / 8 * 8) = 4 then (L 4 (8 + m3)) else 0) else 0) → W p G.1 e ({ frames := 9, cells := 383, slots := 2298, locals := 152 }) s m args below meth c H locs (0 + 20 * Z.N 0 + 23 * Z.N 1 + 11 * n3) (0 + 120 * Z.N 0 + 138 * Z.N 1 + 66 * n3) Q (F0 m 750 ls [.int x7, .int (L_lost_f L (nI n3) m3)]) := by
                      intro x7 ex7
                      refine lv_iadd hx hb dL_isSo_750 ?_
                      refine lv_istore (lv' := [(12, .int ((L_lost_f L (nI n3) m3) + x7)), (11, .int ((L_on_f L (nI n3) m3) + x5)), (13, .int (nI m3)), (10, .int (nI n3)), (9, .int (L_cost L n3)), (8, .int 1), (0, .ref (Z.A 0 0)), (1, .ref (la 0)), (2, .ref (la 1)), (3, .ref (la 2)), (4, .ref (la 3)), (5, .ref (la 4)), (6, .ref (la 5)), (7, .ref (la 6))]) hx hb dL_isSo_751 hl (by decide) rfl (fun ls hl => ?_)
                      obtain ⟨x9, ex9⟩ : ∃ z : Int32, z = (nI m3) + 1 := ⟨_, rfl⟩
                      refine lv_iinc (v := x9) (lv' := [(13, .int x9), (12, .int ((L_lost_f L (nI n3) m3) + x7)), (11, .int ((L_on_f L (nI n3) m3) + x5)), (10, .int (nI n3)), (9, .int (L_cost L n3)), (8, .int 1), (0, .ref (Z.A 0 0)), (1, .ref (la 0)), (2, .ref (la 1)), (3, .ref (la 2)), (4, .ref (la 3)), (5, .ref (la 4)), (6, .ref (la 5)), (7, .ref (la 6))]) hx hb dL_isSo_753 hl (k := 2) rfl (by rw [ex9]; rfl) (by decide) rfl (fun ls hl => ?_)
                      refine lv_goto (tgt := 654) hx hb dL_isSo_756 (by decide) ?_
                      rw [ex9, nI_1] at hl
                      have hc11 : ((L_on_f L (nI n3) m3) + x5 : Int32) = L_on_f L (nI n3) (m3 + 1) := by rw [ex5]; rfl
                      rw [hc11] at hl
                      have hc12 : ((L_lost_f L (nI n3) m3) + x7 : Int32) = L_lost_f L (nI n3) (m3 + 1) := by rw [ex7]; rfl
                      rw [hc12] at hl
                      exact ih (m3 + 1) (by omega) H locs ls hI (lv_sub hl [0, 1, 2, 3, 4, 5, 6, 7, 8, 9, 10, 11, 12, 13] rfl)
                    refine lv_icmp_ne (tgt := 749) hx hb dL_isSo_723 (by decide) (fun c10 => ?_) (fun c10 => ?_)
                    · refine lv_iconst (v := 0) hx hb dL_isSo_749 (by decide) ?_
                      exact hJ8 0 (by exact (if_neg c10).symm)
                    · refine lv_aload hx hb dL_isSo_726 (lv_at hl 10 rfl) ?_
                      refine lv_iload hx hb dL_isSo_728 (lv_at hl 1 rfl) ?_
                      refine gA (k := 3) (n := 8) (q := m3) hx hb hK hI (by decide) rfl (vp_in_nI (Nat.lt_of_lt_of_le (show m3 < 8 by omega) (by decide)) (by decide)) (nI_clamp (Nat.lt_of_lt_of_le (show m3 < 8 by omega) (by decide))) dL_isSo_730 ?_
                      refine lv_bipush (v := 8) hx hb dL_isSo_731 (by decide) ?_
                      refine lv_irem hx hb dL_isSo_733 (by decide) ?_
                      refine lv_iconst (v := 4) hx hb dL_isSo_734 (by decide) ?_
                      refine lv_icmp_ne (tgt := 749) hx hb dL_isSo_735 (by decide) (fun c11 => ?_) (fun c11 => ?_)
                      · refine lv_iconst (v := 0) hx hb dL_isSo_749 (by decide) ?_
                        exact hJ8 0 (by exact ((if_pos c10).trans (if_neg c11)).symm)
                      · refine lv_aload hx hb dL_isSo_738 (lv_at hl 11 rfl) ?_
                        refine lv_bipush (v := 8) hx hb dL_isSo_740 (by decide) ?_
                        refine lv_iload hx hb dL_isSo_742 (lv_at hl 1 rfl) ?_
                        refine lv_iadd hx hb dL_isSo_744 ?_
                        refine gA (k := 4) (n := 40) (q := 8 + m3) hx hb hK hI (by decide) rfl (vo_n 8 rfl (show m3 < 8 by omega) (by decide) (by decide)) (vo_nc 8 rfl (show m3 < 8 by omega) (by decide)) dL_isSo_745 ?_
                        refine lv_goto (tgt := 750) hx hb dL_isSo_746 (by decide) ?_
                        exact hJ8 (L 4 (8 + m3)) (by exact ((if_pos c10).trans (if_pos c11)).symm)
                  refine lv_icmp_ne (tgt := 704) hx hb dL_isSo_678 (by decide) (fun c12 => ?_) (fun c12 => ?_)
                  · refine lv_iconst (v := 0) hx hb dL_isSo_704 (by decide) ?_
                    exact hJ6 0 (by exact (if_neg c12).symm)
                  · refine lv_aload hx hb dL_isSo_681 (lv_at hl 10 rfl) ?_
                    refine lv_iload hx hb dL_isSo_683 (lv_at hl 0 rfl) ?_
                    refine gA (k := 3) (n := 8) (q := m3) hx hb hK hI (by decide) rfl (vp_in_nI (Nat.lt_of_lt_of_le (show m3 < 8 by omega) (by decide)) (by decide)) (nI_clamp (Nat.lt_of_lt_of_le (show m3 < 8 by omega) (by decide))) dL_isSo_685 ?_
                    refine lv_bipush (v := 8) hx hb dL_isSo_686 (by decide) ?_
                    refine lv_irem hx hb dL_isSo_688 (by decide) ?_
                    refine lv_iconst (v := 4) hx hb dL_isSo_689 (by decide) ?_
                    refine lv_icmp_ge (tgt := 704) hx hb dL_isSo_690 (by decide) (fun c13 => ?_) (fun c13 => ?_)
                    · refine lv_iconst (v := 0) hx hb dL_isSo_704 (by decide) ?_
                      exact hJ6 0 (by exact ((if_pos c12).trans (if_pos c13)).symm)
                    · refine lv_aload hx hb dL_isSo_693 (lv_at hl 11 rfl) ?_
                      refine lv_bipush (v := 8) hx hb dL_isSo_695 (by decide) ?_
                      refine lv_iload hx hb dL_isSo_697 (lv_at hl 0 rfl) ?_
                      refine lv_iadd hx hb dL_isSo_699 ?_
                      refine gA (k := 4) (n := 40) (q := 8 + m3) hx hb hK hI (by decide) rfl (vo_n 8 rfl (show m3 < 8 by omega) (by decide) (by decide)) (vo_nc 8 rfl (show m3 < 8 by omega) (by decide)) dL_isSo_700 ?_
                      refine lv_goto (tgt := 705) hx hb dL_isSo_701 (by decide) ?_
                      exact hJ6 (L 4 (8 + m3)) (by exact ((if_pos c12).trans (if_neg c13)).symm)
              exact hL_m3 (Z.N 1) 0 (by omega) H locs ls hI (lv_sub hl [0, 1, 2, 3, 4, 5, 6, 7, 8, 9, 10, 11, 12, 13] rfl)
          refine W_cs (c1 := 0 + 20 * Z.N 0 + 23 * Z.N 1 + 11 * 0) (s1 := 0 + 120 * Z.N 0 + 138 * Z.N 1 + 66 * 0) (by show 0 + 20 * Z.N 0 + 23 * Z.N 1 + 11 * 0 = 0 + 20 * Z.N 0 + 23 * Z.N 1; omega) (by show 0 + 120 * Z.N 0 + 138 * Z.N 1 + 66 * 0 = 0 + 120 * Z.N 0 + 138 * Z.N 1; omega) ?_
          exact hL_n3 3 0 (by omega) H locs ls hI (lv_sub hl [0, 1, 2, 3, 4, 5, 6, 7, 8, 9, 10] rfl)
        | succ k ih =>
          intro n2 hkn2 H locs ls hI hl
          have hnn2 : n2 < Z.N 1 := by omega
          refine lv_iload hx hb dL_isSo_347 (lv_at hl 0 rfl) ?_
          refine lv_aload hx hb dL_isSo_349 (lv_at hl 9 rfl) ?_
          refine lv_iconst (v := 4) hx hb dL_isSo_351 (by decide) ?_
          refine gA (k := 6) (n := 5) (q := 4) hx hb hK hI (by decide) rfl (by unfold vp_in; decide) (by decide) dL_isSo_352 ?_
          refine lv_icmp_ge (tgt := 628) hx hb dL_isSo_353 (by decide) (fun h => absurd h (by rw [h64]; exact nI_ge (by omega) (by omega))) (fun _ => ?_)
          refine lv_iload hx hb dL_isSo_356 (lv_at hl 1 rfl) ?_
          refine lv_if_eq (tgt := 628) hx hb dL_isSo_358 (by decide) (fun h => absurd h (by decide)) (fun _ => ?_)
          refine lv_aload hx hb dL_isSo_361 (lv_at hl 9 rfl) ?_
          refine lv_iconst (v := 0) hx hb dL_isSo_363 (by decide) ?_
          refine gA (k := 6) (n := 5) (q := 0) hx hb hK hI (by decide) rfl (by unfold vp_in; decide) (by decide) dL_isSo_364 ?_
          refine lv_aload hx hb dL_isSo_365 (lv_at hl 9 rfl) ?_
          refine lv_iconst (v := 3) hx hb dL_isSo_367 (by decide) ?_
          refine gA (k := 6) (n := 5) (q := 3) hx hb hK hI (by decide) rfl (by unfold vp_in; decide) (by decide) dL_isSo_368 ?_
          refine lv_irem hx hb dL_isSo_369 (np_ne hR (np_pos hR hnn2)) ?_
          refine lv_istore (lv' := [(10, .int ((L 6 0) - (L 6 0) / (L 6 3) * (L 6 3))), (9, .int (nI n2)), (8, .int 1), (0, .ref (Z.A 0 0)), (1, .ref (la 0)), (2, .ref (la 1)), (3, .ref (la 2)), (4, .ref (la 3)), (5, .ref (la 4)), (6, .ref (la 5)), (7, .ref (la 6))]) hx hb dL_isSo_370 hl (by decide) rfl (fun ls hl => ?_)
          obtain ⟨q, eq, hq⟩ := pc_ix hR (np_pos hR hnn2)
          rw [eq] at hl
          have hmp := L_min_pre (S13 := L) hR.l hR.i hnn2 ⟨q, hq, rfl⟩ (lset_id (k := 0) (i := 0)).symm
          refine lv_aload_n hx hb dL_isSo_372 rfl (lv_at hl 3 rfl) ?_
          refine lv_iload hx hb dL_isSo_373 (lv_at hl 1 rfl) ?_
          refine lv_iconst (v := 0) hx hb dL_isSo_375 (by decide) ?_
          refine jx_xcallV (rest := []) (as := [.int (nI n2), .int 0]) hx hb hml hts hown hK hE Dj_xl hI (cX_ofVehicle G hst Z S0 (nI n2) 0 hR.1.1.1 hR.1.1.2.1) kLX_65 ⟨(Nat.le_of_ble_eq_true rfl), (Nat.le_of_ble_eq_true rfl)⟩ (kk := 0) (ii := 0) (xW0 (by decide)) rfl rfl hl.1 (Nat.le_of_ble_eq_true rfl) dL_isSo_376 ⟨by show 0 + 20 * Z.N 0 + 23 * n2 + 2 ≤ 383; omega, by show 0 + 120 * Z.N 0 + 138 * n2 + 12 ≤ 2298; omega⟩ (fun E ce q9 w' H locs hp hI g1 g2 g3 => absurd ((vo0 hR ht5 hnn2).1.symm.trans hp.1) (by intro z; cases z)) (fun v w' H locs hp hI => ?_)
          obtain ⟨-, rfl, rfl⟩ := hp
          rw [(vo0 hR ht5 hnn2).2]
          refine lv_aload hx hb dL_isSo_379 (lv_at hl 7 rfl) ?_
          refine lv_iload hx hb dL_isSo_381 (lv_at hl 1 rfl) ?_
          refine gA (k := 3) (n := 8) (q := n2) hx hb hK hI (by decide) rfl (vp_in_nI (Nat.lt_of_lt_of_le (show n2 < 8 by omega) (by decide)) (by decide)) (nI_clamp (Nat.lt_of_lt_of_le (show n2 < 8 by omega) (by decide))) dL_isSo_383 ?_
          refine lv_bipush (v := 8) hx hb dL_isSo_384 (by decide) ?_
          refine lv_irem hx hb dL_isSo_386 (by decide) ?_
          have hm : ((L 3 n2) - (L 3 n2) / 8 * 8 : Int32) = (L 3 n2) - (L 3 n2) / 8 * 8 := rfl
          refine lv_icmp_ne (tgt := 619) hx hb dL_isSo_387 (by decide) (fun h9 => absurd hm h9) (fun _ => ?_)
          refine lv_aload_n hx hb dL_isSo_390 rfl (lv_at hl 3 rfl) ?_
          refine lv_iload hx hb dL_isSo_391 (lv_at hl 1 rfl) ?_
          refine lv_iconst (v := 1) hx hb dL_isSo_393 (by decide) ?_
          refine jx_xcallV (rest := []) (as := [.int (nI n2), .int 1]) hx hb hml hts hown hK hE Dj_xl hI (cX_ofVehicle G hst Z S0 (nI n2) 1 hR.1.1.1 hR.1.1.2.1) kLX_65 ⟨(Nat.le_of_ble_eq_true rfl), (Nat.le_of_ble_eq_true rfl)⟩ (kk := 0) (ii := 0) (xW0 (by decide)) rfl rfl hl.1 (Nat.le_of_ble_eq_true rfl) dL_isSo_394 ⟨by show 0 + 20 * Z.N 0 + 23 * n2 + 2 + 2 ≤ 383; omega, by show 0 + 120 * Z.N 0 + 138 * n2 + 12 + 12 ≤ 2298; omega⟩ (fun E ce q9 w' H locs hp hI g1 g2 g3 => absurd ((vo1 hR ht5 hnn2).1.symm.trans hp.1) (by intro z; cases z)) (fun v w' H locs hp hI => ?_)
          obtain ⟨-, rfl, rfl⟩ := hp
          rw [(vo1 hR ht5 hnn2).2]
          refine lv_aload hx hb dL_isSo_397 (lv_at hl 8 rfl) ?_
          refine lv_iload hx hb dL_isSo_399 (lv_at hl 1 rfl) ?_
          refine gA (k := 4) (n := 40) (q := n2) hx hb hK hI (by decide) rfl (vp_in_nI (Nat.lt_of_lt_of_le (show n2 < 8 by omega) (by decide)) (by decide)) (nI_clamp (Nat.lt_of_lt_of_le (show n2 < 8 by omega) (by decide))) dL_isSo_401 ?_
          refine lv_aload hx hb dL_isSo_402 (lv_at hl 8 rfl) ?_
          refine lv_bipush (v := 8) hx hb dL_isSo_404 (by decide) ?_
          refine lv_iload hx hb dL_isSo_406 (lv_at hl 1 rfl) ?_
          refine lv_iadd hx hb dL_isSo_408 ?_
          refine gA (k := 4) (n := 40) (q := 8 + n2) hx hb hK hI (by decide) rfl (vo_n 8 rfl (show n2 < 8 by omega) (by decide) (by decide)) (vo_nc 8 rfl (show n2 < 8 by omega) (by decide)) dL_isSo_409 ?_
          refine lv_iadd hx hb dL_isSo_410 ?_
          have hm : ((L 4 n2) + (L 4 (8 + n2)) : Int32) = (L 4 n2) + (L 4 (8 + n2)) := rfl
          refine lv_icmp_ne (tgt := 619) hx hb dL_isSo_411 (by decide) (fun h9 => absurd hm h9) (fun _ => ?_)
          refine lv_aload_n hx hb dL_isSo_414 rfl (lv_at hl 3 rfl) ?_
          refine lv_iload hx hb dL_isSo_415 (lv_at hl 1 rfl) ?_
          refine lv_iconst (v := 2) hx hb dL_isSo_417 (by decide) ?_
          refine jx_xcallV (rest := []) (as := [.int (nI n2), .int 2]) hx hb hml hts hown hK hE Dj_xl hI (cX_ofVehicle G hst Z S0 (nI n2) 2 hR.1.1.1 hR.1.1.2.1) kLX_65 ⟨(Nat.le_of_ble_eq_true rfl), (Nat.le_of_ble_eq_true rfl)⟩ (kk := 0) (ii := 0) (xW0 (by decide)) rfl rfl hl.1 (Nat.le_of_ble_eq_true rfl) dL_isSo_418 ⟨by show 0 + 20 * Z.N 0 + 23 * n2 + 2 + 2 + 2 ≤ 383; omega, by show 0 + 120 * Z.N 0 + 138 * n2 + 12 + 12 + 12 ≤ 2298; omega⟩ (fun E ce q9 w' H locs hp hI g1 g2 g3 => absurd ((vo2 hR ht5 hnn2).1.symm.trans hp.1) (by intro z; cases z)) (fun v w' H locs hp hI => ?_)
          obtain ⟨-, rfl, rfl⟩ := hp
          rw [(vo2 hR ht5 hnn2).2]
          refine lv_aload hx hb dL_isSo_421 (lv_at hl 8 rfl) ?_
          refine lv_bipush (v := 8) hx hb dL_isSo_423 (by decide) ?_
          refine lv_iload hx hb dL_isSo_425 (lv_at hl 1 rfl) ?_
          refine lv_iadd hx hb dL_isSo_427 ?_
          refine gA (k := 4) (n := 40) (q := 8 + n2) hx hb hK hI (by decide) rfl (vo_n 8 rfl (show n2 < 8 by omega) (by decide) (by decide)) (vo_nc 8 rfl (show n2 < 8 by omega) (by decide)) dL_isSo_428 ?_
          have hm : (L 4 (8 + n2) : Int32) = L 4 (8 + n2) := rfl
          refine lv_icmp_ne (tgt := 619) hx hb dL_isSo_429 (by decide) (fun h9 => absurd hm h9) (fun _ => ?_)
          refine lv_aload_n hx hb dL_isSo_432 rfl (lv_at hl 3 rfl) ?_
          refine lv_iload hx hb dL_isSo_433 (lv_at hl 1 rfl) ?_
          refine lv_iconst (v := 3) hx hb dL_isSo_435 (by decide) ?_
          refine jx_xcallV (rest := []) (as := [.int (nI n2), .int 3]) hx hb hml hts hown hK hE Dj_xl hI (cX_ofVehicle G hst Z S0 (nI n2) 3 hR.1.1.1 hR.1.1.2.1) kLX_65 ⟨(Nat.le_of_ble_eq_true rfl), (Nat.le_of_ble_eq_true rfl)⟩ (kk := 0) (ii := 0) (xW0 (by decide)) rfl rfl hl.1 (Nat.le_of_ble_eq_true rfl) dL_isSo_436 ⟨by show 0 + 20 * Z.N 0 + 23 * n2 + 2 + 2 + 2 + 2 ≤ 383; omega, by show 0 + 120 * Z.N 0 + 138 * n2 + 12 + 12 + 12 + 12 ≤ 2298; omega⟩ (fun E ce q9 w' H locs hp hI g1 g2 g3 => absurd ((vo3 hR ht5 hnn2).1.symm.trans hp.1) (by intro z; cases z)) (fun v w' H locs hp hI => ?_)
          obtain ⟨-, rfl, rfl⟩ := hp
          rw [(vo3 hR ht5 hnn2).2]
          refine lv_aload hx hb dL_isSo_439 (lv_at hl 7 rfl) ?_
          refine lv_iload hx hb dL_isSo_441 (lv_at hl 1 rfl) ?_
          refine gA (k := 3) (n := 8) (q := n2) hx hb hK hI (by decide) rfl (vp_in_nI (Nat.lt_of_lt_of_le (show n2 < 8 by omega) (by decide)) (by decide)) (nI_clamp (Nat.lt_of_lt_of_le (show n2 < 8 by omega) (by decide))) dL_isSo_443 ?_
          refine lv_sipush (v := 256) hx hb dL_isSo_444 (by decide) ?_
          refine lv_idiv hx hb dL_isSo_447 (by decide) ?_
          refine lv_iconst (v := 1) hx hb dL_isSo_448 (by decide) ?_
          refine lv_isub hx hb dL_isSo_449 ?_
          have hm : (((L 3 n2) / 256) - 1 : Int32) = ((L 3 n2) / 256) - 1 := rfl
          refine lv_icmp_ne (tgt := 619) hx hb dL_isSo_450 (by decide) (fun h9 => absurd hm h9) (fun _ => ?_)
          refine lv_aload_n hx hb dL_isSo_453 rfl (lv_at hl 3 rfl) ?_
          refine lv_iload hx hb dL_isSo_454 (lv_at hl 1 rfl) ?_
          refine lv_iconst (v := 4) hx hb dL_isSo_456 (by decide) ?_
          refine jx_xcallV (rest := []) (as := [.int (nI n2), .int 4]) hx hb hml hts hown hK hE Dj_xl hI (cX_ofVehicle G hst Z S0 (nI n2) 4 hR.1.1.1 hR.1.1.2.1) kLX_65 ⟨(Nat.le_of_ble_eq_true rfl), (Nat.le_of_ble_eq_true rfl)⟩ (kk := 0) (ii := 0) (xW0 (by decide)) rfl rfl hl.1 (Nat.le_of_ble_eq_true rfl) dL_isSo_457 ⟨by show 0 + 20 * Z.N 0 + 23 * n2 + 2 + 2 + 2 + 2 + 2 ≤ 383; omega, by show 0 + 120 * Z.N 0 + 138 * n2 + 12 + 12 + 12 + 12 + 12 ≤ 2298; omega⟩ (fun E ce q9 w' H locs hp hI g1 g2 g3 => absurd ((vo4 hR ht5 hnn2).1.symm.trans hp.1) (by intro z; cases z)) (fun v w' H locs hp hI => ?_)
          obtain ⟨-, rfl, rfl⟩ := hp
          rw [(vo4 hR ht5 hnn2).2]
          refine lv_aload hx hb dL_isSo_460 (lv_at hl 7 rfl) ?_
          refine lv_iload hx hb dL_isSo_462 (lv_at hl 1 rfl) ?_
          refine gA (k := 3) (n := 8) (q := n2) hx hb hK hI (by decide) rfl (vp_in_nI (Nat.lt_of_lt_of_le (show n2 < 8 by omega) (by decide)) (by decide)) (nI_clamp (Nat.lt_of_lt_of_le (show n2 < 8 by omega) (by decide))) dL_isSo_464 ?_
          refine lv_bipush (v := 8) hx hb dL_isSo_465 (by decide) ?_
          refine lv_idiv hx hb dL_isSo_467 (by decide) ?_
          refine lv_bipush (v := 16) hx hb dL_isSo_468 (by decide) ?_
          refine lv_irem hx hb dL_isSo_470 (by decide) ?_
          have hm : (((L 3 n2) / 8) - ((L 3 n2) / 8) / 16 * 16 : Int32) = ((L 3 n2) / 8) - ((L 3 n2) / 8) / 16 * 16 := rfl
          refine lv_icmp_ne (tgt := 619) hx hb dL_isSo_471 (by decide) (fun h9 => absurd hm h9) (fun _ => ?_)
          refine lv_aload_n hx hb dL_isSo_474 rfl (lv_at hl 3 rfl) ?_
          refine lv_iload hx hb dL_isSo_475 (lv_at hl 1 rfl) ?_
          refine lv_iconst (v := 5) hx hb dL_isSo_477 (by decide) ?_
          refine jx_xcallV (rest := []) (as := [.int (nI n2), .int 5]) hx hb hml hts hown hK hE Dj_xl hI (cX_ofVehicle G hst Z S0 (nI n2) 5 hR.1.1.1 hR.1.1.2.1) kLX_65 ⟨(Nat.le_of_ble_eq_true rfl), (Nat.le_of_ble_eq_true rfl)⟩ (kk := 0) (ii := 0) (xW0 (by decide)) rfl rfl hl.1 (Nat.le_of_ble_eq_true rfl) dL_isSo_478 ⟨by show 0 + 20 * Z.N 0 + 23 * n2 + 2 + 2 + 2 + 2 + 2 + 2 ≤ 383; omega, by show 0 + 120 * Z.N 0 + 138 * n2 + 12 + 12 + 12 + 12 + 12 + 12 ≤ 2298; omega⟩ (fun E ce q9 w' H locs hp hI g1 g2 g3 => absurd ((vo5 hR ht5 hnn2).1.symm.trans hp.1) (by intro z; cases z)) (fun v w' H locs hp hI => ?_)
          obtain ⟨-, rfl, rfl⟩ := hp
          rw [(vo5 hR ht5 hnn2).2]
          refine lv_aload hx hb dL_isSo_481 (lv_at hl 7 rfl) ?_
          refine lv_iload hx hb dL_isSo_483 (lv_at hl 1 rfl) ?_
          refine gA (k := 3) (n := 8) (q := n2) hx hb hK hI (by decide) rfl (vp_in_nI (Nat.lt_of_lt_of_le (show n2 < 8 by omega) (by decide)) (by decide)) (nI_clamp (Nat.lt_of_lt_of_le (show n2 < 8 by omega) (by decide))) dL_isSo_485 ?_
          refine lv_sipush (v := 128) hx hb dL_isSo_486 (by decide) ?_
          refine lv_idiv hx hb dL_isSo_489 (by decide) ?_
          refine lv_iconst (v := 2) hx hb dL_isSo_490 (by decide) ?_
          refine lv_irem hx hb dL_isSo_491 (by decide) ?_
          have hm : (((L 3 n2) / 128) - ((L 3 n2) / 128) / 2 * 2 : Int32) = ((L 3 n2) / 128) - ((L 3 n2) / 128) / 2 * 2 := rfl
          refine lv_icmp_ne (tgt := 619) hx hb dL_isSo_492 (by decide) (fun h9 => absurd hm h9) (fun _ => ?_)
          refine lv_aload_n hx hb dL_isSo_495 rfl (lv_at hl 3 rfl) ?_
          refine lv_iload hx hb dL_isSo_496 (lv_at hl 1 rfl) ?_
          refine lv_bipush (v := 6) hx hb dL_isSo_498 (by decide) ?_
          refine jx_xcallV (rest := []) (as := [.int (nI n2), .int 6]) hx hb hml hts hown hK hE Dj_xl hI (cX_ofVehicle G hst Z S0 (nI n2) 6 hR.1.1.1 hR.1.1.2.1) kLX_65 ⟨(Nat.le_of_ble_eq_true rfl), (Nat.le_of_ble_eq_true rfl)⟩ (kk := 0) (ii := 0) (xW0 (by decide)) rfl rfl hl.1 (Nat.le_of_ble_eq_true rfl) dL_isSo_500 ⟨by show 0 + 20 * Z.N 0 + 23 * n2 + 2 + 2 + 2 + 2 + 2 + 2 + 2 ≤ 383; omega, by show 0 + 120 * Z.N 0 + 138 * n2 + 12 + 12 + 12 + 12 + 12 + 12 + 12 ≤ 2298; omega⟩ (fun E ce q9 w' H locs hp hI g1 g2 g3 => absurd ((vo6 hR ht5 hnn2).1.symm.trans hp.1) (by intro z; cases z)) (fun v w' H locs hp hI => ?_)
          obtain ⟨-, rfl, rfl⟩ := hp
          rw [(vo6 hR ht5 hnn2).2]
          refine lv_aload hx hb dL_isSo_503 (lv_at hl 7 rfl) ?_
          refine lv_iload hx hb dL_isSo_505 (lv_at hl 1 rfl) ?_
          refine gA (k := 3) (n := 8) (q := n2) hx hb hK hI (by decide) rfl (vp_in_nI (Nat.lt_of_lt_of_le (show n2 < 8 by omega) (by decide)) (by decide)) (nI_clamp (Nat.lt_of_lt_of_le (show n2 < 8 by omega) (by decide))) dL_isSo_507 ?_
          refine lv_bipush (v := 8) hx hb dL_isSo_508 (by decide) ?_
          refine lv_irem hx hb dL_isSo_510 (by decide) ?_
          refine lv_iconst (v := 1) hx hb dL_isSo_511 (by decide) ?_
          have hJ15 : ∀ (x14 : Int32), (x14 = if ((L 3 n2) - (L 3 n2) / 8 * 8) = 1 then (L 4 (32 + n2)) else (-1)) → W p G.1 e ({ frames := 9, cells := 383, slots := 2298, locals := 152 }) s m args below meth c H locs (0 + 20 * Z.N 0 + 23 * n2 + 2 + 2 + 2 + 2 + 2 + 2 + 2) (0 + 120 * Z.N 0 + 138 * n2 + 12 + 12 + 12 + 12 + 12 + 12 + 12) Q (F0 m 527 ls [.int x14, .int (if ((L 3 n2) - (L 3 n2) / 8 * 8) = 1 then (L 4 (32 + n2)) else (-1))]) := by
            intro x14 ex14
            have hm : (if ((L 3 n2) - (L 3 n2) / 8 * 8) = 1 then (L 4 (32 + n2)) else (-1) : Int32) = x14 := ex14.symm
            refine lv_icmp_ne (tgt := 619) hx hb dL_isSo_527 (by decide) (fun h9 => absurd hm h9) (fun _ => ?_)
            refine lv_aload_n hx hb dL_isSo_530 rfl (lv_at hl 3 rfl) ?_
            refine lv_iload hx hb dL_isSo_531 (lv_at hl 1 rfl) ?_
            refine jx_xcallV (rest := []) (as := [.int (nI n2)]) hx hb hml hts hown hK hE Dj_xl hI (cX_why G hst Z S0 (nI n2) hR.1.1.1 hR.1.1.2.1) kLX_68 ⟨(Nat.le_of_ble_eq_true rfl), (Nat.le_of_ble_eq_true rfl)⟩ (kk := 0) (ii := 0) (xW0 (by decide)) rfl rfl hl.1 (Nat.le_of_ble_eq_true rfl) dL_isSo_533 ⟨by show 0 + 20 * Z.N 0 + 23 * n2 + 2 + 2 + 2 + 2 + 2 + 2 + 2 + 1 ≤ 383; omega, by show 0 + 120 * Z.N 0 + 138 * n2 + 12 + 12 + 12 + 12 + 12 + 12 + 12 + 6 ≤ 2298; omega⟩ (fun E ce q9 w' H locs hp hI g1 g2 g3 => absurd ((vw hR ht5 hnn2).1.symm.trans hp.1) (by intro z; cases z)) (fun v w' H locs hp hI => ?_)
            obtain ⟨-, rfl, rfl⟩ := hp
            rw [(vw hR ht5 hnn2).2]
            refine lv_aload_n hx hb dL_isSo_536 rfl (lv_at hl 4 rfl) ?_
            refine lv_aload_n hx hb dL_isSo_537 rfl (lv_at hl 5 rfl) ?_
            refine lv_aload hx hb dL_isSo_538 (lv_at hl 7 rfl) ?_
            refine lv_aload hx hb dL_isSo_540 (lv_at hl 8 rfl) ?_
            refine lv_aload hx hb dL_isSo_542 (lv_at hl 10 rfl) ?_
            refine lv_iload hx hb dL_isSo_544 (lv_at hl 1 rfl) ?_
            refine cSv (rest := [.int (L_why L (nI n2))]) hx hb hml hts hown hK hE hI (qL_whyA G hR hnn2) kw_116 ⟨(Nat.le_of_ble_eq_true rfl), (Nat.le_of_ble_eq_true rfl)⟩ rfl rfl hl.1 rfl (Nat.le_of_ble_eq_true rfl) dL_isSo_546 ⟨by show 0 + 20 * Z.N 0 + 23 * n2 + 2 + 2 + 2 + 2 + 2 + 2 + 2 + 1 ≤ 383; omega, by show 0 + 120 * Z.N 0 + 138 * n2 + 12 + 12 + 12 + 12 + 12 + 12 + 12 + 6 ≤ 2298; omega⟩ (fun H locs hI => ?_)
            have hm : (L_why L (nI n2) : Int32) = L_why L (nI n2) := rfl
            refine lv_icmp_ne (tgt := 619) hx hb dL_isSo_549 (by decide) (fun h9 => absurd hm h9) (fun _ => ?_)
            refine lv_aload_n hx hb dL_isSo_552 rfl (lv_at hl 3 rfl) ?_
            refine lv_iload hx hb dL_isSo_553 (lv_at hl 1 rfl) ?_
            refine lv_iload hx hb dL_isSo_555 (lv_at hl 0 rfl) ?_
            refine jx_xcallV (rest := []) (as := [.int (nI n2), .int (nI q)]) hx hb hml hts hown hK hE Dj_xl hI (cX_speed G hst Z S0 (nI n2) (nI q) hR.1.1.1) kLX_137 ⟨(Nat.le_of_ble_eq_true rfl), (Nat.le_of_ble_eq_true rfl)⟩ (kk := 0) (ii := 0) (xW0 (by decide)) rfl rfl hl.1 (Nat.le_of_ble_eq_true rfl) dL_isSo_557 ⟨by show 0 + 20 * Z.N 0 + 23 * n2 + 2 + 2 + 2 + 2 + 2 + 2 + 2 + 1 + 2 ≤ 383; omega, by show 0 + 120 * Z.N 0 + 138 * n2 + 12 + 12 + 12 + 12 + 12 + 12 + 12 + 6 + 12 ≤ 2298; omega⟩ (fun E ce q9 w' H locs hp hI g1 g2 g3 => absurd ((vs hR ht5 hnn2 hq).1.symm.trans hp.1) (by intro z; cases z)) (fun v w' H locs hp hI => ?_)
            obtain ⟨-, rfl, rfl⟩ := hp
            rw [(vs hR ht5 hnn2 hq).2]
            refine lv_aload_n hx hb dL_isSo_560 rfl (lv_at hl 5 rfl) ?_
            refine lv_aload_n hx hb dL_isSo_561 rfl (lv_at hl 6 rfl) ?_
            refine lv_aload hx hb dL_isSo_562 (lv_at hl 8 rfl) ?_
            refine lv_iload hx hb dL_isSo_564 (lv_at hl 1 rfl) ?_
            refine lv_iload hx hb dL_isSo_566 (lv_at hl 0 rfl) ?_
            refine cSv (rest := [.int (L_speed L (nI n2) (nI q))]) hx hb hml hts hown hK hE hI (qL_speed G _ la L (nI n2) (nI q) (vp_in_nI (show n2 < 8 by omega) (by decide)) (vp_in_nI (show q < 8 by omega) (by decide)) hmp.1 hmp.2.1) kw_94 ⟨(Nat.le_of_ble_eq_true rfl), (Nat.le_of_ble_eq_true rfl)⟩ rfl rfl hl.1 rfl (Nat.le_of_ble_eq_true rfl) dL_isSo_568 ⟨by show 0 + 20 * Z.N 0 + 23 * n2 + 2 + 2 + 2 + 2 + 2 + 2 + 2 + 1 + 2 ≤ 383; omega, by show 0 + 120 * Z.N 0 + 138 * n2 + 12 + 12 + 12 + 12 + 12 + 12 + 12 + 6 + 12 ≤ 2298; omega⟩ (fun H locs hI => ?_)
            have hm : (L_speed L (nI n2) (nI q) : Int32) = L_speed L (nI n2) (nI q) := rfl
            refine lv_icmp_ne (tgt := 619) hx hb dL_isSo_571 (by decide) (fun h9 => absurd hm h9) (fun _ => ?_)
            refine lv_aload_n hx hb dL_isSo_574 rfl (lv_at hl 3 rfl) ?_
            refine lv_iload hx hb dL_isSo_575 (lv_at hl 1 rfl) ?_
            refine lv_iload hx hb dL_isSo_577 (lv_at hl 0 rfl) ?_
            refine jx_xcallV (rest := []) (as := [.int (nI n2), .int (nI q)]) hx hb hml hts hown hK hE Dj_xl hI (cX_minutes G hst Z S0 (nI n2) (nI q) hR.1.1.1) kLX_139 ⟨(Nat.le_of_ble_eq_true rfl), (Nat.le_of_ble_eq_true rfl)⟩ (kk := 0) (ii := 0) (xW0 (by decide)) rfl rfl hl.1 (Nat.le_of_ble_eq_true rfl) dL_isSo_579 ⟨by show 0 + 20 * Z.N 0 + 23 * n2 + 2 + 2 + 2 + 2 + 2 + 2 + 2 + 1 + 2 + 2 ≤ 383; omega, by show 0 + 120 * Z.N 0 + 138 * n2 + 12 + 12 + 12 + 12 + 12 + 12 + 12 + 6 + 12 + 12 ≤ 2298; omega⟩ (fun E ce q9 w' H locs hp hI g1 g2 g3 => absurd ((vm hR ht5 hnn2 hq).1.symm.trans hp.1) (by intro z; cases z)) (fun v w' H locs hp hI => ?_)
            obtain ⟨-, rfl, rfl⟩ := hp
            rw [(vm hR ht5 hnn2 hq).2]
            refine lv_aload_n hx hb dL_isSo_582 rfl (lv_at hl 5 rfl) ?_
            refine lv_aload_n hx hb dL_isSo_583 rfl (lv_at hl 6 rfl) ?_
            refine lv_aload hx hb dL_isSo_584 (lv_at hl 8 rfl) ?_
            refine lv_iload hx hb dL_isSo_586 (lv_at hl 1 rfl) ?_
            refine lv_iload hx hb dL_isSo_588 (lv_at hl 0 rfl) ?_
            refine cSv (rest := [.int (L_minutes L (nI n2) (nI q))]) hx hb hml hts hown hK hE hI (qL_minutes G _ la L (nI n2) (nI q) (vp_in_nI (show n2 < 8 by omega) (by decide)) (vp_in_nI (show q < 8 by omega) (by decide)) hmp.1 hmp.2.1 hmp.2.2) kw_123 ⟨(Nat.le_of_ble_eq_true rfl), (Nat.le_of_ble_eq_true rfl)⟩ rfl rfl hl.1 rfl (Nat.le_of_ble_eq_true rfl) dL_isSo_590 ⟨by show 0 + 20 * Z.N 0 + 23 * n2 + 2 + 2 + 2 + 2 + 2 + 2 + 2 + 1 + 2 + 2 ≤ 383; omega, by show 0 + 120 * Z.N 0 + 138 * n2 + 12 + 12 + 12 + 12 + 12 + 12 + 12 + 6 + 12 + 12 ≤ 2298; omega⟩ (fun H locs hI => ?_)
            have hm : (L_minutes L (nI n2) (nI q) : Int32) = L_minutes L (nI n2) (nI q) := rfl
            refine lv_icmp_ne (tgt := 619) hx hb dL_isSo_593 (by decide) (fun h9 => absurd hm h9) (fun _ => ?_)
            refine lv_aload_n hx hb dL_isSo_596 rfl (lv_at hl 3 rfl) ?_
            refine lv_iload hx hb dL_isSo_597 (lv_at hl 1 rfl) ?_
            refine lv_iload hx hb dL_isSo_599 (lv_at hl 0 rfl) ?_
            refine jx_xcallV (rest := []) (as := [.int (nI n2), .int (nI q)]) hx hb hml hts hown hK hE Dj_xl hI (cX_minutesAnew G hst Z S0 (nI n2) (nI q) hR.1.1.1) kLX_141 ⟨(Nat.le_of_ble_eq_true rfl), (Nat.le_of_ble_eq_true rfl)⟩ (kk := 0) (ii := 0) (xW0 (by decide)) rfl rfl hl.1 (Nat.le_of_ble_eq_true rfl) dL_isSo_601 ⟨by show 0 + 20 * Z.N 0 + 23 * n2 + 2 + 2 + 2 + 2 + 2 + 2 + 2 + 1 + 2 + 2 + 2 ≤ 383; omega, by show 0 + 120 * Z.N 0 + 138 * n2 + 12 + 12 + 12 + 12 + 12 + 12 + 12 + 6 + 12 + 12 + 12 ≤ 2298; omega⟩ (fun E ce q9 w' H locs hp hI g1 g2 g3 => absurd ((vma hR ht5 hnn2 hq).1.symm.trans hp.1) (by intro z; cases z)) (fun v w' H locs hp hI => ?_)
            obtain ⟨-, rfl, rfl⟩ := hp
            rw [(vma hR ht5 hnn2 hq).2]
            refine lv_aload_n hx hb dL_isSo_604 rfl (lv_at hl 3 rfl) ?_
            refine lv_iload hx hb dL_isSo_605 (lv_at hl 1 rfl) ?_
            refine lv_iload hx hb dL_isSo_607 (lv_at hl 0 rfl) ?_
            refine jx_xcallV (rest := [.int (L_minutes L (nI n2) (nI q))]) (as := [.int (nI n2), .int (nI q)]) hx hb hml hts hown hK hE Dj_xl hI (cX_minutes G hst Z S0 (nI n2) (nI q) hR.1.1.1) kLX_139 ⟨(Nat.le_of_ble_eq_true rfl), (Nat.le_of_ble_eq_true rfl)⟩ (kk := 0) (ii := 0) (xW0 (by decide)) rfl rfl hl.1 (Nat.le_of_ble_eq_true rfl) dL_isSo_609 ⟨by show 0 + 20 * Z.N 0 + 23 * n2 + 2 + 2 + 2 + 2 + 2 + 2 + 2 + 1 + 2 + 2 + 2 + 2 ≤ 383; omega, by show 0 + 120 * Z.N 0 + 138 * n2 + 12 + 12 + 12 + 12 + 12 + 12 + 12 + 6 + 12 + 12 + 12 + 12 ≤ 2298; omega⟩ (fun E ce q9 w' H locs hp hI g1 g2 g3 => absurd ((vm hR ht5 hnn2 hq).1.symm.trans hp.1) (by intro z; cases z)) (fun v w' H locs hp hI => ?_)
            obtain ⟨-, rfl, rfl⟩ := hp
            rw [(vm hR ht5 hnn2 hq).2]
            have hm : (L_minutes L (nI n2) (nI q) : Int32) = L_minutes L (nI n2) (nI q) := rfl
            refine lv_icmp_ne (tgt := 619) hx hb dL_isSo_612 (by decide) (fun h9 => absurd hm h9) (fun _ => ?_)
            refine lv_iconst (v := 1) hx hb dL_isSo_615 (by decide) ?_
            refine lv_goto (tgt := 620) hx hb dL_isSo_616 (by decide) ?_
            refine lv_istore (lv' := [(8, .int 1), (10, .int (nI q)), (9, .int (nI n2)), (0, .ref (Z.A 0 0)), (1, .ref (la 0)), (2, .ref (la 1)), (3, .ref (la 2)), (4, .ref (la 3)), (5, .ref (la 4)), (6, .ref (la 5)), (7, .ref (la 6))]) hx hb dL_isSo_620 hl (by decide) rfl (fun ls hl => ?_)
            obtain ⟨x16, ex16⟩ : ∃ z : Int32, z = (nI n2) + 1 := ⟨_, rfl⟩
            refine lv_iinc (v := x16) (lv' := [(9, .int x16), (8, .int 1), (10, .int (nI q)), (0, .ref (Z.A 0 0)), (1, .ref (la 0)), (2, .ref (la 1)), (3, .ref (la 2)), (4, .ref (la 3)), (5, .ref (la 4)), (6, .ref (la 5)), (7, .ref (la 6))]) hx hb dL_isSo_622 hl (k := 2) rfl (by rw [ex16]; rfl) (by decide) rfl (fun ls hl => ?_)
            refine lv_goto (tgt := 347) hx hb dL_isSo_625 (by decide) ?_
            rw [ex16, nI_1] at hl
            refine W_cs (c1 := 0 + 20 * Z.N 0 + 23 * (n2 + 1)) (s1 := 0 + 120 * Z.N 0 + 138 * (n2 + 1)) (by show 0 + 20 * Z.N 0 + 23 * (n2 + 1) = 0 + 20 * Z.N 0 + 23 * n2 + 2 + 2 + 2 + 2 + 2 + 2 + 2 + 1 + 2 + 2 + 2 + 2; omega) (by show 0 + 120 * Z.N 0 + 138 * (n2 + 1) = 0 + 120 * Z.N 0 + 138 * n2 + 12 + 12 + 12 + 12 + 12 + 12 + 12 + 6 + 12 + 12 + 12 + 12; omega) ?_
            exact ih (n2 + 1) (by omega) H locs ls hI (lv_sub hl [0, 1, 3, 4, 5, 6, 7, 8, 9, 10] rfl)
          refine lv_icmp_ne (tgt := 526) hx hb dL_isSo_512 (by decide) (fun c17 => ?_) (fun c17 => ?_)
          · refine lv_iconst (v := (-1)) hx hb dL_isSo_526 (by decide) ?_
            exact hJ15 (-1) (by exact (if_neg c17).symm)
          · refine lv_aload hx hb dL_isSo_515 (lv_at hl 8 rfl) ?_
            refine lv_bipush (v := 32) hx hb dL_isSo_517 (by decide) ?_
            refine lv_iload hx hb dL_isSo_519 (lv_at hl 1 rfl) ?_
            refine lv_iadd hx hb dL_isSo_521 ?_
            refine gA (k := 4) (n := 40) (q := 32 + n2) hx hb hK hI (by decide) rfl (vo_n 32 rfl (show n2 < 8 by omega) (by decide) (by decide)) (vo_nc 32 rfl (show n2 < 8 by omega) (by decide)) dL_isSo_522 ?_
            refine lv_goto (tgt := 527) hx hb dL_isSo_523 (by decide) ?_
            exact hJ15 (L 4 (32 + n2)) (by exact (if_pos c17).symm)
      refine W_cs (c1 := 0 + 20 * Z.N 0 + 23 * 0) (s1 := 0 + 120 * Z.N 0 + 138 * 0) (by show 0 + 20 * Z.N 0 + 23 * 0 = 0 + 20 * Z.N 0; omega) (by show 0 + 120 * Z.N 0 + 138 * 0 = 0 + 120 * Z.N 0; omega) ?_
      exact hL_n2 (Z.N 1) 0 (by omega) H locs ls hI (lv_sub hl [0, 1, 2, 3, 4, 5, 6, 7, 8, 9] rfl)
    | succ k ih =>
      intro n1 hkn1 H locs ls hI hl
      have hnn1 : n1 < Z.N 0 := by omega
      refine lv_iload hx hb dL_isSo_21 (lv_at hl 0 rfl) ?_
      refine lv_aload hx hb dL_isSo_23 (lv_at hl 9 rfl) ?_
      refine lv_iconst (v := 3) hx hb dL_isSo_25 (by decide) ?_
      refine gA (k := 6) (n := 5) (q := 3) hx hb hK hI (by decide) rfl (by unfold vp_in; decide) (by decide) dL_isSo_26 ?_
      refine lv_icmp_ge (tgt := 344) hx hb dL_isSo_27 (by decide) (fun h => absurd h (by rw [h63]; exact nI_ge (by omega) (by omega))) (fun _ => ?_)
      refine lv_iload hx hb dL_isSo_30 (lv_at hl 1 rfl) ?_
      refine lv_if_eq (tgt := 344) hx hb dL_isSo_32 (by decide) (fun h => absurd h (by decide)) (fun _ => ?_)
      refine lv_iconst (v := 0) hx hb dL_isSo_35 (by decide) ?_
      refine lv_istore (lv' := [(10, .int 0), (9, .int (nI n1)), (8, .int 1), (0, .ref (Z.A 0 0)), (1, .ref (la 0)), (2, .ref (la 1)), (3, .ref (la 2)), (4, .ref (la 3)), (5, .ref (la 4)), (6, .ref (la 5)), (7, .ref (la 6))]) hx hb dL_isSo_36 hl (by decide) rfl (fun ls hl => ?_)
      refine lv_iconst (v := 0) hx hb dL_isSo_38 (by decide) ?_
      refine lv_istore (lv' := [(11, .int 0), (10, .int 0), (9, .int (nI n1)), (8, .int 1), (0, .ref (Z.A 0 0)), (1, .ref (la 0)), (2, .ref (la 1)), (3, .ref (la 2)), (4, .ref (la 3)), (5, .ref (la 4)), (6, .ref (la 5)), (7, .ref (la 6))]) hx hb dL_isSo_39 hl (by decide) rfl (fun ls hl => ?_)
      have hL_m1 : ∀ (k m1 : Nat), m1 + k = Z.N 1 → ∀ (H : Heap) (locs : List Loc) (ls : Array Slot), fI G.2.2.1 A s.heap (jn (xW G.2.2.2 G.2.1 Z S0) (lW G.2.2.2 la L)) H locs → lv_has ls 14 [(11, .int (nI m1)), (10, .int (L_many_f L (nI n1) m1)), (9, .int (nI n1)), (8, .int 1), (0, .ref (Z.A 0 0)), (1, .ref (la 0)), (2, .ref (la 1)), (3, .ref (la 2)), (4, .ref (la 3)), (5, .ref (la 4)), (6, .ref (la 5)), (7, .ref (la 6))] → W p G.1 e ({ frames := 9, cells := 383, slots := 2298, locals := 152 }) s m args below meth c H locs (0 + 20 * n1) (0 + 120 * n1) Q (F0 m 41 ls []) := by
        intro k
        induction k with
        | zero =>
          intro m1 hkm1 H locs ls hI hl
          refine lv_iload hx hb dL_isSo_41 (lv_at hl 0 rfl) ?_
          refine lv_aload hx hb dL_isSo_43 (lv_at hl 11 rfl) ?_
          refine lv_iconst (v := 4) hx hb dL_isSo_45 (by decide) ?_
          refine gA (k := 6) (n := 5) (q := 4) hx hb hK hI (by decide) rfl (by unfold vp_in; decide) (by decide) dL_isSo_46 ?_
          refine lv_icmp_ge (tgt := 94) hx hb dL_isSo_47 (by decide) (fun _ => ?_) (fun h => absurd (by rw [h64]; exact nI_le (by omega) (by omega)) h)
          have enm1 : m1 = Z.N 1 := by omega
          rw [enm1] at hl
          have hl : lv_has ls 14 [(10, .int (L_many_f L (nI n1) (Z.N 1))), (9, .int (nI n1)), (8, .int 1), (0, .ref (Z.A 0 0)), (1, .ref (la 0)), (2, .ref (la 1)), (3, .ref (la 2)), (4, .ref (la 3)), (5, .ref (la 4)), (6, .ref (la 5)), (7, .ref (la 6))] := lv_sub hl [1, 2, 3, 4, 5, 6, 7, 8, 9, 10, 11] rfl
          refine lv_aload_n hx hb dL_isSo_94 rfl (lv_at hl 3 rfl) ?_
          refine lv_iload hx hb dL_isSo_95 (lv_at hl 1 rfl) ?_
          refine lv_iconst (v := 0) hx hb dL_isSo_97 (by decide) ?_
          refine jx_xcallV (rest := []) (as := [.int (nI n1), .int 0]) hx hb hml hts hown hK hE Dj_xl hI (cX_told G hst Z S0 (nI n1) 0 hR.1.1.1) kLX_62 ⟨(Nat.le_of_ble_eq_true rfl), (Nat.le_of_ble_eq_true rfl)⟩ (kk := 0) (ii := 0) (xW0 (by decide)) rfl rfl hl.1 (Nat.le_of_ble_eq_true rfl) dL_isSo_98 ⟨by show 0 + 20 * n1 + 2 ≤ 383; omega, by show 0 + 120 * n1 + 12 ≤ 2298; omega⟩ (fun E ce q9 w' H locs hp hI g1 g2 g3 => absurd ((vt0 hR ht5 hnn1).1.symm.trans hp.1) (by intro z; cases z)) (fun v w' H locs hp hI => ?_)
          obtain ⟨-, rfl, rfl⟩ := hp
          rw [(vt0 hR ht5 hnn1).2]
          refine lv_aload_n hx hb dL_isSo_101 rfl (lv_at hl 4 rfl) ?_
          refine lv_iload hx hb dL_isSo_102 (lv_at hl 1 rfl) ?_
          refine gA (k := 0) (n := 57) (q := n1) hx hb hK hI (by decide) rfl (vp_in_nI (Nat.lt_of_lt_of_le (show n1 < 8 by omega) (by decide)) (by decide)) (nI_clamp (Nat.lt_of_lt_of_le (show n1 < 8 by omega) (by decide))) dL_isSo_104 ?_
          have hm : (L 0 n1 : Int32) = L 0 n1 := rfl
          refine lv_icmp_ne (tgt := 231) hx hb dL_isSo_105 (by decide) (fun h9 => absurd hm h9) (fun _ => ?_)
          refine lv_aload_n hx hb dL_isSo_108 rfl (lv_at hl 3 rfl) ?_
          refine lv_iload hx hb dL_isSo_109 (lv_at hl 1 rfl) ?_
          refine lv_iconst (v := 1) hx hb dL_isSo_111 (by decide) ?_
          refine jx_xcallV (rest := []) (as := [.int (nI n1), .int 1]) hx hb hml hts hown hK hE Dj_xl hI (cX_told G hst Z S0 (nI n1) 1 hR.1.1.1) kLX_62 ⟨(Nat.le_of_ble_eq_true rfl), (Nat.le_of_ble_eq_true rfl)⟩ (kk := 0) (ii := 0) (xW0 (by decide)) rfl rfl hl.1 (Nat.le_of_ble_eq_true rfl) dL_isSo_112 ⟨by show 0 + 20 * n1 + 2 + 2 ≤ 383; omega, by show 0 + 120 * n1 + 12 + 12 ≤ 2298; omega⟩ (fun E ce q9 w' H locs hp hI g1 g2 g3 => absurd ((vt1 hR ht5 hnn1).1.symm.trans hp.1) (by intro z; cases z)) (fun v w' H locs hp hI => ?_)
          obtain ⟨-, rfl, rfl⟩ := hp
          rw [(vt1 hR ht5 hnn1).2]
          refine lv_aload_n hx hb dL_isSo_115 rfl (lv_at hl 4 rfl) ?_
          refine lv_bipush (v := 8) hx hb dL_isSo_116 (by decide) ?_
          refine lv_iload hx hb dL_isSo_118 (lv_at hl 1 rfl) ?_
          refine lv_iadd hx hb dL_isSo_120 ?_
          refine gA (k := 0) (n := 57) (q := 8 + n1) hx hb hK hI (by decide) rfl (vo_n 8 rfl (show n1 < 8 by omega) (by decide) (by decide)) (vo_nc 8 rfl (show n1 < 8 by omega) (by decide)) dL_isSo_121 ?_
          have hm : (L 0 (8 + n1) : Int32) = L 0 (8 + n1) := rfl
          refine lv_icmp_ne (tgt := 231) hx hb dL_isSo_122 (by decide) (fun h9 => absurd hm h9) (fun _ => ?_)
          refine lv_aload_n hx hb dL_isSo_125 rfl (lv_at hl 3 rfl) ?_
          refine lv_iload hx hb dL_isSo_126 (lv_at hl 1 rfl) ?_
          refine lv_iconst (v := 2) hx hb dL_isSo_128 (by decide) ?_
          refine jx_xcallV (rest := []) (as := [.int (nI n1), .int 2]) hx hb hml hts hown hK hE Dj_xl hI (cX_told G hst Z S0 (nI n1) 2 hR.1.1.1) kLX_62 ⟨(Nat.le_of_ble_eq_true rfl), (Nat.le_of_ble_eq_true rfl)⟩ (kk := 0) (ii := 0) (xW0 (by decide)) rfl rfl hl.1 (Nat.le_of_ble_eq_true rfl) dL_isSo_129 ⟨by show 0 + 20 * n1 + 2 + 2 + 2 ≤ 383; omega, by show 0 + 120 * n1 + 12 + 12 + 12 ≤ 2298; omega⟩ (fun E ce q9 w' H locs hp hI g1 g2 g3 => absurd ((vt2 hR ht5 hnn1).1.symm.trans hp.1) (by intro z; cases z)) (fun v w' H locs hp hI => ?_)
          obtain ⟨-, rfl, rfl⟩ := hp
          rw [(vt2 hR ht5 hnn1).2]
          refine lv_aload_n hx hb dL_isSo_132 rfl (lv_at hl 4 rfl) ?_
          refine lv_bipush (v := 16) hx hb dL_isSo_133 (by decide) ?_
          refine lv_iload hx hb dL_isSo_135 (lv_at hl 1 rfl) ?_
          refine lv_iadd hx hb dL_isSo_137 ?_
          refine gA (k := 0) (n := 57) (q := 16 + n1) hx hb hK hI (by decide) rfl (vo_n 16 rfl (show n1 < 8 by omega) (by decide) (by decide)) (vo_nc 16 rfl (show n1 < 8 by omega) (by decide)) dL_isSo_138 ?_
          have hm : (L 0 (16 + n1) : Int32) = L 0 (16 + n1) := rfl
          refine lv_icmp_ne (tgt := 231) hx hb dL_isSo_139 (by decide) (fun h9 => absurd hm h9) (fun _ => ?_)
          refine lv_aload_n hx hb dL_isSo_142 rfl (lv_at hl 3 rfl) ?_
          refine lv_iload hx hb dL_isSo_143 (lv_at hl 1 rfl) ?_
          refine lv_iconst (v := 3) hx hb dL_isSo_145 (by decide) ?_
          refine jx_xcallV (rest := []) (as := [.int (nI n1), .int 3]) hx hb hml hts hown hK hE Dj_xl hI (cX_told G hst Z S0 (nI n1) 3 hR.1.1.1) kLX_62 ⟨(Nat.le_of_ble_eq_true rfl), (Nat.le_of_ble_eq_true rfl)⟩ (kk := 0) (ii := 0) (xW0 (by decide)) rfl rfl hl.1 (Nat.le_of_ble_eq_true rfl) dL_isSo_146 ⟨by show 0 + 20 * n1 + 2 + 2 + 2 + 2 ≤ 383; omega, by show 0 + 120 * n1 + 12 + 12 + 12 + 12 ≤ 2298; omega⟩ (fun E ce q9 w' H locs hp hI g1 g2 g3 => absurd ((vt3 hR ht5 hnn1).1.symm.trans hp.1) (by intro z; cases z)) (fun v w' H locs hp hI => ?_)
          obtain ⟨-, rfl, rfl⟩ := hp
          rw [(vt3 hR ht5 hnn1).2]
          refine lv_aload_n hx hb dL_isSo_149 rfl (lv_at hl 4 rfl) ?_
          refine lv_bipush (v := 24) hx hb dL_isSo_150 (by decide) ?_
          refine lv_iload hx hb dL_isSo_152 (lv_at hl 1 rfl) ?_
          refine lv_iadd hx hb dL_isSo_154 ?_
          refine gA (k := 0) (n := 57) (q := 24 + n1) hx hb hK hI (by decide) rfl (vo_n 24 rfl (show n1 < 8 by omega) (by decide) (by decide)) (vo_nc 24 rfl (show n1 < 8 by omega) (by decide)) dL_isSo_155 ?_
          have hm : (L 0 (24 + n1) : Int32) = L 0 (24 + n1) := rfl
          refine lv_icmp_ne (tgt := 231) hx hb dL_isSo_156 (by decide) (fun h9 => absurd hm h9) (fun _ => ?_)
          refine lv_aload_n hx hb dL_isSo_159 rfl (lv_at hl 3 rfl) ?_
          refine lv_iload hx hb dL_isSo_160 (lv_at hl 1 rfl) ?_
          refine lv_iconst (v := 4) hx hb dL_isSo_162 (by decide) ?_
          refine jx_xcallV (rest := []) (as := [.int (nI n1), .int 4]) hx hb hml hts hown hK hE Dj_xl hI (cX_told G hst Z S0 (nI n1) 4 hR.1.1.1) kLX_62 ⟨(Nat.le_of_ble_eq_true rfl), (Nat.le_of_ble_eq_true rfl)⟩ (kk := 0) (ii := 0) (xW0 (by decide)) rfl rfl hl.1 (Nat.le_of_ble_eq_true rfl) dL_isSo_163 ⟨by show 0 + 20 * n1 + 2 + 2 + 2 + 2 + 2 ≤ 383; omega, by show 0 + 120 * n1 + 12 + 12 + 12 + 12 + 12 ≤ 2298; omega⟩ (fun E ce q9 w' H locs hp hI g1 g2 g3 => absurd ((vt4 hR ht5 hnn1).1.symm.trans hp.1) (by intro z; cases z)) (fun v w' H locs hp hI => ?_)
          obtain ⟨-, rfl, rfl⟩ := hp
          rw [(vt4 hR ht5 hnn1).2]
          refine lv_aload_n hx hb dL_isSo_166 rfl (lv_at hl 5 rfl) ?_
          refine lv_iload hx hb dL_isSo_167 (lv_at hl 1 rfl) ?_
          refine gA (k := 1) (n := 9) (q := n1) hx hb hK hI (by decide) rfl (vp_in_nI (Nat.lt_of_lt_of_le (show n1 < 8 by omega) (by decide)) (by decide)) (nI_clamp (Nat.lt_of_lt_of_le (show n1 < 8 by omega) (by decide))) dL_isSo_169 ?_
          refine lv_iconst (v := 4) hx hb dL_isSo_170 (by decide) ?_
          refine lv_idiv hx hb dL_isSo_171 (by decide) ?_
          refine lv_iconst (v := 4) hx hb dL_isSo_172 (by decide) ?_
          refine lv_irem hx hb dL_isSo_173 (by decide) ?_
          have hm : (((L 1 n1) / 4) - ((L 1 n1) / 4) / 4 * 4 : Int32) = ((L 1 n1) / 4) - ((L 1 n1) / 4) / 4 * 4 := rfl
          refine lv_icmp_ne (tgt := 231) hx hb dL_isSo_174 (by decide) (fun h9 => absurd hm h9) (fun _ => ?_)
          refine lv_aload_n hx hb dL_isSo_177 rfl (lv_at hl 3 rfl) ?_
          refine lv_iload hx hb dL_isSo_178 (lv_at hl 1 rfl) ?_
          refine lv_iconst (v := 5) hx hb dL_isSo_180 (by decide) ?_
          refine jx_xcallV (rest := []) (as := [.int (nI n1), .int 5]) hx hb hml hts hown hK hE Dj_xl hI (cX_told G hst Z S0 (nI n1) 5 hR.1.1.1) kLX_62 ⟨(Nat.le_of_ble_eq_true rfl), (Nat.le_of_ble_eq_true rfl)⟩ (kk := 0) (ii := 0) (xW0 (by decide)) rfl rfl hl.1 (Nat.le_of_ble_eq_true rfl) dL_isSo_181 ⟨by show 0 + 20 * n1 + 2 + 2 + 2 + 2 + 2 + 2 ≤ 383; omega, by show 0 + 120 * n1 + 12 + 12 + 12 + 12 + 12 + 12 ≤ 2298; omega⟩ (fun E ce q9 w' H locs hp hI g1 g2 g3 => absurd ((vt5 hR ht5 hnn1).1.symm.trans hp.1) (by intro z; cases z)) (fun v w' H locs hp hI => ?_)
          obtain ⟨-, rfl, rfl⟩ := hp
          rw [(vt5 hR ht5 hnn1).2]
          refine lv_aload_n hx hb dL_isSo_184 rfl (lv_at hl 5 rfl) ?_
          refine lv_iload hx hb dL_isSo_185 (lv_at hl 1 rfl) ?_
          refine gA (k := 1) (n := 9) (q := n1) hx hb hK hI (by decide) rfl (vp_in_nI (Nat.lt_of_lt_of_le (show n1 < 8 by omega) (by decide)) (by decide)) (nI_clamp (Nat.lt_of_lt_of_le (show n1 < 8 by omega) (by decide))) dL_isSo_187 ?_
          refine lv_bipush (v := 16) hx hb dL_isSo_188 (by decide) ?_
          refine lv_idiv hx hb dL_isSo_190 (by decide) ?_
          refine lv_iconst (v := 4) hx hb dL_isSo_191 (by decide) ?_
          refine lv_irem hx hb dL_isSo_192 (by decide) ?_
          have hm : (((L 1 n1) / 16) - ((L 1 n1) / 16) / 4 * 4 : Int32) = ((L 1 n1) / 16) - ((L 1 n1) / 16) / 4 * 4 := rfl
          refine lv_icmp_ne (tgt := 231) hx hb dL_isSo_193 (by decide) (fun h9 => absurd hm h9) (fun _ => ?_)
          refine lv_aload_n hx hb dL_isSo_196 rfl (lv_at hl 3 rfl) ?_
          refine lv_iload hx hb dL_isSo_197 (lv_at hl 1 rfl) ?_
          refine lv_bipush (v := 6) hx hb dL_isSo_199 (by decide) ?_
          refine jx_xcallV (rest := []) (as := [.int (nI n1), .int 6]) hx hb hml hts hown hK hE Dj_xl hI (cX_told G hst Z S0 (nI n1) 6 hR.1.1.1) kLX_62 ⟨(Nat.le_of_ble_eq_true rfl), (Nat.le_of_ble_eq_true rfl)⟩ (kk := 0) (ii := 0) (xW0 (by decide)) rfl rfl hl.1 (Nat.le_of_ble_eq_true rfl) dL_isSo_201 ⟨by show 0 + 20 * n1 + 2 + 2 + 2 + 2 + 2 + 2 + 2 ≤ 383; omega, by show 0 + 120 * n1 + 12 + 12 + 12 + 12 + 12 + 12 + 12 ≤ 2298; omega⟩ (fun E ce q9 w' H locs hp hI g1 g2 g3 => absurd ((vt6 hR ht5 hnn1).1.symm.trans hp.1) (by intro z; cases z)) (fun v w' H locs hp hI => ?_)
          obtain ⟨-, rfl, rfl⟩ := hp
          rw [(vt6 hR ht5 hnn1).2]
          refine lv_aload_n hx hb dL_isSo_204 rfl (lv_at hl 5 rfl) ?_
          refine lv_iload hx hb dL_isSo_205 (lv_at hl 1 rfl) ?_
          refine gA (k := 1) (n := 9) (q := n1) hx hb hK hI (by decide) rfl (vp_in_nI (Nat.lt_of_lt_of_le (show n1 < 8 by omega) (by decide)) (by decide)) (nI_clamp (Nat.lt_of_lt_of_le (show n1 < 8 by omega) (by decide))) dL_isSo_207 ?_
          refine lv_bipush (v := 64) hx hb dL_isSo_208 (by decide) ?_
          refine lv_idiv hx hb dL_isSo_210 (by decide) ?_
          have hm : ((L 1 n1) / 64 : Int32) = (L 1 n1) / 64 := rfl
          refine lv_icmp_ne (tgt := 231) hx hb dL_isSo_211 (by decide) (fun h9 => absurd hm h9) (fun _ => ?_)
          refine lv_aload_n hx hb dL_isSo_214 rfl (lv_at hl 3 rfl) ?_
          refine lv_iload hx hb dL_isSo_215 (lv_at hl 1 rfl) ?_
          refine lv_bipush (v := 7) hx hb dL_isSo_217 (by decide) ?_
          refine jx_xcallV (rest := []) (as := [.int (nI n1), .int 7]) hx hb hml hts hown hK hE Dj_xl hI (cX_told G hst Z S0 (nI n1) 7 hR.1.1.1) kLX_62 ⟨(Nat.le_of_ble_eq_true rfl), (Nat.le_of_ble_eq_true rfl)⟩ (kk := 0) (ii := 0) (xW0 (by decide)) rfl rfl hl.1 (Nat.le_of_ble_eq_true rfl) dL_isSo_219 ⟨by show 0 + 20 * n1 + 2 + 2 + 2 + 2 + 2 + 2 + 2 + 2 ≤ 383; omega, by show 0 + 120 * n1 + 12 + 12 + 12 + 12 + 12 + 12 + 12 + 12 ≤ 2298; omega⟩ (fun E ce q9 w' H locs hp hI g1 g2 g3 => absurd ((vt7 hR ht5 hnn1).1.symm.trans hp.1) (by intro z; cases z)) (fun v w' H locs hp hI => ?_)
          obtain ⟨-, rfl, rfl⟩ := hp
          rw [(vt7 hR ht5 hnn1).2]
          refine lv_iload hx hb dL_isSo_222 (lv_at hl 0 rfl) ?_
          have hm : (L_many_f L (nI n1) (Z.N 1) : Int32) = L_many_f L (nI n1) (Z.N 1) := rfl
          refine lv_icmp_ne (tgt := 231) hx hb dL_isSo_224 (by decide) (fun h9 => absurd hm h9) (fun _ => ?_)
          refine lv_iconst (v := 1) hx hb dL_isSo_227 (by decide) ?_
          refine lv_goto (tgt := 232) hx hb dL_isSo_228 (by decide) ?_
          refine lv_istore (lv' := [(8, .int 1), (10, .int (L_many_f L (nI n1) (Z.N 1))), (9, .int (nI n1)), (0, .ref (Z.A 0 0)), (1, .ref (la 0)), (2, .ref (la 1)), (3, .ref (la 2)), (4, .ref (la 3)), (5, .ref (la 4)), (6, .ref (la 5)), (7, .ref (la 6))]) hx hb dL_isSo_232 hl (by decide) rfl (fun ls hl => ?_)
          refine lv_iload hx hb dL_isSo_234 (lv_at hl 0 rfl) ?_
          refine lv_if_eq (tgt := 335) hx hb dL_isSo_236 (by decide) (fun h => absurd h (by decide)) (fun _ => ?_)
          refine lv_aload_n hx hb dL_isSo_239 rfl (lv_at hl 3 rfl) ?_
          refine lv_iload hx hb dL_isSo_240 (lv_at hl 2 rfl) ?_
          refine lv_iconst (v := 1) hx hb dL_isSo_242 (by decide) ?_
          refine jx_xcallV (rest := []) (as := [.int (nI n1), .int 1]) hx hb hml hts hown hK hE Dj_xl hI (cX_thickness G hst Z S0 (nI n1) 1 hR.1.1.1) kLX_130 ⟨(Nat.le_of_ble_eq_true rfl), (Nat.le_of_ble_eq_true rfl)⟩ (kk := 0) (ii := 0) (xW0 (by decide)) rfl rfl hl.1 (Nat.le_of_ble_eq_true rfl) dL_isSo_243 ⟨by show 0 + 20 * n1 + 2 + 2 + 2 + 2 + 2 + 2 + 2 + 2 + 1 ≤ 383; omega, by show 0 + 120 * n1 + 12 + 12 + 12 + 12 + 12 + 12 + 12 + 12 + 6 ≤ 2298; omega⟩ (fun E ce q9 w' H locs hp hI g1 g2 g3 => absurd ((vk1 hR ht5 hnn1).1.symm.trans hp.1) (by intro z; cases z)) (fun v w' H locs hp hI => ?_)
          obtain ⟨-, rfl, rfl⟩ := hp
          rw [(vk1 hR ht5 hnn1).2]
          refine lv_aload_n hx hb dL_isSo_246 rfl (lv_at hl 4 rfl) ?_
          refine lv_bipush (v := 32) hx hb dL_isSo_247 (by decide) ?_
          refine lv_iload hx hb dL_isSo_249 (lv_at hl 2 rfl) ?_
          refine lv_iadd hx hb dL_isSo_251 ?_
          refine gA (k := 0) (n := 57) (q := 32 + n1) hx hb hK hI (by decide) rfl (vo_n 32 rfl (show n1 < 8 by omega) (by decide) (by decide)) (vo_nc 32 rfl (show n1 < 8 by omega) (by decide)) dL_isSo_252 ?_
          refine lv_i2d hx hb dL_isSo_253 ?_
          refine lv_ldc2d (v := 4611686018427387904) hx hb hown (hts _ q405) dL_isSo_254 ?_
          refine lv_ddiv hx hb dL_isSo_257 (hD_nn _) ?_
          refine lv_dcmp hx hb dL_isSo_258 ?_
          refine lv_if_ne (tgt := 335) hx hb dL_isSo_259 (by decide) (fun h9 => absurd (hD_cmp (L 0 (32 + n1)) CmpOp.l) h9) (fun _ => ?_)
          refine lv_aload_n hx hb dL_isSo_262 rfl (lv_at hl 3 rfl) ?_
          refine lv_iload hx hb dL_isSo_263 (lv_at hl 2 rfl) ?_
          refine lv_iconst (v := 0) hx hb dL_isSo_265 (by decide) ?_
          refine jx_xcallV (rest := []) (as := [.int (nI n1), .int 0]) hx hb hml hts hown hK hE Dj_xl hI (cX_thickness G hst Z S0 (nI n1) 0 hR.1.1.1) kLX_130 ⟨(Nat.le_of_ble_eq_true rfl), (Nat.le_of_ble_eq_true rfl)⟩ (kk := 0) (ii := 0) (xW0 (by decide)) rfl rfl hl.1 (Nat.le_of_ble_eq_true rfl) dL_isSo_266 ⟨by show 0 + 20 * n1 + 2 + 2 + 2 + 2 + 2 + 2 + 2 + 2 + 1 + 1 ≤ 383; omega, by show 0 + 120 * n1 + 12 + 12 + 12 + 12 + 12 + 12 + 12 + 12 + 6 + 6 ≤ 2298; omega⟩ (fun E ce q9 w' H locs hp hI g1 g2 g3 => absurd ((vk0 hR ht5 hnn1).1.symm.trans hp.1) (by intro z; cases z)) (fun v w' H locs hp hI => ?_)
          obtain ⟨-, rfl, rfl⟩ := hp
          rw [(vk0 hR ht5 hnn1).2]
          refine lv_aload_n hx hb dL_isSo_269 rfl (lv_at hl 4 rfl) ?_
          refine lv_iload hx hb dL_isSo_270 (lv_at hl 2 rfl) ?_
          refine cSv (rest := [.double (FP.ddiv (FP.i2d (L_twice L (nI n1))) (4611686018427387904 : UInt64))]) hx hb hml hts hown hK hE hI (qL_twice G _ la L (nI n1) (vp_in_nI (show n1 < 8 by omega) (by decide))) kw_119 ⟨(Nat.le_of_ble_eq_true rfl), (Nat.le_of_ble_eq_true rfl)⟩ rfl rfl hl.1 rfl (Nat.le_of_ble_eq_true rfl) dL_isSo_272 ⟨by show 0 + 20 * n1 + 2 + 2 + 2 + 2 + 2 + 2 + 2 + 2 + 1 + 1 ≤ 383; omega, by show 0 + 120 * n1 + 12 + 12 + 12 + 12 + 12 + 12 + 12 + 12 + 6 + 6 ≤ 2298; omega⟩ (fun H locs hI => ?_)
          refine lv_i2d hx hb dL_isSo_275 ?_
          refine lv_ldc2d (v := 4611686018427387904) hx hb hown (hts _ q405) dL_isSo_276 ?_
          refine lv_ddiv hx hb dL_isSo_279 (hD_nn _) ?_
          refine lv_dcmp hx hb dL_isSo_280 ?_
          refine lv_if_ne (tgt := 335) hx hb dL_isSo_281 (by decide) (fun h9 => absurd (hD_cmp (L_twice L (nI n1)) CmpOp.l) h9) (fun _ => ?_)
          refine lv_aload_n hx hb dL_isSo_284 rfl (lv_at hl 3 rfl) ?_
          refine lv_iload hx hb dL_isSo_285 (lv_at hl 2 rfl) ?_
          refine lv_iconst (v := 1) hx hb dL_isSo_287 (by decide) ?_
          refine jx_xcallV (rest := []) (as := [.int (nI n1), .int 1]) hx hb hml hts hown hK hE Dj_xl hI (cX_bears G hst Z S0 (nI n1) 1 hR.1.1.1) kLX_134 ⟨(Nat.le_of_ble_eq_true rfl), (Nat.le_of_ble_eq_true rfl)⟩ (kk := 0) (ii := 0) (xW0 (by decide)) rfl rfl hl.1 (Nat.le_of_ble_eq_true rfl) dL_isSo_288 ⟨by show 0 + 20 * n1 + 2 + 2 + 2 + 2 + 2 + 2 + 2 + 2 + 1 + 1 + 1 ≤ 383; omega, by show 0 + 120 * n1 + 12 + 12 + 12 + 12 + 12 + 12 + 12 + 12 + 6 + 6 + 6 ≤ 2298; omega⟩ (fun E ce q9 w' H locs hp hI g1 g2 g3 => absurd ((vb1 hR ht5 hnn1).1.symm.trans hp.1) (by intro z; cases z)) (fun v w' H locs hp hI => ?_)
          obtain ⟨-, rfl, rfl⟩ := hp
          rw [(vb1 hR ht5 hnn1).2]
          refine lv_aload_n hx hb dL_isSo_291 rfl (lv_at hl 4 rfl) ?_
          refine lv_aload_n hx hb dL_isSo_292 rfl (lv_at hl 5 rfl) ?_
          refine lv_iload hx hb dL_isSo_293 (lv_at hl 2 rfl) ?_
          refine lv_aload_n hx hb dL_isSo_295 rfl (lv_at hl 4 rfl) ?_
          refine lv_bipush (v := 32) hx hb dL_isSo_296 (by decide) ?_
          refine lv_iload hx hb dL_isSo_298 (lv_at hl 2 rfl) ?_
          refine lv_iadd hx hb dL_isSo_300 ?_
          refine gA (k := 0) (n := 57) (q := 32 + n1) hx hb hK hI (by decide) rfl (vo_n 32 rfl (show n1 < 8 by omega) (by decide) (by decide)) (vo_nc 32 rfl (show n1 < 8 by omega) (by decide)) dL_isSo_301 ?_
          refine cSv (rest := [.int (L_bears L (nI n1) (L 0 (32 + n1)))]) hx hb hml hts hown hK hE hI (qL_bears G _ la L (nI n1) (L 0 (32 + n1)) (vp_in_nI (show n1 < 8 by omega) (by decide))) kw_104 ⟨(Nat.le_of_ble_eq_true rfl), (Nat.le_of_ble_eq_true rfl)⟩ rfl rfl hl.1 rfl (Nat.le_of_ble_eq_true rfl) dL_isSo_302 ⟨by show 0 + 20 * n1 + 2 + 2 + 2 + 2 + 2 + 2 + 2 + 2 + 1 + 1 + 1 ≤ 383; omega, by show 0 + 120 * n1 + 12 + 12 + 12 + 12 + 12 + 12 + 12 + 12 + 6 + 6 + 6 ≤ 2298; omega⟩ (fun H locs hI => ?_)
          have hm : (L_bears L (nI n1) (L 0 (32 + n1)) : Int32) = L_bears L (nI n1) (L 0 (32 + n1)) := rfl
          refine lv_icmp_ne (tgt := 335) hx hb dL_isSo_305 (by decide) (fun h9 => absurd hm h9) (fun _ => ?_)
          refine lv_aload_n hx hb dL_isSo_308 rfl (lv_at hl 3 rfl) ?_
          refine lv_iload hx hb dL_isSo_309 (lv_at hl 2 rfl) ?_
          refine lv_iconst (v := 0) hx hb dL_isSo_311 (by decide) ?_
          refine jx_xcallV (rest := []) (as := [.int (nI n1), .int 0]) hx hb hml hts hown hK hE Dj_xl hI (cX_bears G hst Z S0 (nI n1) 0 hR.1.1.1) kLX_134 ⟨(Nat.le_of_ble_eq_true rfl), (Nat.le_of_ble_eq_true rfl)⟩ (kk := 0) (ii := 0) (xW0 (by decide)) rfl rfl hl.1 (Nat.le_of_ble_eq_true rfl) dL_isSo_312 ⟨by show 0 + 20 * n1 + 2 + 2 + 2 + 2 + 2 + 2 + 2 + 2 + 1 + 1 + 1 + 1 ≤ 383; omega, by show 0 + 120 * n1 + 12 + 12 + 12 + 12 + 12 + 12 + 12 + 12 + 6 + 6 + 6 + 6 ≤ 2298; omega⟩ (fun E ce q9 w' H locs hp hI g1 g2 g3 => absurd ((vb0 hR ht5 hnn1).1.symm.trans hp.1) (by intro z; cases z)) (fun v w' H locs hp hI => ?_)
          obtain ⟨-, rfl, rfl⟩ := hp
          rw [(vb0 hR ht5 hnn1).2]
          refine lv_aload_n hx hb dL_isSo_315 rfl (lv_at hl 4 rfl) ?_
          refine lv_aload_n hx hb dL_isSo_316 rfl (lv_at hl 5 rfl) ?_
          refine lv_iload hx hb dL_isSo_317 (lv_at hl 2 rfl) ?_
          refine lv_aload_n hx hb dL_isSo_319 rfl (lv_at hl 4 rfl) ?_
          refine lv_iload hx hb dL_isSo_320 (lv_at hl 2 rfl) ?_
          refine cSv (rest := [.int (nI n1), .ref (la 1), .ref (la 0), .int (L_bears L (nI n1) (L_twice L (nI n1)))]) hx hb hml hts hown hK hE hI (qL_twice G _ la L (nI n1) (vp_in_nI (show n1 < 8 by omega) (by decide))) kw_119 ⟨(Nat.le_of_ble_eq_true rfl), (Nat.le_of_ble_eq_true rfl)⟩ rfl rfl hl.1 rfl (Nat.le_of_ble_eq_true rfl) dL_isSo_322 ⟨by show 0 + 20 * n1 + 2 + 2 + 2 + 2 + 2 + 2 + 2 + 2 + 1 + 1 + 1 + 1 ≤ 383; omega, by show 0 + 120 * n1 + 12 + 12 + 12 + 12 + 12 + 12 + 12 + 12 + 6 + 6 + 6 + 6 ≤ 2298; omega⟩ (fun H locs hI => ?_)
          refine cSv (rest := [.int (L_bears L (nI n1) (L_twice L (nI n1)))]) hx hb hml hts hown hK hE hI (qL_bears G _ la L (nI n1) (L_twice L (nI n1)) (vp_in_nI (show n1 < 8 by omega) (by decide))) kw_104 ⟨(Nat.le_of_ble_eq_true rfl), (Nat.le_of_ble_eq_true rfl)⟩ rfl rfl hl.1 rfl (Nat.le_of_ble_eq_true rfl) dL_isSo_325 ⟨by show 0 + 20 * n1 + 2 + 2 + 2 + 2 + 2 + 2 + 2 + 2 + 1 + 1 + 1 + 1 ≤ 383; omega, by show 0 + 120 * n1 + 12 + 12 + 12 + 12 + 12 + 12 + 12 + 12 + 6 + 6 + 6 + 6 ≤ 2298; omega⟩ (fun H locs hI => ?_)
          have hm : (L_bears L (nI n1) (L_twice L (nI n1)) : Int32) = L_bears L (nI n1) (L_twice L (nI n1)) := rfl
          refine lv_icmp_ne (tgt := 335) hx hb dL_isSo_328 (by decide) (fun h9 => absurd hm h9) (fun _ => ?_)
          refine lv_iconst (v := 1) hx hb dL_isSo_331 (by decide) ?_
          refine lv_goto (tgt := 336) hx hb dL_isSo_332 (by decide) ?_
          refine lv_istore (lv' := [(8, .int 1), (10, .int (L_many_f L (nI n1) (Z.N 1))), (9, .int (nI n1)), (0, .ref (Z.A 0 0)), (1, .ref (la 0)), (2, .ref (la 1)), (3, .ref (la 2)), (4, .ref (la 3)), (5, .ref (la 4)), (6, .ref (la 5)), (7, .ref (la 6))]) hx hb dL_isSo_336 hl (by decide) rfl (fun ls hl => ?_)
          obtain ⟨x18, ex18⟩ : ∃ z : Int32, z = (nI n1) + 1 := ⟨_, rfl⟩
          refine lv_iinc (v := x18) (lv' := [(9, .int x18), (8, .int 1), (10, .int (L_many_f L (nI n1) (Z.N 1))), (0, .ref (Z.A 0 0)), (1, .ref (la 0)), (2, .ref (la 1)), (3, .ref (la 2)), (4, .ref (la 3)), (5, .ref (la 4)), (6, .ref (la 5)), (7, .ref (la 6))]) hx hb dL_isSo_338 hl (k := 2) rfl (by rw [ex18]; rfl) (by decide) rfl (fun ls hl => ?_)
          refine lv_goto (tgt := 21) hx hb dL_isSo_341 (by decide) ?_
          rw [ex18, nI_1] at hl
          refine W_cs (c1 := 0 + 20 * (n1 + 1)) (s1 := 0 + 120 * (n1 + 1)) (by show 0 + 20 * (n1 + 1) = 0 + 20 * n1 + 2 + 2 + 2 + 2 + 2 + 2 + 2 + 2 + 1 + 1 + 1 + 1; omega) (by show 0 + 120 * (n1 + 1) = 0 + 120 * n1 + 12 + 12 + 12 + 12 + 12 + 12 + 12 + 12 + 6 + 6 + 6 + 6; omega) ?_
          exact ih (n1 + 1) (by omega) H locs ls hI (lv_sub hl [0, 1, 3, 4, 5, 6, 7, 8, 9, 10] rfl)
        | succ k ih =>
          intro m1 hkm1 H locs ls hI hl
          have hnm1 : m1 < Z.N 1 := by omega
          refine lv_iload hx hb dL_isSo_41 (lv_at hl 0 rfl) ?_
          refine lv_aload hx hb dL_isSo_43 (lv_at hl 11 rfl) ?_
          refine lv_iconst (v := 4) hx hb dL_isSo_45 (by decide) ?_
          refine gA (k := 6) (n := 5) (q := 4) hx hb hK hI (by decide) rfl (by unfold vp_in; decide) (by decide) dL_isSo_46 ?_
          refine lv_icmp_ge (tgt := 94) hx hb dL_isSo_47 (by decide) (fun h => absurd h (by rw [h64]; exact nI_ge (by omega) (by omega))) (fun _ => ?_)
          refine lv_iload hx hb dL_isSo_50 (lv_at hl 1 rfl) ?_
          refine lv_aload hx hb dL_isSo_52 (lv_at hl 8 rfl) ?_
          refine lv_iload hx hb dL_isSo_54 (lv_at hl 0 rfl) ?_
          refine gA (k := 3) (n := 8) (q := m1) hx hb hK hI (by decide) rfl (vp_in_nI (Nat.lt_of_lt_of_le (show m1 < 8 by omega) (by decide)) (by decide)) (nI_clamp (Nat.lt_of_lt_of_le (show m1 < 8 by omega) (by decide))) dL_isSo_56 ?_
          refine lv_bipush (v := 8) hx hb dL_isSo_57 (by decide) ?_
          refine lv_irem hx hb dL_isSo_59 (by decide) ?_
          refine lv_iconst (v := 1) hx hb dL_isSo_60 (by decide) ?_
          have hJ19 : W p G.1 e ({ frames := 9, cells := 383, slots := 2298, locals := 152 }) s m args below meth c H locs (0 + 20 * n1) (0 + 120 * n1) Q (F0 m 85 ls [.int (bI ((((L 3 m1) - (L 3 m1) / 8 * 8) = 1) ∧ ((((L 3 m1) / 8) - ((L 3 m1) / 8) / 16 * 16) = (nI n1)))), .int (L_many_f L (nI n1) m1)]) := by
            refine lv_iadd hx hb dL_isSo_85 ?_
            refine lv_istore (lv' := [(10, .int ((L_many_f L (nI n1) m1) + (bI ((((L 3 m1) - (L 3 m1) / 8 * 8) = 1) ∧ ((((L 3 m1) / 8) - ((L 3 m1) / 8) / 16 * 16) = (nI n1)))))), (11, .int (nI m1)), (9, .int (nI n1)), (8, .int 1), (0, .ref (Z.A 0 0)), (1, .ref (la 0)), (2, .ref (la 1)), (3, .ref (la 2)), (4, .ref (la 3)), (5, .ref (la 4)), (6, .ref (la 5)), (7, .ref (la 6))]) hx hb dL_isSo_86 hl (by decide) rfl (fun ls hl => ?_)
            obtain ⟨x20, ex20⟩ : ∃ z : Int32, z = (nI m1) + 1 := ⟨_, rfl⟩
            refine lv_iinc (v := x20) (lv' := [(11, .int x20), (10, .int ((L_many_f L (nI n1) m1) + (bI ((((L 3 m1) - (L 3 m1) / 8 * 8) = 1) ∧ ((((L 3 m1) / 8) - ((L 3 m1) / 8) / 16 * 16) = (nI n1)))))), (9, .int (nI n1)), (8, .int 1), (0, .ref (Z.A 0 0)), (1, .ref (la 0)), (2, .ref (la 1)), (3, .ref (la 2)), (4, .ref (la 3)), (5, .ref (la 4)), (6, .ref (la 5)), (7, .ref (la 6))]) hx hb dL_isSo_88 hl (k := 1) rfl (by rw [ex20]; rfl) (by decide) rfl (fun ls hl => ?_)
            refine lv_goto (tgt := 41) hx hb dL_isSo_91 (by decide) ?_
            rw [ex20, nI_1] at hl
            have hc10 : ((L_many_f L (nI n1) m1) + (bI ((((L 3 m1) - (L 3 m1) / 8 * 8) = 1) ∧ ((((L 3 m1) / 8) - ((L 3 m1) / 8) / 16 * 16) = (nI n1)))) : Int32) = L_many_f L (nI n1) (m1 + 1) := by rfl
            rw [hc10] at hl
            exact ih (m1 + 1) (by omega) H locs ls hI (lv_sub hl [0, 1, 2, 3, 4, 5, 6, 7, 8, 9, 10, 11] rfl)
          refine lv_icmp_ne (tgt := 84) hx hb dL_isSo_61 (by decide) (fun c21 => ?_) (fun c21 => ?_)
          · refine lv_iconst (v := 0) hx hb dL_isSo_84 (by decide) ?_
            have eb22 : (0 : Int32) = bI ((((L 3 m1) - (L 3 m1) / 8 * 8) = 1) ∧ ((((L 3 m1) / 8) - ((L 3 m1) / 8) / 16 * 16) = (nI n1))) := (bI_f (fun k => c21 k.1)).symm
            rw [eb22]
            exact hJ19
          · refine lv_aload hx hb dL_isSo_64 (lv_at hl 8 rfl) ?_
            refine lv_iload hx hb dL_isSo_66 (lv_at hl 0 rfl) ?_
            refine gA (k := 3) (n := 8) (q := m1) hx hb hK hI (by decide) rfl (vp_in_nI (Nat.lt_of_lt_of_le (show m1 < 8 by omega) (by decide)) (by decide)) (nI_clamp (Nat.lt_of_lt_of_le (show m1 < 8 by omega) (by decide))) dL_isSo_68 ?_
            refine lv_bipush (v := 8) hx hb dL_isSo_69 (by decide) ?_
            refine lv_idiv hx hb dL_isSo_71 (by decide) ?_
            refine lv_bipush (v := 16) hx hb dL_isSo_72 (by decide) ?_
            refine lv_irem hx hb dL_isSo_74 (by decide) ?_
            refine lv_iload hx hb dL_isSo_75 (lv_at hl 2 rfl) ?_
            refine lv_icmp_ne (tgt := 84) hx hb dL_isSo_77 (by decide) (fun c23 => ?_) (fun c23 => ?_)
            · refine lv_iconst (v := 0) hx hb dL_isSo_84 (by decide) ?_
              have eb24 : (0 : Int32) = bI ((((L 3 m1) - (L 3 m1) / 8 * 8) = 1) ∧ ((((L 3 m1) / 8) - ((L 3 m1) / 8) / 16 * 16) = (nI n1))) := (bI_f (fun k => c23 k.2)).symm
              rw [eb24]
              exact hJ19
            · refine lv_iconst (v := 1) hx hb dL_isSo_80 (by decide) ?_
              refine lv_goto (tgt := 85) hx hb dL_isSo_81 (by decide) ?_
              have eb25 : (1 : Int32) = bI ((((L 3 m1) - (L 3 m1) / 8 * 8) = 1) ∧ ((((L 3 m1) / 8) - ((L 3 m1) / 8) / 16 * 16) = (nI n1))) := (bI_t ⟨c21, c23⟩).symm
              rw [eb25]
              exact hJ19
      exact hL_m1 (Z.N 1) 0 (by omega) H locs ls hI (lv_sub hl [0, 1, 2, 3, 4, 5, 6, 7, 8, 9, 10, 11] rfl)
  refine W_cs (c1 := 0 + 20 * 0) (s1 := 0 + 120 * 0) (by show 0 + 20 * 0 = 0; omega) (by show 0 + 120 * 0 = 0; omega) ?_
  exact hL_n1 (Z.N 0) 0 (by omega) H locs ls hI (lv_sub hl [0, 1, 2, 3, 4, 5, 6, 7, 8, 9] rfl)
