/-! ===== the list: size, isEmpty, get ===== -/
theorem kX3_9 : CkI RX3 9 yJx4a65c_init_da8c8 cJx4a65c_init_da8c8 1 0 := ⟨q32, q30, q31, q4, rfl, by decide +kernel⟩
theorem kL_1 : CkI RJx4a65c 1 yJxc12de_init_da8c8 cJxc12de_init_da8c8 1 0 := ⟨q35, q33, q34, q3, rfl, by decide +kernel⟩
theorem kAL_1 : CkI RJxc12de 1 yJxa1e45_init_da8c8 cJxa1e45_init_da8c8 1 0 := ⟨q38, q36, q37, q2, rfl, by decide +kernel⟩
theorem kL_131 : CkV RJx4a65c 131 yJx4a65c_add_72be8 cJx4a65c_add_72be8 4 none 3 := ⟨q295, q292, q294, qp2, q4, by decide +kernel⟩
theorem kL_129 : CkV RJx4a65c 129 yJx4a65c_grow_d5877 cJx4a65c_grow_d5877 1 (some (.array (.object "java/lang/Object"))) 0 := ⟨q299, q296, q298, qp3, q4, by decide +kernel⟩
theorem kL_69 : CkV RJx4a65c 69 yJx4a65c_grow_92f84 cJx4a65c_grow_92f84 4 (some (.array (.object "java/lang/Object"))) 1 := ⟨q303, q300, q302, qp4, q4, by decide +kernel⟩
theorem kL_73 : CkS RJx4a65c 73 yJ8_newLength_cabcc cJ8_newLength_cabcc 4 (some .int) 3 := ⟨q306, q304, q305, q11, by decide +kernel⟩
theorem kU_201 : CkS RJ8 201 yJ8_hugeLength_7cf53 cJ8_hugeLength_7cf53 3 (some .int) 2 := ⟨q311, q309, q310, q11, by decide +kernel⟩
theorem kL_66 : CkS RJx4a65c 66 yJ7_copyOf_1904c cJ7_copyOf_1904c 2 (some (.array (.object "java/lang/Object"))) 2 := ⟨q314, q312, q313, q13, by decide +kernel⟩
theorem kA_300 : CkS RJ7 300 yJ7_copyOf_6403c cJ7_copyOf_6403c 4 (some (.array (.object "java/lang/Object"))) 3 := ⟨q329, q327, q328, q13, by decide +kernel⟩
theorem kL_118 : CkS RJx4a65c 118 yJ15_checkIndex_7cf53 cJ15_checkIndex_7cf53 2 (some .int) 2 := ⟨q360, q358, q359, q15, by decide +kernel⟩
theorem kO_105 : CkS RJ15 105 yJ3_checkIndex_8e157 cJ3_checkIndex_8e157 3 (some .int) 3 := ⟨q363, q361, q362, q16, by decide +kernel⟩
theorem kL_123 : CkV RJx4a65c 123 yJx4a65c_elementData_915e3 cJx4a65c_elementData_915e3 2 (some (.object "java/lang/Object")) 1 := ⟨q367, q364, q365, q366, q4, by decide +kernel⟩
def iy_size : MethodName := ⟨"java/util/List", "size", "()I"⟩
theorem kF_46 : CkF RX3 46 iy_size yJx4a65c_size_8abf5 cJx4a65c_size_8abf5 1 (some .int) 0 := ⟨q189, q181, q185, q187, q4, ⟨q183, q182, q188, q186, q184⟩, by decide, by decide, by decide +kernel⟩
def iy_isEmpty : MethodName := ⟨"java/util/List", "isEmpty", "()Z"⟩
theorem kF_52 : CkF RX3 52 iy_isEmpty yJx4a65c_isEmpty_aae02 cJx4a65c_isEmpty_aae02 1 (some .boolean) 0 := ⟨q198, q191, q194, q196, q4, ⟨q193, q192, q197, q195, q184⟩, by decide, by decide, by decide +kernel⟩
def iy_get : MethodName := ⟨"java/util/List", "get", "(I)Ljava/lang/Object;"⟩
theorem kF_71 : CkF RX3 71 iy_get yJx4a65c_get_915e3 cJx4a65c_get_915e3 2 (some (.object "java/lang/Object")) 1 := ⟨q357, q350, q353, q355, q4, ⟨q352, q351, q356, q354, q184⟩, by decide, by decide, by decide +kernel⟩
def iy_add : MethodName := ⟨"java/util/List", "add", "(Ljava/lang/Object;)Z"⟩
theorem kF_67 : CkF RX3 67 iy_add yJx4a65c_add_9ea2d cJx4a65c_add_9ea2d 2 (some .boolean) 1 := ⟨q291, q284, q287, q289, q4, ⟨q286, q285, q290, q288, q184⟩, by decide, by decide, by decide +kernel⟩
theorem cL_size (G : GX) (Z : XZ) (S : XS) (li : Nat) (hli : li < 3) : FC G yJx4a65c_size_8abf5 cJx4a65c_size_8abf5 1 (some .int) { frames := 0, cells := 0, slots := 0, locals := 0 } [.ref (Z.A 6 li)] (xW G.2.2.2 G.2.1 Z S) (pv (.int (nI (Z.N li))) (xW G.2.2.2 G.2.1 Z S)) := by
  refine FC.go (lv := [(0, .ref (Z.A 6 li))]) (by decide) (Nat.le_of_ble_eq_true rfl) rfl (fun p e s m args below meth c A H locs ls Q hx hb hr hts hown hml hlocks hnm hK hE hI hA hl hQ => ?_)
  have hown : s.vm.findClass RJx4a65c = some m.cls := hown
  refine lv_aload_n hx hb dJx4a65c_size_8abf5_0 rfl (lv_at hl 0 rfl) ?_
  refine gL_48 hx hb hts hown hK hI hli dJx4a65c_size_8abf5_1 ?_
  exact rt_i hx hb hr hlocks hI hA hQ ⟨rfl, rfl⟩ (Nat.zero_le _) (Nat.zero_le _) dJx4a65c_size_8abf5_4
theorem cL_isEmpty (G : GX) (Z : XZ) (S : XS) (li : Nat) (hli : li < 3) : FC G yJx4a65c_isEmpty_aae02 cJx4a65c_isEmpty_aae02 1 (some .boolean) { frames := 0, cells := 0, slots := 0, locals := 0 } [.ref (Z.A 6 li)] (xW G.2.2.2 G.2.1 Z S) (pv (.int (bI (nI (Z.N li) = 0))) (xW G.2.2.2 G.2.1 Z S)) := by
  refine FC.go (lv := [(0, .ref (Z.A 6 li))]) (by decide) (Nat.le_of_ble_eq_true rfl) rfl (fun p e s m args below meth c A H locs ls Q hx hb hr hts hown hml hlocks hnm hK hE hI hA hl hQ => ?_)
  have hown : s.vm.findClass RJx4a65c = some m.cls := hown
  refine lv_aload_n hx hb dJx4a65c_isEmpty_aae02_0 rfl (lv_at hl 0 rfl) ?_
  refine gL_48 hx hb hts hown hK hI hli dJx4a65c_isEmpty_aae02_1 ?_
  refine lv_if_ne (tgt := 11) hx hb dJx4a65c_isEmpty_aae02_4 (by decide) (fun h => ?_) (fun h => ?_)
  · refine lv_iconst (v := 0) hx hb dJx4a65c_isEmpty_aae02_11 (by decide) ?_
    exact rt_z hx hb hr hlocks (by decide) hI hA hQ ⟨by rw [bI_f h], rfl⟩ (Nat.zero_le _) (Nat.zero_le _) dJx4a65c_isEmpty_aae02_12
  · refine lv_iconst (v := 1) hx hb dJx4a65c_isEmpty_aae02_7 (by decide) ?_
    refine lv_goto (tgt := 12) hx hb dJx4a65c_isEmpty_aae02_8 (by decide) ?_
    exact rt_z hx hb hr hlocks (by decide) hI hA hQ ⟨by rw [bI_t h], rfl⟩ (Nat.zero_le _) (Nat.zero_le _) dJx4a65c_isEmpty_aae02_12
theorem cL_pre (G : GX) (w : WD) (x : Int32) (n : Nat) (hn : n < 2 ^ 31) (hin : vp_in x n) : FC G yJ3_checkIndex_8e157 cJ3_checkIndex_8e157 3 (some .int) { frames := 0, cells := 0, slots := 0, locals := 0 } [.int x, .int (nI n), .null] w (pv (.int x) w) := by
  refine FC.go (lv := [(0, .int x), (1, .int (nI n)), (2, .null)]) (by decide) (Nat.le_of_ble_eq_true rfl) rfl (fun p e s m args below meth c A H locs ls Q hx hb hr hts hown hml hlocks hnm hK hE hI hA hl hQ => ?_)
  have hown : s.vm.findClass RJ3 = some m.cls := hown
  obtain ⟨j, hj, rfl⟩ := vp_in_of hin hn
  refine lv_iload_n hx hb dJ3_checkIndex_8e157_0 rfl (lv_at hl 0 rfl) ?_
  refine lv_if_lt (tgt := 9) hx hb dJ3_checkIndex_8e157_1 (by decide) (fun h => hin (Or.inl h) |>.elim) (fun _ => ?_)
  refine lv_iload_n hx hb dJ3_checkIndex_8e157_4 rfl (lv_at hl 0 rfl) ?_
  refine lv_iload_n hx hb dJ3_checkIndex_8e157_5 rfl (lv_at hl 1 rfl) ?_
  refine lv_icmp_lt (tgt := 16) hx hb dJ3_checkIndex_8e157_6 (by decide) (fun _ => ?_) (fun h => absurd (show nI j < nI n by rw [Int32.lt_iff_toInt_lt, nI_toInt (by omega), nI_toInt hn]; omega) h)
  refine lv_iload_n hx hb dJ3_checkIndex_8e157_16 rfl (lv_at hl 0 rfl) ?_
  exact rt_i hx hb hr hlocks hI hA hQ ⟨rfl, rfl⟩ (Nat.zero_le _) (Nat.zero_le _) dJ3_checkIndex_8e157_17
theorem cL_chk (G : GX) (w : WD) (x : Int32) (n : Nat) (hn : n < 2 ^ 31) (hin : vp_in x n) : FC G yJ15_checkIndex_7cf53 cJ15_checkIndex_7cf53 2 (some .int) { frames := 1, cells := 0, slots := 0, locals := 22 } [.int x, .int (nI n)] w (pv (.int x) w) := by
  refine FC.go (lv := [(0, .int x), (1, .int (nI n))]) (by decide) (Nat.le_of_ble_eq_true rfl) rfl (fun p e s m args below meth c A H locs ls Q hx hb hr hts hown hml hlocks hnm hK hE hI hA hl hQ => ?_)
  have hown : s.vm.findClass RJ15 = some m.cls := hown
  refine lv_iload_n hx hb dJ15_checkIndex_7cf53_0 rfl (lv_at hl 0 rfl) ?_
  refine lv_iload_n hx hb dJ15_checkIndex_7cf53_1 rfl (lv_at hl 1 rfl) ?_
  refine lv_null hx hb dJ15_checkIndex_7cf53_2 ?_
  refine cSv (rest := []) hx hb hml hts hown hK hE hI (cL_pre G w x n hn hin) kO_105 ⟨Nat.le_of_ble_eq_true rfl, Nat.le_of_ble_eq_true rfl⟩ rfl rfl hl.1 rfl (Nat.le_of_ble_eq_true rfl) dJ15_checkIndex_7cf53_3 ⟨Nat.zero_le _, Nat.zero_le _⟩ (fun H locs hI => ?_)
  exact rt_i hx hb hr hlocks hI hA hQ ⟨rfl, rfl⟩ (Nat.zero_le _) (Nat.zero_le _) dJ15_checkIndex_7cf53_6
theorem cL_el (G : GX) (Z : XZ) (S : XS) (li : Nat) (x : Int32) (hli : li < 3) (hP : Z.N li ≤ Z.P li) (hin : vp_in x (Z.N li)) : FC G yJx4a65c_elementData_915e3 cJx4a65c_elementData_915e3 2 (some (.object "java/lang/Object")) { frames := 0, cells := 0, slots := 0, locals := 0 } [.ref (Z.A 6 li), .int x] (xW G.2.2.2 G.2.1 Z S) (pv (.ref (Z.A (li + 1) x.toNatClampNeg)) (xW G.2.2.2 G.2.1 Z S)) := by
  refine FC.go (lv := [(0, .ref (Z.A 6 li)), (1, .int x)]) (by decide) (Nat.le_of_ble_eq_true rfl) rfl (fun p e s m args below meth c A H locs ls Q hx hb hr hts hown hml hlocks hnm hK hE hI hA hl hQ => ?_)
  have hown : s.vm.findClass RJx4a65c = some m.cls := hown
  have hlt : x.toNatClampNeg < Z.N li := Nat.not_le.mp fun q => hin (Or.inr q)
  have h0 : ¬ Z.P li = 0 := by omega
  refine lv_aload_n hx hb dJx4a65c_elementData_915e3_0 rfl (lv_at hl 0 rfl) ?_
  refine gL_9 hx hb hts hown hK hI hli dJx4a65c_elementData_915e3_1 ?_
  rw [if_neg h0]
  refine lv_iload_n hx hb dJx4a65c_elementData_915e3_4 rfl (lv_at hl 1 rfl) ?_
  refine lX_7 hx hb hK hI ⟨hli, h0⟩ hP hin dJx4a65c_elementData_915e3_5 ?_
  exact rt_a hx hb hr (Or.inl ⟨_, rfl⟩) hlocks (Or.inr ⟨_, rfl⟩) hI hA hQ ⟨rfl, rfl⟩ (Nat.zero_le _) (Nat.zero_le _) dJx4a65c_elementData_915e3_6
theorem cL_get (G : GX) (Z : XZ) (S : XS) (li : Nat) (x : Int32) (hli : li < 3) (hP : Z.N li ≤ Z.P li ∧ Z.P li < 2 ^ 31) (hin : vp_in x (Z.N li)) : FC G yJx4a65c_get_915e3 cJx4a65c_get_915e3 2 (some (.object "java/lang/Object")) { frames := 2, cells := 0, slots := 0, locals := 43 } [.ref (Z.A 6 li), .int x] (xW G.2.2.2 G.2.1 Z S) (pv (.ref (Z.A (li + 1) x.toNatClampNeg)) (xW G.2.2.2 G.2.1 Z S)) := by
  refine FC.go (lv := [(0, .ref (Z.A 6 li)), (1, .int x)]) (by decide) (Nat.le_of_ble_eq_true rfl) rfl (fun p e s m args below meth c A H locs ls Q hx hb hr hts hown hml hlocks hnm hK hE hI hA hl hQ => ?_)
  have hown : s.vm.findClass RJx4a65c = some m.cls := hown
  refine lv_iload_n hx hb dJx4a65c_get_915e3_0 rfl (lv_at hl 1 rfl) ?_
  refine lv_aload_n hx hb dJx4a65c_get_915e3_1 rfl (lv_at hl 0 rfl) ?_
  refine gL_48 hx hb hts hown hK hI hli dJx4a65c_get_915e3_2 ?_
  refine cSv (rest := []) hx hb hml hts hown hK hE hI (cL_chk G _ x (Z.N li) (by omega) hin) kL_118 ⟨Nat.le_of_ble_eq_true rfl, Nat.le_of_ble_eq_true rfl⟩ rfl rfl hl.1 rfl (Nat.le_of_ble_eq_true rfl) dJx4a65c_get_915e3_5 ⟨Nat.zero_le _, Nat.zero_le _⟩ (fun H locs hI => ?_)
  refine lv_pop hx hb dJx4a65c_get_915e3_8 rfl ?_
  refine lv_aload_n hx hb dJx4a65c_get_915e3_9 rfl (lv_at hl 0 rfl) ?_
  refine lv_iload_n hx hb dJx4a65c_get_915e3_10 rfl (lv_at hl 1 rfl) ?_
  refine cVv (rest := []) hx hb hml hts hown hK hE hI (cL_el G Z S li x hli hP.1 hin) kL_123 ⟨Nat.le_of_ble_eq_true rfl, Nat.le_of_ble_eq_true rfl⟩ rfl rfl (kk := 6) (ii := li) (xW6 hli) rfl rfl hl.1 rfl (Nat.le_of_ble_eq_true rfl) dJx4a65c_get_915e3_11 ⟨Nat.zero_le _, Nat.zero_le _⟩ (fun H locs hI => ?_)
  exact rt_a hx hb hr (Or.inl ⟨_, rfl⟩) hlocks (Or.inr ⟨_, rfl⟩) hI hA hQ ⟨rfl, rfl⟩ (Nat.zero_le _) (Nat.zero_le _) dJx4a65c_get_915e3_14
/-- the shape: as many objects as entries, and room for them -/
def WZ (Z : XZ) : Prop := Z.N 0 = Z.O 1 ∧ Z.N 1 = Z.O 2 ∧ Z.N 2 = Z.O 3 ∧ Z.N 0 ≤ 10 ∧ Z.N 1 ≤ 16 ∧ Z.N 2 ≤ 512 ∧ ∀ i, i < 3 → Z.N i ≤ Z.P i ∧ Z.P i ≤ 768
theorem WZ.P {Z : XZ} (h : WZ Z) (i : Nat) (hi : i < 3) : Z.N i ≤ Z.P i ∧ Z.P i < 2 ^ 31 := by
  have := h.2.2.2.2.2.2 i hi
  omega
theorem wz_lt0 {Z : XZ} {x : Int32} (h : WZ Z) (hin : vp_in x (Z.N 0)) : x.toNatClampNeg < Z.O 1 := by
  rw [← h.1]; exact Nat.not_le.mp fun q => hin (Or.inr q)
theorem wz_lt1 {Z : XZ} {x : Int32} (h : WZ Z) (hin : vp_in x (Z.N 1)) : x.toNatClampNeg < Z.O 2 := by
  rw [← h.2.1]; exact Nat.not_le.mp fun q => hin (Or.inr q)
theorem wz_lt2 {Z : XZ} {x : Int32} (h : WZ Z) (hin : vp_in x (Z.N 2)) : x.toNatClampNeg < Z.O 3 := by
  rw [← h.2.2.1]; exact Nat.not_le.mp fun q => hin (Or.inr q)
