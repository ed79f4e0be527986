theorem came_inb {p : Int32} {c : Prop} [Decidable c] (hp : vp_in p 10) : vp_in (2 * p + bI c) 20 := by
  obtain ⟨j, hj, rfl⟩ := vp_in_of hp (by decide)
  rw [nI_two]
  unfold bI
  split
  · rw [nI_1]; exact vp_in_nI (by omega) (by decide)
  · rw [show (0 : Int32) = nI 0 from rfl, nI_add]; exact vp_in_nI (by omega) (by decide)
/-- the speed that a wave leaves: down from x while the square is above -/
def M_speedW (low : UInt64) : Nat → Int32 → Int32
  | 0, x => x
  | n + 1, x => if Op.cmpValue (FP.dcmp (FP.i2d (x * x)) low) CmpOp.l ≤ 0 then x else M_speedW low n (x + (-1))
def rng (x : Int32) (a b : Int) : Prop := a ≤ x.toInt ∧ x.toInt ≤ b
def SPD (S : MS) (v p : Int32) : Prop := rng (S.1 19 v.toNatClampNeg) 1 300 ∧ rng (S.1 13 p.toNatClampNeg) 1 300 ∧ rng (S.1 6 p.toNatClampNeg) 1 999
theorem SPD_set {S S1 : MS} {k j : Nat} {v p x : Int32} (h : SPD S v p) (h1 : k ≠ 19) (h2 : k ≠ 13) (h3 : k ≠ 6) (e : S1 = mset S k j x) : SPD S1 v p := by
  subst e
  unfold SPD
  rw [mset_k (fun z => h1 z.symm), mset_k (fun z => h2 z.symm), mset_k (fun z => h3 z.symm)]
  exact h
theorem rng_nI {x : Int32} {a b : Nat} (h : rng x a b) : ∃ n : Nat, x = nI n ∧ a ≤ n ∧ n ≤ b := by
  obtain ⟨h1, h2⟩ := h
  obtain ⟨j, hj, e⟩ := nI_of (x := x) (by rw [Int32.lt_iff_toInt_lt, Int32.toInt_zero]; omega)
  refine ⟨j, e, ?_, ?_⟩ <;> (rw [e, nI_toInt hj] at h1 h2; omega)
theorem wave_1 {x d : Int32} (hd : rng d 1 999) (h : ¬ Op.cmpValue (FP.dcmp (FP.i2d (x * x)) (FP.dmul c784 (FP.i2d d))) CmpOp.l ≤ 0) : x ≠ 1 := by
  intro e
  subst e
  obtain ⟨n, rfl, h1, h2⟩ := rng_nI (a := 1) (b := 999) hd
  exact h (wave_all n (by omega) h1)
theorem i32_dec {x : Int32} (h : 2 ≤ x.toInt) : (x + (-1)).toInt = x.toInt - 1 := by
  have h2 := Int32.toInt_lt x
  rw [show x + (-1) = x - 1 from (Int32.sub_eq_add_neg x 1).symm]
  rw [Int32.toInt_sub, show (1 : Int32).toInt = 1 by decide, Int.bmod_eq_of_le (by omega) (by omega)]
theorem M_speedW_rng {d : Int32} (hd : rng d 1 999) : ∀ (n : Nat) (x : Int32), 1 ≤ x.toInt → 1 ≤ (M_speedW (FP.dmul c784 (FP.i2d d)) n x).toInt ∧ (M_speedW (FP.dmul c784 (FP.i2d d)) n x).toInt ≤ x.toInt := by
  intro n
  induction n with
  | zero => intro x h; exact ⟨h, Int.le_refl _⟩
  | succ n ih =>
    intro x h
    show 1 ≤ (ite _ _ _ : Int32).toInt ∧ (ite _ _ _ : Int32).toInt ≤ _
    split
    · exact ⟨h, Int.le_refl _⟩
    · rename_i hc
      have hx := wave_1 hd hc
      have h2 : 2 ≤ x.toInt := by
        rcases Int.lt_or_le x.toInt 2 with k | k
        · exact absurd (Int32.toInt_inj.mp (show x.toInt = (1 : Int32).toInt by rw [show (1 : Int32).toInt = 1 by decide]; omega)) hx
        · exact k
      have e := i32_dec h2
      obtain ⟨a, b⟩ := ih (x + (-1)) (by omega)
      exact ⟨a, by omega⟩
theorem spd_lo {S : MS} {v p x : Int32} (h : SPD S v p) (e : x = if S.1 13 p.toNatClampNeg ≤ S.1 19 v.toNatClampNeg then S.1 13 p.toNatClampNeg else S.1 19 v.toNatClampNeg) : 1 ≤ x.toInt := by
  rw [e]
  split
  · exact h.2.1.1
  · exact h.1.1
theorem spd_hi {S : MS} {v p x : Int32} (h : SPD S v p) (e : x = if S.1 13 p.toNatClampNeg ≤ S.1 19 v.toNatClampNeg then S.1 13 p.toNatClampNeg else S.1 19 v.toNatClampNeg) : x.toInt ≤ (300 : Nat) := by
  rw [e]
  split
  · exact h.2.1.2
  · exact h.1.2
def M_speedOn (S : MS) (uv : Int32) (up : Int32) : Int32 :=
  let x1 := if (S.1 13 up.toNatClampNeg) ≤ (S.1 19 uv.toNatClampNeg) then (S.1 13 up.toNatClampNeg) else (S.1 19 uv.toNatClampNeg)
  let x3 := if M_isWater S up then (if (Op.cmpValue (FP.dcmp (FP.i2d (x1 * x1)) (FP.dmul (4635217326480398746 : UInt64) (FP.i2d (S.1 6 up.toNatClampNeg)))) CmpOp.l) ≤ 0 then x1 else (if 0 ≤ (Op.cmpValue (FP.dcmp (FP.i2d (x1 * x1)) (FP.dmul (4637975781252163174 : UInt64) (FP.i2d (S.1 6 up.toNatClampNeg)))) CmpOp.g) then x1 else (M_speedW (FP.dmul (4635217326480398746 : UInt64) (FP.i2d (S.1 6 up.toNatClampNeg))) 300 x1))) else x1
  x3
set_option maxHeartbeats 4000000 in
set_option maxRecDepth 100000 in
theorem cM_speedOn (G : GX) (ad : Nat → Nat) (S : MS) (uv : Int32) (up : Int32) (hv : vp_in uv 16) (hp : vp_in up 10) (hsp : SPD S uv up) : FC G yX4_speedOn cX4_speedOn 10 (some .int) ({ frames := 1, cells := 0, slots := 0, locals := 21 }) [.ref (ad 0), .int uv, .int up] (mW G.2.2.2 ad S) (pv (.int (M_speedOn S uv up)) (mW G.2.2.2 ad S)) := by
  refine FC.go (lv := [(0, .ref (ad 0)), (1, .int uv), (2, .int up)]) (by decide) (Nat.le_of_ble_eq_true rfl) rfl (fun p e s m args below meth c A H locs ls Q hx hb hr hts hown hml hlocks hnm hK hE hI hA hl hQ => ?_)
  have hown : s.vm.findClass RX4 = some m.cls := hown
  refine lv_aload_n hx hb dX4_speedOn_0 rfl (lv_at hl 0 rfl) ?_
  refine gM_57 hx hb hts hown hK hI dX4_speedOn_1 ?_
  refine lv_iload_n hx hb dX4_speedOn_4 rfl (lv_at hl 1 rfl) ?_
  refine lM_19 hx hb hK hI hv dX4_speedOn_5 ?_
  refine lv_aload_n hx hb dX4_speedOn_6 rfl (lv_at hl 0 rfl) ?_
  refine gM_41 hx hb hts hown hK hI dX4_speedOn_7 ?_
  refine lv_iload_n hx hb dX4_speedOn_10 rfl (lv_at hl 2 rfl) ?_
  refine lM_13 hx hb hK hI hp dX4_speedOn_11 ?_
  have hJ2 : ∀ (x1 : Int32), (x1 = if (S.1 13 up.toNatClampNeg) ≤ (S.1 19 uv.toNatClampNeg) then (S.1 13 up.toNatClampNeg) else (S.1 19 uv.toNatClampNeg)) → W p G.1 e ({ frames := 1, cells := 0, slots := 0, locals := 21 }) s m args below meth c H locs 0 0 Q (F0 m 30 ls [.int x1]) := by
    intro x1 ex1
    refine lv_istore_n (lv' := [(3, .int x1), (0, .ref (ad 0)), (1, .int uv), (2, .int up)]) hx hb dX4_speedOn_30 rfl hl (by decide) rfl (fun ls hl => ?_)
    refine lv_ldc2d (v := 4635217326480398746) hx hb hown (hts _ q1017) dX4_speedOn_31 ?_
    refine lv_aload_n hx hb dX4_speedOn_34 rfl (lv_at hl 1 rfl) ?_
    refine gM_20 hx hb hts hown hK hI dX4_speedOn_35 ?_
    refine lv_iload_n hx hb dX4_speedOn_38 rfl (lv_at hl 3 rfl) ?_
    refine lM_6 hx hb hK hI hp dX4_speedOn_39 ?_
    refine lv_i2d hx hb dX4_speedOn_40 ?_
    refine lv_dmul hx hb dX4_speedOn_41 (nn_w1 _) ?_
    refine lv_dstore (lv' := [(4, .double (FP.dmul (4635217326480398746 : UInt64) (FP.i2d (S.1 6 up.toNatClampNeg)))), (3, .int x1), (0, .ref (ad 0)), (1, .int uv), (2, .int up)]) hx hb dX4_speedOn_42 hl (by decide) rfl (fun ls hl => ?_)
    refine lv_ldc2d (v := 4637975781252163174) hx hb hown (hts _ q1018) dX4_speedOn_44 ?_
    refine lv_aload_n hx hb dX4_speedOn_47 rfl (lv_at hl 2 rfl) ?_
    refine gM_20 hx hb hts hown hK hI dX4_speedOn_48 ?_
    refine lv_iload_n hx hb dX4_speedOn_51 rfl (lv_at hl 4 rfl) ?_
    refine lM_6 hx hb hK hI hp dX4_speedOn_52 ?_
    refine lv_i2d hx hb dX4_speedOn_53 ?_
    refine lv_dmul hx hb dX4_speedOn_54 (nn_w2 _) ?_
    refine lv_dstore (lv' := [(6, .double (FP.dmul (4637975781252163174 : UInt64) (FP.i2d (S.1 6 up.toNatClampNeg)))), (4, .double (FP.dmul (4635217326480398746 : UInt64) (FP.i2d (S.1 6 up.toNatClampNeg)))), (3, .int x1), (0, .ref (ad 0)), (1, .int uv), (2, .int up)]) hx hb dX4_speedOn_55 hl (by decide) rfl (fun ls hl => ?_)
    refine lv_iload_n hx hb dX4_speedOn_57 rfl (lv_at hl 2 rfl) ?_
    refine lv_iload_n hx hb dX4_speedOn_58 rfl (lv_at hl 2 rfl) ?_
    refine lv_imul hx hb dX4_speedOn_59 ?_
    refine lv_i2d hx hb dX4_speedOn_60 ?_
    refine lv_dstore (lv' := [(8, .double (FP.i2d (x1 * x1))), (6, .double (FP.dmul (4637975781252163174 : UInt64) (FP.i2d (S.1 6 up.toNatClampNeg)))), (4, .double (FP.dmul (4635217326480398746 : UInt64) (FP.i2d (S.1 6 up.toNatClampNeg)))), (3, .int x1), (0, .ref (ad 0)), (1, .int uv), (2, .int up)]) hx hb dX4_speedOn_61 hl (by decide) rfl (fun ls hl => ?_)
    refine lv_aload_n hx hb dX4_speedOn_63 rfl (lv_at hl 4 rfl) ?_
    refine lv_iload_n hx hb dX4_speedOn_64 rfl (lv_at hl 6 rfl) ?_
    refine cVv (rest := []) hx hb hml hts hown hK hE hI (cM_isWater G ad S up hp) kM_112 ⟨Nat.le_of_ble_eq_true rfl, Nat.le_of_ble_eq_true rfl⟩ rfl rfl (kk := 4) (ii := 0) rfl rfl rfl hl.1 rfl (Nat.le_of_ble_eq_true rfl) dX4_speedOn_65 ⟨Nat.zero_le _, Nat.zero_le _⟩ (fun H locs hI => ?_)
    have hJ4 : ∀ (x3 : Int32) (ls : Array Slot), (x3 = if M_isWater S up then (if (Op.cmpValue (FP.dcmp (FP.i2d (x1 * x1)) (FP.dmul (4635217326480398746 : UInt64) (FP.i2d (S.1 6 up.toNatClampNeg)))) CmpOp.l) ≤ 0 then x1 else (if 0 ≤ (Op.cmpValue (FP.dcmp (FP.i2d (x1 * x1)) (FP.dmul (4637975781252163174 : UInt64) (FP.i2d (S.1 6 up.toNatClampNeg)))) CmpOp.g) then x1 else (M_speedW (FP.dmul (4635217326480398746 : UInt64) (FP.i2d (S.1 6 up.toNatClampNeg))) 300 x1))) else x1) → (lv_has ls 10 [(8, .double (FP.i2d (x1 * x1))), (6, .double (FP.dmul (4637975781252163174 : UInt64) (FP.i2d (S.1 6 up.toNatClampNeg)))), (4, .double (FP.dmul (4635217326480398746 : UInt64) (FP.i2d (S.1 6 up.toNatClampNeg)))), (3, .int x3), (0, .ref (ad 0)), (1, .int uv), (2, .int up)]) → W p G.1 e ({ frames := 1, cells := 0, slots := 0, locals := 21 }) s m args below meth c H locs 0 0 Q (F0 m 103 ls []) := by
      intro x3 ls ex3 hl
      refine lv_iload_n hx hb dX4_speedOn_103 rfl (lv_at hl 3 rfl) ?_
      have HE : M_speedOn S uv up = x3 := by subst ex3 ex1; exact rfl
      exact rt_i hx hb hr hlocks hI hA hQ ⟨by rw [HE], rfl⟩ (Nat.zero_le _) (Nat.zero_le _) dX4_speedOn_104
    refine xb_eq (tgt := 103) hx hb dX4_speedOn_68 (by decide) (fun c5 => ?_) (fun c5 => ?_)
    · exact hJ4 x1 _ (by exact (if_neg c5).symm) (lv_sub hl [0, 1, 2, 3, 4, 5, 6] rfl)
    · refine lv_dload hx hb dX4_speedOn_71 (lv_at hl 0 rfl) ?_
      refine lv_dload hx hb dX4_speedOn_73 (lv_at hl 2 rfl) ?_
      refine lv_dcmp hx hb dX4_speedOn_75 ?_
      refine lv_if_le (tgt := 103) hx hb dX4_speedOn_76 (by decide) (fun c6 => ?_) (fun c6 => ?_)
      · exact hJ4 x1 _ (by exact ((if_pos c5).trans (if_pos c6)).symm) (lv_sub hl [0, 1, 2, 3, 4, 5, 6] rfl)
      · refine lv_dload hx hb dX4_speedOn_79 (lv_at hl 0 rfl) ?_
        refine lv_dload hx hb dX4_speedOn_81 (lv_at hl 1 rfl) ?_
        refine lv_dcmp hx hb dX4_speedOn_83 ?_
        refine lv_if_ge (tgt := 103) hx hb dX4_speedOn_84 (by decide) (fun c7 => ?_) (fun c7 => ?_)
        · exact hJ4 x1 _ (by exact ((if_pos c5).trans ((if_neg c6).trans (if_pos c7))).symm) (lv_sub hl [0, 1, 2, 3, 4, 5, 6] rfl)
        · obtain ⟨r8, er8⟩ : ∃ z : Int32, z = M_speedW (FP.dmul (4635217326480398746 : UInt64) (FP.i2d (S.1 6 up.toNatClampNeg))) 300 x1 := ⟨_, rfl⟩
          have hL9 : ∀ (n : Nat) (i_ : Int32) (ls : Array Slot), 1 ≤ i_.toInt → i_.toInt ≤ n → M_speedW (FP.dmul (4635217326480398746 : UInt64) (FP.i2d (S.1 6 up.toNatClampNeg))) n i_ = r8 → lv_has ls 10 [(8, .double (FP.i2d (x1 * x1))), (6, .double (FP.dmul (4637975781252163174 : UInt64) (FP.i2d (S.1 6 up.toNatClampNeg)))), (4, .double (FP.dmul (4635217326480398746 : UInt64) (FP.i2d (S.1 6 up.toNatClampNeg)))), (3, .int i_), (0, .ref (ad 0)), (1, .int uv), (2, .int up)] → W p G.1 e ({ frames := 1, cells := 0, slots := 0, locals := 21 }) s m args below meth c H locs 0 0 Q (F0 m 87 ls []) := by
            intro n
            induction n with
            | zero => intro i_ ls h1 h2; exact absurd (Int.le_trans h1 h2) (by decide)
            | succ n ih =>
              intro i_ ls h1 h2 hr9 hl
              refine lv_iload_n hx hb dX4_speedOn_87 rfl (lv_at hl 3 rfl) ?_
              refine lv_iload_n hx hb dX4_speedOn_88 rfl (lv_at hl 3 rfl) ?_
              refine lv_imul hx hb dX4_speedOn_89 ?_
              refine lv_i2d hx hb dX4_speedOn_90 ?_
              refine lv_dload hx hb dX4_speedOn_91 (lv_at hl 2 rfl) ?_
              refine lv_dcmp hx hb dX4_speedOn_93 ?_
              refine lv_if_le (tgt := 103) hx hb dX4_speedOn_94 (by decide) (fun h9 => ?_) (fun h9 => ?_)
              · have e9 : i_ = r8 := by rw [← hr9]; exact (if_pos h9).symm
                rw [e9] at hl
                exact hJ4 r8 _ (by subst er8; exact ((if_pos c5).trans ((if_neg c6).trans (if_neg c7))).symm) (lv_sub hl [0, 1, 2, 3, 4, 5, 6] rfl)
              · have hx1 := wave_1 (by exact hsp.2.2) h9
                have hi2 : 2 ≤ i_.toInt := by
                  rcases Int.lt_or_le i_.toInt 2 with k | k
                  · exact absurd (Int32.toInt_inj.mp (show i_.toInt = (1 : Int32).toInt by rw [show (1 : Int32).toInt = 1 by decide]; omega)) hx1
                  · exact k
                obtain ⟨x10, ex10⟩ : ∃ z : Int32, z = i_ + (-1) := ⟨_, rfl⟩
                refine lv_iinc (v := x10) (lv' := [(3, .int x10), (8, .double (FP.i2d (x1 * x1))), (6, .double (FP.dmul (4637975781252163174 : UInt64) (FP.i2d (S.1 6 up.toNatClampNeg)))), (4, .double (FP.dmul (4635217326480398746 : UInt64) (FP.i2d (S.1 6 up.toNatClampNeg)))), (0, .ref (ad 0)), (1, .int uv), (2, .int up)]) hx hb dX4_speedOn_97 hl (k := 3) rfl (by rw [ex10]; rfl) (by decide) rfl (fun ls hl => ?_)
                refine lv_goto (tgt := 87) hx hb dX4_speedOn_100 (by decide) ?_
                have e8 := i32_dec hi2
                rw [← ex10] at e8
                exact ih x10 ls (by omega) (by omega) (by rw [← hr9, ex10]; exact (if_neg h9).symm) (lv_sub hl [1, 2, 3, 0, 4, 5, 6] rfl)
          exact hL9 300 x1 ls (spd_lo hsp ex1) (spd_hi hsp ex1) er8.symm (lv_sub hl [0, 1, 2, 3, 4, 5, 6] rfl)
  refine lv_icmp_ge (tgt := 24) hx hb dX4_speedOn_12 (by decide) (fun c11 => ?_) (fun c11 => ?_)
  · refine lv_aload_n hx hb dX4_speedOn_24 rfl (lv_at hl 0 rfl) ?_
    refine gM_41 hx hb hts hown hK hI dX4_speedOn_25 ?_
    refine lv_iload_n hx hb dX4_speedOn_28 rfl (lv_at hl 2 rfl) ?_
    refine lM_13 hx hb hK hI hp dX4_speedOn_29 ?_
    exact hJ2 (S.1 13 up.toNatClampNeg) (by exact (if_pos c11).symm)
  · refine lv_aload_n hx hb dX4_speedOn_15 rfl (lv_at hl 0 rfl) ?_
    refine gM_57 hx hb hts hown hK hI dX4_speedOn_16 ?_
    refine lv_iload_n hx hb dX4_speedOn_19 rfl (lv_at hl 1 rfl) ?_
    refine lM_19 hx hb hK hI hv dX4_speedOn_20 ?_
    refine lv_goto (tgt := 30) hx hb dX4_speedOn_21 (by decide) ?_
    exact hJ2 (S.1 19 uv.toNatClampNeg) (by exact (if_neg c11).symm)

theorem M_speedOn_rng {S : MS} {v p : Int32} (h : SPD S v p) : rng (M_speedOn S v p) 1 300 := by
  have h1 := spd_lo h rfl
  have h2 := spd_hi h rfl
  simp only [M_speedOn]
  generalize (if S.1 13 p.toNatClampNeg ≤ S.1 19 v.toNatClampNeg then S.1 13 p.toNatClampNeg else S.1 19 v.toNatClampNeg) = x at h1 h2 ⊢
  split
  · split
    · exact ⟨h1, h2⟩
    · split
      · exact ⟨h1, h2⟩
      · obtain ⟨a, b⟩ := M_speedW_rng h.2.2 300 x h1
        exact ⟨a, Int.le_trans b h2⟩
  · exact ⟨h1, h2⟩
theorem spd_ne {S : MS} {v p : Int32} (h : SPD S v p) : ¬ 6 * M_speedOn S v p = 0 := by
  obtain ⟨n, e, h1, h2⟩ := rng_nI (a := 1) (b := 300) (M_speedOn_rng h)
  rw [e, show (6 : Int32) = nI 6 from rfl, show nI 6 * nI n = nI (6 * n) from (Int32.ofNat_mul 6 n).symm]
  exact nI_ne0 (by omega) (by omega)
def M_minutesOn (S : MS) (uv : Int32) (up : Int32) : Int32 :=
  (((S.1 5 up.toNatClampNeg) + (6 * (M_speedOn S uv up))) - 1) / (6 * (M_speedOn S uv up))
set_option maxHeartbeats 4000000 in
set_option maxRecDepth 100000 in
theorem cM_minutesOn (G : GX) (ad : Nat → Nat) (S : MS) (uv : Int32) (up : Int32) (hv : vp_in uv 16) (hp : vp_in up 10) (hsp : SPD S uv up) : FC G yX4_minutesOn cX4_minutesOn 4 (some .int) ({ frames := 2, cells := 0, slots := 0, locals := 50 }) [.ref (ad 0), .int uv, .int up] (mW G.2.2.2 ad S) (pv (.int (M_minutesOn S uv up)) (mW G.2.2.2 ad S)) := by
  refine FC.go (lv := [(0, .ref (ad 0)), (1, .int uv), (2, .int up)]) (by decide) (Nat.le_of_ble_eq_true rfl) rfl (fun p e s m args below meth c A H locs ls Q hx hb hr hts hown hml hlocks hnm hK hE hI hA hl hQ => ?_)
  have hown : s.vm.findClass RX4 = some m.cls := hown
  refine lv_bipush (v := 6) hx hb dX4_minutesOn_0 (by decide) ?_
  refine lv_aload_n hx hb dX4_minutesOn_2 rfl (lv_at hl 0 rfl) ?_
  refine lv_iload_n hx hb dX4_minutesOn_3 rfl (lv_at hl 1 rfl) ?_
  refine lv_iload_n hx hb dX4_minutesOn_4 rfl (lv_at hl 2 rfl) ?_
  refine cVv (rest := [.int 6]) hx hb hml hts hown hK hE hI (cM_speedOn G ad S uv up hv hp hsp) kM_160 ⟨Nat.le_of_ble_eq_true rfl, Nat.le_of_ble_eq_true rfl⟩ rfl rfl (kk := 4) (ii := 0) rfl rfl rfl hl.1 rfl (Nat.le_of_ble_eq_true rfl) dX4_minutesOn_5 ⟨Nat.zero_le _, Nat.zero_le _⟩ (fun H locs hI => ?_)
  refine lv_imul hx hb dX4_minutesOn_8 ?_
  refine lv_istore_n (lv' := [(3, .int (6 * (M_speedOn S uv up))), (0, .ref (ad 0)), (1, .int uv), (2, .int up)]) hx hb dX4_minutesOn_9 rfl hl (by decide) rfl (fun ls hl => ?_)
  refine lv_aload_n hx hb dX4_minutesOn_10 rfl (lv_at hl 1 rfl) ?_
  refine gM_17 hx hb hts hown hK hI dX4_minutesOn_11 ?_
  refine lv_iload_n hx hb dX4_minutesOn_14 rfl (lv_at hl 3 rfl) ?_
  refine lM_5 hx hb hK hI hp dX4_minutesOn_15 ?_
  refine lv_iload_n hx hb dX4_minutesOn_16 rfl (lv_at hl 0 rfl) ?_
  refine lv_iadd hx hb dX4_minutesOn_17 ?_
  refine lv_iconst (v := 1) hx hb dX4_minutesOn_18 (by decide) ?_
  refine lv_isub hx hb dX4_minutesOn_19 ?_
  refine lv_iload_n hx hb dX4_minutesOn_20 rfl (lv_at hl 0 rfl) ?_
  refine lv_idiv hx hb dX4_minutesOn_21 (spd_ne hsp) ?_
  have HE : M_minutesOn S uv up = (((S.1 5 up.toNatClampNeg) + (6 * (M_speedOn S uv up))) - 1) / (6 * (M_speedOn S uv up)) := by exact rfl
  exact rt_i hx hb hr hlocks hI hA hQ ⟨by rw [HE], rfl⟩ (Nat.zero_le _) (Nat.zero_le _) dX4_minutesOn_22

def M_bears (S : MS) (up : Int32) (ub : Int32) : Int32 × MS :=
  if M_isPiece S up then
    let S3 := mset S 29 0 0
    if ub = 0 then
      (M_bearsBy S3 up (M_thick S3 up), S3)
    else
      (M_bearsBy S3 up ((S3.2 up.toNatClampNeg).1), S3)
  else
    let S2 := mset S 29 0 1
    (0, S2)
set_option maxHeartbeats 4000000 in
set_option maxRecDepth 100000 in
theorem cM_bears (G : GX) (ad : Nat → Nat) (S : MS) (up : Int32) (ub : Int32) {np nv : Nat} (hN : MNn S np nv) : FC G yX4_bears cX4_bears 3 (some .int) ({ frames := 2, cells := 0, slots := 0, locals := 44 }) [.ref (ad 0), .int up, .int ub] (mW G.2.2.2 ad S) (pv (.int (M_bears S up ub).1) (mW G.2.2.2 ad (M_bears S up ub).2)) := by
  refine FC.go (lv := [(0, .ref (ad 0)), (1, .int up), (2, .int ub)]) (by decide) (Nat.le_of_ble_eq_true rfl) rfl (fun p e s m args below meth c A H locs ls Q hx hb hr hts hown hml hlocks hnm hK hE hI hA hl hQ => ?_)
  have hown : s.vm.findClass RX4 = some m.cls := hown
  refine lv_aload_n hx hb dX4_bears_0 rfl (lv_at hl 0 rfl) ?_
  refine lv_aload_n hx hb dX4_bears_1 rfl (lv_at hl 0 rfl) ?_
  refine lv_iload_n hx hb dX4_bears_2 rfl (lv_at hl 1 rfl) ?_
  refine cVv (rest := [.ref (ad 0)]) hx hb hml hts hown hK hE hI (cM_isPiece G ad S up) kM_109 ⟨Nat.le_of_ble_eq_true rfl, Nat.le_of_ble_eq_true rfl⟩ rfl rfl (kk := 4) (ii := 0) rfl rfl rfl hl.1 rfl (Nat.le_of_ble_eq_true rfl) dX4_bears_3 ⟨Nat.zero_le _, Nat.zero_le _⟩ (fun H locs hI => ?_)
  refine xb_eq (tgt := 13) hx hb dX4_bears_6 (by decide) (fun c1 => ?_) (fun c1 => ?_)
  · refine lv_iconst (v := 1) hx hb dX4_bears_13 (by decide) ?_
    obtain ⟨S2, eS2⟩ : ∃ z : MS, z = mset S 29 0 1 := ⟨_, rfl⟩
    refine cVv (rest := []) hx hb hml hts hown hK hE hI (cM_fails1 G ad S) kM_101 ⟨Nat.le_of_ble_eq_true rfl, Nat.le_of_ble_eq_true rfl⟩ rfl rfl (kk := 4) (ii := 0) rfl rfl rfl hl.1 rfl (Nat.le_of_ble_eq_true rfl) dX4_bears_14 ⟨Nat.zero_le _, Nat.zero_le _⟩ (fun H locs hI => ?_)
    rw [← eS2] at hI
    refine lv_if_eq (tgt := 24) hx hb dX4_bears_17 (by decide) (fun h => absurd h (by decide)) (fun _ => ?_)
    refine lv_iconst (v := 0) hx hb dX4_bears_20 (by decide) ?_
    refine lv_goto (tgt := 47) hx hb dX4_bears_21 (by decide) ?_
    have HE : M_bears S up ub = (0, S2) := by subst eS2; exact (if_neg c1)
    exact rt_i hx hb hr hlocks hI hA hQ ⟨by rw [HE], by rw [HE]⟩ (Nat.zero_le _) (Nat.zero_le _) dX4_bears_47
  · refine lv_iconst (v := 0) hx hb dX4_bears_9 (by decide) ?_
    refine lv_goto (tgt := 14) hx hb dX4_bears_10 (by decide) ?_
    obtain ⟨S3, eS3⟩ : ∃ z : MS, z = mset S 29 0 0 := ⟨_, rfl⟩
    refine cVv (rest := []) hx hb hml hts hown hK hE hI (cM_fails0 G ad S) kM_101 ⟨Nat.le_of_ble_eq_true rfl, Nat.le_of_ble_eq_true rfl⟩ rfl rfl (kk := 4) (ii := 0) rfl rfl rfl hl.1 rfl (Nat.le_of_ble_eq_true rfl) dX4_bears_14 ⟨Nat.zero_le _, Nat.zero_le _⟩ (fun H locs hI => ?_)
    rw [← eS3] at hI
    refine lv_if_eq (tgt := 24) hx hb dX4_bears_17 (by decide) (fun _ => ?_) (fun h => absurd h (by decide))
    refine lv_aload_n hx hb dX4_bears_24 rfl (lv_at hl 0 rfl) ?_
    refine lv_iload_n hx hb dX4_bears_25 rfl (lv_at hl 1 rfl) ?_
    refine lv_iload_n hx hb dX4_bears_26 rfl (lv_at hl 2 rfl) ?_
    refine lv_if_eq (tgt := 39) hx hb dX4_bears_27 (by decide) (fun c4 => ?_) (fun c4 => ?_)
    · refine lv_aload_n hx hb dX4_bears_39 rfl (lv_at hl 0 rfl) ?_
      refine lv_iload_n hx hb dX4_bears_40 rfl (lv_at hl 1 rfl) ?_
      refine cVv (rest := [.int up, .ref (ad 0)]) hx hb hml hts hown hK hE hI (cM_thick G ad S3 up (isPiece_in hN c1)) kM_117 ⟨Nat.le_of_ble_eq_true rfl, Nat.le_of_ble_eq_true rfl⟩ rfl rfl (kk := 4) (ii := 0) rfl rfl rfl hl.1 rfl (Nat.le_of_ble_eq_true rfl) dX4_bears_41 ⟨Nat.zero_le _, Nat.zero_le _⟩ (fun H locs hI => ?_)
      refine cVv (rest := []) hx hb hml hts hown hK hE hI (cM_bearsBy G ad S3 up (M_thick S3 up) (isPiece_in hN c1) (nn_thick _ _)) kM_177 ⟨Nat.le_of_ble_eq_true rfl, Nat.le_of_ble_eq_true rfl⟩ rfl rfl (kk := 4) (ii := 0) rfl rfl rfl hl.1 rfl (Nat.le_of_ble_eq_true rfl) dX4_bears_44 ⟨Nat.zero_le _, Nat.zero_le _⟩ (fun H locs hI => ?_)
      have HE : M_bears S up ub = (M_bearsBy S3 up (M_thick S3 up), S3) := by subst eS3; exact (if_pos c1).trans ((if_pos c4))
      exact rt_i hx hb hr hlocks hI hA hQ ⟨by rw [HE], by rw [HE]⟩ (Nat.zero_le _) (Nat.zero_le _) dX4_bears_47
    · refine lv_aload_n hx hb dX4_bears_30 rfl (lv_at hl 0 rfl) ?_
      refine gM_44 hx hb hts hown hK hI dX4_bears_31 ?_
      refine lv_iload_n hx hb dX4_bears_34 rfl (lv_at hl 1 rfl) ?_
      refine lM_14 hx hb hK hI (isPiece_in hN c1) dX4_bears_35 ?_
      refine lv_goto (tgt := 44) hx hb dX4_bears_36 (by decide) ?_
      refine cVv (rest := []) hx hb hml hts hown hK hE hI (cM_bearsBy G ad S3 up ((S3.2 up.toNatClampNeg).1) (isPiece_in hN c1) ((S3.2 up.toNatClampNeg).2)) kM_177 ⟨Nat.le_of_ble_eq_true rfl, Nat.le_of_ble_eq_true rfl⟩ rfl rfl (kk := 4) (ii := 0) rfl rfl rfl hl.1 rfl (Nat.le_of_ble_eq_true rfl) dX4_bears_44 ⟨Nat.zero_le _, Nat.zero_le _⟩ (fun H locs hI => ?_)
      have HE : M_bears S up ub = (M_bearsBy S3 up ((S3.2 up.toNatClampNeg).1), S3) := by subst eS3; exact (if_pos c1).trans ((if_neg c4))
      exact rt_i hx hb hr hlocks hI hA hQ ⟨by rw [HE], by rw [HE]⟩ (Nat.zero_le _) (Nat.zero_le _) dX4_bears_47

def M_against (S : MS) (uv : Int32) : Int32 :=
  if (S.1 12 (M_nextPiece S uv).toNatClampNeg) = 0 then
    1
  else
    if M_isWater S (M_nextPiece S uv) then
      if 0 ≤ (S.1 1 0) then
        if (S.1 12 (M_nextPiece S uv).toNatClampNeg) = 1 then
          if (M_weight S uv) ≤ 5000 then
            if (S.1 2 0) ≤ ((S.1 0 0) - (S.1 15 ((2 * (M_nextPiece S uv)) + (bI (¬ ((S.1 22 uv.toNatClampNeg) = 0)))).toNatClampNeg)) then
              if (S.1 4 (M_nextPiece S uv).toNatClampNeg) = 0 then
                let x50 := if ((M_weight S uv) + (M_weights S (M_nextPiece S uv))) ≤ (M_bearsBy S (M_nextPiece S uv) ((S.2 (M_nextPiece S uv).toNatClampNeg).1)) then 0 else 6
                x50
              else
                if (M_isMet S uv (M_nextPiece S uv)) = 0 then
                  let x54 := if ((M_weight S uv) + (M_weights S (M_nextPiece S uv))) ≤ (M_bearsBy S (M_nextPiece S uv) ((S.2 (M_nextPiece S uv).toNatClampNeg).1)) then 0 else 6
                  x54
                else
                  5
            else
              4
          else
            3
        else
          if (S.1 2 0) ≤ ((S.1 0 0) - (S.1 15 ((2 * (M_nextPiece S uv)) + (bI (¬ ((S.1 22 uv.toNatClampNeg) = 0)))).toNatClampNeg)) then
            if (S.1 4 (M_nextPiece S uv).toNatClampNeg) = 0 then
              let x36 := if ((M_weight S uv) + (M_weights S (M_nextPiece S uv))) ≤ (M_bearsBy S (M_nextPiece S uv) ((S.2 (M_nextPiece S uv).toNatClampNeg).1)) then 0 else 6
              x36
            else
              if (M_isMet S uv (M_nextPiece S uv)) = 0 then
                let x40 := if ((M_weight S uv) + (M_weights S (M_nextPiece S uv))) ≤ (M_bearsBy S (M_nextPiece S uv) ((S.2 (M_nextPiece S uv).toNatClampNeg).1)) then 0 else 6
                x40
              else
                5
          else
            4
      else
        if M_isIn S ((S.1 0 0) - (S.1 0 0) / 1440 * 1440) 480 1199 then
          2
        else
          if (S.1 12 (M_nextPiece S uv).toNatClampNeg) = 1 then
            if (M_weight S uv) ≤ 5000 then
              if (S.1 2 0) ≤ ((S.1 0 0) - (S.1 15 ((2 * (M_nextPiece S uv)) + (bI (¬ ((S.1 22 uv.toNatClampNeg) = 0)))).toNatClampNeg)) then
                if (S.1 4 (M_nextPiece S uv).toNatClampNeg) = 0 then
                  let x79 := if ((M_weight S uv) + (M_weights S (M_nextPiece S uv))) ≤ (M_bearsBy S (M_nextPiece S uv) ((S.2 (M_nextPiece S uv).toNatClampNeg).1)) then 0 else 6
                  x79
                else
                  if (M_isMet S uv (M_nextPiece S uv)) = 0 then
                    let x83 := if ((M_weight S uv) + (M_weights S (M_nextPiece S uv))) ≤ (M_bearsBy S (M_nextPiece S uv) ((S.2 (M_nextPiece S uv).toNatClampNeg).1)) then 0 else 6
                    x83
                  else
                    5
              else
                4
            else
              3
          else
            if (S.1 2 0) ≤ ((S.1 0 0) - (S.1 15 ((2 * (M_nextPiece S uv)) + (bI (¬ ((S.1 22 uv.toNatClampNeg) = 0)))).toNatClampNeg)) then
              if (S.1 4 (M_nextPiece S uv).toNatClampNeg) = 0 then
                let x65 := if ((M_weight S uv) + (M_weights S (M_nextPiece S uv))) ≤ (M_bearsBy S (M_nextPiece S uv) ((S.2 (M_nextPiece S uv).toNatClampNeg).1)) then 0 else 6
                x65
              else
                if (M_isMet S uv (M_nextPiece S uv)) = 0 then
                  let x69 := if ((M_weight S uv) + (M_weights S (M_nextPiece S uv))) ≤ (M_bearsBy S (M_nextPiece S uv) ((S.2 (M_nextPiece S uv).toNatClampNeg).1)) then 0 else 6
                  x69
                else
                  5
            else
              4
    else
      if (S.1 12 (M_nextPiece S uv).toNatClampNeg) = 1 then
        if (M_weight S uv) ≤ 5000 then
          if (S.1 2 0) ≤ ((S.1 0 0) - (S.1 15 ((2 * (M_nextPiece S uv)) + (bI (¬ ((S.1 22 uv.toNatClampNeg) = 0)))).toNatClampNeg)) then
            if (S.1 4 (M_nextPiece S uv).toNatClampNeg) = 0 then
              let x21 := if ((M_weight S uv) + (M_weights S (M_nextPiece S uv))) ≤ (M_bearsBy S (M_nextPiece S uv) ((S.2 (M_nextPiece S uv).toNatClampNeg).1)) then 0 else 6
              x21
            else
              if (M_isMet S uv (M_nextPiece S uv)) = 0 then
                let x25 := if ((M_weight S uv) + (M_weights S (M_nextPiece S uv))) ≤ (M_bearsBy S (M_nextPiece S uv) ((S.2 (M_nextPiece S uv).toNatClampNeg).1)) then 0 else 6
                x25
              else
                5
          else
            4
        else
          3
      else
        if (S.1 2 0) ≤ ((S.1 0 0) - (S.1 15 ((2 * (M_nextPiece S uv)) + (bI (¬ ((S.1 22 uv.toNatClampNeg) = 0)))).toNatClampNeg)) then
          if (S.1 4 (M_nextPiece S uv).toNatClampNeg) = 0 then
            let x7 := if ((M_weight S uv) + (M_weights S (M_nextPiece S uv))) ≤ (M_bearsBy S (M_nextPiece S uv) ((S.2 (M_nextPiece S uv).toNatClampNeg).1)) then 0 else 6
            x7
          else
            if (M_isMet S uv (M_nextPiece S uv)) = 0 then
              let x11 := if ((M_weight S uv) + (M_weights S (M_nextPiece S uv))) ≤ (M_bearsBy S (M_nextPiece S uv) ((S.2 (M_nextPiece S uv).toNatClampNeg).1)) then 0 else 6
              x11
            else
              5
        else
          4
set_option maxHeartbeats 4000000 in
set_option maxRecDepth 100000 in
theorem cM_against (G : GX) (ad : Nat → Nat) (S : MS) (uv : Int32) {np nv : Nat} (hv : vp_in uv 16) (hq : vp_in (M_nextPiece S uv) 10) (hN : MNn S np nv) : FC G yX4_against cX4_against 3 (some .int) ({ frames := 2, cells := 0, slots := 0, locals := 44 }) [.ref (ad 0), .int uv] (mW G.2.2.2 ad S) (pv (.int (M_against S uv)) (mW G.2.2.2 ad S)) := by
  refine FC.go (lv := [(0, .ref (ad 0)), (1, .int uv)]) (by decide) (Nat.le_of_ble_eq_true rfl) rfl (fun p e s m args below meth c A H locs ls Q hx hb hr hts hown hml hlocks hnm hK hE hI hA hl hQ => ?_)
  have hown : s.vm.findClass RX4 = some m.cls := hown
  refine lv_aload_n hx hb dX4_against_0 rfl (lv_at hl 0 rfl) ?_
  refine lv_iload_n hx hb dX4_against_1 rfl (lv_at hl 1 rfl) ?_
  refine cVv (rest := []) hx hb hml hts hown hK hE hI (cM_nextPiece G ad S uv hv) kM_164 ⟨Nat.le_of_ble_eq_true rfl, Nat.le_of_ble_eq_true rfl⟩ rfl rfl (kk := 4) (ii := 0) rfl rfl rfl hl.1 rfl (Nat.le_of_ble_eq_true rfl) dX4_against_2 ⟨Nat.zero_le _, Nat.zero_le _⟩ (fun H locs hI => ?_)
  refine lv_istore_n (lv' := [(2, .int (M_nextPiece S uv)), (0, .ref (ad 0)), (1, .int uv)]) hx hb dX4_against_5 rfl hl (by decide) rfl (fun ls hl => ?_)
  refine lv_aload_n hx hb dX4_against_6 rfl (lv_at hl 1 rfl) ?_
  refine gM_38 hx hb hts hown hK hI dX4_against_7 ?_
  refine lv_iload_n hx hb dX4_against_10 rfl (lv_at hl 0 rfl) ?_
  refine lM_12 hx hb hK hI hq dX4_against_11 ?_
  refine lv_if_ne (tgt := 17) hx hb dX4_against_12 (by decide) (fun c1 => ?_) (fun c1 => ?_)
  · refine lv_aload_n hx hb dX4_against_17 rfl (lv_at hl 1 rfl) ?_
    refine lv_iload_n hx hb dX4_against_18 rfl (lv_at hl 0 rfl) ?_
    refine cVv (rest := []) hx hb hml hts hown hK hE hI (cM_isWater G ad S (M_nextPiece S uv) hq) kM_112 ⟨Nat.le_of_ble_eq_true rfl, Nat.le_of_ble_eq_true rfl⟩ rfl rfl (kk := 4) (ii := 0) rfl rfl rfl hl.1 rfl (Nat.le_of_ble_eq_true rfl) dX4_against_19 ⟨Nat.zero_le _, Nat.zero_le _⟩ (fun H locs hI => ?_)
    refine xb_eq (tgt := 54) hx hb dX4_against_22 (by decide) (fun c2 => ?_) (fun c2 => ?_)
    · refine lv_aload_n hx hb dX4_against_54 rfl (lv_at hl 1 rfl) ?_
      refine gM_38 hx hb hts hown hK hI dX4_against_55 ?_
      refine lv_iload_n hx hb dX4_against_58 rfl (lv_at hl 0 rfl) ?_
      refine lM_12 hx hb hK hI hq dX4_against_59 ?_
      refine lv_iconst (v := 1) hx hb dX4_against_60 (by decide) ?_
      refine lv_icmp_ne (tgt := 77) hx hb dX4_against_61 (by decide) (fun c3 => ?_) (fun c3 => ?_)
      · refine lv_aload_n hx hb dX4_against_77 rfl (lv_at hl 1 rfl) ?_
        refine gM_167 hx hb hts hown hK hI dX4_against_78 ?_
        refine lv_aload_n hx hb dX4_against_81 rfl (lv_at hl 1 rfl) ?_
        refine gM_48 hx hb hts hown hK hI dX4_against_82 ?_
        refine lv_iconst (v := 2) hx hb dX4_against_85 (by decide) ?_
        refine lv_iload_n hx hb dX4_against_86 rfl (lv_at hl 0 rfl) ?_
        refine lv_imul hx hb dX4_against_87 ?_
        refine lv_aload_n hx hb dX4_against_88 rfl (lv_at hl 1 rfl) ?_
        refine gM_66 hx hb hts hown hK hI dX4_against_89 ?_
        refine lv_iload_n hx hb dX4_against_92 rfl (lv_at hl 2 rfl) ?_
        refine lM_22 hx hb hK hI hv dX4_against_93 ?_
        have hJ4 : W p G.1 e ({ frames := 2, cells := 0, slots := 0, locals := 44 }) s m args below meth c H locs 0 0 Q (F0 m 102 ls [.int (bI (¬ ((S.1 22 uv.toNatClampNeg) = 0))), .int (2 * (M_nextPiece S uv)), .ref (ad 15), .int (S.1 0 0)]) := by
          refine lv_iadd hx hb dX4_against_102 ?_
          refine lM_15 hx hb hK hI (came_inb hq) dX4_against_103 ?_
          refine lv_isub hx hb dX4_against_104 ?_
          refine lv_aload_n hx hb dX4_against_105 rfl (lv_at hl 1 rfl) ?_
          refine gM_7 hx hb hts hown hK hI dX4_against_106 ?_
          refine lv_icmp_ge (tgt := 114) hx hb dX4_against_109 (by decide) (fun c5 => ?_) (fun c5 => ?_)
          · refine lv_aload_n hx hb dX4_against_114 rfl (lv_at hl 1 rfl) ?_
            refine gM_13 hx hb hts hown hK hI dX4_against_115 ?_
            refine lv_iload_n hx hb dX4_against_118 rfl (lv_at hl 0 rfl) ?_
            refine lM_4 hx hb hK hI hq dX4_against_119 ?_
            refine lv_if_eq (tgt := 134) hx hb dX4_against_120 (by decide) (fun c6 => ?_) (fun c6 => ?_)
            · refine lv_aload_n hx hb dX4_against_134 rfl (lv_at hl 1 rfl) ?_
              refine lv_iload_n hx hb dX4_against_135 rfl (lv_at hl 2 rfl) ?_
              refine cVv (rest := []) hx hb hml hts hown hK hE hI (cM_weight G ad S uv hv) kM_129 ⟨Nat.le_of_ble_eq_true rfl, Nat.le_of_ble_eq_true rfl⟩ rfl rfl (kk := 4) (ii := 0) rfl rfl rfl hl.1 rfl (Nat.le_of_ble_eq_true rfl) dX4_against_136 ⟨Nat.zero_le _, Nat.zero_le _⟩ (fun H locs hI => ?_)
              refine lv_aload_n hx hb dX4_against_139 rfl (lv_at hl 1 rfl) ?_
              refine lv_iload_n hx hb dX4_against_140 rfl (lv_at hl 0 rfl) ?_
              refine cVv (rest := [.int (M_weight S uv)]) hx hb hml hts hown hK hE hI (cM_weights G ad S (M_nextPiece S uv) hN) kM_174 ⟨Nat.le_of_ble_eq_true rfl, Nat.le_of_ble_eq_true rfl⟩ rfl rfl (kk := 4) (ii := 0) rfl rfl rfl hl.1 rfl (Nat.le_of_ble_eq_true rfl) dX4_against_141 ⟨Nat.zero_le _, Nat.zero_le _⟩ (fun H locs hI => ?_)
              refine lv_iadd hx hb dX4_against_144 ?_
              refine lv_aload_n hx hb dX4_against_145 rfl (lv_at hl 1 rfl) ?_
              refine lv_iload_n hx hb dX4_against_146 rfl (lv_at hl 0 rfl) ?_
              refine lv_aload_n hx hb dX4_against_147 rfl (lv_at hl 1 rfl) ?_
              refine gM_44 hx hb hts hown hK hI dX4_against_148 ?_
              refine lv_iload_n hx hb dX4_against_151 rfl (lv_at hl 0 rfl) ?_
              refine lM_14 hx hb hK hI hq dX4_against_152 ?_
              refine cVv (rest := [.int ((M_weight S uv) + (M_weights S (M_nextPiece S uv)))]) hx hb hml hts hown hK hE hI (cM_bearsBy G ad S (M_nextPiece S uv) ((S.2 (M_nextPiece S uv).toNatClampNeg).1) hq ((S.2 (M_nextPiece S uv).toNatClampNeg).2)) kM_177 ⟨Nat.le_of_ble_eq_true rfl, Nat.le_of_ble_eq_true rfl⟩ rfl rfl (kk := 4) (ii := 0) rfl rfl rfl hl.1 rfl (Nat.le_of_ble_eq_true rfl) dX4_against_153 ⟨Nat.zero_le _, Nat.zero_le _⟩ (fun H locs hI => ?_)
              have hJ8 : ∀ (x7 : Int32), (x7 = if ((M_weight S uv) + (M_weights S (M_nextPiece S uv))) ≤ (M_bearsBy S (M_nextPiece S uv) ((S.2 (M_nextPiece S uv).toNatClampNeg).1)) then 0 else 6) → W p G.1 e ({ frames := 2, cells := 0, slots := 0, locals := 44 }) s m args below meth c H locs 0 0 Q (F0 m 165 ls [.int x7]) := by
                intro x7 ex7
                have HE : M_against S uv = x7 := by subst ex7; exact (if_neg c1).trans ((if_neg c2).trans ((if_neg c3).trans ((if_pos c5).trans ((if_pos c6)))))
                exact rt_i hx hb hr hlocks hI hA hQ ⟨by rw [HE], rfl⟩ (Nat.zero_le _) (Nat.zero_le _) dX4_against_165
              refine lv_icmp_le (tgt := 164) hx hb dX4_against_156 (by decide) (fun c9 => ?_) (fun c9 => ?_)
              · refine lv_iconst (v := 0) hx hb dX4_against_164 (by decide) ?_
                exact hJ8 0 (by exact (if_pos c9).symm)
              · refine lv_bipush (v := 6) hx hb dX4_against_159 (by decide) ?_
                refine lv_goto (tgt := 165) hx hb dX4_against_161 (by decide) ?_
                exact hJ8 6 (by exact (if_neg c9).symm)
            · refine lv_aload_n hx hb dX4_against_123 rfl (lv_at hl 1 rfl) ?_
              refine lv_iload_n hx hb dX4_against_124 rfl (lv_at hl 2 rfl) ?_
              refine lv_iload_n hx hb dX4_against_125 rfl (lv_at hl 0 rfl) ?_
              refine cVv (rest := []) hx hb hml hts hown hK hE hI (cM_isMet G ad S uv (M_nextPiece S uv) hv hN) kM_170 ⟨Nat.le_of_ble_eq_true rfl, Nat.le_of_ble_eq_true rfl⟩ rfl rfl (kk := 4) (ii := 0) rfl rfl rfl hl.1 rfl (Nat.le_of_ble_eq_true rfl) dX4_against_126 ⟨Nat.zero_le _, Nat.zero_le _⟩ (fun H locs hI => ?_)
              refine lv_if_eq (tgt := 134) hx hb dX4_against_129 (by decide) (fun c10 => ?_) (fun c10 => ?_)
              · refine lv_aload_n hx hb dX4_against_134 rfl (lv_at hl 1 rfl) ?_
                refine lv_iload_n hx hb dX4_against_135 rfl (lv_at hl 2 rfl) ?_
                refine cVv (rest := []) hx hb hml hts hown hK hE hI (cM_weight G ad S uv hv) kM_129 ⟨Nat.le_of_ble_eq_true rfl, Nat.le_of_ble_eq_true rfl⟩ rfl rfl (kk := 4) (ii := 0) rfl rfl rfl hl.1 rfl (Nat.le_of_ble_eq_true rfl) dX4_against_136 ⟨Nat.zero_le _, Nat.zero_le _⟩ (fun H locs hI => ?_)
                refine lv_aload_n hx hb dX4_against_139 rfl (lv_at hl 1 rfl) ?_
                refine lv_iload_n hx hb dX4_against_140 rfl (lv_at hl 0 rfl) ?_
                refine cVv (rest := [.int (M_weight S uv)]) hx hb hml hts hown hK hE hI (cM_weights G ad S (M_nextPiece S uv) hN) kM_174 ⟨Nat.le_of_ble_eq_true rfl, Nat.le_of_ble_eq_true rfl⟩ rfl rfl (kk := 4) (ii := 0) rfl rfl rfl hl.1 rfl (Nat.le_of_ble_eq_true rfl) dX4_against_141 ⟨Nat.zero_le _, Nat.zero_le _⟩ (fun H locs hI => ?_)
                refine lv_iadd hx hb dX4_against_144 ?_
                refine lv_aload_n hx hb dX4_against_145 rfl (lv_at hl 1 rfl) ?_
                refine lv_iload_n hx hb dX4_against_146 rfl (lv_at hl 0 rfl) ?_
                refine lv_aload_n hx hb dX4_against_147 rfl (lv_at hl 1 rfl) ?_
                refine gM_44 hx hb hts hown hK hI dX4_against_148 ?_
                refine lv_iload_n hx hb dX4_against_151 rfl (lv_at hl 0 rfl) ?_
                refine lM_14 hx hb hK hI hq dX4_against_152 ?_
                refine cVv (rest := [.int ((M_weight S uv) + (M_weights S (M_nextPiece S uv)))]) hx hb hml hts hown hK hE hI (cM_bearsBy G ad S (M_nextPiece S uv) ((S.2 (M_nextPiece S uv).toNatClampNeg).1) hq ((S.2 (M_nextPiece S uv).toNatClampNeg).2)) kM_177 ⟨Nat.le_of_ble_eq_true rfl, Nat.le_of_ble_eq_true rfl⟩ rfl rfl (kk := 4) (ii := 0) rfl rfl rfl hl.1 rfl (Nat.le_of_ble_eq_true rfl) dX4_against_153 ⟨Nat.zero_le _, Nat.zero_le _⟩ (fun H locs hI => ?_)
                have hJ12 : ∀ (x11 : Int32), (x11 = if ((M_weight S uv) + (M_weights S (M_nextPiece S uv))) ≤ (M_bearsBy S (M_nextPiece S uv) ((S.2 (M_nextPiece S uv).toNatClampNeg).1)) then 0 else 6) → W p G.1 e ({ frames := 2, cells := 0, slots := 0, locals := 44 }) s m args below meth c H locs 0 0 Q (F0 m 165 ls [.int x11]) := by
                  intro x11 ex11
                  have HE : M_against S uv = x11 := by subst ex11; exact (if_neg c1).trans ((if_neg c2).trans ((if_neg c3).trans ((if_pos c5).trans ((if_neg c6).trans ((if_pos c10))))))
                  exact rt_i hx hb hr hlocks hI hA hQ ⟨by rw [HE], rfl⟩ (Nat.zero_le _) (Nat.zero_le _) dX4_against_165
                refine lv_icmp_le (tgt := 164) hx hb dX4_against_156 (by decide) (fun c13 => ?_) (fun c13 => ?_)
                · refine lv_iconst (v := 0) hx hb dX4_against_164 (by decide) ?_
                  exact hJ12 0 (by exact (if_pos c13).symm)
                · refine lv_bipush (v := 6) hx hb dX4_against_159 (by decide) ?_
                  refine lv_goto (tgt := 165) hx hb dX4_against_161 (by decide) ?_
                  exact hJ12 6 (by exact (if_neg c13).symm)
              · refine lv_iconst (v := 5) hx hb dX4_against_132 (by decide) ?_
                have HE : M_against S uv = 5 := by exact (if_neg c1).trans ((if_neg c2).trans ((if_neg c3).trans ((if_pos c5).trans ((if_neg c6).trans ((if_neg c10))))))
                exact rt_i hx hb hr hlocks hI hA hQ ⟨by rw [HE], rfl⟩ (Nat.zero_le _) (Nat.zero_le _) dX4_against_133
          · refine lv_iconst (v := 4) hx hb dX4_against_112 (by decide) ?_
            have HE : M_against S uv = 4 := by exact (if_neg c1).trans ((if_neg c2).trans ((if_neg c3).trans ((if_neg c5))))
            exact rt_i hx hb hr hlocks hI hA hQ ⟨by rw [HE], rfl⟩ (Nat.zero_le _) (Nat.zero_le _) dX4_against_113
        refine lv_if_eq (tgt := 101) hx hb dX4_against_94 (by decide) (fun c14 => ?_) (fun c14 => ?_)
        · refine lv_iconst (v := 0) hx hb dX4_against_101 (by decide) ?_
          have eb15 : (0 : Int32) = bI (¬ ((S.1 22 uv.toNatClampNeg) = 0)) := (bI_f (fun k => k c14)).symm
          rw [eb15]
          exact hJ4
        · refine lv_iconst (v := 1) hx hb dX4_against_97 (by decide) ?_
          refine lv_goto (tgt := 102) hx hb dX4_against_98 (by decide) ?_
          have eb16 : (1 : Int32) = bI (¬ ((S.1 22 uv.toNatClampNeg) = 0)) := (bI_t c14).symm
          rw [eb16]
          exact hJ4
      · refine lv_aload_n hx hb dX4_against_64 rfl (lv_at hl 1 rfl) ?_
        refine lv_iload_n hx hb dX4_against_65 rfl (lv_at hl 2 rfl) ?_
        refine cVv (rest := []) hx hb hml hts hown hK hE hI (cM_weight G ad S uv hv) kM_129 ⟨Nat.le_of_ble_eq_true rfl, Nat.le_of_ble_eq_true rfl⟩ rfl rfl (kk := 4) (ii := 0) rfl rfl rfl hl.1 rfl (Nat.le_of_ble_eq_true rfl) dX4_against_66 ⟨Nat.zero_le _, Nat.zero_le _⟩ (fun H locs hI => ?_)
        refine lv_sipush (v := 5000) hx hb dX4_against_69 (by decide) ?_
        refine lv_icmp_le (tgt := 77) hx hb dX4_against_72 (by decide) (fun c17 => ?_) (fun c17 => ?_)
        · refine lv_aload_n hx hb dX4_against_77 rfl (lv_at hl 1 rfl) ?_
          refine gM_167 hx hb hts hown hK hI dX4_against_78 ?_
          refine lv_aload_n hx hb dX4_against_81 rfl (lv_at hl 1 rfl) ?_
          refine gM_48 hx hb hts hown hK hI dX4_against_82 ?_
          refine lv_iconst (v := 2) hx hb dX4_against_85 (by decide) ?_
          refine lv_iload_n hx hb dX4_against_86 rfl (lv_at hl 0 rfl) ?_
          refine lv_imul hx hb dX4_against_87 ?_
          refine lv_aload_n hx hb dX4_against_88 rfl (lv_at hl 1 rfl) ?_
          refine gM_66 hx hb hts hown hK hI dX4_against_89 ?_
          refine lv_iload_n hx hb dX4_against_92 rfl (lv_at hl 2 rfl) ?_
          refine lM_22 hx hb hK hI hv dX4_against_93 ?_
          have hJ18 : W p G.1 e ({ frames := 2, cells := 0, slots := 0, locals := 44 }) s m args below meth c H locs 0 0 Q (F0 m 102 ls [.int (bI (¬ ((S.1 22 uv.toNatClampNeg) = 0))), .int (2 * (M_nextPiece S uv)), .ref (ad 15), .int (S.1 0 0)]) := by
            refine lv_iadd hx hb dX4_against_102 ?_
            refine lM_15 hx hb hK hI (came_inb hq) dX4_against_103 ?_
            refine lv_isub hx hb dX4_against_104 ?_
            refine lv_aload_n hx hb dX4_against_105 rfl (lv_at hl 1 rfl) ?_
            refine gM_7 hx hb hts hown hK hI dX4_against_106 ?_
            refine lv_icmp_ge (tgt := 114) hx hb dX4_against_109 (by decide) (fun c19 => ?_) (fun c19 => ?_)
            · refine lv_aload_n hx hb dX4_against_114 rfl (lv_at hl 1 rfl) ?_
              refine gM_13 hx hb hts hown hK hI dX4_against_115 ?_
              refine lv_iload_n hx hb dX4_against_118 rfl (lv_at hl 0 rfl) ?_
              refine lM_4 hx hb hK hI hq dX4_against_119 ?_
              refine lv_if_eq (tgt := 134) hx hb dX4_against_120 (by decide) (fun c20 => ?_) (fun c20 => ?_)
              · refine lv_aload_n hx hb dX4_against_134 rfl (lv_at hl 1 rfl) ?_
                refine lv_iload_n hx hb dX4_against_135 rfl (lv_at hl 2 rfl) ?_
                refine cVv (rest := []) hx hb hml hts hown hK hE hI (cM_weight G ad S uv hv) kM_129 ⟨Nat.le_of_ble_eq_true rfl, Nat.le_of_ble_eq_true rfl⟩ rfl rfl (kk := 4) (ii := 0) rfl rfl rfl hl.1 rfl (Nat.le_of_ble_eq_true rfl) dX4_against_136 ⟨Nat.zero_le _, Nat.zero_le _⟩ (fun H locs hI => ?_)
                refine lv_aload_n hx hb dX4_against_139 rfl (lv_at hl 1 rfl) ?_
                refine lv_iload_n hx hb dX4_against_140 rfl (lv_at hl 0 rfl) ?_
                refine cVv (rest := [.int (M_weight S uv)]) hx hb hml hts hown hK hE hI (cM_weights G ad S (M_nextPiece S uv) hN) kM_174 ⟨Nat.le_of_ble_eq_true rfl, Nat.le_of_ble_eq_true rfl⟩ rfl rfl (kk := 4) (ii := 0) rfl rfl rfl hl.1 rfl (Nat.le_of_ble_eq_true rfl) dX4_against_141 ⟨Nat.zero_le _, Nat.zero_le _⟩ (fun H locs hI => ?_)
                refine lv_iadd hx hb dX4_against_144 ?_
                refine lv_aload_n hx hb dX4_against_145 rfl (lv_at hl 1 rfl) ?_
                refine lv_iload_n hx hb dX4_against_146 rfl (lv_at hl 0 rfl) ?_
                refine lv_aload_n hx hb dX4_against_147 rfl (lv_at hl 1 rfl) ?_
                refine gM_44 hx hb hts hown hK hI dX4_against_148 ?_
                refine lv_iload_n hx hb dX4_against_151 rfl (lv_at hl 0 rfl) ?_
                refine lM_14 hx hb hK hI hq dX4_against_152 ?_
                refine cVv (rest := [.int ((M_weight S uv) + (M_weights S (M_nextPiece S uv)))]) hx hb hml hts hown hK hE hI (cM_bearsBy G ad S (M_nextPiece S uv) ((S.2 (M_nextPiece S uv).toNatClampNeg).1) hq ((S.2 (M_nextPiece S uv).toNatClampNeg).2)) kM_177 ⟨Nat.le_of_ble_eq_true rfl, Nat.le_of_ble_eq_true rfl⟩ rfl rfl (kk := 4) (ii := 0) rfl rfl rfl hl.1 rfl (Nat.le_of_ble_eq_true rfl) dX4_against_153 ⟨Nat.zero_le _, Nat.zero_le _⟩ (fun H locs hI => ?_)
                have hJ22 : ∀ (x21 : Int32), (x21 = if ((M_weight S uv) + (M_weights S (M_nextPiece S uv))) ≤ (M_bearsBy S (M_nextPiece S uv) ((S.2 (M_nextPiece S uv).toNatClampNeg).1)) then 0 else 6) → W p G.1 e ({ frames := 2, cells := 0, slots := 0, locals := 44 }) s m args below meth c H locs 0 0 Q (F0 m 165 ls [.int x21]) := by
                  intro x21 ex21
                  have HE : M_against S uv = x21 := by subst ex21; exact (if_neg c1).trans ((if_neg c2).trans ((if_pos c3).trans ((if_pos c17).trans ((if_pos c19).trans ((if_pos c20))))))
                  exact rt_i hx hb hr hlocks hI hA hQ ⟨by rw [HE], rfl⟩ (Nat.zero_le _) (Nat.zero_le _) dX4_against_165
                refine lv_icmp_le (tgt := 164) hx hb dX4_against_156 (by decide) (fun c23 => ?_) (fun c23 => ?_)
                · refine lv_iconst (v := 0) hx hb dX4_against_164 (by decide) ?_
                  exact hJ22 0 (by exact (if_pos c23).symm)
                · refine lv_bipush (v := 6) hx hb dX4_against_159 (by decide) ?_
                  refine lv_goto (tgt := 165) hx hb dX4_against_161 (by decide) ?_
                  exact hJ22 6 (by exact (if_neg c23).symm)
              · refine lv_aload_n hx hb dX4_against_123 rfl (lv_at hl 1 rfl) ?_
                refine lv_iload_n hx hb dX4_against_124 rfl (lv_at hl 2 rfl) ?_
                refine lv_iload_n hx hb dX4_against_125 rfl (lv_at hl 0 rfl) ?_
                refine cVv (rest := []) hx hb hml hts hown hK hE hI (cM_isMet G ad S uv (M_nextPiece S uv) hv hN) kM_170 ⟨Nat.le_of_ble_eq_true rfl, Nat.le_of_ble_eq_true rfl⟩ rfl rfl (kk := 4) (ii := 0) rfl rfl rfl hl.1 rfl (Nat.le_of_ble_eq_true rfl) dX4_against_126 ⟨Nat.zero_le _, Nat.zero_le _⟩ (fun H locs hI => ?_)
                refine lv_if_eq (tgt := 134) hx hb dX4_against_129 (by decide) (fun c24 => ?_) (fun c24 => ?_)
                · refine lv_aload_n hx hb dX4_against_134 rfl (lv_at hl 1 rfl) ?_
                  refine lv_iload_n hx hb dX4_against_135 rfl (lv_at hl 2 rfl) ?_
                  refine cVv (rest := []) hx hb hml hts hown hK hE hI (cM_weight G ad S uv hv) kM_129 ⟨Nat.le_of_ble_eq_true rfl, Nat.le_of_ble_eq_true rfl⟩ rfl rfl (kk := 4) (ii := 0) rfl rfl rfl hl.1 rfl (Nat.le_of_ble_eq_true rfl) dX4_against_136 ⟨Nat.zero_le _, Nat.zero_le _⟩ (fun H locs hI => ?_)
                  refine lv_aload_n hx hb dX4_against_139 rfl (lv_at hl 1 rfl) ?_
                  refine lv_iload_n hx hb dX4_against_140 rfl (lv_at hl 0 rfl) ?_
                  refine cVv (rest := [.int (M_weight S uv)]) hx hb hml hts hown hK hE hI (cM_weights G ad S (M_nextPiece S uv) hN) kM_174 ⟨Nat.le_of_ble_eq_true rfl, Nat.le_of_ble_eq_true rfl⟩ rfl rfl (kk := 4) (ii := 0) rfl rfl rfl hl.1 rfl (Nat.le_of_ble_eq_true rfl) dX4_against_141 ⟨Nat.zero_le _, Nat.zero_le _⟩ (fun H locs hI => ?_)
                  refine lv_iadd hx hb dX4_against_144 ?_
                  refine lv_aload_n hx hb dX4_against_145 rfl (lv_at hl 1 rfl) ?_
                  refine lv_iload_n hx hb dX4_against_146 rfl (lv_at hl 0 rfl) ?_
                  refine lv_aload_n hx hb dX4_against_147 rfl (lv_at hl 1 rfl) ?_
                  refine gM_44 hx hb hts hown hK hI dX4_against_148 ?_
                  refine lv_iload_n hx hb dX4_against_151 rfl (lv_at hl 0 rfl) ?_
                  refine lM_14 hx hb hK hI hq dX4_against_152 ?_
                  refine cVv (rest := [.int ((M_weight S uv) + (M_weights S (M_nextPiece S uv)))]) hx hb hml hts hown hK hE hI (cM_bearsBy G ad S (M_nextPiece S uv) ((S.2 (M_nextPiece S uv).toNatClampNeg).1) hq ((S.2 (M_nextPiece S uv).toNatClampNeg).2)) kM_177 ⟨Nat.le_of_ble_eq_true rfl, Nat.le_of_ble_eq_true rfl⟩ rfl rfl (kk := 4) (ii := 0) rfl rfl rfl hl.1 rfl (Nat.le_of_ble_eq_true rfl) dX4_against_153 ⟨Nat.zero_le _, Nat.zero_le _⟩ (fun H locs hI => ?_)
                  have hJ26 : ∀ (x25 : Int32), (x25 = if ((M_weight S uv) + (M_weights S (M_nextPiece S uv))) ≤ (M_bearsBy S (M_nextPiece S uv) ((S.2 (M_nextPiece S uv).toNatClampNeg).1)) then 0 else 6) → W p G.1 e ({ frames := 2, cells := 0, slots := 0, locals := 44 }) s m args below meth c H locs 0 0 Q (F0 m 165 ls [.int x25]) := by
                    intro x25 ex25
                    have HE : M_against S uv = x25 := by subst ex25; exact (if_neg c1).trans ((if_neg c2).trans ((if_pos c3).trans ((if_pos c17).trans ((if_pos c19).trans ((if_neg c20).trans ((if_pos c24)))))))
                    exact rt_i hx hb hr hlocks hI hA hQ ⟨by rw [HE], rfl⟩ (Nat.zero_le _) (Nat.zero_le _) dX4_against_165
                  refine lv_icmp_le (tgt := 164) hx hb dX4_against_156 (by decide) (fun c27 => ?_) (fun c27 => ?_)
                  · refine lv_iconst (v := 0) hx hb dX4_against_164 (by decide) ?_
                    exact hJ26 0 (by exact (if_pos c27).symm)
                  · refine lv_bipush (v := 6) hx hb dX4_against_159 (by decide) ?_
                    refine lv_goto (tgt := 165) hx hb dX4_against_161 (by decide) ?_
                    exact hJ26 6 (by exact (if_neg c27).symm)
                · refine lv_iconst (v := 5) hx hb dX4_against_132 (by decide) ?_
                  have HE : M_against S uv = 5 := by exact (if_neg c1).trans ((if_neg c2).trans ((if_pos c3).trans ((if_pos c17).trans ((if_pos c19).trans ((if_neg c20).trans ((if_neg c24)))))))
                  exact rt_i hx hb hr hlocks hI hA hQ ⟨by rw [HE], rfl⟩ (Nat.zero_le _) (Nat.zero_le _) dX4_against_133
            · refine lv_iconst (v := 4) hx hb dX4_against_112 (by decide) ?_
              have HE : M_against S uv = 4 := by exact (if_neg c1).trans ((if_neg c2).trans ((if_pos c3).trans ((if_pos c17).trans ((if_neg c19)))))
              exact rt_i hx hb hr hlocks hI hA hQ ⟨by rw [HE], rfl⟩ (Nat.zero_le _) (Nat.zero_le _) dX4_against_113
          refine lv_if_eq (tgt := 101) hx hb dX4_against_94 (by decide) (fun c28 => ?_) (fun c28 => ?_)
          · refine lv_iconst (v := 0) hx hb dX4_against_101 (by decide) ?_
            have eb29 : (0 : Int32) = bI (¬ ((S.1 22 uv.toNatClampNeg) = 0)) := (bI_f (fun k => k c28)).symm
            rw [eb29]
            exact hJ18
          · refine lv_iconst (v := 1) hx hb dX4_against_97 (by decide) ?_
            refine lv_goto (tgt := 102) hx hb dX4_against_98 (by decide) ?_
            have eb30 : (1 : Int32) = bI (¬ ((S.1 22 uv.toNatClampNeg) = 0)) := (bI_t c28).symm
            rw [eb30]
            exact hJ18
        · refine lv_iconst (v := 3) hx hb dX4_against_75 (by decide) ?_
          have HE : M_against S uv = 3 := by exact (if_neg c1).trans ((if_neg c2).trans ((if_pos c3).trans ((if_neg c17))))
          exact rt_i hx hb hr hlocks hI hA hQ ⟨by rw [HE], rfl⟩ (Nat.zero_le _) (Nat.zero_le _) dX4_against_76
    · refine lv_aload_n hx hb dX4_against_25 rfl (lv_at hl 1 rfl) ?_
      refine gM_106 hx hb hts hown hK hI dX4_against_26 ?_
      refine lv_if_ge (tgt := 54) hx hb dX4_against_29 (by decide) (fun c31 => ?_) (fun c31 => ?_)
      · refine lv_aload_n hx hb dX4_against_54 rfl (lv_at hl 1 rfl) ?_
        refine gM_38 hx hb hts hown hK hI dX4_against_55 ?_
        refine lv_iload_n hx hb dX4_against_58 rfl (lv_at hl 0 rfl) ?_
        refine lM_12 hx hb hK hI hq dX4_against_59 ?_
        refine lv_iconst (v := 1) hx hb dX4_against_60 (by decide) ?_
        refine lv_icmp_ne (tgt := 77) hx hb dX4_against_61 (by decide) (fun c32 => ?_) (fun c32 => ?_)
        · refine lv_aload_n hx hb dX4_against_77 rfl (lv_at hl 1 rfl) ?_
          refine gM_167 hx hb hts hown hK hI dX4_against_78 ?_
          refine lv_aload_n hx hb dX4_against_81 rfl (lv_at hl 1 rfl) ?_
          refine gM_48 hx hb hts hown hK hI dX4_against_82 ?_
          refine lv_iconst (v := 2) hx hb dX4_against_85 (by decide) ?_
          refine lv_iload_n hx hb dX4_against_86 rfl (lv_at hl 0 rfl) ?_
          refine lv_imul hx hb dX4_against_87 ?_
          refine lv_aload_n hx hb dX4_against_88 rfl (lv_at hl 1 rfl) ?_
          refine gM_66 hx hb hts hown hK hI dX4_against_89 ?_
          refine lv_iload_n hx hb dX4_against_92 rfl (lv_at hl 2 rfl) ?_
          refine lM_22 hx hb hK hI hv dX4_against_93 ?_
          have hJ33 : W p G.1 e ({ frames := 2, cells := 0, slots := 0, locals := 44 }) s m args below meth c H locs 0 0 Q (F0 m 102 ls [.int (bI (¬ ((S.1 22 uv.toNatClampNeg) = 0))), .int (2 * (M_nextPiece S uv)), .ref (ad 15), .int (S.1 0 0)]) := by
            refine lv_iadd hx hb dX4_against_102 ?_
            refine lM_15 hx hb hK hI (came_inb hq) dX4_against_103 ?_
            refine lv_isub hx hb dX4_against_104 ?_
            refine lv_aload_n hx hb dX4_against_105 rfl (lv_at hl 1 rfl) ?_
            refine gM_7 hx hb hts hown hK hI dX4_against_106 ?_
            refine lv_icmp_ge (tgt := 114) hx hb dX4_against_109 (by decide) (fun c34 => ?_) (fun c34 => ?_)
            · refine lv_aload_n hx hb dX4_against_114 rfl (lv_at hl 1 rfl) ?_
              refine gM_13 hx hb hts hown hK hI dX4_against_115 ?_
              refine lv_iload_n hx hb dX4_against_118 rfl (lv_at hl 0 rfl) ?_
              refine lM_4 hx hb hK hI hq dX4_against_119 ?_
              refine lv_if_eq (tgt := 134) hx hb dX4_against_120 (by decide) (fun c35 => ?_) (fun c35 => ?_)
              · refine lv_aload_n hx hb dX4_against_134 rfl (lv_at hl 1 rfl) ?_
                refine lv_iload_n hx hb dX4_against_135 rfl (lv_at hl 2 rfl) ?_
                refine cVv (rest := []) hx hb hml hts hown hK hE hI (cM_weight G ad S uv hv) kM_129 ⟨Nat.le_of_ble_eq_true rfl, Nat.le_of_ble_eq_true rfl⟩ rfl rfl (kk := 4) (ii := 0) rfl rfl rfl hl.1 rfl (Nat.le_of_ble_eq_true rfl) dX4_against_136 ⟨Nat.zero_le _, Nat.zero_le _⟩ (fun H locs hI => ?_)
                refine lv_aload_n hx hb dX4_against_139 rfl (lv_at hl 1 rfl) ?_
                refine lv_iload_n hx hb dX4_against_140 rfl (lv_at hl 0 rfl) ?_
                refine cVv (rest := [.int (M_weight S uv)]) hx hb hml hts hown hK hE hI (cM_weights G ad S (M_nextPiece S uv) hN) kM_174 ⟨Nat.le_of_ble_eq_true rfl, Nat.le_of_ble_eq_true rfl⟩ rfl rfl (kk := 4) (ii := 0) rfl rfl rfl hl.1 rfl (Nat.le_of_ble_eq_true rfl) dX4_against_141 ⟨Nat.zero_le _, Nat.zero_le _⟩ (fun H locs hI => ?_)
                refine lv_iadd hx hb dX4_against_144 ?_
                refine lv_aload_n hx hb dX4_against_145 rfl (lv_at hl 1 rfl) ?_
                refine lv_iload_n hx hb dX4_against_146 rfl (lv_at hl 0 rfl) ?_
                refine lv_aload_n hx hb dX4_against_147 rfl (lv_at hl 1 rfl) ?_
                refine gM_44 hx hb hts hown hK hI dX4_against_148 ?_
                refine lv_iload_n hx hb dX4_against_151 rfl (lv_at hl 0 rfl) ?_
                refine lM_14 hx hb hK hI hq dX4_against_152 ?_
                refine cVv (rest := [.int ((M_weight S uv) + (M_weights S (M_nextPiece S uv)))]) hx hb hml hts hown hK hE hI (cM_bearsBy G ad S (M_nextPiece S uv) ((S.2 (M_nextPiece S uv).toNatClampNeg).1) hq ((S.2 (M_nextPiece S uv).toNatClampNeg).2)) kM_177 ⟨Nat.le_of_ble_eq_true rfl, Nat.le_of_ble_eq_true rfl⟩ rfl rfl (kk := 4) (ii := 0) rfl rfl rfl hl.1 rfl (Nat.le_of_ble_eq_true rfl) dX4_against_153 ⟨Nat.zero_le _, Nat.zero_le _⟩ (fun H locs hI => ?_)
                have hJ37 : ∀ (x36 : Int32), (x36 = if ((M_weight S uv) + (M_weights S (M_nextPiece S uv))) ≤ (M_bearsBy S (M_nextPiece S uv) ((S.2 (M_nextPiece S uv).toNatClampNeg).1)) then 0 else 6) → W p G.1 e ({ frames := 2, cells := 0, slots := 0, locals := 44 }) s m args below meth c H locs 0 0 Q (F0 m 165 ls [.int x36]) := by
                  intro x36 ex36
                  have HE : M_against S uv = x36 := by subst ex36; exact (if_neg c1).trans ((if_pos c2).trans ((if_pos c31).trans ((if_neg c32).trans ((if_pos c34).trans ((if_pos c35))))))
                  exact rt_i hx hb hr hlocks hI hA hQ ⟨by rw [HE], rfl⟩ (Nat.zero_le _) (Nat.zero_le _) dX4_against_165
                refine lv_icmp_le (tgt := 164) hx hb dX4_against_156 (by decide) (fun c38 => ?_) (fun c38 => ?_)
                · refine lv_iconst (v := 0) hx hb dX4_against_164 (by decide) ?_
                  exact hJ37 0 (by exact (if_pos c38).symm)
                · refine lv_bipush (v := 6) hx hb dX4_against_159 (by decide) ?_
                  refine lv_goto (tgt := 165) hx hb dX4_against_161 (by decide) ?_
                  exact hJ37 6 (by exact (if_neg c38).symm)
              · refine lv_aload_n hx hb dX4_against_123 rfl (lv_at hl 1 rfl) ?_
                refine lv_iload_n hx hb dX4_against_124 rfl (lv_at hl 2 rfl) ?_
                refine lv_iload_n hx hb dX4_against_125 rfl (lv_at hl 0 rfl) ?_
                refine cVv (rest := []) hx hb hml hts hown hK hE hI (cM_isMet G ad S uv (M_nextPiece S uv) hv hN) kM_170 ⟨Nat.le_of_ble_eq_true rfl, Nat.le_of_ble_eq_true rfl⟩ rfl rfl (kk := 4) (ii := 0) rfl rfl rfl hl.1 rfl (Nat.le_of_ble_eq_true rfl) dX4_against_126 ⟨Nat.zero_le _, Nat.zero_le _⟩ (fun H locs hI => ?_)
                refine lv_if_eq (tgt := 134) hx hb dX4_against_129 (by decide) (fun c39 => ?_) (fun c39 => ?_)
                · refine lv_aload_n hx hb dX4_against_134 rfl (lv_at hl 1 rfl) ?_
                  refine lv_iload_n hx hb dX4_against_135 rfl (lv_at hl 2 rfl) ?_
                  refine cVv (rest := []) hx hb hml hts hown hK hE hI (cM_weight G ad S uv hv) kM_129 ⟨Nat.le_of_ble_eq_true rfl, Nat.le_of_ble_eq_true rfl⟩ rfl rfl (kk := 4) (ii := 0) rfl rfl rfl hl.1 rfl (Nat.le_of_ble_eq_true rfl) dX4_against_136 ⟨Nat.zero_le _, Nat.zero_le _⟩ (fun H locs hI => ?_)
                  refine lv_aload_n hx hb dX4_against_139 rfl (lv_at hl 1 rfl) ?_
                  refine lv_iload_n hx hb dX4_against_140 rfl (lv_at hl 0 rfl) ?_
                  refine cVv (rest := [.int (M_weight S uv)]) hx hb hml hts hown hK hE hI (cM_weights G ad S (M_nextPiece S uv) hN) kM_174 ⟨Nat.le_of_ble_eq_true rfl, Nat.le_of_ble_eq_true rfl⟩ rfl rfl (kk := 4) (ii := 0) rfl rfl rfl hl.1 rfl (Nat.le_of_ble_eq_true rfl) dX4_against_141 ⟨Nat.zero_le _, Nat.zero_le _⟩ (fun H locs hI => ?_)
                  refine lv_iadd hx hb dX4_against_144 ?_
                  refine lv_aload_n hx hb dX4_against_145 rfl (lv_at hl 1 rfl) ?_
                  refine lv_iload_n hx hb dX4_against_146 rfl (lv_at hl 0 rfl) ?_
                  refine lv_aload_n hx hb dX4_against_147 rfl (lv_at hl 1 rfl) ?_
                  refine gM_44 hx hb hts hown hK hI dX4_against_148 ?_
                  refine lv_iload_n hx hb dX4_against_151 rfl (lv_at hl 0 rfl) ?_
                  refine lM_14 hx hb hK hI hq dX4_against_152 ?_
                  refine cVv (rest := [.int ((M_weight S uv) + (M_weights S (M_nextPiece S uv)))]) hx hb hml hts hown hK hE hI (cM_bearsBy G ad S (M_nextPiece S uv) ((S.2 (M_nextPiece S uv).toNatClampNeg).1) hq ((S.2 (M_nextPiece S uv).toNatClampNeg).2)) kM_177 ⟨Nat.le_of_ble_eq_true rfl, Nat.le_of_ble_eq_true rfl⟩ rfl rfl (kk := 4) (ii := 0) rfl rfl rfl hl.1 rfl (Nat.le_of_ble_eq_true rfl) dX4_against_153 ⟨Nat.zero_le _, Nat.zero_le _⟩ (fun H locs hI => ?_)
                  have hJ41 : ∀ (x40 : Int32), (x40 = if ((M_weight S uv) + (M_weights S (M_nextPiece S uv))) ≤ (M_bearsBy S (M_nextPiece S uv) ((S.2 (M_nextPiece S uv).toNatClampNeg).1)) then 0 else 6) → W p G.1 e ({ frames := 2, cells := 0, slots := 0, locals := 44 }) s m args below meth c H locs 0 0 Q (F0 m 165 ls [.int x40]) := by
                    intro x40 ex40
                    have HE : M_against S uv = x40 := by subst ex40; exact (if_neg c1).trans ((if_pos c2).trans ((if_pos c31).trans ((if_neg c32).trans ((if_pos c34).trans ((if_neg c35).trans ((if_pos c39)))))))
                    exact rt_i hx hb hr hlocks hI hA hQ ⟨by rw [HE], rfl⟩ (Nat.zero_le _) (Nat.zero_le _) dX4_against_165
                  refine lv_icmp_le (tgt := 164) hx hb dX4_against_156 (by decide) (fun c42 => ?_) (fun c42 => ?_)
                  · refine lv_iconst (v := 0) hx hb dX4_against_164 (by decide) ?_
                    exact hJ41 0 (by exact (if_pos c42).symm)
                  · refine lv_bipush (v := 6) hx hb dX4_against_159 (by decide) ?_
                    refine lv_goto (tgt := 165) hx hb dX4_against_161 (by decide) ?_
                    exact hJ41 6 (by exact (if_neg c42).symm)
                · refine lv_iconst (v := 5) hx hb dX4_against_132 (by decide) ?_
                  have HE : M_against S uv = 5 := by exact (if_neg c1).trans ((if_pos c2).trans ((if_pos c31).trans ((if_neg c32).trans ((if_pos c34).trans ((if_neg c35).trans ((if_neg c39)))))))
                  exact rt_i hx hb hr hlocks hI hA hQ ⟨by rw [HE], rfl⟩ (Nat.zero_le _) (Nat.zero_le _) dX4_against_133
            · refine lv_iconst (v := 4) hx hb dX4_against_112 (by decide) ?_
              have HE : M_against S uv = 4 := by exact (if_neg c1).trans ((if_pos c2).trans ((if_pos c31).trans ((if_neg c32).trans ((if_neg c34)))))
              exact rt_i hx hb hr hlocks hI hA hQ ⟨by rw [HE], rfl⟩ (Nat.zero_le _) (Nat.zero_le _) dX4_against_113
          refine lv_if_eq (tgt := 101) hx hb dX4_against_94 (by decide) (fun c43 => ?_) (fun c43 => ?_)
          · refine lv_iconst (v := 0) hx hb dX4_against_101 (by decide) ?_
            have eb44 : (0 : Int32) = bI (¬ ((S.1 22 uv.toNatClampNeg) = 0)) := (bI_f (fun k => k c43)).symm
            rw [eb44]
            exact hJ33
          · refine lv_iconst (v := 1) hx hb dX4_against_97 (by decide) ?_
            refine lv_goto (tgt := 102) hx hb dX4_against_98 (by decide) ?_
            have eb45 : (1 : Int32) = bI (¬ ((S.1 22 uv.toNatClampNeg) = 0)) := (bI_t c43).symm
            rw [eb45]
            exact hJ33
        · refine lv_aload_n hx hb dX4_against_64 rfl (lv_at hl 1 rfl) ?_
          refine lv_iload_n hx hb dX4_against_65 rfl (lv_at hl 2 rfl) ?_
          refine cVv (rest := []) hx hb hml hts hown hK hE hI (cM_weight G ad S uv hv) kM_129 ⟨Nat.le_of_ble_eq_true rfl, Nat.le_of_ble_eq_true rfl⟩ rfl rfl (kk := 4) (ii := 0) rfl rfl rfl hl.1 rfl (Nat.le_of_ble_eq_true rfl) dX4_against_66 ⟨Nat.zero_le _, Nat.zero_le _⟩ (fun H locs hI => ?_)
          refine lv_sipush (v := 5000) hx hb dX4_against_69 (by decide) ?_
          refine lv_icmp_le (tgt := 77) hx hb dX4_against_72 (by decide) (fun c46 => ?_) (fun c46 => ?_)
          · refine lv_aload_n hx hb dX4_against_77 rfl (lv_at hl 1 rfl) ?_
            refine gM_167 hx hb hts hown hK hI dX4_against_78 ?_
            refine lv_aload_n hx hb dX4_against_81 rfl (lv_at hl 1 rfl) ?_
            refine gM_48 hx hb hts hown hK hI dX4_against_82 ?_
            refine lv_iconst (v := 2) hx hb dX4_against_85 (by decide) ?_
            refine lv_iload_n hx hb dX4_against_86 rfl (lv_at hl 0 rfl) ?_
            refine lv_imul hx hb dX4_against_87 ?_
            refine lv_aload_n hx hb dX4_against_88 rfl (lv_at hl 1 rfl) ?_
            refine gM_66 hx hb hts hown hK hI dX4_against_89 ?_
            refine lv_iload_n hx hb dX4_against_92 rfl (lv_at hl 2 rfl) ?_
            refine lM_22 hx hb hK hI hv dX4_against_93 ?_
            have hJ47 : W p G.1 e ({ frames := 2, cells := 0, slots := 0, locals := 44 }) s m args below meth c H locs 0 0 Q (F0 m 102 ls [.int (bI (¬ ((S.1 22 uv.toNatClampNeg) = 0))), .int (2 * (M_nextPiece S uv)), .ref (ad 15), .int (S.1 0 0)]) := by
              refine lv_iadd hx hb dX4_against_102 ?_
              refine lM_15 hx hb hK hI (came_inb hq) dX4_against_103 ?_
              refine lv_isub hx hb dX4_against_104 ?_
              refine lv_aload_n hx hb dX4_against_105 rfl (lv_at hl 1 rfl) ?_
              refine gM_7 hx hb hts hown hK hI dX4_against_106 ?_
              refine lv_icmp_ge (tgt := 114) hx hb dX4_against_109 (by decide) (fun c48 => ?_) (fun c48 => ?_)
              · refine lv_aload_n hx hb dX4_against_114 rfl (lv_at hl 1 rfl) ?_
                refine gM_13 hx hb hts hown hK hI dX4_against_115 ?_
                refine lv_iload_n hx hb dX4_against_118 rfl (lv_at hl 0 rfl) ?_
                refine lM_4 hx hb hK hI hq dX4_against_119 ?_
                refine lv_if_eq (tgt := 134) hx hb dX4_against_120 (by decide) (fun c49 => ?_) (fun c49 => ?_)
                · refine lv_aload_n hx hb dX4_against_134 rfl (lv_at hl 1 rfl) ?_
                  refine lv_iload_n hx hb dX4_against_135 rfl (lv_at hl 2 rfl) ?_
                  refine cVv (rest := []) hx hb hml hts hown hK hE hI (cM_weight G ad S uv hv) kM_129 ⟨Nat.le_of_ble_eq_true rfl, Nat.le_of_ble_eq_true rfl⟩ rfl rfl (kk := 4) (ii := 0) rfl rfl rfl hl.1 rfl (Nat.le_of_ble_eq_true rfl) dX4_against_136 ⟨Nat.zero_le _, Nat.zero_le _⟩ (fun H locs hI => ?_)
                  refine lv_aload_n hx hb dX4_against_139 rfl (lv_at hl 1 rfl) ?_
                  refine lv_iload_n hx hb dX4_against_140 rfl (lv_at hl 0 rfl) ?_
                  refine cVv (rest := [.int (M_weight S uv)]) hx hb hml hts hown hK hE hI (cM_weights G ad S (M_nextPiece S uv) hN) kM_174 ⟨Nat.le_of_ble_eq_true rfl, Nat.le_of_ble_eq_true rfl⟩ rfl rfl (kk := 4) (ii := 0) rfl rfl rfl hl.1 rfl (Nat.le_of_ble_eq_true rfl) dX4_against_141 ⟨Nat.zero_le _, Nat.zero_le _⟩ (fun H locs hI => ?_)
                  refine lv_iadd hx hb dX4_against_144 ?_
                  refine lv_aload_n hx hb dX4_against_145 rfl (lv_at hl 1 rfl) ?_
                  refine lv_iload_n hx hb dX4_against_146 rfl (lv_at hl 0 rfl) ?_
                  refine lv_aload_n hx hb dX4_against_147 rfl (lv_at hl 1 rfl) ?_
                  refine gM_44 hx hb hts hown hK hI dX4_against_148 ?_
                  refine lv_iload_n hx hb dX4_against_151 rfl (lv_at hl 0 rfl) ?_
                  refine lM_14 hx hb hK hI hq dX4_against_152 ?_
                  refine cVv (rest := [.int ((M_weight S uv) + (M_weights S (M_nextPiece S uv)))]) hx hb hml hts hown hK hE hI (cM_bearsBy G ad S (M_nextPiece S uv) ((S.2 (M_nextPiece S uv).toNatClampNeg).1) hq ((S.2 (M_nextPiece S uv).toNatClampNeg).2)) kM_177 ⟨Nat.le_of_ble_eq_true rfl, Nat.le_of_ble_eq_true rfl⟩ rfl rfl (kk := 4) (ii := 0) rfl rfl rfl hl.1 rfl (Nat.le_of_ble_eq_true rfl) dX4_against_153 ⟨Nat.zero_le _, Nat.zero_le _⟩ (fun H locs hI => ?_)
                  have hJ51 : ∀ (x50 : Int32), (x50 = if ((M_weight S uv) + (M_weights S (M_nextPiece S uv))) ≤ (M_bearsBy S (M_nextPiece S uv) ((S.2 (M_nextPiece S uv).toNatClampNeg).1)) then 0 else 6) → W p G.1 e ({ frames := 2, cells := 0, slots := 0, locals := 44 }) s m args below meth c H locs 0 0 Q (F0 m 165 ls [.int x50]) := by
                    intro x50 ex50
                    have HE : M_against S uv = x50 := by subst ex50; exact (if_neg c1).trans ((if_pos c2).trans ((if_pos c31).trans ((if_pos c32).trans ((if_pos c46).trans ((if_pos c48).trans ((if_pos c49)))))))
                    exact rt_i hx hb hr hlocks hI hA hQ ⟨by rw [HE], rfl⟩ (Nat.zero_le _) (Nat.zero_le _) dX4_against_165
                  refine lv_icmp_le (tgt := 164) hx hb dX4_against_156 (by decide) (fun c52 => ?_) (fun c52 => ?_)
                  · refine lv_iconst (v := 0) hx hb dX4_against_164 (by decide) ?_
                    exact hJ51 0 (by exact (if_pos c52).symm)
                  · refine lv_bipush (v := 6) hx hb dX4_against_159 (by decide) ?_
                    refine lv_goto (tgt := 165) hx hb dX4_against_161 (by decide) ?_
                    exact hJ51 6 (by exact (if_neg c52).symm)
                · refine lv_aload_n hx hb dX4_against_123 rfl (lv_at hl 1 rfl) ?_
                  refine lv_iload_n hx hb dX4_against_124 rfl (lv_at hl 2 rfl) ?_
                  refine lv_iload_n hx hb dX4_against_125 rfl (lv_at hl 0 rfl) ?_
                  refine cVv (rest := []) hx hb hml hts hown hK hE hI (cM_isMet G ad S uv (M_nextPiece S uv) hv hN) kM_170 ⟨Nat.le_of_ble_eq_true rfl, Nat.le_of_ble_eq_true rfl⟩ rfl rfl (kk := 4) (ii := 0) rfl rfl rfl hl.1 rfl (Nat.le_of_ble_eq_true rfl) dX4_against_126 ⟨Nat.zero_le _, Nat.zero_le _⟩ (fun H locs hI => ?_)
                  refine lv_if_eq (tgt := 134) hx hb dX4_against_129 (by decide) (fun c53 => ?_) (fun c53 => ?_)
                  · refine lv_aload_n hx hb dX4_against_134 rfl (lv_at hl 1 rfl) ?_
                    refine lv_iload_n hx hb dX4_against_135 rfl (lv_at hl 2 rfl) ?_
                    refine cVv (rest := []) hx hb hml hts hown hK hE hI (cM_weight G ad S uv hv) kM_129 ⟨Nat.le_of_ble_eq_true rfl, Nat.le_of_ble_eq_true rfl⟩ rfl rfl (kk := 4) (ii := 0) rfl rfl rfl hl.1 rfl (Nat.le_of_ble_eq_true rfl) dX4_against_136 ⟨Nat.zero_le _, Nat.zero_le _⟩ (fun H locs hI => ?_)
                    refine lv_aload_n hx hb dX4_against_139 rfl (lv_at hl 1 rfl) ?_
                    refine lv_iload_n hx hb dX4_against_140 rfl (lv_at hl 0 rfl) ?_
                    refine cVv (rest := [.int (M_weight S uv)]) hx hb hml hts hown hK hE hI (cM_weights G ad S (M_nextPiece S uv) hN) kM_174 ⟨Nat.le_of_ble_eq_true rfl, Nat.le_of_ble_eq_true rfl⟩ rfl rfl (kk := 4) (ii := 0) rfl rfl rfl hl.1 rfl (Nat.le_of_ble_eq_true rfl) dX4_against_141 ⟨Nat.zero_le _, Nat.zero_le _⟩ (fun H locs hI => ?_)
                    refine lv_iadd hx hb dX4_against_144 ?_
                    refine lv_aload_n hx hb dX4_against_145 rfl (lv_at hl 1 rfl) ?_
                    refine lv_iload_n hx hb dX4_against_146 rfl (lv_at hl 0 rfl) ?_
                    refine lv_aload_n hx hb dX4_against_147 rfl (lv_at hl 1 rfl) ?_
                    refine gM_44 hx hb hts hown hK hI dX4_against_148 ?_
                    refine lv_iload_n hx hb dX4_against_151 rfl (lv_at hl 0 rfl) ?_
                    refine lM_14 hx hb hK hI hq dX4_against_152 ?_
                    refine cVv (rest := [.int ((M_weight S uv) + (M_weights S (M_nextPiece S uv)))]) hx hb hml hts hown hK hE hI (cM_bearsBy G ad S (M_nextPiece S uv) ((S.2 (M_nextPiece S uv).toNatClampNeg).1) hq ((S.2 (M_nextPiece S uv).toNatClampNeg).2)) kM_177 ⟨Nat.le_of_ble_eq_true rfl, Nat.le_of_ble_eq_true rfl⟩ rfl rfl (kk := 4) (ii := 0) rfl rfl rfl hl.1 rfl (Nat.le_of_ble_eq_true rfl) dX4_against_153 ⟨Nat.zero_le _, Nat.zero_le _⟩ (fun H locs hI => ?_)
                    have hJ55 : ∀ (x54 : Int32), (x54 = if ((M_weight S uv) + (M_weights S (M_nextPiece S uv))) ≤ (M_bearsBy S (M_nextPiece S uv) ((S.2 (M_nextPiece S uv).toNatClampNeg).1)) then 0 else 6) → W p G.1 e ({ frames := 2, cells := 0, slots := 0, locals := 44 }) s m args below meth c H locs 0 0 Q (F0 m 165 ls [.int x54]) := by
                      intro x54 ex54
                      have HE : M_against S uv = x54 := by subst ex54; exact (if_neg c1).trans ((if_pos c2).trans ((if_pos c31).trans ((if_pos c32).trans ((if_pos c46).trans ((if_pos c48).trans ((if_neg c49).trans ((if_pos c53))))))))
                      exact rt_i hx hb hr hlocks hI hA hQ ⟨by rw [HE], rfl⟩ (Nat.zero_le _) (Nat.zero_le _) dX4_against_165
                    refine lv_icmp_le (tgt := 164) hx hb dX4_against_156 (by decide) (fun c56 => ?_) (fun c56 => ?_)
                    · refine lv_iconst (v := 0) hx hb dX4_against_164 (by decide) ?_
                      exact hJ55 0 (by exact (if_pos c56).symm)
                    · refine lv_bipush (v := 6) hx hb dX4_against_159 (by decide) ?_
                      refine lv_goto (tgt := 165) hx hb dX4_against_161 (by decide) ?_
                      exact hJ55 6 (by exact (if_neg c56).symm)
                  · refine lv_iconst (v := 5) hx hb dX4_against_132 (by decide) ?_
                    have HE : M_against S uv = 5 := by exact (if_neg c1).trans ((if_pos c2).trans ((if_pos c31).trans ((if_pos c32).trans ((if_pos c46).trans ((if_pos c48).trans ((if_neg c49).trans ((if_neg c53))))))))
                    exact rt_i hx hb hr hlocks hI hA hQ ⟨by rw [HE], rfl⟩ (Nat.zero_le _) (Nat.zero_le _) dX4_against_133
              · refine lv_iconst (v := 4) hx hb dX4_against_112 (by decide) ?_
                have HE : M_against S uv = 4 := by exact (if_neg c1).trans ((if_pos c2).trans ((if_pos c31).trans ((if_pos c32).trans ((if_pos c46).trans ((if_neg c48))))))
                exact rt_i hx hb hr hlocks hI hA hQ ⟨by rw [HE], rfl⟩ (Nat.zero_le _) (Nat.zero_le _) dX4_against_113
            refine lv_if_eq (tgt := 101) hx hb dX4_against_94 (by decide) (fun c57 => ?_) (fun c57 => ?_)
            · refine lv_iconst (v := 0) hx hb dX4_against_101 (by decide) ?_
              have eb58 : (0 : Int32) = bI (¬ ((S.1 22 uv.toNatClampNeg) = 0)) := (bI_f (fun k => k c57)).symm
              rw [eb58]
              exact hJ47
            · refine lv_iconst (v := 1) hx hb dX4_against_97 (by decide) ?_
              refine lv_goto (tgt := 102) hx hb dX4_against_98 (by decide) ?_
              have eb59 : (1 : Int32) = bI (¬ ((S.1 22 uv.toNatClampNeg) = 0)) := (bI_t c57).symm
              rw [eb59]
              exact hJ47
          · refine lv_iconst (v := 3) hx hb dX4_against_75 (by decide) ?_
            have HE : M_against S uv = 3 := by exact (if_neg c1).trans ((if_pos c2).trans ((if_pos c31).trans ((if_pos c32).trans ((if_neg c46)))))
            exact rt_i hx hb hr hlocks hI hA hQ ⟨by rw [HE], rfl⟩ (Nat.zero_le _) (Nat.zero_le _) dX4_against_76
      · refine lv_aload_n hx hb dX4_against_32 rfl (lv_at hl 1 rfl) ?_
        refine gM_167 hx hb hts hown hK hI dX4_against_33 ?_
        refine lv_sipush (v := 1440) hx hb dX4_against_36 (by decide) ?_
        refine lv_irem hx hb dX4_against_39 (by decide) ?_
        refine lv_sipush (v := 480) hx hb dX4_against_40 (by decide) ?_
        refine lv_sipush (v := 1199) hx hb dX4_against_43 (by decide) ?_
        refine cSv (rest := []) hx hb hml hts hown hK hE hI (cM_isIn G ad S ((S.1 0 0) - (S.1 0 0) / 1440 * 1440) 480 1199) kM_94 ⟨Nat.le_of_ble_eq_true rfl, Nat.le_of_ble_eq_true rfl⟩ rfl rfl hl.1 rfl (Nat.le_of_ble_eq_true rfl) dX4_against_46 ⟨Nat.zero_le _, Nat.zero_le _⟩ (fun H locs hI => ?_)
        refine xb_eq (tgt := 54) hx hb dX4_against_49 (by decide) (fun c60 => ?_) (fun c60 => ?_)
        · refine lv_aload_n hx hb dX4_against_54 rfl (lv_at hl 1 rfl) ?_
          refine gM_38 hx hb hts hown hK hI dX4_against_55 ?_
          refine lv_iload_n hx hb dX4_against_58 rfl (lv_at hl 0 rfl) ?_
          refine lM_12 hx hb hK hI hq dX4_against_59 ?_
          refine lv_iconst (v := 1) hx hb dX4_against_60 (by decide) ?_
          refine lv_icmp_ne (tgt := 77) hx hb dX4_against_61 (by decide) (fun c61 => ?_) (fun c61 => ?_)
          · refine lv_aload_n hx hb dX4_against_77 rfl (lv_at hl 1 rfl) ?_
            refine gM_167 hx hb hts hown hK hI dX4_against_78 ?_
            refine lv_aload_n hx hb dX4_against_81 rfl (lv_at hl 1 rfl) ?_
            refine gM_48 hx hb hts hown hK hI dX4_against_82 ?_
            refine lv_iconst (v := 2) hx hb dX4_against_85 (by decide) ?_
            refine lv_iload_n hx hb dX4_against_86 rfl (lv_at hl 0 rfl) ?_
            refine lv_imul hx hb dX4_against_87 ?_
            refine lv_aload_n hx hb dX4_against_88 rfl (lv_at hl 1 rfl) ?_
            refine gM_66 hx hb hts hown hK hI dX4_against_89 ?_
            refine lv_iload_n hx hb dX4_against_92 rfl (lv_at hl 2 rfl) ?_
            refine lM_22 hx hb hK hI hv dX4_against_93 ?_
            have hJ62 : W p G.1 e ({ frames := 2, cells := 0, slots := 0, locals := 44 }) s m args below meth c H locs 0 0 Q (F0 m 102 ls [.int (bI (¬ ((S.1 22 uv.toNatClampNeg) = 0))), .int (2 * (M_nextPiece S uv)), .ref (ad 15), .int (S.1 0 0)]) := by
              refine lv_iadd hx hb dX4_against_102 ?_
              refine lM_15 hx hb hK hI (came_inb hq) dX4_against_103 ?_
              refine lv_isub hx hb dX4_against_104 ?_
              refine lv_aload_n hx hb dX4_against_105 rfl (lv_at hl 1 rfl) ?_
              refine gM_7 hx hb hts hown hK hI dX4_against_106 ?_
              refine lv_icmp_ge (tgt := 114) hx hb dX4_against_109 (by decide) (fun c63 => ?_) (fun c63 => ?_)
              · refine lv_aload_n hx hb dX4_against_114 rfl (lv_at hl 1 rfl) ?_
                refine gM_13 hx hb hts hown hK hI dX4_against_115 ?_
                refine lv_iload_n hx hb dX4_against_118 rfl (lv_at hl 0 rfl) ?_
                refine lM_4 hx hb hK hI hq dX4_against_119 ?_
                refine lv_if_eq (tgt := 134) hx hb dX4_against_120 (by decide) (fun c64 => ?_) (fun c64 => ?_)
                · refine lv_aload_n hx hb dX4_against_134 rfl (lv_at hl 1 rfl) ?_
                  refine lv_iload_n hx hb dX4_against_135 rfl (lv_at hl 2 rfl) ?_
                  refine cVv (rest := []) hx hb hml hts hown hK hE hI (cM_weight G ad S uv hv) kM_129 ⟨Nat.le_of_ble_eq_true rfl, Nat.le_of_ble_eq_true rfl⟩ rfl rfl (kk := 4) (ii := 0) rfl rfl rfl hl.1 rfl (Nat.le_of_ble_eq_true rfl) dX4_against_136 ⟨Nat.zero_le _, Nat.zero_le _⟩ (fun H locs hI => ?_)
                  refine lv_aload_n hx hb dX4_against_139 rfl (lv_at hl 1 rfl) ?_
                  refine lv_iload_n hx hb dX4_against_140 rfl (lv_at hl 0 rfl) ?_
                  refine cVv (rest := [.int (M_weight S uv)]) hx hb hml hts hown hK hE hI (cM_weights G ad S (M_nextPiece S uv) hN) kM_174 ⟨Nat.le_of_ble_eq_true rfl, Nat.le_of_ble_eq_true rfl⟩ rfl rfl (kk := 4) (ii := 0) rfl rfl rfl hl.1 rfl (Nat.le_of_ble_eq_true rfl) dX4_against_141 ⟨Nat.zero_le _, Nat.zero_le _⟩ (fun H locs hI => ?_)
                  refine lv_iadd hx hb dX4_against_144 ?_
                  refine lv_aload_n hx hb dX4_against_145 rfl (lv_at hl 1 rfl) ?_
                  refine lv_iload_n hx hb dX4_against_146 rfl (lv_at hl 0 rfl) ?_
                  refine lv_aload_n hx hb dX4_against_147 rfl (lv_at hl 1 rfl) ?_
                  refine gM_44 hx hb hts hown hK hI dX4_against_148 ?_
                  refine lv_iload_n hx hb dX4_against_151 rfl (lv_at hl 0 rfl) ?_
                  refine lM_14 hx hb hK hI hq dX4_against_152 ?_
                  refine cVv (rest := [.int ((M_weight S uv) + (M_weights S (M_nextPiece S uv)))]) hx hb hml hts hown hK hE hI (cM_bearsBy G ad S (M_nextPiece S uv) ((S.2 (M_nextPiece S uv).toNatClampNeg).1) hq ((S.2 (M_nextPiece S uv).toNatClampNeg).2)) kM_177 ⟨Nat.le_of_ble_eq_true rfl, Nat.le_of_ble_eq_true rfl⟩ rfl rfl (kk := 4) (ii := 0) rfl rfl rfl hl.1 rfl (Nat.le_of_ble_eq_true rfl) dX4_against_153 ⟨Nat.zero_le _, Nat.zero_le _⟩ (fun H locs hI => ?_)
                  have hJ66 : ∀ (x65 : Int32), (x65 = if ((M_weight S uv) + (M_weights S (M_nextPiece S uv))) ≤ (M_bearsBy S (M_nextPiece S uv) ((S.2 (M_nextPiece S uv).toNatClampNeg).1)) then 0 else 6) → W p G.1 e ({ frames := 2, cells := 0, slots := 0, locals := 44 }) s m args below meth c H locs 0 0 Q (F0 m 165 ls [.int x65]) := by
                    intro x65 ex65
                    have HE : M_against S uv = x65 := by subst ex65; exact (if_neg c1).trans ((if_pos c2).trans ((if_neg c31).trans ((if_neg c60).trans ((if_neg c61).trans ((if_pos c63).trans ((if_pos c64)))))))
                    exact rt_i hx hb hr hlocks hI hA hQ ⟨by rw [HE], rfl⟩ (Nat.zero_le _) (Nat.zero_le _) dX4_against_165
                  refine lv_icmp_le (tgt := 164) hx hb dX4_against_156 (by decide) (fun c67 => ?_) (fun c67 => ?_)
                  · refine lv_iconst (v := 0) hx hb dX4_against_164 (by decide) ?_
                    exact hJ66 0 (by exact (if_pos c67).symm)
                  · refine lv_bipush (v := 6) hx hb dX4_against_159 (by decide) ?_
                    refine lv_goto (tgt := 165) hx hb dX4_against_161 (by decide) ?_
                    exact hJ66 6 (by exact (if_neg c67).symm)
                · refine lv_aload_n hx hb dX4_against_123 rfl (lv_at hl 1 rfl) ?_
                  refine lv_iload_n hx hb dX4_against_124 rfl (lv_at hl 2 rfl) ?_
                  refine lv_iload_n hx hb dX4_against_125 rfl (lv_at hl 0 rfl) ?_
                  refine cVv (rest := []) hx hb hml hts hown hK hE hI (cM_isMet G ad S uv (M_nextPiece S uv) hv hN) kM_170 ⟨Nat.le_of_ble_eq_true rfl, Nat.le_of_ble_eq_true rfl⟩ rfl rfl (kk := 4) (ii := 0) rfl rfl rfl hl.1 rfl (Nat.le_of_ble_eq_true rfl) dX4_against_126 ⟨Nat.zero_le _, Nat.zero_le _⟩ (fun H locs hI => ?_)
                  refine lv_if_eq (tgt := 134) hx hb dX4_against_129 (by decide) (fun c68 => ?_) (fun c68 => ?_)
                  · refine lv_aload_n hx hb dX4_against_134 rfl (lv_at hl 1 rfl) ?_
                    refine lv_iload_n hx hb dX4_against_135 rfl (lv_at hl 2 rfl) ?_
                    refine cVv (rest := []) hx hb hml hts hown hK hE hI (cM_weight G ad S uv hv) kM_129 ⟨Nat.le_of_ble_eq_true rfl, Nat.le_of_ble_eq_true rfl⟩ rfl rfl (kk := 4) (ii := 0) rfl rfl rfl hl.1 rfl (Nat.le_of_ble_eq_true rfl) dX4_against_136 ⟨Nat.zero_le _, Nat.zero_le _⟩ (fun H locs hI => ?_)
                    refine lv_aload_n hx hb dX4_against_139 rfl (lv_at hl 1 rfl) ?_
                    refine lv_iload_n hx hb dX4_against_140 rfl (lv_at hl 0 rfl) ?_
                    refine cVv (rest := [.int (M_weight S uv)]) hx hb hml hts hown hK hE hI (cM_weights G ad S (M_nextPiece S uv) hN) kM_174 ⟨Nat.le_of_ble_eq_true rfl, Nat.le_of_ble_eq_true rfl⟩ rfl rfl (kk := 4) (ii := 0) rfl rfl rfl hl.1 rfl (Nat.le_of_ble_eq_true rfl) dX4_against_141 ⟨Nat.zero_le _, Nat.zero_le _⟩ (fun H locs hI => ?_)
                    refine lv_iadd hx hb dX4_against_144 ?_
                    refine lv_aload_n hx hb dX4_against_145 rfl (lv_at hl 1 rfl) ?_
                    refine lv_iload_n hx hb dX4_against_146 rfl (lv_at hl 0 rfl) ?_
                    refine lv_aload_n hx hb dX4_against_147 rfl (lv_at hl 1 rfl) ?_
                    refine gM_44 hx hb hts hown hK hI dX4_against_148 ?_
                    refine lv_iload_n hx hb dX4_against_151 rfl (lv_at hl 0 rfl) ?_
                    refine lM_14 hx hb hK hI hq dX4_against_152 ?_
                    refine cVv (rest := [.int ((M_weight S uv) + (M_weights S (M_nextPiece S uv)))]) hx hb hml hts hown hK hE hI (cM_bearsBy G ad S (M_nextPiece S uv) ((S.2 (M_nextPiece S uv).toNatClampNeg).1) hq ((S.2 (M_nextPiece S uv).toNatClampNeg).2)) kM_177 ⟨Nat.le_of_ble_eq_true rfl, Nat.le_of_ble_eq_true rfl⟩ rfl rfl (kk := 4) (ii := 0) rfl rfl rfl hl.1 rfl (Nat.le_of_ble_eq_true rfl) dX4_against_153 ⟨Nat.zero_le _, Nat.zero_le _⟩ (fun H locs hI => ?_)
                    have hJ70 : ∀ (x69 : Int32), (x69 = if ((M_weight S uv) + (M_weights S (M_nextPiece S uv))) ≤ (M_bearsBy S (M_nextPiece S uv) ((S.2 (M_nextPiece S uv).toNatClampNeg).1)) then 0 else 6) → W p G.1 e ({ frames := 2, cells := 0, slots := 0, locals := 44 }) s m args below meth c H locs 0 0 Q (F0 m 165 ls [.int x69]) := by
                      intro x69 ex69
                      have HE : M_against S uv = x69 := by subst ex69; exact (if_neg c1).trans ((if_pos c2).trans ((if_neg c31).trans ((if_neg c60).trans ((if_neg c61).trans ((if_pos c63).trans ((if_neg c64).trans ((if_pos c68))))))))
                      exact rt_i hx hb hr hlocks hI hA hQ ⟨by rw [HE], rfl⟩ (Nat.zero_le _) (Nat.zero_le _) dX4_against_165
                    refine lv_icmp_le (tgt := 164) hx hb dX4_against_156 (by decide) (fun c71 => ?_) (fun c71 => ?_)
                    · refine lv_iconst (v := 0) hx hb dX4_against_164 (by decide) ?_
                      exact hJ70 0 (by exact (if_pos c71).symm)
                    · refine lv_bipush (v := 6) hx hb dX4_against_159 (by decide) ?_
                      refine lv_goto (tgt := 165) hx hb dX4_against_161 (by decide) ?_
                      exact hJ70 6 (by exact (if_neg c71).symm)
                  · refine lv_iconst (v := 5) hx hb dX4_against_132 (by decide) ?_
                    have HE : M_against S uv = 5 := by exact (if_neg c1).trans ((if_pos c2).trans ((if_neg c31).trans ((if_neg c60).trans ((if_neg c61).trans ((if_pos c63).trans ((if_neg c64).trans ((if_neg c68))))))))
                    exact rt_i hx hb hr hlocks hI hA hQ ⟨by rw [HE], rfl⟩ (Nat.zero_le _) (Nat.zero_le _) dX4_against_133
              · refine lv_iconst (v := 4) hx hb dX4_against_112 (by decide) ?_
                have HE : M_against S uv = 4 := by exact (if_neg c1).trans ((if_pos c2).trans ((if_neg c31).trans ((if_neg c60).trans ((if_neg c61).trans ((if_neg c63))))))
                exact rt_i hx hb hr hlocks hI hA hQ ⟨by rw [HE], rfl⟩ (Nat.zero_le _) (Nat.zero_le _) dX4_against_113
            refine lv_if_eq (tgt := 101) hx hb dX4_against_94 (by decide) (fun c72 => ?_) (fun c72 => ?_)
            · refine lv_iconst (v := 0) hx hb dX4_against_101 (by decide) ?_
              have eb73 : (0 : Int32) = bI (¬ ((S.1 22 uv.toNatClampNeg) = 0)) := (bI_f (fun k => k c72)).symm
              rw [eb73]
              exact hJ62
            · refine lv_iconst (v := 1) hx hb dX4_against_97 (by decide) ?_
              refine lv_goto (tgt := 102) hx hb dX4_against_98 (by decide) ?_
              have eb74 : (1 : Int32) = bI (¬ ((S.1 22 uv.toNatClampNeg) = 0)) := (bI_t c72).symm
              rw [eb74]
              exact hJ62
          · refine lv_aload_n hx hb dX4_against_64 rfl (lv_at hl 1 rfl) ?_
            refine lv_iload_n hx hb dX4_against_65 rfl (lv_at hl 2 rfl) ?_
            refine cVv (rest := []) hx hb hml hts hown hK hE hI (cM_weight G ad S uv hv) kM_129 ⟨Nat.le_of_ble_eq_true rfl, Nat.le_of_ble_eq_true rfl⟩ rfl rfl (kk := 4) (ii := 0) rfl rfl rfl hl.1 rfl (Nat.le_of_ble_eq_true rfl) dX4_against_66 ⟨Nat.zero_le _, Nat.zero_le _⟩ (fun H locs hI => ?_)
            refine lv_sipush (v := 5000) hx hb dX4_against_69 (by decide) ?_
            refine lv_icmp_le (tgt := 77) hx hb dX4_against_72 (by decide) (fun c75 => ?_) (fun c75 => ?_)
            · refine lv_aload_n hx hb dX4_against_77 rfl (lv_at hl 1 rfl) ?_
              refine gM_167 hx hb hts hown hK hI dX4_against_78 ?_
              refine lv_aload_n hx hb dX4_against_81 rfl (lv_at hl 1 rfl) ?_
              refine gM_48 hx hb hts hown hK hI dX4_against_82 ?_
              refine lv_iconst (v := 2) hx hb dX4_against_85 (by decide) ?_
              refine lv_iload_n hx hb dX4_against_86 rfl (lv_at hl 0 rfl) ?_
              refine lv_imul hx hb dX4_against_87 ?_
              refine lv_aload_n hx hb dX4_against_88 rfl (lv_at hl 1 rfl) ?_
              refine gM_66 hx hb hts hown hK hI dX4_against_89 ?_
              refine lv_iload_n hx hb dX4_against_92 rfl (lv_at hl 2 rfl) ?_
              refine lM_22 hx hb hK hI hv dX4_against_93 ?_
              have hJ76 : W p G.1 e ({ frames := 2, cells := 0, slots := 0, locals := 44 }) s m args below meth c H locs 0 0 Q (F0 m 102 ls [.int (bI (¬ ((S.1 22 uv.toNatClampNeg) = 0))), .int (2 * (M_nextPiece S uv)), .ref (ad 15), .int (S.1 0 0)]) := by
                refine lv_iadd hx hb dX4_against_102 ?_
                refine lM_15 hx hb hK hI (came_inb hq) dX4_against_103 ?_
                refine lv_isub hx hb dX4_against_104 ?_
                refine lv_aload_n hx hb dX4_against_105 rfl (lv_at hl 1 rfl) ?_
                refine gM_7 hx hb hts hown hK hI dX4_against_106 ?_
                refine lv_icmp_ge (tgt := 114) hx hb dX4_against_109 (by decide) (fun c77 => ?_) (fun c77 => ?_)
                · refine lv_aload_n hx hb dX4_against_114 rfl (lv_at hl 1 rfl) ?_
                  refine gM_13 hx hb hts hown hK hI dX4_against_115 ?_
                  refine lv_iload_n hx hb dX4_against_118 rfl (lv_at hl 0 rfl) ?_
                  refine lM_4 hx hb hK hI hq dX4_against_119 ?_
                  refine lv_if_eq (tgt := 134) hx hb dX4_against_120 (by decide) (fun c78 => ?_) (fun c78 => ?_)
                  · refine lv_aload_n hx hb dX4_against_134 rfl (lv_at hl 1 rfl) ?_
                    refine lv_iload_n hx hb dX4_against_135 rfl (lv_at hl 2 rfl) ?_
                    refine cVv (rest := []) hx hb hml hts hown hK hE hI (cM_weight G ad S uv hv) kM_129 ⟨Nat.le_of_ble_eq_true rfl, Nat.le_of_ble_eq_true rfl⟩ rfl rfl (kk := 4) (ii := 0) rfl rfl rfl hl.1 rfl (Nat.le_of_ble_eq_true rfl) dX4_against_136 ⟨Nat.zero_le _, Nat.zero_le _⟩ (fun H locs hI => ?_)
                    refine lv_aload_n hx hb dX4_against_139 rfl (lv_at hl 1 rfl) ?_
                    refine lv_iload_n hx hb dX4_against_140 rfl (lv_at hl 0 rfl) ?_
                    refine cVv (rest := [.int (M_weight S uv)]) hx hb hml hts hown hK hE hI (cM_weights G ad S (M_nextPiece S uv) hN) kM_174 ⟨Nat.le_of_ble_eq_true rfl, Nat.le_of_ble_eq_true rfl⟩ rfl rfl (kk := 4) (ii := 0) rfl rfl rfl hl.1 rfl (Nat.le_of_ble_eq_true rfl) dX4_against_141 ⟨Nat.zero_le _, Nat.zero_le _⟩ (fun H locs hI => ?_)
                    refine lv_iadd hx hb dX4_against_144 ?_
                    refine lv_aload_n hx hb dX4_against_145 rfl (lv_at hl 1 rfl) ?_
                    refine lv_iload_n hx hb dX4_against_146 rfl (lv_at hl 0 rfl) ?_
                    refine lv_aload_n hx hb dX4_against_147 rfl (lv_at hl 1 rfl) ?_
                    refine gM_44 hx hb hts hown hK hI dX4_against_148 ?_
                    refine lv_iload_n hx hb dX4_against_151 rfl (lv_at hl 0 rfl) ?_
                    refine lM_14 hx hb hK hI hq dX4_against_152 ?_
                    refine cVv (rest := [.int ((M_weight S uv) + (M_weights S (M_nextPiece S uv)))]) hx hb hml hts hown hK hE hI (cM_bearsBy G ad S (M_nextPiece S uv) ((S.2 (M_nextPiece S uv).toNatClampNeg).1) hq ((S.2 (M_nextPiece S uv).toNatClampNeg).2)) kM_177 ⟨Nat.le_of_ble_eq_true rfl, Nat.le_of_ble_eq_true rfl⟩ rfl rfl (kk := 4) (ii := 0) rfl rfl rfl hl.1 rfl (Nat.le_of_ble_eq_true rfl) dX4_against_153 ⟨Nat.zero_le _, Nat.zero_le _⟩ (fun H locs hI => ?_)
                    have hJ80 : ∀ (x79 : Int32), (x79 = if ((M_weight S uv) + (M_weights S (M_nextPiece S uv))) ≤ (M_bearsBy S (M_nextPiece S uv) ((S.2 (M_nextPiece S uv).toNatClampNeg).1)) then 0 else 6) → W p G.1 e ({ frames := 2, cells := 0, slots := 0, locals := 44 }) s m args below meth c H locs 0 0 Q (F0 m 165 ls [.int x79]) := by
                      intro x79 ex79
                      have HE : M_against S uv = x79 := by subst ex79; exact (if_neg c1).trans ((if_pos c2).trans ((if_neg c31).trans ((if_neg c60).trans ((if_pos c61).trans ((if_pos c75).trans ((if_pos c77).trans ((if_pos c78))))))))
                      exact rt_i hx hb hr hlocks hI hA hQ ⟨by rw [HE], rfl⟩ (Nat.zero_le _) (Nat.zero_le _) dX4_against_165
                    refine lv_icmp_le (tgt := 164) hx hb dX4_against_156 (by decide) (fun c81 => ?_) (fun c81 => ?_)
                    · refine lv_iconst (v := 0) hx hb dX4_against_164 (by decide) ?_
                      exact hJ80 0 (by exact (if_pos c81).symm)
                    · refine lv_bipush (v := 6) hx hb dX4_against_159 (by decide) ?_
                      refine lv_goto (tgt := 165) hx hb dX4_against_161 (by decide) ?_
                      exact hJ80 6 (by exact (if_neg c81).symm)
                  · refine lv_aload_n hx hb dX4_against_123 rfl (lv_at hl 1 rfl) ?_
                    refine lv_iload_n hx hb dX4_against_124 rfl (lv_at hl 2 rfl) ?_
                    refine lv_iload_n hx hb dX4_against_125 rfl (lv_at hl 0 rfl) ?_
                    refine cVv (rest := []) hx hb hml hts hown hK hE hI (cM_isMet G ad S uv (M_nextPiece S uv) hv hN) kM_170 ⟨Nat.le_of_ble_eq_true rfl, Nat.le_of_ble_eq_true rfl⟩ rfl rfl (kk := 4) (ii := 0) rfl rfl rfl hl.1 rfl (Nat.le_of_ble_eq_true rfl) dX4_against_126 ⟨Nat.zero_le _, Nat.zero_le _⟩ (fun H locs hI => ?_)
                    refine lv_if_eq (tgt := 134) hx hb dX4_against_129 (by decide) (fun c82 => ?_) (fun c82 => ?_)
                    · refine lv_aload_n hx hb dX4_against_134 rfl (lv_at hl 1 rfl) ?_
                      refine lv_iload_n hx hb dX4_against_135 rfl (lv_at hl 2 rfl) ?_
                      refine cVv (rest := []) hx hb hml hts hown hK hE hI (cM_weight G ad S uv hv) kM_129 ⟨Nat.le_of_ble_eq_true rfl, Nat.le_of_ble_eq_true rfl⟩ rfl rfl (kk := 4) (ii := 0) rfl rfl rfl hl.1 rfl (Nat.le_of_ble_eq_true rfl) dX4_against_136 ⟨Nat.zero_le _, Nat.zero_le _⟩ (fun H locs hI => ?_)
                      refine lv_aload_n hx hb dX4_against_139 rfl (lv_at hl 1 rfl) ?_
                      refine lv_iload_n hx hb dX4_against_140 rfl (lv_at hl 0 rfl) ?_
                      refine cVv (rest := [.int (M_weight S uv)]) hx hb hml hts hown hK hE hI (cM_weights G ad S (M_nextPiece S uv) hN) kM_174 ⟨Nat.le_of_ble_eq_true rfl, Nat.le_of_ble_eq_true rfl⟩ rfl rfl (kk := 4) (ii := 0) rfl rfl rfl hl.1 rfl (Nat.le_of_ble_eq_true rfl) dX4_against_141 ⟨Nat.zero_le _, Nat.zero_le _⟩ (fun H locs hI => ?_)
                      refine lv_iadd hx hb dX4_against_144 ?_
                      refine lv_aload_n hx hb dX4_against_145 rfl (lv_at hl 1 rfl) ?_
                      refine lv_iload_n hx hb dX4_against_146 rfl (lv_at hl 0 rfl) ?_
                      refine lv_aload_n hx hb dX4_against_147 rfl (lv_at hl 1 rfl) ?_
                      refine gM_44 hx hb hts hown hK hI dX4_against_148 ?_
                      refine lv_iload_n hx hb dX4_against_151 rfl (lv_at hl 0 rfl) ?_
                      refine lM_14 hx hb hK hI hq dX4_against_152 ?_
                      refine cVv (rest := [.int ((M_weight S uv) + (M_weights S (M_nextPiece S uv)))]) hx hb hml hts hown hK hE hI (cM_bearsBy G ad S (M_nextPiece S uv) ((S.2 (M_nextPiece S uv).toNatClampNeg).1) hq ((S.2 (M_nextPiece S uv).toNatClampNeg).2)) kM_177 ⟨Nat.le_of_ble_eq_true rfl, Nat.le_of_ble_eq_true rfl⟩ rfl rfl (kk := 4) (ii := 0) rfl rfl rfl hl.1 rfl (Nat.le_of_ble_eq_true rfl) dX4_against_153 ⟨Nat.zero_le _, Nat.zero_le _⟩ (fun H locs hI => ?_)
                      have hJ84 : ∀ (x83 : Int32), (x83 = if ((M_weight S uv) + (M_weights S (M_nextPiece S uv))) ≤ (M_bearsBy S (M_nextPiece S uv) ((S.2 (M_nextPiece S uv).toNatClampNeg).1)) then 0 else 6) → W p G.1 e ({ frames := 2, cells := 0, slots := 0, locals := 44 }) s m args below meth c H locs 0 0 Q (F0 m 165 ls [.int x83]) := by
                        intro x83 ex83
                        have HE : M_against S uv = x83 := by subst ex83; exact (if_neg c1).trans ((if_pos c2).trans ((if_neg c31).trans ((if_neg c60).trans ((if_pos c61).trans ((if_pos c75).trans ((if_pos c77).trans ((if_neg c78).trans ((if_pos c82)))))))))
                        exact rt_i hx hb hr hlocks hI hA hQ ⟨by rw [HE], rfl⟩ (Nat.zero_le _) (Nat.zero_le _) dX4_against_165
                      refine lv_icmp_le (tgt := 164) hx hb dX4_against_156 (by decide) (fun c85 => ?_) (fun c85 => ?_)
                      · refine lv_iconst (v := 0) hx hb dX4_against_164 (by decide) ?_
                        exact hJ84 0 (by exact (if_pos c85).symm)
                      · refine lv_bipush (v := 6) hx hb dX4_against_159 (by decide) ?_
                        refine lv_goto (tgt := 165) hx hb dX4_against_161 (by decide) ?_
                        exact hJ84 6 (by exact (if_neg c85).symm)
                    · refine lv_iconst (v := 5) hx hb dX4_against_132 (by decide) ?_
                      have HE : M_against S uv = 5 := by exact (if_neg c1).trans ((if_pos c2).trans ((if_neg c31).trans ((if_neg c60).trans ((if_pos c61).trans ((if_pos c75).trans ((if_pos c77).trans ((if_neg c78).trans ((if_neg c82)))))))))
                      exact rt_i hx hb hr hlocks hI hA hQ ⟨by rw [HE], rfl⟩ (Nat.zero_le _) (Nat.zero_le _) dX4_against_133
                · refine lv_iconst (v := 4) hx hb dX4_against_112 (by decide) ?_
                  have HE : M_against S uv = 4 := by exact (if_neg c1).trans ((if_pos c2).trans ((if_neg c31).trans ((if_neg c60).trans ((if_pos c61).trans ((if_pos c75).trans ((if_neg c77)))))))
                  exact rt_i hx hb hr hlocks hI hA hQ ⟨by rw [HE], rfl⟩ (Nat.zero_le _) (Nat.zero_le _) dX4_against_113
              refine lv_if_eq (tgt := 101) hx hb dX4_against_94 (by decide) (fun c86 => ?_) (fun c86 => ?_)
              · refine lv_iconst (v := 0) hx hb dX4_against_101 (by decide) ?_
                have eb87 : (0 : Int32) = bI (¬ ((S.1 22 uv.toNatClampNeg) = 0)) := (bI_f (fun k => k c86)).symm
                rw [eb87]
                exact hJ76
              · refine lv_iconst (v := 1) hx hb dX4_against_97 (by decide) ?_
                refine lv_goto (tgt := 102) hx hb dX4_against_98 (by decide) ?_
                have eb88 : (1 : Int32) = bI (¬ ((S.1 22 uv.toNatClampNeg) = 0)) := (bI_t c86).symm
                rw [eb88]
                exact hJ76
            · refine lv_iconst (v := 3) hx hb dX4_against_75 (by decide) ?_
              have HE : M_against S uv = 3 := by exact (if_neg c1).trans ((if_pos c2).trans ((if_neg c31).trans ((if_neg c60).trans ((if_pos c61).trans ((if_neg c75))))))
              exact rt_i hx hb hr hlocks hI hA hQ ⟨by rw [HE], rfl⟩ (Nat.zero_le _) (Nat.zero_le _) dX4_against_76
        · refine lv_iconst (v := 2) hx hb dX4_against_52 (by decide) ?_
          have HE : M_against S uv = 2 := by exact (if_neg c1).trans ((if_pos c2).trans ((if_neg c31).trans ((if_pos c60))))
          exact rt_i hx hb hr hlocks hI hA hQ ⟨by rw [HE], rfl⟩ (Nat.zero_le _) (Nat.zero_le _) dX4_against_53
  · refine lv_iconst (v := 1) hx hb dX4_against_15 (by decide) ?_
    have HE : M_against S uv = 1 := by exact (if_pos c1)
    exact rt_i hx hb hr hlocks hI hA hQ ⟨by rw [HE], rfl⟩ (Nat.zero_le _) (Nat.zero_le _) dX4_against_16

def M_comes (S : MS) (uv : Int32) : MS :=
  let S3 := mset S 15 ((2 * (M_nextPiece S uv)) + (bI (¬ ((S.1 22 uv.toNatClampNeg) = 0)))).toNatClampNeg (S.1 0 0)
  let S4 := mset S3 21 uv.toNatClampNeg (M_nextPiece S uv)
  let x5 := if ¬ (((M_weight S uv) + (M_weights S (M_nextPiece S uv))) ≤ (M_bearsBy S (M_nextPiece S uv) (M_thick S (M_nextPiece S uv)))) then 4 else 1
  let S7 := mset S4 20 uv.toNatClampNeg x5
  let S8 := mset S7 23 uv.toNatClampNeg ((S7.1 0 0) + (M_minutesOn S7 uv (M_nextPiece S uv)))
  let S9 := if ¬ (((M_weight S uv) + (M_weights S (M_nextPiece S uv))) ≤ (M_bearsBy S (M_nextPiece S uv) (M_thick S (M_nextPiece S uv)))) then (mset (mset S8 12 (M_nextPiece S uv).toNatClampNeg 0) 11 (M_nextPiece S uv).toNatClampNeg (if M_isWater (mset S8 12 (M_nextPiece S uv).toNatClampNeg 0) (M_nextPiece S uv) then 2 else ((mset S8 12 (M_nextPiece S uv).toNatClampNeg 0).1 11 (M_nextPiece S uv).toNatClampNeg))) else S8
  S9
set_option maxHeartbeats 4000000 in
set_option maxRecDepth 100000 in
theorem cM_comes (G : GX) (ad : Nat → Nat) (S : MS) (uv : Int32) {np nv : Nat} (hv : vp_in uv 16) (hq : vp_in (M_nextPiece S uv) 10) (hN : MNn S np nv) (hsp : SPD S uv (M_nextPiece S uv)) : FC G yX4_comes cX4_comes 4 none ({ frames := 3, cells := 0, slots := 0, locals := 73 }) [.ref (ad 0), .int uv] (mW G.2.2.2 ad S) (p0 (mW G.2.2.2 ad (M_comes S uv))) := by
  refine FC.go (lv := [(0, .ref (ad 0)), (1, .int uv)]) (by decide) (Nat.le_of_ble_eq_true rfl) rfl (fun p e s m args below meth c A H locs ls Q hx hb hr hts hown hml hlocks hnm hK hE hI hA hl hQ => ?_)
  have hown : s.vm.findClass RX4 = some m.cls := hown
  refine lv_aload_n hx hb dX4_comes_0 rfl (lv_at hl 0 rfl) ?_
  refine lv_iload_n hx hb dX4_comes_1 rfl (lv_at hl 1 rfl) ?_
  refine cVv (rest := []) hx hb hml hts hown hK hE hI (cM_nextPiece G ad S uv hv) kM_164 ⟨Nat.le_of_ble_eq_true rfl, Nat.le_of_ble_eq_true rfl⟩ rfl rfl (kk := 4) (ii := 0) rfl rfl rfl hl.1 rfl (Nat.le_of_ble_eq_true rfl) dX4_comes_2 ⟨Nat.zero_le _, Nat.zero_le _⟩ (fun H locs hI => ?_)
  refine lv_istore_n (lv' := [(2, .int (M_nextPiece S uv)), (0, .ref (ad 0)), (1, .int uv)]) hx hb dX4_comes_5 rfl hl (by decide) rfl (fun ls hl => ?_)
  refine lv_aload_n hx hb dX4_comes_6 rfl (lv_at hl 1 rfl) ?_
  refine lv_iload_n hx hb dX4_comes_7 rfl (lv_at hl 2 rfl) ?_
  refine cVv (rest := []) hx hb hml hts hown hK hE hI (cM_weight G ad S uv hv) kM_129 ⟨Nat.le_of_ble_eq_true rfl, Nat.le_of_ble_eq_true rfl⟩ rfl rfl (kk := 4) (ii := 0) rfl rfl rfl hl.1 rfl (Nat.le_of_ble_eq_true rfl) dX4_comes_8 ⟨Nat.zero_le _, Nat.zero_le _⟩ (fun H locs hI => ?_)
  refine lv_aload_n hx hb dX4_comes_11 rfl (lv_at hl 1 rfl) ?_
  refine lv_iload_n hx hb dX4_comes_12 rfl (lv_at hl 0 rfl) ?_
  refine cVv (rest := [.int (M_weight S uv)]) hx hb hml hts hown hK hE hI (cM_weights G ad S (M_nextPiece S uv) hN) kM_174 ⟨Nat.le_of_ble_eq_true rfl, Nat.le_of_ble_eq_true rfl⟩ rfl rfl (kk := 4) (ii := 0) rfl rfl rfl hl.1 rfl (Nat.le_of_ble_eq_true rfl) dX4_comes_13 ⟨Nat.zero_le _, Nat.zero_le _⟩ (fun H locs hI => ?_)
  refine lv_iadd hx hb dX4_comes_16 ?_
  refine lv_aload_n hx hb dX4_comes_17 rfl (lv_at hl 1 rfl) ?_
  refine lv_iload_n hx hb dX4_comes_18 rfl (lv_at hl 0 rfl) ?_
  refine lv_aload_n hx hb dX4_comes_19 rfl (lv_at hl 1 rfl) ?_
  refine lv_iload_n hx hb dX4_comes_20 rfl (lv_at hl 0 rfl) ?_
  refine cVv (rest := [.int (M_nextPiece S uv), .ref (ad 0), .int ((M_weight S uv) + (M_weights S (M_nextPiece S uv)))]) hx hb hml hts hown hK hE hI (cM_thick G ad S (M_nextPiece S uv) hq) kM_117 ⟨Nat.le_of_ble_eq_true rfl, Nat.le_of_ble_eq_true rfl⟩ rfl rfl (kk := 4) (ii := 0) rfl rfl rfl hl.1 rfl (Nat.le_of_ble_eq_true rfl) dX4_comes_21 ⟨Nat.zero_le _, Nat.zero_le _⟩ (fun H locs hI => ?_)
  refine cVv (rest := [.int ((M_weight S uv) + (M_weights S (M_nextPiece S uv)))]) hx hb hml hts hown hK hE hI (cM_bearsBy G ad S (M_nextPiece S uv) (M_thick S (M_nextPiece S uv)) hq (nn_thick _ _)) kM_177 ⟨Nat.le_of_ble_eq_true rfl, Nat.le_of_ble_eq_true rfl⟩ rfl rfl (kk := 4) (ii := 0) rfl rfl rfl hl.1 rfl (Nat.le_of_ble_eq_true rfl) dX4_comes_24 ⟨Nat.zero_le _, Nat.zero_le _⟩ (fun H locs hI => ?_)
  have hJ1 : W p G.1 e ({ frames := 3, cells := 0, slots := 0, locals := 73 }) s m args below meth c H locs 0 0 Q (F0 m 35 ls [.int (bI (¬ (((M_weight S uv) + (M_weights S (M_nextPiece S uv))) ≤ (M_bearsBy S (M_nextPiece S uv) (M_thick S (M_nextPiece S uv))))))]) := by
    refine lv_istore_n (lv' := [(3, .int (bI (¬ (((M_weight S uv) + (M_weights S (M_nextPiece S uv))) ≤ (M_bearsBy S (M_nextPiece S uv) (M_thick S (M_nextPiece S uv))))))), (2, .int (M_nextPiece S uv)), (0, .ref (ad 0)), (1, .int uv)]) hx hb dX4_comes_35 rfl hl (by decide) rfl (fun ls hl => ?_)
    refine lv_aload_n hx hb dX4_comes_36 rfl (lv_at hl 2 rfl) ?_
    refine gM_48 hx hb hts hown hK hI dX4_comes_37 ?_
    refine lv_iconst (v := 2) hx hb dX4_comes_40 (by decide) ?_
    refine lv_iload_n hx hb dX4_comes_41 rfl (lv_at hl 1 rfl) ?_
    refine lv_imul hx hb dX4_comes_42 ?_
    refine lv_aload_n hx hb dX4_comes_43 rfl (lv_at hl 2 rfl) ?_
    refine gM_66 hx hb hts hown hK hI dX4_comes_44 ?_
    refine lv_iload_n hx hb dX4_comes_47 rfl (lv_at hl 3 rfl) ?_
    refine lM_22 hx hb hK hI hv dX4_comes_48 ?_
    have hJ2 : W p G.1 e ({ frames := 3, cells := 0, slots := 0, locals := 73 }) s m args below meth c H locs 0 0 Q (F0 m 57 ls [.int (bI (¬ ((S.1 22 uv.toNatClampNeg) = 0))), .int (2 * (M_nextPiece S uv)), .ref (ad 15)]) := by
      refine lv_iadd hx hb dX4_comes_57 ?_
      refine lv_aload_n hx hb dX4_comes_58 rfl (lv_at hl 2 rfl) ?_
      refine gM_167 hx hb hts hown hK hI dX4_comes_59 ?_
      obtain ⟨S3, eS3⟩ : ∃ z : MS, z = mset S 15 ((2 * (M_nextPiece S uv)) + (bI (¬ ((S.1 22 uv.toNatClampNeg) = 0)))).toNatClampNeg (S.1 0 0) := ⟨_, rfl⟩
      refine sM_15 hx hb hK hI (came_inb hq) eS3 dX4_comes_62 (fun H locs hI => ?_)
      refine lv_aload_n hx hb dX4_comes_63 rfl (lv_at hl 2 rfl) ?_
      refine gM_63 hx hb hts hown hK hI dX4_comes_64 ?_
      refine lv_iload_n hx hb dX4_comes_67 rfl (lv_at hl 3 rfl) ?_
      refine lv_iload_n hx hb dX4_comes_68 rfl (lv_at hl 1 rfl) ?_
      obtain ⟨S4, eS4⟩ : ∃ z : MS, z = mset S3 21 uv.toNatClampNeg (M_nextPiece S uv) := ⟨_, rfl⟩
      refine sM_21 hx hb hK hI hv eS4 dX4_comes_69 (fun H locs hI => ?_)
      refine lv_aload_n hx hb dX4_comes_70 rfl (lv_at hl 2 rfl) ?_
      refine gM_60 hx hb hts hown hK hI dX4_comes_71 ?_
      refine lv_iload_n hx hb dX4_comes_74 rfl (lv_at hl 3 rfl) ?_
      refine lv_iload_n hx hb dX4_comes_75 rfl (lv_at hl 0 rfl) ?_
      have hJ6 : ∀ (x5 : Int32), (x5 = if ¬ (((M_weight S uv) + (M_weights S (M_nextPiece S uv))) ≤ (M_bearsBy S (M_nextPiece S uv) (M_thick S (M_nextPiece S uv)))) then 4 else 1) → W p G.1 e ({ frames := 3, cells := 0, slots := 0, locals := 73 }) s m args below meth c H locs 0 0 Q (F0 m 84 ls [.int x5, .int uv, .ref (ad 20)]) := by
        intro x5 ex5
        obtain ⟨S7, eS7⟩ : ∃ z : MS, z = mset S4 20 uv.toNatClampNeg x5 := ⟨_, rfl⟩
        refine sM_20 hx hb hK hI hv eS7 dX4_comes_84 (fun H locs hI => ?_)
        refine lv_aload_n hx hb dX4_comes_85 rfl (lv_at hl 2 rfl) ?_
        refine gM_70 hx hb hts hown hK hI dX4_comes_86 ?_
        refine lv_iload_n hx hb dX4_comes_89 rfl (lv_at hl 3 rfl) ?_
        refine lv_aload_n hx hb dX4_comes_90 rfl (lv_at hl 2 rfl) ?_
        refine gM_167 hx hb hts hown hK hI dX4_comes_91 ?_
        refine lv_aload_n hx hb dX4_comes_94 rfl (lv_at hl 2 rfl) ?_
        refine lv_iload_n hx hb dX4_comes_95 rfl (lv_at hl 3 rfl) ?_
        refine lv_iload_n hx hb dX4_comes_96 rfl (lv_at hl 1 rfl) ?_
        refine cVv (rest := [.int (S7.1 0 0), .int uv, .ref (ad 23)]) hx hb hml hts hown hK hE hI (cM_minutesOn G ad S7 uv (M_nextPiece S uv) hv hq (SPD_set (SPD_set (SPD_set hsp (by decide) (by decide) (by decide) eS3) (by decide) (by decide) (by decide) eS4) (by decide) (by decide) (by decide) eS7)) kM_181 ⟨Nat.le_of_ble_eq_true rfl, Nat.le_of_ble_eq_true rfl⟩ rfl rfl (kk := 4) (ii := 0) rfl rfl rfl hl.1 rfl (Nat.le_of_ble_eq_true rfl) dX4_comes_97 ⟨Nat.zero_le _, Nat.zero_le _⟩ (fun H locs hI => ?_)
        refine lv_iadd hx hb dX4_comes_100 ?_
        obtain ⟨S8, eS8⟩ : ∃ z : MS, z = mset S7 23 uv.toNatClampNeg ((S7.1 0 0) + (M_minutesOn S7 uv (M_nextPiece S uv))) := ⟨_, rfl⟩
        refine sM_23 hx hb hK hI hv eS8 dX4_comes_101 (fun H locs hI => ?_)
        refine lv_iload_n hx hb dX4_comes_102 rfl (lv_at hl 0 rfl) ?_
        have hJ12 : ∀ (S9 : MS) (H : Heap) (locs : List Loc), (S9 = if ¬ (((M_weight S uv) + (M_weights S (M_nextPiece S uv))) ≤ (M_bearsBy S (M_nextPiece S uv) (M_thick S (M_nextPiece S uv)))) then (mset (mset S8 12 (M_nextPiece S uv).toNatClampNeg 0) 11 (M_nextPiece S uv).toNatClampNeg (if M_isWater (mset S8 12 (M_nextPiece S uv).toNatClampNeg 0) (M_nextPiece S uv) then 2 else ((mset S8 12 (M_nextPiece S uv).toNatClampNeg 0).1 11 (M_nextPiece S uv).toNatClampNeg))) else S8) → (fI G.2.2.1 A s.heap (mW G.2.2.2 ad S9) H locs) → (MNn S9 np nv) → (SPD S9 uv (M_nextPiece S uv)) → W p G.1 e ({ frames := 3, cells := 0, slots := 0, locals := 73 }) s m args below meth c H locs 0 0 Q (F0 m 137 ls []) := by
          intro S9 H locs eS9 hI hf10 hf11
          have HE : M_comes S uv = S9 := by subst eS9 eS8 eS7 ex5 eS4 eS3; exact rfl
          exact rt_v hx hb hr hlocks hI hA hQ ⟨rfl, by rw [HE]⟩ (Nat.zero_le _) (Nat.zero_le _) dX4_comes_137
        refine xb_eq (tgt := 137) hx hb dX4_comes_103 (by decide) (fun c13 => ?_) (fun c13 => ?_)
        · exact hJ12 S8 _ _ (by exact (if_neg c13).symm) hI (MNn_set (MNn_set (MNn_set (MNn_set hN (by decide) (by decide) eS3) (by decide) (by decide) eS4) (by decide) (by decide) eS7) (by decide) (by decide) eS8) (SPD_set (SPD_set (SPD_set (SPD_set hsp (by decide) (by decide) (by decide) eS3) (by decide) (by decide) (by decide) eS4) (by decide) (by decide) (by decide) eS7) (by decide) (by decide) (by decide) eS8)
        · refine lv_aload_n hx hb dX4_comes_106 rfl (lv_at hl 2 rfl) ?_
          refine gM_38 hx hb hts hown hK hI dX4_comes_107 ?_
          refine lv_iload_n hx hb dX4_comes_110 rfl (lv_at hl 1 rfl) ?_
          refine lv_iconst (v := 0) hx hb dX4_comes_111 (by decide) ?_
          obtain ⟨S14, eS14⟩ : ∃ z : MS, z = mset S8 12 (M_nextPiece S uv).toNatClampNeg 0 := ⟨_, rfl⟩
          refine sM_12 hx hb hK hI hq eS14 dX4_comes_112 (fun H locs hI => ?_)
          refine lv_aload_n hx hb dX4_comes_113 rfl (lv_at hl 2 rfl) ?_
          refine gM_35 hx hb hts hown hK hI dX4_comes_114 ?_
          refine lv_iload_n hx hb dX4_comes_117 rfl (lv_at hl 1 rfl) ?_
          refine lv_aload_n hx hb dX4_comes_118 rfl (lv_at hl 2 rfl) ?_
          refine lv_iload_n hx hb dX4_comes_119 rfl (lv_at hl 1 rfl) ?_
          refine cVv (rest := [.int (M_nextPiece S uv), .ref (ad 11)]) hx hb hml hts hown hK hE hI (cM_isWater G ad S14 (M_nextPiece S uv) hq) kM_112 ⟨Nat.le_of_ble_eq_true rfl, Nat.le_of_ble_eq_true rfl⟩ rfl rfl (kk := 4) (ii := 0) rfl rfl rfl hl.1 rfl (Nat.le_of_ble_eq_true rfl) dX4_comes_120 ⟨Nat.zero_le _, Nat.zero_le _⟩ (fun H locs hI => ?_)
          have hJ16 : ∀ (x15 : Int32), (x15 = if M_isWater S14 (M_nextPiece S uv) then 2 else (S14.1 11 (M_nextPiece S uv).toNatClampNeg)) → W p G.1 e ({ frames := 3, cells := 0, slots := 0, locals := 73 }) s m args below meth c H locs 0 0 Q (F0 m 136 ls [.int x15, .int (M_nextPiece S uv), .ref (ad 11)]) := by
            intro x15 ex15
            obtain ⟨S17, eS17⟩ : ∃ z : MS, z = mset S14 11 (M_nextPiece S uv).toNatClampNeg x15 := ⟨_, rfl⟩
            refine sM_11 hx hb hK hI hq eS17 dX4_comes_136 (fun H locs hI => ?_)
            exact hJ12 S17 _ _ (by subst eS17 ex15 eS14; exact (if_pos c13).symm) hI (MNn_set (MNn_set (MNn_set (MNn_set (MNn_set (MNn_set hN (by decide) (by decide) eS3) (by decide) (by decide) eS4) (by decide) (by decide) eS7) (by decide) (by decide) eS8) (by decide) (by decide) eS14) (by decide) (by decide) eS17) (SPD_set (SPD_set (SPD_set (SPD_set (SPD_set (SPD_set hsp (by decide) (by decide) (by decide) eS3) (by decide) (by decide) (by decide) eS4) (by decide) (by decide) (by decide) eS7) (by decide) (by decide) (by decide) eS8) (by decide) (by decide) (by decide) eS14) (by decide) (by decide) (by decide) eS17)
          refine xb_eq (tgt := 130) hx hb dX4_comes_123 (by decide) (fun c18 => ?_) (fun c18 => ?_)
          · refine lv_aload_n hx hb dX4_comes_130 rfl (lv_at hl 2 rfl) ?_
            refine gM_35 hx hb hts hown hK hI dX4_comes_131 ?_
            refine lv_iload_n hx hb dX4_comes_134 rfl (lv_at hl 1 rfl) ?_
            refine lM_11 hx hb hK hI hq dX4_comes_135 ?_
            exact hJ16 (S14.1 11 (M_nextPiece S uv).toNatClampNeg) (by exact (if_neg c18).symm)
          · refine lv_iconst (v := 2) hx hb dX4_comes_126 (by decide) ?_
            refine lv_goto (tgt := 136) hx hb dX4_comes_127 (by decide) ?_
            exact hJ16 2 (by exact (if_pos c18).symm)
      refine xb_eq (tgt := 83) hx hb dX4_comes_76 (by decide) (fun c19 => ?_) (fun c19 => ?_)
      · refine lv_iconst (v := 1) hx hb dX4_comes_83 (by decide) ?_
        exact hJ6 1 (by exact (if_neg c19).symm)
      · refine lv_iconst (v := 4) hx hb dX4_comes_79 (by decide) ?_
        refine lv_goto (tgt := 84) hx hb dX4_comes_80 (by decide) ?_
        exact hJ6 4 (by exact (if_pos c19).symm)
    refine lv_if_eq (tgt := 56) hx hb dX4_comes_49 (by decide) (fun c20 => ?_) (fun c20 => ?_)
    · refine lv_iconst (v := 0) hx hb dX4_comes_56 (by decide) ?_
      have eb21 : (0 : Int32) = bI (¬ ((S.1 22 uv.toNatClampNeg) = 0)) := (bI_f (fun k => k c20)).symm
      rw [eb21]
      exact hJ2
    · refine lv_iconst (v := 1) hx hb dX4_comes_52 (by decide) ?_
      refine lv_goto (tgt := 57) hx hb dX4_comes_53 (by decide) ?_
      have eb22 : (1 : Int32) = bI (¬ ((S.1 22 uv.toNatClampNeg) = 0)) := (bI_t c20).symm
      rw [eb22]
      exact hJ2
  refine lv_icmp_le (tgt := 34) hx hb dX4_comes_27 (by decide) (fun c23 => ?_) (fun c23 => ?_)
  · refine lv_iconst (v := 0) hx hb dX4_comes_34 (by decide) ?_
    have eb24 : (0 : Int32) = bI (¬ (((M_weight S uv) + (M_weights S (M_nextPiece S uv))) ≤ (M_bearsBy S (M_nextPiece S uv) (M_thick S (M_nextPiece S uv))))) := (bI_f (fun k => k c23)).symm
    rw [eb24]
    exact hJ1
  · refine lv_iconst (v := 1) hx hb dX4_comes_30 (by decide) ?_
    refine lv_goto (tgt := 35) hx hb dX4_comes_31 (by decide) ?_
    have eb25 : (1 : Int32) = bI (¬ (((M_weight S uv) + (M_weights S (M_nextPiece S uv))) ≤ (M_bearsBy S (M_nextPiece S uv) (M_thick S (M_nextPiece S uv))))) := (bI_t c23).symm
    rw [eb25]
    exact hJ1

def M_leaves (S : MS) (uv : Int32) : MS :=
  let S1 := if M_isWater S (S.1 21 uv.toNatClampNeg) then (mset S 7 (S.1 21 uv.toNatClampNeg).toNatClampNeg (if 0 ≤ ((S.1 7 (S.1 21 uv.toNatClampNeg).toNatClampNeg) - ((M_weight S uv) / 20000)) then ((S.1 7 (S.1 21 uv.toNatClampNeg).toNatClampNeg) - ((M_weight S uv) / 20000)) else 0)) else S
  let x4 := if (S1.1 22 uv.toNatClampNeg) = 0 then (S.1 21 uv.toNatClampNeg) else ((S.1 21 uv.toNatClampNeg) + 1)
  let S6 := mset S1 21 uv.toNatClampNeg x4
  let S7 := mset S6 20 uv.toNatClampNeg 2
  let S8 := if M_isThere S7 uv then (M_arrives S7 uv) else S7
  S8
set_option maxHeartbeats 4000000 in
set_option maxRecDepth 100000 in
theorem cM_leaves (G : GX) (ad : Nat → Nat) (S : MS) (uv : Int32) (hv : vp_in uv 16) (hpl : vp_in (S.1 21 uv.toNatClampNeg) 10) (hG : GI S) : FC G yX4_leaves cX4_leaves 4 none ({ frames := 2, cells := 0, slots := 0, locals := 43 }) [.ref (ad 0), .int uv] (mW G.2.2.2 ad S) (p0 (mW G.2.2.2 ad (M_leaves S uv))) := by
  refine FC.go (lv := [(0, .ref (ad 0)), (1, .int uv)]) (by decide) (Nat.le_of_ble_eq_true rfl) rfl (fun p e s m args below meth c A H locs ls Q hx hb hr hts hown hml hlocks hnm hK hE hI hA hl hQ => ?_)
  have hown : s.vm.findClass RX4 = some m.cls := hown
  refine lv_aload_n hx hb dX4_leaves_0 rfl (lv_at hl 0 rfl) ?_
  refine gM_63 hx hb hts hown hK hI dX4_leaves_1 ?_
  refine lv_iload_n hx hb dX4_leaves_4 rfl (lv_at hl 1 rfl) ?_
  refine lM_21 hx hb hK hI hv dX4_leaves_5 ?_
  refine lv_istore_n (lv' := [(2, .int (S.1 21 uv.toNatClampNeg)), (0, .ref (ad 0)), (1, .int uv)]) hx hb dX4_leaves_6 rfl hl (by decide) rfl (fun ls hl => ?_)
  refine lv_aload_n hx hb dX4_leaves_7 rfl (lv_at hl 1 rfl) ?_
  refine lv_iload_n hx hb dX4_leaves_8 rfl (lv_at hl 0 rfl) ?_
  refine cVv (rest := []) hx hb hml hts hown hK hE hI (cM_isWater G ad S (S.1 21 uv.toNatClampNeg) hpl) kM_112 ⟨Nat.le_of_ble_eq_true rfl, Nat.le_of_ble_eq_true rfl⟩ rfl rfl (kk := 4) (ii := 0) rfl rfl rfl hl.1 rfl (Nat.le_of_ble_eq_true rfl) dX4_leaves_9 ⟨Nat.zero_le _, Nat.zero_le _⟩ (fun H locs hI => ?_)
  have hJ3 : ∀ (S1 : MS) (H : Heap) (locs : List Loc) (ls : Array Slot), (S1 = if M_isWater S (S.1 21 uv.toNatClampNeg) then (mset S 7 (S.1 21 uv.toNatClampNeg).toNatClampNeg (if 0 ≤ ((S.1 7 (S.1 21 uv.toNatClampNeg).toNatClampNeg) - ((M_weight S uv) / 20000)) then ((S.1 7 (S.1 21 uv.toNatClampNeg).toNatClampNeg) - ((M_weight S uv) / 20000)) else 0)) else S) → (fI G.2.2.1 A s.heap (mW G.2.2.2 ad S1) H locs) → (GI S1) → (lv_has ls 4 [(2, .int (S.1 21 uv.toNatClampNeg)), (0, .ref (ad 0)), (1, .int uv)]) → W p G.1 e ({ frames := 2, cells := 0, slots := 0, locals := 43 }) s m args below meth c H locs 0 0 Q (F0 m 47 ls []) := by
    intro S1 H locs ls eS1 hI hf2 hl
    refine lv_aload_n hx hb dX4_leaves_47 rfl (lv_at hl 1 rfl) ?_
    refine gM_63 hx hb hts hown hK hI dX4_leaves_48 ?_
    refine lv_iload_n hx hb dX4_leaves_51 rfl (lv_at hl 2 rfl) ?_
    refine lv_aload_n hx hb dX4_leaves_52 rfl (lv_at hl 1 rfl) ?_
    refine gM_66 hx hb hts hown hK hI dX4_leaves_53 ?_
    refine lv_iload_n hx hb dX4_leaves_56 rfl (lv_at hl 2 rfl) ?_
    refine lM_22 hx hb hK hI hv dX4_leaves_57 ?_
    have hJ5 : ∀ (x4 : Int32), (x4 = if (S1.1 22 uv.toNatClampNeg) = 0 then (S.1 21 uv.toNatClampNeg) else ((S.1 21 uv.toNatClampNeg) + 1)) → W p G.1 e ({ frames := 2, cells := 0, slots := 0, locals := 43 }) s m args below meth c H locs 0 0 Q (F0 m 68 ls [.int x4, .int uv, .ref (ad 21)]) := by
      intro x4 ex4
      obtain ⟨S6, eS6⟩ : ∃ z : MS, z = mset S1 21 uv.toNatClampNeg x4 := ⟨_, rfl⟩
      refine sM_21 hx hb hK hI hv eS6 dX4_leaves_68 (fun H locs hI => ?_)
      refine lv_aload_n hx hb dX4_leaves_69 rfl (lv_at hl 1 rfl) ?_
      refine gM_60 hx hb hts hown hK hI dX4_leaves_70 ?_
      refine lv_iload_n hx hb dX4_leaves_73 rfl (lv_at hl 2 rfl) ?_
      refine lv_iconst (v := 2) hx hb dX4_leaves_74 (by decide) ?_
      obtain ⟨S7, eS7⟩ : ∃ z : MS, z = mset S6 20 uv.toNatClampNeg 2 := ⟨_, rfl⟩
      refine sM_20 hx hb hK hI hv eS7 dX4_leaves_75 (fun H locs hI => ?_)
      refine lv_aload_n hx hb dX4_leaves_76 rfl (lv_at hl 1 rfl) ?_
      refine lv_iload_n hx hb dX4_leaves_77 rfl (lv_at hl 2 rfl) ?_
      refine cVv (rest := []) hx hb hml hts hown hK hE hI (cM_isThere G ad S7 uv hv) kM_137 ⟨Nat.le_of_ble_eq_true rfl, Nat.le_of_ble_eq_true rfl⟩ rfl rfl (kk := 4) (ii := 0) rfl rfl rfl hl.1 rfl (Nat.le_of_ble_eq_true rfl) dX4_leaves_78 ⟨Nat.zero_le _, Nat.zero_le _⟩ (fun H locs hI => ?_)
      have hJ9 : ∀ (S8 : MS) (H : Heap) (locs : List Loc), (S8 = if M_isThere S7 uv then (M_arrives S7 uv) else S7) → (fI G.2.2.1 A s.heap (mW G.2.2.2 ad S8) H locs) → W p G.1 e ({ frames := 2, cells := 0, slots := 0, locals := 43 }) s m args below meth c H locs 0 0 Q (F0 m 89 ls []) := by
        intro S8 H locs eS8 hI
        have HE : M_leaves S uv = S8 := by subst eS8 eS7 eS6 ex4 eS1; exact rfl
        exact rt_v hx hb hr hlocks hI hA hQ ⟨rfl, by rw [HE]⟩ (Nat.zero_le _) (Nat.zero_le _) dX4_leaves_89
      refine xb_eq (tgt := 89) hx hb dX4_leaves_81 (by decide) (fun c10 => ?_) (fun c10 => ?_)
      · exact hJ9 S7 _ _ (by exact (if_neg c10).symm) hI
      · refine lv_aload_n hx hb dX4_leaves_84 rfl (lv_at hl 1 rfl) ?_
        refine lv_iload_n hx hb dX4_leaves_85 rfl (lv_at hl 2 rfl) ?_
        obtain ⟨S11, eS11⟩ : ∃ z : MS, z = M_arrives S7 uv := ⟨_, rfl⟩
        refine cV0 (rest := []) hx hb hml hts hown hK hE hI (cM_arrives G ad S7 uv hv (GI_set (GI_set hf2 (by decide) (by decide) eS6) (by decide) (by decide) eS7)) kM_140 ⟨Nat.le_of_ble_eq_true rfl, Nat.le_of_ble_eq_true rfl⟩ rfl rfl (kk := 4) (ii := 0) rfl rfl rfl hl.1 rfl (Nat.le_of_ble_eq_true rfl) dX4_leaves_86 ⟨Nat.zero_le _, Nat.zero_le _⟩ (fun H locs hI => ?_)
        rw [← eS11] at hI
        exact hJ9 S11 _ _ (by subst eS11; exact (if_pos c10).symm) hI
    refine lv_if_eq (tgt := 67) hx hb dX4_leaves_58 (by decide) (fun c12 => ?_) (fun c12 => ?_)
    · refine lv_iload_n hx hb dX4_leaves_67 rfl (lv_at hl 0 rfl) ?_
      exact hJ5 (S.1 21 uv.toNatClampNeg) (by exact (if_pos c12).symm)
    · refine lv_iload_n hx hb dX4_leaves_61 rfl (lv_at hl 0 rfl) ?_
      refine lv_iconst (v := 1) hx hb dX4_leaves_62 (by decide) ?_
      refine lv_iadd hx hb dX4_leaves_63 ?_
      refine lv_goto (tgt := 68) hx hb dX4_leaves_64 (by decide) ?_
      exact hJ5 ((S.1 21 uv.toNatClampNeg) + 1) (by exact (if_neg c12).symm)
  refine xb_eq (tgt := 47) hx hb dX4_leaves_12 (by decide) (fun c13 => ?_) (fun c13 => ?_)
  · exact hJ3 S _ _ _ (by exact (if_neg c13).symm) hI hG (lv_sub hl [0, 1, 2] rfl)
  · refine lv_aload_n hx hb dX4_leaves_15 rfl (lv_at hl 1 rfl) ?_
    refine gM_23 hx hb hts hown hK hI dX4_leaves_16 ?_
    refine lv_iload_n hx hb dX4_leaves_19 rfl (lv_at hl 0 rfl) ?_
    refine lM_7 hx hb hK hI hpl dX4_leaves_20 ?_
    refine lv_aload_n hx hb dX4_leaves_21 rfl (lv_at hl 1 rfl) ?_
    refine lv_iload_n hx hb dX4_leaves_22 rfl (lv_at hl 2 rfl) ?_
    refine cVv (rest := [.int (S.1 7 (S.1 21 uv.toNatClampNeg).toNatClampNeg)]) hx hb hml hts hown hK hE hI (cM_weight G ad S uv hv) kM_129 ⟨Nat.le_of_ble_eq_true rfl, Nat.le_of_ble_eq_true rfl⟩ rfl rfl (kk := 4) (ii := 0) rfl rfl rfl hl.1 rfl (Nat.le_of_ble_eq_true rfl) dX4_leaves_23 ⟨Nat.zero_le _, Nat.zero_le _⟩ (fun H locs hI => ?_)
    refine lv_sipush (v := 20000) hx hb dX4_leaves_26 (by decide) ?_
    refine lv_idiv hx hb dX4_leaves_29 (by decide) ?_
    refine lv_isub hx hb dX4_leaves_30 ?_
    refine lv_istore_n (lv' := [(3, .int ((S.1 7 (S.1 21 uv.toNatClampNeg).toNatClampNeg) - ((M_weight S uv) / 20000))), (2, .int (S.1 21 uv.toNatClampNeg)), (0, .ref (ad 0)), (1, .int uv)]) hx hb dX4_leaves_31 rfl hl (by decide) rfl (fun ls hl => ?_)
    refine lv_aload_n hx hb dX4_leaves_32 rfl (lv_at hl 2 rfl) ?_
    refine gM_23 hx hb hts hown hK hI dX4_leaves_33 ?_
    refine lv_iload_n hx hb dX4_leaves_36 rfl (lv_at hl 1 rfl) ?_
    refine lv_iload_n hx hb dX4_leaves_37 rfl (lv_at hl 0 rfl) ?_
    have hJ15 : ∀ (x14 : Int32), (x14 = if 0 ≤ ((S.1 7 (S.1 21 uv.toNatClampNeg).toNatClampNeg) - ((M_weight S uv) / 20000)) then ((S.1 7 (S.1 21 uv.toNatClampNeg).toNatClampNeg) - ((M_weight S uv) / 20000)) else 0) → W p G.1 e ({ frames := 2, cells := 0, slots := 0, locals := 43 }) s m args below meth c H locs 0 0 Q (F0 m 46 ls [.int x14, .int (S.1 21 uv.toNatClampNeg), .ref (ad 7)]) := by
      intro x14 ex14
      obtain ⟨S16, eS16⟩ : ∃ z : MS, z = mset S 7 (S.1 21 uv.toNatClampNeg).toNatClampNeg x14 := ⟨_, rfl⟩
      refine sM_7 hx hb hK hI hpl eS16 dX4_leaves_46 (fun H locs hI => ?_)
      exact hJ3 S16 _ _ _ (by subst eS16 ex14; exact (if_pos c13).symm) hI (GI_set hG (by decide) (by decide) eS16) (lv_sub hl [1, 2, 3] rfl)
    refine lv_if_ge (tgt := 45) hx hb dX4_leaves_38 (by decide) (fun c17 => ?_) (fun c17 => ?_)
    · refine lv_iload_n hx hb dX4_leaves_45 rfl (lv_at hl 0 rfl) ?_
      exact hJ15 ((S.1 7 (S.1 21 uv.toNatClampNeg).toNatClampNeg) - ((M_weight S uv) / 20000)) (by exact (if_pos c17).symm)
    · refine lv_iconst (v := 0) hx hb dX4_leaves_41 (by decide) ?_
      refine lv_goto (tgt := 46) hx hb dX4_leaves_42 (by decide) ?_
      exact hJ15 0 (by exact (if_neg c17).symm)
