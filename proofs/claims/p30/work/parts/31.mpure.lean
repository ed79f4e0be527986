/-! ===== the reference, its pure functions alone (nothing of it is in this claim: a middle between the class and the law) ===== -/
abbrev NN : Type := { x : UInt64 // vf_n64 x }
abbrev MS : Type := (Nat → Nat → Int32) × (Nat → NN)
def mset (S : MS) (k j : Nat) (v : Int32) : MS := (fun k' j' => if k' = k ∧ j' = j then v else S.1 k' j', S.2)
def mkset (S : MS) (j : Nat) (v : NN) : MS := (S.1, fun j' => if j' = j then v else S.2 j')
theorem mset_s {S : MS} {k j : Nat} {v : Int32} : (mset S k j v).1 k j = v := if_pos ⟨rfl, rfl⟩
theorem mset_n {S : MS} {k j k' j' : Nat} {v : Int32} (h : ¬ (k' = k ∧ j' = j)) : (mset S k j v).1 k' j' = S.1 k' j' := if_neg h
theorem mset_k {S : MS} {k j k' : Nat} {v : Int32} (h : k' ≠ k) : (mset S k j v).1 k' = S.1 k' := funext fun _ => if_neg fun z => h z.1
theorem mset_u {S : MS} {k j : Nat} {v : Int32} : (mset S k j v).1 k = upd (S.1 k) j v := funext fun x => by
  by_cases h : x = j
  · subst h
    simp [mset, upd]
  · simp [mset, upd, h]
def mLen (i : Nat) : Nat := if i = 15 then 20 else if 4 ≤ i ∧ i ≤ 14 then 10 else if 17 ≤ i ∧ i ≤ 25 then 16 else if 26 ≤ i ∧ i ≤ 28 then 3 else 0
def M_thrown (S : MS) : Int32 :=
  S.1 29 0
def M_fails (S : MS) (uk : Int32) : Int32 × MS :=
  let S1 := mset S 29 0 uk
  (bI (¬ (uk ≤ 0)), S1)
abbrev M_isIn (S : MS) (uv : Int32) (ua : Int32) (ub : Int32) : Prop :=
  (¬ (uv < ua)) ∧ (¬ (ub < uv))
abbrev M_isPiece (S : MS) (up : Int32) : Prop :=
  M_isIn S up 0 ((S.1 3 0) - 1)
abbrev M_isVehicle (S : MS) (uv : Int32) : Prop :=
  M_isIn S uv 0 ((S.1 16 0) - 1)
abbrev M_isGoods (S : MS) (ug : Int32) : Prop :=
  M_isIn S ug 0 2
def MNn (S : MS) (np nv : Nat) : Prop := S.1 3 0 = nI np ∧ np ≤ 10 ∧ S.1 16 0 = nI nv ∧ nv ≤ 16
theorem MNn_set {S S1 : MS} {np nv k j : Nat} {v : Int32} (h : MNn S np nv) (h3 : k ≠ 3) (h16 : k ≠ 16) (e : S1 = mset S k j v) : MNn S1 np nv := by
  subst e
  unfold MNn
  rw [mset_k (fun z => h3 z.symm), mset_k (fun z => h16 z.symm)]
  exact h
theorem MNn_kn {S S1 : MS} {np nv j : Nat} {v : NN} (h : MNn S np nv) (e : S1 = mkset S j v) : MNn S1 np nv := by
  subst e
  exact h
theorem cnt_in {x : Int32} {n N : Nat} (hn : n ≤ N) (hN : N < 1000) (h : (¬ x < 0) ∧ ¬ nI n - 1 < x) : vp_in x N := by
  obtain ⟨h0, h1⟩ := h
  rw [vp_in_iff]
  rw [Int32.lt_iff_toInt_lt, Int32.toInt_zero] at h0
  cases n with
  | zero =>
    rw [Int32.lt_iff_toInt_lt] at h1
    have e : (nI 0 - 1).toInt = -1 := by decide
    omega
  | succ k =>
    rw [nI_pred, Int32.lt_iff_toInt_lt, nI_toInt (by omega)] at h1
    omega
theorem isPiece_in {S : MS} {np nv : Nat} {p : Int32} (h : MNn S np nv) (hp : M_isPiece S p) : vp_in p 10 := cnt_in h.2.1 (by decide) (by rw [← h.1]; exact hp)
theorem isVehicle_in {S : MS} {np nv : Nat} {p : Int32} (h : MNn S np nv) (hp : M_isVehicle S p) : vp_in p 16 := cnt_in h.2.2.2 (by decide) (by rw [← h.2.2.1]; exact hp)
theorem isGoods_in {S : MS} {g : Int32} (h : M_isGoods S g) : vp_in g 3 := cnt_in (n := 3) (Nat.le_refl _) (by decide) h
def GI (S : MS) : Prop := ∀ j : Nat, ¬ (S.1 24 j ≤ 0) → vp_in (S.1 25 j) 3
theorem GI_set {S S1 : MS} {k j : Nat} {v : Int32} (h : GI S) (h3 : k ≠ 24) (h16 : k ≠ 25) (e : S1 = mset S k j v) : GI S1 := by
  subst e
  intro i
  rw [mset_k (fun z => h3 z.symm), mset_k (fun z => h16 z.symm)]
  exact h i
theorem fz_den {S S1 S2 : MS} {j : Nat} {x : Int32} (e1 : S1 = mset S 9 j (S.1 9 j - x)) (e2 : S2 = mset S1 8 j (S1.1 8 j + x)) (h : ¬ (((S.1 7 j + (S.1 8 j + x)) + 4 * S.1 10 j) + 50 = 0)) : ¬ (((S2.1 7 j + S2.1 8 j) + 4 * S2.1 10 j) + 50 = 0) := by
  subst e1
  subst e2
  rw [mset_s, mset_k (k' := 7) (by decide), mset_k (k' := 7) (by decide), mset_k (k' := 10) (by decide), mset_k (k' := 10) (by decide), mset_k (k' := 8) (by decide)]
  exact h
theorem nI_two (n : Nat) : 2 * nI n = nI (2 * n) := by
  rw [show (2 : Int32) = nI 2 from rfl]; exact (Int32.ofNat_mul 2 n).symm
theorem came_in {p x : Int32} {c : Prop} [Decidable c] (hp : vp_in p 10) (h : x = if c then 0 else 1) : vp_in (2 * p + x) 20 := by
  obtain ⟨j, hj, rfl⟩ := vp_in_of hp (by decide)
  rw [nI_two, h]
  split
  · rw [show (0 : Int32) = nI 0 from rfl, nI_add]; exact vp_in_nI (by omega) (by decide)
  · rw [nI_1]; exact vp_in_nI (by omega) (by decide)
theorem np_lt {S : MS} {np nv : Nat} (h : MNn S np nv) (hn : ¬ S.1 3 0 = 10) : np < 10 := by
  rcases Nat.lt_or_ge np 10 with k | k
  · exact k
  · exact absurd (by rw [h.1, show np = 10 from Nat.le_antisymm h.2.1 k]; rfl) hn
theorem nv_lt {S : MS} {np nv : Nat} (h : MNn S np nv) (hn : ¬ S.1 16 0 = 16) : nv < 16 := by
  rcases Nat.lt_or_ge nv 16 with k | k
  · exact k
  · exact absurd (by rw [h.2.2.1, show nv = 16 from Nat.le_antisymm h.2.2.2 k]; rfl) hn
theorem pc_in {S : MS} {np nv : Nat} (h : MNn S np nv) (hl : np < 10) : vp_in (S.1 3 0) 10 := by
  rw [h.1]; exact vp_in_nI hl (by decide)
theorem pc_in2 {S : MS} {np nv : Nat} (h : MNn S np nv) (hl : np < 10) : vp_in (2 * S.1 3 0) 20 := by
  rw [h.1, nI_two]; exact vp_in_nI (by omega) (by decide)
theorem pc_in3 {S : MS} {np nv : Nat} (h : MNn S np nv) (hl : np < 10) : vp_in (2 * S.1 3 0 + 1) 20 := by
  rw [h.1, nI_two, nI_1]; exact vp_in_nI (by omega) (by decide)
theorem vc_in {S : MS} {np nv : Nat} (h : MNn S np nv) (hl : nv < 16) : vp_in (S.1 16 0) 16 := by
  rw [h.2.2.1]; exact vp_in_nI hl (by decide)
theorem sw_out7 {x : Int32} (h0 : ¬ x = 0) (h1 : ¬ x = 1) (h2 : ¬ x = 2) (h3 : ¬ x = 3) (h4 : ¬ x = 4) (h5 : ¬ x = 5) (h6 : ¬ x = 6) : x.toInt < 0 ∨ 6 < x.toInt := by
  rw [← Int32.toInt_inj] at h0 h1 h2 h3 h4 h5 h6
  have e0 : (0 : Int32).toInt = 0 := by decide
  have e1 : (1 : Int32).toInt = 1 := by decide
  have e2 : (2 : Int32).toInt = 2 := by decide
  have e3 : (3 : Int32).toInt = 3 := by decide
  have e4 : (4 : Int32).toInt = 4 := by decide
  have e5 : (5 : Int32).toInt = 5 := by decide
  have e6 : (6 : Int32).toInt = 6 := by decide
  omega
theorem sw_out6 {x : Int32} (h0 : ¬ x = 0) (h1 : ¬ x = 1) (h2 : ¬ x = 2) (h3 : ¬ x = 3) (h4 : ¬ x = 4) (h5 : ¬ x = 5) : x.toInt < 0 ∨ 5 < x.toInt := by
  rw [← Int32.toInt_inj] at h0 h1 h2 h3 h4 h5
  have e0 : (0 : Int32).toInt = 0 := by decide
  have e1 : (1 : Int32).toInt = 1 := by decide
  have e2 : (2 : Int32).toInt = 2 := by decide
  have e3 : (3 : Int32).toInt = 3 := by decide
  have e4 : (4 : Int32).toInt = 4 := by decide
  have e5 : (5 : Int32).toInt = 5 := by decide
  omega
abbrev M_isWater (S : MS) (up : Int32) : Prop :=
  ¬ ((S.1 4 up.toNatClampNeg) = 2)
def M_weather (S : MS) (uk : Int32) : Int32 × MS :=
  if M_isIn S uk (-20) 60 then
    let S3 := mset S 29 0 0
    let S4 := mset S3 1 0 uk
    (S3.1 1 0, S4)
  else
    let S2 := mset S 29 0 1
    (0, S2)
def M_gap (S : MS) (uk : Int32) : Int32 × MS :=
  if M_isIn S uk 0 120 then
    let S3 := mset S 29 0 0
    let S4 := mset S3 2 0 uk
    (S3.1 2 0, S4)
  else
    let S2 := mset S 29 0 1
    (0, S2)
def M_plough (S : MS) (up : Int32) : Int32 × MS :=
  if M_isPiece S up then
    let S3 := mset S 29 0 0
    let S4 := mset S3 10 up.toNatClampNeg 0
    (S3.1 10 up.toNatClampNeg, S4)
  else
    let S2 := mset S 29 0 1
    (0, S2)
def M_open (S : MS) (up : Int32) (uk : Int32) : Int32 × MS :=
  if M_isPiece S up then
    if M_isIn S uk 0 2 then
      let S4 := mset S 29 0 0
      let S5 := mset S4 12 up.toNatClampNeg uk
      (S4.1 12 up.toNatClampNeg, S5)
    else
      let S3 := mset S 29 0 2
      (0, S3)
  else
    let S6 := mset S 29 0 1
    (0, S6)
def M_limit (S : MS) (up : Int32) (uk : Int32) : Int32 × MS :=
  if M_isPiece S up then
    if M_isIn S uk 1 300 then
      let S4 := mset S 29 0 0
      let S5 := mset S4 13 up.toNatClampNeg uk
      (S4.1 13 up.toNatClampNeg, S5)
    else
      let S3 := mset S 29 0 2
      (0, S3)
  else
    let S6 := mset S 29 0 1
    (0, S6)
def M_flood (S : MS) (up : Int32) (uk : Int32) : Int32 × MS :=
  if M_isPiece S up then
    if M_isIn S uk 1 100 then
      if (M_isPiece S up) ∧ ((M_isIn S uk 1 100) ∧ ((M_isWater S up) ∧ ((¬ (((S.1 7 up.toNatClampNeg) + (S.1 8 up.toNatClampNeg)) ≤ 0)) ∧ (¬ (500 < ((S.1 9 up.toNatClampNeg) + uk)))))) then
        let S6 := mset S 29 0 0
        let S7 := mset S6 10 up.toNatClampNeg 0
        let S8 := mset S7 9 up.toNatClampNeg ((S7.1 9 up.toNatClampNeg) + uk)
        (S8.1 9 up.toNatClampNeg, S8)
      else
        let S5 := mset S 29 0 3
        (0, S5)
    else
      let S9 := mset S 29 0 2
      (0, S9)
  else
    let S10 := mset S 29 0 1
    (0, S10)
def M_thick (S : MS) (up : Int32) : UInt64 :=
  FP.dadd (FP.i2d (S.1 7 up.toNatClampNeg)) (FP.dmul (4602678819172646912 : UInt64) (FP.i2d (S.1 8 up.toNatClampNeg)))
def M_drill (S : MS) (up : Int32) : UInt64 × MS :=
  if M_isPiece S up then
    let S3 := mset S 29 0 0
    let S4 := mkset S3 up.toNatClampNeg ⟨M_thick S3 up, nn_thick _ _⟩
    ((S4.2 up.toNatClampNeg).1, S4)
  else
    let S2 := mset S 29 0 1
    (FP.dconst0, S2)
def M_weight (S : MS) (uv : Int32) : Int32 :=
  (S.1 17 uv.toNatClampNeg) + (S.1 24 uv.toNatClampNeg)
def M_order (S : MS) (ug : Int32) (uk : Int32) : Int32 × MS :=
  if M_isGoods S ug then
    if M_isIn S uk 1 1000000 then
      if ((S.1 28 ug.toNatClampNeg) + uk) ≤ 10000000 then
        let S4 := mset S 29 0 0
        let S5 := mset S4 28 ug.toNatClampNeg ((S4.1 28 ug.toNatClampNeg) + uk)
        (S5.1 28 ug.toNatClampNeg, S5)
      else
        let S6 := mset S 29 0 3
        (0, S6)
    else
      let S7 := mset S 29 0 2
      (0, S7)
  else
    let S8 := mset S 29 0 1
    (0, S8)
abbrev M_isThere (S : MS) (uv : Int32) : Prop :=
  let x1 := if (S.1 22 uv.toNatClampNeg) = 0 then 0 else (S.1 3 0)
  (S.1 21 uv.toNatClampNeg) = x1
def M_nextPiece (S : MS) (uv : Int32) : Int32 :=
  let x1 := if (S.1 22 uv.toNatClampNeg) = 0 then ((S.1 21 uv.toNatClampNeg) - 1) else (S.1 21 uv.toNatClampNeg)
  x1
def M_minute (S : MS) : Int32 × MS :=
  let S1 := mset S 29 0 0
  (S1.1 0 0, S1)
def M_missing (S : MS) (ug : Int32) : Int32 :=
  let x1 := if (S.1 28 ug.toNatClampNeg) ≤ (S.1 27 ug.toNatClampNeg) then 0 else ((S.1 28 ug.toNatClampNeg) - (S.1 27 ug.toNatClampNeg))
  x1
def M_kilosAnew (S : MS) (ug : Int32) : Int32 × MS :=
  if M_isGoods S ug then
    let S3 := mset S 29 0 0
    (S3.1 26 ug.toNatClampNeg, S3)
  else
    let S2 := mset S 29 0 1
    (0, S2)
def M_bearsBy (S : MS) (up : Int32) (ut : UInt64) : Int32 :=
  if M_isWater S up then
    let x2 := if (S.1 11 up.toNatClampNeg) = 0 then FP.dconst1 else (if (S.1 11 up.toNatClampNeg) = 1 then (4604930618986332160 : UInt64) else (4602678819172646912 : UInt64))
    FP.d2i (FP.dmul (FP.dmul (FP.dmul (4585925428558828667 : UInt64) ut) ut) x2)
  else
    let x6 := if (S.1 10 up.toNatClampNeg) < 100 then 0 else 60000
    x6
def M_weights_s (S : MS) (up : Int32) (n : Nat) (a1 : Int32) : Int32 :=
  let x3 := if (S.1 20 (nI n).toNatClampNeg) = 1 then (if (S.1 21 (nI n).toNatClampNeg) = up then (M_weight S (nI n)) else 0) else 0
  let x5 := (nI n) + 1
  a1 + x3
def M_weights_f (S : MS) (up : Int32) : Nat → Int32
  | 0 => 0
  | n + 1 => M_weights_s S up n (M_weights_f S up n)
def M_weights (S : MS) (up : Int32) : Int32 :=
  let a1 := M_weights_f S up (S.1 16 0).toNatClampNeg
  a1
def M_isMet_s (S : MS) (uv up : Int32) (n : Nat) (a1 : Int32) : Int32 :=
  let x4 := (nI n) + 1
  bI ((¬ (a1 = 0)) ∨ (((S.1 20 (nI n).toNatClampNeg) = 1) ∧ (((S.1 21 (nI n).toNatClampNeg) = up) ∧ (¬ ((S.1 22 (nI n).toNatClampNeg) = (S.1 22 uv.toNatClampNeg))))))
def M_isMet_f (S : MS) (uv up : Int32) : Nat → Int32
  | 0 => 0
  | n + 1 => M_isMet_s S uv up n (M_isMet_f S uv up n)
def M_isMet (S : MS) (uv : Int32) (up : Int32) : Int32 :=
  let a1 := M_isMet_f S uv up (S.1 16 0).toNatClampNeg
  a1
theorem M_isMet_nar (S : MS) (uv up : Int32) (n : Nat) (a : Int32) (h : a = M_isMet_f S uv up n) : narrow .boolean (.int a) = .int a := by
  subst h
  cases n with
  | zero => show narrow .boolean (.int 0) = .int 0; decide
  | succ n => exact bI_narrow
def M_many_s (S : MS) (up : Int32) (n : Nat) (a1 : Int32) : Int32 :=
  let x4 := (nI n) + 1
  a1 + (bI (((S.1 20 (nI n).toNatClampNeg) = 1) ∧ ((S.1 21 (nI n).toNatClampNeg) = up)))
def M_many_f (S : MS) (up : Int32) : Nat → Int32
  | 0 => 0
  | n + 1 => M_many_s S up n (M_many_f S up n)
def M_many (S : MS) (up : Int32) : Int32 :=
  let a1 := M_many_f S up (S.1 16 0).toNatClampNeg
  a1
def M_carried_s (S : MS) (ug ub : Int32) (n : Nat) (a1 : Int32) : Int32 :=
  let x3 := if (S.1 25 (nI n).toNatClampNeg) = ug then (if (bI ((S.1 20 (nI n).toNatClampNeg) = 4)) = ub then (S.1 24 (nI n).toNatClampNeg) else 0) else 0
  let x5 := (nI n) + 1
  a1 + x3
def M_carried_f (S : MS) (ug ub : Int32) : Nat → Int32
  | 0 => 0
  | n + 1 => M_carried_s S ug ub n (M_carried_f S ug ub n)
def M_carried (S : MS) (ug : Int32) (ub : Int32) : Int32 :=
  let a1 := M_carried_f S ug ub (S.1 16 0).toNatClampNeg
  a1
def M_snow_s (S5 : MS) (uk : Int32) (n : Nat) : MS :=
  let S7 := mset S5 10 (nI n).toNatClampNeg ((S5.1 10 (nI n).toNatClampNeg) + uk)
  let x8 := (nI n) + 1
  S7
def M_snow_f (S : MS) (uk : Int32) : Nat → MS
  | 0 => S
  | n + 1 => M_snow_s (M_snow_f S uk n) uk n
def M_snow (S : MS) (uk : Int32) : Int32 × MS :=
  if M_isIn S uk 1 500 then
    let S3 := mset S 29 0 0
    let S5 := M_snow_f S3 uk (S3.1 3 0).toNatClampNeg
    (S5.1 3 0, S5)
  else
    let S2 := mset S 29 0 1
    (0, S2)
theorem M_snow_N {S : MS} {uk : Int32} {np nv : Nat} (h : MNn S np nv) (n : Nat) : MNn (M_snow_f S uk n) np nv := by
  induction n with
  | zero => exact h
  | succ n ih => exact MNn_set (k := 10) ih (by decide) (by decide) rfl
def M_piece (S : MS) (ui : Int32) (uf : Int32) (ud : Int32) : Int32 × MS :=
  if (M_isIn S ui 0 2) ∧ ((M_isIn S uf 1 20000) ∧ (M_isIn S ud 1 999)) then
    if (S.1 3 0) = 10 then
      let S4 := mset S 29 0 2
      (0, S4)
    else
      if (S.1 16 0) ≤ 0 then
        let S6 := mset S 29 0 0
        let S7 := mset S6 4 (S6.1 3 0).toNatClampNeg ui
        let S8 := mset S7 5 (S7.1 3 0).toNatClampNeg uf
        let S9 := mset S8 6 (S8.1 3 0).toNatClampNeg ud
        let S10 := mset S9 13 (S9.1 3 0).toNatClampNeg 100
        let S11 := mset S10 15 (2 * (S10.1 3 0)).toNatClampNeg (-1000000)
        let S12 := mset S11 15 ((2 * (S11.1 3 0)) + 1).toNatClampNeg (-1000000)
        let S13 := mset S12 3 0 ((S12.1 3 0) + 1)
        ((S13.1 3 0) - 1, S13)
      else
        let S14 := mset S 29 0 2
        (0, S14)
  else
    let S15 := mset S 29 0 1
    (0, S15)
def M_vehicle (S : MS) (ui : Int32) (uf : Int32) (ud : Int32) : Int32 × MS :=
  if (M_isIn S ui 500 40000) ∧ ((M_isIn S uf 0 60000) ∧ (M_isIn S ud 1 300)) then
    if (S.1 16 0) = 16 then
      let S4 := mset S 29 0 2
      (0, S4)
    else
      if (S.1 3 0) = 0 then
        let S12 := mset S 29 0 2
        (0, S12)
      else
        let S6 := mset S 29 0 0
        let S7 := mset S6 17 (S6.1 16 0).toNatClampNeg ui
        let S8 := mset S7 18 (S7.1 16 0).toNatClampNeg uf
        let S9 := mset S8 19 (S8.1 16 0).toNatClampNeg ud
        let S10 := mset S9 25 (S9.1 16 0).toNatClampNeg (-1)
        let S11 := mset S10 16 0 ((S10.1 16 0) + 1)
        ((S11.1 16 0) - 1, S11)
  else
    let S13 := mset S 29 0 1
    (0, S13)
def M_unloads (S : MS) (uv : Int32) (ub : Int32) : MS :=
  let S1 := if (S.1 24 uv.toNatClampNeg) ≤ 0 then S else (mset (mset S 27 (S.1 25 uv.toNatClampNeg).toNatClampNeg ((S.1 27 (S.1 25 uv.toNatClampNeg).toNatClampNeg) + (if ub = 0 then 0 else (S.1 24 uv.toNatClampNeg)))) 26 ((mset S 27 (S.1 25 uv.toNatClampNeg).toNatClampNeg ((S.1 27 (S.1 25 uv.toNatClampNeg).toNatClampNeg) + (if ub = 0 then 0 else (S.1 24 uv.toNatClampNeg)))).1 25 uv.toNatClampNeg).toNatClampNeg (((mset S 27 (S.1 25 uv.toNatClampNeg).toNatClampNeg ((S.1 27 (S.1 25 uv.toNatClampNeg).toNatClampNeg) + (if ub = 0 then 0 else (S.1 24 uv.toNatClampNeg)))).1 26 ((mset S 27 (S.1 25 uv.toNatClampNeg).toNatClampNeg ((S.1 27 (S.1 25 uv.toNatClampNeg).toNatClampNeg) + (if ub = 0 then 0 else (S.1 24 uv.toNatClampNeg)))).1 25 uv.toNatClampNeg).toNatClampNeg) - (if ub = 0 then ((mset S 27 (S.1 25 uv.toNatClampNeg).toNatClampNeg ((S.1 27 (S.1 25 uv.toNatClampNeg).toNatClampNeg) + (if ub = 0 then 0 else (S.1 24 uv.toNatClampNeg)))).1 24 uv.toNatClampNeg) else 0)))
  let S4 := mset S1 24 uv.toNatClampNeg 0
  let S5 := mset S4 25 uv.toNatClampNeg (-1)
  S5
def M_arrives (S : MS) (uv : Int32) : MS :=
  let x1 := if (S.1 22 uv.toNatClampNeg) = 0 then 0 else 3
  let S3 := mset S 20 uv.toNatClampNeg x1
  let S4 := M_unloads S3 uv (S3.1 22 uv.toNatClampNeg)
  S4
def M_load (S : MS) (uv : Int32) (ug : Int32) (uk : Int32) : Int32 × MS :=
  if (M_isVehicle S uv) ∧ (M_isGoods S ug) then
    if ((M_isVehicle S uv) ∧ (M_isGoods S ug)) ∧ (M_isIn S uk 1 (S.1 18 uv.toNatClampNeg)) then
      if (S.1 20 uv.toNatClampNeg) = 0 then
        if (S.1 24 uv.toNatClampNeg) ≤ 0 then
          let S8 := mset S 29 0 0
          let S9 := mset S8 24 uv.toNatClampNeg uk
          let S10 := mset S9 25 uv.toNatClampNeg ug
          let S11 := mset S10 26 ug.toNatClampNeg ((S10.1 26 ug.toNatClampNeg) + uk)
          (M_weight S11 uv, S11)
        else
          let S12 := mset S 29 0 3
          (0, S12)
      else
        let S6 := mset S 29 0 3
        (0, S6)
    else
      let S13 := mset S 29 0 2
      (0, S13)
  else
    let S14 := mset S 29 0 1
    (0, S14)
def M_go (S : MS) (uv : Int32) : Int32 × MS :=
  if M_isVehicle S uv then
    if (M_isVehicle S uv) ∧ (((S.1 20 uv.toNatClampNeg) = 0) ∨ ((S.1 20 uv.toNatClampNeg) = 3)) then
      let S5 := mset S 29 0 0
      let S7 := mset S5 22 uv.toNatClampNeg (bI ((S5.1 20 uv.toNatClampNeg) = 0))
      let S8 := mset S7 20 uv.toNatClampNeg 2
      (S8.1 22 uv.toNatClampNeg, S8)
    else
      let S4 := mset S 29 0 2
      (0, S4)
  else
    let S12 := mset S 29 0 1
    (0, S12)
theorem M_unloads_k (S : MS) (v b : Int32) {k : Nat} (h4 : k ≠ 24) (h5 : k ≠ 25) (h6 : k ≠ 26) (h7 : k ≠ 27) : (M_unloads S v b).1 k = S.1 k := by
  unfold M_unloads
  simp only
  rw [mset_k h5, mset_k h4]
  split
  · rfl
  · rw [mset_k h6, mset_k h7]
theorem M_arrives_k (S : MS) (v : Int32) {k : Nat} (h0 : k ≠ 20) (h4 : k ≠ 24) (h5 : k ≠ 25) (h6 : k ≠ 26) (h7 : k ≠ 27) : (M_arrives S v).1 k = S.1 k := by
  unfold M_arrives
  simp only
  rw [M_unloads_k _ _ _ h4 h5 h6 h7, mset_k h0]
def M_turn (S : MS) (uv : Int32) : Int32 × MS :=
  if M_isVehicle S uv then
    if (S.1 20 uv.toNatClampNeg) = 2 then
      let S4 := mset S 29 0 0
      let S6 := mset S4 22 uv.toNatClampNeg (bI ((S4.1 22 uv.toNatClampNeg) = 0))
      let S7 := if M_isThere S6 uv then (M_arrives S6 uv) else S6
      (S7.1 22 uv.toNatClampNeg, S7)
    else
      let S3 := mset S 29 0 2
      (0, S3)
  else
    let S14 := mset S 29 0 1
    (0, S14)
def M_freezes (S : MS) (up : Int32) : MS :=
  let x1 := if (S.1 9 up.toNatClampNeg) ≤ (2 * (S.1 1 0)) then (S.1 9 up.toNatClampNeg) else (2 * (S.1 1 0))
  let S3 := mset S 9 up.toNatClampNeg ((S.1 9 up.toNatClampNeg) - x1)
  let S4 := mset S3 8 up.toNatClampNeg ((S3.1 8 up.toNatClampNeg) + x1)
  let S5 := if (S4.1 9 up.toNatClampNeg) = 0 then (mset S4 7 up.toNatClampNeg ((S4.1 7 up.toNatClampNeg) + (if 0 ≤ (((400 * (S4.1 1 0)) / ((((S4.1 7 up.toNatClampNeg) + (S4.1 8 up.toNatClampNeg)) + (4 * (S4.1 10 up.toNatClampNeg))) + 50)) - (if (S4.1 4 up.toNatClampNeg) = 1 then 2 else 0)) then (((400 * (S4.1 1 0)) / ((((S4.1 7 up.toNatClampNeg) + (S4.1 8 up.toNatClampNeg)) + (4 * (S4.1 10 up.toNatClampNeg))) + 50)) - (if (S4.1 4 up.toNatClampNeg) = 1 then 2 else 0)) else 0))) else S4
  let S7 := if (S5.1 1 0) < 40 then (if (S5.1 1 0) < 10 then S5 else (mset S5 11 up.toNatClampNeg (bI ((S5.1 11 up.toNatClampNeg) = 2)))) else (mset S5 11 up.toNatClampNeg (if (S5.1 11 up.toNatClampNeg) = 0 then 1 else (S5.1 11 up.toNatClampNeg)))
  S7
def M_thaws (S : MS) (up : Int32) : MS :=
  let x1 := if (S.1 10 up.toNatClampNeg) ≤ ((-6) * (S.1 1 0)) then (S.1 10 up.toNatClampNeg) else ((-6) * (S.1 1 0))
  let S3 := mset S 10 up.toNatClampNeg ((S.1 10 up.toNatClampNeg) - x1)
  let x4 := if (S3.1 8 up.toNatClampNeg) ≤ (((-6) * (S.1 1 0)) - x1) then (S3.1 8 up.toNatClampNeg) else (((-6) * (S.1 1 0)) - x1)
  let S6 := mset S3 8 up.toNatClampNeg ((S3.1 8 up.toNatClampNeg) - x4)
  let x7 := if (S6.1 7 up.toNatClampNeg) ≤ ((((-6) * (S.1 1 0)) - x1) - x4) then (S6.1 7 up.toNatClampNeg) else ((((-6) * (S.1 1 0)) - x1) - x4)
  let S9 := mset S6 7 up.toNatClampNeg ((S6.1 7 up.toNatClampNeg) - x7)
  if 0 ≤ (Op.cmpValue (FP.dcmp (FP.dsub ((S9.2 up.toNatClampNeg).1) (FP.dadd (FP.i2d x7) (FP.dmul (4602678819172646912 : UInt64) (FP.i2d x4)))) FP.dconst0) CmpOp.g) then
    let S11 := mkset S9 up.toNatClampNeg ⟨FP.dsub ((S9.2 up.toNatClampNeg).1) (FP.dadd (FP.i2d x7) (FP.dmul (4602678819172646912 : UInt64) (FP.i2d x4))), nn_less (S9.2 up.toNatClampNeg).2 _ _⟩
    let x12 := if (S11.1 11 up.toNatClampNeg) = 1 then 2 else (S11.1 11 up.toNatClampNeg)
    let S14 := mset S11 11 up.toNatClampNeg x12
    S14
  else
    let S16 := mkset S9 up.toNatClampNeg ⟨FP.dconst0, nn_0⟩
    let x17 := if (S16.1 11 up.toNatClampNeg) = 1 then 2 else (S16.1 11 up.toNatClampNeg)
    let S19 := mset S16 11 up.toNatClampNeg x17
    S19
def M_thickness (S : MS) (up : Int32) (ub : Int32) : UInt64 × MS :=
  if M_isPiece S up then
    let S3 := mset S 29 0 0
    let x4 := if ub = 0 then (M_thick S3 up) else ((S3.2 up.toNatClampNeg).1)
    (x4, S3)
  else
    let S2 := mset S 29 0 1
    (FP.dconst0, S2)
def M_told (S : MS) (up : Int32) (uk : Int32) : Int32 × MS :=
  if M_isPiece S up then
    if M_isIn S uk 0 7 then
      let S4 := mset S 29 0 0
      if uk = 0 then
        (S4.1 7 up.toNatClampNeg, S4)
      else
        if uk = 1 then
          (S4.1 8 up.toNatClampNeg, S4)
        else
          if uk = 2 then
            (S4.1 9 up.toNatClampNeg, S4)
          else
            if uk = 3 then
              (S4.1 10 up.toNatClampNeg, S4)
            else
              if uk = 4 then
                (S4.1 11 up.toNatClampNeg, S4)
              else
                if uk = 5 then
                  (S4.1 12 up.toNatClampNeg, S4)
                else
                  if uk = 6 then
                    (S4.1 13 up.toNatClampNeg, S4)
                  else
                    (M_many S4 up, S4)
    else
      let S3 := mset S 29 0 2
      (0, S3)
  else
    let S12 := mset S 29 0 1
    (0, S12)
def M_ofVehicle (S : MS) (uv : Int32) (uk : Int32) : Int32 × MS :=
  if M_isVehicle S uv then
    if M_isIn S uk 0 6 then
      let S4 := mset S 29 0 0
      if uk = 0 then
        (S4.1 20 uv.toNatClampNeg, S4)
      else
        if uk = 1 then
          (M_weight S4 uv, S4)
        else
          if uk = 2 then
            (S4.1 24 uv.toNatClampNeg, S4)
          else
            if uk = 3 then
              (S4.1 25 uv.toNatClampNeg, S4)
            else
              if uk = 4 then
                (S4.1 21 uv.toNatClampNeg, S4)
              else
                if uk = 5 then
                  (bI (¬ ((S4.1 22 uv.toNatClampNeg) = 0)), S4)
                else
                  let x15 := if (S4.1 20 uv.toNatClampNeg) = 1 then (S4.1 23 uv.toNatClampNeg) else (-1)
                  (x15, S4)
    else
      let S3 := mset S 29 0 2
      (0, S3)
  else
    let S18 := mset S 29 0 1
    (0, S18)
def M_kilos (S : MS) (ug : Int32) (uk : Int32) : Int32 × MS :=
  if M_isGoods S ug then
    if M_isIn S uk 0 4 then
      let S4 := mset S 29 0 0
      let x5 := if uk = 0 then (S4.1 26 ug.toNatClampNeg) else (if uk = 1 then (S4.1 27 ug.toNatClampNeg) else (if uk = 4 then (M_missing S4 ug) else (M_carried S4 ug (bI (uk = 3)))))
      (x5, S4)
    else
      let S3 := mset S 29 0 2
      (0, S3)
  else
    let S14 := mset S 29 0 1
    (0, S14)
theorem came_inb {p : Int32} {c : Prop} [Decidable c] (hp : vp_in p 10) : vp_in (2 * p + bI c) 20 := by
  obtain ⟨j, hj, rfl⟩ := vp_in_of hp (by decide)
  rw [nI_two]
  unfold bI
  split
  · rw [nI_1]; exact vp_in_nI (by omega) (by decide)
  · rw [show (0 : Int32) = nI 0 from rfl, nI_add]; exact vp_in_nI (by omega) (by decide)
/-- the speed that a wave leaves: down from x while the square is above -/
def M_speedW (low : UInt64) : Nat → Int32 → Int32
  | 0, x => x
  | n + 1, x => if Op.cmpValue (FP.dcmp (FP.i2d (x * x)) low) CmpOp.l ≤ 0 then x else M_speedW low n (x + (-1))
def rng (x : Int32) (a b : Int) : Prop := a ≤ x.toInt ∧ x.toInt ≤ b
def SPD (S : MS) (v p : Int32) : Prop := rng (S.1 19 v.toNatClampNeg) 1 300 ∧ rng (S.1 13 p.toNatClampNeg) 1 300 ∧ rng (S.1 6 p.toNatClampNeg) 1 999
theorem SPD_set {S S1 : MS} {k j : Nat} {v p x : Int32} (h : SPD S v p) (h1 : k ≠ 19) (h2 : k ≠ 13) (h3 : k ≠ 6) (e : S1 = mset S k j x) : SPD S1 v p := by
  subst e
  unfold SPD
  rw [mset_k (fun z => h1 z.symm), mset_k (fun z => h2 z.symm), mset_k (fun z => h3 z.symm)]
  exact h
theorem rng_nI {x : Int32} {a b : Nat} (h : rng x a b) : ∃ n : Nat, x = nI n ∧ a ≤ n ∧ n ≤ b := by
  obtain ⟨h1, h2⟩ := h
  obtain ⟨j, hj, e⟩ := nI_of (x := x) (by rw [Int32.lt_iff_toInt_lt, Int32.toInt_zero]; omega)
  refine ⟨j, e, ?_, ?_⟩ <;> (rw [e, nI_toInt hj] at h1 h2; omega)
theorem wave_1 {x d : Int32} (hd : rng d 1 999) (h : ¬ Op.cmpValue (FP.dcmp (FP.i2d (x * x)) (FP.dmul c784 (FP.i2d d))) CmpOp.l ≤ 0) : x ≠ 1 := by
  intro e
  subst e
  obtain ⟨n, rfl, h1, h2⟩ := rng_nI (a := 1) (b := 999) hd
  exact h (wave_all n (by omega) h1)
theorem i32_dec {x : Int32} (h : 2 ≤ x.toInt) : (x + (-1)).toInt = x.toInt - 1 := by
  have h2 := Int32.toInt_lt x
  rw [show x + (-1) = x - 1 from (Int32.sub_eq_add_neg x 1).symm]
  rw [Int32.toInt_sub, show (1 : Int32).toInt = 1 by decide, Int.bmod_eq_of_le (by omega) (by omega)]
theorem M_speedW_rng {d : Int32} (hd : rng d 1 999) : ∀ (n : Nat) (x : Int32), 1 ≤ x.toInt → 1 ≤ (M_speedW (FP.dmul c784 (FP.i2d d)) n x).toInt ∧ (M_speedW (FP.dmul c784 (FP.i2d d)) n x).toInt ≤ x.toInt := by
  intro n
  induction n with
  | zero => intro x h; exact ⟨h, Int.le_refl _⟩
  | succ n ih =>
    intro x h
    show 1 ≤ (ite _ _ _ : Int32).toInt ∧ (ite _ _ _ : Int32).toInt ≤ _
    split
    · exact ⟨h, Int.le_refl _⟩
    · rename_i hc
      have hx := wave_1 hd hc
      have h2 : 2 ≤ x.toInt := by
        rcases Int.lt_or_le x.toInt 2 with k | k
        · exact absurd (Int32.toInt_inj.mp (show x.toInt = (1 : Int32).toInt by rw [show (1 : Int32).toInt = 1 by decide]; omega)) hx
        · exact k
      have e := i32_dec h2
      obtain ⟨a, b⟩ := ih (x + (-1)) (by omega)
      exact ⟨a, by omega⟩
theorem spd_lo {S : MS} {v p x : Int32} (h : SPD S v p) (e : x = if S.1 13 p.toNatClampNeg ≤ S.1 19 v.toNatClampNeg then S.1 13 p.toNatClampNeg else S.1 19 v.toNatClampNeg) : 1 ≤ x.toInt := by
  rw [e]
  split
  · exact h.2.1.1
  · exact h.1.1
theorem spd_hi {S : MS} {v p x : Int32} (h : SPD S v p) (e : x = if S.1 13 p.toNatClampNeg ≤ S.1 19 v.toNatClampNeg then S.1 13 p.toNatClampNeg else S.1 19 v.toNatClampNeg) : x.toInt ≤ (300 : Nat) := by
  rw [e]
  split
  · exact h.2.1.2
  · exact h.1.2
def M_speedOn (S : MS) (uv : Int32) (up : Int32) : Int32 :=
  let x1 := if (S.1 13 up.toNatClampNeg) ≤ (S.1 19 uv.toNatClampNeg) then (S.1 13 up.toNatClampNeg) else (S.1 19 uv.toNatClampNeg)
  let x3 := if M_isWater S up then (if (Op.cmpValue (FP.dcmp (FP.i2d (x1 * x1)) (FP.dmul (4635217326480398746 : UInt64) (FP.i2d (S.1 6 up.toNatClampNeg)))) CmpOp.l) ≤ 0 then x1 else (if 0 ≤ (Op.cmpValue (FP.dcmp (FP.i2d (x1 * x1)) (FP.dmul (4637975781252163174 : UInt64) (FP.i2d (S.1 6 up.toNatClampNeg)))) CmpOp.g) then x1 else (M_speedW (FP.dmul (4635217326480398746 : UInt64) (FP.i2d (S.1 6 up.toNatClampNeg))) 300 x1))) else x1
  x3
theorem M_speedOn_rng {S : MS} {v p : Int32} (h : SPD S v p) : rng (M_speedOn S v p) 1 300 := by
  have h1 := spd_lo h rfl
  have h2 := spd_hi h rfl
  simp only [M_speedOn]
  generalize (if S.1 13 p.toNatClampNeg ≤ S.1 19 v.toNatClampNeg then S.1 13 p.toNatClampNeg else S.1 19 v.toNatClampNeg) = x at h1 h2 ⊢
  split
  · split
    · exact ⟨h1, h2⟩
    · split
      · exact ⟨h1, h2⟩
      · obtain ⟨a, b⟩ := M_speedW_rng h.2.2 300 x h1
        exact ⟨a, Int.le_trans b h2⟩
  · exact ⟨h1, h2⟩
theorem spd_ne {S : MS} {v p : Int32} (h : SPD S v p) : ¬ 6 * M_speedOn S v p = 0 := by
  obtain ⟨n, e, h1, h2⟩ := rng_nI (a := 1) (b := 300) (M_speedOn_rng h)
  rw [e, show (6 : Int32) = nI 6 from rfl, show nI 6 * nI n = nI (6 * n) from (Int32.ofNat_mul 6 n).symm]
  exact nI_ne0 (by omega) (by omega)
def M_minutesOn (S : MS) (uv : Int32) (up : Int32) : Int32 :=
  (((S.1 5 up.toNatClampNeg) + (6 * (M_speedOn S uv up))) - 1) / (6 * (M_speedOn S uv up))
def M_bears (S : MS) (up : Int32) (ub : Int32) : Int32 × MS :=
  if M_isPiece S up then
    let S3 := mset S 29 0 0
    if ub = 0 then
      (M_bearsBy S3 up (M_thick S3 up), S3)
    else
      (M_bearsBy S3 up ((S3.2 up.toNatClampNeg).1), S3)
  else
    let S2 := mset S 29 0 1
    (0, S2)
def M_against (S : MS) (uv : Int32) : Int32 :=
  if (S.1 12 (M_nextPiece S uv).toNatClampNeg) = 0 then
    1
  else
    if M_isWater S (M_nextPiece S uv) then
      if 0 ≤ (S.1 1 0) then
        if (S.1 12 (M_nextPiece S uv).toNatClampNeg) = 1 then
          if (M_weight S uv) ≤ 5000 then
            if (S.1 2 0) ≤ ((S.1 0 0) - (S.1 15 ((2 * (M_nextPiece S uv)) + (bI (¬ ((S.1 22 uv.toNatClampNeg) = 0)))).toNatClampNeg)) then
              if (S.1 4 (M_nextPiece S uv).toNatClampNeg) = 0 then
                let x50 := if ((M_weight S uv) + (M_weights S (M_nextPiece S uv))) ≤ (M_bearsBy S (M_nextPiece S uv) ((S.2 (M_nextPiece S uv).toNatClampNeg).1)) then 0 else 6
                x50
              else
                if (M_isMet S uv (M_nextPiece S uv)) = 0 then
                  let x54 := if ((M_weight S uv) + (M_weights S (M_nextPiece S uv))) ≤ (M_bearsBy S (M_nextPiece S uv) ((S.2 (M_nextPiece S uv).toNatClampNeg).1)) then 0 else 6
                  x54
                else
                  5
            else
              4
          else
            3
        else
          if (S.1 2 0) ≤ ((S.1 0 0) - (S.1 15 ((2 * (M_nextPiece S uv)) + (bI (¬ ((S.1 22 uv.toNatClampNeg) = 0)))).toNatClampNeg)) then
            if (S.1 4 (M_nextPiece S uv).toNatClampNeg) = 0 then
              let x36 := if ((M_weight S uv) + (M_weights S (M_nextPiece S uv))) ≤ (M_bearsBy S (M_nextPiece S uv) ((S.2 (M_nextPiece S uv).toNatClampNeg).1)) then 0 else 6
              x36
            else
              if (M_isMet S uv (M_nextPiece S uv)) = 0 then
                let x40 := if ((M_weight S uv) + (M_weights S (M_nextPiece S uv))) ≤ (M_bearsBy S (M_nextPiece S uv) ((S.2 (M_nextPiece S uv).toNatClampNeg).1)) then 0 else 6
                x40
              else
                5
          else
            4
      else
        if M_isIn S ((S.1 0 0) - (S.1 0 0) / 1440 * 1440) 480 1199 then
          2
        else
          if (S.1 12 (M_nextPiece S uv).toNatClampNeg) = 1 then
            if (M_weight S uv) ≤ 5000 then
              if (S.1 2 0) ≤ ((S.1 0 0) - (S.1 15 ((2 * (M_nextPiece S uv)) + (bI (¬ ((S.1 22 uv.toNatClampNeg) = 0)))).toNatClampNeg)) then
                if (S.1 4 (M_nextPiece S uv).toNatClampNeg) = 0 then
                  let x79 := if ((M_weight S uv) + (M_weights S (M_nextPiece S uv))) ≤ (M_bearsBy S (M_nextPiece S uv) ((S.2 (M_nextPiece S uv).toNatClampNeg).1)) then 0 else 6
                  x79
                else
                  if (M_isMet S uv (M_nextPiece S uv)) = 0 then
                    let x83 := if ((M_weight S uv) + (M_weights S (M_nextPiece S uv))) ≤ (M_bearsBy S (M_nextPiece S uv) ((S.2 (M_nextPiece S uv).toNatClampNeg).1)) then 0 else 6
                    x83
                  else
                    5
              else
                4
            else
              3
          else
            if (S.1 2 0) ≤ ((S.1 0 0) - (S.1 15 ((2 * (M_nextPiece S uv)) + (bI (¬ ((S.1 22 uv.toNatClampNeg) = 0)))).toNatClampNeg)) then
              if (S.1 4 (M_nextPiece S uv).toNatClampNeg) = 0 then
                let x65 := if ((M_weight S uv) + (M_weights S (M_nextPiece S uv))) ≤ (M_bearsBy S (M_nextPiece S uv) ((S.2 (M_nextPiece S uv).toNatClampNeg).1)) then 0 else 6
                x65
              else
                if (M_isMet S uv (M_nextPiece S uv)) = 0 then
                  let x69 := if ((M_weight S uv) + (M_weights S (M_nextPiece S uv))) ≤ (M_bearsBy S (M_nextPiece S uv) ((S.2 (M_nextPiece S uv).toNatClampNeg).1)) then 0 else 6
                  x69
                else
                  5
            else
              4
    else
      if (S.1 12 (M_nextPiece S uv).toNatClampNeg) = 1 then
        if (M_weight S uv) ≤ 5000 then
          if (S.1 2 0) ≤ ((S.1 0 0) - (S.1 15 ((2 * (M_nextPiece S uv)) + (bI (¬ ((S.1 22 uv.toNatClampNeg) = 0)))).toNatClampNeg)) then
            if (S.1 4 (M_nextPiece S uv).toNatClampNeg) = 0 then
              let x21 := if ((M_weight S uv) + (M_weights S (M_nextPiece S uv))) ≤ (M_bearsBy S (M_nextPiece S uv) ((S.2 (M_nextPiece S uv).toNatClampNeg).1)) then 0 else 6
              x21
            else
              if (M_isMet S uv (M_nextPiece S uv)) = 0 then
                let x25 := if ((M_weight S uv) + (M_weights S (M_nextPiece S uv))) ≤ (M_bearsBy S (M_nextPiece S uv) ((S.2 (M_nextPiece S uv).toNatClampNeg).1)) then 0 else 6
                x25
              else
                5
          else
            4
        else
          3
      else
        if (S.1 2 0) ≤ ((S.1 0 0) - (S.1 15 ((2 * (M_nextPiece S uv)) + (bI (¬ ((S.1 22 uv.toNatClampNeg) = 0)))).toNatClampNeg)) then
          if (S.1 4 (M_nextPiece S uv).toNatClampNeg) = 0 then
            let x7 := if ((M_weight S uv) + (M_weights S (M_nextPiece S uv))) ≤ (M_bearsBy S (M_nextPiece S uv) ((S.2 (M_nextPiece S uv).toNatClampNeg).1)) then 0 else 6
            x7
          else
            if (M_isMet S uv (M_nextPiece S uv)) = 0 then
              let x11 := if ((M_weight S uv) + (M_weights S (M_nextPiece S uv))) ≤ (M_bearsBy S (M_nextPiece S uv) ((S.2 (M_nextPiece S uv).toNatClampNeg).1)) then 0 else 6
              x11
            else
              5
        else
          4
def M_comes (S : MS) (uv : Int32) : MS :=
  let S3 := mset S 15 ((2 * (M_nextPiece S uv)) + (bI (¬ ((S.1 22 uv.toNatClampNeg) = 0)))).toNatClampNeg (S.1 0 0)
  let S4 := mset S3 21 uv.toNatClampNeg (M_nextPiece S uv)
  let x5 := if ¬ (((M_weight S uv) + (M_weights S (M_nextPiece S uv))) ≤ (M_bearsBy S (M_nextPiece S uv) (M_thick S (M_nextPiece S uv)))) then 4 else 1
  let S7 := mset S4 20 uv.toNatClampNeg x5
  let S8 := mset S7 23 uv.toNatClampNeg ((S7.1 0 0) + (M_minutesOn S7 uv (M_nextPiece S uv)))
  let S9 := if ¬ (((M_weight S uv) + (M_weights S (M_nextPiece S uv))) ≤ (M_bearsBy S (M_nextPiece S uv) (M_thick S (M_nextPiece S uv)))) then (mset (mset S8 12 (M_nextPiece S uv).toNatClampNeg 0) 11 (M_nextPiece S uv).toNatClampNeg (if M_isWater (mset S8 12 (M_nextPiece S uv).toNatClampNeg 0) (M_nextPiece S uv) then 2 else ((mset S8 12 (M_nextPiece S uv).toNatClampNeg 0).1 11 (M_nextPiece S uv).toNatClampNeg))) else S8
  S9
def M_leaves (S : MS) (uv : Int32) : MS :=
  let S1 := if M_isWater S (S.1 21 uv.toNatClampNeg) then (mset S 7 (S.1 21 uv.toNatClampNeg).toNatClampNeg (if 0 ≤ ((S.1 7 (S.1 21 uv.toNatClampNeg).toNatClampNeg) - ((M_weight S uv) / 20000)) then ((S.1 7 (S.1 21 uv.toNatClampNeg).toNatClampNeg) - ((M_weight S uv) / 20000)) else 0)) else S
  let x4 := if (S1.1 22 uv.toNatClampNeg) = 0 then (S.1 21 uv.toNatClampNeg) else ((S.1 21 uv.toNatClampNeg) + 1)
  let S6 := mset S1 21 uv.toNatClampNeg x4
  let S7 := mset S6 20 uv.toNatClampNeg 2
  let S8 := if M_isThere S7 uv then (M_arrives S7 uv) else S7
  S8
def VIv (S : MS) (np j : Nat) : Prop := (S.1 22 j = 0 ∨ S.1 22 j = 1) ∧ rng (S.1 17 j) 500 40000 ∧ rng (S.1 18 j) 0 60000 ∧ rng (S.1 19 j) 1 300 ∧ rng (S.1 24 j) 0 60000 ∧
  ∃ a : Nat, S.1 21 j = nI a ∧ a ≤ np ∧ (S.1 20 j = 0 → a = 0) ∧ (S.1 20 j = 3 → a = np) ∧ (S.1 20 j = 1 → a < np) ∧ (S.1 20 j = 2 → (S.1 22 j = 0 → 0 < a) ∧ (¬ S.1 22 j = 0 → a < np))
def PCv (S : MS) (i : Nat) : Prop := rng (S.1 13 i) 1 300 ∧ rng (S.1 6 i) 1 999 ∧ rng (S.1 5 i) 1 20000
def FZp (S : MS) (t i : Nat) : Prop := rng (S.1 7 i) 0 24480 ∧ (0 ≤ (S.1 8 i).toInt ∧ 0 ≤ (S.1 9 i).toInt ∧ (S.1 8 i).toInt + (S.1 9 i).toInt ≤ 100 * t) ∧ rng (S.1 10 i) 0 (500 * t)
def MI (S : MS) (np nv t : Nat) : Prop := MNn S np nv ∧ GI S ∧ (∀ j, j < nv → VIv S np j) ∧ (∀ i, i < np → PCv S i) ∧ (∀ i, i < np → FZp S t i) ∧ rng (S.1 1 0) (-20) 60 ∧ t ≤ 512 ∧ (0 < nv → 0 < np)
theorem MI.N {S : MS} {np nv t : Nat} (h : MI S np nv t) : MNn S np nv := h.1
theorem MI.G {S : MS} {np nv t : Nat} (h : MI S np nv t) : GI S := h.2.1
theorem MI_set {S S1 : MS} {np nv t k j : Nat} {v : Int32} (h : MI S np nv t) (hk : k = 0 ∨ k = 2 ∨ k = 11 ∨ k = 12 ∨ k = 15 ∨ k = 23 ∨ k = 29) (e : S1 = mset S k j v) : MI S1 np nv t := by
  subst e
  have n : ∀ k', k' = 1 ∨ k' = 3 ∨ k' = 5 ∨ k' = 6 ∨ k' = 7 ∨ k' = 8 ∨ k' = 9 ∨ k' = 10 ∨ k' = 13 ∨ k' = 16 ∨ k' = 17 ∨ k' = 18 ∨ k' = 19 ∨ k' = 20 ∨ k' = 21 ∨ k' = 22 ∨ k' = 24 ∨ k' = 25 → (mset S k j v).1 k' = S.1 k' := fun k' h' => mset_k (by omega)
  unfold MI MNn GI VIv PCv FZp at *
  simp only [n _ (show (1 : Nat) = 1 ∨ _ from Or.inl rfl), n 3 (by decide), n 5 (by decide), n 6 (by decide), n 7 (by decide), n 8 (by decide), n 9 (by decide), n 10 (by decide), n 13 (by decide), n 16 (by decide), n 17 (by decide), n 18 (by decide), n 19 (by decide), n 20 (by decide), n 21 (by decide), n 22 (by decide), n 24 (by decide), n 25 (by decide)]
  exact h
/-- a vehicle at a ramp has a piece ahead -/
theorem MI_next {S : MS} {np nv t j : Nat} (h : MI S np nv t) (hj : j < nv) (hw : S.1 20 (nI j).toNatClampNeg = 2) : ∃ q : Nat, q < np ∧ M_nextPiece S (nI j) = nI q := by
  have hv := h.1.2.2.2
  obtain ⟨h22, -, -, -, -, a, ha, hle, -, -, -, h2⟩ := h.2.2.1 j hj
  rw [nI_clamp (by omega)] at hw
  obtain ⟨h3, h4⟩ := h2 hw
  simp only [M_nextPiece, nI_clamp (show j < 2 ^ 31 by omega)]
  split
  · rename_i c
    have h5 := h3 c
    exact ⟨a - 1, by omega, by rw [ha, show a = (a - 1) + 1 by omega, nI_pred]; congr 1⟩
  · rename_i c
    exact ⟨a, h4 c, ha⟩
theorem MI_q {S : MS} {np nv t j : Nat} (h : MI S np nv t) (hj : j < nv) (hw : S.1 20 (nI j).toNatClampNeg = 2) : vp_in (M_nextPiece S (nI j)) 10 := by
  obtain ⟨q, hq, e⟩ := MI_next h hj hw
  rw [e]
  exact vp_in_nI (Nat.lt_of_lt_of_le hq h.1.2.1) (by decide)
theorem MI_spd' {S : MS} {np nv t j q : Nat} (h : MI S np nv t) (hj : j < nv) (hq : q < np) : SPD S (nI j) (nI q) := by
  have h1 := h.1.2.1
  have h2 := h.1.2.2.2
  unfold SPD
  rw [nI_clamp (by omega), nI_clamp (by omega)]
  exact ⟨(h.2.2.1 j hj).2.2.2.1, (h.2.2.2.1 q hq).1, (h.2.2.2.1 q hq).2.1⟩
theorem MI_spd {S : MS} {np nv t j : Nat} (h : MI S np nv t) (hj : j < nv) (hw : S.1 20 (nI j).toNatClampNeg = 2) : SPD S (nI j) (M_nextPiece S (nI j)) := by
  obtain ⟨q, hq, e⟩ := MI_next h hj hw
  rw [e]
  exact MI_spd' h hj hq
theorem MI_pl {S : MS} {np nv t j : Nat} (h : MI S np nv t) (hj : j < nv) (hw : S.1 20 (nI j).toNatClampNeg = 1) : vp_in (S.1 21 (nI j).toNatClampNeg) 10 := by
  have hv := h.1.2.2.2
  have hp := h.1.2.1
  obtain ⟨-, -, -, -, -, a, ha, hle, -, -, h1, -⟩ := h.2.2.1 j hj
  rw [nI_clamp (by omega)] at hw ⊢
  rw [ha]
  exact vp_in_nI (Nat.lt_of_lt_of_le (h1 hw) hp) (by decide)
/-- the number of a vehicle that there is -/
theorem isV_nI {S : MS} {np nv : Nat} {v : Int32} (h : MNn S np nv) (hv : M_isVehicle S v) : ∃ j : Nat, j < nv ∧ v = nI j := by
  have h1 : vp_in v nv := cnt_in (Nat.le_refl _) (by have := h.2.2.2; omega) (by rw [← h.2.2.1]; exact hv)
  exact vp_in_of h1 (by have := h.2.2.2; omega)
theorem isP_nI {S : MS} {np nv : Nat} {v : Int32} (h : MNn S np nv) (hv : M_isPiece S v) : ∃ j : Nat, j < np ∧ v = nI j := by
  have h1 : vp_in v np := cnt_in (Nat.le_refl _) (by have := h.2.1; omega) (by rw [← h.1]; exact hv)
  exact vp_in_of h1 (by have := h.2.1; omega)
theorem MI_qv {S S0 : MS} {np nv t : Nat} {v : Int32} (h : MI S np nv t) (h0 : MNn S0 np nv) (hv : M_isVehicle S0 v) (hw : S.1 20 v.toNatClampNeg = 2) : vp_in (M_nextPiece S v) 10 := by
  obtain ⟨j, hj, rfl⟩ := isV_nI h0 hv
  exact MI_q h hj hw
theorem MI_spv {S S0 : MS} {np nv t : Nat} {v p : Int32} (h : MI S np nv t) (h0 : MNn S0 np nv) (hv : M_isVehicle S0 v) (hp : M_isPiece S0 p) : SPD S v p := by
  obtain ⟨j, hj, rfl⟩ := isV_nI h0 hv
  obtain ⟨q, hq, rfl⟩ := isP_nI h0 hp
  exact MI_spd' h hj hq
theorem min_nI {a b : Nat} (ha : a < 2 ^ 31) (hb : b < 2 ^ 31) : (if nI a ≤ nI b then nI a else nI b) = nI (min a b) := by
  by_cases h : a ≤ b
  · rw [if_pos (nI_le h hb), Nat.min_eq_left h]
  · rw [if_neg (fun z => h ((nI_leI ha hb).mp z)), Nat.min_eq_right (by omega)]
theorem nI_mul (a b : Nat) : nI a * nI b = nI (a * b) := (Int32.ofNat_mul a b).symm
theorem fz_data {S : MS} {np nv t i : Nat} (h : MI S np nv t) (hi : i < np) : ∃ b wh wa sn : Nat, S.1 7 i = nI b ∧ S.1 8 i = nI wh ∧ S.1 9 i = nI wa ∧ S.1 10 i = nI sn ∧ b ≤ 24480 ∧ wh + wa ≤ 100 * t ∧ sn ≤ 500 * t ∧ t ≤ 512 := by
  obtain ⟨f1, ⟨f2, f3, f4⟩, f5⟩ := h.2.2.2.2.1 i hi
  have ht := h.2.2.2.2.2.2.1
  obtain ⟨b, e1, -, g1⟩ := rng_nI (a := 0) (b := 24480) f1
  obtain ⟨wh, e2, -, k2⟩ := rng_nI (x := S.1 8 i) (a := 0) (b := 100 * t) ⟨f2, by omega⟩
  obtain ⟨wa, e3, -, k3⟩ := rng_nI (x := S.1 9 i) (a := 0) (b := 100 * t) ⟨f3, by omega⟩
  obtain ⟨sn, e4, -, g4⟩ := rng_nI (x := S.1 10 i) (a := 0) (b := 500 * t) ⟨f5.1, by have := f5.2; omega⟩
  refine ⟨b, wh, wa, sn, e1, e2, e3, e4, g1, ?_, g4, ht⟩
  rw [e2] at f2 f4
  rw [e3] at f3 f4
  rw [nI_toInt (by omega), nI_toInt (by omega)] at f4
  omega
theorem MI_den {S : MS} {np nv t i : Nat} (h : MI S np nv t) (hi : i < np) (hc : 0 < S.1 1 0) : ¬ (((S.1 7 (nI i).toNatClampNeg + (S.1 8 (nI i).toNatClampNeg + (if S.1 9 (nI i).toNatClampNeg ≤ 2 * S.1 1 0 then S.1 9 (nI i).toNatClampNeg else 2 * S.1 1 0))) + 4 * S.1 10 (nI i).toNatClampNeg) + 50 = 0) := by
  have hnp := h.1.2.1
  rw [nI_clamp (by omega)]
  obtain ⟨b, wh, wa, sn, e1, e2, e3, e4, g1, g2, g3, g4⟩ := fz_data h hi
  obtain ⟨c, e5, -, g5⟩ := rng_nI (x := S.1 1 0) (a := 0) (b := 60) ⟨by rw [Int32.lt_iff_toInt_lt, Int32.toInt_zero] at hc; omega, h.2.2.2.2.2.1.2⟩
  rw [e1, e2, e3, e4, e5, show (2 : Int32) = nI 2 from rfl, nI_mul, min_nI (by omega) (by omega), show (4 : Int32) = nI 4 from rfl, nI_mul, nI_add, nI_add, nI_add, show (50 : Int32) = nI 50 from rfl, nI_add]
  exact nI_ne0 (by omega) (by have : min wa (2 * c) ≤ 2 * c := Nat.min_le_right _ _; omega)
theorem MI_fz {S S1 : MS} {np nv t i : Nat} (h : MI S np nv t) (hk : ∀ k, k ≠ 7 → k ≠ 8 → k ≠ 9 → k ≠ 10 → k ≠ 11 → S1.1 k = S.1 k) (hj : ∀ k j, (k = 7 ∨ k = 8 ∨ k = 9 ∨ k = 10) → j ≠ i → S1.1 k j = S.1 k j) (hf : i < np → FZp S1 t i) : MI S1 np nv t := by
  obtain ⟨h1, h2, h3, h4, h5, h6, h7, h8⟩ := h
  have e : ∀ k, (k ≠ 7 ∧ k ≠ 8 ∧ k ≠ 9 ∧ k ≠ 10 ∧ k ≠ 11) → S1.1 k = S.1 k := fun k z => hk k z.1 z.2.1 z.2.2.1 z.2.2.2.1 z.2.2.2.2
  refine ⟨?_, ?_, ?_, ?_, fun j hjn => ?_, ?_, h7, h8⟩
  · unfold MNn at h1 ⊢
    rw [e 3 (by decide), e 16 (by decide)]
    exact h1
  · unfold GI at h2 ⊢
    rw [e 24 (by decide), e 25 (by decide)]
    exact h2
  · intro j hjn
    have := h3 j hjn
    unfold VIv at this ⊢
    rw [e 22 (by decide), e 17 (by decide), e 18 (by decide), e 19 (by decide), e 24 (by decide), e 21 (by decide), e 20 (by decide)]
    exact this
  · intro j hjn
    have := h4 j hjn
    unfold PCv at this ⊢
    rw [e 13 (by decide), e 6 (by decide), e 5 (by decide)]
    exact this
  · by_cases c : j = i
    · subst c
      exact hf hjn
    · have := h5 j hjn
      unfold FZp at this ⊢
      rw [hj 7 j (by omega) c, hj 8 j (by omega) c, hj 9 j (by omega) c, hj 10 j (by omega) c]
      exact this
  · rw [e 1 (by decide)]
    exact h6
theorem FZ_nI {S : MS} {t i b wh wa sn : Nat} (ht : t ≤ 512) (e1 : S.1 7 i = nI b) (e2 : S.1 8 i = nI wh) (e3 : S.1 9 i = nI wa) (e4 : S.1 10 i = nI sn) (g1 : b ≤ 24480) (g2 : wh + wa ≤ 100 * t) (g3 : sn ≤ 500 * t) : FZp S t i := by
  unfold FZp rng
  rw [e1, e2, e3, e4, nI_toInt (by omega), nI_toInt (by omega), nI_toInt (by omega), nI_toInt (by omega)]
  omega
theorem nI_sub' {a b : Nat} (h : b ≤ a) : nI a - nI b = nI (a - b) := by
  have e : nI a = nI (a - b) + nI b := by rw [nI_add, Nat.sub_add_cancel h]
  rw [e]
  exact Int32.add_sub_cancel _ _
theorem fz_grow {b c k : Nat} (hb : b ≤ 24480) (hc : c ≤ 60) : b + 400 * c / (b + k + 50) ≤ 24480 := by
  have h1 : 400 * c / (b + k + 50) ≤ 24000 / (b + 50) := Nat.le_trans (Nat.div_le_div_right (by omega)) (Nat.div_le_div_left (by omega) (by omega))
  have h2 : 24000 / (b + 50) ≤ 480 := Nat.le_trans (Nat.div_le_div_left (show 50 ≤ b + 50 by omega) (by omega)) (by omega)
  by_cases h : b ≤ 24000
  · omega
  · have h3 : 24000 / (b + 50) = 0 := Nat.div_eq_of_lt (by omega)
    omega
theorem M_freezes_k {S : MS} {p : Int32} {k : Nat} (h7 : k ≠ 7) (h8 : k ≠ 8) (h9 : k ≠ 9) (h11 : k ≠ 11) : (M_freezes S p).1 k = S.1 k := by
  unfold M_freezes
  dsimp only
  (repeat' split) <;> simp only [mset_k h7, mset_k h8, mset_k h9, mset_k h11]
theorem mset_j {S : MS} {k j k' j' : Nat} {v : Int32} (h : j' ≠ j) : (mset S k j v).1 k' j' = S.1 k' j' := if_neg fun z => h z.2
theorem M_freezes_j {S : MS} {p : Int32} {k j : Nat} (h : j ≠ p.toNatClampNeg) : (M_freezes S p).1 k j = S.1 k j := by
  unfold M_freezes
  dsimp only
  (repeat' split) <;> simp only [mset_j h]
theorem mkset_1 {S : MS} {j : Nat} {v : NN} : (mkset S j v).1 = S.1 := rfl
theorem ite_MS {c : Prop} [Decidable c] {A B : MS} {k j : Nat} {x : Int32} (hA : A.1 k j = x) (hB : B.1 k j = x) : (if c then A else B).1 k j = x := by
  split
  · exact hA
  · exact hB
theorem M_thaws_k {S : MS} {p : Int32} {k : Nat} (h7 : k ≠ 7) (h8 : k ≠ 8) (h10 : k ≠ 10) (h11 : k ≠ 11) : (M_thaws S p).1 k = S.1 k := by
  funext j
  unfold M_thaws
  dsimp only
  refine ite_MS ?_ ?_
  · rw [mset_k h11, mkset_1, mset_k h7, mset_k h8, mset_k h10]
  · rw [mset_k h11, mkset_1, mset_k h7, mset_k h8, mset_k h10]
theorem M_thaws_j {S : MS} {p : Int32} {k j : Nat} (h : j ≠ p.toNatClampNeg) : (M_thaws S p).1 k j = S.1 k j := by
  unfold M_thaws
  dsimp only
  refine ite_MS ?_ ?_
  · rw [mset_j h, mkset_1, mset_j h, mset_j h, mset_j h]
  · rw [mset_j h, mkset_1, mset_j h, mset_j h, mset_j h]
theorem M_thaws_v {S : MS} {p : Int32} {x1 x4 x7 : Int32} (e1 : x1 = if S.1 10 p.toNatClampNeg ≤ (-6) * S.1 1 0 then S.1 10 p.toNatClampNeg else (-6) * S.1 1 0) (e4 : x4 = if S.1 8 p.toNatClampNeg ≤ (-6) * S.1 1 0 - x1 then S.1 8 p.toNatClampNeg else (-6) * S.1 1 0 - x1) (e7 : x7 = if S.1 7 p.toNatClampNeg ≤ (-6) * S.1 1 0 - x1 - x4 then S.1 7 p.toNatClampNeg else (-6) * S.1 1 0 - x1 - x4) : (M_thaws S p).1 10 p.toNatClampNeg = S.1 10 p.toNatClampNeg - x1 ∧ (M_thaws S p).1 8 p.toNatClampNeg = S.1 8 p.toNatClampNeg - x4 ∧ (M_thaws S p).1 7 p.toNatClampNeg = S.1 7 p.toNatClampNeg - x7 := by
  subst e7
  subst e4
  subst e1
  unfold M_thaws
  dsimp only
  refine ⟨ite_MS ?_ ?_, ite_MS ?_ ?_, ite_MS ?_ ?_⟩
  · rw [mset_k (by decide), mkset_1, mset_k (by decide), mset_k (by decide), mset_s]
  · rw [mset_k (by decide), mkset_1, mset_k (by decide), mset_k (by decide), mset_s]
  · rw [mset_k (by decide), mkset_1, mset_k (by decide), mset_s]
    rw [mset_k (k := 10) (k' := 8) (by decide)]
  · rw [mset_k (by decide), mkset_1, mset_k (by decide), mset_s]
    rw [mset_k (k := 10) (k' := 8) (by decide)]
  · rw [mset_k (by decide), mkset_1, mset_s]
    rw [mset_k (k := 8) (k' := 7) (by decide), mset_k (k := 10) (k' := 8) (by decide), mset_k (k := 10) (k' := 7) (by decide)]
  · rw [mset_k (by decide), mkset_1, mset_s]
    rw [mset_k (k := 8) (k' := 7) (by decide), mset_k (k := 10) (k' := 8) (by decide), mset_k (k := 10) (k' := 7) (by decide)]
theorem MI_thaws {S : MS} {np nv t i : Nat} (h : MI S np nv t) (hi : i < np) (hc : S.1 1 0 < 0) : MI (M_thaws S (nI i)) np nv t := by
  have hnp := h.1.2.1
  have hci : (nI i).toNatClampNeg = i := nI_clamp (by omega)
  refine MI_fz (i := i) h (fun k a b c d e => M_thaws_k a b d e) (fun k j _ hj => M_thaws_j (by rw [hci]; exact hj)) (fun _ => ?_)
  obtain ⟨b, wh, wa, sn, e1, e2, e3, e4, g1, g2, g3, g4⟩ := fz_data h hi
  have hr := h.2.2.2.2.2.1.1
  have hz : S.1 1 0 = nI 0 - nI (-(S.1 1 0).toInt).toNat := by
    rw [← Int32.toInt_inj]
    rw [Int32.lt_iff_toInt_lt, Int32.toInt_zero] at hc
    rw [Int32.toInt_sub, nI_toInt (by decide), nI_toInt (by omega), Int.bmod_eq_of_le (by omega) (by omega)]
    omega
  obtain ⟨c, hcc⟩ : ∃ c, c = (-(S.1 1 0).toInt).toNat := ⟨_, rfl⟩
  rw [← hcc] at hz
  have hc20 : c ≤ 20 := by omega
  have h6 : (-6) * S.1 1 0 = nI (6 * c) := by
    rw [hz]
    have : ∀ c, c ≤ 20 → (-6 : Int32) * (nI 0 - nI c) = nI (6 * c) := by decide +kernel
    exact this c hc20
  obtain ⟨v10, v8, v7⟩ := M_thaws_v (S := S) (p := nI i) rfl rfl rfl
  rw [hci] at v10 v8 v7
  rw [h6, e4, min_nI (by omega) (by omega)] at v10 v8 v7
  have m1 : min sn (6 * c) ≤ 6 * c := Nat.min_le_right _ _
  have m1' : min sn (6 * c) ≤ sn := Nat.min_le_left _ _
  rw [nI_sub' m1', ] at v10
  rw [e2, nI_sub' m1, min_nI (by omega) (by omega)] at v8 v7
  have m2 : min wh (6 * c - min sn (6 * c)) ≤ wh := Nat.min_le_left _ _
  have m2' : min wh (6 * c - min sn (6 * c)) ≤ 6 * c - min sn (6 * c) := Nat.min_le_right _ _
  rw [nI_sub' m2] at v8
  rw [e1, nI_sub' m2', min_nI (by omega) (by omega)] at v7
  have m3 : min b (6 * c - min sn (6 * c) - min wh (6 * c - min sn (6 * c))) ≤ b := Nat.min_le_left _ _
  rw [nI_sub' m3] at v7
  have v9 : (M_thaws S (nI i)).1 9 i = nI wa := by rw [M_thaws_k (by decide) (by decide) (by decide) (by decide)]; exact e3
  exact FZ_nI g4 v7 v8 v9 v10 (by omega) (by omega) (by omega)
theorem ite_P {α : Type} {c : Prop} [Decidable c] {A B : α} (P : α → Prop) (hA : P A) (hB : P B) : P (if c then A else B) := by
  split
  · exact hA
  · exact hB
theorem nI_div {a b : Nat} (ha : a < 2 ^ 31) (hb : b < 2 ^ 31) : nI a / nI b = nI (a / b) := by
  have hd : a / b ≤ a := Nat.div_le_self a b
  rw [← Int32.toInt_inj, Int32.toInt_div, nI_toInt ha, nI_toInt hb, nI_toInt (by omega), ← Int.ofNat_tdiv]
  generalize a / b = q at hd ⊢
  exact Int.bmod_eq_of_le (by omega) (by omega)
theorem fz_add {g : Nat} {K : Prop} [Decidable K] (hg : g < 2 ^ 31) : ∃ y, y ≤ g ∧ (if 0 ≤ nI g - (if K then 2 else 0) then nI g - (if K then 2 else 0) else 0) = nI y := by
  by_cases hK : K
  · rw [if_pos hK]
    by_cases h2 : 2 ≤ g
    · have e : nI g - 2 = nI (g - 2) := nI_sub' h2
      rw [e, if_pos (nI_pos' (by omega))]
      exact ⟨g - 2, by omega, rfl⟩
    · refine ⟨0, by omega, ?_⟩
      have hh : g = 0 ∨ g = 1 := by omega
      rcases hh with rfl | rfl <;> decide
  · rw [if_neg hK]
    have e : nI g - 0 = nI g := nI_sub' (b := 0) (Nat.zero_le g)
    rw [e, if_pos (nI_pos' hg)]
    exact ⟨g, Nat.le_refl _, rfl⟩
theorem M_freezes_v {S : MS} {p : Int32} {x1 : Int32} (e1 : x1 = if S.1 9 p.toNatClampNeg ≤ 2 * S.1 1 0 then S.1 9 p.toNatClampNeg else 2 * S.1 1 0) : (M_freezes S p).1 9 p.toNatClampNeg = S.1 9 p.toNatClampNeg - x1 ∧ (M_freezes S p).1 8 p.toNatClampNeg = S.1 8 p.toNatClampNeg + x1 ∧ ((M_freezes S p).1 7 p.toNatClampNeg = S.1 7 p.toNatClampNeg ∨ (M_freezes S p).1 7 p.toNatClampNeg = S.1 7 p.toNatClampNeg + (if 0 ≤ (400 * S.1 1 0) / (((S.1 7 p.toNatClampNeg + (S.1 8 p.toNatClampNeg + x1)) + 4 * S.1 10 p.toNatClampNeg) + 50) - (if S.1 4 p.toNatClampNeg = 1 then 2 else 0) then (400 * S.1 1 0) / (((S.1 7 p.toNatClampNeg + (S.1 8 p.toNatClampNeg + x1)) + 4 * S.1 10 p.toNatClampNeg) + 50) - (if S.1 4 p.toNatClampNeg = 1 then 2 else 0) else 0)) := by
  subst e1
  unfold M_freezes
  dsimp only
  refine ⟨?_, ?_, ?_⟩
  · have h5 : ∀ (c : Prop) [Decidable c] (S3 : MS) (v : Int32) (u : Int32), S3.1 9 p.toNatClampNeg = u → (if c then mset S3 7 p.toNatClampNeg v else S3).1 9 p.toNatClampNeg = u := fun c _ S3 v u h => ite_MS (by rw [mset_k (by decide)]; exact h) h
    refine ite_MS (ite_MS (h5 _ _ _ _ ?_) ?_) ?_
    · rw [mset_k (by decide), mset_s]
    · rw [mset_k (by decide)]
      exact h5 _ _ _ _ (by rw [mset_k (by decide), mset_s])
    · rw [mset_k (by decide)]
      exact h5 _ _ _ _ (by rw [mset_k (by decide), mset_s])
  · have h5 : ∀ (c : Prop) [Decidable c] (S3 : MS) (v : Int32) (u : Int32), S3.1 8 p.toNatClampNeg = u → (if c then mset S3 7 p.toNatClampNeg v else S3).1 8 p.toNatClampNeg = u := fun c _ S3 v u h => ite_MS (by rw [mset_k (by decide)]; exact h) h
    refine ite_MS (ite_MS (h5 _ _ _ _ ?_) ?_) ?_
    · rw [mset_s, mset_k (by decide)]
    · rw [mset_k (by decide)]
      exact h5 _ _ _ _ (by rw [mset_s, mset_k (by decide)])
    · rw [mset_k (by decide)]
      exact h5 _ _ _ _ (by rw [mset_s, mset_k (by decide)])
  · have h5 : ∀ (c : Prop) [Decidable c] (S3 : MS) (v a b : Int32), S3.1 7 p.toNatClampNeg = a → v = b → ((if c then mset S3 7 p.toNatClampNeg v else S3).1 7 p.toNatClampNeg = a ∨ (if c then mset S3 7 p.toNatClampNeg v else S3).1 7 p.toNatClampNeg = b) := fun c _ S3 v a b h hv => ite_P (fun z : MS => z.1 7 p.toNatClampNeg = a ∨ z.1 7 p.toNatClampNeg = b) (Or.inr (by rw [mset_s]; exact hv)) (Or.inl h)
    have hb : ∀ x1 : Int32, ∀ (a : Int32), a = S.1 7 p.toNatClampNeg → (mset (mset S 9 p.toNatClampNeg (S.1 9 p.toNatClampNeg - x1)) 8 p.toNatClampNeg ((mset S 9 p.toNatClampNeg (S.1 9 p.toNatClampNeg - x1)).1 8 p.toNatClampNeg + x1)).1 7 p.toNatClampNeg = a := fun x1 a h => by
      rw [mset_k (by decide), mset_k (by decide)]
      exact h.symm
    refine ite_P (fun z : MS => z.1 7 p.toNatClampNeg = _ ∨ z.1 7 p.toNatClampNeg = _) (ite_P (fun z : MS => z.1 7 p.toNatClampNeg = _ ∨ z.1 7 p.toNatClampNeg = _) ?_ ?_) ?_
    · exact h5 _ _ _ _ _ (hb _ _ rfl) (by simp only [mset_s, mset_k (k := 8) (k' := 7) (by decide), mset_k (k := 9) (k' := 7) (by decide), mset_k (k := 8) (k' := 1) (by decide), mset_k (k := 9) (k' := 1) (by decide), mset_k (k := 8) (k' := 10) (by decide), mset_k (k := 9) (k' := 10) (by decide), mset_k (k := 8) (k' := 4) (by decide), mset_k (k := 9) (k' := 4) (by decide), mset_k (k := 9) (k' := 8) (by decide)])
    · show (mset _ 11 _ _).1 7 _ = _ ∨ (mset _ 11 _ _).1 7 _ = _
      rw [mset_k (k := 11) (k' := 7) (by decide)]
      exact h5 _ _ _ _ _ (hb _ _ rfl) (by simp only [mset_s, mset_k (k := 8) (k' := 7) (by decide), mset_k (k := 9) (k' := 7) (by decide), mset_k (k := 8) (k' := 1) (by decide), mset_k (k := 9) (k' := 1) (by decide), mset_k (k := 8) (k' := 10) (by decide), mset_k (k := 9) (k' := 10) (by decide), mset_k (k := 8) (k' := 4) (by decide), mset_k (k := 9) (k' := 4) (by decide), mset_k (k := 9) (k' := 8) (by decide)])
    · show (mset _ 11 _ _).1 7 _ = _ ∨ (mset _ 11 _ _).1 7 _ = _
      rw [mset_k (k := 11) (k' := 7) (by decide)]
      exact h5 _ _ _ _ _ (hb _ _ rfl) (by simp only [mset_s, mset_k (k := 8) (k' := 7) (by decide), mset_k (k := 9) (k' := 7) (by decide), mset_k (k := 8) (k' := 1) (by decide), mset_k (k := 9) (k' := 1) (by decide), mset_k (k := 8) (k' := 10) (by decide), mset_k (k := 9) (k' := 10) (by decide), mset_k (k := 8) (k' := 4) (by decide), mset_k (k := 9) (k' := 4) (by decide), mset_k (k := 9) (k' := 8) (by decide)])
theorem MI_freezes {S : MS} {np nv t i : Nat} (h : MI S np nv t) (hi : i < np) (hc : 0 < S.1 1 0) : MI (M_freezes S (nI i)) np nv t := by
  have hnp := h.1.2.1
  have hci : (nI i).toNatClampNeg = i := nI_clamp (by omega)
  refine MI_fz (i := i) h (fun k a b c d e => M_freezes_k a b c e) (fun k j _ hj => M_freezes_j (by rw [hci]; exact hj)) (fun _ => ?_)
  obtain ⟨b, wh, wa, sn, e1, e2, e3, e4, g1, g2, g3, g4⟩ := fz_data h hi
  obtain ⟨c, e5, -, g5⟩ := rng_nI (x := S.1 1 0) (a := 0) (b := 60) ⟨by rw [Int32.lt_iff_toInt_lt, Int32.toInt_zero] at hc; omega, h.2.2.2.2.2.1.2⟩
  obtain ⟨v9, v8, v7⟩ := M_freezes_v (S := S) (p := nI i) rfl
  rw [hci] at v9 v8 v7
  have hx : (if S.1 9 i ≤ 2 * S.1 1 0 then S.1 9 i else 2 * S.1 1 0) = nI (min wa (2 * c)) := by
    rw [e3, e5, show (2 : Int32) = nI 2 from rfl, nI_mul, min_nI (by omega) (by omega)]
  rw [hx] at v9 v8 v7
  have m1 : min wa (2 * c) ≤ wa := Nat.min_le_left _ _
  rw [e3, nI_sub' m1] at v9
  rw [e2, nI_add] at v8
  have v10 : (M_freezes S (nI i)).1 10 i = nI sn := by rw [M_freezes_k (by decide) (by decide) (by decide) (by decide)]; exact e4
  have hden : ((S.1 7 i + (S.1 8 i + nI (min wa (2 * c)))) + 4 * S.1 10 i) + 50 = nI (b + (wh + min wa (2 * c) + 4 * sn) + 50) := by
    rw [e1, e2, e4, show (4 : Int32) = nI 4 from rfl, nI_mul, nI_add, nI_add, nI_add, show (50 : Int32) = nI 50 from rfl, nI_add]
    congr 1
    omega
  have hnum : 400 * S.1 1 0 = nI (400 * c) := by rw [e5, show (400 : Int32) = nI 400 from rfl, nI_mul]
  rw [hden, hnum, nI_div (by omega) (by omega)] at v7
  have hgr := fz_grow (b := b) (c := c) (k := wh + min wa (2 * c) + 4 * sn) g1 g5
  obtain ⟨y, hy, ey⟩ := fz_add (g := 400 * c / (b + (wh + min wa (2 * c) + 4 * sn) + 50)) (K := S.1 4 i = 1) (by have : 400 * c / (b + (wh + min wa (2 * c) + 4 * sn) + 50) ≤ 400 * c := Nat.div_le_self _ _; omega)
  rw [ey, e1, nI_add] at v7
  rcases v7 with v7 | v7
  · exact FZ_nI g4 v7 v8 v9 v10 g1 (by omega) g3
  · exact FZ_nI g4 v7 v8 v9 v10 (by omega) (by omega) g3
theorem MI_v {S S1 : MS} {np nv t j : Nat} (h : MI S np nv t) (hk : ∀ k, (k = 1 ∨ k = 3 ∨ k = 5 ∨ k = 6 ∨ k = 7 ∨ k = 8 ∨ k = 9 ∨ k = 10 ∨ k = 13 ∨ k = 16 ∨ k = 17 ∨ k = 18 ∨ k = 19 ∨ k = 22) → S1.1 k = S.1 k) (hj : ∀ k j', (k = 20 ∨ k = 21 ∨ k = 24 ∨ k = 25) → j' ≠ j → S1.1 k j' = S.1 k j') (hv : j < nv → VIv S1 np j) (hg : ¬ S1.1 24 j ≤ 0 → vp_in (S1.1 25 j) 3) : MI S1 np nv t := by
  obtain ⟨h1, h2, h3, h4, h5, h6, h7, h8⟩ := h
  refine ⟨?_, ?_, ?_, ?_, ?_, ?_, h7, h8⟩
  · unfold MNn at h1 ⊢
    rw [hk 3 (by decide), hk 16 (by decide)]
    exact h1
  · intro i hi
    by_cases c : i = j
    · subst c
      exact hg hi
    · rw [hj 24 i (by decide) c] at hi
      rw [hj 25 i (by decide) c]
      exact h2 i hi
  · intro i hi
    by_cases c : i = j
    · subst c
      exact hv hi
    · have := h3 i hi
      unfold VIv at this ⊢
      rw [hk 22 (by decide), hk 17 (by decide), hk 18 (by decide), hk 19 (by decide), hj 24 i (by decide) c, hj 21 i (by decide) c, hj 20 i (by decide) c]
      exact this
  · intro i hi
    have := h4 i hi
    unfold PCv at this ⊢
    rw [hk 13 (by decide), hk 6 (by decide), hk 5 (by decide)]
    exact this
  · intro i hi
    have := h5 i hi
    unfold FZp at this ⊢
    rw [hk 7 (by decide), hk 8 (by decide), hk 9 (by decide), hk 10 (by decide)]
    exact this
  · rw [hk 1 (by decide)]
    exact h6
theorem MI_place {S : MS} {np nv t j q : Nat} (h : MI S np nv t) (hj : j < nv) (hq : q < np) {x : Int32} (hx : x = 4 ∨ x = 1) : MI (mset (mset S 21 j (nI q)) 20 j x) np nv t := by
  have hb := h.2.2.1 j hj
  refine MI_v (j := j) h (fun k hk => ?_) (fun k j' _ hj' => ?_) (fun _ => ?_) (fun hg => ?_)
  · rw [mset_k (by omega), mset_k (by omega)]
  · rw [mset_j hj', mset_j hj']
  · unfold VIv at hb ⊢
    obtain ⟨b1, b2, b3, b4, b5, -⟩ := hb
    have e : ∀ k, k ≠ 20 → k ≠ 21 → (mset (mset S 21 j (nI q)) 20 j x).1 k = S.1 k := fun k a b => by rw [mset_k a, mset_k b]
    rw [e 22 (by decide) (by decide), e 17 (by decide) (by decide), e 18 (by decide) (by decide), e 19 (by decide) (by decide), e 24 (by decide) (by decide)]
    refine ⟨b1, b2, b3, b4, b5, q, by rw [mset_k (by decide), mset_s], by omega, ?_, ?_, fun _ => hq, ?_⟩
    all_goals rw [mset_s]; intro z; rcases hx with rfl | rfl <;> exact absurd z (by decide)
  · rw [mset_k (by decide), mset_k (by decide)] at hg ⊢
    exact h.2.1 j hg
theorem MI_comes {S : MS} {np nv t j : Nat} (h : MI S np nv t) (hj : j < nv) (hw : S.1 20 (nI j).toNatClampNeg = 2) : MI (M_comes S (nI j)) np nv t := by
  obtain ⟨q, hq, e⟩ := MI_next h hj hw
  have hv := h.1.2.2.2
  have hcj : (nI j).toNatClampNeg = j := nI_clamp (by omega)
  unfold M_comes
  dsimp only
  rw [e, hcj]
  have a : ∀ (i8 : Nat) (v8 v9 : Int32) (c : Prop) [Decidable c], MI (mset (mset (mset (mset S 15 i8 v8) 21 j (nI q)) 20 j (if c then 4 else 1)) 23 j v9) np nv t := fun i8 v8 v9 c _ => MI_set (MI_place (MI_set h (by decide) rfl) hj hq (by split <;> simp)) (by decide) rfl
  exact ite_P (fun z => MI z np nv t) (MI_set (MI_set (a _ _ _ _) (by decide) rfl) (by decide) rfl) (a _ _ _ _)
theorem M_unloads_j {S : MS} {v b : Int32} {k j' : Nat} (h : j' ≠ v.toNatClampNeg) (h6 : k ≠ 26) (h7 : k ≠ 27) : (M_unloads S v b).1 k j' = S.1 k j' := by
  unfold M_unloads
  dsimp only
  rw [mset_j h, mset_j h]
  exact ite_MS rfl (by rw [mset_k h6, mset_k h7])
theorem M_unloads_24 {S : MS} {v b : Int32} : (M_unloads S v b).1 24 v.toNatClampNeg = 0 := by
  unfold M_unloads
  dsimp only
  rw [mset_k (by decide), mset_s]
theorem wear_nI {b m : Nat} (hb : b < 2 ^ 31) (hm : m < 2 ^ 31) : ∃ y, y ≤ b ∧ (if 0 ≤ nI b - nI m then nI b - nI m else 0) = nI y := by
  by_cases h : m ≤ b
  · rw [nI_sub' h, if_pos (nI_pos' (by omega))]
    exact ⟨b - m, by omega, rfl⟩
  · refine ⟨0, Nat.zero_le _, if_neg fun z => ?_⟩
    rw [Int32.le_iff_toInt_le, Int32.toInt_zero, Int32.toInt_sub, nI_toInt hb, nI_toInt hm, Int.bmod_eq_of_le (by omega) (by omega)] at z
    omega
theorem MI_lv {S S1 : MS} {np nv t j a : Nat} (h : MI S np nv t) (h1 : MI S1 np nv t) (hj : j < nv) (haq : a < np) (k21 : ∀ k, k ≠ 7 → S1.1 k = S.1 k) {a' : Nat} (ha' : a' ≤ np) : MI (if M_isThere (mset (mset S1 21 j (nI a')) 20 j 2) (nI j) then M_arrives (mset (mset S1 21 j (nI a')) 20 j 2) (nI j) else mset (mset S1 21 j (nI a')) 20 j 2) np nv t := by
  have hv := h.1.2.2.2
  have hp := h.1.2.1
  have hcj : (nI j).toNatClampNeg = j := nI_clamp (by omega)
  have hb1 := h1.2.2.1 j hj
  unfold VIv at hb1
  obtain ⟨c1, c2, c3, c4, c5, -⟩ := hb1
  have g7 : ∀ k, k ≠ 20 → k ≠ 21 → (mset (mset S1 21 j (nI a')) 20 j 2).1 k = S1.1 k := fun k q r => by rw [mset_k q, mset_k r]
  have np3 : S1.1 3 0 = nI np := h1.1.1
  by_cases hT : M_isThere (mset (mset S1 21 j (nI a')) 20 j 2) (nI j)
  · rw [if_pos hT]
    have hT2 : nI a' = if S.1 22 j = 0 then 0 else nI np := by
      have hT3 : (mset (mset S1 21 j (nI a')) 20 j 2).1 21 (nI j).toNatClampNeg = if (mset (mset S1 21 j (nI a')) 20 j 2).1 22 (nI j).toNatClampNeg = 0 then 0 else (mset (mset S1 21 j (nI a')) 20 j 2).1 3 0 := hT
      rw [hcj, g7 22 (by decide) (by decide), g7 3 (by decide) (by decide), mset_k (by decide), mset_s, k21 22 (by decide), np3] at hT3
      exact hT3
    have inj : ∀ {x y : Nat}, x ≤ 10 → y ≤ 10 → nI x = nI y → x = y := fun {x y} hx hy z => by
      have z2 := congrArg Int32.toNatClampNeg z
      rw [nI_clamp (by omega), nI_clamp (by omega)] at z2
      exact z2
    have kA : ∀ k, k ≠ 20 → k ≠ 21 → k ≠ 24 → k ≠ 25 → k ≠ 26 → k ≠ 27 → (M_arrives (mset (mset S1 21 j (nI a')) 20 j 2) (nI j)).1 k = S1.1 k := fun k q r u v w x => by rw [M_arrives_k _ _ q u v w x, g7 k q r]
    have kU : ∀ k, k ≠ 24 → k ≠ 25 → k ≠ 26 → k ≠ 27 → (M_arrives (mset (mset S1 21 j (nI a')) 20 j 2) (nI j)).1 k = (mset (mset (mset S1 21 j (nI a')) 20 j 2) 20 j (if S.1 22 j = 0 then 0 else 3)).1 k := fun k u v w x => by
      unfold M_arrives
      dsimp only
      rw [M_unloads_k _ _ _ u v w x, hcj, g7 22 (by decide) (by decide), k21 22 (by decide)]
    refine MI_v (j := j) h1 (fun k hk => kA k (by omega) (by omega) (by omega) (by omega) (by omega) (by omega)) (fun k j' hk hj' => ?_) (fun _ => ?_) (fun hg => ?_)
    · unfold M_arrives
      dsimp only
      rw [M_unloads_j (by rw [hcj]; exact hj') (by omega) (by omega), hcj, mset_j hj', mset_j hj', mset_j hj']
    · unfold VIv
      have e24 : (M_arrives (mset (mset S1 21 j (nI a')) 20 j 2) (nI j)).1 24 j = 0 := by
        have z := M_unloads_24 (S := mset (mset (mset S1 21 j (nI a')) 20 j 2) 20 (nI j).toNatClampNeg (if (mset (mset S1 21 j (nI a')) 20 j 2).1 22 (nI j).toNatClampNeg = 0 then 0 else 3)) (v := nI j) (b := (mset (mset (mset S1 21 j (nI a')) 20 j 2) 20 (nI j).toNatClampNeg (if (mset (mset S1 21 j (nI a')) 20 j 2).1 22 (nI j).toNatClampNeg = 0 then 0 else 3)).1 22 (nI j).toNatClampNeg)
        rw [hcj] at z
        unfold M_arrives
        dsimp only
        rw [hcj]
        exact z
      rw [e24, kA 22 (by decide) (by decide) (by decide) (by decide) (by decide) (by decide), kA 17 (by decide) (by decide) (by decide) (by decide) (by decide) (by decide), kA 18 (by decide) (by decide) (by decide) (by decide) (by decide) (by decide), kA 19 (by decide) (by decide) (by decide) (by decide) (by decide) (by decide), kU 21 (by decide) (by decide) (by decide) (by decide), kU 20 (by decide) (by decide) (by decide) (by decide), k21 22 (by decide)]
      rw [k21 22 (by decide)] at c1
      refine ⟨c1, c2, c3, c4, ⟨by decide, by decide⟩, a', by rw [mset_k (by decide), mset_k (by decide), mset_s], ha', ?_⟩
      rw [mset_s]
      by_cases c : S.1 22 j = 0
      · rw [if_pos c] at hT2 ⊢
        have h0 : a' = 0 := inj (by omega) (by omega) hT2
        exact ⟨fun _ => h0, fun z => absurd z (by decide), fun z => absurd z (by decide), fun z => absurd z (by decide)⟩
      · rw [if_neg c] at hT2 ⊢
        have h0 : a' = np := inj (by omega) (by omega) hT2
        exact ⟨fun z => absurd z (by decide), fun _ => h0, fun z => absurd z (by decide), fun z => absurd z (by decide)⟩
    · exact absurd (by
        have z := M_unloads_24 (S := mset (mset (mset S1 21 j (nI a')) 20 j 2) 20 (nI j).toNatClampNeg (if (mset (mset S1 21 j (nI a')) 20 j 2).1 22 (nI j).toNatClampNeg = 0 then 0 else 3)) (v := nI j) (b := (mset (mset (mset S1 21 j (nI a')) 20 j 2) 20 (nI j).toNatClampNeg (if (mset (mset S1 21 j (nI a')) 20 j 2).1 22 (nI j).toNatClampNeg = 0 then 0 else 3)).1 22 (nI j).toNatClampNeg)
        rw [hcj] at z
        unfold M_arrives
        dsimp only
        rw [hcj]
        rw [z]
        decide) hg
  · rw [if_neg hT]
    have hT2 : ¬ nI a' = if S.1 22 j = 0 then 0 else nI np := fun z => hT (by
      show (mset (mset S1 21 j (nI a')) 20 j 2).1 21 (nI j).toNatClampNeg = if (mset (mset S1 21 j (nI a')) 20 j 2).1 22 (nI j).toNatClampNeg = 0 then 0 else (mset (mset S1 21 j (nI a')) 20 j 2).1 3 0
      rw [hcj, g7 22 (by decide) (by decide), g7 3 (by decide) (by decide), mset_k (by decide), mset_s, k21 22 (by decide), np3]
      exact z)
    refine MI_v (j := j) h1 (fun k hk => g7 k (by omega) (by omega)) (fun k j' _ hj' => by rw [mset_j hj', mset_j hj']) (fun _ => ?_) (fun hg => ?_)
    · unfold VIv
      rw [g7 22 (by decide) (by decide), g7 17 (by decide) (by decide), g7 18 (by decide) (by decide), g7 19 (by decide) (by decide), g7 24 (by decide) (by decide)]
      refine ⟨c1, c2, c3, c4, c5, a', by rw [mset_k (by decide), mset_s], ha', ?_⟩
      rw [mset_s, k21 22 (by decide)]
      refine ⟨fun z => absurd z (by decide), fun z => absurd z (by decide), fun z => absurd z (by decide), fun _ => ⟨fun c => ?_, fun c => ?_⟩⟩
      · rw [if_pos c] at hT2
        rcases Nat.eq_zero_or_pos a' with z | z
        · exact absurd (by rw [z]; rfl) hT2
        · exact z
      · rw [if_neg c] at hT2
        rcases Nat.lt_or_ge a' np with z | z
        · exact z
        · exact absurd (by rw [show a' = np by omega]) hT2
    · rw [g7 24 (by decide) (by decide)] at hg
      rw [g7 25 (by decide) (by decide)]
      exact h1.2.1 j hg
theorem MI_leaves {S : MS} {np nv t j : Nat} (h : MI S np nv t) (hj : j < nv) (hw : S.1 20 (nI j).toNatClampNeg = 1) : MI (M_leaves S (nI j)) np nv t := by
  have hv := h.1.2.2.2
  have hp := h.1.2.1
  have hcj : (nI j).toNatClampNeg = j := nI_clamp (by omega)
  rw [hcj] at hw
  obtain ⟨b1, b2, b3, b4, b5, a, ha, -, -, -, ha1, -⟩ := h.2.2.1 j hj
  have haq := ha1 hw
  have hca : (nI a).toNatClampNeg = a := nI_clamp (by omega)
  obtain ⟨b, wh, wa, sn, e1, e2, e3, e4, g1, g2, g3, g4⟩ := fz_data h haq
  obtain ⟨em, e5, -, g5⟩ := rng_nI (x := S.1 17 j) (a := 500) (b := 40000) b2
  obtain ⟨lo, e6, -, g6⟩ := rng_nI (x := S.1 24 j) (a := 0) (b := 60000) b5
  have hwt : M_weight S (nI j) = nI (em + lo) := by
    unfold M_weight
    rw [hcj, e5, e6, nI_add]
  obtain ⟨y, hy, ey⟩ := wear_nI (b := b) (m := (em + lo) / 20000) (by omega) (by omega)
  have h1 : MI (if M_isWater S (nI a) then mset S 7 a (nI y) else S) np nv t := by
    refine ite_P (fun z => MI z np nv t) ?_ h
    refine MI_fz (i := a) h (fun k k7 _ _ _ _ => mset_k k7) (fun k j' _ hj' => mset_j hj') (fun _ => ?_)
    exact FZ_nI g4 mset_s ((congrFun (mset_k (by decide)) a).trans e2) ((congrFun (mset_k (by decide)) a).trans e3) ((congrFun (mset_k (by decide)) a).trans e4) (by omega) g2 g3
  have k21 : ∀ k, k ≠ 7 → (if M_isWater S (nI a) then mset S 7 a (nI y) else S).1 k = S.1 k := fun k hk => by
    by_cases c : M_isWater S (nI a)
    · rw [if_pos c, mset_k hk]
    · rw [if_neg c]
  have hdiv : nI (em + lo) / 20000 = nI ((em + lo) / 20000) := nI_div (b := 20000) (by omega) (by decide)
  obtain ⟨S1, hS1⟩ : ∃ z, z = (if M_isWater S (nI a) then mset S 7 a (nI y) else S) := ⟨_, rfl⟩
  rw [← hS1] at h1 k21
  obtain ⟨a', hx4, ha'⟩ : ∃ a' : Nat, (if S1.1 22 j = 0 then nI a else nI a + 1) = nI a' ∧ a' ≤ np := by
    by_cases c : S1.1 22 j = 0
    · rw [if_pos c]; exact ⟨a, rfl, by omega⟩
    · rw [if_neg c]; exact ⟨a + 1, nI_1 a, by omega⟩
  have key := MI_lv h h1 hj haq k21 ha'
  have e : M_leaves S (nI j) = (if M_isThere (mset (mset S1 21 j (nI a')) 20 j 2) (nI j) then M_arrives (mset (mset S1 21 j (nI a')) 20 j 2) (nI j) else mset (mset S1 21 j (nI a')) 20 j 2) := by
    unfold M_leaves
    simp only [hcj, ha, hca, hwt, e1, hdiv, ey, ← hS1, hx4]
  rw [e]
  exact key
def M_why (S : MS) (uv : Int32) : Int32 × MS :=
  if M_isVehicle S uv then
    let S3 := mset S 29 0 0
    let x4 := if (S3.1 20 uv.toNatClampNeg) = 2 then (M_against S3 uv) else (-1)
    (x4, S3)
  else
    let S2 := mset S 29 0 1
    (0, S2)
def M_speed (S : MS) (uv : Int32) (up : Int32) : Int32 × MS :=
  if M_isVehicle S uv then
    if M_isPiece S up then
      let S5 := mset S 29 0 0
      (M_speedOn S5 uv up, S5)
    else
      let S4 := mset S 29 0 1
      (0, S4)
  else
    let S2 := mset S 29 0 1
    (0, S2)
def M_minutes (S : MS) (uv : Int32) (up : Int32) : Int32 × MS :=
  if M_isVehicle S uv then
    if M_isPiece S up then
      let S5 := mset S 29 0 0
      (M_minutesOn S5 uv up, S5)
    else
      let S4 := mset S 29 0 1
      (0, S4)
  else
    let S2 := mset S 29 0 1
    (0, S2)
def M_minutesAnew (S : MS) (uv : Int32) (up : Int32) : Int32 × MS :=
  let S1 := (M_minutes S uv up).2
  ((M_minutes S uv up).1, S1)
theorem i32_nle {a b : Int32} (h : ¬ a ≤ b) : b < a := by
  rw [Int32.le_iff_toInt_le] at h
  rw [Int32.lt_iff_toInt_lt]
  omega
def M_ends_s (S2 : MS) (n : Nat) : MS :=
  let S4 := if (S2.1 1 0) ≤ 0 then (if 0 ≤ (S2.1 1 0) then S2 else (M_thaws S2 (nI n))) else (if M_isWater S2 (nI n) then (M_freezes S2 (nI n)) else (if 0 ≤ (S2.1 1 0) then S2 else (M_thaws S2 (nI n))))
  let x7 := (nI n) + 1
  S4
def M_ends_f (S : MS) : Nat → MS
  | 0 => S
  | n + 1 => M_ends_s (M_ends_f S n) n
def M_ends (S : MS) : MS :=
  let S2 := M_ends_f S (S.1 3 0).toNatClampNeg
  S2
theorem MI_ends_s {S : MS} {np nv t n : Nat} (h : MI S np nv t) (hn : n < np) : MI (M_ends_s S n) np nv t := by
  have hcold : (if 0 ≤ S.1 1 0 then S else M_thaws S (nI n)) = (if 0 ≤ S.1 1 0 then S else M_thaws S (nI n)) → MI (if 0 ≤ S.1 1 0 then S else M_thaws S (nI n)) np nv t := fun _ => by
    by_cases c : 0 ≤ S.1 1 0
    · rw [if_pos c]; exact h
    · rw [if_neg c]; exact MI_thaws h hn (i32_nle c)
  unfold M_ends_s
  dsimp only
  by_cases c1 : S.1 1 0 ≤ 0
  · rw [if_pos c1]
    exact hcold rfl
  · rw [if_neg c1]
    by_cases c2 : M_isWater S (nI n)
    · rw [if_pos c2]
      exact MI_freezes h hn (i32_nle c1)
    · rw [if_neg c2]
      exact hcold rfl
theorem MI_ends_f {S : MS} {np nv t n : Nat} (h : MI S np nv t) (hn : n ≤ np) : MI (M_ends_f S n) np nv t := by
  induction n with
  | zero => exact h
  | succ n ih => exact MI_ends_s (ih (by omega)) (by omega)
theorem MI_ends {S : MS} {np nv t : Nat} (h : MI S np nv t) : MI (M_ends S) np nv t := by
  have e : (S.1 3 0).toNatClampNeg = np := by rw [h.1.1, nI_clamp (by have := h.1.2.1; omega)]
  exact MI_ends_f h (by omega)
def M_passes_s (S8 : MS) (n : Nat) : MS :=
  let S10 := if (S8.1 20 (nI n).toNatClampNeg) = 1 then (if (S8.1 0 0) < (S8.1 23 (nI n).toNatClampNeg) then S8 else (M_leaves S8 (nI n))) else S8
  let S15 := if (S10.1 20 (nI n).toNatClampNeg) = 2 then (if (M_against S10 (nI n)) = 0 then (M_comes S10 (nI n)) else S10) else S10
  let x20 := (nI n) + 1
  S15
def M_passes_f (S : MS) : Nat → MS
  | 0 => S
  | n + 1 => M_passes_s (M_passes_f S n) n
def M_passes (S : MS) : MS :=
  let S1 := mset S 0 0 ((S.1 0 0) + 1)
  let S2 := if ((S1.1 0 0) - (S1.1 0 0) / 1440 * 1440) = 0 then (M_ends S1) else S1
  let S8 := M_passes_f S2 (S2.1 16 0).toNatClampNeg
  S8
theorem MI_passes_s {S : MS} {np nv t n : Nat} (h : MI S np nv t) (hn : n < nv) : MI (M_passes_s S n) np nv t := by
  unfold M_passes_s
  dsimp only
  have h1 : MI (if S.1 20 (nI n).toNatClampNeg = 1 then (if S.1 0 0 < S.1 23 (nI n).toNatClampNeg then S else M_leaves S (nI n)) else S) np nv t := by
    by_cases c1 : S.1 20 (nI n).toNatClampNeg = 1
    · rw [if_pos c1]
      by_cases c2 : S.1 0 0 < S.1 23 (nI n).toNatClampNeg
      · rw [if_pos c2]; exact h
      · rw [if_neg c2]; exact MI_leaves h hn c1
    · rw [if_neg c1]; exact h
  generalize (if S.1 20 (nI n).toNatClampNeg = 1 then (if S.1 0 0 < S.1 23 (nI n).toNatClampNeg then S else M_leaves S (nI n)) else S) = S1 at h1 ⊢
  by_cases c1 : S1.1 20 (nI n).toNatClampNeg = 2
  · rw [if_pos c1]
    by_cases c2 : M_against S1 (nI n) = 0
    · rw [if_pos c2]; exact MI_comes h1 hn c1
    · rw [if_neg c2]; exact h1
  · rw [if_neg c1]; exact h1
theorem MI_passes_f {S : MS} {np nv t n : Nat} (h : MI S np nv t) (hn : n ≤ nv) : MI (M_passes_f S n) np nv t := by
  induction n with
  | zero => exact h
  | succ n ih => exact MI_passes_s (ih (by omega)) (by omega)
theorem isIn_nI {S : MS} {x : Int32} (h : M_isIn S x 1 3000) : ∃ N : Nat, x = nI N ∧ N ≤ 3000 := by
  obtain ⟨h1, h2⟩ := h
  rw [Int32.lt_iff_toInt_lt] at h1 h2
  rw [show (1 : Int32).toInt = 1 by decide] at h1
  rw [show (3000 : Int32).toInt = 3000 by decide] at h2
  obtain ⟨n, e, -, h3⟩ := rng_nI (x := x) (a := 1) (b := 3000) ⟨by omega, by omega⟩
  exact ⟨n, e, h3⟩
theorem MI_passes {S : MS} {np nv t : Nat} (h : MI S np nv t) : MI (M_passes S) np nv t := by
  unfold M_passes
  dsimp only
  have h1 : MI (mset S 0 0 (S.1 0 0 + 1)) np nv t := MI_set h (by decide) rfl
  generalize mset S 0 0 (S.1 0 0 + 1) = S1 at h1 ⊢
  have h2 : MI (if S1.1 0 0 - S1.1 0 0 / 1440 * 1440 = 0 then M_ends S1 else S1) np nv t := ite_P (fun z => MI z np nv t) (MI_ends h1) h1
  generalize (if S1.1 0 0 - S1.1 0 0 / 1440 * 1440 = 0 then M_ends S1 else S1) = S2 at h2 ⊢
  have e : (S2.1 16 0).toNatClampNeg = nv := by rw [h2.1.2.2.1, nI_clamp (by have := h2.1.2.2.2; omega)]
  rw [e]
  exact MI_passes_f h2 (Nat.le_refl _)
def M_pass_s (S5 : MS) (n : Nat) : MS :=
  let S7 := M_passes S5
  let x8 := (nI n) + 1
  S7
def M_pass_f (S : MS) : Nat → MS
  | 0 => S
  | n + 1 => M_pass_s (M_pass_f S n) n
def M_pass (S : MS) (uk : Int32) : Int32 × MS :=
  if M_isIn S uk 1 3000 then
    if ((S.1 0 0) + uk) ≤ 200000 then
      let S3 := mset S 29 0 0
      let S5 := M_pass_f S3 uk.toNatClampNeg
      (S5.1 0 0, S5)
    else
      let S9 := mset S 29 0 2
      (0, S9)
  else
    let S10 := mset S 29 0 1
    (0, S10)
theorem MI_pass_f {S : MS} {np nv t n : Nat} (h : MI S np nv t) : MI (M_pass_f S n) np nv t := by
  induction n with
  | zero => exact h
  | succ n ih => exact MI_passes ih
def M_bill_s (S1 : MS) (n : Nat) (a2 : Int64) : Int64 :=
  let x4 := (nI n) + 1
  a2 + (((S1.1 27 (nI n).toNatClampNeg).toInt64) + ((40 : Int64) * ((M_missing S1 (nI n)).toInt64)))
def M_bill_f (S1 : MS) : Nat → Int64
  | 0 => (0 : Int64)
  | n + 1 => M_bill_s S1 n (M_bill_f S1 n)
def M_bill (S : MS) : Int64 × MS :=
  let S1 := mset S 29 0 0
  let a2 := M_bill_f S1 3
  (a2, S1)
def MS0 : MS := (fun k _ => if k = 2 then 5 else 0, fun _ => ⟨0, nn_0⟩)
def updA (ad : Nat → Nat) (n h : Nat) : Nat → Nat := fun j => if j = n then h else ad j
theorem updA_s {ad : Nat → Nat} {n h : Nat} : updA ad n h n = h := if_pos rfl
theorem updA_n {ad : Nat → Nat} {n h j : Nat} (q : j ≠ n) : updA ad n h j = ad j := if_neg q
