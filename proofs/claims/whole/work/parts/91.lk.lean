/-! ===== the law: what holds at its loop, and rows of its cases ===== -/
def LCtx (p : Program) (s : State) (m : MethodId) (c : Code) (b L : Nat) (xs : Nat → Int32) (G : GX) (A : Nat → Prop) : Prop :=
  p.tables.exec = Jvm.exec ∧ c.code = cL_law ∧ c.maxLocals = 9 ∧ (∀ w ∈ WL, w.before #[Value.ref b] s = true) ∧ s.vm.findClass "IcehighwayLaw" = some m.cls ∧ va_K G.2.2.1 vwCl (TYS G.2.2.2) s ∧ EV (G.2.1, G.2.2.2 5) A s s.heap ∧ va_X b L xs s s.heap ∧ b < s.heap.size ∧ ¬ A b ∧ G.1.stackTraces = false
/-- what comes behind a call of the script -/
def LK (p : Program) (e : Env) (s : State) (m : MethodId) (below : List Frame) (meth : Method) (c : Code) (b : Nat) (Q : State → Prop) (G : GX) (A : Nat → Prop) (ad : Nat → Nat) (bo bd x0 t cells slots : Nat) : Prop :=
  ∀ (Z : XZ) (S : XS) (M : MS) (f : Nat → Int64) (g : Nat → UInt64) (H : Heap) (locs : List Loc) (ls : Array Slot), RXA Z S M (t + 1) → Z.A 0 0 = x0 → fI G.2.2.1 A s.heap (FW G.2.2.2 G.2.1 Z S ad M bo f bd g) H locs → lv_has ls 9 [(5, .int (nI (4 * t))), (4, .ref bd), (3, .ref bo), (2, .ref (ad 0)), (1, .ref x0), (0, .ref b)] → W p G.1 e room_1 s m #[Value.ref b] below meth c H locs (cells + 5) (slots + 802) Q (F0 m 1899 ls [])
theorem cmpI {f : Nat → Int64} {x y : Int32} (h : x = y) : lg_cmp (vp_updL f 0 (cvI (.int x)) (0 : Int32).toNatClampNeg) y.toInt64 = 0 := by
  subst h
  rw [lg_cmp_eq]
  exact if_pos (by decide)
theorem cmpZ0 {f : Nat → Int64} {x y : Int32} (h : x = y) (hy : y = 0) : lg_cmp (vp_updL f 0 (cvZ (.int x)) (0 : Int32).toNatClampNeg) 0 = 0 := by
  subst h
  rw [lg_cmp_eq, cvZ_0 hy]
  exact if_pos (by decide)
theorem cmpZ1 {f : Nat → Int64} {x y : Int32} (h : x = y) (hy : ¬ y = 0) : lg_cmp (vp_updL f 0 (cvZ (.int x)) (0 : Int32).toNatClampNeg) 1 = 0 := by
  subst h
  rw [lg_cmp_eq, cvZ_1 hy]
  exact if_pos (by decide)
theorem at_D {g : Nat → UInt64} {x y : UInt64} (h : x = y) : vf_upd g 0 (cvD (.double x)) (0 : Int32).toNatClampNeg = y := by
  subst h
  exact if_pos (by decide)
theorem cdL_ne {a b E : String} : ¬ cdL a b E = 0 := by
  unfold cdL
  split
  · decide
  · split <;> decide
theorem sc_in {t L k : Nat} {kI : Int32} (hk : kI = nI k) (h : 4 * t + k < L) (hL : L ≤ 2048) : vp_in (nI (4 * t) + kI) L := by
  rw [hk, nI_add]
  exact vp_in_nI h (by omega)
