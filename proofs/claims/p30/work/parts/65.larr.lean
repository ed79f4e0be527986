/-! ===== the law's int arrays ===== -/
abbrev LwS : Type := Nat → Nat → Int32
def lset (S : LwS) (k j : Nat) (v : Int32) : LwS := fun k' j' => if k' = k ∧ j' = j then v else S k' j'
theorem lset_s {S : LwS} {k j : Nat} {v : Int32} : lset S k j v k j = v := if_pos ⟨rfl, rfl⟩
theorem lset_n {S : LwS} {k j k' j' : Nat} {v : Int32} (h : ¬ (k' = k ∧ j' = j)) : lset S k j v k' j' = S k' j' := if_neg h
theorem lset_k {S : LwS} {k j k' : Nat} {v : Int32} (h : k' ≠ k) : lset S k j v k' = S k' := funext fun _ => if_neg fun z => h z.1
theorem lset_u {S : LwS} {k j : Nat} {v : Int32} : lset S k j v k = upd (S k) j v := funext fun x => by
  by_cases h : x = j
  · subst h
    simp [lset, upd]
  · simp [lset, upd, h]
def lLen (k : Nat) : Nat := if k = 0 then 57 else if k = 1 then 9 else if k = 2 then 16 else if k = 3 then 8 else if k = 4 then 40 else if k = 5 then 10 else 5
def lW (T : Nat → ClassId) (la : Nat → Nat) (S : LwS) : WD := fun k i => if k = 8 ∧ i < 7 then some (la i, .inl (T 0, lLen i, .inl (S i))) else none
theorem lW_s {T : Nat → ClassId} {la : Nat → Nat} {S : LwS} {k : Nat} (hk : k < 7) : lW T la S 8 k = some (la k, .inl (T 0, lLen k, .inl (S k))) := if_pos ⟨rfl, hk⟩
theorem lU {T : Nat → ClassId} {la : Nat → Nat} {S : LwS} {w : WD} {k j : Nat} {x : Int32} (hk : k < 7) : fU (jn w (lW T la S)) 8 k (la k, .inl (T 0, lLen k, .inl (upd (S k) j x))) = jn w (lW T la (lset S k j x)) := by
  funext k' i'
  by_cases q : k' = 8 ∧ i' = k
  · obtain ⟨rfl, rfl⟩ := q
    rw [fU_same, jn_R (lW_s hk), lset_u]
  · rw [fU_ne q]
    by_cases h : k' = 8 ∧ i' < 7
    · obtain ⟨rfl, hi⟩ := h
      have hne : i' ≠ k := fun z => q ⟨rfl, z⟩
      rw [jn_R (lW_s hi), jn_R (lW_s hi), lset_k hne]
    · rw [jn_N (if_neg h), jn_N (if_neg h)]
theorem vp_up {x : Int32} {a b : Nat} (h : vp_in x a) (hab : a ≤ b) : vp_in x b := fun z => h (z.elim Or.inl (fun k => Or.inr (Nat.le_trans hab k)))
theorem vo_n (k : Nat) {K : Int32} {n a b : Nat} (hK : K = nI k) (h : n < a) (hab : k + a ≤ b) (hb : b < 2 ^ 31) : vp_in (K + nI n) b := by
  rw [hK, nI_add]
  exact vp_in_nI (by omega) hb
theorem vo_nc (k : Nat) {K : Int32} {n a : Nat} (hK : K = nI k) (h : n < a) (hb : k + a < 2 ^ 31) : (K + nI n).toNatClampNeg = k + n := by
  rw [hK, nI_add]
  exact nI_clamp (by omega)
theorem vo_i (k : Nat) {K x : Int32} {a b : Nat} (hK : K = nI k) (h : vp_in x a) (hab : k + a ≤ b) (hb : b < 2 ^ 31) : vp_in (K + x) b := by
  obtain ⟨n, hn, rfl⟩ := vp_in_of h (by omega)
  exact vo_n k hK hn hab hb
theorem vo_c (k : Nat) {K x : Int32} {a : Nat} (hK : K = nI k) (h : vp_in x a) (hb : k + a < 2 ^ 31) : (K + x).toNatClampNeg = k + x.toNatClampNeg := by
  obtain ⟨n, hn, rfl⟩ := vp_in_of h (by omega)
  rw [vo_nc k hK hn hb, nI_clamp (by omega)]
section LROWS
variable {p : Program} {e : Env} {R : Room} {s : State} {m : MethodId} {args : Array Value} {below : List Frame} {meth : Method} {c : Code} {H : Heap} {locs : List Loc} {cells slots : Nat} {Q : State → Prop}
variable {cc : ByteArray} {pc : Nat} {ls : Array Slot} {rest : List Value} {G : GX} {A : Nat → Prop} {w0 : WD} {H0 : Heap} {la : Nat → Nat} {S S1 : LwS}
theorem gA {k n q : Nat} {i : Int32} (hx : p.tables.exec = Jvm.exec) (hb : c.code = cc) (hK : va_K G.2.2.1 vwCl (TYS G.2.2.2) s) (hI : fI G.2.2.1 A H0 (jn w0 (lW G.2.2.2 la S)) H locs) (hk : k < 7) (hn : lLen k = n) (hin : vp_in i n) (hq : i.toNatClampNeg = q) (hdg : decode cc pc = .ok (.iaload, 1))
    (kk : W p G.1 e R s m args below meth c H locs cells slots Q (F0 m (pc + 1) ls (.int (S k q) :: rest))) : W p G.1 e R s m args below meth c H locs cells slots Q (F0 m pc ls (.int i :: .ref (la k) :: rest)) := by
  subst hn hq
  exact fx_iald hx hb hK hI (jn_R (lW_s hk)) hin hdg kk
theorem sA {k n q : Nat} {i x : Int32} (hx : p.tables.exec = Jvm.exec) (hb : c.code = cc) (hK : va_K G.2.2.1 vwCl (TYS G.2.2.2) s) (hI : fI G.2.2.1 A H0 (jn w0 (lW G.2.2.2 la S)) H locs) (hk : k < 7) (hn : lLen k = n) (hin : vp_in i n) (hq : i.toNatClampNeg = q) (e1 : S1 = lset S k q x) (hdg : decode cc pc = .ok (.iastore, 1))
    (kk : ∀ (H1 : Heap) (locs1 : List Loc), fI G.2.2.1 A H0 (jn w0 (lW G.2.2.2 la S1)) H1 locs1 → W p G.1 e R s m args below meth c H1 locs1 cells slots Q (F0 m (pc + 1) ls rest)) : W p G.1 e R s m args below meth c H locs cells slots Q (F0 m pc ls (.int x :: .int i :: .ref (la k) :: rest)) := by
  subst hn hq e1
  exact fx_iast hx hb hK hI (jn_R (lW_s hk)) hin (lU hk) hdg kk
end LROWS
