/-! ===== what the class answers when asked, in the law's own words ===== -/
theorem sa_0 {α : Type} {th : Option String} {x y : α} {M' : MS} {a b : String} {ok bad : Prop} (h : SA th x y M' (cdL a b) ok bad) (h0 : M'.1 29 0 = 0) : th = none ∧ x = y := by
  rcases h with ⟨h1, -, h3, -⟩ | ⟨E, -, h2, -⟩
  · exact ⟨h1, h3⟩
  · rw [h0] at h2
    exact absurd h2.symm cdL_no
def L_many_f (L : LwS) (x : Int32) : Nat → Int32
  | 0 => 0
  | n + 1 => L_many_f L x n + bI (L 3 n - L 3 n / 8 * 8 = 1 ∧ L 3 n / 8 - L 3 n / 8 / 16 * 16 = x)
def L_on_f (L : LwS) (x : Int32) : Nat → Int32
  | 0 => 0
  | n + 1 => L_on_f L x n + (if L 3 n / 256 - 1 = x then (if 4 ≤ L 3 n - L 3 n / 8 * 8 then 0 else L 4 (8 + n)) else 0)
def L_lost_f (L : LwS) (x : Int32) : Nat → Int32
  | 0 => 0
  | n + 1 => L_lost_f L x n + (if L 3 n / 256 - 1 = x then (if L 3 n - L 3 n / 8 * 8 = 4 then L 4 (8 + n) else 0) else 0)
def L_lacks (L : LwS) (g : Nat) : Int32 := if L 5 (6 + g) ≤ L 5 (3 + g) then 0 else L 5 (6 + g) - L 5 (3 + g)
def L_cost (L : LwS) : Nat → Int32
  | 0 => 0
  | n + 1 => L_cost L n + (L 5 (3 + n) + 40 * L_lacks L n)
section VAL
variable {Z : XZ} {S : XS} {M : MS} {L : LwS} {t : Nat}
theorem RR.l0 (h : RR Z S M L t) : LRR (mset M 29 0 0) L (Z.N 0) (Z.N 1) := LRR_29 h.2.1
theorem RR.i0 (h : RR Z S M L t) : MI (mset M 29 0 0) (Z.N 0) (Z.N 1) t := MI_set h.i (k := 29) (by decide) rfl
theorem L_many_eq {np nv : Nat} {x : Int32} (h : LRR M L np nv) : ∀ n, n ≤ nv → L_many_f L x n = M_many_f M x n
  | 0, _ => rfl
  | n + 1, hn => by
    have hv := h.2.1
    have hw := h.w (show n < nv by omega)
    show L_many_f L x n + _ = M_many_s M x n (M_many_f M x n)
    rw [L_many_eq h n (by omega)]
    unfold M_many_s
    dsimp only
    rw [nI_clamp (show n < 2 ^ 31 by omega), hw.wh, hw.at_]
theorem w4 {np nv n : Nat} (h : LRR M L np nv) (hn : n < nv) : (4 ≤ M.1 20 n) ↔ M.1 20 n = 4 := by
  obtain ⟨w, a, y, g, h1, -, -, -, e1, -⟩ := h.w hn
  rw [e1]
  constructor
  · intro z
    have := (nI_leI (a := 4) (by decide) (by omega)).mp z
    exact (nI_eq (b := 4) (by omega) (by decide)).mpr (by omega)
  · intro z
    have := (nI_eq (b := 4) (by omega) (by decide)).mp z
    exact nI_le (a := 4) (by omega) (by omega)
theorem L_on_eq {np nv : Nat} {x : Int32} (h : LRR M L np nv) : ∀ n, n ≤ nv → L_on_f L x n = M_carried_f M x 0 n
  | 0, _ => rfl
  | n + 1, hn => by
    have hv := h.2.1
    have hw := h.w (show n < nv by omega)
    have hx := h.x (show n < nv by omega)
    have h4 := w4 h (show n < nv by omega)
    show L_on_f L x n + _ = M_carried_s M x 0 n (M_carried_f M x 0 n)
    rw [L_on_eq h n (by omega)]
    unfold M_carried_s
    dsimp only
    rw [nI_clamp (show n < 2 ^ 31 by omega), hw.wh, hw.goods, hx.2.1]
    by_cases c : M.1 20 n = 4
    · rw [if_pos (h4.mpr c), bI_t c, if_neg (show ¬ (1 : Int32) = 0 by decide)]
    · rw [if_neg (fun z => c (h4.mp z)), bI_f c, if_pos rfl]
theorem L_lost_eq {np nv : Nat} {x : Int32} (h : LRR M L np nv) : ∀ n, n ≤ nv → L_lost_f L x n = M_carried_f M x 1 n
  | 0, _ => rfl
  | n + 1, hn => by
    have hv := h.2.1
    have hw := h.w (show n < nv by omega)
    have hx := h.x (show n < nv by omega)
    show L_lost_f L x n + _ = M_carried_s M x 1 n (M_carried_f M x 1 n)
    rw [L_lost_eq h n (by omega)]
    unfold M_carried_s
    dsimp only
    rw [nI_clamp (show n < 2 ^ 31 by omega), hw.wh, hw.goods, hx.2.1]
    by_cases c : M.1 20 n = 4
    · rw [if_pos c, bI_t c, if_pos rfl]
    · rw [if_neg c, bI_f c, if_neg (show ¬ (0 : Int32) = 1 by decide)]
theorem on_lost {np nv : Nat} {g : Nat} (h : LRR M L np nv) : ∀ n, n ≤ nv → L_on_f L (nI g) n + L_lost_f L (nI g) n = sC M g n
  | 0, _ => rfl
  | n + 1, hn => by
    have hw := h.w (show n < nv by omega)
    have hx := h.x (show n < nv by omega)
    have h4 := w4 h (show n < nv by omega)
    have ih := on_lost (g := g) h n (by omega)
    show (L_on_f L (nI g) n + _) + (L_lost_f L (nI g) n + _) = sC M g n + cr M g n
    rw [← ih, hw.wh, hw.goods, hx.2.1]
    unfold cr
    by_cases c : M.1 25 n = nI g
    · rw [if_pos c, if_pos c, if_pos c]
      by_cases c4 : M.1 20 n = 4
      · rw [if_pos (h4.mpr c4), if_pos c4]
        grind
      · rw [if_neg (fun z => c4 (h4.mp z)), if_neg c4]
        grind
    · rw [if_neg c, if_neg c, if_neg c]
      grind
theorem sC_up {g nv : Nat} (hz : ∀ j, nv ≤ j → j < 16 → M.1 24 j = 0) : ∀ d, nv + d ≤ 16 → sC M g (nv + d) = sC M g nv
  | 0, _ => rfl
  | d + 1, h => by
    show sC M g (nv + d) + cr M g (nv + d) = _
    rw [sC_up hz d (by omega), show cr M g (nv + d) = 0 by unfold cr; rw [hz (nv + d) (by omega) (by omega)]; split <;> rfl]
    grind
theorem taken_eq {g : Nat} (hR : RR Z S M L t) (hg : g < 3) : L 5 g = (L 5 (3 + g) + L_on_f L (nI g) (Z.N 1)) + L_lost_f L (nI g) (Z.N 1) := by
  have hnv := hR.nv
  have hk := hR.2.2.2.2 g hg
  have h1 := on_lost (g := g) hR.l (Z.N 1) (Nat.le_refl _)
  have h2 := sC_up (M := M) (g := g) (nv := Z.N 1) (fun j a b => (hR.1.fv a b).2.2.2.2) (16 - Z.N 1) (by omega)
  rw [show Z.N 1 + (16 - Z.N 1) = 16 by omega] at h2
  rw [(hR.l.k hg).1, (hR.l.k hg).2.1, hk, h2, ← h1]
  grind
theorem vt0 (hR : RR Z S M L t) (ht : t < 512) {p : Nat} (hp : p < Z.N 0) : (X_told Z S (nI p) 0).1 = none ∧ (X_told Z S (nI p) 0).2 = L 0 p := by
  have hn := hR.np
  have h0 := hR.l0
  have h := st_told hR.1 ht (nI p) 0
  unfold M_told at h
  rw [if_pos (isP_ok hR.n hp), if_pos (isIn_ok (by decide) (by decide)), nI_clamp (show p < 2 ^ 31 by omega)] at h
  dsimp only at h
  rw [if_pos (show (0 : Int32) = 0 from rfl)] at h
  obtain ⟨a, b⟩ := sa_0 h mset_s
  exact ⟨a, b.trans (h0.q hp).2.2.1.symm⟩
theorem vt1 (hR : RR Z S M L t) (ht : t < 512) {p : Nat} (hp : p < Z.N 0) : (X_told Z S (nI p) 1).1 = none ∧ (X_told Z S (nI p) 1).2 = L 0 (8 + p) := by
  have hn := hR.np
  have h0 := hR.l0
  have h := st_told hR.1 ht (nI p) 1
  unfold M_told at h
  rw [if_pos (isP_ok hR.n hp), if_pos (isIn_ok (by decide) (by decide)), nI_clamp (show p < 2 ^ 31 by omega)] at h
  dsimp only at h
  rw [if_neg (show ¬ (1 : Int32) = 0 by decide), if_pos (show (1 : Int32) = 1 from rfl)] at h
  obtain ⟨a, b⟩ := sa_0 h mset_s
  exact ⟨a, b.trans (h0.q hp).2.2.2.1.symm⟩
theorem vt2 (hR : RR Z S M L t) (ht : t < 512) {p : Nat} (hp : p < Z.N 0) : (X_told Z S (nI p) 2).1 = none ∧ (X_told Z S (nI p) 2).2 = L 0 (16 + p) := by
  have hn := hR.np
  have h0 := hR.l0
  have h := st_told hR.1 ht (nI p) 2
  unfold M_told at h
  rw [if_pos (isP_ok hR.n hp), if_pos (isIn_ok (by decide) (by decide)), nI_clamp (show p < 2 ^ 31 by omega)] at h
  dsimp only at h
  rw [if_neg (show ¬ (2 : Int32) = 0 by decide), if_neg (show ¬ (2 : Int32) = 1 by decide), if_pos (show (2 : Int32) = 2 from rfl)] at h
  obtain ⟨a, b⟩ := sa_0 h mset_s
  exact ⟨a, b.trans (h0.q hp).2.2.2.2.1.symm⟩
theorem vt3 (hR : RR Z S M L t) (ht : t < 512) {p : Nat} (hp : p < Z.N 0) : (X_told Z S (nI p) 3).1 = none ∧ (X_told Z S (nI p) 3).2 = L 0 (24 + p) := by
  have hn := hR.np
  have h0 := hR.l0
  have h := st_told hR.1 ht (nI p) 3
  unfold M_told at h
  rw [if_pos (isP_ok hR.n hp), if_pos (isIn_ok (by decide) (by decide)), nI_clamp (show p < 2 ^ 31 by omega)] at h
  dsimp only at h
  rw [if_neg (show ¬ (3 : Int32) = 0 by decide), if_neg (show ¬ (3 : Int32) = 1 by decide), if_neg (show ¬ (3 : Int32) = 2 by decide), if_pos (show (3 : Int32) = 3 from rfl)] at h
  obtain ⟨a, b⟩ := sa_0 h mset_s
  exact ⟨a, b.trans (h0.q hp).2.2.2.2.2.1.symm⟩
theorem vt4 (hR : RR Z S M L t) (ht : t < 512) {p : Nat} (hp : p < Z.N 0) : (X_told Z S (nI p) 4).1 = none ∧ (X_told Z S (nI p) 4).2 = L 1 p / 4 - L 1 p / 4 / 4 * 4 := by
  have hn := hR.np
  have h0 := hR.l0
  have h := st_told hR.1 ht (nI p) 4
  unfold M_told at h
  rw [if_pos (isP_ok hR.n hp), if_pos (isIn_ok (by decide) (by decide)), nI_clamp (show p < 2 ^ 31 by omega)] at h
  dsimp only at h
  rw [if_neg (show ¬ (4 : Int32) = 0 by decide), if_neg (show ¬ (4 : Int32) = 1 by decide), if_neg (show ¬ (4 : Int32) = 2 by decide), if_neg (show ¬ (4 : Int32) = 3 by decide), if_pos (show (4 : Int32) = 4 from rfl)] at h
  obtain ⟨a, b⟩ := sa_0 h mset_s
  exact ⟨a, b.trans (h0.p hp).crack.symm⟩
theorem vt5 (hR : RR Z S M L t) (ht : t < 512) {p : Nat} (hp : p < Z.N 0) : (X_told Z S (nI p) 5).1 = none ∧ (X_told Z S (nI p) 5).2 = L 1 p / 16 - L 1 p / 16 / 4 * 4 := by
  have hn := hR.np
  have h0 := hR.l0
  have h := st_told hR.1 ht (nI p) 5
  unfold M_told at h
  rw [if_pos (isP_ok hR.n hp), if_pos (isIn_ok (by decide) (by decide)), nI_clamp (show p < 2 ^ 31 by omega)] at h
  dsimp only at h
  rw [if_neg (show ¬ (5 : Int32) = 0 by decide), if_neg (show ¬ (5 : Int32) = 1 by decide), if_neg (show ¬ (5 : Int32) = 2 by decide), if_neg (show ¬ (5 : Int32) = 3 by decide), if_neg (show ¬ (5 : Int32) = 4 by decide), if_pos (show (5 : Int32) = 5 from rfl)] at h
  obtain ⟨a, b⟩ := sa_0 h mset_s
  exact ⟨a, b.trans (h0.p hp).opn.symm⟩
theorem vt6 (hR : RR Z S M L t) (ht : t < 512) {p : Nat} (hp : p < Z.N 0) : (X_told Z S (nI p) 6).1 = none ∧ (X_told Z S (nI p) 6).2 = L 1 p / 64 := by
  have hn := hR.np
  have h0 := hR.l0
  have h := st_told hR.1 ht (nI p) 6
  unfold M_told at h
  rw [if_pos (isP_ok hR.n hp), if_pos (isIn_ok (by decide) (by decide)), nI_clamp (show p < 2 ^ 31 by omega)] at h
  dsimp only at h
  rw [if_neg (show ¬ (6 : Int32) = 0 by decide), if_neg (show ¬ (6 : Int32) = 1 by decide), if_neg (show ¬ (6 : Int32) = 2 by decide), if_neg (show ¬ (6 : Int32) = 3 by decide), if_neg (show ¬ (6 : Int32) = 4 by decide), if_neg (show ¬ (6 : Int32) = 5 by decide), if_pos (show (6 : Int32) = 6 from rfl)] at h
  obtain ⟨a, b⟩ := sa_0 h mset_s
  exact ⟨a, b.trans (h0.p hp).lim.symm⟩
theorem vt7 (hR : RR Z S M L t) (ht : t < 512) {p : Nat} (hp : p < Z.N 0) : (X_told Z S (nI p) 7).1 = none ∧ (X_told Z S (nI p) 7).2 = L_many_f L (nI p) (Z.N 1) := by
  have hn := hR.np
  have h0 := hR.l0
  have h := st_told hR.1 ht (nI p) 7
  unfold M_told at h
  rw [if_pos (isP_ok hR.n hp), if_pos (isIn_ok (by decide) (by decide)), nI_clamp (show p < 2 ^ 31 by omega)] at h
  dsimp only at h
  rw [if_neg (show ¬ (7 : Int32) = 0 by decide), if_neg (show ¬ (7 : Int32) = 1 by decide), if_neg (show ¬ (7 : Int32) = 2 by decide), if_neg (show ¬ (7 : Int32) = 3 by decide), if_neg (show ¬ (7 : Int32) = 4 by decide), if_neg (show ¬ (7 : Int32) = 5 by decide), if_neg (show ¬ (7 : Int32) = 6 by decide)] at h
  obtain ⟨a, b⟩ := sa_0 h mset_s
  refine ⟨a, b.trans ?_⟩
  have hnv := hR.nv
  unfold M_many
  rw [hR.i0.1.2.2.1, nI_clamp (by omega)]
  exact (L_many_eq h0 _ (Nat.le_refl _)).symm
theorem vk1 (hR : RR Z S M L t) (ht : t < 512) {p : Nat} (hp : p < Z.N 0) : (X_thickness Z S (nI p) 1).1 = none ∧ (X_thickness Z S (nI p) 1).2 = FP.ddiv (FP.i2d (L 0 (32 + p))) (4611686018427387904 : UInt64) := by
  have hn := hR.np
  have h0 := hR.l0
  have h := st_thickness hR.1 ht (nI p) 1
  unfold M_thickness at h
  rw [if_pos (isP_ok hR.n hp)] at h
  dsimp only at h
  rw [if_neg (show ¬ (1 : Int32) = 0 by decide), nI_clamp (show p < 2 ^ 31 by omega)] at h
  obtain ⟨a, b⟩ := sa_0 h mset_s
  exact ⟨a, b.trans (h0.q hp).2.2.2.2.2.2.1⟩
theorem vb1 (hR : RR Z S M L t) (ht : t < 512) {p : Nat} (hp : p < Z.N 0) : (X_bears Z S (nI p) 1).1 = none ∧ (X_bears Z S (nI p) 1).2 = L_bears L (nI p) (L 0 (32 + p)) := by
  have hn := hR.np
  have h0 := hR.l0
  have h := st_bears hR.1 ht (nI p) 1
  unfold M_bears at h
  rw [if_pos (isP_ok hR.n hp)] at h
  dsimp only at h
  rw [if_neg (show ¬ (1 : Int32) = 0 by decide), nI_clamp (show p < 2 ^ 31 by omega)] at h
  obtain ⟨a, b⟩ := sa_0 h mset_s
  rw [L_bears_eq h0 hR.i0 hp, ← (h0.q hp).2.2.2.2.2.2.1]
  exact ⟨a, b⟩
theorem vk0 (hR : RR Z S M L t) (ht : t < 512) {p : Nat} (hp : p < Z.N 0) : (X_thickness Z S (nI p) 0).1 = none ∧ (X_thickness Z S (nI p) 0).2 = FP.ddiv (FP.i2d (L_twice L (nI p))) (4611686018427387904 : UInt64) := by
  have hn := hR.np
  have h0 := hR.l0
  have h := st_thickness hR.1 ht (nI p) 0
  unfold M_thickness at h
  rw [if_pos (isP_ok hR.n hp)] at h
  dsimp only at h
  rw [if_pos (show (0 : Int32) = 0 from rfl)] at h
  obtain ⟨a, b⟩ := sa_0 h mset_s
  exact ⟨a, b.trans (L_thick_eq h0 hR.i0 hp)⟩
theorem vb0 (hR : RR Z S M L t) (ht : t < 512) {p : Nat} (hp : p < Z.N 0) : (X_bears Z S (nI p) 0).1 = none ∧ (X_bears Z S (nI p) 0).2 = L_bears L (nI p) (L_twice L (nI p)) := by
  have hn := hR.np
  have h0 := hR.l0
  have h := st_bears hR.1 ht (nI p) 0
  unfold M_bears at h
  rw [if_pos (isP_ok hR.n hp)] at h
  dsimp only at h
  rw [if_pos (show (0 : Int32) = 0 from rfl)] at h
  obtain ⟨a, b⟩ := sa_0 h mset_s
  rw [L_bears_eq h0 hR.i0 hp, ← L_thick_eq h0 hR.i0 hp]
  exact ⟨a, b⟩
theorem vo0 (hR : RR Z S M L t) (ht : t < 512) {j : Nat} (hj : j < Z.N 1) : (X_ofVehicle Z S (nI j) 0).1 = none ∧ (X_ofVehicle Z S (nI j) 0).2 = L 3 j - L 3 j / 8 * 8 := by
  have hn := hR.nv
  have h0 := hR.l0
  have h := st_ofVehicle hR.1 ht (nI j) 0
  unfold M_ofVehicle at h
  rw [if_pos (isV_ok hR.n hj), if_pos (isIn_ok (by decide) (by decide)), nI_clamp (show j < 2 ^ 31 by omega)] at h
  dsimp only at h
  rw [if_pos (show (0 : Int32) = 0 from rfl)] at h
  obtain ⟨a, b⟩ := sa_0 h mset_s
  exact ⟨a, b.trans (h0.w hj).wh.symm⟩
theorem vo1 (hR : RR Z S M L t) (ht : t < 512) {j : Nat} (hj : j < Z.N 1) : (X_ofVehicle Z S (nI j) 1).1 = none ∧ (X_ofVehicle Z S (nI j) 1).2 = L 4 j + L 4 (8 + j) := by
  have hn := hR.nv
  have h0 := hR.l0
  have h := st_ofVehicle hR.1 ht (nI j) 1
  unfold M_ofVehicle at h
  rw [if_pos (isV_ok hR.n hj), if_pos (isIn_ok (by decide) (by decide)), nI_clamp (show j < 2 ^ 31 by omega)] at h
  dsimp only at h
  rw [if_neg (show ¬ (1 : Int32) = 0 by decide), if_pos (show (1 : Int32) = 1 from rfl)] at h
  obtain ⟨a, b⟩ := sa_0 h mset_s
  refine ⟨a, b.trans ?_⟩
  unfold M_weight
  rw [nI_clamp (by omega), (h0.x hj).1, (h0.x hj).2.1]
theorem vo2 (hR : RR Z S M L t) (ht : t < 512) {j : Nat} (hj : j < Z.N 1) : (X_ofVehicle Z S (nI j) 2).1 = none ∧ (X_ofVehicle Z S (nI j) 2).2 = L 4 (8 + j) := by
  have hn := hR.nv
  have h0 := hR.l0
  have h := st_ofVehicle hR.1 ht (nI j) 2
  unfold M_ofVehicle at h
  rw [if_pos (isV_ok hR.n hj), if_pos (isIn_ok (by decide) (by decide)), nI_clamp (show j < 2 ^ 31 by omega)] at h
  dsimp only at h
  rw [if_neg (show ¬ (2 : Int32) = 0 by decide), if_neg (show ¬ (2 : Int32) = 1 by decide), if_pos (show (2 : Int32) = 2 from rfl)] at h
  obtain ⟨a, b⟩ := sa_0 h mset_s
  exact ⟨a, b.trans (h0.x hj).2.1.symm⟩
theorem vo3 (hR : RR Z S M L t) (ht : t < 512) {j : Nat} (hj : j < Z.N 1) : (X_ofVehicle Z S (nI j) 3).1 = none ∧ (X_ofVehicle Z S (nI j) 3).2 = L 3 j / 256 - 1 := by
  have hn := hR.nv
  have h0 := hR.l0
  have h := st_ofVehicle hR.1 ht (nI j) 3
  unfold M_ofVehicle at h
  rw [if_pos (isV_ok hR.n hj), if_pos (isIn_ok (by decide) (by decide)), nI_clamp (show j < 2 ^ 31 by omega)] at h
  dsimp only at h
  rw [if_neg (show ¬ (3 : Int32) = 0 by decide), if_neg (show ¬ (3 : Int32) = 1 by decide), if_neg (show ¬ (3 : Int32) = 2 by decide), if_pos (show (3 : Int32) = 3 from rfl)] at h
  obtain ⟨a, b⟩ := sa_0 h mset_s
  exact ⟨a, b.trans (h0.w hj).goods.symm⟩
theorem vo4 (hR : RR Z S M L t) (ht : t < 512) {j : Nat} (hj : j < Z.N 1) : (X_ofVehicle Z S (nI j) 4).1 = none ∧ (X_ofVehicle Z S (nI j) 4).2 = L 3 j / 8 - L 3 j / 8 / 16 * 16 := by
  have hn := hR.nv
  have h0 := hR.l0
  have h := st_ofVehicle hR.1 ht (nI j) 4
  unfold M_ofVehicle at h
  rw [if_pos (isV_ok hR.n hj), if_pos (isIn_ok (by decide) (by decide)), nI_clamp (show j < 2 ^ 31 by omega)] at h
  dsimp only at h
  rw [if_neg (show ¬ (4 : Int32) = 0 by decide), if_neg (show ¬ (4 : Int32) = 1 by decide), if_neg (show ¬ (4 : Int32) = 2 by decide), if_neg (show ¬ (4 : Int32) = 3 by decide), if_pos (show (4 : Int32) = 4 from rfl)] at h
  obtain ⟨a, b⟩ := sa_0 h mset_s
  exact ⟨a, b.trans (h0.w hj).at_.symm⟩
theorem vo5 (hR : RR Z S M L t) (ht : t < 512) {j : Nat} (hj : j < Z.N 1) : (X_ofVehicle Z S (nI j) 5).1 = none ∧ (X_ofVehicle Z S (nI j) 5).2 = L 3 j / 128 - L 3 j / 128 / 2 * 2 := by
  have hn := hR.nv
  have h0 := hR.l0
  have h := st_ofVehicle hR.1 ht (nI j) 5
  unfold M_ofVehicle at h
  rw [if_pos (isV_ok hR.n hj), if_pos (isIn_ok (by decide) (by decide)), nI_clamp (show j < 2 ^ 31 by omega)] at h
  dsimp only at h
  rw [if_neg (show ¬ (5 : Int32) = 0 by decide), if_neg (show ¬ (5 : Int32) = 1 by decide), if_neg (show ¬ (5 : Int32) = 2 by decide), if_neg (show ¬ (5 : Int32) = 3 by decide), if_neg (show ¬ (5 : Int32) = 4 by decide), if_pos (show (5 : Int32) = 5 from rfl)] at h
  obtain ⟨a, b⟩ := sa_0 h mset_s
  refine ⟨a, b.trans ?_⟩
  rw [(h0.w hj).way]
  rcases (h0.w hj).w01 with z | z
  · rw [z]
    exact bI_f (P := ¬ (0 : Int32) = 0) (fun k => k rfl)
  · rw [z]
    exact bI_t (P := ¬ (1 : Int32) = 0) (by decide)
theorem vo6 (hR : RR Z S M L t) (ht : t < 512) {j : Nat} (hj : j < Z.N 1) : (X_ofVehicle Z S (nI j) 6).1 = none ∧ (X_ofVehicle Z S (nI j) 6).2 = if L 3 j - L 3 j / 8 * 8 = 1 then L 4 (32 + j) else -1 := by
  have hn := hR.nv
  have h0 := hR.l0
  have h := st_ofVehicle hR.1 ht (nI j) 6
  unfold M_ofVehicle at h
  rw [if_pos (isV_ok hR.n hj), if_pos (isIn_ok (by decide) (by decide)), nI_clamp (show j < 2 ^ 31 by omega)] at h
  dsimp only at h
  rw [if_neg (show ¬ (6 : Int32) = 0 by decide), if_neg (show ¬ (6 : Int32) = 1 by decide), if_neg (show ¬ (6 : Int32) = 2 by decide), if_neg (show ¬ (6 : Int32) = 3 by decide), if_neg (show ¬ (6 : Int32) = 4 by decide), if_neg (show ¬ (6 : Int32) = 5 by decide)] at h
  obtain ⟨a, b⟩ := sa_0 h mset_s
  refine ⟨a, b.trans ?_⟩
  rw [(h0.w hj).wh, (h0.x hj).2.2.2.2]
theorem vw (hR : RR Z S M L t) (ht : t < 512) {j : Nat} (hj : j < Z.N 1) : (X_why Z S (nI j)).1 = none ∧ (X_why Z S (nI j)).2 = L_why L (nI j) := by
  have hn := hR.nv
  have h0 := hR.l0
  have h := st_why hR.1 ht (nI j)
  unfold M_why at h
  rw [if_pos (isV_ok hR.n hj), nI_clamp (show j < 2 ^ 31 by omega)] at h
  dsimp only at h
  obtain ⟨a, b⟩ := sa_0 h mset_s
  refine ⟨a, b.trans ?_⟩
  by_cases c : (mset M 29 0 0).1 20 j = 2
  · rw [if_pos c]
    exact (L_why_eq h0 hR.i0 hj c).symm
  · rw [if_neg c]
    exact (L_why_no h0 hj c).symm
theorem vs (hR : RR Z S M L t) (ht : t < 512) {j p : Nat} (hj : j < Z.N 1) (hp : p < Z.N 0) : (X_speed Z S (nI j) (nI p)).1 = none ∧ (X_speed Z S (nI j) (nI p)).2 = L_speed L (nI j) (nI p) := by
  have h0 := hR.l0
  have h := st_speed hR.1 ht (nI j) (nI p)
  unfold M_speed at h
  rw [if_pos (isV_ok hR.n hj), if_pos (isP_ok hR.n hp)] at h
  dsimp only at h
  obtain ⟨a, b⟩ := sa_0 h mset_s
  exact ⟨a, b.trans (L_speed_eq h0 hR.i0 hp hj).symm⟩
theorem vm (hR : RR Z S M L t) (ht : t < 512) {j p : Nat} (hj : j < Z.N 1) (hp : p < Z.N 0) : (X_minutes Z S (nI j) (nI p)).1 = none ∧ (X_minutes Z S (nI j) (nI p)).2 = L_minutes L (nI j) (nI p) := by
  have h0 := hR.l0
  have h := st_minutes hR.1 ht (nI j) (nI p)
  unfold M_minutes at h
  rw [if_pos (isV_ok hR.n hj), if_pos (isP_ok hR.n hp)] at h
  dsimp only at h
  obtain ⟨a, b⟩ := sa_0 h mset_s
  exact ⟨a, b.trans (L_minutes_eq h0 hR.i0 hp hj).symm⟩
theorem vma (hR : RR Z S M L t) (ht : t < 512) {j p : Nat} (hj : j < Z.N 1) (hp : p < Z.N 0) : (X_minutesAnew Z S (nI j) (nI p)).1 = none ∧ (X_minutesAnew Z S (nI j) (nI p)).2 = L_minutes L (nI j) (nI p) := by
  have h0 := hR.l0
  have h := st_minutesAnew hR.1 ht (nI j) (nI p)
  unfold M_minutesAnew M_minutes at h
  rw [if_pos (isV_ok hR.n hj), if_pos (isP_ok hR.n hp)] at h
  dsimp only at h
  obtain ⟨a, b⟩ := sa_0 h mset_s
  exact ⟨a, b.trans (L_minutes_eq h0 hR.i0 hp hj).symm⟩
theorem vg0 (hR : RR Z S M L t) (ht : t < 512) {g : Nat} (hg : g < 3) : (X_kilos Z S (nI g) 0).1 = none ∧ (X_kilos Z S (nI g) 0).2 = L 5 g := by
  have hn := hR.nv
  have h0 := hR.l0
  have h := st_kilos hR.1 ht (nI g) 0
  unfold M_kilos at h
  rw [if_pos (isG_ok hg), if_pos (isIn_ok (by decide) (by decide)), nI_clamp (show g < 2 ^ 31 by omega)] at h
  dsimp only at h
  rw [if_pos (show (0 : Int32) = 0 from rfl)] at h
  obtain ⟨a, b⟩ := sa_0 h mset_s
  exact ⟨a, b.trans (h0.k hg).1.symm⟩
theorem vg1 (hR : RR Z S M L t) (ht : t < 512) {g : Nat} (hg : g < 3) : (X_kilos Z S (nI g) 1).1 = none ∧ (X_kilos Z S (nI g) 1).2 = L 5 (3 + g) := by
  have hn := hR.nv
  have h0 := hR.l0
  have h := st_kilos hR.1 ht (nI g) 1
  unfold M_kilos at h
  rw [if_pos (isG_ok hg), if_pos (isIn_ok (by decide) (by decide)), nI_clamp (show g < 2 ^ 31 by omega)] at h
  dsimp only at h
  rw [if_neg (show ¬ (1 : Int32) = 0 by decide), if_pos (show (1 : Int32) = 1 from rfl)] at h
  obtain ⟨a, b⟩ := sa_0 h mset_s
  exact ⟨a, b.trans (h0.k hg).2.1.symm⟩
theorem vg2 (hR : RR Z S M L t) (ht : t < 512) {g : Nat} (hg : g < 3) : (X_kilos Z S (nI g) 2).1 = none ∧ (X_kilos Z S (nI g) 2).2 = L_on_f L (nI g) (Z.N 1) := by
  have hn := hR.nv
  have h0 := hR.l0
  have h := st_kilos hR.1 ht (nI g) 2
  unfold M_kilos at h
  rw [if_pos (isG_ok hg), if_pos (isIn_ok (by decide) (by decide)), nI_clamp (show g < 2 ^ 31 by omega)] at h
  dsimp only at h
  rw [if_neg (show ¬ (2 : Int32) = 0 by decide), if_neg (show ¬ (2 : Int32) = 1 by decide), if_neg (show ¬ (2 : Int32) = 4 by decide)] at h
  obtain ⟨a, b⟩ := sa_0 h mset_s
  refine ⟨a, b.trans ?_⟩
  unfold M_carried
  rw [hR.i0.1.2.2.1, nI_clamp (by omega), bI_f (show ¬ (2 : Int32) = 3 by decide)]
  exact (L_on_eq h0 _ (Nat.le_refl _)).symm
theorem vg3 (hR : RR Z S M L t) (ht : t < 512) {g : Nat} (hg : g < 3) : (X_kilos Z S (nI g) 3).1 = none ∧ (X_kilos Z S (nI g) 3).2 = L_lost_f L (nI g) (Z.N 1) := by
  have hn := hR.nv
  have h0 := hR.l0
  have h := st_kilos hR.1 ht (nI g) 3
  unfold M_kilos at h
  rw [if_pos (isG_ok hg), if_pos (isIn_ok (by decide) (by decide)), nI_clamp (show g < 2 ^ 31 by omega)] at h
  dsimp only at h
  rw [if_neg (show ¬ (3 : Int32) = 0 by decide), if_neg (show ¬ (3 : Int32) = 1 by decide), if_neg (show ¬ (3 : Int32) = 4 by decide)] at h
  obtain ⟨a, b⟩ := sa_0 h mset_s
  refine ⟨a, b.trans ?_⟩
  unfold M_carried
  rw [hR.i0.1.2.2.1, nI_clamp (by omega), bI_t (show (3 : Int32) = 3 from rfl)]
  exact (L_lost_eq h0 _ (Nat.le_refl _)).symm
theorem vg4 (hR : RR Z S M L t) (ht : t < 512) {g : Nat} (hg : g < 3) : (X_kilos Z S (nI g) 4).1 = none ∧ (X_kilos Z S (nI g) 4).2 = L_lacks L g := by
  have hn := hR.nv
  have h0 := hR.l0
  have h := st_kilos hR.1 ht (nI g) 4
  unfold M_kilos at h
  rw [if_pos (isG_ok hg), if_pos (isIn_ok (by decide) (by decide)), nI_clamp (show g < 2 ^ 31 by omega)] at h
  dsimp only at h
  rw [if_neg (show ¬ (4 : Int32) = 0 by decide), if_neg (show ¬ (4 : Int32) = 1 by decide), if_pos (show (4 : Int32) = 4 from rfl)] at h
  obtain ⟨a, b⟩ := sa_0 h mset_s
  refine ⟨a, b.trans ?_⟩
  unfold M_missing L_lacks
  dsimp only
  rw [nI_clamp (show g < 2 ^ 31 by omega), (h0.k hg).2.1, (h0.k hg).2.2]
theorem vga (hR : RR Z S M L t) (ht : t < 512) {g : Nat} (hg : g < 3) : (X_kilosAnew Z S (nI g)).1 = none ∧ (X_kilosAnew Z S (nI g)).2 = L 5 g := by
  have h0 := hR.l0
  have h := st_kilosAnew hR.1 ht (nI g)
  unfold M_kilosAnew at h
  rw [if_pos (isG_ok hg), nI_clamp (show g < 2 ^ 31 by omega)] at h
  dsimp only at h
  obtain ⟨a, b⟩ := sa_0 h mset_s
  exact ⟨a, b.trans (h0.k hg).1.symm⟩
theorem vmin (hR : RR Z S M L t) (ht : t < 512) : X_minute Z S = L 6 0 := by
  rw [(st_minute hR.1 ht).1]
  exact hR.l0.g.1.symm
theorem i64_nI {a : Nat} (ha : a < 2 ^ 31) : (nI a).toInt64.toInt = a := by
  rw [Int32.toInt_toInt64, nI_toInt ha]
theorem i64_add {a b : Nat} (h : a + b < 2 ^ 31) : (nI a).toInt64 + (nI b).toInt64 = (nI (a + b)).toInt64 := by
  apply Int64.toInt_inj.mp
  rw [Int64.toInt_add, i64_nI (by omega), i64_nI (by omega), i64_nI h, Int.bmod_eq_of_le (by omega) (by omega)]
  omega
theorem i64_40 {a : Nat} (h : 40 * a < 2 ^ 31) : (40 : Int64) * (nI a).toInt64 = (nI (40 * a)).toInt64 := by
  apply Int64.toInt_inj.mp
  rw [Int64.toInt_mul, i64_nI (by omega), i64_nI h, show (40 : Int64).toInt = 40 by decide, Int.bmod_eq_of_le (by omega) (by omega)]
  omega
theorem nI_40 {a : Nat} : (40 : Int32) * nI a = nI (40 * a) := by
  rw [show (40 : Int32) = nI 40 from rfl, nI_mul]
theorem vbill_f (hR : RR Z S M L t) (ht : t ≤ 100) : ∀ n, n ≤ 3 → ∃ c : Nat, L_cost L n = nI c ∧ M_bill_f (mset M 29 0 0) n = (nI c).toInt64 ∧ c ≤ 250000000 * n
  | 0, _ => ⟨0, rfl, (show (0 : Int64) = (nI 0).toInt64 by decide), by omega⟩
  | n + 1, hn => by
    obtain ⟨c, e1, e2, hc⟩ := vbill_f hR ht n (by omega)
    have hg : n < 3 := by omega
    have h0 := hR.l0
    obtain ⟨-, -, -, -, r27, r28⟩ := hR.1.1.g hg
    have o28 := hR.2.2.2.1 n hg
    obtain ⟨a, ea, -, la0⟩ := rng_nI (x := M.1 27 n) (a := 0) (b := 6000000) ⟨r27.1, by have := r27.2; omega⟩
    obtain ⟨b, eb, -, lb0⟩ := rng_nI (x := M.1 28 n) (a := 0) (b := 10000000) ⟨r28.1, r28.2⟩
    have la : a ≤ 6000000 := by
      have := r27.2
      rw [ea, nI_toInt (by omega)] at this
      omega
    have lb : b ≤ 6000000 := by
      rw [eb, nI_toInt (by omega)] at o28
      omega
    have ea0 : (mset M 29 0 0).1 27 n = nI a := by rw [mset_k (by decide)]; exact ea
    have eb0 : (mset M 29 0 0).1 28 n = nI b := by rw [mset_k (by decide)]; exact eb
    have hL : L_lacks L n = nI (b - a) := by
      unfold L_lacks
      rw [(h0.k hg).2.1, (h0.k hg).2.2, ea0, eb0]
      by_cases q : b ≤ a
      · rw [if_pos (nI_le q (by omega)), show b - a = 0 by omega]
        rfl
      · rw [if_neg (fun z => q ((nI_leI (by omega) (by omega)).mp z)), show nI b = nI (b - a) + nI a by rw [nI_add]; congr 1; omega]
        exact Int32.add_sub_cancel _ _
    have hMs : M_missing (mset M 29 0 0) (nI n) = nI (b - a) := by
      rw [← hL]
      unfold M_missing L_lacks
      dsimp only
      rw [nI_clamp (show n < 2 ^ 31 by omega), (h0.k hg).2.1, (h0.k hg).2.2]
    refine ⟨c + (a + 40 * (b - a)), ?_, ?_, by omega⟩
    · show L_cost L n + (L 5 (3 + n) + 40 * L_lacks L n) = _
      rw [e1, hL, (h0.k hg).2.1, ea0, nI_40, nI_add, nI_add]
    · show M_bill_s (mset M 29 0 0) n (M_bill_f (mset M 29 0 0) n) = _
      unfold M_bill_s
      dsimp only
      rw [e2, hMs, nI_clamp (show n < 2 ^ 31 by omega), ea0, i64_40 (by omega), i64_add (by omega), i64_add (by omega)]
theorem vbill (hR : RR Z S M L t) (ht : t ≤ 100) : X_bill Z S = (L_cost L 3).toInt64 := by
  obtain ⟨c, e1, e2, -⟩ := vbill_f hR ht 3 (Nat.le_refl _)
  rw [(st_bill hR.1 (by omega)).1, e1]
  exact e2
/-! the three asked for what is not there -/
theorem no_1 {T : Nat → ClassId} {z : Nat} {th : Option String} {x y : Int32} {M' : MS} {b : String} {ok bad : Prop} (h : SA th x y M' (cdL EIOB b) ok bad) (h1 : M'.1 29 0 = 1) {v : Option Value} {w1 : WD} (hp : poE cvi (pvx th (.int x) (xW T z Z S)) (px th (xW T z Z S)) v w1) : v = some (.int (-30000000)) ∧ w1 = xW T z Z S := by
  rcases h with ⟨-, h2, -, -⟩ | ⟨E, h2, h3, -⟩
  · rw [h1] at h2
    exact absurd h2 (by decide)
  · rw [h1] at h3
    have e := cdL_i1 h3.symm
    rcases hp with ⟨u, ⟨b1, b2, b3⟩, b4⟩ | ⟨E', ⟨b1, b2⟩, b3⟩
    · rw [h2] at b1
      cases b1
    · rw [h2] at b1
      cases b1
      rw [e] at b3
      exact ⟨b3, b2⟩
theorem no_told (hR : RR Z S M L t) (ht : t < 512) {T : Nat → ClassId} {z : Nat} {k : Int32} {v : Option Value} {w1 : WD} (hp : poE cvi (pvx (X_told Z S (L 6 3) k).1 (.int (X_told Z S (L 6 3) k).2) (xW T z Z S)) (px (X_told Z S (L 6 3) k).1 (xW T z Z S)) v w1) : v = some (.int (-30000000)) ∧ w1 = xW T z Z S := by
  rw [hR.l.g.2.2.2.1] at hp
  refine no_1 (st_told hR.1 ht (nI (Z.N 0)) k) ?_ hp
  unfold M_told
  rw [if_neg (isP_no hR.n)]
  exact mset_s
theorem no_ofV (hR : RR Z S M L t) (ht : t < 512) {T : Nat → ClassId} {z : Nat} {k : Int32} {v : Option Value} {w1 : WD} (hp : poE cvi (pvx (X_ofVehicle Z S (L 6 4) k).1 (.int (X_ofVehicle Z S (L 6 4) k).2) (xW T z Z S)) (px (X_ofVehicle Z S (L 6 4) k).1 (xW T z Z S)) v w1) : v = some (.int (-30000000)) ∧ w1 = xW T z Z S := by
  rw [hR.l.g.2.2.2.2] at hp
  refine no_1 (st_ofVehicle hR.1 ht (nI (Z.N 1)) k) ?_ hp
  unfold M_ofVehicle
  rw [if_neg (isV_no hR.n)]
  exact mset_s
theorem no_kilos (hR : RR Z S M L t) (ht : t < 512) {T : Nat → ClassId} {z : Nat} {k : Int32} {v : Option Value} {w1 : WD} (hp : poE cvi (pvx (X_kilos Z S 3 k).1 (.int (X_kilos Z S 3 k).2) (xW T z Z S)) (px (X_kilos Z S 3 k).1 (xW T z Z S)) v w1) : v = some (.int (-30000000)) ∧ w1 = xW T z Z S := by
  refine no_1 (st_kilos hR.1 ht 3 k) ?_ hp
  unfold M_kilos
  rw [if_neg isG_no]
  exact mset_s
theorem pc_ix (hR : RR Z S M L t) (hn : 0 < Z.N 0) : ∃ q : Nat, L 6 0 - L 6 0 / L 6 3 * L 6 3 = nI q ∧ q < Z.N 0 := by
  have hn8 := hR.np
  obtain ⟨a, ea, -, la⟩ := rng_nI (a := 0) (b := 200000) hR.1.1.2.2.2.2.2.2.1
  rw [hR.l.g.1, hR.l.g.2.2.2.1, ea, nI_rem (by omega) (by omega)]
  exact ⟨_, rfl, Nat.mod_lt a hn⟩
theorem np_ne (hR : RR Z S M L t) (hn : 0 < Z.N 0) : ¬ L 6 3 = 0 := by
  have hn8 := hR.np
  rw [hR.l.g.2.2.2.1]
  exact nI_ne0 hn (by omega)
theorem np_pos (hR : RR Z S M L t) {j : Nat} (hj : j < Z.N 1) : 0 < Z.N 0 := hR.i.2.2.2.2.2.2.2 (by omega)
end VAL
theorem lg_self (x : Int64) : lg_cmp x x = 0 := by
  unfold lg_cmp
  rw [if_neg (by simp [gt_iff_lt, Int64.lt_iff_toInt_lt]), if_pos rfl]
