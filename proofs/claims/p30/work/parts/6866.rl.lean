/-! ===== the class' state beside the reference's ===== -/
/-- how many of the first n vehicles are on piece p and go that way -/
def cntOn (M : MS) (p : Nat) (b : Int32) : Nat → Nat
  | 0 => 0
  | n + 1 => cntOn M p b n + (if M.1 20 n = 1 ∧ M.1 21 n = nI p ∧ M.1 22 n = b then 1 else 0)
/-- the kilos of the first n loads of goods g that have not come back -/
def sumLd (S : XS) (g : Int32) : Nat → Int32
  | 0 => 0
  | n + 1 => sumLd S g n + (if S.1 3 n 0 = g ∧ S.1 3 n 2 = 0 then S.1 3 n 1 else 0)
/-- the last coming: never in both, or the same minute -/
def cameR (x m : Int32) : Prop := (x = -1000 ∧ m = -1000000) ∨ (x = m ∧ 0 ≤ m.toInt)
def RP (S : XS) (M : MS) (nv p : Nat) : Prop := S.1 1 p 0 = M.1 4 p ∧ S.1 1 p 1 = M.1 5 p ∧ S.1 1 p 2 = M.1 6 p ∧ S.1 1 p 3 = M.1 7 p ∧ S.1 1 p 4 = M.1 8 p ∧ S.1 1 p 5 = M.1 9 p ∧ S.1 1 p 6 = M.1 10 p ∧ S.1 1 p 7 = M.1 11 p ∧ S.1 1 p 8 = M.1 12 p ∧ S.1 1 p 9 = M.1 13 p ∧ S.2.1 p = M.2 p ∧ S.1 1 p 11 = nI (cntOn M p 1 nv) ∧ S.1 1 p 12 = nI (cntOn M p 0 nv) ∧ S.1 1 p 13 = M_weights_f M (nI p) nv ∧ cameR (S.1 1 p 14) (M.1 15 (2 * p + 1)) ∧ cameR (S.1 1 p 15) (M.1 15 (2 * p))
def RV (S : XS) (M : MS) (j : Nat) : Prop := S.1 2 j 0 = M.1 17 j ∧ S.1 2 j 1 = M.1 18 j ∧ S.1 2 j 2 = M.1 19 j ∧ S.1 2 j 3 = M.1 20 j ∧ S.1 2 j 4 = M.1 21 j ∧ S.1 2 j 5 = M.1 22 j ∧ (M.1 20 j = 1 → S.1 2 j 6 = M.1 23 j) ∧
  ((S.2.2 j = 0 ∧ M.1 24 j = 0 ∧ M.1 25 j = -1) ∨ (¬ S.2.2 j = 0 ∧ S.1 3 (S.2.2 j - 1) 0 = M.1 25 j ∧ S.1 3 (S.2.2 j - 1) 1 = M.1 24 j ∧ S.1 3 (S.2.2 j - 1) 2 = 0 ∧ 0 < (M.1 24 j).toInt))
def RG (Z : XZ) (S : XS) (M : MS) (t g : Nat) : Prop := S.1 5 3 g = M.1 26 g ∧ S.1 5 4 g = M.1 27 g ∧ S.1 5 5 g = M.1 28 g ∧ sumLd S (nI g) (Z.N 2) = M.1 26 g ∧ rng (M.1 27 g) 0 (60000 * t) ∧ rng (M.1 28 g) 0 10000000
/-- class and reference after t calls -/
def RXM (Z : XZ) (S : XS) (M : MS) (t : Nat) : Prop := WZ Z ∧ CW Z S ∧ MI M (Z.N 0) (Z.N 1) t ∧ Z.N 2 ≤ t ∧ S.1 0 0 6 = M.1 0 0 ∧ S.1 0 0 7 = M.1 1 0 ∧ S.1 0 0 8 = M.1 2 0 ∧ rng (M.1 0 0) 0 200000 ∧ rng (M.1 2 0) 0 120 ∧ (∀ p, p < Z.N 0 → RP S M (Z.N 1) p) ∧ (∀ j, j < Z.N 1 → RV S M j) ∧ (∀ g, g < 3 → RG Z S M t g) ∧
  (∀ i j, i < Z.N 1 → j < Z.N 1 → i ≠ j → ¬ S.2.2 i = 0 → S.2.2 i ≠ S.2.2 j) ∧
  (∀ j, Z.N 1 ≤ j → j < 16 → M.1 20 j = 0 ∧ M.1 21 j = 0 ∧ M.1 22 j = 0 ∧ M.1 23 j = 0 ∧ M.1 24 j = 0) ∧
  (∀ p, Z.N 0 ≤ p → p < 10 → M.1 7 p = 0 ∧ M.1 8 p = 0 ∧ M.1 9 p = 0 ∧ M.1 10 p = 0 ∧ M.1 11 p = 0 ∧ M.1 12 p = 0 ∧ (M.2 p).1 = 0)
