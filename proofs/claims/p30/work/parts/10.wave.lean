/-- over every depth the least speed makes no wave (999 cases, decided by the kernel: a minute and a half) -/
theorem wave_all : ∀ n : Nat, n < 1000 → 1 ≤ n → Op.cmpValue (FP.dcmp (FP.i2d 1) (FP.dmul c784 (FP.i2d (nI n)))) CmpOp.l ≤ 0 := by decide +kernel
