/-! ===== the law's own methods: mirror functions ===== -/
def L_bears (S : LwS) (uq : Int32) (ut : Int32) : Int32 :=
  if ((S 1 uq.toNatClampNeg) - (S 1 uq.toNatClampNeg) / 4 * 4) = 2 then
    let x7 := if (S 0 (24 + uq.toNatClampNeg)) ≤ 99 then 0 else 60000
    x7
  else
    let x2 := ((S 1 uq.toNatClampNeg) / 4) - ((S 1 uq.toNatClampNeg) / 4) / 4 * 4
    let x3 := if x2 = 0 then FP.dconst1 else (if x2 = 1 then (4604930618986332160 : UInt64) else (4602678819172646912 : UInt64))
    FP.d2i (FP.dmul (FP.dmul (FP.dmul (4585925428558828667 : UInt64) (FP.ddiv (FP.i2d ut) (4611686018427387904 : UInt64))) (FP.ddiv (FP.i2d ut) (4611686018427387904 : UInt64))) x3)
def L_twice (S : LwS) (uq : Int32) : Int32 :=
  (2 * (S 0 uq.toNatClampNeg)) + (S 0 (8 + uq.toNatClampNeg))
def L_speed (S : LwS) (uj : Int32) (uq : Int32) : Int32 :=
  let x1 := (S 1 uq.toNatClampNeg) / 64
  let x2 := if x1 ≤ (S 4 (24 + uj.toNatClampNeg)) then x1 else (S 4 (24 + uj.toNatClampNeg))
  if (¬ (2 ≤ ((S 1 uq.toNatClampNeg) - (S 1 uq.toNatClampNeg) / 4 * 4))) ∧ ((¬ ((Op.cmpValue (FP.dcmp (FP.i2d (x2 * x2)) (FP.dmul (4635217326480398746 : UInt64) (FP.i2d (S 2 (8 + uq.toNatClampNeg))))) CmpOp.l) ≤ 0)) ∧ (¬ (0 ≤ (Op.cmpValue (FP.dcmp (FP.i2d (x2 * x2)) (FP.dmul (4637975781252163174 : UInt64) (FP.i2d (S 2 (8 + uq.toNatClampNeg))))) CmpOp.g)))) then
    let r6 := L_lst (FP.dmul (4635217326480398746 : UInt64) (FP.i2d (S 2 (8 + uq.toNatClampNeg)))) 299 0
    r6
  else
    x2
def L_minutes (S : LwS) (uj : Int32) (uq : Int32) : Int32 :=
  ((S 2 uq.toNatClampNeg) / (6 * (L_speed S uj uq))) + (bI (¬ (((S 2 uq.toNatClampNeg) - (S 2 uq.toNatClampNeg) / (6 * (L_speed S uj uq)) * (6 * (L_speed S uj uq))) ≤ 0)))
def L_weights_s (S : LwS) (uq : Int32) (n : Nat) (a1 : Int32) : Int32 :=
  let x3 := if ((S 3 n) - (S 3 n) / 8 * 8) = 1 then (if (((S 3 n) / 8) - ((S 3 n) / 8) / 16 * 16) = uq then ((S 4 n) + (S 4 (8 + n))) else 0) else 0
  let x5 := (nI n) + 1
  a1 + x3
def L_weights_f (S : LwS) (uq : Int32) : Nat → Int32
  | 0 => 0
  | n + 1 => L_weights_s S uq n (L_weights_f S uq n)

def L_weights (S : LwS) (uq : Int32) : Int32 :=
  let a1 := L_weights_f S uq (S 6 4).toNatClampNeg
  a1
/-- which way a vehicle goes; the piece ahead of it -/
def L_way (S : LwS) (uj : Int32) : Int32 := ((S 3 uj.toNatClampNeg) / 128) - ((S 3 uj.toNatClampNeg) / 128) / 2 * 2
def L_pc (S : LwS) (uj : Int32) : Int32 := ((((S 3 uj.toNatClampNeg) / 8) - ((S 3 uj.toNatClampNeg) / 8) / 16 * 16) - 1) + L_way S uj
def L_isMet_s (S : LwS) (x2 x3 : Int32) (n : Nat) (a205 : Int32) : Int32 :=
  let x214 := (nI n) + 1
  bI ((¬ (a205 = 0)) ∨ ((((S 3 n) - (S 3 n) / 8 * 8) = 1) ∧ (((((S 3 n) / 8) - ((S 3 n) / 8) / 16 * 16) = x3) ∧ (¬ ((((S 3 n) / 128) - ((S 3 n) / 128) / 2 * 2) = x2)))))
def L_isMet_f (S : LwS) (x2 x3 : Int32) : Nat → Int32
  | 0 => 0
  | n + 1 => L_isMet_s S x2 x3 n (L_isMet_f S x2 x3 n)

def L_why (S : LwS) (uj : Int32) : Int32 :=
  if ((S 3 uj.toNatClampNeg) - (S 3 uj.toNatClampNeg) / 8 * 8) = 2 then
    let x2 := ((S 3 uj.toNatClampNeg) / 128) - ((S 3 uj.toNatClampNeg) / 128) / 2 * 2
    let x3 := ((((S 3 uj.toNatClampNeg) / 8) - ((S 3 uj.toNatClampNeg) / 8) / 16 * 16) - 1) + x2
    let x4 := ((S 1 x3.toNatClampNeg) / 16) - ((S 1 x3.toNatClampNeg) / 16) / 4 * 4
    let x5 := (S 4 uj.toNatClampNeg) + (S 4 (8 + uj.toNatClampNeg))
    let x6 := (S 1 x3.toNatClampNeg) - (S 1 x3.toNatClampNeg) / 4 * 4
    if x4 = 0 then
      1
    else
      if 2 ≤ x6 then
        if x4 = 1 then
          if 5000 < x5 then
            let x35 := if x4 = 1 then (if x5 ≤ 5000 then 4 else 3) else 4
            x35
          else
            if (S 6 2) ≤ ((S 6 0) - (S 0 (((40 + (8 * x2)) + x3).toNatClampNeg))) then
              let a40 := L_isMet_f S x2 x3 (S 6 4).toNatClampNeg
              let x42 := if x6 ≤ 0 then (if (x5 + (L_weights S x3)) ≤ (L_bears S x3 (S 0 (32 + x3.toNatClampNeg))) then 0 else 6) else (if a40 = 0 then (if (x5 + (L_weights S x3)) ≤ (L_bears S x3 (S 0 (32 + x3.toNatClampNeg))) then 0 else 6) else 5)
              x42
            else
              let x59 := if x4 = 1 then (if x5 ≤ 5000 then 4 else 3) else 4
              x59
        else
          if (S 6 2) ≤ ((S 6 0) - (S 0 (((40 + (8 * x2)) + x3).toNatClampNeg))) then
            let a11 := L_isMet_f S x2 x3 (S 6 4).toNatClampNeg
            let x13 := if x6 ≤ 0 then (if (x5 + (L_weights S x3)) ≤ (L_bears S x3 (S 0 (32 + x3.toNatClampNeg))) then 0 else 6) else (if a11 = 0 then (if (x5 + (L_weights S x3)) ≤ (L_bears S x3 (S 0 (32 + x3.toNatClampNeg))) then 0 else 6) else 5)
            x13
          else
            let x30 := if x4 = 1 then (if x5 ≤ 5000 then 4 else 3) else 4
            x30
      else
        if 0 ≤ (S 6 1) then
          if x4 = 1 then
            if 5000 < x5 then
              let x90 := if x4 = 1 then (if x5 ≤ 5000 then 4 else 3) else 4
              x90
            else
              if (S 6 2) ≤ ((S 6 0) - (S 0 (((40 + (8 * x2)) + x3).toNatClampNeg))) then
                let a95 := L_isMet_f S x2 x3 (S 6 4).toNatClampNeg
                let x97 := if x6 ≤ 0 then (if (x5 + (L_weights S x3)) ≤ (L_bears S x3 (S 0 (32 + x3.toNatClampNeg))) then 0 else 6) else (if a95 = 0 then (if (x5 + (L_weights S x3)) ≤ (L_bears S x3 (S 0 (32 + x3.toNatClampNeg))) then 0 else 6) else 5)
                x97
              else
                let x114 := if x4 = 1 then (if x5 ≤ 5000 then 4 else 3) else 4
                x114
          else
            if (S 6 2) ≤ ((S 6 0) - (S 0 (((40 + (8 * x2)) + x3).toNatClampNeg))) then
              let a66 := L_isMet_f S x2 x3 (S 6 4).toNatClampNeg
              let x68 := if x6 ≤ 0 then (if (x5 + (L_weights S x3)) ≤ (L_bears S x3 (S 0 (32 + x3.toNatClampNeg))) then 0 else 6) else (if a66 = 0 then (if (x5 + (L_weights S x3)) ≤ (L_bears S x3 (S 0 (32 + x3.toNatClampNeg))) then 0 else 6) else 5)
              x68
            else
              let x85 := if x4 = 1 then (if x5 ≤ 5000 then 4 else 3) else 4
              x85
        else
          if ((S 6 0) - (S 6 0) / 1440 * 1440) ≤ 479 then
            if x4 = 1 then
              if 5000 < x5 then
                let x145 := if x4 = 1 then (if x5 ≤ 5000 then 4 else 3) else 4
                x145
              else
                if (S 6 2) ≤ ((S 6 0) - (S 0 (((40 + (8 * x2)) + x3).toNatClampNeg))) then
                  let a150 := L_isMet_f S x2 x3 (S 6 4).toNatClampNeg
                  let x152 := if x6 ≤ 0 then (if (x5 + (L_weights S x3)) ≤ (L_bears S x3 (S 0 (32 + x3.toNatClampNeg))) then 0 else 6) else (if a150 = 0 then (if (x5 + (L_weights S x3)) ≤ (L_bears S x3 (S 0 (32 + x3.toNatClampNeg))) then 0 else 6) else 5)
                  x152
                else
                  let x169 := if x4 = 1 then (if x5 ≤ 5000 then 4 else 3) else 4
                  x169
            else
              if (S 6 2) ≤ ((S 6 0) - (S 0 (((40 + (8 * x2)) + x3).toNatClampNeg))) then
                let a121 := L_isMet_f S x2 x3 (S 6 4).toNatClampNeg
                let x123 := if x6 ≤ 0 then (if (x5 + (L_weights S x3)) ≤ (L_bears S x3 (S 0 (32 + x3.toNatClampNeg))) then 0 else 6) else (if a121 = 0 then (if (x5 + (L_weights S x3)) ≤ (L_bears S x3 (S 0 (32 + x3.toNatClampNeg))) then 0 else 6) else 5)
                x123
              else
                let x140 := if x4 = 1 then (if x5 ≤ 5000 then 4 else 3) else 4
                x140
          else
            if 1200 ≤ ((S 6 0) - (S 6 0) / 1440 * 1440) then
              if x4 = 1 then
                if 5000 < x5 then
                  let x200 := if x4 = 1 then (if x5 ≤ 5000 then 4 else 3) else 4
                  x200
                else
                  if (S 6 2) ≤ ((S 6 0) - (S 0 (((40 + (8 * x2)) + x3).toNatClampNeg))) then
                    let a205 := L_isMet_f S x2 x3 (S 6 4).toNatClampNeg
                    let x207 := if x6 ≤ 0 then (if (x5 + (L_weights S x3)) ≤ (L_bears S x3 (S 0 (32 + x3.toNatClampNeg))) then 0 else 6) else (if a205 = 0 then (if (x5 + (L_weights S x3)) ≤ (L_bears S x3 (S 0 (32 + x3.toNatClampNeg))) then 0 else 6) else 5)
                    x207
                  else
                    let x224 := if x4 = 1 then (if x5 ≤ 5000 then 4 else 3) else 4
                    x224
              else
                if (S 6 2) ≤ ((S 6 0) - (S 0 (((40 + (8 * x2)) + x3).toNatClampNeg))) then
                  let a176 := L_isMet_f S x2 x3 (S 6 4).toNatClampNeg
                  let x178 := if x6 ≤ 0 then (if (x5 + (L_weights S x3)) ≤ (L_bears S x3 (S 0 (32 + x3.toNatClampNeg))) then 0 else 6) else (if a176 = 0 then (if (x5 + (L_weights S x3)) ≤ (L_bears S x3 (S 0 (32 + x3.toNatClampNeg))) then 0 else 6) else 5)
                  x178
                else
                  let x195 := if x4 = 1 then (if x5 ≤ 5000 then 4 else 3) else 4
                  x195
            else
              2
  else
    (-1)
def L_unloads (S : LwS) (uj : Int32) (ub : Int32) : LwS :=
  let x1 := ((S 3 uj.toNatClampNeg) / 256) - 1
  let S2 := if x1 < 0 then S else (lset S 5 (if ub = 0 then x1 else (3 + x1)).toNatClampNeg ((S 5 (if ub = 0 then x1 else (3 + x1)).toNatClampNeg) + (if ub = 0 then (-(S 4 (8 + uj.toNatClampNeg))) else (S 4 (8 + uj.toNatClampNeg)))))
  let S4 := lset S2 3 uj.toNatClampNeg ((S2 3 uj.toNatClampNeg) - (S2 3 uj.toNatClampNeg) / 256 * 256)
  let S5 := lset S4 4 (8 + uj.toNatClampNeg) 0
  S5
def L_ends_s (S2 : LwS) (n : Nat) : LwS :=
  let x4 := ((S2 1 n) / 4) - ((S2 1 n) / 4) / 4 * 4
  if (S2 6 1) ≤ 0 then
    if 0 ≤ (S2 6 1) then
      let S7 := lset S2 1 n ((S2 1 n) + (4 * (x4 - x4)))
      let x8 := (nI n) + 1
      S7
    else
      let x9 := (-6) * (S2 6 1)
      let x10 := if x9 ≤ (S2 0 (24 + n)) then x9 else (S2 0 (24 + n))
      let S12 := lset S2 0 (24 + n) ((S2 0 (24 + n)) - x10)
      let S13 := lset S12 0 (32 + n) ((S12 0 (32 + n)) - 0)
      let x14 := if (x9 - x10) ≤ (S13 0 (8 + n)) then (x9 - x10) else (S13 0 (8 + n))
      let S16 := lset S13 0 (8 + n) ((S13 0 (8 + n)) - x14)
      let x17 := (x9 - x10) - x14
      let S18 := lset S16 0 (32 + n) ((S16 0 (32 + n)) - (x14 * 1))
      let x19 := if x17 ≤ (S18 0 (0 + n)) then x17 else (S18 0 (0 + n))
      let S21 := lset S18 0 (0 + n) ((S18 0 (0 + n)) - x19)
      let S22 := lset S21 0 (32 + n) ((S21 0 (32 + n)) - (x19 * 2))
      let x23 := if 0 ≤ (S22 0 (32 + n)) then (S22 0 (32 + n)) else 0
      let S25 := lset S22 0 (32 + n) x23
      let x26 := if x4 = 1 then 2 else x4
      let S28 := lset S25 1 n ((S25 1 n) + (4 * (x26 - x4)))
      let x29 := (nI n) + 1
      S28
  else
    if 2 ≤ ((S2 1 n) - (S2 1 n) / 4 * 4) then
      if 0 ≤ (S2 6 1) then
        let S37 := lset S2 1 n ((S2 1 n) + (4 * (x4 - x4)))
        let x38 := (nI n) + 1
        S37
      else
        let x39 := (-6) * (S2 6 1)
        let x40 := if x39 ≤ (S2 0 (24 + n)) then x39 else (S2 0 (24 + n))
        let S42 := lset S2 0 (24 + n) ((S2 0 (24 + n)) - x40)
        let S43 := lset S42 0 (32 + n) ((S42 0 (32 + n)) - 0)
        let x44 := if (x39 - x40) ≤ (S43 0 (8 + n)) then (x39 - x40) else (S43 0 (8 + n))
        let S46 := lset S43 0 (8 + n) ((S43 0 (8 + n)) - x44)
        let x47 := (x39 - x40) - x44
        let S48 := lset S46 0 (32 + n) ((S46 0 (32 + n)) - (x44 * 1))
        let x49 := if x47 ≤ (S48 0 (0 + n)) then x47 else (S48 0 (0 + n))
        let S51 := lset S48 0 (0 + n) ((S48 0 (0 + n)) - x49)
        let S52 := lset S51 0 (32 + n) ((S51 0 (32 + n)) - (x49 * 2))
        let x53 := if 0 ≤ (S52 0 (32 + n)) then (S52 0 (32 + n)) else 0
        let S55 := lset S52 0 (32 + n) x53
        let x56 := if x4 = 1 then 2 else x4
        let S58 := lset S55 1 n ((S55 1 n) + (4 * (x56 - x4)))
        let x59 := (nI n) + 1
        S58
    else
      let x65 := if (2 * (S2 6 1)) ≤ (S2 0 (16 + n)) then (2 * (S2 6 1)) else (S2 0 (16 + n))
      let S67 := lset S2 0 (16 + n) ((S2 0 (16 + n)) - x65)
      let S68 := lset S67 0 (8 + n) ((S67 0 (8 + n)) + x65)
      let x69 := if ((S68 1 n) - (S68 1 n) / 4 * 4) = 1 then 2 else 0
      let x71 := ((400 * (S2 6 1)) / ((((S68 0 n) + (S68 0 (8 + n))) + (4 * (S68 0 (24 + n)))) + 50)) - x69
      let x72 := if (S68 0 (16 + n)) = 0 then (if x71 ≤ 0 then 0 else x71) else 0
      let S74 := lset S68 0 n ((S68 0 n) + x72)
      let x75 := if (S2 6 1) ≤ 39 then (if (S2 6 1) ≤ 9 then x4 else (if x4 = 2 then 1 else 0)) else (if x4 = 0 then 1 else x4)
      let S77 := lset S74 1 n ((S74 1 n) + (4 * (x75 - x4)))
      let x78 := (nI n) + 1
      S77
def L_ends_f (S : LwS) : Nat → LwS
  | 0 => S
  | n + 1 => L_ends_s (L_ends_f S n) n

def L_ends (S : LwS) : LwS :=
  let S2 := L_ends_f S (S 6 3).toNatClampNeg
  S2
def L_minute_s (S5 : LwS) (n : Nat) : LwS :=
  let x7 := ((S5 3 n) / 128) - ((S5 3 n) / 128) / 2 * 2
  let S8 := if ((S5 3 n) - (S5 3 n) / 8 * 8) = 1 then (if (S5 6 0) < (S5 4 (32 + n)) then S5 else (let x9 : Int32 := ((S5 3 n) / 8) - ((S5 3 n) / 8) / 16 * 16; (let x10 : Int32 := ((S5 4 n) + (S5 4 (8 + n))) / 20000; (let x11 : Int32 := if ((S5 1 x9.toNatClampNeg) - (S5 1 x9.toNatClampNeg) / 4 * 4) = 2 then 0 else (if x10 ≤ (S5 0 x9.toNatClampNeg) then x10 else (S5 0 x9.toNatClampNeg)); (let S13 : LwS := lset S5 0 x9.toNatClampNeg ((S5 0 x9.toNatClampNeg) - x11); (let S14 : LwS := lset S13 3 n ((S13 3 n) + (1 + (8 * x7))); if (x7 = 1) ∧ (x9 = ((S14 6 3) - 1)) then (let x17 : Int32 := if (x7 = 1) ∧ (x9 = ((S14 6 3) - 1)) then 1 else (-2); (let S19 : LwS := lset S14 3 n ((S14 3 n) + x17); (let S20 : LwS := L_unloads S19 (nI n) (bI ((x7 = 1) ∧ (x9 = ((S14 6 3) - 1)))); S20))) else (if x7 = 0 then (if x9 = 0 then (let x24 : Int32 := if (x7 = 1) ∧ (x9 = ((S14 6 3) - 1)) then 1 else (-2); (let S26 : LwS := lset S14 3 n ((S14 3 n) + x24); (let S27 : LwS := L_unloads S26 (nI n) (bI ((x7 = 1) ∧ (x9 = ((S14 6 3) - 1)))); S27))) else S14) else S14))))))) else S5
  let S10 := if ((S8 3 n) - (S8 3 n) / 8 * 8) = 2 then (if (L_why S8 (nI n)) = 0 then (let x11 : Int32 := ((((S8 3 n) / 8) - ((S8 3 n) / 8) / 16 * 16) - 1) + x7; (let S13 : LwS := lset S8 0 (((40 + (8 * x7)) + x11).toNatClampNeg) (S8 6 0); (let S14 : LwS := lset S13 4 (32 + n) ((S13 6 0) + (L_minutes S13 (nI n) x11)); (let x15 : Int32 := if ¬ ((((S8 4 n) + (S8 4 (8 + n))) + (L_weights S8 x11)) ≤ (L_bears S8 x11 (L_twice S8 x11))) then 2 else (-1); (let S17 : LwS := lset S14 3 n ((S14 3 n) + ((8 * (x7 - 1)) + x15)); if ¬ ((((S8 4 n) + (S8 4 (8 + n))) + (L_weights S8 x11)) ≤ (L_bears S8 x11 (L_twice S8 x11))) then (let x19 : Int32 := if ((S17 1 x11.toNatClampNeg) - (S17 1 x11.toNatClampNeg) / 4 * 4) = 2 then 0 else (2 - (((S17 1 x11.toNatClampNeg) / 4) - ((S17 1 x11.toNatClampNeg) / 4) / 4 * 4)); (let S21 : LwS := lset S17 1 x11.toNatClampNeg ((S17 1 x11.toNatClampNeg) + ((4 * x19) - (16 * (((S17 1 x11.toNatClampNeg) / 16) - ((S17 1 x11.toNatClampNeg) / 16) / 4 * 4)))); S21)) else S17))))) else S8) else S8
  let x12 := (nI n) + 1
  S10
def L_minute_f (S : LwS) : Nat → LwS
  | 0 => S
  | n + 1 => L_minute_s (L_minute_f S n) n

def L_minute (S : LwS) : LwS :=
  let S1 := lset S 6 0 ((S 6 0) + 1)
  let S2 := if ((S1 6 0) - (S1 6 0) / 1440 * 1440) = 0 then (let S2 : LwS := L_ends S1; S2) else S1
  let S5 := L_minute_f S2 (S2 6 4).toNatClampNeg
  S5
/-- what a day divides by -/
def L_den (S2 : LwS) (n : Nat) : Int32 :=
  let x65 := if (2 * (S2 6 1)) ≤ (S2 0 (16 + n)) then (2 * (S2 6 1)) else (S2 0 (16 + n))
  let S67 := lset S2 0 (16 + n) ((S2 0 (16 + n)) - x65)
  let S68 := lset S67 0 (8 + n) ((S67 0 (8 + n)) + x65)
  (((S68 0 n) + (S68 0 (8 + n))) + (4 * (S68 0 (24 + n)))) + 50
/-- a minute of one vehicle: it leaves its piece .. -/
def L_left (S5 : LwS) (n : Nat) (x7 : Int32) : LwS := if ((S5 3 n) - (S5 3 n) / 8 * 8) = 1 then (if (S5 6 0) < (S5 4 (32 + n)) then S5 else (let x9 : Int32 := ((S5 3 n) / 8) - ((S5 3 n) / 8) / 16 * 16; (let x10 : Int32 := ((S5 4 n) + (S5 4 (8 + n))) / 20000; (let x11 : Int32 := if ((S5 1 x9.toNatClampNeg) - (S5 1 x9.toNatClampNeg) / 4 * 4) = 2 then 0 else (if x10 ≤ (S5 0 x9.toNatClampNeg) then x10 else (S5 0 x9.toNatClampNeg)); (let S13 : LwS := lset S5 0 x9.toNatClampNeg ((S5 0 x9.toNatClampNeg) - x11); (let S14 : LwS := lset S13 3 n ((S13 3 n) + (1 + (8 * x7))); if (x7 = 1) ∧ (x9 = ((S14 6 3) - 1)) then (let x17 : Int32 := if (x7 = 1) ∧ (x9 = ((S14 6 3) - 1)) then 1 else (-2); (let S19 : LwS := lset S14 3 n ((S14 3 n) + x17); (let S20 : LwS := L_unloads S19 (nI n) (bI ((x7 = 1) ∧ (x9 = ((S14 6 3) - 1)))); S20))) else (if x7 = 0 then (if x9 = 0 then (let x24 : Int32 := if (x7 = 1) ∧ (x9 = ((S14 6 3) - 1)) then 1 else (-2); (let S26 : LwS := lset S14 3 n ((S14 3 n) + x24); (let S27 : LwS := L_unloads S26 (nI n) (bI ((x7 = 1) ∧ (x9 = ((S14 6 3) - 1)))); S27))) else S14) else S14))))))) else S5
/-- .. and comes onto the next -/
def L_came (S8 : LwS) (n : Nat) (x7 : Int32) : LwS := if ((S8 3 n) - (S8 3 n) / 8 * 8) = 2 then (if (L_why S8 (nI n)) = 0 then (let x11 : Int32 := ((((S8 3 n) / 8) - ((S8 3 n) / 8) / 16 * 16) - 1) + x7; (let S13 : LwS := lset S8 0 (((40 + (8 * x7)) + x11).toNatClampNeg) (S8 6 0); (let S14 : LwS := lset S13 4 (32 + n) ((S13 6 0) + (L_minutes S13 (nI n) x11)); (let x15 : Int32 := if ¬ ((((S8 4 n) + (S8 4 (8 + n))) + (L_weights S8 x11)) ≤ (L_bears S8 x11 (L_twice S8 x11))) then 2 else (-1); (let S17 : LwS := lset S14 3 n ((S14 3 n) + ((8 * (x7 - 1)) + x15)); if ¬ ((((S8 4 n) + (S8 4 (8 + n))) + (L_weights S8 x11)) ≤ (L_bears S8 x11 (L_twice S8 x11))) then (let x19 : Int32 := if ((S17 1 x11.toNatClampNeg) - (S17 1 x11.toNatClampNeg) / 4 * 4) = 2 then 0 else (2 - (((S17 1 x11.toNatClampNeg) / 4) - ((S17 1 x11.toNatClampNeg) / 4) / 4 * 4)); (let S21 : LwS := lset S17 1 x11.toNatClampNeg ((S17 1 x11.toNatClampNeg) + ((4 * x19) - (16 * (((S17 1 x11.toNatClampNeg) / 16) - ((S17 1 x11.toNatClampNeg) / 16) / 4 * 4)))); S21)) else S17))))) else S8) else S8
