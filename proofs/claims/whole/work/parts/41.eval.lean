/-! PURE: what a CALL does, told once for both programs. kd av bv: the STEPS (kind, a, b) by slot; sz: how many a MEMBER has; bd: what FACES are bound to; db nb: their doubles. A state: THE STATE, COVERED, STEPS and CALLS in all, STEPS of this CALL. An outcome: VALUE, the state, the THROW (0: none), the last of its CAUSES. -/
abbrev AS : Type := (Nat → Int32) × (Nat → Int32) × Nat × Nat
abbrev AO : Type := Int32 × AS × Int32 × Int32
def aBit (k : Nat) : Int32 := (1 : Int32) <<< (nI k &&& 31)
def aCov (cov : Nat → Int32) (pl k : Nat) : Nat → Int32 := upd cov pl (cov pl ||| aBit k)
def aPayG (M : Int32) (σ : Nat → Int32) (fr to : Nat) (n : Int32) : Int32 × (Nat → Int32) :=
  if n < 0 then (1, σ) else if n ≤ σ fr then if fr = to then (0, σ) else if n ≤ M - σ to then (0, upd (upd σ fr (σ fr - n)) to (upd σ fr (σ fr - n) to + n)) else (2, σ) else (1, σ)
def aPay (σ : Nat → Int32) (fr to : Nat) (n : Int32) : Int32 × (Nat → Int32) := aPayG 1000000000 σ fr to n
def aEv (σ : Nat → Int32) (v : Int32) : Nat → Int32 :=
  if 40 ≤ (σ 29).toNatClampNeg then σ else upd (upd σ (30 + (σ 29).toNatClampNeg) v) 29 (σ 29 + 1)
def aCell (pl : Nat) (a : Int32) : Nat := 12 + (4 * (pl / 3) + a.toNatClampNeg)
/-- the STEPS but TRY, UNLESS, ASK: VALUE, THE STATE, the THROW -/
def aPlain (k a b : Int32) (pl : Nat) (v : Int32) (σ : Nat → Int32) : Int32 × (Nat → Int32) × Int32 :=
  if k = 0 then (v, upd σ (aCell pl a) v, 0) else
  if k = 1 then (σ (aCell pl a), σ, 0) else
  if k = 2 then (v + b, σ, 0) else
  if k = 3 then (v - σ (aCell pl a), σ, 0) else
  if k = 4 then (v, σ, if b ≤ v then 0 else 10 + a) else
  if k = 5 then (v, (aPay σ (8 + pl / 3) a.toNatClampNeg v).2, (aPay σ (8 + pl / 3) a.toNatClampNeg v).1) else
  if k = 6 then (v, aEv σ v, 0) else
  if k = 10 then (σ 28, σ, 0) else
  if k = 11 then (if σ (aCell pl a) = 0 then (v, σ, 6) else (v / σ (aCell pl a), σ, 0)) else
  (v, σ, 0)
def aPass (k b v : Int32) : Bool := if k = 13 then decide (b ≤ v) else !decide (b ≤ v)
/-- a CALL that ASK makes has ended: its THROW, as the ASK has it; THE STATE is then as ahead of it -/
def aBack (σ : Nat → Int32) (r : AO) : AO := if r.2.2.1 = 0 then r else (r.1, (σ, r.2.1.2), if r.2.2.1 = 7 then 7 else 5, r.2.2.2)
def aBlock (kd av bv : Nat → Int32) (sz : Nat → Nat) (bd db nb : Nat → Int32) : Nat → Nat → Nat → Nat → Int32 → Nat → AS → AO
  | 0, _, _, _, v, _, S => (v, S, 7, 7)
  | n + 1, pl, i, en, v, op, S =>
    if en ≤ i then (v, S, 0, 0) else
    if 100 ≤ S.2.2.2 ∨ 20000 ≤ S.2.2.1 then (v, S, 7, 7) else
    if kd (8 * pl + i) = 9 then
      let r := aBlock kd av bv sz bd db nb n pl (i + 1) (min (i + 1 + (av (8 * pl + i)).toNatClampNeg) en) v op (S.1, aCov S.2.1 pl i, S.2.2.1 + 1, S.2.2.2 + 1)
      if r.2.2.1 = 0 then aBlock kd av bv sz bd db nb n pl (min (i + 1 + (av (8 * pl + i)).toNatClampNeg) en) en r.1 op r.2.1
      else if r.2.2.1 = 7 then r
      else aBlock kd av bv sz bd db nb n pl (min (i + 1 + (av (8 * pl + i)).toNatClampNeg) en) en r.2.2.1 op (S.1, r.2.1.2)
    else if kd (8 * pl + i) = 7 ∨ kd (8 * pl + i) = 13 then
      aBlock kd av bv sz bd db nb n pl (min (i + 1 + if aPass (kd (8 * pl + i)) (bv (8 * pl + i)) v = true then (av (8 * pl + i)).toNatClampNeg else 0) en) en v op (S.1, aCov (aCov S.2.1 pl i) pl (i + if aPass (kd (8 * pl + i)) (bv (8 * pl + i)) v = true then 8 else 16), S.2.2.1 + 1, S.2.2.2 + 1)
    else if kd (8 * pl + i) = 8 then
      let f := (av (8 * pl + i)).toNatClampNeg
      let S1 : AS := (S.1, aCov S.2.1 pl i, S.2.2.1 + 1, S.2.2.2 + 1)
      if db f = 1 then aBlock kd av bv sz bd db nb n pl (i + 1) en (nb f) op S1
      else if db f = 2 then (v, S1, 5, 20 + nb f)
      else if bd f = -1 then (v, S1, 5, 3)
      else if 4 ≤ op then (v, S1, 5, 4)
      else if 20000 ≤ S.2.2.1 + 1 then (v, S1, 7, 7)
      else
        let r := aBack S.1 (aBlock kd av bv sz bd db nb n (bd f).toNatClampNeg 0 (sz (bd f).toNatClampNeg) v (op + 1) (S.1, aCov S.2.1 pl i, S.2.2.1 + 2, S.2.2.2 + 1))
        if r.2.2.1 = 0 then aBlock kd av bv sz bd db nb n pl (i + 1) en r.1 op r.2.1 else r
    else
      let q := aPlain (kd (8 * pl + i)) (av (8 * pl + i)) (bv (8 * pl + i)) pl v S.1
      if q.2.2 = 0 then aBlock kd av bv sz bd db nb n pl (i + 1) en q.1 op (q.2.1, aCov S.2.1 pl i, S.2.2.1 + 1, S.2.2.2 + 1)
      else (v, (q.2.1, aCov S.2.1 pl i, S.2.2.1 + 1, S.2.2.2 + 1), q.2.2, q.2.2)
/-- a CALL from outside -/
def aOut (kd av bv : Nat → Int32) (sz : Nat → Nat) (bd db nb : Nat → Int32) (by_ m : Nat) (arg coins : Int32) (σ cov : Nat → Int32) (ia : Nat) : AO :=
  if 20000 ≤ ia then (0, (σ, cov, ia, 0), 7, 7) else
  if (aPay σ by_ (8 + m / 3) coins).1 = 0 then
    (let r := aBlock kd av bv sz bd db nb 40 m 0 (sz m) arg 1 ((aPay σ by_ (8 + m / 3) coins).2, cov, ia + 1, 0)
     if r.2.2.1 = 0 then r else (r.1, (σ, r.2.1.2), r.2.2.1, r.2.2.2))
  else (0, (σ, cov, ia + 1, 0), (aPay σ by_ (8 + m / 3) coins).1, (aPay σ by_ (8 + m / 3) coins).1)
