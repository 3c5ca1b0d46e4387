/-! words for a leap: of each lead, which events it has and their free terms; which numbers are found -/
def tPLs (V E X Y Z : Nat → Nat) (vv : Nat) (lo : Nat → Nat) (lA lB : Nat → Option Nat) : Nat → Nat → Bool := fun k i => decide (tTh V E vv i ∧ tCov (lA k) (lB k) (tPick (taF (lo k * 3 + 0)) (X i) (Y i) (Z i)) (tPick (taF (lo k * 3 + 1)) (X i) (Y i) (Z i)))
def tTLs (X Y Z : Nat → Nat) (lo : Nat → Nat) (lA lB : Nat → Option Nat) : Nat → Nat → Nat := fun k i => tPick (taF (lo k * 3 + tFree (lA k) (lB k))) (X i) (Y i) (Z i)
def tNP (T : Nat → Nat) (lc : Nat) : Nat → Bool := fun i => decide (T i = lc)
def tId : Nat → Nat := fun i => i
