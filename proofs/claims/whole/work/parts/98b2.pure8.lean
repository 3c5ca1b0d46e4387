theorem mBg {f : Nat → Nat} {b k : Nat} : b + tSum f (k + 1) = b + tSum f k + f k := (Nat.add_assoc _ _ _).symm
/-- the rows that an object is made with -/
theorem mRow1 {R : Nat} {x : Int32} (hR : R ≤ 400) (h : (if nI 1 < (if nI 400 < x then nI 400 else x) then (if nI 400 < x then nI 400 else x) else nI 1) = nI R) (c : ¬ nI 1 ≤ x) : R = 1 := by
  have c1 : x < nI 1 := Int32.not_le.mp c
  have c2 : ¬ nI 400 < x := fun z => absurd (Int32.lt_trans c1 (Int32.lt_trans (by decide : nI 1 < nI 400) z)) (Int32.lt_irrefl)
  rw [if_neg c2, if_neg (fun z => absurd (Int32.lt_trans c1 z) Int32.lt_irrefl)] at h
  exact ((nI_eq (by decide) (by omega)).mp h).symm
theorem mRow2 {R : Nat} {x : Int32} (hR : R ≤ 400) (h : (if nI 1 < (if nI 400 < x then nI 400 else x) then (if nI 400 < x then nI 400 else x) else nI 1) = nI R) (c : ¬ x ≤ nI 400) : R = 400 := by
  have c1 : nI 400 < x := Int32.not_le.mp c
  rw [if_pos c1, if_pos (by decide)] at h
  exact ((nI_eq (by decide) (by omega)).mp h).symm
theorem mRow3 {R : Nat} {x : Int32} (h : (if nI 1 < (if nI 400 < x then nI 400 else x) then (if nI 400 < x then nI 400 else x) else nI 1) = nI R) (c : nI 1 ≤ x) (c' : x ≤ nI 400) : x = nI R := by
  rw [if_neg (Int32.not_lt.mpr c')] at h
  by_cases z : nI 1 < x
  · rw [if_pos z] at h; exact h
  · rw [if_neg z] at h; rw [← h]; exact Int32.le_antisymm (Int32.not_lt.mp z) c
