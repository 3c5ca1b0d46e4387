theorem tSum1 {S : Nat → Nat} {b : Nat} : tSum (fun j => S (b + j)) (0 + 1) = S b := by
  show 0 + S (b + 0) = S b
  rw [Nat.zero_add, Nat.add_zero]
/-- a page of the reference has one less -/
def mZt (S : Nat → Nat) (b q g : Nat) : Nat → Nat := if S (b + g) - 1 = 0 then mSb (va_up S (b + g) (S (b + g) - 1)) b g (q - 1)
  else if g + 1 < q ∧ S (b + g) - 1 + (va_up S (b + g) (S (b + g) - 1)) (b + g + 1) ≤ 10 then mSb (va_up (va_up S (b + g) (S (b + g) - 1)) (b + g + 1) ((va_up S (b + g) (S (b + g) - 1)) (b + g + 1) + (S (b + g) - 1))) b g (q - 1)
  else if 0 < g ∧ (va_up S (b + g) (S (b + g) - 1)) (b + g - 1) + (S (b + g) - 1) ≤ 10 then mSb (va_up (va_up S (b + g) (S (b + g) - 1)) (b + g - 1) ((va_up S (b + g) (S (b + g) - 1)) (b + g - 1) + (S (b + g) - 1))) b g (q - 1)
  else va_up S (b + g) (S (b + g) - 1)
def mQt (S : Nat → Nat) (b q g : Nat) : Nat := if S (b + g) - 1 = 0 then q - 1
  else if g + 1 < q ∧ S (b + g) - 1 + (va_up S (b + g) (S (b + g) - 1)) (b + g + 1) ≤ 10 then q - 1
  else if 0 < g ∧ (va_up S (b + g) (S (b + g) - 1)) (b + g - 1) + (S (b + g) - 1) ≤ 10 then q - 1
  else q
theorem mNow_b2 {V : Nat → Nat} {n : Nat} {cu : Option Nat} (hV : ∀ j, V j < 2 ^ 31) (hc : ∀ j, cu = some j → j < 2 ^ 31) : mNow V n cu < 2 ^ 31 := by
  have a : (if n = 0 then 0 else V (n - 1)) < 2 ^ 31 := by
    split
    · decide
    · exact hV _
  have b : cu.getD 0 < 2 ^ 31 := by
    rcases cu with _ | c
    · exact (by decide : 0 < 2 ^ 31)
    · exact hc c rfl
  unfold mNow
  omega
