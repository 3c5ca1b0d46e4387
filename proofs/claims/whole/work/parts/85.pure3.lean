theorem tAny_of {x : Int32} (h1 : ¬ x < -1) (h2 : ¬ nI 1000 ≤ x) : x = -1 ∨ tRng x 1000 := by
  have e : (-1 : Int32).toInt = -1 := by decide
  rw [Int32.lt_iff_toInt_lt, e] at h1
  rw [Int32.le_iff_toInt_le, nI_toInt (by decide)] at h2
  by_cases h : x.toInt = -1
  · exact Or.inl (Int32.toInt_inj.mp (by rw [h, e]))
  · exact Or.inr (by rw [tRng]; omega)
theorem tAny_lo {x : Int32} (h : x < -1) : ¬ (x = -1 ∨ tRng x 1000) := by
  have e : (-1 : Int32).toInt = -1 := by decide
  rw [Int32.lt_iff_toInt_lt, e] at h
  rintro (rfl | q)
  · rw [e] at h
    omega
  · rw [tRng] at q
    omega
theorem tAny_hi {x : Int32} (h : nI 1000 ≤ x) : ¬ (x = -1 ∨ tRng x 1000) := by
  have e : (-1 : Int32).toInt = -1 := by decide
  rw [Int32.le_iff_toInt_le, nI_toInt (by decide)] at h
  rintro (rfl | q)
  · rw [e] at h
    omega
  · rw [tRng] at q
    omega
theorem nI_gem {j : Nat} (h : j < 2 ^ 31) : -1 ≤ nI j := by
  have e : (-1 : Int32).toInt = -1 := by decide
  rw [Int32.le_iff_toInt_le, nI_toInt h, e]
  omega
theorem mNow_0 {V : Nat → Nat} {n : Nat} (h : n = 0) : nI 0 = nI (mNow V n none) := by subst h; rfl
theorem mNow_1 {V : Nat → Nat} {n : Nat} (h : 0 < n) : nI (V (n - 1)) = nI (mNow V n none) := by
  unfold mNow
  rw [if_neg (by omega)]
  exact congrArg nI (by simp)
theorem mNow_a {V : Nat → Nat} {n c : Nat} (h : n = 0) (h2 : c ≤ 0) : nI 0 = nI (mNow V n (some c)) := by
  unfold mNow
  rw [if_pos h]
  exact congrArg nI (by simp; omega)
theorem mNow_b {V : Nat → Nat} {n c : Nat} (h : n = 0) (h2 : 0 < c) : nI c = nI (mNow V n (some c)) := by
  unfold mNow
  rw [if_pos h]
  exact congrArg nI (by simp)
theorem mNow_c {V : Nat → Nat} {n c : Nat} (h : 0 < n) (h2 : c ≤ V (n - 1)) : nI (V (n - 1)) = nI (mNow V n (some c)) := by
  unfold mNow
  rw [if_neg (by omega)]
  exact congrArg nI (by simp; omega)
theorem mNow_d {V : Nat → Nat} {n c : Nat} (h : 0 < n) (h2 : V (n - 1) < c) : nI c = nI (mNow V n (some c)) := by
  unfold mNow
  rw [if_neg (by omega)]
  exact congrArg nI (by simp; omega)
theorem mLat_s {T V : Nat → Nat} {k i x : Nat} (h : mLat T V k i x) (h2 : ¬ (T k = T i ∧ V k ≤ x)) : mLat T V (k + 1) i x :=
  ⟨h.1, fun j h3 h4 => by
    by_cases e : j = k
    · subst e
      exact h2
    · exact h.2 j (by omega) h4⟩
theorem mLat_le {T V : Nat → Nat} {k n i x : Nat} (hk : k ≤ n) (h : mLat T V n i x) : mLat T V k i x := ⟨h.1, fun j h3 h4 => h.2 j (by omega) h4⟩
/-- a page of the reference has one more: its sizes, how many pages -/
def mZp (S : Nat → Nat) (b q g : Nat) : Nat → Nat := if S (b + g) + 1 ≤ 16 then va_up S (b + g) (S (b + g) + 1) else va_up (va_up (mSf (va_up S (b + g) (S (b + g) + 1)) b q (g + 1)) (b + g + 1) 8) (b + g) 9
def mQp (S : Nat → Nat) (b q g : Nat) : Nat := if S (b + g) + 1 ≤ 16 then q else q + 1
theorem mQ_same {P : Nat → Nat} {o q : Nat} (h : P o = q) : va_up P o q = P := by
  funext y
  by_cases e : y = o
  · subst e
    rw [va_up_self, h]
  · rw [va_up_ne _ _ e]
theorem mCnt_of {K : Nat → Nat} {b x n a : Nat} (hs : tS (fun j => K (b + j)) n) (h1 : a ≤ n) (hne : ∀ j, j < n → K (b + j) ≠ x) (h2 : ∀ j, a ≤ j → j < n → x < K (b + j)) (h3 : a = 0 ∨ K (b + a - 1) ≤ x) : tCnt (fun j => K (b + j)) x n = a := by
  refine tCnt_of h1 (fun j hj => ?_) (fun j q1 q2 => Nat.le_of_lt (h2 j q1 q2))
  rcases h3 with h3 | h3
  · omega
  · have e := tS_le (f := fun j => K (b + j)) hs (show j ≤ a - 1 by omega) (by omega)
    try dsimp only at e
    rw [show b + (a - 1) = b + a - 1 by omega] at e
    have := hne j (by omega)
    show K (b + j) < x
    omega
theorem mBack {K : Nat → Nat} {b x n a : Nat} (h2 : ∀ j, a ≤ j → j < n → x < K (b + j)) (h0 : 0 < a) (h3 : x < K (b + a - 1)) : ∀ j, a - 1 ≤ j → j < n → x < K (b + j) := by
  intro j q1 q2
  by_cases e : j = a - 1
  · subst e
    rw [show b + (a - 1) = b + a - 1 by omega]
    exact h3
  · exact h2 j (by omega) q2
