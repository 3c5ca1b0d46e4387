/-- f, its first k places out of g -/
def mCp (f g : Nat → Nat) (k : Nat) : Nat → Nat := fun y => if y < k then g y else f y
theorem mCp_0 (f g : Nat → Nat) : mCp f g 0 = f := funext fun y => if_neg (Nat.not_lt_zero y)
theorem mCp_s {f g : Nat → Nat} {k : Nat} : va_up (mCp f g k) k (g k) = mCp f g (k + 1) := by
  funext y
  by_cases e : y = k
  · subst e
    rw [va_up_self, mCp, if_pos (Nat.lt_succ_self y)]
  · rw [va_up_ne _ _ e]
    unfold mCp
    by_cases h : y < k
    · rw [if_pos h, if_pos (by omega)]
    · rw [if_neg h, if_neg (by omega)]
/-- where a term stands in an order -/
theorem poF_ta : ∀ (o : Fin 6) (j : Fin 3), poF (o.val * 3 + j.val) < 3 ∧ taF (o.val * 3 + poF (o.val * 3 + j.val)) = j.val ∧ ∀ k : Fin 3, k.val < poF (o.val * 3 + j.val) → taF (o.val * 3 + k.val) ≠ j.val := by decide +kernel
theorem poF_ok {o j : Nat} (ho : o < 6) (hj : j < 3) : poF (o * 3 + j) < 3 ∧ taF (o * 3 + poF (o * 3 + j)) = j ∧ ∀ k, k < poF (o * 3 + j) → taF (o * 3 + k) ≠ j := by
  obtain ⟨h1, h2, h3⟩ := poF_ta ⟨o, ho⟩ ⟨j, hj⟩
  exact ⟨h1, h2, fun k hk => h3 ⟨k, by have : poF (o * 3 + j) < 3 := h1; omega⟩ hk⟩
/-- the first place from k on whose digit is not below v -/
def mSk (f : Nat → Nat) (r : Nat) (v : Int) : Nat → Nat → Nat
  | 0, k => k
  | d + 1, k => if (tTerm (f k) r : Int) < v then mSk f r v d (k + 1) else k
theorem mSk_yes {f : Nat → Nat} {r c k : Nat} {v : Int} (hk : k < c) (h : (tTerm (f k) r : Int) < v) : mSk f r v (c - k) k = mSk f r v (c - (k + 1)) (k + 1) := by
  rw [show c - k = (c - (k + 1)) + 1 by omega, mSk, if_pos h]
theorem mSk_no {f : Nat → Nat} {r c k : Nat} {v : Int} (hk : k < c) (h : ¬ (tTerm (f k) r : Int) < v) : mSk f r v (c - k) k = k := by
  rw [show c - k = (c - (k + 1)) + 1 by omega, mSk, if_neg h]
theorem mSk_ge {t : Nat} {v : Int32} (ht : t < 2 ^ 31) : v ≤ nI t ↔ ¬ (t : Int) < v.toInt := by
  rw [Int32.le_iff_toInt_le, nI_toInt ht]
  omega
/-- how many different second digits stand side by side -/
def mSc (f : Nat → Nat) : Nat → Nat
  | 0 => 0
  | k + 1 => mSc f k + (if k = 0 ∨ ¬ tTerm (f k) 1 = tTerm (f (k - 1)) 1 then 1 else 0)
theorem mSc_y {f : Nat → Nat} {k : Nat} (h : k = 0 ∨ ¬ tTerm (f k) 1 = tTerm (f (k - 1)) 1) : mSc f (k + 1) = mSc f k + 1 := by rw [mSc, if_pos h]
theorem mSc_n {f : Nat → Nat} {k : Nat} (h : ¬ (k = 0 ∨ ¬ tTerm (f k) 1 = tTerm (f (k - 1)) 1)) : mSc f (k + 1) = mSc f k + 0 := by rw [mSc, if_neg h]
/-- a lead's tallies over a row; the rows of the leads; all leads' tallies -/
def mHt (f : Nat → Nat) (r u : Nat) (T : Nat → Nat) : Nat → Nat → Nat
  | 0 => T
  | k + 1 => va_up (mHt f r u T k) (tTerm (f k) r) (if mHt f r u T k (tTerm (f k) r) = u then u + 1 else mHt f r u T k (tTerm (f k) r))
theorem mHt_y {f T : Nat → Nat} {r u k : Nat} (h : mHt f r u T k (tTerm (f k) r) = u) : mHt f r u T (k + 1) = va_up (mHt f r u T k) (tTerm (f k) r) (u + 1) := by rw [mHt, if_pos h]
theorem mHt_n {f T : Nat → Nat} {r u k : Nat} (h : ¬ mHt f r u T k (tTerm (f k) r) = u) : mHt f r u T (k + 1) = va_up (mHt f r u T k) (tTerm (f k) r) (mHt f r u T k (tTerm (f k) r)) := by rw [mHt, if_neg h]
theorem mHt_b {f T : Nat → Nat} {r u : Nat} (hu : u < 1000) (h : ∀ j, T j < 2 ^ 31) : ∀ k j, mHt f r u T k j < 2 ^ 31
  | 0 => h
  | k + 1 => tUp_lt (mHt_b hu h k) (by
      split
      · omega
      · exact mHt_b hu h k _)
def mGl (T V : Nat → Nat) (C : Nat → Bool) (n : Nat) (lo : Nat → Nat) (lA lB : Nat → Option Nat) (x my : Nat) (G : Nat → Nat) : Nat → Nat × (Nat → Nat)
  | 0 => (my, G)
  | l + 1 => mRow T V C n (lo l) (lA l) (lB l) x (mGl T V C n lo lA lB x my G l).2 n
theorem mGl_b {T V : Nat → Nat} {C : Nat → Bool} {n : Nat} {lo : Nat → Nat} {lA lB : Nat → Option Nat} {x my : Nat} {G : Nat → Nat} (hT : ∀ j, T j < 1000000000) (hG : ∀ j, G j < 1000000000) : ∀ l j, (mGl T V C n lo lA lB x my G l).2 j < 1000000000
  | 0 => hG
  | l + 1 => fun j => mRow_b hT (mGl_b hT hG l) n j
def mHd (T V : Nat → Nat) (C : Nat → Bool) (n : Nat) (lo : Nat → Nat) (lA lB : Nat → Option Nat) (x my : Nat) (G Hd : Nat → Nat) : Nat → Nat → Nat
  | 0 => tFl Hd 0 1000
  | l + 1 => mHt (mGl T V C n lo lA lB x my G (l + 1)).2 (tFree (lA l) (lB l)) l (mHd T V C n lo lA lB x my G Hd l) (mGl T V C n lo lA lB x my G (l + 1)).1
theorem mHd_b {T V : Nat → Nat} {C : Nat → Bool} {n : Nat} {lo : Nat → Nat} {lA lB : Nat → Option Nat} {x my : Nat} {G Hd : Nat → Nat} (h : ∀ j, Hd j < 2 ^ 31) : ∀ l, l < 1000 → ∀ j, mHd T V C n lo lA lB x my G Hd l j < 2 ^ 31
  | 0, _ => tFl_b h (by decide) 1000
  | l + 1, hl => mHt_b (by omega) (mHd_b h l (by omega)) _
/-- the numbers found, as they come -/
def mFn (T : Nat → Nat) (u : Nat) (F : Nat → Nat) : Nat → Nat × (Nat → Nat)
  | 0 => (0, F)
  | k + 1 => if T k = u then ((mFn T u F k).1 + 1, va_up (mFn T u F k).2 (mFn T u F k).1 k) else mFn T u F k
theorem mFn_y {T : Nat → Nat} {u : Nat} {F : Nat → Nat} {k : Nat} (h : T k = u) : mFn T u F (k + 1) = ((mFn T u F k).1 + 1, va_up (mFn T u F k).2 (mFn T u F k).1 k) := by rw [mFn, if_pos h]
theorem mFn_n {T : Nat → Nat} {u : Nat} {F : Nat → Nat} {k : Nat} (h : ¬ T k = u) : mFn T u F (k + 1) = mFn T u F k := by rw [mFn, if_neg h]
theorem mFn_le (T : Nat → Nat) (u : Nat) (F : Nat → Nat) : ∀ k, (mFn T u F k).1 ≤ k
  | 0 => Nat.le_refl _
  | k + 1 => by
    have := mFn_le T u F k
    rw [mFn]
    split
    · show (mFn T u F k).1 + 1 ≤ k + 1
      omega
    · omega
