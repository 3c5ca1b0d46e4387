theorem mI0_P {t : Nat} {K S P : Nat → Nat} : ∀ {k j : Nat}, k ≤ j → (mI0 t K S P k).2.2 j = P j
  | 0, _, _ => rfl
  | k + 1, j, h => by
    show va_up _ _ _ j = P j
    rw [va_up_ne _ _ (by omega)]
    exact mI0_P (by omega)
theorem mZt_hi {S : Nat → Nat} {b q g y : Nat} (hg : g < q) (h : b + q < y) : mZt S b q g y = S y := by
  unfold mZt
  split
  · rw [mSb_hi (by omega), va_up_ne _ _ (by omega)]
  · split
    · rw [mSb_hi (by omega), va_up_ne _ _ (by omega), va_up_ne _ _ (by omega)]
    · split
      · rw [mSb_hi (by omega), va_up_ne _ _ (by omega), va_up_ne _ _ (by omega)]
      · rw [va_up_ne _ _ (by omega)]
theorem mSb_le {K : Nat → Nat} {b p k m : Nat} (h : ∀ j, K j ≤ m) : ∀ j, mSb K b p k j ≤ m := fun j => by
  unfold mSb
  split
  · exact h _
  · exact h _
theorem mZt_le {S : Nat → Nat} {b q g : Nat} (h : ∀ j, S j ≤ 16) : ∀ y, mZt S b q g y ≤ 16 := by
  have h1 : ∀ j, va_up S (b + g) (S (b + g) - 1) j ≤ 16 := tUp_le h (by have := h (b + g); omega)
  intro y
  unfold mZt
  split
  · exact mSb_le h1 y
  · split
    · rename_i hc
      exact mSb_le (tUp_le h1 (by omega)) y
    · split
      · rename_i hc
        exact mSb_le (tUp_le h1 (by omega)) y
      · exact h1 y
theorem mQt_b {S : Nat → Nat} {b q g m : Nat} (h : q ≤ m) : mQt S b q g ≤ m := by
  unfold mQt
  split
  · omega
  · split
    · omega
    · split <;> omega
theorem mJ_K {nt t : Nat} {K S P : Nat → Nat} (hnt : nt ≤ 400) : ∀ {k y : Nat}, 400 * k ≤ y → (mJ nt t K S P k).1 y = K y
  | 0, _, _ => rfl
  | k + 1, y, h => by
    show mSb _ _ _ _ y = K y
    rw [mSb_hi (by omega)]
    exact mJ_K hnt (by omega)
theorem mJ_S {nt t : Nat} {K S P : Nat → Nat} (hp : ∀ k, k < 6 → 0 < P k ∧ P k ≤ 400) : ∀ {k y : Nat}, k ≤ 6 → 400 * k ≤ y → (y = 400 * k → 0 < k → False) ∨ True → (mJ nt t K S P k).2.1 y = S y ∨ (0 < k ∧ y = 400 * k)
  | 0, _, _, _, _ => Or.inl rfl
  | k + 1, y, hk, h, _ => by
    have h1 := hp k (by omega)
    by_cases e : y = 400 * (k + 1)
    · exact Or.inr ⟨by omega, e⟩
    · refine Or.inl ?_
      show mZt _ _ _ _ y = S y
      rw [mZt_hi (tPg_lt h1.1) (by omega)]
      rcases mJ_S (nt := nt) (t := t) (K := K) (S := S) hp (k := k) (y := y) (by omega) (by omega) (Or.inr trivial) with a | a
      · exact a
      · omega
theorem mZt_hi2 {S : Nat → Nat} {b q g y : Nat} (hg : g < q) (h : b + q ≤ y) : mZt S b q g y = S y := by
  unfold mZt
  split
  · rw [mSb_hi (by omega), va_up_ne _ _ (by omega)]
  · split
    · rename_i hc
      rw [mSb_hi (by omega), va_up_ne _ _ (by omega), va_up_ne _ _ (by omega)]
    · split
      · rw [mSb_hi (by omega), va_up_ne _ _ (by omega), va_up_ne _ _ (by omega)]
      · rw [va_up_ne _ _ (by omega)]
theorem mJ_S2 {nt t : Nat} {K S P : Nat → Nat} (hp : ∀ k, k < 6 → 0 < P k ∧ P k ≤ 400) : ∀ {k y : Nat}, k ≤ 6 → 400 * k ≤ y → (mJ nt t K S P k).2.1 y = S y
  | 0, _, _, _ => rfl
  | k + 1, y, hk, h => by
    have h1 := hp k (by omega)
    show mZt _ _ _ _ y = S y
    rw [mZt_hi2 (tPg_lt h1.1) (by omega)]
    exact mJ_S2 hp (by omega) (by omega)
theorem mJ_P {nt t : Nat} {K S P : Nat → Nat} : ∀ {k j : Nat}, k ≤ j → (mJ nt t K S P k).2.2 j = P j
  | 0, _, _ => rfl
  | k + 1, j, h => by
    show va_up _ _ _ j = P j
    rw [va_up_ne _ _ (by omega)]
    exact mJ_P (by omega)
theorem mJ_Kb {nt t : Nat} {K S P : Nat → Nat} (h : ∀ j, K j < 2 ^ 31) : ∀ (k j : Nat), (mJ nt t K S P k).1 j < 2 ^ 31
  | 0 => h
  | k + 1 => mSb_b (mJ_Kb h k)
theorem mJ_Sb {nt t : Nat} {K S P : Nat → Nat} (h : ∀ j, S j ≤ 16) : ∀ (k j : Nat), (mJ nt t K S P k).2.1 j ≤ 16
  | 0 => h
  | k + 1 => mZt_le (mJ_Sb h k)
theorem mJ_Pb {nt t : Nat} {K S P : Nat → Nat} (h : ∀ j, P j ≤ 400) : ∀ (k j : Nat), (mJ nt t K S P k).2.2 j ≤ 400
  | 0 => h
  | k + 1 => tUp_le (mJ_Pb h k) (mQt_b (h k))
/-- the cut: which events stay; an array that is closed up by them -/
abbrev mStay (T V : Nat → Nat) (C : Nat → Bool) (n x i : Nat) : Prop := x < V i ∨ (C i = true ∧ mLat T V n i x)
def mSl (B : Nat → Bool) (p : Nat → Bool) : Nat → Nat → Bool
  | 0 => B
  | i + 1 => va_up (mSl B p i) i (p i)
theorem mSl_s {B p : Nat → Bool} {i : Nat} {b : Bool} (h : p i = b) : mSl B p (i + 1) = va_up (mSl B p i) i b := by rw [mSl, h]
theorem mSl_at {B p : Nat → Bool} : ∀ {n i : Nat}, i < n → mSl B p n i = p i
  | 0, _, h => absurd h (Nat.not_lt_zero _)
  | n + 1, i, h => by
    rw [mSl]
    by_cases e : i = n
    · subst e
      rw [va_up_self]
    · rw [va_up_ne _ _ e]
      exact mSl_at (by omega)
def mCK (p : Nat → Bool) : Nat → Nat
  | 0 => 0
  | i + 1 => if p i = true then mCK p i + 1 else mCK p i
def mCF {α : Type} (p : Nat → Bool) (F : Nat → α) : Nat → Nat → α
  | 0 => F
  | i + 1 => if p i = true then va_up (mCF p F i) (mCK p i) (mCF p F i i) else mCF p F i
theorem mCK_le (p : Nat → Bool) : ∀ i, mCK p i ≤ i
  | 0 => Nat.le_refl _
  | i + 1 => by
    have := mCK_le p i
    rw [mCK]
    split <;> omega
theorem mCK_yes {p : Nat → Bool} {i : Nat} (h : p i = true) : mCK p (i + 1) = mCK p i + 1 := by rw [mCK, if_pos h]
theorem mCK_no {p : Nat → Bool} {i : Nat} (h : p i = false) : mCK p (i + 1) = mCK p i := by rw [mCK, if_neg (by rw [h]; decide)]
theorem mCF_yes {α : Type} {p : Nat → Bool} {F : Nat → α} {i : Nat} (h : p i = true) : mCF p F (i + 1) = va_up (mCF p F i) (mCK p i) (mCF p F i i) := by rw [mCF, if_pos h]
theorem mCF_no {α : Type} {p : Nat → Bool} {F : Nat → α} {i : Nat} (h : p i = false) : mCF p F (i + 1) = mCF p F i := by rw [mCF, if_neg (by rw [h]; decide)]
/-- shifts from the array's own beginning -/
theorem mS0_step {K : Nat → Nat} {n a : Nat} (h0 : 0 < a) (ha : a ≤ n) : va_up (mSf K 0 n a) a (K (a - 1)) = mSf K 0 n (a - 1) := by
  have h := mSf_step (K := K) (b := 0) (n := n) (a := a) h0 ha
  rw [Nat.zero_add] at h
  exact h
theorem mS0_put {f : Nat → Nat} {n x : Nat} : va_up (mSf f 0 n (tCnt f x n)) (tCnt f x n) x = tPut f n x := by
  have h := mSf_put (f := f) (n := n) (x := x)
  rw [Nat.zero_add] at h
  exact h
theorem mC0_of {f : Nat → Nat} {x n a : Nat} (hs : tS f n) (h1 : a ≤ n) (hne : ∀ j, j < n → f j ≠ x) (h2 : ∀ j, a ≤ j → j < n → x < f j) (h3 : a = 0 ∨ f (a - 1) ≤ x) : tCnt f x n = a := by
  refine tCnt_of h1 (fun j hj => ?_) (fun j q1 q2 => Nat.le_of_lt (h2 j q1 q2))
  rcases h3 with h3 | h3
  · omega
  · have e := tS_le hs (show j ≤ a - 1 by omega) (by omega)
    have := hne j (by omega)
    omega
theorem mB0 {f : Nat → Nat} {x n a : Nat} (h2 : ∀ j, a ≤ j → j < n → x < f j) (h3 : x < f (a - 1)) : ∀ j, a - 1 ≤ j → j < n → x < f j := by
  intro j q1 q2
  by_cases e : j = a - 1
  · subst e
    exact h3
  · exact h2 j (by omega) q2
/-- which events a range of the reference has, and their keys -/
abbrev mFd (T V : Nat → Nat) (C : Nat → Bool) (n o : Nat) (a b : Option Nat) (x i : Nat) : Prop := C i = true ∧ tCov a b (tTerm (mKey o (T i)) 0) (tTerm (mKey o (T i)) 1) ∧ mLat T V n i x
def mFp (T V : Nat → Nat) (C : Nat → Bool) (n o : Nat) (a b : Option Nat) (x : Nat) : Nat → Bool := fun i => decide (mFd T V C n o a b x i)
def mFk (T : Nat → Nat) (o : Nat) : Nat → Nat := fun i => mKey o (T i)
def mRow (T V : Nat → Nat) (C : Nat → Bool) (n o : Nat) (a b : Option Nat) (x : Nat) (f : Nat → Nat) (i : Nat) : Nat × (Nat → Nat) := tRP (mFp T V C n o a b x) (mFk T o) f i
theorem mRow_yes {T V : Nat → Nat} {C : Nat → Bool} {n o : Nat} {a b : Option Nat} {x : Nat} {f : Nat → Nat} {i : Nat} (h : mFd T V C n o a b x i) : mRow T V C n o a b x f (i + 1) = ((mRow T V C n o a b x f i).1 + 1, tPut (mRow T V C n o a b x f i).2 (mRow T V C n o a b x f i).1 (mKey o (T i))) := tRP_yes (p := mFp T V C n o a b x) (decide_eq_true h)
theorem mRow_no {T V : Nat → Nat} {C : Nat → Bool} {n o : Nat} {a b : Option Nat} {x : Nat} {f : Nat → Nat} {i : Nat} (h : ¬ mFd T V C n o a b x i) : mRow T V C n o a b x f (i + 1) = mRow T V C n o a b x f i := tRP_no (p := mFp T V C n o a b x) (decide_eq_false h)
theorem mRow_le {T V : Nat → Nat} {C : Nat → Bool} {n o : Nat} {a b : Option Nat} {x : Nat} {f : Nat → Nat} (i : Nat) : (mRow T V C n o a b x f i).1 ≤ i := tRP_le _ _ _ i
theorem mRow_b {T V : Nat → Nat} {C : Nat → Bool} {n o : Nat} {a b : Option Nat} {x : Nat} {f : Nat → Nat} (hT : ∀ j, T j < 1000000000) (hf : ∀ j, f j < 1000000000) (i j : Nat) : (mRow T V C n o a b x f i).2 j < 1000000000 := tRP_b _ _ _ hf (fun j => mKey_lt o (hT j)) i j
