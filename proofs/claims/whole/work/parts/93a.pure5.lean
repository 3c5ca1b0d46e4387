/-! the six orders of the reference, one after the other: putting in (mI; mI0 where there are none), taking out (mJ) -/
def mI (nt t : Nat) (K S P : Nat → Nat) : Nat → (Nat → Nat) × (Nat → Nat) × (Nat → Nat)
  | 0 => (K, S, P)
  | k + 1 => (va_up (mSf (mI nt t K S P k).1 (400 * k) nt (tCnt (fun j => (mI nt t K S P k).1 (400 * k + j)) (mKey k t) nt)) (400 * k + tCnt (fun j => (mI nt t K S P k).1 (400 * k + j)) (mKey k t) nt) (mKey k t),
      mZp (mI nt t K S P k).2.1 (400 * k) (P k) (mPA (mI nt t K S P k).1 (mI nt t K S P k).2.1 (400 * k) (mKey k t) (P k)),
      va_up (mI nt t K S P k).2.2 k (mQp (mI nt t K S P k).2.1 (400 * k) (P k) (mPA (mI nt t K S P k).1 (mI nt t K S P k).2.1 (400 * k) (mKey k t) (P k))))
def mI0 (t : Nat) (K S P : Nat → Nat) : Nat → (Nat → Nat) × (Nat → Nat) × (Nat → Nat)
  | 0 => (K, S, P)
  | k + 1 => (va_up (mI0 t K S P k).1 (400 * k + 0) (mKey k t), va_up (va_up (mI0 t K S P k).2.1 (400 * k) 0) (400 * k + 0) 1, va_up (mI0 t K S P k).2.2 k 1)
def mJ (nt t : Nat) (K S P : Nat → Nat) : Nat → (Nat → Nat) × (Nat → Nat) × (Nat → Nat)
  | 0 => (K, S, P)
  | k + 1 => (mSb (mJ nt t K S P k).1 (400 * k) (tCnt (fun j => K (400 * k + j)) (mKey k t) nt) (nt - 1),
      mZt (mJ nt t K S P k).2.1 (400 * k) (P k) (tPg (fun j => (mJ nt t K S P k).2.1 (400 * k + j)) (tCnt (fun j => K (400 * k + j)) (mKey k t) nt + 1) (P k) 0),
      va_up (mJ nt t K S P k).2.2 k (mQt (mJ nt t K S P k).2.1 (400 * k) (P k) (tPg (fun j => (mJ nt t K S P k).2.1 (400 * k + j)) (tCnt (fun j => K (400 * k + j)) (mKey k t) nt + 1) (P k) 0)))
theorem mSf_b {K : Nat → Nat} {b n a m : Nat} (h : ∀ j, K j < m) : ∀ j, mSf K b n a j < m := fun j => by
  unfold mSf
  split
  · exact h _
  · exact h _
theorem mSb_b {K : Nat → Nat} {b p k m : Nat} (h : ∀ j, K j < m) : ∀ j, mSb K b p k j < m := fun j => by
  unfold mSb
  split
  · exact h _
  · exact h _
theorem mZp_hi {S : Nat → Nat} {b q g y : Nat} (hg : g < q) (h : b + q < y) : mZp S b q g y = S y := by
  unfold mZp
  split
  · exact va_up_ne _ _ (by omega)
  · rw [va_up_ne _ _ (by omega), va_up_ne _ _ (by omega), mSf, if_neg (by omega), va_up_ne _ _ (by omega)]
theorem mZp_lo {S : Nat → Nat} {b q g y : Nat} (h : y < b) : mZp S b q g y = S y := by
  unfold mZp
  split
  · exact va_up_ne _ _ (by omega)
  · rw [va_up_ne _ _ (by omega), va_up_ne _ _ (by omega), mSf, if_neg (by omega), va_up_ne _ _ (by omega)]
theorem mZp_le {S : Nat → Nat} {b q g : Nat} (h : ∀ j, S j ≤ 16) : ∀ y, mZp S b q g y ≤ 16 := by
  intro y
  unfold mZp
  split
  · rename_i hc
    by_cases e : y = b + g
    · subst e
      rw [va_up_self]
      exact hc
    · rw [va_up_ne _ _ e]
      exact h y
  · by_cases e : y = b + g
    · subst e
      rw [va_up_self]
      decide
    · rw [va_up_ne _ _ e]
      by_cases e2 : y = b + g + 1
      · subst e2
        rw [va_up_self]
        decide
      · rw [va_up_ne _ _ e2, mSf]
        split
        · rw [va_up_ne _ _ (by omega)]
          exact h _
        · rw [va_up_ne _ _ e]
          exact h _
theorem mI_K {nt t : Nat} {K S P : Nat → Nat} (hnt : nt < 400) : ∀ {k y : Nat}, 400 * k ≤ y → (mI nt t K S P k).1 y = K y
  | 0, _, _ => rfl
  | k + 1, y, h => by
    have hc := tCnt_le (fun j => (mI nt t K S P k).1 (400 * k + j)) (mKey k t) nt
    show va_up _ _ _ y = K y
    rw [va_up_ne _ _ (by omega), mSf, if_neg (by omega)]
    exact mI_K hnt (by omega)
theorem mI_S {nt t : Nat} {K S P : Nat → Nat} (hp : ∀ k, k < 6 → 0 < P k ∧ P k < 400) : ∀ {k y : Nat}, k ≤ 6 → 400 * k ≤ y → (mI nt t K S P k).2.1 y = S y
  | 0, _, _, _ => rfl
  | k + 1, y, hk, h => by
    have h1 := hp k (by omega)
    show mZp _ _ _ _ y = S y
    rw [mZp_hi (mPA_lt _ _ _ _ h1.1) (by omega)]
    exact mI_S hp (by omega) (by omega)
theorem mI_P {nt t : Nat} {K S P : Nat → Nat} : ∀ {k j : Nat}, k ≤ j → (mI nt t K S P k).2.2 j = P j
  | 0, _, _ => rfl
  | k + 1, j, h => by
    show va_up _ _ _ j = P j
    rw [va_up_ne _ _ (by omega)]
    exact mI_P (by omega)
theorem mI_Kb {nt t : Nat} {K S P : Nat → Nat} (ht : t < 1000000000) (h : ∀ j, K j < 2 ^ 31) : ∀ (k j : Nat), (mI nt t K S P k).1 j < 2 ^ 31
  | 0 => h
  | k + 1 => tUp_lt (mSf_b (mI_Kb ht h k)) (Nat.lt_trans (mKey_lt k ht) (by decide))
theorem mI_Sb {nt t : Nat} {K S P : Nat → Nat} (h : ∀ j, S j ≤ 16) : ∀ (k j : Nat), (mI nt t K S P k).2.1 j ≤ 16
  | 0 => h
  | k + 1 => mZp_le (mI_Sb h k)
theorem mQp_b {S : Nat → Nat} {b q g m : Nat} (h : q ≤ m) : mQp S b q g ≤ m + 1 := by
  unfold mQp
  split <;> omega
theorem mI_Pb {nt t : Nat} {K S P : Nat → Nat} (h : ∀ j, P j ≤ 400) : ∀ (k j : Nat), (mI nt t K S P k).2.2 j ≤ 401
  | 0 => fun j => Nat.le_succ_of_le (h j)
  | k + 1 => tUp_le (mI_Pb h k) (mQp_b (h k))
theorem seg_eq {K K' : Nat → Nat} {b : Nat} (h : ∀ y, b ≤ y → K' y = K y) : (fun j => K' (b + j)) = (fun j => K (b + j)) := funext fun j => h (b + j) (by omega)
