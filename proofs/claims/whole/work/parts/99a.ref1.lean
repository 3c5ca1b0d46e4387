/-! the class's log against the reference's -/
def iLog (T V E : Nat → Nat) (C : Nat → Bool) (n : Nat) : Prop :=
  ∀ i, i < n → (C i = false → E i = V i) ∧ (C i = true → V i ≤ E i ∧ (E i = 1000001 ∨ ∃ k, i < k ∧ k < n ∧ T k = T i ∧ E i = V k) ∧ ∀ k, i < k → k < n → T k = T i → E i ≤ V k)
def iMono (V : Nat → Nat) (n : Nat) : Prop := ∀ i j, i ≤ j → j < n → V i ≤ V j
theorem iLog_VE {T V E : Nat → Nat} {C : Nat → Bool} {n i : Nat} (h : iLog T V E C n) (hi : i < n) : V i ≤ E i := by
  obtain ⟨h0, h1⟩ := h i hi
  cases hc : C i with
  | false => exact Nat.le_of_eq (h0 hc).symm
  | true => exact (h1 hc).1
theorem iLog_th {T V E : Nat → Nat} {C : Nat → Bool} {n i x : Nat} (h : iLog T V E C n) (hi : i < n) (hx : x < 1000001) : (C i = true ∧ mLat T V n i x) ↔ tTh V E x i := by
  obtain ⟨h0, h1⟩ := h i hi
  constructor
  · rintro ⟨hc, hv, hl⟩
    obtain ⟨a, b, _⟩ := h1 hc
    refine ⟨hv, ?_⟩
    rcases b with b | ⟨k, k1, k2, k3, k4⟩
    · omega
    · have : ¬ V k ≤ x := fun z => hl k k2 k1 ⟨k3, z⟩
      omega
  · rintro ⟨hv, he⟩
    cases hc : C i with
    | false =>
      have := h0 hc
      omega
    | true =>
      obtain ⟨a, b, d⟩ := h1 hc
      exact ⟨rfl, hv, fun k k1 k2 q => by
        have := d k k2 k1 q.1
        omega⟩
theorem iLog_stay {T V E : Nat → Nat} {C : Nat → Bool} {n i x : Nat} (h : iLog T V E C n) (hi : i < n) (hx : x < 1000001) : mStay T V C n x i ↔ x < E i := by
  have h1 := iLog_th h hi hx
  have h2 := iLog_VE h hi
  constructor
  · rintro (a | a)
    · omega
    · exact (h1.mp a).2
  · intro a
    by_cases q : x < V i
    · exact Or.inl q
    · exact Or.inr (h1.mpr ⟨by omega, a⟩)
theorem mTh_iff {T : Nat → Nat} {C : Nat → Bool} {t : Nat} : ∀ {n : Nat}, mTh T C t n = true ↔ ∃ i, i < n ∧ T i = t ∧ C i = true ∧ ∀ k, i < k → k < n → T k ≠ t
  | 0 => ⟨fun h => (by cases h), fun ⟨i, h, _⟩ => absurd h (Nat.not_lt_zero _)⟩
  | n + 1 => by
    by_cases e : T n = t
    · rw [mTh_yes e]
      constructor
      · intro h
        exact ⟨n, Nat.lt_succ_self n, e, h, fun k a b => absurd b (by omega)⟩
      · rintro ⟨i, hi, h1, h2, h3⟩
        by_cases q : i = n
        · subst q
          exact h2
        · exact absurd e (h3 n (by omega) (by omega))
    · rw [mTh_no e, mTh_iff]
      constructor
      · rintro ⟨i, a, b, d, f⟩
        refine ⟨i, by omega, b, d, fun k k1 k2 => ?_⟩
        by_cases q : k = n
        · subst q
          exact e
        · exact f k k1 (by omega)
      · rintro ⟨i, a, b, d, f⟩
        have : i ≠ n := fun q => e (q ▸ b)
        exact ⟨i, by omega, b, d, fun k k1 k2 => f k k1 (by omega)⟩
theorem iLog_add {T V E : Nat → Nat} {C : Nat → Bool} {n t x : Nat} (h : iLog T V E C n) (hx : x < 1000001) (hV : ∀ k, k < n → V k ≤ x) (hth : mTh T C t n = false) : iLog (va_up T n t) (va_up V n x) (va_up E n 1000001) (va_up C n true) (n + 1) := by
  intro i hi
  by_cases e : i = n
  · subst e
    rw [va_up_self, va_up_self, va_up_self]
    exact ⟨fun q => (by cases q), fun _ => ⟨by omega, Or.inl rfl, fun k a b => absurd b (by omega)⟩⟩
  · rw [va_up_ne _ _ e, va_up_ne _ _ e, va_up_ne _ _ e]
    obtain ⟨h0, h1⟩ := h i (by omega)
    refine ⟨h0, fun hc => ?_⟩
    obtain ⟨a, b, d⟩ := h1 hc
    refine ⟨a, ?_, ?_⟩
    · rcases b with b | ⟨k, k1, k2, k3, k4⟩
      · exact Or.inl b
      · refine Or.inr ⟨k, k1, by omega, ?_, ?_⟩
        · rw [va_up_ne _ _ (by omega), va_up_ne _ _ e]
          exact k3
        · rw [va_up_ne _ _ (by omega)]
          exact k4
    · intro k k1 k2 k3
      rw [va_up_ne T _ e] at k3
      by_cases q : k = n
      · subst q
        rw [va_up_self] at k3
        rw [va_up_self]
        by_cases z : ∃ j, i < j ∧ j < k ∧ T j = T i
        · obtain ⟨j, j1, j2, j3⟩ := z
          have := d j j1 j2 j3
          have := hV j j2
          omega
        · have : mTh T C t k = true := mTh_iff.mpr ⟨i, by omega, k3.symm, hc, fun j j1 j2 j3 => z ⟨j, j1, j2, by rw [j3, k3]⟩⟩
          rw [hth] at this
          cases this
      · rw [va_up_ne _ _ q] at k3
        rw [va_up_ne _ _ q]
        exact d k k1 (by omega) k3
theorem iLog_go {T V E : Nat → Nat} {C : Nat → Bool} {n t x i0 : Nat} (h : iLog T V E C n) (hV : ∀ k, k < n → V k ≤ x) (hi0 : i0 < n) (ht : T i0 = t) (hc0 : C i0 = true) (hlast : ∀ k, i0 < k → k < n → T k ≠ t) : iLog (va_up T n t) (va_up V n x) (va_up (va_up E i0 x) n x) (va_up C n false) (n + 1) := by
  intro i hi
  by_cases e : i = n
  · subst e
    rw [va_up_self, va_up_self, va_up_self]
    exact ⟨fun _ => rfl, fun q => (by cases q)⟩
  · rw [va_up_ne _ _ e, va_up_ne _ _ e, va_up_ne _ _ e, va_up_ne _ _ e]
    obtain ⟨h0, h1⟩ := h i (by omega)
    by_cases e0 : i = i0
    · subst e0
      rw [va_up_self]
      refine ⟨fun q => absurd (hc0.symm.trans q) (by decide), fun _ => ⟨hV i hi0, Or.inr ⟨n, hi0, by omega, ?_, ?_⟩, ?_⟩⟩
      · rw [va_up_self, ht]
      · rw [va_up_self]
      · intro k k1 k2 k3
        by_cases q : k = n
        · subst q
          rw [va_up_self]
          exact Nat.le_refl _
        · rw [va_up_ne _ _ q, ht] at k3
          exact absurd k3 (hlast k k1 (by omega))
    · rw [va_up_ne _ _ e0]
      refine ⟨h0, fun hc => ?_⟩
      obtain ⟨a, b, d⟩ := h1 hc
      refine ⟨a, ?_, ?_⟩
      · rcases b with b | ⟨k, k1, k2, k3, k4⟩
        · exact Or.inl b
        · refine Or.inr ⟨k, k1, by omega, ?_, ?_⟩
          · rw [va_up_ne _ _ (by omega)]
            exact k3
          · rw [va_up_ne _ _ (by omega)]
            exact k4
      · intro k k1 k2 k3
        by_cases q : k = n
        · subst q
          rw [va_up_self] at k3
          rw [va_up_self]
          rcases Nat.lt_or_gt_of_ne e0 with z | z
          · have := d i0 z hi0 (by rw [ht, k3])
            have := hV i0 hi0
            omega
          · exact absurd k3.symm (hlast i z (by omega))
        · rw [va_up_ne _ _ q] at k3
          rw [va_up_ne _ _ q]
          exact d k k1 (by omega) k3
theorem iMono_up {V : Nat → Nat} {n x : Nat} (h : iMono V n) (hV : ∀ k, k < n → V k ≤ x) : iMono (va_up V n x) (n + 1) := by
  intro i j hij hj
  by_cases e : j = n
  · subst e
    rw [va_up_self]
    by_cases e2 : i = j
    · subst e2
      rw [va_up_self]
      exact Nat.le_refl _
    · rw [va_up_ne _ _ e2]
      exact hV i (by omega)
  · rw [va_up_ne _ _ e, va_up_ne _ _ (by omega)]
    exact h i j hij (by omega)
theorem mNow_ge {V : Nat → Nat} {n : Nat} {cu : Option Nat} (h : iMono V n) : ∀ k, k < n → V k ≤ mNow V n cu := by
  intro k hk
  have h1 := h k (n - 1) (by omega) (by omega)
  unfold mNow
  rw [if_neg (by omega)]
  omega
theorem mNow_up {V : Nat → Nat} {n x : Nat} {cu : Option Nat} (h : mNow V n cu ≤ x) : mNow (va_up V n x) (n + 1) cu = x := by
  unfold mNow at h ⊢
  rw [if_neg (by omega), Nat.add_sub_cancel, va_up_self]
  omega
/-- a triple in one number -/
theorem key3 {a b d a' b' d' : Nat} (h2 : b < 1000) (h3 : d < 1000) (h2' : b' < 1000) (h3' : d' < 1000) : a * 1000000 + b * 1000 + d = a' * 1000000 + b' * 1000 + d' ↔ a = a' ∧ b = b' ∧ d = d' := by
  constructor
  · intro h
    omega
  · rintro ⟨rfl, rfl, rfl⟩
    rfl
theorem tGo_at {X Y Z E : Nat → Nat} {a b d x i0 : Nat} (h0 : E i0 = 1000001 ∧ X i0 = a ∧ Y i0 = b ∧ Z i0 = d) : ∀ {n : Nat}, i0 < n → (∀ j, i0 < j → j < n → ¬ (E j = 1000001 ∧ X j = a ∧ Y j = b ∧ Z j = d)) → tGo X Y Z E a b d x n = va_up E i0 x
  | 0, h, _ => absurd h (Nat.not_lt_zero _)
  | n + 1, h, hn => by
    by_cases e : i0 = n
    · subst e
      exact tGo_yes h0
    · rw [tGo_no (hn n (by omega) (by omega))]
      exact tGo_at h0 (by omega) (fun j a b => hn j a (by omega))
theorem tSum_congr {f g : Nat → Nat} : ∀ {n : Nat}, (∀ j, j < n → f j = g j) → tSum f n = tSum g n
  | 0, _ => rfl
  | n + 1, h => by rw [tSum, tSum, tSum_congr (fun j a => h j (by omega)), h n (by omega)]
theorem tSum_one {f g : Nat → Nat} {i : Nat} (h : ∀ j, j ≠ i → f j = g j) : ∀ {n : Nat}, i < n → tSum f n + g i = tSum g n + f i
  | 0, hn => absurd hn (Nat.not_lt_zero _)
  | n + 1, hn => by
    rw [tSum, tSum]
    by_cases e : i = n
    · subst e
      rw [tSum_congr (f := f) (g := g) (fun j a => h j (by omega))]
      omega
    · have := tSum_one h (show i < n by omega)
      rw [h n (by omega)]
      omega
/-- how many comings are open -/
def iOp (E : Nat → Nat) : Nat → Nat := fun i => if E i = 1000001 then 1 else 0
theorem iOp_le (E : Nat → Nat) : ∀ n, tSum (iOp E) n ≤ n
  | 0 => Nat.le_refl _
  | n + 1 => by
    have := iOp_le E n
    rw [tSum, iOp]
    split <;> omega
theorem iOp_add {E : Nat → Nat} {n : Nat} : tSum (iOp (va_up E n 1000001)) (n + 1) = tSum (iOp E) n + 1 := by
  rw [tSum, tSum_congr (g := iOp E) (fun j hj => by unfold iOp; rw [va_up_ne _ _ (by omega)])]
  unfold iOp
  rw [va_up_self, if_pos rfl]
theorem iOp_go {E : Nat → Nat} {n i0 x : Nat} (hx : x < 1000001) (h0 : i0 < n) (he : E i0 = 1000001) : tSum (iOp (va_up (va_up E i0 x) n x)) (n + 1) + 1 = tSum (iOp E) n := by
  rw [tSum, tSum_congr (g := iOp (va_up E i0 x)) (fun j hj => by unfold iOp; rw [va_up_ne _ _ (show j ≠ n by omega)])]
  have e1 : iOp (va_up (va_up E i0 x) n x) n = 0 := by unfold iOp; rw [va_up_self, if_neg (by omega)]
  have e2 : iOp (va_up E i0 x) i0 = 0 := by unfold iOp; rw [va_up_self, if_neg (by omega)]
  have e3 : iOp E i0 = 1 := by unfold iOp; rw [if_pos he]
  have := tSum_one (f := iOp (va_up E i0 x)) (g := iOp E) (i := i0) (fun j hj => by unfold iOp; rw [va_up_ne _ _ hj]) h0
  omega
/-! a cut: the places that stay -/
theorem tCK_eq {E : Nat → Nat} {x : Nat} : ∀ n, tCK E x n = mCK (fun i => decide (x < E i)) n
  | 0 => rfl
  | n + 1 => by
    rw [tCK, mCK, tCK_eq n]
    by_cases h : x < E n
    · rw [if_pos h, if_pos (decide_eq_true h)]
    · rw [if_neg h, if_neg (by rw [decide_eq_false h]; decide)]
theorem tCF_eq {E F : Nat → Nat} {x : Nat} : ∀ n, tCF E x F n = mCF (fun i => decide (x < E i)) F n
  | 0 => rfl
  | n + 1 => by
    rw [tCF, mCF, tCF_eq n, tCK_eq n]
    by_cases h : x < E n
    · rw [if_pos h, if_pos (decide_eq_true h)]
    · rw [if_neg h, if_neg (by rw [decide_eq_false h]; decide)]
theorem mCK_congr {p q : Nat → Bool} : ∀ {n : Nat}, (∀ i, i < n → p i = q i) → mCK p n = mCK q n
  | 0, _ => rfl
  | n + 1, h => by rw [mCK, mCK, h n (by omega), mCK_congr (fun i a => h i (by omega))]
theorem mCF_congr {α : Type} {p q : Nat → Bool} {F : Nat → α} : ∀ {n : Nat}, (∀ i, i < n → p i = q i) → mCF p F n = mCF q F n
  | 0, _ => rfl
  | n + 1, h => by rw [mCF, mCF, h n (by omega), mCF_congr (fun i a => h i (by omega)), mCK_congr (fun i a => h i (by omega))]
theorem mCF_ge {α : Type} {p : Nat → Bool} {F : Nat → α} : ∀ {i j : Nat}, i ≤ j → mCF p F i j = F j
  | 0, _, _ => rfl
  | i + 1, j, h => by
    have hk := mCK_le p i
    rw [mCF]
    split
    · rw [va_up_ne _ _ (by omega)]
      exact mCF_ge (by omega)
    · exact mCF_ge (by omega)
theorem mCF_b {p : Nat → Bool} {F : Nat → Nat} {m : Nat} (h : ∀ j, F j < m) : ∀ n j, mCF p F n j < m
  | 0 => h
  | n + 1 => by
    rw [mCF]
    split
    · exact tUp_lt (mCF_b h n) (mCF_b h n n)
    · exact mCF_b h n
theorem mCF_3 {p : Nat → Bool} {T X Y Z : Nat → Nat} (h : ∀ j, T j = X j * 1000000 + Y j * 1000 + Z j) : ∀ n j, mCF p T n j = mCF p X n j * 1000000 + mCF p Y n j * 1000 + mCF p Z n j
  | 0 => h
  | n + 1 => by
    intro j
    rw [mCF, mCF, mCF, mCF]
    split
    · by_cases e : j = mCK p n
      · subst e
        rw [va_up_self, va_up_self, va_up_self, va_up_self]
        exact mCF_3 h n n
      · rw [va_up_ne _ _ e, va_up_ne _ _ e, va_up_ne _ _ e, va_up_ne _ _ e]
        exact mCF_3 h n j
    · exact mCF_3 h n j
/-- where what stands at j behind the cut stood before it -/
def mG (p : Nat → Bool) (n : Nat) : Nat → Nat := mCF p (fun i => i) n
theorem mG_s {p : Nat → Bool} {n : Nat} (h : p n = true) : mG p (n + 1) = va_up (mG p n) (mCK p n) n := by
  unfold mG
  rw [mCF_yes h, mCF_ge (Nat.le_refl n)]
theorem mG_n {p : Nat → Bool} {n : Nat} (h : p n = false) : mG p (n + 1) = mG p n := by
  unfold mG
  rw [mCF_no h]
theorem mG_at {p : Nat → Bool} : ∀ {n j : Nat}, j < mCK p n → mG p n j < n ∧ p (mG p n j) = true
  | 0, _, h => absurd h (Nat.not_lt_zero _)
  | n + 1, j, h => by
    cases q : p n with
    | true =>
      rw [mCK_yes q] at h
      rw [mG_s q]
      by_cases e : j = mCK p n
      · subst e
        rw [va_up_self]
        exact ⟨by omega, q⟩
      · rw [va_up_ne _ _ e]
        have := mG_at (p := p) (n := n) (j := j) (by omega)
        exact ⟨by omega, this.2⟩
    | false =>
      rw [mCK_no q] at h
      rw [mG_n q]
      have := mG_at h
      exact ⟨by omega, this.2⟩
theorem mG_lt {p : Nat → Bool} : ∀ {n i j : Nat}, i < j → j < mCK p n → mG p n i < mG p n j
  | 0, _, _, _, h => absurd h (Nat.not_lt_zero _)
  | n + 1, i, j, hij, h => by
    cases q : p n with
    | true =>
      rw [mCK_yes q] at h
      rw [mG_s q]
      by_cases e : j = mCK p n
      · subst e
        rw [va_up_self, va_up_ne _ _ (by omega)]
        exact (mG_at hij).1
      · rw [va_up_ne _ _ e, va_up_ne _ _ (by omega)]
        exact mG_lt hij (by omega)
    | false =>
      rw [mCK_no q] at h
      rw [mG_n q]
      exact mG_lt hij h
theorem mG_on {p : Nat → Bool} : ∀ {n i : Nat}, i < n → p i = true → ∃ j, j < mCK p n ∧ mG p n j = i
  | 0, _, h, _ => absurd h (Nat.not_lt_zero _)
  | n + 1, i, h, hp => by
    cases q : p n with
    | true =>
      rw [mCK_yes q, mG_s q]
      by_cases e : i = n
      · subst e
        exact ⟨mCK p i, by omega, va_up_self _ _ _⟩
      · obtain ⟨j, j1, j2⟩ := mG_on (p := p) (n := n) (show i < n by omega) hp
        exact ⟨j, by omega, by rw [va_up_ne _ _ (by omega)]; exact j2⟩
    | false =>
      rw [mCK_no q, mG_n q]
      have : i ≠ n := fun z => by rw [z, q] at hp; cases hp
      exact mG_on (by omega) hp
theorem mCF_at {α : Type} {p : Nat → Bool} {F : Nat → α} : ∀ {n j : Nat}, j < mCK p n → mCF p F n j = F (mG p n j)
  | 0, _, h => absurd h (Nat.not_lt_zero _)
  | n + 1, j, h => by
    cases q : p n with
    | true =>
      rw [mCK_yes q] at h
      rw [mG_s q, mCF_yes q]
      by_cases e : j = mCK p n
      · subst e
        rw [va_up_self, va_up_self, mCF_ge (Nat.le_refl n)]
      · rw [va_up_ne _ _ e, va_up_ne _ _ e]
        exact mCF_at (by omega)
    | false =>
      rw [mCK_no q] at h
      rw [mG_n q, mCF_no q]
      exact mCF_at h
theorem mG_inv {p : Nat → Bool} {n i j : Nat} (hi : i < mCK p n) (hj : j < mCK p n) (h : mG p n i < mG p n j) : i < j := by
  rcases Nat.lt_trichotomy i j with a | a | a
  · exact a
  · subst a
    exact absurd h (Nat.lt_irrefl _)
  · have := mG_lt a hi
    omega
theorem iLog_cut {T V E : Nat → Nat} {C : Nat → Bool} {n x : Nat} {p : Nat → Bool} (h : iLog T V E C n) (hp : ∀ i, i < n → (p i = true ↔ x < E i)) : iLog (mCF p T n) (mCF p V n) (mCF p E n) (mCF p C n) (mCK p n) := by
  intro j hj
  obtain ⟨g1, g2⟩ := mG_at hj
  obtain ⟨h0, h1⟩ := h _ g1
  rw [mCF_at hj, mCF_at hj, mCF_at hj, mCF_at hj]
  refine ⟨h0, fun hc => ?_⟩
  obtain ⟨a, b, d⟩ := h1 hc
  refine ⟨a, ?_, ?_⟩
  · rcases b with b | ⟨k, k1, k2, k3, k4⟩
    · exact Or.inl b
    · have e1 := (hp _ g1).mp g2
      have e2 := iLog_VE h k2
      obtain ⟨u, u1, u2⟩ := mG_on (p := p) k2 ((hp k k2).mpr (by omega))
      refine Or.inr ⟨u, mG_inv hj u1 (by rw [u2]; exact k1), u1, ?_, ?_⟩
      · rw [mCF_at u1, u2]
        exact k3
      · rw [mCF_at u1, u2]
        exact k4
  · intro k k1 k2 k3
    rw [mCF_at k2] at k3 ⊢
    exact d _ (mG_lt k1 k2) (mG_at k2).1 k3
theorem iMono_cut {V : Nat → Nat} {n : Nat} {p : Nat → Bool} (h : iMono V n) : iMono (mCF p V n) (mCK p n) := by
  intro i j hij hj
  rw [mCF_at hj, mCF_at (by omega)]
  refine h _ _ ?_ (mG_at hj).1
  rcases Nat.lt_or_eq_of_le hij with q | q
  · exact Nat.le_of_lt (mG_lt q hj)
  · rw [q]
    exact Nat.le_refl _
theorem mTh_cut {T V E : Nat → Nat} {C : Nat → Bool} {n x t : Nat} {p : Nat → Bool} (h : iLog T V E C n) (hx : x < 1000001) (hp : ∀ i, i < n → (p i = true ↔ x < E i)) : mTh (mCF p T n) (mCF p C n) t (mCK p n) = mTh T C t n := by
  have key : mTh (mCF p T n) (mCF p C n) t (mCK p n) = true ↔ mTh T C t n = true := by
    rw [mTh_iff, mTh_iff]
    constructor
    · rintro ⟨j, j1, j2, j3, j4⟩
      obtain ⟨g1, g2⟩ := mG_at j1
      rw [mCF_at j1] at j2 j3
      refine ⟨_, g1, j2, j3, fun k k1 k2 k3 => ?_⟩
      have e0 := ((h _ g1).2 j3).2.2 k k1 k2 (by rw [k3, j2])
      have e1 := (hp _ g1).mp g2
      have e2 := iLog_VE h k2
      obtain ⟨u, u1, u2⟩ := mG_on (p := p) k2 ((hp k k2).mpr (by omega))
      refine j4 u (mG_inv j1 u1 (by rw [u2]; exact k1)) u1 ?_
      rw [mCF_at u1, u2]
      exact k3
    · rintro ⟨i, i1, i2, i3, i4⟩
      have e1 : E i = 1000001 := by
        rcases ((h i i1).2 i3).2.1 with b | ⟨k, k1, k2, k3, k4⟩
        · exact b
        · exact absurd (k3.trans i2) (i4 k k1 k2)
      obtain ⟨u, u1, u2⟩ := mG_on (p := p) i1 ((hp i i1).mpr (by omega))
      refine ⟨u, u1, ?_, ?_, fun k k1 k2 => ?_⟩
      · rw [mCF_at u1, u2]
        exact i2
      · rw [mCF_at u1, u2]
        exact i3
      · rw [mCF_at k2]
        refine i4 _ ?_ (mG_at k2).1
        have := mG_lt k1 k2
        omega
  cases a : mTh T C t n with
  | true => exact key.mpr a
  | false =>
    cases b : mTh (mCF p T n) (mCF p C n) t (mCK p n) with
    | false => rfl
    | true =>
      rw [key.mp b] at a
      cases a
theorem tSum_cut {p : Nat → Bool} {F : Nat → Nat} (g : Nat → Nat) : ∀ n, tSum (fun j => g (mCF p F n j)) (mCK p n) = tSum (fun i => if p i = true then g (F i) else 0) n
  | 0 => rfl
  | n + 1 => by
    cases q : p n with
    | true =>
      rw [mCK_yes q, mCF_yes q, tSum, tSum, ← tSum_cut g n]
      rw [tSum_congr (g := fun j => g (mCF p F n j)) (fun j hj => by (try dsimp only); rw [va_up_ne _ _ (by omega)])]
      try dsimp only
      rw [va_up_self, mCF_ge (Nat.le_refl n), if_pos q]
    | false =>
      rw [mCK_no q, mCF_no q, tSum, ← tSum_cut g n]
      try dsimp only
      rw [if_neg (by rw [q]; decide)]
      rfl
theorem iOp_cut {E : Nat → Nat} {n x : Nat} {p : Nat → Bool} (hx : x < 1000001) (hp : ∀ i, i < n → (p i = true ↔ x < E i)) : tSum (iOp (mCF p E n)) (mCK p n) = tSum (iOp E) n := by
  have := tSum_cut (p := p) (F := E) (fun y => if y = 1000001 then 1 else 0) n
  refine Eq.trans this (tSum_congr fun j hj => ?_)
  try dsimp only
  unfold iOp
  by_cases e : E j = 1000001
  · rw [if_pos e, if_pos ((hp j hj).mpr (by omega))]
  · rw [if_neg e]
    split <;> rfl
theorem mNow_cut {V E T : Nat → Nat} {C : Nat → Bool} {n x : Nat} {cu : Option Nat} {p : Nat → Bool} (h : iLog T V E C n) (hm : iMono V n) (hc : ∀ j, cu = some j → j ≤ x) (hp : ∀ i, i < n → (p i = true ↔ x < E i)) : mNow (mCF p V n) (mCK p n) (some x) = max (mNow V n cu) x := by
  have hcu : cu.getD 0 ≤ x := by
    rcases cu with _ | c
    · exact Nat.zero_le _
    · exact hc c rfl
  have hk := mCK_le p n
  unfold mNow
  show max _ x = _
  by_cases hn : n = 0
  · subst hn
    rw [if_pos rfl, if_pos (show mCK p 0 = 0 from rfl)]
    omega
  · rw [if_neg hn]
    cases q : p (n - 1) with
    | true =>
      obtain ⟨u, u1, u2⟩ := mG_on (p := p) (show n - 1 < n by omega) q
      have h1 := (mG_at (p := p) (n := n) (j := mCK p n - 1) (by omega)).1
      have h2 : mG p n u ≤ mG p n (mCK p n - 1) := by
        rcases Nat.lt_or_eq_of_le (show u ≤ mCK p n - 1 by omega) with z | z
        · exact Nat.le_of_lt (mG_lt z (by omega))
        · rw [z]
          exact Nat.le_refl _
      rw [if_neg (by omega), mCF_at (by omega), show mG p n (mCK p n - 1) = n - 1 by omega]
      omega
    | false =>
      have h1 : ¬ x < E (n - 1) := fun z => by rw [(hp (n - 1) (by omega)).mpr z] at q; cases q
      have h2 := iLog_VE h (show n - 1 < n by omega)
      by_cases z : mCK p n = 0
      · rw [if_pos z]
        omega
      · rw [if_neg z, mCF_at (by omega)]
        have h3 := (mG_at (p := p) (n := n) (j := mCK p n - 1) (by omega)).1
        have h4 := hm (mG p n (mCK p n - 1)) (n - 1) (by omega) (by omega)
        omega
