/-! keys -/
theorem tTerm_0 (k : Nat) : tTerm k 0 = k / 1000000 := rfl
theorem tTerm_1 (k : Nat) : tTerm k 1 = k / 1000 % 1000 := rfl
theorem tTerm_2 (k : Nat) : tTerm k 2 = k % 1000 := rfl
theorem tTerm_3 {u v w j : Nat} (hv : v < 1000) (hw : w < 1000) : tTerm (u * 1000000 + v * 1000 + w) j = tPick j u v w := by
  unfold tTerm tPick
  by_cases h0 : j = 0
  · rw [if_pos h0, if_pos h0]
    omega
  · rw [if_neg h0, if_neg h0]
    by_cases h1 : j = 1
    · rw [if_pos h1, if_pos h1]
      omega
    · rw [if_neg h1, if_neg h1]
      omega
theorem mKey_eq {o a b d : Nat} (hb : b < 1000) (hd : d < 1000) : mKey o (a * 1000000 + b * 1000 + d) = tKeyOf o a b d := by
  unfold mKey tKeyOf
  rw [tTerm_3 hb hd, tTerm_3 hb hd, tTerm_3 hb hd]
  rfl
theorem mKey_term {o t j : Nat} (ht : t < 1000000000) (hj : j < 3) : tTerm (mKey o t) j = tTerm t (taF (o * 3 + j)) := by
  unfold mKey
  rw [tTerm_3 (tTerm_lt ht _) (tTerm_lt ht _)]
  obtain rfl | rfl | rfl : j = 0 ∨ j = 1 ∨ j = 2 := by omega
  · rfl
  · rfl
  · rfl
theorem mKey_inj {o t t' : Nat} (ho : o < 6) (h : mKey o t = mKey o t') (ht : t < 1000000000) (ht' : t' < 1000000000) : t = t' := by
  have e0 : tTerm t (taF (o * 3 + 0)) = tTerm t' (taF (o * 3 + 0)) := by rw [← mKey_term ht (by decide), ← mKey_term ht' (by decide), h]
  have e1 : tTerm t (taF (o * 3 + 1)) = tTerm t' (taF (o * 3 + 1)) := by rw [← mKey_term ht (by decide), ← mKey_term ht' (by decide), h]
  have e2 : tTerm t (taF (o * 3 + 2)) = tTerm t' (taF (o * 3 + 2)) := by rw [← mKey_term ht (by decide), ← mKey_term ht' (by decide), h]
  have all : ∀ j, j < 3 → tTerm t j = tTerm t' j := by
    intro j hj
    obtain ⟨p1, p2, _⟩ := poF_ok ho hj
    rw [← p2]
    obtain q | q | q : poF (o * 3 + j) = 0 ∨ poF (o * 3 + j) = 1 ∨ poF (o * 3 + j) = 2 := by omega
    · rw [q]; exact e0
    · rw [q]; exact e1
    · rw [q]; exact e2
  have a0 := all 0 (by decide)
  have a1 := all 1 (by decide)
  have a2 := all 2 (by decide)
  rw [tTerm_0, tTerm_0] at a0
  rw [tTerm_1, tTerm_1] at a1
  rw [tTerm_2, tTerm_2] at a2
  omega
/-- the log's numbers -/
def iTr (T X Y Z : Nat → Nat) : Prop := (∀ j, T j = X j * 1000000 + Y j * 1000 + Z j) ∧ (∀ j, X j < 1000) ∧ (∀ j, Y j < 1000) ∧ (∀ j, Z j < 1000)
theorem iTr.b {T X Y Z : Nat → Nat} (h : iTr T X Y Z) : ∀ j, T j < 1000000000 := fun j => by
  have := h.1 j
  have := h.2.1 j
  have := h.2.2.1 j
  have := h.2.2.2 j
  omega
theorem iTr.term {T X Y Z : Nat → Nat} (h : iTr T X Y Z) (i j : Nat) : tTerm (T i) j = tPick j (X i) (Y i) (Z i) := by
  rw [h.1 i]
  exact tTerm_3 (h.2.2.1 i) (h.2.2.2 i)
theorem iTr.key {T X Y Z : Nat → Nat} (h : iTr T X Y Z) (o i : Nat) : mFk T o i = tKeyOf o (X i) (Y i) (Z i) := by
  unfold mFk
  rw [h.1 i]
  exact mKey_eq (h.2.2.1 i) (h.2.2.2 i)
abbrev cP (V E X Y Z : Nat → Nat) (o : Nat) (a b : Option Nat) (x : Nat) : Nat → Bool := fun i => decide (tTh V E x i ∧ tCov a b (tPick (taF (o * 3 + 0)) (X i) (Y i) (Z i)) (tPick (taF (o * 3 + 1)) (X i) (Y i) (Z i)))
theorem iFd {T V E X Y Z : Nat → Nat} {C : Nat → Bool} {n o x i : Nat} {a b : Option Nat} (hL : iLog T V E C n) (hT : iTr T X Y Z) (hi : i < n) (hx : x < 1000001) : cP V E X Y Z o a b x i = mFp T V C n o a b x i := by
  unfold cP mFp
  refine decide_eq_decide.mpr ?_
  have e0 := mKey_term (o := o) (j := 0) (hT.b i) (by decide)
  have e1 := mKey_term (o := o) (j := 1) (hT.b i) (by decide)
  rw [hT.term] at e0 e1
  unfold mFd
  rw [e0, e1]
  have := iLog_th hL hi hx
  constructor
  · rintro ⟨h1, h2⟩
    have := this.mpr h1
    exact ⟨this.1, h2, this.2⟩
  · rintro ⟨h1, h2, h3⟩
    exact ⟨this.mp ⟨h1, h3⟩, h2⟩
theorem iDis {T V X Y Z : Nat → Nat} {C : Nat → Bool} {n o x : Nat} {a b : Option Nat} (hT : iTr T X Y Z) (ho : o < 6) : ∀ i j, i < n → j < n → mFp T V C n o a b x i = true → mFp T V C n o a b x j = true → mFk T o i = mFk T o j → i = j := by
  intro i j hi hj h1 h2 h3
  have d1 : mFd T V C n o a b x i := of_decide_eq_true h1
  have d2 : mFd T V C n o a b x j := of_decide_eq_true h2
  have e := mKey_inj ho h3 (hT.b i) (hT.b j)
  rcases Nat.lt_trichotomy i j with q | q | q
  · exact absurd ⟨e.symm, d2.2.2.1⟩ (d1.2.2.2 j hj q)
  · exact q
  · exact absurd ⟨e, d1.2.2.1⟩ (d2.2.2.2 i hi q)
theorem iDisC {T V E X Y Z : Nat → Nat} {C : Nat → Bool} {n o x : Nat} {a b : Option Nat} (hL : iLog T V E C n) (hT : iTr T X Y Z) (ho : o < 6) (hx : x < 1000001) : ∀ i j, i < n → j < n → cP V E X Y Z o a b x i = true → cP V E X Y Z o a b x j = true → (fun i => tKeyOf o (X i) (Y i) (Z i)) i = (fun i => tKeyOf o (X i) (Y i) (Z i)) j → i = j := by
  intro i j hi hj h1 h2 h3
  rw [iFd hL hT hi hx] at h1
  rw [iFd hL hT hj hx] at h2
  exact iDis hT ho i j hi hj h1 h2 (by rw [hT.key, hT.key]; exact h3)
/-! rows that come of the same keys -/
theorem tCnt_congr {f g : Nat → Nat} {x : Nat} : ∀ {n : Nat}, (∀ j, j < n → f j = g j) → tCnt f x n = tCnt g x n
  | 0, _ => rfl
  | n + 1, h => by rw [tCnt, tCnt, tCnt_congr (fun j a => h j (by omega)), h n (by omega)]
theorem tPut_congr {f g : Nat → Nat} {n x : Nat} (h : ∀ j, j < n → f j = g j) : ∀ j, j < n + 1 → tPut f n x j = tPut g n x j := by
  intro j hj
  have e := tCnt_congr (x := x) h
  have hk := tCnt_le f x n
  rcases Nat.lt_trichotomy j (tCnt f x n) with a | a | a
  · rw [tPut_lo a, tPut_lo (by omega)]
    exact h j (by omega)
  · rw [a, tPut_eq, e, tPut_eq]
  · rw [tPut_hi a (by omega), tPut_hi (by omega) (by omega)]
    exact h _ (by omega)
theorem tRP_congr {p q : Nat → Bool} {k k' f g : Nat → Nat} : ∀ {n : Nat}, (∀ i, i < n → p i = q i) → (∀ i, i < n → k i = k' i) → (tRP p k f n).1 = (tRP q k' g n).1 ∧ ∀ j, j < (tRP p k f n).1 → (tRP p k f n).2 j = (tRP q k' g n).2 j
  | 0, _, _ => ⟨rfl, fun j h => absurd h (Nat.not_lt_zero _)⟩
  | n + 1, hp, hk => by
    obtain ⟨h1, h2⟩ := tRP_congr (p := p) (q := q) (k := k) (k' := k') (f := f) (g := g) (n := n) (fun i a => hp i (by omega)) (fun i a => hk i (by omega))
    cases z : p n with
    | true =>
      rw [tRP_yes z, tRP_yes (by rw [← hp n (by omega)]; exact z)]
      refine ⟨by show (tRP p k f n).1 + 1 = _; rw [h1], fun j hj => ?_⟩
      show tPut _ _ _ j = tPut _ _ _ j
      rw [← h1, ← hk n (by omega)]
      exact tPut_congr h2 j hj
    | false =>
      rw [tRP_no z, tRP_no (by rw [← hp n (by omega)]; exact z)]
      exact ⟨h1, h2⟩
/-! the hand: seek -/
theorem mSk_of {f : Nat → Nat} {r c K : Nat} {v : Int} (hK : K ≤ c) (h1 : ∀ j, j < K → (tTerm (f j) r : Int) < v) (h2 : K < c → ¬ (tTerm (f K) r : Int) < v) : ∀ (d k : Nat), K - k = d → k ≤ K → mSk f r v (c - k) k = K
  | 0, k, hd, hk => by
    have e : k = K := by omega
    subst e
    by_cases q : k < c
    · exact mSk_no q (h2 q)
    · rw [show c - k = 0 by omega]
      rfl
  | d + 1, k, hd, hk => by
    rw [mSk_yes (by omega) (h1 k (by omega))]
    exact mSk_of hK h1 h2 d (k + 1) (by omega) (by omega)
theorem tLow_iff {a b : Option Nat} {k i : Nat} (hns : ¬ (a = none ∧ ¬ b = none)) (hb : ∀ j, b = some j → j < 1000) (hi : i < 1000) (hc : tCov a b (tTerm k 0) (tTerm k 1)) : k < tLow a b i ↔ tTerm k (tFree a b) < i := by
  rw [tTerm_0, tTerm_1] at hc
  rcases a with _ | a
  · have hb0 : b = none := Decidable.byContradiction fun z => hns ⟨rfl, z⟩
    subst hb0
    show k < i * 1000000 ↔ k / 1000000 < i
    omega
  · have ea : a = k / 1000000 := by
      rcases hc.1 with q | q
      · cases q
      · exact Option.some.inj q
    rcases b with _ | b
    · show k < a * 1000000 + i * 1000 ↔ k / 1000 % 1000 < i
      omega
    · have eb : b = k / 1000 % 1000 := by
        rcases hc.2 with q | q
        · cases q
        · exact Option.some.inj q
      show k < a * 1000000 + b * 1000 + i ↔ k % 1000 < i
      omega
/-- the hand's row -/
def iHa (R cn : Nat) (f I : Nat → Nat) (o : Nat) (a b : Option Nat) : Prop :=
  cn ≤ R ∧ (∀ j, j < cn → f j = I j) ∧ tS f cn ∧ (∀ j, f j < 1000000000) ∧ (∀ j, I j < 1000000000) ∧ o < 6 ∧ (∀ j, a = some j → j < 1000) ∧ (∀ j, b = some j → j < 1000) ∧ ¬ (a = none ∧ ¬ b = none) ∧ ∀ j, j < cn → tCov a b (tTerm (f j) 0) (tTerm (f j) 1)
theorem iSeek {R cn o i : Nat} {f I : Nat → Nat} {a b : Option Nat} (h : iHa R cn f I o a b) (hi : i < 1000) : tCnt f (tLow a b i) cn = mSk I (tFree a b) (i : Int) cn 0 := by
  obtain ⟨h1, h2, h3, h4, h5, h6, h7, h8, h9, h10⟩ := h
  obtain ⟨s1, s2⟩ := tCnt_split (x := tLow a b i) h3
  have hk := tCnt_le f (tLow a b i) cn
  refine (mSk_of hk (fun j hj => ?_) (fun hj => ?_) _ 0 rfl (Nat.zero_le _)).symm
  · have := (tLow_iff h9 h8 hi (h10 j (by omega))).mp (s1 j hj)
    rw [← h2 j (by omega)]
    omega
  · have := s2 _ (Nat.le_refl _) hj
    have e := (tLow_iff h9 h8 hi (h10 _ hj))
    rw [← h2 _ hj]
    omega
theorem iSeek_neg {R cn o : Nat} {f I : Nat → Nat} {a b : Option Nat} {v : Int32} (h : iHa R cn f I o a b) (hv : v < 0) : tCnt f (tLow a b 0) cn = mSk I (tFree a b) v.toInt cn 0 := by
  rw [iSeek h (by decide)]
  rw [Int32.lt_iff_toInt_lt, Int32.toInt_zero] at hv
  have a1 := mSk_of (f := I) (r := tFree a b) (c := cn) (v := ((0 : Nat) : Int)) (K := 0) (Nat.zero_le _) (fun j hj => absurd hj (Nat.not_lt_zero _)) (fun _ => by omega) _ 0 rfl (Nat.le_refl _)
  have a2 := mSk_of (f := I) (r := tFree a b) (c := cn) (v := v.toInt) (K := 0) (Nat.zero_le _) (fun j hj => absurd hj (Nat.not_lt_zero _)) (fun _ => by omega) _ 0 rfl (Nat.le_refl _)
  exact a1.trans a2.symm
theorem iSeek_big {R cn o : Nat} {f I : Nat → Nat} {a b : Option Nat} {v : Int32} (h : iHa R cn f I o a b) (hv : nI 1000 ≤ v) : cn = mSk I (tFree a b) v.toInt cn 0 := by
  rw [Int32.le_iff_toInt_le, nI_toInt (by decide)] at hv
  exact (mSk_of (Nat.le_refl _) (fun j hj => by have := tTerm_lt (h.2.2.2.2.1 j) (tFree a b); omega) (fun q => absurd q (Nat.lt_irrefl _)) _ 0 rfl (Nat.zero_le _)).symm
/-- a range's answer is a hand -/
theorem iHa_range {T V E X Y Z f G I : Nat → Nat} {C : Nat → Bool} {R n o x : Nat} {a b : Option Nat} (hL : iLog T V E C n) (hT : iTr T X Y Z) (hnR : n ≤ R) (ho : o < 6) (ha : ∀ j, a = some j → j < 1000) (hb : ∀ j, b = some j → j < 1000) (hns : ¬ (a = none ∧ ¬ b = none)) (hx : x < 1000001) (hf : ∀ j, f j < 1000000000) (hG : ∀ j, G j < 1000000000) (hI : ∀ j, I j < 1000000000) :
    (tRP (cP V E X Y Z o a b x) (fun i => tKeyOf o (X i) (Y i) (Z i)) f n).1 = (mRow T V C n o a b x G n).1 ∧ iHa R (tRP (cP V E X Y Z o a b x) (fun i => tKeyOf o (X i) (Y i) (Z i)) f n).1 (tRP (cP V E X Y Z o a b x) (fun i => tKeyOf o (X i) (Y i) (Z i)) f n).2 (mCp I (mRow T V C n o a b x G n).2 (mRow T V C n o a b x G n).1) o a b := by
  obtain ⟨e1, e2⟩ := tRP_congr (p := cP V E X Y Z o a b x) (q := mFp T V C n o a b x) (k := fun i => tKeyOf o (X i) (Y i) (Z i)) (k' := mFk T o) (f := f) (g := G) (n := n) (fun i hi => iFd hL hT hi hx) (fun i hi => (hT.key o i).symm)
  obtain ⟨s1, s2⟩ := tRP_S (cP V E X Y Z o a b x) (fun i => tKeyOf o (X i) (Y i) (Z i)) f n (iDisC hL hT ho hx) n (Nat.le_refl _)
  refine ⟨e1, Nat.le_trans (tRP_le _ _ _ n) hnR, fun j hj => ?_, s1, ?_, ?_, ho, ha, hb, hns, fun j hj => ?_⟩
  · rw [e2 j hj]
    unfold mCp mRow
    rw [if_pos (by rw [← e1]; exact hj)]
  · exact tRP_b _ _ _ hf (fun j => by
      show tKeyOf o (X j) (Y j) (Z j) < 1000000000
      rw [← hT.key]
      exact mKey_lt o (hT.b j)) n
  · intro j
    unfold mCp
    split
    · exact mRow_b hT.b hG n j
    · exact hI j
  · obtain ⟨i, i1, i2, i3⟩ := (s2 _).mp ⟨j, hj, rfl⟩
    rw [iFd hL hT i1 hx] at i2
    have d : mFd T V C n o a b x i := of_decide_eq_true i2
    rw [← i3]
    have : tKeyOf o (X i) (Y i) (Z i) = mKey o (T i) := (hT.key o i).symm
    show tCov a b (tTerm (tKeyOf o (X i) (Y i) (Z i)) 0) (tTerm (tKeyOf o (X i) (Y i) (Z i)) 1)
    rw [this]
    exact d.2.1
/-! tallies -/
theorem tTa_at {p : Nat → Bool} {t T : Nat → Nat} {u x : Nat} : ∀ n, (T x ≠ u → tTa p t u T n x = T x) ∧ (T x = u → (∃ i, i < n ∧ p i = true ∧ t i = x) → tTa p t u T n x = u + 1) ∧ (T x = u → ¬ (∃ i, i < n ∧ p i = true ∧ t i = x) → tTa p t u T n x = u)
  | 0 => ⟨fun _ => rfl, fun _ ⟨i, h, _⟩ => absurd h (Nat.not_lt_zero _), fun h _ => h⟩
  | n + 1 => by
    obtain ⟨h1, h2, h3⟩ := tTa_at (p := p) (t := t) (T := T) (u := u) (x := x) n
    rw [tTa]
    by_cases c : p n = true ∧ tTa p t u T n (t n) = u
    · rw [if_pos c]
      by_cases e : x = t n
      · rw [e, va_up_self]
        rw [e] at h1 h2 h3
        refine ⟨fun q => ?_, fun _ _ => rfl, fun _ q => absurd ⟨n, by omega, c.1, rfl⟩ q⟩
        exact absurd ((h1 q).symm.trans c.2) q
      · rw [va_up_ne _ _ e]
        refine ⟨h1, fun a ⟨i, i1, i2, i3⟩ => h2 a ⟨i, ?_, i2, i3⟩, fun a q => h3 a fun ⟨i, i1, i2, i3⟩ => q ⟨i, by omega, i2, i3⟩⟩
        have : i ≠ n := fun z => e (by rw [← i3, z])
        omega
    · rw [if_neg c]
      refine ⟨h1, fun a ⟨i, i1, i2, i3⟩ => ?_, fun a q => h3 a fun ⟨i, i1, i2, i3⟩ => q ⟨i, by omega, i2, i3⟩⟩
      by_cases z : i = n
      · subst z
        have hne : ¬ tTa p t u T i x = u := fun y => c ⟨i2, by rw [i3]; exact y⟩
        by_cases w : ∃ k, k < i ∧ p k = true ∧ t k = x
        · exact h2 a w
        · exact absurd (h3 a w) hne
      · exact h2 a ⟨i, by omega, i2, i3⟩
theorem mHt_at {f T : Nat → Nat} {r u x : Nat} : ∀ n, (T x ≠ u → mHt f r u T n x = T x) ∧ (T x = u → (∃ i, i < n ∧ tTerm (f i) r = x) → mHt f r u T n x = u + 1) ∧ (T x = u → ¬ (∃ i, i < n ∧ tTerm (f i) r = x) → mHt f r u T n x = u)
  | 0 => ⟨fun _ => rfl, fun _ ⟨i, h, _⟩ => absurd h (Nat.not_lt_zero _), fun h _ => h⟩
  | n + 1 => by
    obtain ⟨h1, h2, h3⟩ := mHt_at (f := f) (T := T) (r := r) (u := u) (x := x) n
    rw [mHt]
    by_cases e : x = tTerm (f n) r
    · rw [e, va_up_self]
      rw [e] at h1 h2 h3
      refine ⟨fun q => ?_, fun q _ => ?_, fun q z => absurd ⟨n, by omega, rfl⟩ z⟩
      · rw [h1 q, if_neg q]
      · by_cases w : ∃ k, k < n ∧ tTerm (f k) r = tTerm (f n) r
        · rw [h2 q w, if_neg (by omega)]
        · rw [h3 q w, if_pos rfl]
    · rw [va_up_ne _ _ e]
      refine ⟨h1, fun a ⟨i, i1, i3⟩ => h2 a ⟨i, ?_, i3⟩, fun a q => h3 a fun ⟨i, i1, i3⟩ => q ⟨i, by omega, i3⟩⟩
      have : i ≠ n := fun z => e (by rw [← i3, z])
      omega
theorem tFl_at {T : Nat → Nat} {u : Nat} : ∀ {k j : Nat}, j < k → tFl T u k j = u
  | 0, _, h => absurd h (Nat.not_lt_zero _)
  | k + 1, j, h => by
    rw [tFl]
    by_cases e : j = k
    · subst e
      exact va_up_self _ _ _
    · rw [va_up_ne _ _ e]
      exact tFl_at (by omega)
theorem tCn_congr {A B : Nat → Nat} {u w : Nat} : ∀ {N : Nat}, (∀ x, x < N → (A x = u ↔ B x = w)) → tCn A u N = tCn B w N
  | 0, _ => rfl
  | N + 1, h => by
    rw [tCn, tCn, tCn_congr (fun x a => h x (by omega))]
    by_cases q : A N = u
    · rw [if_pos q, if_pos ((h N (by omega)).mp q)]
    · rw [if_neg q, if_neg (fun z => q ((h N (by omega)).mpr z))]
theorem tCn_mono {A B : Nat → Nat} {u w : Nat} : ∀ {N : Nat}, (∀ x, x < N → A x = u → B x = w) → tCn A u N ≤ tCn B w N
  | 0, _ => Nat.le_refl _
  | N + 1, h => by
    have := tCn_mono (A := A) (B := B) (u := u) (w := w) (N := N) (fun x a => h x (by omega))
    rw [tCn, tCn]
    by_cases q : A N = u
    · rw [if_pos q, if_pos (h N (by omega) q)]
      omega
    · rw [if_neg q]
      split <;> omega
theorem tCn_up {D : Nat → Nat} {y u : Nat} : ∀ {N : Nat}, y < N → D y ≠ u → tCn (va_up D y u) u N = tCn D u N + 1
  | 0, h, _ => absurd h (Nat.not_lt_zero _)
  | N + 1, h, hy => by
    rw [tCn, tCn]
    by_cases e : y = N
    · subst e
      rw [va_up_self, if_pos rfl, if_neg hy, tCn_congr (A := va_up D y u) (B := D) (w := u) (fun x a => by rw [va_up_ne _ _ (by omega)])]
    · rw [va_up_ne _ _ (by omega), tCn_up (by omega) hy]
      split <;> rfl
theorem tCn_0 {D : Nat → Nat} {u : Nat} : ∀ {N : Nat}, (∀ x, x < N → D x ≠ u) → tCn D u N = 0
  | 0, _ => rfl
  | N + 1, h => by
    rw [tCn, if_neg (h N (by omega))]
    exact tCn_0 fun x a => h x (by omega)
/-- which numbers stand among the first m of g -/
def iIn (g : Nat → Nat) : Nat → Nat → Nat
  | 0 => fun _ => 0
  | m + 1 => va_up (iIn g m) (g m) 1
theorem iIn_at {g : Nat → Nat} {x : Nat} : ∀ m, iIn g m x = 1 ↔ ∃ j, j < m ∧ g j = x
  | 0 => ⟨fun h => absurd h (by decide : ¬ (0 : Nat) = 1), fun ⟨j, h, _⟩ => absurd h (Nat.not_lt_zero _)⟩
  | m + 1 => by
    rw [iIn]
    by_cases e : x = g m
    · rw [e, va_up_self]
      exact ⟨fun _ => ⟨m, by omega, rfl⟩, fun _ => rfl⟩
    · rw [va_up_ne _ _ e, iIn_at m]
      constructor
      · rintro ⟨j, j1, j2⟩
        exact ⟨j, by omega, j2⟩
      · rintro ⟨j, j1, j2⟩
        have : j ≠ m := fun z => e (by rw [← j2, z])
        exact ⟨j, by omega, j2⟩
theorem iIn_Sc {f : Nat → Nat} : ∀ m, (∀ i j, i ≤ j → j < m → tTerm (f i) 1 ≤ tTerm (f j) 1) → (∀ j, j < m → tTerm (f j) 1 < 1000) → tCn (iIn (fun j => tTerm (f j) 1) m) 1 1000 = mSc f m
  | 0, _, _ => tCn_0 fun x _ => (by decide : ¬ (0 : Nat) = 1)
  | m + 1, hm, hb => by
    have ih := iIn_Sc m (fun i j a b => hm i j a (by omega)) (fun j a => hb j (by omega))
    by_cases q : m = 0 ∨ ¬ tTerm (f m) 1 = tTerm (f (m - 1)) 1
    · rw [mSc_y q, iIn, tCn_up (hb m (by omega)), ih]
      intro z
      obtain ⟨j, j1, j2⟩ := (iIn_at m).mp z
      rcases q with q | q
      · omega
      · have a1 := hm j (m - 1) (by omega) (by omega)
        have a2 := hm (m - 1) m (by omega) (by omega)
        try dsimp only at j2
        omega
    · rw [mSc_n q, Nat.add_zero, ← ih]
      have e : tTerm (f m) 1 = tTerm (f (m - 1)) 1 := Decidable.byContradiction fun z => q (Or.inr z)
      have h0 : m ≠ 0 := fun z => q (Or.inl z)
      refine tCn_congr fun x _ => ?_
      rw [iIn_at, iIn_at]
      constructor
      · rintro ⟨j, j1, j2⟩
        by_cases z : j = m
        · exact ⟨m - 1, by omega, by rw [← j2, z]; exact e.symm⟩
        · exact ⟨j, by omega, j2⟩
      · rintro ⟨j, j1, j2⟩
        exact ⟨j, by omega, j2⟩
theorem iSec {T V E X Y Z D G : Nat → Nat} {C : Nat → Bool} {n o x a : Nat} (hL : iLog T V E C n) (hT : iTr T X Y Z) (ho : o < 6) (hx : x < 1000001) (hG : ∀ j, G j < 1000000000) :
    tCn (tTa (cP V E X Y Z o (some a) none x) (fun i => tPick (taF (o * 3 + tFree (some a) none)) (X i) (Y i) (Z i)) 0 (tFl D 0 1000) n) 1 1000 = mSc (mRow T V C n o (some a) none x G n).2 (mRow T V C n o (some a) none x G n).1 := by
  obtain ⟨s1, s2⟩ := tRP_S (mFp T V C n o (some a) none x) (mFk T o) G n (iDis hT ho) n (Nat.le_refl _)
  have hbR : ∀ j, (mRow T V C n o (some a) none x G n).2 j < 1000000000 := fun j => mRow_b hT.b hG n j
  have hfirst : ∀ j, j < (mRow T V C n o (some a) none x G n).1 → tTerm ((mRow T V C n o (some a) none x G n).2 j) 0 = a := by
    intro j hj
    obtain ⟨i, i1, i2, i3⟩ := (s2 _).mp ⟨j, hj, rfl⟩
    have d : mFd T V C n o (some a) none x i := of_decide_eq_true i2
    have e : (mRow T V C n o (some a) none x G n).2 j = mKey o (T i) := i3.symm
    rw [e]
    rcases d.2.1.1 with q | q
    · cases q
    · exact (Option.some.inj q).symm
  rw [← iIn_Sc (f := (mRow T V C n o (some a) none x G n).2) _ (fun i j hij hj => ?_) (fun j _ => tTerm_lt (hbR j) 1)]
  · refine tCn_congr fun y hy => ?_
    rw [iIn_at]
    obtain ⟨t1, t2, t3⟩ := tTa_at (p := cP V E X Y Z o (some a) none x) (t := fun i => tPick (taF (o * 3 + tFree (some a) none)) (X i) (Y i) (Z i)) (T := tFl D 0 1000) (u := 0) (x := y) n
    have hz : tFl D 0 1000 y = 0 := tFl_at hy
    have hev : (∃ i, i < n ∧ cP V E X Y Z o (some a) none x i = true ∧ (fun i => tPick (taF (o * 3 + tFree (some a) none)) (X i) (Y i) (Z i)) i = y) ↔ ∃ j, j < (mRow T V C n o (some a) none x G n).1 ∧ tTerm ((mRow T V C n o (some a) none x G n).2 j) 1 = y := by
      constructor
      · rintro ⟨i, i1, i2, i3⟩
        rw [iFd hL hT i1 hx] at i2
        obtain ⟨j, j1, j2⟩ := (s2 (mFk T o i)).mpr ⟨i, i1, i2, rfl⟩
        refine ⟨j, j1, ?_⟩
        have e : (mRow T V C n o (some a) none x G n).2 j = mKey o (T i) := j2
        rw [e, mKey_term (hT.b i) (by decide), hT.term]
        exact i3
      · rintro ⟨j, j1, j2⟩
        obtain ⟨i, i1, i2, i3⟩ := (s2 _).mp ⟨j, j1, rfl⟩
        refine ⟨i, i1, by rw [iFd hL hT i1 hx]; exact i2, ?_⟩
        have e : (mRow T V C n o (some a) none x G n).2 j = mKey o (T i) := i3.symm
        rw [e, mKey_term (hT.b i) (by decide), hT.term] at j2
        exact j2
    constructor
    · intro h
      by_cases w : ∃ i, i < n ∧ cP V E X Y Z o (some a) none x i = true ∧ (fun i => tPick (taF (o * 3 + tFree (some a) none)) (X i) (Y i) (Z i)) i = y
      · exact hev.mp w
      · rw [t3 hz w] at h
        cases h
    · intro h
      exact t2 hz (hev.mpr h)
  · rcases Nat.lt_or_eq_of_le hij with q | q
    · have h1 := s1 i j q hj
      have h1 : (mRow T V C n o (some a) none x G n).2 i < (mRow T V C n o (some a) none x G n).2 j := h1
      have h2 := hfirst i (by omega)
      have h3 := hfirst j hj
      rw [tTerm_0] at h2 h3
      rw [tTerm_1, tTerm_1]
      omega
    · rw [q]
      exact Nat.le_refl _
/-! sums -/
theorem tSum_ins {z z' : Nat → Nat} {v k : Nat} : ∀ {q : Nat}, k ≤ q → (∀ j, j < k → z' j = z j) → z' k = v → (∀ j, k < j → j ≤ q → z' j = z (j - 1)) → tSum z' (q + 1) = tSum z q + v
  | 0, hk, h1, h2, h3 => by
    have e : k = 0 := by omega
    subst e
    rw [tSum, tSum, tSum, h2]
  | q + 1, hk, h1, h2, h3 => by
    by_cases e : k = q + 1
    · subst e
      rw [tSum, h2, tSum_congr h1]
    · rw [tSum, tSum_ins (z := z) (q := q) (by omega) h1 h2 (fun j a b => h3 j a (by omega)), h3 (q + 1) (by omega) (by omega), tSum, Nat.add_sub_cancel]
      omega
theorem tSum_del {z z' : Nat → Nat} {k : Nat} : ∀ {q : Nat}, k < q → (∀ j, j < k → z' j = z j) → (∀ j, k ≤ j → j + 1 < q → z' j = z (j + 1)) → tSum z' (q - 1) + z k = tSum z q
  | 0, hk, _, _ => absurd hk (Nat.not_lt_zero _)
  | q + 1, hk, h1, h2 => by
    by_cases e : k = q
    · subst e
      rw [tSum, Nat.add_sub_cancel, tSum_congr h1]
    · have ih := tSum_del (z := z) (z' := z') (k := k) (q := q) (by omega) h1 (fun j a b => h2 j a (by omega))
      obtain ⟨r, rfl⟩ : ∃ r, q = r + 1 := ⟨q - 1, by omega⟩
      have e2 := h2 r (by omega) (by omega)
      rw [Nat.add_sub_cancel] at ih ⊢
      rw [tSum, tSum, e2]
      omega
theorem tSum_put {f g : Nat → Nat} {n x : Nat} : tSum (fun j => g (tPut f n x j)) (n + 1) = tSum (fun j => g (f j)) n + g x := by
  have hk := tCnt_le f x n
  refine tSum_ins (k := tCnt f x n) hk (fun j hj => ?_) ?_ (fun j h1 h2 => ?_)
  · show g _ = g _
    rw [tPut_lo hj]
  · show g _ = g _
    rw [tPut_eq]
  · show g _ = g _
    rw [tPut_hi h1 h2]
theorem tSum_RP {p : Nat → Bool} {k f : Nat → Nat} (g : Nat → Nat) : ∀ n, tSum (fun j => g ((tRP p k f n).2 j)) (tRP p k f n).1 = tSm p (fun i => g (k i)) n
  | 0 => rfl
  | n + 1 => by
    cases q : p n with
    | true =>
      rw [tRP_yes q, tSm_yes q, ← tSum_RP g n]
      exact tSum_put
    | false => rw [tRP_no q, tSm_no q, ← tSum_RP g n]
theorem tSm_congr {p q : Nat → Bool} {t t' : Nat → Nat} : ∀ {n : Nat}, (∀ i, i < n → p i = q i) → (∀ i, i < n → t i = t' i) → tSm p t n = tSm q t' n
  | 0, _, _ => rfl
  | n + 1, h1, h2 => by rw [tSm, tSm, h1 n (by omega), h2 n (by omega), tSm_congr (fun i a => h1 i (by omega)) (fun i a => h2 i (by omega))]
theorem iSum {T V E X Y Z G : Nat → Nat} {C : Nat → Bool} {n o x : Nat} {a b : Option Nat} (hL : iLog T V E C n) (hT : iTr T X Y Z) (hx : x < 1000001) :
    tSm (cP V E X Y Z o a b x) (fun i => tPick (taF (o * 3 + 2)) (X i) (Y i) (Z i)) n = tSum (fun j => tTerm ((mRow T V C n o a b x G n).2 j) 2) (mRow T V C n o a b x G n).1 := by
  refine Eq.trans ?_ (tSum_RP (p := mFp T V C n o a b x) (k := mFk T o) (f := G) (fun y => tTerm y 2) n).symm
  refine tSm_congr (fun i hi => iFd hL hT hi hx) (fun i hi => ?_)
  show _ = tTerm (mKey o (T i)) 2
  rw [mKey_term (hT.b i) (by decide), hT.term]
/-! leaps -/
theorem iLeapT {T V E X Y Z D G Hd : Nat → Nat} {C : Nat → Bool} {n x my lc : Nat} {lo lo' : Nat → Nat} {lA lB lA' lB' : Nat → Option Nat} (hL : iLog T V E C n) (hT : iTr T X Y Z) (hx : x < 1000001)
    (hlo : ∀ k, k < lc → lo k < 6 ∧ lo' k = lo k ∧ lA' k = lA k ∧ lB' k = lB k) : ∀ l, l ≤ lc → ∀ y, y < 1000 → tLp (tPLs V E X Y Z x lo lA lB) (tTLs X Y Z lo lA lB) (tFl D 0 1000) n l y = mHd T V C n lo' lA' lB' x my G Hd l y
  | 0, _, y, hy => by
    show tFl D 0 1000 y = tFl Hd 0 1000 y
    rw [tFl_at hy, tFl_at hy]
  | l + 1, hl, y, hy => by
    have ih := iLeapT (D := D) (G := G) (Hd := Hd) (my := my) hL hT hx hlo l (by omega) y hy
    obtain ⟨g0, g1, g2, g3⟩ := hlo l (by omega)
    obtain ⟨t1, t2, t3⟩ := tTa_at (p := tPLs V E X Y Z x lo lA lB l) (t := tTLs X Y Z lo lA lB l) (T := tLp (tPLs V E X Y Z x lo lA lB) (tTLs X Y Z lo lA lB) (tFl D 0 1000) n l) (u := l) (x := y) n
    obtain ⟨s1, s2⟩ := tRP_S (mFp T V C n (lo l) (lA l) (lB l) x) (mFk T (lo l)) (mGl T V C n lo' lA' lB' x my G l).2 n (iDis hT g0) n (Nat.le_refl _)
    have em : mHd T V C n lo' lA' lB' x my G Hd (l + 1) = mHt (mRow T V C n (lo l) (lA l) (lB l) x (mGl T V C n lo' lA' lB' x my G l).2 n).2 (tFree (lA l) (lB l)) l (mHd T V C n lo' lA' lB' x my G Hd l) (mRow T V C n (lo l) (lA l) (lB l) x (mGl T V C n lo' lA' lB' x my G l).2 n).1 := by
      rw [mHd, mGl, g1, g2, g3]
    rw [em]
    show tTa (tPLs V E X Y Z x lo lA lB l) (tTLs X Y Z lo lA lB l) l (tLp (tPLs V E X Y Z x lo lA lB) (tTLs X Y Z lo lA lB) (tFl D 0 1000) n l) n y = _
    obtain ⟨u1, u2, u3⟩ := mHt_at (f := (mRow T V C n (lo l) (lA l) (lB l) x (mGl T V C n lo' lA' lB' x my G l).2 n).2) (T := mHd T V C n lo' lA' lB' x my G Hd l) (r := tFree (lA l) (lB l)) (u := l) (x := y) (mRow T V C n (lo l) (lA l) (lB l) x (mGl T V C n lo' lA' lB' x my G l).2 n).1
    have hev : (∃ i, i < n ∧ tPLs V E X Y Z x lo lA lB l i = true ∧ tTLs X Y Z lo lA lB l i = y) ↔ ∃ j, j < (mRow T V C n (lo l) (lA l) (lB l) x (mGl T V C n lo' lA' lB' x my G l).2 n).1 ∧ tTerm ((mRow T V C n (lo l) (lA l) (lB l) x (mGl T V C n lo' lA' lB' x my G l).2 n).2 j) (tFree (lA l) (lB l)) = y := by
      constructor
      · rintro ⟨i, i1, i2, i3⟩
        have i2 : cP V E X Y Z (lo l) (lA l) (lB l) x i = true := i2
        rw [iFd hL hT i1 hx] at i2
        obtain ⟨j, j1, j2⟩ := (s2 (mFk T (lo l) i)).mpr ⟨i, i1, i2, rfl⟩
        refine ⟨j, j1, ?_⟩
        have e : (mRow T V C n (lo l) (lA l) (lB l) x (mGl T V C n lo' lA' lB' x my G l).2 n).2 j = mKey (lo l) (T i) := j2
        rw [e, mKey_term (hT.b i) (tFree_lt _ _), hT.term]
        exact i3
      · rintro ⟨j, j1, j2⟩
        obtain ⟨i, i1, i2, i3⟩ := (s2 _).mp ⟨j, j1, rfl⟩
        refine ⟨i, i1, ?_, ?_⟩
        · show cP V E X Y Z (lo l) (lA l) (lB l) x i = true
          rw [iFd hL hT i1 hx]
          exact i2
        · have e : (mRow T V C n (lo l) (lA l) (lB l) x (mGl T V C n lo' lA' lB' x my G l).2 n).2 j = mKey (lo l) (T i) := i3.symm
          rw [e, mKey_term (hT.b i) (tFree_lt _ _), hT.term] at j2
          exact j2
    by_cases q : tLp (tPLs V E X Y Z x lo lA lB) (tTLs X Y Z lo lA lB) (tFl D 0 1000) n l y = l
    · by_cases w : ∃ i, i < n ∧ tPLs V E X Y Z x lo lA lB l i = true ∧ tTLs X Y Z lo lA lB l i = y
      · rw [t2 q w, u2 (ih ▸ q) (hev.mp w)]
      · rw [t3 q w, u3 (ih ▸ q) (fun z => w (hev.mpr z))]
    · rw [t1 q, u1 (ih ▸ q), ih]
theorem iFnd {A B f F : Nat → Nat} {u : Nat} : ∀ k, (∀ x, x < k → (A x = u ↔ B x = u)) → (tRP (tNP A u) tId f k).1 = (mFn B u F k).1 ∧ (∀ j, j < (tRP (tNP A u) tId f k).1 → (tRP (tNP A u) tId f k).2 j = (mFn B u F k).2 j ∧ (tRP (tNP A u) tId f k).2 j < k) ∧ (tRP (tNP A u) tId f k).1 = tCn A u k
  | 0, _ => ⟨rfl, fun j h => absurd h (Nat.not_lt_zero _), rfl⟩
  | k + 1, h => by
    obtain ⟨h1, h2, h3⟩ := iFnd (A := A) (B := B) (f := f) (F := F) (u := u) k (fun x a => h x (by omega))
    by_cases q : A k = u
    · rw [tRP_yes (p := tNP A u) (decide_eq_true q), mFn_y ((h k (by omega)).mp q), tCn_yes q]
      have hc : tCnt (tRP (tNP A u) tId f k).2 k (tRP (tNP A u) tId f k).1 = (tRP (tNP A u) tId f k).1 := tCnt_of (Nat.le_refl _) (fun j hj => (h2 j hj).2) (fun j a b => absurd b (by omega))
      refine ⟨by show (tRP (tNP A u) tId f k).1 + 1 = _; rw [h1], fun j hj => ?_, by show (tRP (tNP A u) tId f k).1 + 1 = _; rw [h3]⟩
      have hj : j < (tRP (tNP A u) tId f k).1 + 1 := hj
      show tPut _ _ k j = va_up _ _ _ j ∧ tPut _ _ k j < k + 1
      by_cases e : j = (tRP (tNP A u) tId f k).1
      · have e1 : tPut (tRP (tNP A u) tId f k).2 (tRP (tNP A u) tId f k).1 k j = k := by
          rw [e]
          have := tPut_eq (tRP (tNP A u) tId f k).2 (tRP (tNP A u) tId f k).1 k
          rw [hc] at this
          exact this
        rw [e1, ← h1, e, va_up_self]
        exact ⟨rfl, by omega⟩
      · rw [tPut_lo (by rw [hc]; omega), va_up_ne _ _ (by rw [← h1]; exact e)]
        have := h2 j (by omega)
        exact ⟨this.1, by omega⟩
    · rw [tRP_no (p := tNP A u) (decide_eq_false q), mFn_n (fun z => q ((h k (by omega)).mpr z)), tCn_no q]
      exact ⟨h1, fun j hj => ⟨(h2 j hj).1, by have := (h2 j hj).2; omega⟩, h3⟩
theorem iCap1 {p : Nat → Bool} {t T : Nat → Nat} (h : ∀ x, x < 1000 → T x = 0) : ∀ n, tCn (tTa p t 0 T n) 1 1000 ≤ n
  | 0 => Nat.le_of_eq (tCn_0 fun x hx => by show T x ≠ 1; rw [h x hx]; decide)
  | n + 1 => by
    have ih := iCap1 (p := p) (t := t) h n
    rw [tTa]
    split
    · rename_i c
      by_cases e : t n < 1000
      · show tCn (va_up (tTa p t 0 T n) (t n) 1) 1 1000 ≤ n + 1
        rw [tCn_up e (by rw [c.2]; decide)]
        omega
      · rw [tCn_congr (A := va_up (tTa p t 0 T n) (t n) (0 + 1)) (B := tTa p t 0 T n) (w := 1) (fun x hx => by rw [va_up_ne _ _ (by omega)])]
        omega
    · omega
theorem iCapL {P : Nat → Nat → Bool} {t : Nat → Nat → Nat} {T : Nat → Nat} {n x : Nat} (h : T x = 0) : ∀ l, tLp P t T n (l + 1) x ≠ 0 → tLp P t T n 1 x = 1
  | 0, hq => by
    obtain ⟨t1, t2, t3⟩ := tTa_at (p := P 0) (t := t 0) (T := T) (u := 0) (x := x) n
    by_cases w : ∃ i, i < n ∧ P 0 i = true ∧ t 0 i = x
    · exact t2 h w
    · exact absurd (t3 h w) hq
  | l + 1, hq => by
    obtain ⟨t1, t2, t3⟩ := tTa_at (p := P (l + 1)) (t := t (l + 1)) (T := tLp P t T n (l + 1)) (u := l + 1) (x := x) n
    refine iCapL h l fun z => hq ?_
    show tTa (P (l + 1)) (t (l + 1)) (l + 1) (tLp P t T n (l + 1)) n x = 0
    rw [t1 (by omega), z]
theorem iCap {P : Nat → Nat → Bool} {t : Nat → Nat → Nat} {D f : Nat → Nat} {n lc : Nat} (hl : 0 < lc) : (tRP (tNP (tLp P t (tFl D 0 1000) n lc) lc) tId f 1000).1 ≤ n := by
  rw [(iFnd (B := tLp P t (tFl D 0 1000) n lc) (F := f) 1000 (fun x _ => Iff.rfl)).2.2]
  refine Nat.le_trans (tCn_mono (B := tLp P t (tFl D 0 1000) n 1) (w := 1) fun x hx e => ?_) (iCap1 (p := P 0) (t := t 0) (T := tFl D 0 1000) (fun x hx => tFl_at hx) n)
  obtain ⟨l, rfl⟩ : ∃ l, lc = l + 1 := ⟨lc - 1, by omega⟩
  exact iCapL (tFl_at hx) l (by omega)
