/-! the six orders -/
theorem mI_lo {nt t : Nat} {K S P : Nat → Nat} {k y : Nat} (hy : y < 400 * k) : ∀ {m : Nat}, k ≤ m → (mI nt t K S P m).1 y = (mI nt t K S P k).1 y ∧ (mI nt t K S P m).2.1 y = (mI nt t K S P k).2.1 y
  | 0, h => by
    rw [show k = 0 by omega]
    exact ⟨rfl, rfl⟩
  | m + 1, h => by
    by_cases e : k = m + 1
    · subst e
      exact ⟨rfl, rfl⟩
    · obtain ⟨h1, h2⟩ := mI_lo (nt := nt) (t := t) (K := K) (S := S) (P := P) hy (m := m) (by omega)
      constructor
      · rw [← h1]
        show va_up _ _ _ y = _
        rw [va_up_ne _ _ (by omega), mSf, if_neg (by omega)]
      · rw [← h2]
        exact mZp_lo (by omega)
theorem mI_Plo {nt t : Nat} {K S P : Nat → Nat} {k j : Nat} (hj : j < k) : ∀ {m : Nat}, k ≤ m → (mI nt t K S P m).2.2 j = (mI nt t K S P k).2.2 j
  | 0, h => by rw [show k = 0 by omega]
  | m + 1, h => by
    by_cases e : k = m + 1
    · subst e
      rfl
    · rw [← mI_Plo (nt := nt) (t := t) (K := K) (S := S) (P := P) hj (m := m) (by omega)]
      show va_up _ _ _ j = _
      rw [va_up_ne _ _ (by omega)]
theorem mI_seg {nt t : Nat} {K S P : Nat → Nat} (hnt : nt < 400) (hp : ∀ k, k < 6 → 0 < P k ∧ P k < 400) {k : Nat} (hk : k < 6) :
    (∀ j, j < 400 → (mI nt t K S P 6).1 (400 * k + j) = tPut (fun j => K (400 * k + j)) nt (mKey k t) j) ∧ (∀ j, j < 400 → (mI nt t K S P 6).2.1 (400 * k + j) = sZp (fun j => S (400 * k + j)) (P k) (sPA (fun j => K (400 * k + j)) (fun j => S (400 * k + j)) (mKey k t) (P k)) j) ∧
      (mI nt t K S P 6).2.2 k = mQp S (400 * k) (P k) (sPA (fun j => K (400 * k + j)) (fun j => S (400 * k + j)) (mKey k t) (P k)) := by
  have eK : (fun j => (mI nt t K S P k).1 (400 * k + j)) = fun j => K (400 * k + j) := seg_eq fun y hy => mI_K hnt hy
  have eS : (fun j => (mI nt t K S P k).2.1 (400 * k + j)) = fun j => S (400 * k + j) := seg_eq fun y hy => mI_S hp (by omega) hy
  have eA : mPA (mI nt t K S P k).1 (mI nt t K S P k).2.1 (400 * k) (mKey k t) (P k) = sPA (fun j => K (400 * k + j)) (fun j => S (400 * k + j)) (mKey k t) (P k) := by
    rw [seg_PA, eK, eS]
  refine ⟨fun j hj => ?_, fun j hj => ?_, ?_⟩
  · rw [(mI_lo (k := k + 1) (by omega) (by omega)).1]
    have e1 := congrFun (seg_up (S := mSf (mI nt t K S P k).1 (400 * k) nt (tCnt (fun j => (mI nt t K S P k).1 (400 * k + j)) (mKey k t) nt)) (b := 400 * k) (g := tCnt (fun j => (mI nt t K S P k).1 (400 * k + j)) (mKey k t) nt) (v := mKey k t)) j
    refine Eq.trans e1 ?_
    rw [seg_Sf, eK, mS0_put]
  · rw [(mI_lo (k := k + 1) (by omega) (by omega)).2]
    have e1 := congrFun (seg_Zp (S := (mI nt t K S P k).2.1) (b := 400 * k) (q := P k) (g := mPA (mI nt t K S P k).1 (mI nt t K S P k).2.1 (400 * k) (mKey k t) (P k))) j
    refine Eq.trans e1 ?_
    rw [eS, eA]
  · rw [mI_Plo (k := k + 1) (by omega) (by omega)]
    show va_up _ k _ k = _
    rw [va_up_self, eA]
    unfold mQp
    rw [mI_S hp (by omega) (by omega)]
theorem mI0_lo {t : Nat} {K S P : Nat → Nat} {k y j : Nat} (hy : y < 400 * k) (hj : j < k) : ∀ {m : Nat}, k ≤ m → (mI0 t K S P m).1 y = (mI0 t K S P k).1 y ∧ (mI0 t K S P m).2.1 y = (mI0 t K S P k).2.1 y ∧ (mI0 t K S P m).2.2 j = (mI0 t K S P k).2.2 j
  | 0, h => by
    rw [show k = 0 by omega]
    exact ⟨rfl, rfl, rfl⟩
  | m + 1, h => by
    by_cases e : k = m + 1
    · subst e
      exact ⟨rfl, rfl, rfl⟩
    · obtain ⟨h1, h2, h3⟩ := mI0_lo (t := t) (K := K) (S := S) (P := P) hy hj (m := m) (by omega)
      refine ⟨?_, ?_, ?_⟩
      · rw [← h1]
        show va_up _ _ _ y = _
        rw [va_up_ne _ _ (by omega)]
      · rw [← h2]
        show va_up _ _ _ y = _
        rw [va_up_ne _ _ (by omega), va_up_ne _ _ (by omega)]
      · rw [← h3]
        show va_up _ _ _ j = _
        rw [va_up_ne _ _ (by omega)]
theorem mI0_seg {t : Nat} {K S P : Nat → Nat} {k : Nat} (hk : k < 6) : (mI0 t K S P 6).1 (400 * k + 0) = mKey k t ∧ (mI0 t K S P 6).2.1 (400 * k + 0) = 1 ∧ (mI0 t K S P 6).2.2 k = 1 := by
  obtain ⟨h1, h2, h3⟩ := mI0_lo (t := t) (K := K) (S := S) (P := P) (k := k + 1) (y := 400 * k + 0) (j := k) (by omega) (by omega) (m := 6) (by omega)
  rw [h1, h2, h3]
  exact ⟨va_up_self _ _ _, va_up_self _ _ _, va_up_self _ _ _⟩
theorem mI0_b {t : Nat} {K S P : Nat → Nat} (ht : t < 1000000000) (h1 : ∀ j, K j < 2 ^ 31) (h2 : ∀ j, S j ≤ 16) (h3 : ∀ j, P j ≤ 400) : ∀ k, (∀ j, (mI0 t K S P k).1 j < 2 ^ 31) ∧ (∀ j, (mI0 t K S P k).2.1 j ≤ 16) ∧ ∀ j, (mI0 t K S P k).2.2 j ≤ 400
  | 0 => ⟨h1, h2, h3⟩
  | k + 1 => by
    obtain ⟨a, b, d⟩ := mI0_b ht h1 h2 h3 k
    exact ⟨tUp_lt a (Nat.lt_trans (mKey_lt k ht) (by decide)), tUp_le (tUp_le b (by decide)) (by decide), tUp_le d (by decide)⟩
theorem mZt_lo {S : Nat → Nat} {b q g y : Nat} (h : y < b) : mZt S b q g y = S y := by
  have hs : ∀ {Z : Nat → Nat} {a k : Nat}, mSb Z b a k y = Z y := fun {Z a k} => by
    unfold mSb
    rw [if_neg (by omega)]
  unfold mZt
  split
  · rw [hs, va_up_ne _ _ (by omega)]
  · split
    · rw [hs, va_up_ne _ _ (by omega), va_up_ne _ _ (by omega)]
    · split
      · rename_i c
        rw [hs, va_up_ne _ _ (by omega), va_up_ne _ _ (by omega)]
      · rw [va_up_ne _ _ (by omega)]
theorem mJ_lo {nt t : Nat} {K S P : Nat → Nat} {k y : Nat} (hy : y < 400 * k) : ∀ {m : Nat}, k ≤ m → (mJ nt t K S P m).1 y = (mJ nt t K S P k).1 y ∧ (mJ nt t K S P m).2.1 y = (mJ nt t K S P k).2.1 y
  | 0, h => by
    rw [show k = 0 by omega]
    exact ⟨rfl, rfl⟩
  | m + 1, h => by
    by_cases e : k = m + 1
    · subst e
      exact ⟨rfl, rfl⟩
    · obtain ⟨h1, h2⟩ := mJ_lo (nt := nt) (t := t) (K := K) (S := S) (P := P) hy (m := m) (by omega)
      constructor
      · rw [← h1]
        show mSb _ _ _ _ y = _
        rw [mSb, if_neg (by omega)]
      · rw [← h2]
        exact mZt_lo (by omega)
theorem mJ_Plo {nt t : Nat} {K S P : Nat → Nat} {k j : Nat} (hj : j < k) : ∀ {m : Nat}, k ≤ m → (mJ nt t K S P m).2.2 j = (mJ nt t K S P k).2.2 j
  | 0, h => by rw [show k = 0 by omega]
  | m + 1, h => by
    by_cases e : k = m + 1
    · subst e
      rfl
    · rw [← mJ_Plo (nt := nt) (t := t) (K := K) (S := S) (P := P) hj (m := m) (by omega)]
      show va_up _ _ _ j = _
      rw [va_up_ne _ _ (by omega)]
theorem mJ_seg {nt t : Nat} {K S P : Nat → Nat} (hnt : nt ≤ 400) (hp : ∀ k, k < 6 → 0 < P k ∧ P k ≤ 400) {k : Nat} (hk : k < 6) :
    (∀ j, j < 400 → (mJ nt t K S P 6).1 (400 * k + j) = mSb (fun j => K (400 * k + j)) 0 (tCnt (fun j => K (400 * k + j)) (mKey k t) nt) (nt - 1) j) ∧ (∀ j, j < 400 → (mJ nt t K S P 6).2.1 (400 * k + j) = sZt (fun j => S (400 * k + j)) (P k) (tPg (fun j => S (400 * k + j)) (tCnt (fun j => K (400 * k + j)) (mKey k t) nt + 1) (P k) 0) j) ∧
      (mJ nt t K S P 6).2.2 k = sQt (fun j => S (400 * k + j)) (P k) (tPg (fun j => S (400 * k + j)) (tCnt (fun j => K (400 * k + j)) (mKey k t) nt + 1) (P k) 0) := by
  have eK : (fun j => (mJ nt t K S P k).1 (400 * k + j)) = fun j => K (400 * k + j) := seg_eq fun y hy => mJ_K hnt hy
  have eS : (fun j => (mJ nt t K S P k).2.1 (400 * k + j)) = fun j => S (400 * k + j) := seg_eq fun y hy => mJ_S2 hp (by omega) hy
  refine ⟨fun j hj => ?_, fun j hj => ?_, ?_⟩
  · rw [(mJ_lo (k := k + 1) (by omega) (by omega)).1]
    have e1 := congrFun (seg_Sb (S := (mJ nt t K S P k).1) (b := 400 * k) (a := tCnt (fun j => K (400 * k + j)) (mKey k t) nt) (q := nt - 1)) j
    refine Eq.trans e1 ?_
    rw [eK]
  · rw [(mJ_lo (k := k + 1) (by omega) (by omega)).2]
    have e1 := congrFun (seg_Zt (S := (mJ nt t K S P k).2.1) (b := 400 * k) (q := P k) (g := tPg (fun j => (mJ nt t K S P k).2.1 (400 * k + j)) (tCnt (fun j => K (400 * k + j)) (mKey k t) nt + 1) (P k) 0)) j
    refine Eq.trans e1 ?_
    rw [eS]
  · rw [mJ_Plo (k := k + 1) (by omega) (by omega)]
    show va_up _ k _ k = _
    rw [va_up_self, seg_Qt, eS]
theorem iPg_congr {nt q : Nat} {f z k s k' s' : Nat → Nat} (h : iPg nt f z q k s) (hk : ∀ j, j < nt → k' j = k j) (hs : ∀ j, j < q → s' j = s j) : iPg nt f z q k' s' :=
  ⟨h.1, fun j hj => (hk j hj).trans (h.2.1 j hj), h.2.2.1, h.2.2.2.1, fun j hj => (hs j hj).trans (h.2.2.2.2.1 j hj), h.2.2.2.2.2⟩
/-- all pages -/
def iPs (nt : Nat) (F : Nat → Nat → Nat) (Q : Nat → Nat) (Zf : Nat → Nat → Nat) (K S P : Nat → Nat) : Prop :=
  (∀ i, i < 6 → iPg nt (F i) (Zf i) (Q i) (fun j => K (400 * i + j)) (fun j => S (400 * i + j)) ∧ P i = Q i) ∧ (∀ i j, F i j < 2 ^ 31) ∧ (∀ i j, Zf i j ≤ 16) ∧ (∀ j, K j < 2 ^ 31) ∧ (∀ j, S j ≤ 16) ∧ (∀ j, P j ≤ 400)
theorem iPs_add {nt a b d : Nat} {F Zf : Nat → Nat → Nat} {Q K S P : Nat → Nat} (h : iPs nt F Q Zf K S P) (h0 : 0 < nt) (hnt : nt < 400) (ha : a < 1000) (hb : b < 1000) (hd : d < 1000) (hne : ∀ i, i < 6 → ∀ j, j < nt → F i j ≠ tKeyOf i a b d) :
    iPs (nt + 1) (fun i => tPut (F i) nt (tKeyOf i a b d)) (fun i => tQ1 (F i) (Zf i) nt (Q i) (tKeyOf i a b d)) (fun i => tZ1 (F i) (Zf i) nt (Q i) (tKeyOf i a b d)) (mI nt (a * 1000000 + b * 1000 + d) K S P 6).1 (mI nt (a * 1000000 + b * 1000 + d) K S P 6).2.1 (mI nt (a * 1000000 + b * 1000 + d) K S P 6).2.2 := by
  obtain ⟨h1, h2, h3, h4, h5, h6⟩ := h
  have ht : a * 1000000 + b * 1000 + d < 1000000000 := by omega
  have hp : ∀ k, k < 6 → 0 < P k ∧ P k < 400 := fun k hk => by
    obtain ⟨g1, g2⟩ := h1 k hk
    have := g1.q
    have := g1.q0 h0
    omega
  have key : ∀ i, i < 6 → iPg (nt + 1) (tPut (F i) nt (tKeyOf i a b d)) (tZ1 (F i) (Zf i) nt (Q i) (tKeyOf i a b d)) (tQ1 (F i) (Zf i) nt (Q i) (tKeyOf i a b d)) (fun j => (mI nt (a * 1000000 + b * 1000 + d) K S P 6).1 (400 * i + j)) (fun j => (mI nt (a * 1000000 + b * 1000 + d) K S P 6).2.1 (400 * i + j)) ∧ (mI nt (a * 1000000 + b * 1000 + d) K S P 6).2.2 i = tQ1 (F i) (Zf i) nt (Q i) (tKeyOf i a b d) := by
    intro i hi
    obtain ⟨g1, g2⟩ := h1 i hi
    obtain ⟨s1, s2, s3⟩ := mI_seg (t := a * 1000000 + b * 1000 + d) (K := K) (S := S) hnt hp hi
    rw [mKey_eq hb hd, g2] at s2 s3
    rw [mKey_eq hb hd] at s1
    have p1 := iPg_put g1 h0 (hne i hi)
    have p2 := p1.q
    refine ⟨iPg_congr p1 (fun j hj => s1 j (by omega)) (fun j hj => s2 j (by omega)), ?_⟩
    rw [s3, iPA_eq g1 h0 (hne i hi)]
    have hg := tPg_lt (z := Zf i) (pl := tCnt (F i) (tKeyOf i a b d) nt) (g1.q0 h0)
    unfold mQp tQ1 tQput
    rw [show S (400 * i + tPg (Zf i) (tCnt (F i) (tKeyOf i a b d) nt) (Q i) 0) = Zf i (tPg (Zf i) (tCnt (F i) (tKeyOf i a b d) nt) (Q i) 0) from g1.2.2.2.2.1 _ hg]
  refine ⟨key, fun i => tPut_b (h2 i) (tKeyOf_lt i ha hb hd), fun i => tZput_le (h3 i), mI_Kb ht h4 6, mI_Sb h5 6, fun j => ?_⟩
  by_cases e : j < 6
  · rw [(key j e).2]
    have := (key j e).1.q
    omega
  · rw [mI_P (by omega)]
    exact h6 j
theorem iPs_first {a b d : Nat} {F Zf : Nat → Nat → Nat} {Q K S P : Nat → Nat} (h : iPs 0 F Q Zf K S P) (ha : a < 1000) (hb : b < 1000) (hd : d < 1000) :
    iPs 1 (fun i => tPut (F i) 0 (tKeyOf i a b d)) (fun i => tQ1 (F i) (tOpen (Zf i) 0 0 0) 0 (0 + 1) (tKeyOf i a b d)) (fun i => tZ1 (F i) (tOpen (Zf i) 0 0 0) 0 (0 + 1) (tKeyOf i a b d)) (mI0 (a * 1000000 + b * 1000 + d) K S P 6).1 (mI0 (a * 1000000 + b * 1000 + d) K S P 6).2.1 (mI0 (a * 1000000 + b * 1000 + d) K S P 6).2.2 := by
  obtain ⟨h1, h2, h3, h4, h5, h6⟩ := h
  have ht : a * 1000000 + b * 1000 + d < 1000000000 := by omega
  obtain ⟨b1, b2, b3⟩ := mI0_b (t := a * 1000000 + b * 1000 + d) ht h4 h5 h6 6
  refine ⟨fun i hi => ?_, fun i => tPut_b (h2 i) (tKeyOf_lt i ha hb hd), fun i => tZput_le (tOpen_le (h3 i) (by decide)), b1, b2, b3⟩
  obtain ⟨s1, s2, s3⟩ := mI0_seg (t := a * 1000000 + b * 1000 + d) (K := K) (S := S) (P := P) hi
  rw [mKey_eq hb hd] at s1
  obtain ⟨p1, p2⟩ := iPg_first (x := tKeyOf i a b d) (f := F i) (z := Zf i) (k := fun j => (mI0 (a * 1000000 + b * 1000 + d) K S P 6).1 (400 * i + j)) (s := fun j => (mI0 (a * 1000000 + b * 1000 + d) K S P 6).2.1 (400 * i + j)) (h3 i) s1 s2
  show iPg 1 _ _ (tQ1 (F i) (tOpen (Zf i) 0 0 0) 0 (0 + 1) (tKeyOf i a b d)) _ _ ∧ _ = tQ1 (F i) (tOpen (Zf i) 0 0 0) 0 (0 + 1) (tKeyOf i a b d)
  rw [p1]
  exact ⟨p2, s3⟩
theorem iPs_take {nt a b d : Nat} {F Zf : Nat → Nat → Nat} {Q K S P : Nat → Nat} (h : iPs nt F Q Zf K S P) (hnt : nt ≤ 400) (hb : b < 1000) (hd : d < 1000) (has : ∀ i, i < 6 → tHas (F i) nt (tKeyOf i a b d)) :
    iPs (nt - 1) (fun i => tTake (F i) nt (tCnt (F i) (tKeyOf i a b d) nt)) (fun i => tQ2 (F i) (Zf i) nt (Q i) (tKeyOf i a b d)) (fun i => tZ2 (F i) (Zf i) nt (Q i) (tKeyOf i a b d)) (mJ nt (a * 1000000 + b * 1000 + d) K S P 6).1 (mJ nt (a * 1000000 + b * 1000 + d) K S P 6).2.1 (mJ nt (a * 1000000 + b * 1000 + d) K S P 6).2.2 := by
  obtain ⟨h1, h2, h3, h4, h5, h6⟩ := h
  have h0 : 0 < nt := by have := (has 0 (by decide)).1; omega
  have hp : ∀ k, k < 6 → 0 < P k ∧ P k ≤ 400 := fun k hk => by
    obtain ⟨g1, g2⟩ := h1 k hk
    have := g1.q
    have := g1.q0 h0
    omega
  have hz : ∀ i j, tZ2 (F i) (Zf i) nt (Q i) (tKeyOf i a b d) j ≤ 16 := fun i => by
    have hb1 : ∀ g j, va_up (Zf i) g (Zf i g - 1) j ≤ 16 := fun g => tUp_le (h3 i) (by have := h3 i g; omega)
    unfold tZ2 tZtake
    split
    · exact tDrop_le (hb1 _)
    · split
      · rename_i c
        exact tDrop_le (tUp_le (hb1 _) (by have := c.2; omega))
      · split
        · rename_i c
          exact tDrop_le (tUp_le (hb1 _) (by have := c.2.2; omega))
        · exact hb1 _
  refine ⟨fun i hi => ?_, fun i => tCpy_lt (h2 i), hz, mJ_Kb h4 6, mJ_Sb h5 6, mJ_Pb h6 6⟩
  obtain ⟨g1, g2⟩ := h1 i hi
  obtain ⟨s1, s2, s3⟩ := mJ_seg (t := a * 1000000 + b * 1000 + d) (K := K) (S := S) hnt hp hi
  rw [mKey_eq hb hd, g2] at s2 s3
  rw [mKey_eq hb hd] at s1
  obtain ⟨p0, p1⟩ := iPg_take g1 (has i hi)
  have p2 := p1.q
  exact ⟨iPg_congr p1 (fun j (hj : j < nt - 1) => s1 j (by omega)) (fun j (hj : j < tQ2 (F i) (Zf i) nt (Q i) (tKeyOf i a b d)) => s2 j (by omega)), s3.trans p0⟩
/-- which triples are there -/
def iMem (nt : Nat) (F : Nat → Nat → Nat) (T : Nat → Nat) (C : Nat → Bool) (n : Nat) : Prop := ∀ i, i < 6 → ∀ a b d, a < 1000 → b < 1000 → d < 1000 → (tHas (F i) nt (tKeyOf i a b d) ↔ mTh T C (a * 1000000 + b * 1000 + d) n = true)
theorem mTh_congr {T T' : Nat → Nat} {C C' : Nat → Bool} {t : Nat} : ∀ {n : Nat}, (∀ i, i < n → T i = T' i) → (∀ i, i < n → C i = C' i) → mTh T C t n = mTh T' C' t n
  | 0, _, _ => rfl
  | n + 1, h1, h2 => by rw [mTh, mTh, h1 n (by omega), h2 n (by omega), mTh_congr (fun i a => h1 i (by omega)) (fun i a => h2 i (by omega))]
theorem mTh_up {T : Nat → Nat} {C : Nat → Bool} {t t' n : Nat} {c : Bool} : mTh (va_up T n t) (va_up C n c) t' (n + 1) = if t = t' then c else mTh T C t' n := by
  rw [mTh, va_up_self, va_up_self, mTh_congr (T' := T) (C' := C) (fun i hi => va_up_ne _ _ (by omega)) (fun i hi => va_up_ne _ _ (by omega))]
theorem tKeyOf_inj {i a b d a' b' d' : Nat} (hi : i < 6) (ha : a < 1000) (hb : b < 1000) (hd : d < 1000) (ha' : a' < 1000) (hb' : b' < 1000) (hd' : d' < 1000) : tKeyOf i a b d = tKeyOf i a' b' d' ↔ a * 1000000 + b * 1000 + d = a' * 1000000 + b' * 1000 + d' := by
  rw [← mKey_eq hb hd, ← mKey_eq hb' hd']
  exact ⟨fun h => mKey_inj hi h (by omega) (by omega), fun h => by rw [h]⟩
theorem iMem_add {nt a b d n : Nat} {F : Nat → Nat → Nat} {T : Nat → Nat} {C : Nat → Bool} (h : iMem nt F T C n) (hs : ∀ i, i < 6 → tS (F i) nt) (ha : a < 1000) (hb : b < 1000) (hd : d < 1000) (hne : ∀ i, i < 6 → ∀ j, j < nt → F i j ≠ tKeyOf i a b d) :
    iMem (nt + 1) (fun i => tPut (F i) nt (tKeyOf i a b d)) (va_up T n (a * 1000000 + b * 1000 + d)) (va_up C n true) (n + 1) := by
  intro i hi a' b' d' ha' hb' hd'
  rw [mTh_up, tHas_iff (tPut_S (hs i hi) (hne i hi)), tPut_mem, tKeyOf_inj hi ha' hb' hd' ha hb hd, ← tHas_iff (hs i hi), h i hi a' b' d' ha' hb' hd']
  by_cases e : a * 1000000 + b * 1000 + d = a' * 1000000 + b' * 1000 + d'
  · rw [if_pos e]
    exact ⟨fun _ => rfl, fun _ => Or.inl e.symm⟩
  · rw [if_neg e]
    exact ⟨fun q => q.elim (fun z => absurd z.symm e) id, Or.inr⟩
theorem iMem_take {nt a b d n : Nat} {F : Nat → Nat → Nat} {T : Nat → Nat} {C : Nat → Bool} (h : iMem nt F T C n) (hs : ∀ i, i < 6 → tS (F i) nt) (ha : a < 1000) (hb : b < 1000) (hd : d < 1000) (has : ∀ i, i < 6 → tHas (F i) nt (tKeyOf i a b d)) :
    iMem (nt - 1) (fun i => tTake (F i) nt (tCnt (F i) (tKeyOf i a b d) nt)) (va_up T n (a * 1000000 + b * 1000 + d)) (va_up C n false) (n + 1) := by
  intro i hi a' b' d' ha' hb' hd'
  have hx := has i hi
  have he := tKeyOf_inj hi ha' hb' hd' ha hb hd
  rw [mTh_up, tHas_iff (tTake_S (hs i hi) hx.1), tTake_mem (hs i hi) hx.1, hx.2, ← tHas_iff (hs i hi), h i hi a' b' d' ha' hb' hd']
  by_cases e : a * 1000000 + b * 1000 + d = a' * 1000000 + b' * 1000 + d'
  · rw [if_pos e]
    exact ⟨fun q => absurd (he.mpr e.symm) q.1, fun q => by cases q⟩
  · rw [if_neg e]
    exact ⟨fun q => q.2, fun q => ⟨fun z => e (he.mp z).symm, q⟩⟩
theorem iMem_ne {nt a b d n : Nat} {F : Nat → Nat → Nat} {T : Nat → Nat} {C : Nat → Bool} (h : iMem nt F T C n) (hs : ∀ i, i < 6 → tS (F i) nt) (ha : a < 1000) (hb : b < 1000) (hd : d < 1000) (hth : mTh T C (a * 1000000 + b * 1000 + d) n = false) : ∀ i, i < 6 → ∀ j, j < nt → F i j ≠ tKeyOf i a b d := by
  intro i hi j hj e
  have := (h i hi a b d ha hb hd).mp ((tHas_iff (hs i hi)).mpr ⟨j, hj, e⟩)
  rw [hth] at this
  cases this
theorem tMk_seg {K : Nat → Nat} {b s : Nat} : ∀ c, tMk K (b + s) c = tMk (fun j => K (b + j)) s c
  | 0 => rfl
  | c + 1 => by
    show tMix (tMix (tMix (tMk K (b + s) c) (tTerm (K (b + s + c)) 0)) (tTerm (K (b + s + c)) 1)) (tTerm (K (b + s + c)) 2) = tMix (tMix (tMix (tMk (fun j => K (b + j)) s c) (tTerm (K (b + (s + c))) 0)) (tTerm (K (b + (s + c))) 1)) (tTerm (K (b + (s + c))) 2)
    rw [tMk_seg c, Nat.add_assoc]
theorem tMk_congr {f g : Nat → Nat} {s : Nat} : ∀ {c : Nat}, (∀ j, j < c → f (s + j) = g (s + j)) → tMk f s c = tMk g s c
  | 0, _ => rfl
  | c + 1, h => by rw [tMk, tMk, tMk_congr (fun j a => h j (by omega)), h c (by omega)]
