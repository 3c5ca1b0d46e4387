/-! rows that are put in and taken out -/
theorem tHas_iff {f : Nat → Nat} {n x : Nat} (hs : tS f n) : tHas f n x ↔ ∃ j, j < n ∧ f j = x := by
  constructor
  · rintro ⟨h1, h2⟩
    exact ⟨_, h1, h2⟩
  · rintro ⟨j, h1, h2⟩
    have e : tCnt f x n = j := tCnt_of (Nat.le_of_lt h1) (fun i hi => by rw [← h2]; exact hs i j hi h1) (fun i a b => by rw [← h2]; exact tS_le hs a b)
    show tCnt f x n < n ∧ f (tCnt f x n) = x
    rw [e]
    exact ⟨h1, h2⟩
theorem tTake_lo {f : Nat → Nat} {n i j : Nat} (h : j < i) : tTake f n i j = f j := by
  unfold tTake va_cpy
  rw [if_neg (by omega)]
theorem tTake_hi {f : Nat → Nat} {n i j : Nat} (h : i ≤ j) (hj : j + 1 < n) : tTake f n i j = f (j + 1) := by
  unfold tTake va_cpy
  rw [if_pos (by omega)]
  congr 1
  omega
theorem tTake_S {f : Nat → Nat} {n i : Nat} (hs : tS f n) (hi : i < n) : tS (tTake f n i) (n - 1) := by
  intro a b hab hb
  by_cases h1 : a < i
  · rw [tTake_lo h1]
    by_cases h2 : b < i
    · rw [tTake_lo h2]
      exact hs a b hab (by omega)
    · rw [tTake_hi (by omega) (by omega)]
      exact hs a (b + 1) (by omega) (by omega)
  · rw [tTake_hi (by omega) (by omega), tTake_hi (by omega) (by omega)]
    exact hs (a + 1) (b + 1) (by omega) (by omega)
theorem tTake_mem {f : Nat → Nat} {n i y : Nat} (hs : tS f n) (hi : i < n) : (∃ j, j < n - 1 ∧ tTake f n i j = y) ↔ y ≠ f i ∧ ∃ j, j < n ∧ f j = y := by
  constructor
  · rintro ⟨j, h1, h2⟩
    by_cases q : j < i
    · rw [tTake_lo q] at h2
      have := hs j i q hi
      exact ⟨by omega, j, by omega, h2⟩
    · rw [tTake_hi (by omega) (by omega)] at h2
      have := hs i (j + 1) (by omega) (by omega)
      exact ⟨by omega, j + 1, by omega, h2⟩
  · rintro ⟨h0, j, h1, h2⟩
    by_cases q : j < i
    · exact ⟨j, by omega, by rw [tTake_lo q]; exact h2⟩
    · have : j ≠ i := fun z => h0 (by rw [← h2, z])
      refine ⟨j - 1, by omega, ?_⟩
      rw [tTake_hi (by omega) (by omega), show j - 1 + 1 = j by omega]
      exact h2
theorem tSum_ge {z : Nat → Nat} : ∀ {q : Nat}, (∀ j, j < q → 0 < z j) → q ≤ tSum z q
  | 0, _ => Nat.le_refl _
  | q + 1, h => by
    have := tSum_ge (z := z) (q := q) (fun j a => h j (by omega))
    have := h q (by omega)
    rw [tSum]
    omega
/-! pages: a page has one more -/
theorem tZput_y {z : Nat → Nat} {q g : Nat} (h : z g + 1 ≤ 16) : tZput z q g = va_up z g (z g + 1) := by rw [tZput, if_pos h]
theorem tZput_at {z : Nat → Nat} {q g j : Nat} (h : ¬ z g + 1 ≤ 16) (hg : g < q) (hj : j < q + 1) : tZput z q g j = if j = g then 9 else if j = g + 1 then z g + 1 - 9 else if j ≤ g then z j else z (j - 1) := by
  rw [tZput, if_neg h]
  by_cases e : j = g
  · rw [e, va_up_self, if_pos rfl]
  · rw [va_up_ne _ _ e, if_neg e]
    unfold tOpen
    by_cases e1 : j = g + 1
    · rw [e1, va_up_self, if_pos rfl]
    · rw [va_up_ne _ _ e1, if_neg e1]
      unfold va_cpy
      by_cases e2 : j ≤ g
      · rw [if_neg (by omega), if_pos e2, va_up_ne _ _ e]
      · rw [if_pos (by omega), if_neg e2, va_up_ne _ _ (by omega)]
        congr 1
        omega
theorem tZput_le {z : Nat → Nat} {q g : Nat} (h : ∀ j, z j ≤ 16) : ∀ j, tZput z q g j ≤ 16 := by
  intro j
  by_cases c : z g + 1 ≤ 16
  · rw [tZput_y c]
    exact tUp_le h c j
  · rw [tZput, if_neg c]
    have h9 := h g
    by_cases e : j = g
    · rw [e, va_up_self]
      decide
    · rw [va_up_ne _ _ e]
      unfold tOpen
      by_cases e1 : j = g + 1
      · rw [e1, va_up_self]
        omega
      · rw [va_up_ne _ _ e1]
        unfold va_cpy
        split
        · rw [va_up_ne _ _ (by omega)]
          exact h _
        · rw [va_up_ne _ _ e]
          exact h _
theorem tZput_sum {z : Nat → Nat} {q g : Nat} (hg : g < q) (h16 : ∀ j, z j ≤ 16) : tSum (tZput z q g) (tQput z q g) = tSum z q + 1 := by
  unfold tQput
  by_cases c : z g + 1 ≤ 16
  · rw [if_pos c, tZput_y c]
    have := tSum_one (f := va_up z g (z g + 1)) (g := z) (i := g) (fun j hj => va_up_ne _ _ hj) hg
    rw [va_up_self] at this
    omega
  · rw [if_neg c]
    have h9 := h16 g
    have e1 := tSum_ins (z := va_up z g 9) (z' := tZput z q g) (v := z g + 1 - 9) (k := g + 1) (q := q) (by omega) (fun j hj => ?_) ?_ (fun j a b => ?_)
    · have e2 := tSum_one (f := va_up z g 9) (g := z) (i := g) (fun j hj => va_up_ne _ _ hj) hg
      rw [va_up_self] at e2
      omega
    · rw [tZput_at c hg (by omega)]
      by_cases e : j = g
      · rw [if_pos e, e, va_up_self]
      · rw [if_neg e, if_neg (by omega), if_pos (by omega), va_up_ne _ _ e]
    · rw [tZput_at c hg (by omega), if_neg (by omega), if_pos rfl]
    · rw [tZput_at c hg (by omega), if_neg (by omega), if_neg (by omega), if_neg (by omega), va_up_ne _ _ (by omega)]
theorem tZput_pos {z : Nat → Nat} {q g : Nat} (hg : g < q) (h16 : ∀ j, z j ≤ 16) (hp : ∀ j, j < q → 0 < z j) : ∀ j, j < tQput z q g → 0 < tZput z q g j := by
  intro j hj
  unfold tQput at hj
  by_cases c : z g + 1 ≤ 16
  · rw [if_pos c] at hj
    rw [tZput_y c]
    by_cases e : j = g
    · rw [e, va_up_self]
      omega
    · rw [va_up_ne _ _ e]
      exact hp j hj
  · rw [if_neg c] at hj
    rw [tZput_at c hg hj]
    split
    · decide
    · split
      · omega
      · split
        · exact hp j (by omega)
        · exact hp _ (by omega)
/-- the reference's page with one more, out of the order's own part of its arrays -/
def sZp (s : Nat → Nat) (q g : Nat) : Nat → Nat := if s g + 1 ≤ 16 then va_up s g (s g + 1) else va_up (va_up (mSf (va_up s g (s g + 1)) 0 q (g + 1)) (g + 1) 8) g 9
theorem seg_up {S : Nat → Nat} {b g v : Nat} : (fun j => va_up S (b + g) v (b + j)) = va_up (fun j => S (b + j)) g v := by
  funext j
  by_cases e : j = g
  · rw [e, va_up_self, va_up_self]
  · rw [va_up_ne _ _ e, va_up_ne _ _ (by omega)]
theorem seg_Sf {S : Nat → Nat} {b q a : Nat} : (fun j => mSf S b q a (b + j)) = mSf (fun j => S (b + j)) 0 q a := by
  funext j
  unfold mSf
  by_cases h : a < j ∧ j ≤ q
  · rw [if_pos (by omega), if_pos (by omega), show b + j - 1 = b + (j - 1) by omega]
  · rw [if_neg (by omega), if_neg (by omega)]
theorem seg_Sb {S : Nat → Nat} {b q a : Nat} : (fun j => mSb S b a q (b + j)) = mSb (fun j => S (b + j)) 0 a q := by
  funext j
  unfold mSb
  by_cases h : a ≤ j ∧ j < q
  · rw [if_pos (by omega), if_pos (by omega)]
    rfl
  · rw [if_neg (by omega), if_neg (by omega)]
theorem seg_Zp {S : Nat → Nat} {b q g : Nat} : (fun j => mZp S b q g (b + j)) = sZp (fun j => S (b + j)) q g := by
  unfold mZp sZp
  split
  · exact seg_up
  · have e1 : (fun j => va_up (va_up (mSf (va_up S (b + g) (S (b + g) + 1)) b q (g + 1)) (b + g + 1) 8) (b + g) 9 (b + j)) = va_up (fun j => va_up (mSf (va_up S (b + g) (S (b + g) + 1)) b q (g + 1)) (b + (g + 1)) 8 (b + j)) g 9 := seg_up
    rw [e1, seg_up, seg_Sf, seg_up]
theorem sZp_eq {s z : Nat → Nat} {q g : Nat} (hg : g < q) (h16 : ∀ j, z j ≤ 16) (h : ∀ j, j < q → s j = z j) : ∀ j, j < tQput z q g → sZp s q g j = tZput z q g j := by
  intro j hj
  unfold tQput at hj
  unfold sZp
  rw [h g hg]
  by_cases c : z g + 1 ≤ 16
  · rw [if_pos c] at hj ⊢
    rw [tZput_y c]
    by_cases e : j = g
    · rw [e, va_up_self, va_up_self]
    · rw [va_up_ne _ _ e, va_up_ne _ _ e]
      exact h j hj
  · rw [if_neg c] at hj ⊢
    rw [tZput_at c hg hj]
    have h9 := h16 g
    by_cases e : j = g
    · rw [e, va_up_self, if_pos rfl]
    · rw [va_up_ne _ _ e, if_neg e]
      by_cases e1 : j = g + 1
      · rw [e1, va_up_self, if_pos rfl]
        omega
      · rw [va_up_ne _ _ e1, if_neg e1]
        unfold mSf
        by_cases e2 : j ≤ g
        · rw [if_neg (by omega), if_pos e2, va_up_ne _ _ e]
          exact h j (by omega)
        · rw [if_pos (by omega), if_neg e2, va_up_ne _ _ (by omega)]
          exact h _ (by omega)
/-- the last page whose first key is not above x -/
def sPA (k s : Nat → Nat) (x : Nat) : Nat → Nat
  | 0 => 0
  | q + 1 => if k (tSum s q) ≤ x then q else sPA k s x q
theorem seg_PA {K S : Nat → Nat} {b x : Nat} : ∀ q, mPA K S b x q = sPA (fun j => K (b + j)) (fun j => S (b + j)) x q
  | 0 => rfl
  | q + 1 => by rw [mPA, sPA, seg_PA q]
theorem sPA_at {k s : Nat → Nat} {x : Nat} : ∀ q, (sPA k s x q = 0 ∨ k (tSum s (sPA k s x q)) ≤ x) ∧ (∀ j, sPA k s x q < j → j < q → ¬ k (tSum s j) ≤ x) ∧ (sPA k s x q < q ∨ q = 0)
  | 0 => ⟨Or.inl rfl, fun j _ h => absurd h (Nat.not_lt_zero _), Or.inr rfl⟩
  | q + 1 => by
    obtain ⟨h1, h2, h3⟩ := sPA_at (k := k) (s := s) (x := x) q
    rw [sPA]
    by_cases c : k (tSum s q) ≤ x
    · rw [if_pos c]
      exact ⟨Or.inr c, fun j a b => absurd b (by omega), Or.inl (by omega)⟩
    · rw [if_neg c]
      refine ⟨h1, fun j a b => ?_, Or.inl ?_⟩
      · by_cases e : j = q
        · rw [e]
          exact c
        · exact h2 j a (by omega)
      · rcases h3 with h3 | h3
        · omega
        · subst h3
          exact (by decide : (0 : Nat) < 0 + 1)
theorem tPg_at {z : Nat → Nat} {pl : Nat} : ∀ (d k : Nat), 0 < d → pl ≤ tSum z (k + d) → k ≤ tPg z pl d k ∧ tPg z pl d k < k + d ∧ pl ≤ tSum z (tPg z pl d k + 1) ∧ (tPg z pl d k = k ∨ tSum z (tPg z pl d k) < pl)
  | 0, _, h, _ => absurd h (Nat.lt_irrefl _)
  | d + 1, k, _, h => by
    rw [tPg]
    by_cases c : pl ≤ tSum z (k + 1)
    · rw [if_pos c]
      exact ⟨Nat.le_refl _, by omega, c, Or.inl rfl⟩
    · rw [if_neg c]
      have hd : 0 < d := by
        rcases Nat.eq_zero_or_pos d with e | e
        · subst e
          exact absurd h c
        · exact e
      obtain ⟨a1, a2, a3, a4⟩ := tPg_at (z := z) (pl := pl) d (k + 1) hd (by rw [show k + 1 + d = k + (d + 1) by omega]; exact h)
      refine ⟨by omega, by omega, a3, Or.inr ?_⟩
      rcases a4 with a4 | a4
      · rw [a4]
        omega
      · exact a4
theorem tPg_congr {s z : Nat → Nat} {pl : Nat} : ∀ (d k : Nat), (∀ j, j < k + d → s j = z j) → tPg s pl d k = tPg z pl d k
  | 0, _, _ => rfl
  | d + 1, k, h => by
    rw [tPg, tPg, tSum_congr (f := s) (g := z) (n := k + 1) (fun j a => h j (by omega)), tPg_congr d (k + 1) (fun j a => h j (by omega))]
/-- one order's pages: the class's row, sizes and count against the reference's part -/
def iPg (nt : Nat) (f z : Nat → Nat) (q : Nat) (k s : Nat → Nat) : Prop := tS f nt ∧ (∀ j, j < nt → k j = f j) ∧ tSum z q = nt ∧ (∀ j, j < q → 0 < z j) ∧ (∀ j, j < q → s j = z j) ∧ (∀ j, z j ≤ 16)
theorem iPg.q {nt q : Nat} {f z k s : Nat → Nat} (h : iPg nt f z q k s) : q ≤ nt := by
  have := tSum_ge h.2.2.2.1
  rw [h.2.2.1] at this
  exact this
theorem iPg.q0 {nt q : Nat} {f z k s : Nat → Nat} (h : iPg nt f z q k s) (h0 : 0 < nt) : 0 < q := tSum_pos h.2.2.1 h0
theorem iPA_eq {nt q x : Nat} {f z k s : Nat → Nat} (h : iPg nt f z q k s) (h0 : 0 < nt) (hx : ∀ j, j < nt → f j ≠ x) : sPA k s x q = tPg z (tCnt f x nt) q 0 := by
  have hq := h.q0 h0
  obtain ⟨h1, h2, h3, h4, h5, h6⟩ := h
  obtain ⟨c1, c2⟩ := tCnt_split (x := x) h1
  have hc := tCnt_le f x nt
  have hsum : ∀ j, j ≤ q → tSum s j = tSum z j := fun j hj => tSum_congr (fun i hi => h5 i (by omega))
  have key : ∀ j, j < q → (k (tSum s j) ≤ x ↔ tSum z j < tCnt f x nt) := by
    intro j hj
    rw [hsum j (by omega)]
    have hl : tSum z j < nt := by
      have a := tSum_mono z (show j + 1 ≤ q by omega)
      have b := h4 j hj
      rw [tSum] at a
      omega
    rw [h2 _ hl]
    constructor
    · intro z1
      refine Decidable.byContradiction fun z2 => ?_
      have := c2 _ (Nat.not_lt.mp z2) hl
      exact hx _ hl (by omega)
    · intro z1
      exact Nat.le_of_lt (c1 _ z1)
  obtain ⟨a1, a2, a3, a4⟩ := tPg_at (z := z) (pl := tCnt f x nt) q 0 hq (by rw [Nat.zero_add, h3]; exact hc)
  obtain ⟨b1, b2, b3⟩ := sPA_at (k := k) (s := s) (x := x) q
  have b3 : sPA k s x q < q := by omega
  rcases Nat.lt_trichotomy (sPA k s x q) (tPg z (tCnt f x nt) q 0) with e | e | e
  · have := b2 _ e (by omega)
    rw [key _ (by omega)] at this
    omega
  · exact e
  · have e1 : tSum z (sPA k s x q) < tCnt f x nt := by
      rcases b1 with b1 | b1
      · omega
      · exact (key _ b3).mp b1
    have := tSum_mono z (show tPg z (tCnt f x nt) q 0 + 1 ≤ sPA k s x q by omega)
    omega
theorem iPg_put {nt q x : Nat} {f z k s : Nat → Nat} (h : iPg nt f z q k s) (h0 : 0 < nt) (hx : ∀ j, j < nt → f j ≠ x) : iPg (nt + 1) (tPut f nt x) (tZ1 f z nt q x) (tQ1 f z nt q x) (tPut k nt x) (sZp s q (sPA k s x q)) := by
  have e := iPA_eq h h0 hx
  have hq := h.q0 h0
  have hg := tPg_lt (z := z) (pl := tCnt f x nt) hq
  obtain ⟨h1, h2, h3, h4, h5, h6⟩ := h
  rw [e]
  unfold tZ1 tQ1
  refine ⟨tPut_S h1 hx, fun j hj => tPut_congr h2 j hj, ?_, tZput_pos hg h6 h4, sZp_eq hg h6 h5, tZput_le h6⟩
  rw [tZput_sum hg h6, h3]
/-- the first of all -/
theorem iPg_first {x : Nat} {f z k s : Nat → Nat} (h6 : ∀ j, z j ≤ 16) (hk : k 0 = x) (hs : s 0 = 1) : tQ1 f (tOpen z 0 0 0) 0 (0 + 1) x = 1 ∧ iPg 1 (tPut f 0 x) (tZ1 f (tOpen z 0 0 0) 0 (0 + 1) x) 1 k s := by
  have e0 : tOpen z 0 0 0 0 = 0 := va_up_self _ _ _
  have e1 : tPg (tOpen z 0 0 0) (tCnt f x 0) (0 + 1) 0 = 0 := by
    rw [tPg, if_pos (show tCnt f x 0 ≤ _ from Nat.zero_le _)]
  have e2 : tZ1 f (tOpen z 0 0 0) 0 (0 + 1) x = va_up (tOpen z 0 0 0) 0 1 := by
    unfold tZ1
    rw [e1, tZput_y (by rw [e0]; decide), e0]
  have e3 : tQ1 f (tOpen z 0 0 0) 0 (0 + 1) x = 1 := by
    unfold tQ1 tQput
    rw [e1, if_pos (by rw [e0]; decide)]
  refine ⟨e3, fun i j a b => absurd b (by omega), fun j hj => ?_, ?_, fun j hj => ?_, fun j hj => ?_, ?_⟩
  · have : j = 0 := by omega
    subst this
    rw [hk]
    exact (tPut_eq f 0 x).symm
  · rw [e2]
    show 0 + va_up _ 0 1 0 = 1
    rw [va_up_self]
  · have : j = 0 := by omega
    subst this
    rw [e2, va_up_self]
    decide
  · have : j = 0 := by omega
    subst this
    rw [e2, va_up_self, hs]
  · rw [e2]
    exact tUp_le (tOpen_le h6 (by decide)) (by decide)
/-! a page has one less -/
theorem tDrop_lo {z : Nat → Nat} {q k j : Nat} (h : j < k) : tDrop z q k j = z j := by
  unfold tDrop va_cpy
  rw [if_neg (by omega)]
theorem tDrop_hi {z : Nat → Nat} {q k j : Nat} (h : k ≤ j) (hj : j + 1 < q) : tDrop z q k j = z (j + 1) := by
  unfold tDrop va_cpy
  rw [if_pos (by omega)]
  congr 1
  omega
theorem tDrop_sum {z : Nat → Nat} {q k : Nat} (h : k < q) : tSum (tDrop z q k) (q - 1) + z k = tSum z q := tSum_del h (fun j hj => tDrop_lo hj) (fun j a b => tDrop_hi a b)
theorem tDrop_le {z : Nat → Nat} {q k m : Nat} (h : ∀ j, z j ≤ m) : ∀ j, tDrop z q k j ≤ m := tCpy_le h
theorem mSb_lo0 {z : Nat → Nat} {p k j : Nat} (h : j < p) : mSb z 0 p k j = z j := by
  unfold mSb
  rw [if_neg (by omega)]
theorem mSb_mid0 {z : Nat → Nat} {p k j : Nat} (h : p ≤ j) (hj : j < k) : mSb z 0 p k j = z (j + 1) := by
  unfold mSb
  rw [if_pos (by omega)]
/-- the sizes behind, the four cases: which page goes, which has the sum -/
def sZt (s : Nat → Nat) (q g : Nat) : Nat → Nat := if s g - 1 = 0 then mSb (va_up s g (s g - 1)) 0 g (q - 1)
  else if g + 1 < q ∧ s g - 1 + (va_up s g (s g - 1)) (g + 1) ≤ 10 then mSb (va_up (va_up s g (s g - 1)) (g + 1) ((va_up s g (s g - 1)) (g + 1) + (s g - 1))) 0 g (q - 1)
  else if 0 < g ∧ (va_up s g (s g - 1)) (g - 1) + (s g - 1) ≤ 10 then mSb (va_up (va_up s g (s g - 1)) (g - 1) ((va_up s g (s g - 1)) (g - 1) + (s g - 1))) 0 g (q - 1)
  else va_up s g (s g - 1)
def sQt (s : Nat → Nat) (q g : Nat) : Nat := if s g - 1 = 0 then q - 1
  else if g + 1 < q ∧ s g - 1 + (va_up s g (s g - 1)) (g + 1) ≤ 10 then q - 1
  else if 0 < g ∧ (va_up s g (s g - 1)) (g - 1) + (s g - 1) ≤ 10 then q - 1
  else q
theorem seg_at {S : Nat → Nat} {b g v j : Nat} : va_up S (b + g) v (b + j) = va_up (fun j => S (b + j)) g v j := congrFun seg_up j
theorem seg_Qt {S : Nat → Nat} {b q g : Nat} : mQt S b q g = sQt (fun j => S (b + j)) q g := by
  have e1 : va_up S (b + g) (S (b + g) - 1) (b + g + 1) = va_up (fun j => S (b + j)) g (S (b + g) - 1) (g + 1) := seg_at (j := g + 1)
  unfold mQt sQt
  rw [e1]
  by_cases h : 0 < g
  · have e2 : va_up S (b + g) (S (b + g) - 1) (b + g - 1) = va_up (fun j => S (b + j)) g (S (b + g) - 1) (g - 1) := by
      rw [show b + g - 1 = b + (g - 1) by omega]
      exact seg_at (j := g - 1)
    rw [e2]
  · rw [if_neg (fun z : 0 < g ∧ _ => h z.1), if_neg (fun z : 0 < g ∧ _ => h z.1)]
theorem seg_Zt {S : Nat → Nat} {b q g : Nat} : (fun j => mZt S b q g (b + j)) = sZt (fun j => S (b + j)) q g := by
  have e1 : va_up S (b + g) (S (b + g) - 1) (b + g + 1) = va_up (fun j => S (b + j)) g (S (b + g) - 1) (g + 1) := seg_at (j := g + 1)
  unfold mZt sZt
  rw [e1]
  by_cases c1 : S (b + g) - 1 = 0
  · rw [if_pos c1, if_pos c1, seg_Sb, seg_up]
  · rw [if_neg c1, if_neg c1]
    by_cases c2 : g + 1 < q ∧ S (b + g) - 1 + va_up (fun j => S (b + j)) g (S (b + g) - 1) (g + 1) ≤ 10
    · rw [if_pos c2, if_pos c2, seg_Sb]
      have e3 : (fun j => va_up (va_up S (b + g) (S (b + g) - 1)) (b + g + 1) (va_up (fun j => S (b + j)) g (S (b + g) - 1) (g + 1) + (S (b + g) - 1)) (b + j)) = va_up (fun j => va_up S (b + g) (S (b + g) - 1) (b + j)) (g + 1) (va_up (fun j => S (b + j)) g (S (b + g) - 1) (g + 1) + (S (b + g) - 1)) := seg_up (g := g + 1)
      rw [e3, seg_up]
    · rw [if_neg c2, if_neg c2]
      by_cases h : 0 < g
      · have e2 : va_up S (b + g) (S (b + g) - 1) (b + g - 1) = va_up (fun j => S (b + j)) g (S (b + g) - 1) (g - 1) := by
          rw [show b + g - 1 = b + (g - 1) by omega]
          exact seg_at (j := g - 1)
        rw [e2]
        by_cases c3 : 0 < g ∧ va_up (fun j => S (b + j)) g (S (b + g) - 1) (g - 1) + (S (b + g) - 1) ≤ 10
        · rw [if_pos c3, if_pos c3, seg_Sb, show b + g - 1 = b + (g - 1) by omega]
          have e3 : (fun j => va_up (va_up S (b + g) (S (b + g) - 1)) (b + (g - 1)) (va_up (fun j => S (b + j)) g (S (b + g) - 1) (g - 1) + (S (b + g) - 1)) (b + j)) = va_up (fun j => va_up S (b + g) (S (b + g) - 1) (b + j)) (g - 1) (va_up (fun j => S (b + j)) g (S (b + g) - 1) (g - 1) + (S (b + g) - 1)) := seg_up (g := g - 1)
          rw [e3, seg_up]
        · rw [if_neg c3, if_neg c3, seg_up]
      · rw [if_neg (fun z : 0 < g ∧ _ => h z.1), if_neg (fun z : 0 < g ∧ _ => h z.1), seg_up]
theorem iZt {s z : Nat → Nat} {q g : Nat} (hg : g < q) (h : ∀ j, j < q → s j = z j) (hp : ∀ j, j < q → 0 < z j) (h16 : ∀ j, z j ≤ 16) :
    sQt s q g = tQtake z q g ∧ (∀ j, j < tQtake z q g → sZt s q g j = tZtake z q g j) ∧ tSum (tZtake z q g) (tQtake z q g) + 1 = tSum z q ∧ (∀ j, j < tQtake z q g → 0 < tZtake z q g j) ∧ ∀ j, tZtake z q g j ≤ 16 := by
  have hz := hp g hg
  have hb : ∀ j, va_up z g (z g - 1) j ≤ 16 := tUp_le h16 (by have := h16 g; omega)
  have hs1 : tSum (va_up z g (z g - 1)) q + 1 = tSum z q := by
    have := tSum_one (f := va_up z g (z g - 1)) (g := z) (i := g) (fun j hj => va_up_ne _ _ hj) hg
    rw [va_up_self] at this
    omega
  have hu : ∀ j, j < q → va_up s g (z g - 1) j = va_up z g (z g - 1) j := by
    intro j hj
    by_cases e : j = g
    · rw [e, va_up_self, va_up_self]
    · rw [va_up_ne _ _ e, va_up_ne _ _ e]
      exact h j hj
  have hpu : ∀ j, j < q → j ≠ g → 0 < va_up z g (z g - 1) j := fun j hj e => by
    rw [va_up_ne _ _ e]
    exact hp j hj
  unfold sQt sZt tQtake tZtake
  rw [h g hg]
  by_cases c1 : z g - 1 = 0
  · rw [if_pos c1, if_pos c1, if_pos c1, if_pos c1]
    refine ⟨rfl, fun j hj => ?_, ?_, fun j hj => ?_, tDrop_le hb⟩
    · by_cases e : j < g
      · rw [mSb_lo0 e, tDrop_lo e]
        exact hu j (by omega)
      · rw [mSb_mid0 (by omega) hj, tDrop_hi (by omega) (by omega)]
        exact hu _ (by omega)
    · have := tDrop_sum (z := va_up z g (z g - 1)) hg
      rw [va_up_self] at this
      omega
    · by_cases e : j < g
      · rw [tDrop_lo e]
        exact hpu j (by omega) (by omega)
      · rw [tDrop_hi (by omega) (by omega)]
        exact hpu _ (by omega) (by omega)
  · rw [if_neg c1, if_neg c1, if_neg c1, if_neg c1]
    have hpg : ∀ j, j < q → 0 < va_up z g (z g - 1) j := fun j hj => by
      by_cases e : j = g
      · rw [e, va_up_self]
        omega
      · exact hpu j hj e
    have ec : (g + 1 < q ∧ z g - 1 + va_up s g (z g - 1) (g + 1) ≤ 10) ↔ tCan (va_up z g (z g - 1)) q g := by
      unfold tCan
      rw [va_up_self]
      constructor
      · rintro ⟨a, b⟩
        rw [hu _ a] at b
        exact ⟨a, b⟩
      · rintro ⟨a, b⟩
        rw [hu _ a]
        exact ⟨a, b⟩
    by_cases c2 : tCan (va_up z g (z g - 1)) q g
    · rw [if_pos (ec.mpr c2), if_pos (ec.mpr c2), if_pos c2, if_pos c2]
      have a1 := c2.1
      have a2 := c2.2
      rw [va_up_self] at a2
      have hb2 : ∀ j, va_up (va_up z g (z g - 1)) g (va_up z g (z g - 1) g + va_up z g (z g - 1) (g + 1)) j ≤ 16 := tUp_le hb (by rw [va_up_self]; omega)
      unfold tJoin
      refine ⟨rfl, fun j hj => ?_, ?_, fun j hj => ?_, tDrop_le hb2⟩
      · by_cases e : j < g
        · rw [mSb_lo0 e, tDrop_lo (by omega), va_up_ne _ _ (by omega), va_up_ne (va_up z g (z g - 1)) _ (show j ≠ g by omega)]
          exact hu j (by omega)
        · rw [mSb_mid0 (by omega) hj]
          by_cases e2 : j = g
          · rw [e2, va_up_self, tDrop_lo (by omega), va_up_self, va_up_self, hu _ a1]
            omega
          · rw [va_up_ne _ _ (by omega), tDrop_hi (by omega) (by omega), va_up_ne (va_up z g (z g - 1)) _ (show j + 1 ≠ g by omega)]
            exact hu _ (by omega)
      · have b1 := tDrop_sum (z := va_up (va_up z g (z g - 1)) g (va_up z g (z g - 1) g + va_up z g (z g - 1) (g + 1))) a1
        rw [va_up_ne (va_up z g (z g - 1)) _ (show g + 1 ≠ g by omega)] at b1
        have b2 := tSum_one (f := va_up (va_up z g (z g - 1)) g (va_up z g (z g - 1) g + va_up z g (z g - 1) (g + 1))) (g := va_up z g (z g - 1)) (i := g) (fun j hj => va_up_ne _ _ hj) hg
        rw [va_up_self (va_up z g (z g - 1))] at b2
        omega
      · by_cases e : j < g + 1
        · rw [tDrop_lo e]
          by_cases e2 : j = g
          · rw [e2, va_up_self]
            have := hpg g hg
            omega
          · rw [va_up_ne _ _ e2]
            exact hpg j (by omega)
        · rw [tDrop_hi (by omega) (by omega), va_up_ne _ _ (by omega)]
          exact hpg _ (by omega)
    · rw [if_neg (fun y => c2 (ec.mp y)), if_neg (fun y => c2 (ec.mp y)), if_neg c2, if_neg c2]
      have ec3 : (0 < g ∧ va_up s g (z g - 1) (g - 1) + (z g - 1) ≤ 10) ↔ 0 < g ∧ tCan (va_up z g (z g - 1)) q (g - 1) := by
        unfold tCan
        constructor
        · rintro ⟨a, b⟩
          rw [show g - 1 + 1 = g by omega, va_up_self]
          rw [hu _ (by omega)] at b
          exact ⟨a, hg, b⟩
        · rintro ⟨a, b, d⟩
          rw [show g - 1 + 1 = g by omega, va_up_self] at d
          rw [hu _ (by omega)]
          exact ⟨a, d⟩
      by_cases c3 : 0 < g ∧ tCan (va_up z g (z g - 1)) q (g - 1)
      · rw [if_pos (ec3.mpr c3), if_pos (ec3.mpr c3), if_pos c3, if_pos c3]
        have a0 := c3.1
        have a2 := (ec3.mpr c3).2
        rw [hu _ (by omega)] at a2
        have eg : g - 1 + 1 = g := by omega
        unfold tJoin
        rw [eg]
        have hb2 : ∀ j, va_up (va_up z g (z g - 1)) (g - 1) (va_up z g (z g - 1) (g - 1) + va_up z g (z g - 1) g) j ≤ 16 := tUp_le hb (by rw [va_up_self]; omega)
        refine ⟨rfl, fun j hj => ?_, ?_, fun j hj => ?_, tDrop_le hb2⟩
        · by_cases e : j < g
          · rw [mSb_lo0 e, tDrop_lo e]
            by_cases e2 : j = g - 1
            · rw [e2, va_up_self, va_up_self, va_up_self, hu _ (by omega)]
            · rw [va_up_ne _ _ e2, va_up_ne _ _ e2]
              exact hu j (by omega)
          · rw [mSb_mid0 (by omega) hj, tDrop_hi (by omega) (by omega), va_up_ne _ _ (by omega), va_up_ne _ _ (show j + 1 ≠ g - 1 by omega)]
            exact hu _ (by omega)
        · have b1 := tDrop_sum (z := va_up (va_up z g (z g - 1)) (g - 1) (va_up z g (z g - 1) (g - 1) + va_up z g (z g - 1) g)) hg
          rw [va_up_ne (va_up z g (z g - 1)) _ (show g ≠ g - 1 by omega)] at b1
          have b2 := tSum_one (f := va_up (va_up z g (z g - 1)) (g - 1) (va_up z g (z g - 1) (g - 1) + va_up z g (z g - 1) g)) (g := va_up z g (z g - 1)) (i := g - 1) (fun j hj => va_up_ne _ _ hj) (show g - 1 < q by omega)
          rw [va_up_self (va_up z g (z g - 1))] at b2
          omega
        · by_cases e : j < g
          · rw [tDrop_lo e]
            by_cases e2 : j = g - 1
            · rw [e2, va_up_self]
              have := hpg g hg
              omega
            · rw [va_up_ne _ _ e2]
              exact hpg j (by omega)
          · rw [tDrop_hi (by omega) (by omega), va_up_ne _ _ (by omega)]
            exact hpg _ (by omega)
      · rw [if_neg (fun y => c3 (ec3.mp y)), if_neg (fun y => c3 (ec3.mp y)), if_neg c3, if_neg c3]
        exact ⟨rfl, fun j hj => hu j hj, hs1, hpg, hb⟩
theorem iPg_take {nt q x : Nat} {f z k s : Nat → Nat} (h : iPg nt f z q k s) (hx : tHas f nt x) :
    sQt s q (tPg s (tCnt k x nt + 1) q 0) = tQ2 f z nt q x ∧ iPg (nt - 1) (tTake f nt (tCnt f x nt)) (tZ2 f z nt q x) (tQ2 f z nt q x) (mSb k 0 (tCnt k x nt) (nt - 1)) (sZt s q (tPg s (tCnt k x nt + 1) q 0)) := by
  have hc := hx.1
  have hq := h.q0 (show 0 < nt by omega)
  obtain ⟨h1, h2, h3, h4, h5, h6⟩ := h
  have ek : tCnt k x nt = tCnt f x nt := tCnt_congr h2
  rw [ek]
  have eg : tPg s (tCnt f x nt + 1) q 0 = tPg z (tCnt f x nt + 1) q 0 := tPg_congr q 0 (fun j hj => h5 j (by omega))
  rw [eg]
  have hg := tPg_lt (z := z) (pl := tCnt f x nt + 1) hq
  obtain ⟨a1, a2, a3, a4, a5⟩ := iZt hg h5 h4 h6
  unfold tQ2 tZ2
  refine ⟨a1, tTake_S h1 hc, fun j hj => ?_, by omega, a4, a2, a5⟩
  by_cases e : j < tCnt f x nt
  · rw [mSb_lo0 e, tTake_lo e]
    exact h2 j (by omega)
  · rw [mSb_mid0 (by omega) hj, tTake_hi (by omega) (by omega)]
    exact h2 _ (by omega)
