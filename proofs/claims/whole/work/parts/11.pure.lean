/-! pure words for the class's parts: rows that rise, counts, pages -/
abbrev tRng (x : Int32) (b : Nat) : Prop := 0 ≤ x.toInt ∧ x.toInt < b
theorem tRng_nI {j b : Nat} (h : j < b) (hb : b < 2 ^ 31) : tRng (nI j) b := by
  rw [tRng, nI_toInt (by omega)]
  omega
theorem tRng_nIn {j b : Nat} (h : b ≤ j) (hj : j < 2 ^ 31) : ¬ tRng (nI j) b := by
  rw [tRng, nI_toInt hj]
  omega
theorem tRng_lt {j b : Nat} (hj : j < 2 ^ 31) (h : tRng (nI j) b) : j < b := by
  rw [tRng, nI_toInt hj] at h
  omega
theorem tRng_of {x : Int32} {b : Nat} (hb : b < 2 ^ 31) (h1 : ¬ x < 0) (h2 : ¬ nI b ≤ x) : tRng x b := by
  rw [Int32.lt_iff_toInt_lt, Int32.toInt_zero] at h1
  rw [Int32.le_iff_toInt_le, nI_toInt hb] at h2
  rw [tRng]
  omega
theorem tRng_neg {x : Int32} {b : Nat} (h : x < 0) : ¬ tRng x b := by
  rw [Int32.lt_iff_toInt_lt, Int32.toInt_zero] at h
  rw [tRng]
  omega
theorem tRng_big {x : Int32} {b : Nat} (hb : b < 2 ^ 31) (h : nI b ≤ x) : ¬ tRng x b := by
  rw [Int32.le_iff_toInt_le, nI_toInt hb] at h
  rw [tRng]
  omega
theorem tRng_ofg {x : Int32} {b : Nat} (hb : b < 2 ^ 31) (h1 : ¬ x < 0) (h2 : ¬ nI b < x) : tRng x (b + 1) := by
  rw [Int32.lt_iff_toInt_lt, Int32.toInt_zero] at h1
  rw [Int32.lt_iff_toInt_lt, nI_toInt hb] at h2
  rw [tRng]
  omega
theorem tRng_bigg {x : Int32} {b : Nat} (hb : b < 2 ^ 31) (h : nI b < x) : ¬ tRng x (b + 1) := by
  rw [Int32.lt_iff_toInt_lt, nI_toInt hb] at h
  rw [tRng]
  omega
theorem tRng_ex {x : Int32} {b : Nat} (h : tRng x b) : ∃ j : Nat, j < b ∧ x = nI j := by
  have h0 : ¬ x < 0 := by
    rw [Int32.lt_iff_toInt_lt, Int32.toInt_zero]
    omega
  obtain ⟨j, hj, rfl⟩ := nI_of h0
  exact ⟨j, tRng_lt hj h, rfl⟩
theorem nI_nm1 {j : Nat} (h : j < 2 ^ 31) : ¬ nI j = -1 := by
  intro q
  have a := nI_toInt h
  rw [q] at a
  have b : (-1 : Int32).toInt = -1 := by decide
  omega
theorem tb_inc (a : Nat) {k : Int} (hk : Int32.ofInt k = 1) : nI a + Int32.ofInt k = nI (a + 1) := by rw [hk, nI_1]
theorem tb_nar (b : Bool) : narrow .boolean (.int (bB b)) = .int (bB b) := by cases b <;> rfl
/-- strictly rising on the first n places -/
def tS (f : Nat → Nat) (n : Nat) : Prop := ∀ i j, i < j → j < n → f i < f j
theorem tS_le {f : Nat → Nat} {n i j : Nat} (h : tS f n) (hij : i ≤ j) (hj : j < n) : f i ≤ f j := by
  rcases Nat.lt_or_eq_of_le hij with q | q
  · exact Nat.le_of_lt (h i j q hj)
  · rw [q]; exact Nat.le_refl _
/-- how many of the first n are below x -/
def tCnt (f : Nat → Nat) (x : Nat) : Nat → Nat
  | 0 => 0
  | n + 1 => tCnt f x n + (if f n < x then 1 else 0)
theorem tCnt_le (f : Nat → Nat) (x : Nat) : ∀ n, tCnt f x n ≤ n
  | 0 => Nat.le_refl _
  | n + 1 => by
    have := tCnt_le f x n
    rw [tCnt]
    split <;> omega
theorem tCnt_of {f : Nat → Nat} {x : Nat} : ∀ {n k : Nat}, k ≤ n → (∀ j, j < k → f j < x) → (∀ j, k ≤ j → j < n → x ≤ f j) → tCnt f x n = k
  | 0, k, hk, _, _ => by rw [tCnt]; omega
  | n + 1, k, hk, h1, h2 => by
    rw [tCnt]
    by_cases q : k ≤ n
    · rw [tCnt_of q h1 (fun j a b => h2 j a (by omega)), if_neg (Nat.not_lt.mpr (h2 n q (Nat.lt_succ_self n)))]
      rfl
    · have e : k = n + 1 := by omega
      subst e
      rw [tCnt_of (Nat.le_refl n) (fun j a => h1 j (by omega)) (fun j a b => absurd b (by omega)), if_pos (h1 n (Nat.lt_succ_self n))]
theorem tCnt_split {f : Nat → Nat} {x n : Nat} (hs : tS f n) : (∀ j, j < tCnt f x n → f j < x) ∧ (∀ j, tCnt f x n ≤ j → j < n → x ≤ f j) := by
  have key : ∀ n, tS f n → ∃ k, k ≤ n ∧ (∀ j, j < k → f j < x) ∧ (∀ j, k ≤ j → j < n → x ≤ f j) := by
    intro n
    induction n with
    | zero => exact fun _ => ⟨0, Nat.le_refl _, fun j h => absurd h (Nat.not_lt_zero _), fun j _ h => absurd h (Nat.not_lt_zero _)⟩
    | succ n ih =>
      intro hs
      obtain ⟨k, hk, h1, h2⟩ := ih (fun i j a b => hs i j a (by omega))
      by_cases q : f n < x
      · refine ⟨n + 1, Nat.le_refl _, fun j hj => ?_, fun j a b => absurd b (by omega)⟩
        exact Nat.lt_of_le_of_lt (tS_le hs (by omega) (Nat.lt_succ_self n)) q
      · refine ⟨k, by omega, h1, fun j a b => ?_⟩
        rcases Nat.lt_or_ge j n with z | z
        · exact h2 j a z
        · have e : j = n := by omega
          subst e
          omega
  obtain ⟨k, hk, h1, h2⟩ := key n hs
  rw [tCnt_of hk h1 h2]
  exact ⟨h1, h2⟩
/-- x is one of the first n of a rising row, as the class asks it -/
abbrev tHas (f : Nat → Nat) (n x : Nat) : Prop := tCnt f x n < n ∧ f (tCnt f x n) = x
def tPut (f : Nat → Nat) (n x : Nat) : Nat → Nat := va_up (va_cpy f f (tCnt f x n) (tCnt f x n + 1) (n - tCnt f x n)) (tCnt f x n) x
def tTake (f : Nat → Nat) (n i : Nat) : Nat → Nat := va_cpy f f (i + 1) i (n - i - 1)
/-- the sum of the first k -/
def tSum (z : Nat → Nat) : Nat → Nat
  | 0 => 0
  | k + 1 => tSum z k + z k
/-- the page with the place pl - 1: the first k from where the pages up to k have pl or more; else the last -/
def tPg (z : Nat → Nat) (pl : Nat) : Nat → Nat → Nat
  | 0, k => k - 1
  | d + 1, k => if pl ≤ tSum z (k + 1) then k else tPg z pl d (k + 1)
def tOpen (z : Nat → Nat) (q k v : Nat) : Nat → Nat := va_up (va_cpy z z k (k + 1) (q - k)) k v
def tDrop (z : Nat → Nat) (q k : Nat) : Nat → Nat := va_cpy z z (k + 1) k (q - k - 1)
def tJoin (z : Nat → Nat) (q k : Nat) : Nat → Nat := tDrop (va_up z k (z k + z (k + 1))) q (k + 1)
abbrev tCan (z : Nat → Nat) (q k : Nat) : Prop := k + 1 < q ∧ z k + z (k + 1) ≤ 10
/-- the term of a place, out of a key; of three, the one that is named; the static tables -/
def tPick (t a b d : Nat) : Nat := if t = 0 then a else if t = 1 then b else d
def taF : Nat → Nat := fun j => [0, 1, 2, 0, 2, 1, 1, 0, 2, 1, 2, 0, 2, 0, 1, 2, 1, 0].getD j 0
def poF : Nat → Nat := fun j => [0, 1, 2, 0, 2, 1, 1, 0, 2, 2, 0, 1, 1, 2, 0, 2, 1, 0].getD j 0
theorem taF_lt : ∀ j, taF j < 3 := by
  intro j
  by_cases h : j < 18
  · exact (by decide : ∀ i : Fin 18, taF i.val < 3) ⟨j, h⟩
  · unfold taF
    rw [List.getD_eq_getElem?_getD, List.getElem?_eq_none (by simp only [List.length_cons, List.length_nil]; omega)]
    decide
theorem poF_lt : ∀ j, poF j < 3 := by
  intro j
  by_cases h : j < 18
  · exact (by decide : ∀ i : Fin 18, poF i.val < 3) ⟨j, h⟩
  · unfold poF
    rw [List.getD_eq_getElem?_getD, List.getElem?_eq_none (by simp only [List.length_cons, List.length_nil]; omega)]
    decide
def tKeyOf (o a b d : Nat) : Nat := tPick (taF (o * 3)) a b d * 1000000 + tPick (taF (o * 3 + 1)) a b d * 1000 + tPick (taF (o * 3 + 2)) a b d
def tTerm (k t : Nat) : Nat := if t = 0 then k / 1000000 else if t = 1 then k / 1000 % 1000 else k % 1000
/-- the outer array of three rows -/
def tb_3 (a b d : Nat) : Nat → Option Nat := fun j => match j with
  | 0 => some a
  | 1 => some b
  | _ => some d
theorem tb_neg_le {i : Int32} {j : Nat} (h : i < 0) (hj : j < 2 ^ 31 := by decide) : i ≤ nI j := by
  rw [Int32.lt_iff_toInt_lt, Int32.toInt_zero] at h
  rw [Int32.le_iff_toInt_le, nI_toInt hj]
  omega
theorem tSum_mono (z : Nat → Nat) : ∀ {a b : Nat}, a ≤ b → tSum z a ≤ tSum z b
  | a, 0, h => by rw [show a = 0 by omega]; exact Nat.le_refl _
  | a, b + 1, h => by
    rcases Nat.lt_or_eq_of_le h with q | q
    · have := tSum_mono z (show a ≤ b by omega)
      rw [tSum]
      omega
    · rw [q]; exact Nat.le_refl _
theorem tSum_le_of (z : Nat → Nat) {a b : Nat} (h : a ≤ b) : tSum z a ≤ tSum z b := tSum_mono z h
theorem tPg_yes {z : Nat → Nat} {pl d k : Nat} (hd : 0 < d) (h : pl ≤ tSum z (k + 1)) : tPg z pl d k = k := by
  obtain ⟨d, rfl⟩ : ∃ d', d = d' + 1 := ⟨d - 1, by omega⟩
  rw [tPg, if_pos h]
theorem tPg_no {z : Nat → Nat} {pl q k : Nat} (hd : k < q) (h : ¬ pl ≤ tSum z k + z k) : tPg z pl (q - k) k = tPg z pl (q - (k + 1)) (k + 1) := by
  rw [show q - k = (q - (k + 1)) + 1 by omega, tPg]
  exact if_neg h
/-- a place that is one below a number, against a number -/
theorem tb_pm {a b : Nat} (ha : a < 2 ^ 30) (hb : b < 2 ^ 30) : nI b ≤ nI a - nI 1 ↔ b + 1 ≤ a := by
  rw [Int32.le_iff_toInt_le, pk_sub_toInt ha (by decide), nI_toInt (by omega)]
  omega
/-- a triple's going closes its latest open coming -/
def tGo (X Y Z E : Nat → Nat) (a b d x : Nat) : Nat → Nat → Nat
  | 0 => E
  | j + 1 => if E j = 1000001 ∧ X j = a ∧ Y j = b ∧ Z j = d then va_up E j x else tGo X Y Z E a b d x j
theorem tGo_yes {X Y Z E : Nat → Nat} {a b d x j : Nat} (h : E j = 1000001 ∧ X j = a ∧ Y j = b ∧ Z j = d) : tGo X Y Z E a b d x (j + 1) = va_up E j x := by rw [tGo, if_pos h]
theorem tGo_no {X Y Z E : Nat → Nat} {a b d x j : Nat} (h : ¬ (E j = 1000001 ∧ X j = a ∧ Y j = b ∧ Z j = d)) : tGo X Y Z E a b d x (j + 1) = tGo X Y Z E a b d x j := by rw [tGo, if_neg h]
/-- a cut at x: how many of the first i stay, and an array when i of them have been gone through -/
def tCK (E : Nat → Nat) (x : Nat) : Nat → Nat
  | 0 => 0
  | i + 1 => if x < E i then tCK E x i + 1 else tCK E x i
def tCF (E : Nat → Nat) (x : Nat) (F : Nat → Nat) : Nat → Nat → Nat
  | 0 => F
  | i + 1 => if x < E i then va_up (tCF E x F i) (tCK E x i) (tCF E x F i i) else tCF E x F i
theorem tCK_le (E : Nat → Nat) (x : Nat) : ∀ i, tCK E x i ≤ i
  | 0 => Nat.le_refl _
  | i + 1 => by
    have := tCK_le E x i
    rw [tCK]
    split <;> omega
theorem tCF_ge {E F : Nat → Nat} {x : Nat} : ∀ {i j : Nat}, tCK E x i ≤ i → i ≤ j → tCF E x F i j = F j
  | 0, _, _, _ => rfl
  | i + 1, j, _, h => by
    have hk := tCK_le E x i
    rw [tCF]
    split
    · rw [va_up_ne _ _ (by omega)]
      exact tCF_ge hk (by omega)
    · exact tCF_ge hk (by omega)
theorem tCK_yes {E : Nat → Nat} {x i : Nat} (h : x < E i) : tCK E x (i + 1) = tCK E x i + 1 := by rw [tCK, if_pos h]
theorem tCK_no {E : Nat → Nat} {x i : Nat} (h : E i ≤ x) : tCK E x (i + 1) = tCK E x i := by rw [tCK, if_neg (Nat.not_lt.mpr h)]
theorem tCF_yes {E F : Nat → Nat} {x i : Nat} (h : x < E i) : tCF E x F (i + 1) = va_up (tCF E x F i) (tCK E x i) (tCF E x F i i) := by rw [tCF, if_pos h]
theorem tCF_no {E F : Nat → Nat} {x i : Nat} (h : E i ≤ x) : tCF E x F (i + 1) = tCF E x F i := by rw [tCF, if_neg (Nat.not_lt.mpr h)]
theorem tPick_lt (t : Nat) {a b d m : Nat} (h1 : a < m) (h2 : b < m) (h3 : d < m) : tPick t a b d < m := by
  unfold tPick
  split
  · exact h1
  · split
    · exact h2
    · exact h3
/-- the place of a range's free term; the lowest key with a free term; which triples it has -/
def tFree (a b : Option Nat) : Nat := match a, b with
  | none, _ => 0
  | some _, none => 1
  | some _, some _ => 2
def tLow (a b : Option Nat) (x : Nat) : Nat := match a, b with
  | none, _ => x * 1000000
  | some a, none => a * 1000000 + x * 1000
  | some a, some b => a * 1000000 + b * 1000 + x
abbrev tCov (a b : Option Nat) (u v : Nat) : Prop := (a = none ∨ a = some u) ∧ (b = none ∨ b = some v)
theorem tPg_lt' {z : Nat → Nat} {pl : Nat} : ∀ {d k : Nat}, 0 < d + k → tPg z pl d k < d + k
  | 0, k, h => by rw [tPg]; omega
  | d + 1, k, h => by
    rw [tPg]
    split
    · omega
    · have := tPg_lt' (z := z) (pl := pl) (d := d) (k := k + 1) (by omega)
      omega
theorem tPg_lt {z : Nat → Nat} {pl q : Nat} (h : 0 < q) : tPg z pl q 0 < q := tPg_lt' (d := q) (k := 0) h
theorem tUp_le {z : Nat → Nat} {k v m : Nat} (h : ∀ j, z j ≤ m) (hv : v ≤ m) : ∀ j, va_up z k v j ≤ m := fun j => by
  unfold va_up
  split
  · exact hv
  · exact h j
theorem tCpy_le {z : Nat → Nat} {a b n m : Nat} (h : ∀ j, z j ≤ m) : ∀ j, va_cpy z z a b n j ≤ m := fun j => by
  unfold va_cpy
  split
  · exact h _
  · exact h j
theorem tOpen_le {z : Nat → Nat} {q k v m : Nat} (h : ∀ j, z j ≤ m) (hv : v ≤ m) : ∀ j, tOpen z q k v j ≤ m := tUp_le (tCpy_le h) hv
def tQput (z : Nat → Nat) (q k : Nat) : Nat := if z k + 1 ≤ 16 then q else q + 1
def tZput (z : Nat → Nat) (q k : Nat) : Nat → Nat := if z k + 1 ≤ 16 then va_up z k (z k + 1) else va_up (tOpen (va_up z k (z k + 1)) q (k + 1) (z k + 1 - 9)) k 9
def tQtake (z : Nat → Nat) (q k : Nat) : Nat := if z k - 1 = 0 then q - 1 else if tCan (va_up z k (z k - 1)) q k then q - 1 else if 0 < k ∧ tCan (va_up z k (z k - 1)) q (k - 1) then q - 1 else q
def tZtake (z : Nat → Nat) (q k : Nat) : Nat → Nat := if z k - 1 = 0 then tDrop (va_up z k (z k - 1)) q k else if tCan (va_up z k (z k - 1)) q k then tJoin (va_up z k (z k - 1)) q k else if 0 < k ∧ tCan (va_up z k (z k - 1)) q (k - 1) then tJoin (va_up z k (z k - 1)) q (k - 1) else va_up z k (z k - 1)
/-- a step of the mark, and the mark of c triples from s on -/
def tMix (m : Int32) (t : Nat) : Int32 := (((m ^^^ nI t) <<< (nI 11 &&& 31)) ||| ((m ^^^ nI t).toUInt32 >>> ((nI 21).toUInt32 &&& Int32.toUInt32 31)).toInt32) * (-2048144777)
def tMk (f : Nat → Nat) (s : Nat) : Nat → Int32
  | 0 => 0
  | c + 1 => tMix (tMix (tMix (tMk f s c) (tTerm (f (s + c)) 0)) (tTerm (f (s + c)) 1)) (tTerm (f (s + c)) 2)
def tQ1 (f z : Nat → Nat) (n q x : Nat) : Nat := tQput z q (tPg z (tCnt f x n) q 0)
def tZ1 (f z : Nat → Nat) (n q x : Nat) : Nat → Nat := tZput z q (tPg z (tCnt f x n) q 0)
def tQ2 (f z : Nat → Nat) (n q x : Nat) : Nat := tQtake z q (tPg z (tCnt f x n + 1) q 0)
def tZ2 (f z : Nat → Nat) (n q x : Nat) : Nat → Nat := tZtake z q (tPg z (tCnt f x n + 1) q 0)
/-- a table of references -/
def sF (g : Nat → Nat) : Nat → Option Nat := fun j => some (g j)
theorem tKeyOf_lt (o : Nat) {a b d : Nat} (h1 : a < 1000) (h2 : b < 1000) (h3 : d < 1000) : tKeyOf o a b d < 2 ^ 31 := by
  have t0 := tPick_lt (taF (o * 3)) h1 h2 h3
  have t1 := tPick_lt (taF (o * 3 + 1)) h1 h2 h3
  have t2 := tPick_lt (taF (o * 3 + 2)) h1 h2 h3
  unfold tKeyOf
  omega
theorem tSum_pos {z : Nat → Nat} {q n : Nat} (h : tSum z q = n) (hn : 0 < n) : 0 < q := by
  rcases Nat.eq_zero_or_pos q with e | e
  · subst e
    rw [tSum] at h
    omega
  · exact e
theorem oI_ok {a : Option Nat} (h : ∀ j, a = some j → j < 1000) : oI a = -1 ∨ tRng (oI a) 1000 := by
  rcases a with _ | j
  · exact Or.inl rfl
  · exact Or.inr (tRng_nI (h j rfl) (by decide))
theorem oI_none {a : Option Nat} (h : ∀ j, a = some j → j < 1000) (q : oI a = -1) : a = none := by
  rcases a with _ | j
  · rfl
  · exact absurd q (nI_nm1 (Nat.lt_trans (h j rfl) (by decide)))
theorem oI_nlt {cu : Option Nat} {x : Nat} (hx : x < 2 ^ 31) (h : ∀ j, cu = some j → j ≤ x) : ¬ nI x < oI cu := by
  rw [Int32.lt_iff_toInt_lt, nI_toInt hx]
  rcases cu with _ | j
  · show ¬ (x : Int) < (-1 : Int32).toInt
    rw [show (-1 : Int32).toInt = -1 from by decide]
    omega
  · have := h j rfl
    show ¬ (x : Int) < (nI j).toInt
    rw [nI_toInt (by omega)]
    omega
theorem oI_lt {cu : Option Nat} {x : Nat} (q : ∃ j, cu = some j ∧ x < j) (hb : ∀ j, cu = some j → j < 2 ^ 31) : nI x < oI cu := by
  obtain ⟨j, rfl, h⟩ := q
  exact nI_lt h (hb j rfl)
theorem tb_neg_lt {i : Int32} {j : Nat} (h : i < 0) (hj : j < 2 ^ 31 := by decide) : i < nI j := by
  rw [Int32.lt_iff_toInt_lt, Int32.toInt_zero] at h
  rw [Int32.lt_iff_toInt_lt, nI_toInt hj]
  omega
theorem tLow_lt {a b : Option Nat} {x : Nat} (ha : ∀ j, a = some j → j < 1000) (hb : ∀ j, b = some j → j < 1000) (hx : x < 1000) : tLow a b x < 2 ^ 31 := by
  rcases a with _ | a
  · show x * 1000000 < 2 ^ 31
    omega
  · have h1 := ha a rfl
    rcases b with _ | b
    · show a * 1000000 + x * 1000 < 2 ^ 31
      omega
    · have h2 := hb b rfl
      show a * 1000000 + b * 1000 + x < 2 ^ 31
      omega
theorem tUp_lt {z : Nat → Nat} {k v m : Nat} (h : ∀ j, z j < m) (hv : v < m) : ∀ j, va_up z k v j < m := fun j => by
  unfold va_up
  split
  · exact hv
  · exact h j
theorem tCpy_lt {z : Nat → Nat} {a b n m : Nat} (h : ∀ j, z j < m) : ∀ j, va_cpy z z a b n j < m := fun j => by
  unfold va_cpy
  split
  · exact h _
  · exact h j
theorem tPut_b {f : Nat → Nat} {n x m : Nat} (h : ∀ j, f j < m) (hx : x < m) : ∀ j, tPut f n x j < m := tUp_lt (tCpy_lt h) hx
theorem tPut_eq (f : Nat → Nat) (n x : Nat) : tPut f n x (tCnt f x n) = x := va_up_self _ _ _
theorem tPut_lo {f : Nat → Nat} {n x j : Nat} (h : j < tCnt f x n) : tPut f n x j = f j := by
  unfold tPut
  rw [va_up_ne _ _ (by omega), va_cpy, if_neg (by omega)]
theorem tPut_hi {f : Nat → Nat} {n x j : Nat} (h : tCnt f x n < j) (hj : j ≤ n) : tPut f n x j = f (j - 1) := by
  unfold tPut
  rw [va_up_ne _ _ (by omega), va_cpy, if_pos (by omega)]
  congr 1
  omega
theorem tPut_S {f : Nat → Nat} {n x : Nat} (hs : tS f n) (hx : ∀ j, j < n → f j ≠ x) : tS (tPut f n x) (n + 1) := by
  obtain ⟨h1, h2⟩ := tCnt_split (x := x) hs
  have hk := tCnt_le f x n
  intro i j hij hj
  rcases Nat.lt_trichotomy i (tCnt f x n) with a | a | a
  · rw [tPut_lo a]
    rcases Nat.lt_trichotomy j (tCnt f x n) with b | b | b
    · rw [tPut_lo b]
      exact hs i j hij (by omega)
    · rw [b, tPut_eq]
      exact h1 i a
    · rw [tPut_hi b (by omega)]
      exact Nat.lt_of_lt_of_le (h1 i a) (h2 (j - 1) (by omega) (by omega))
  · have e := h2 (j - 1) (by omega) (by omega)
    have n1 := hx (j - 1) (by omega)
    rw [a, tPut_eq, tPut_hi (by omega) (by omega)]
    omega
  · rw [tPut_hi a (by omega), tPut_hi (by omega) (by omega)]
    exact hs (i - 1) (j - 1) (by omega) (by omega)
theorem tPut_mem {f : Nat → Nat} {n x y : Nat} : (∃ j, j < n + 1 ∧ tPut f n x j = y) ↔ y = x ∨ ∃ j, j < n ∧ f j = y := by
  have hk := tCnt_le f x n
  constructor
  · rintro ⟨j, hj, rfl⟩
    rcases Nat.lt_trichotomy j (tCnt f x n) with a | a | a
    · exact Or.inr ⟨j, by omega, (tPut_lo a).symm⟩
    · exact Or.inl (by rw [a, tPut_eq])
    · exact Or.inr ⟨j - 1, by omega, (tPut_hi a (by omega)).symm⟩
  · rintro (rfl | ⟨j, hj, rfl⟩)
    · exact ⟨_, by omega, tPut_eq f n y⟩
    · by_cases a : j < tCnt f x n
      · exact ⟨j, by omega, tPut_lo a⟩
      · exact ⟨j + 1, by omega, by rw [tPut_hi (by omega) (by omega)]; rfl⟩
abbrev tTh (V E : Nat → Nat) (x i : Nat) : Prop := V i ≤ x ∧ x < E i
/-- the row that comes of putting in, one after the other, the keys k i of those i that p has -/
def tRP (p : Nat → Bool) (k f : Nat → Nat) : Nat → Nat × (Nat → Nat)
  | 0 => (0, f)
  | i + 1 => if p i = true then ((tRP p k f i).1 + 1, tPut (tRP p k f i).2 (tRP p k f i).1 (k i)) else tRP p k f i
theorem tRP_yes {p : Nat → Bool} {k f : Nat → Nat} {i : Nat} (h : p i = true) : tRP p k f (i + 1) = ((tRP p k f i).1 + 1, tPut (tRP p k f i).2 (tRP p k f i).1 (k i)) := by rw [tRP, if_pos h]
theorem tRP_no {p : Nat → Bool} {k f : Nat → Nat} {i : Nat} (h : p i = false) : tRP p k f (i + 1) = tRP p k f i := by rw [tRP, if_neg (by rw [h]; decide)]
theorem tRP_le (p : Nat → Bool) (k f : Nat → Nat) : ∀ i, (tRP p k f i).1 ≤ i
  | 0 => Nat.le_refl _
  | i + 1 => by
    have := tRP_le p k f i
    rw [tRP]
    split
    · show (tRP p k f i).1 + 1 ≤ i + 1
      omega
    · omega
theorem tRP_b (p : Nat → Bool) (k f : Nat → Nat) {m : Nat} (hf : ∀ j, f j < m) (hk : ∀ j, k j < m) : ∀ i j, (tRP p k f i).2 j < m
  | 0 => hf
  | i + 1 => by
    rw [tRP]
    split
    · exact tPut_b (tRP_b p k f hf hk i) (hk i)
    · exact tRP_b p k f hf hk i
theorem tRP_S (p : Nat → Bool) (k f : Nat → Nat) (n : Nat) (hd : ∀ i j, i < n → j < n → p i = true → p j = true → k i = k j → i = j) :
    ∀ i, i ≤ n → tS (tRP p k f i).2 (tRP p k f i).1 ∧ ∀ y, (∃ j, j < (tRP p k f i).1 ∧ (tRP p k f i).2 j = y) ↔ ∃ j, j < i ∧ p j = true ∧ k j = y
  | 0, _ => ⟨fun i j _ h => absurd h (Nat.not_lt_zero _), fun y => ⟨fun ⟨j, h, _⟩ => absurd h (Nat.not_lt_zero _), fun ⟨j, h, _⟩ => absurd h (Nat.not_lt_zero _)⟩⟩
  | i + 1, hi => by
    obtain ⟨h1, h2⟩ := tRP_S p k f n hd i (by omega)
    by_cases q : p i = true
    · rw [tRP_yes q]
      refine ⟨tPut_S h1 (fun j hj e => ?_), fun y => ?_⟩
      · obtain ⟨u, hu, hp, he⟩ := (h2 (k i)).mp ⟨j, hj, e⟩
        have := hd u i (by omega) (by omega) hp q he
        omega
      · rw [tPut_mem, h2 y]
        constructor
        · rintro (rfl | ⟨j, a, b, d⟩)
          · exact ⟨i, by omega, q, rfl⟩
          · exact ⟨j, by omega, b, d⟩
        · rintro ⟨j, a, b, d⟩
          by_cases e : j = i
          · subst e
            exact Or.inl d.symm
          · exact Or.inr ⟨j, by omega, b, d⟩
    · have q' : p i = false := by
        cases h : p i with
        | false => rfl
        | true => exact absurd h q
      rw [tRP_no q']
      refine ⟨h1, fun y => ?_⟩
      rw [h2 y]
      constructor
      · rintro ⟨j, a, b, d⟩
        exact ⟨j, by omega, b, d⟩
      · rintro ⟨j, a, b, d⟩
        by_cases e : j = i
        · subst e
          exact absurd b q
        · exact ⟨j, by omega, b, d⟩
theorem tFree_lt (a b : Option Nat) : tFree a b < 3 := by
  rcases a with _ | a
  · exact (by decide : 0 < 3)
  · rcases b with _ | b
    · exact (by decide : 1 < 3)
    · exact (by decide : 2 < 3)
/-- the tallies: of those i that p has, the number t i goes from u to u + 1 -/
def tTa (p : Nat → Bool) (t : Nat → Nat) (u : Nat) (T : Nat → Nat) : Nat → Nat → Nat
  | 0 => T
  | i + 1 => if p i = true ∧ tTa p t u T i (t i) = u then va_up (tTa p t u T i) (t i) (u + 1) else tTa p t u T i
theorem tTa_yes {p : Nat → Bool} {t T : Nat → Nat} {u i : Nat} (h : p i = true) (h2 : tTa p t u T i (t i) = u) : tTa p t u T (i + 1) = va_up (tTa p t u T i) (t i) (u + 1) := by rw [tTa, if_pos ⟨h, h2⟩]
theorem tTa_no {p : Nat → Bool} {t T : Nat → Nat} {u i : Nat} (h : p i = false ∨ ¬ tTa p t u T i (t i) = u) : tTa p t u T (i + 1) = tTa p t u T i := by
  rw [tTa, if_neg]
  rintro ⟨a, b⟩
  rcases h with h | h
  · rw [h] at a
    cases a
  · exact h b
theorem tTa_b (p : Nat → Bool) (t : Nat → Nat) (u : Nat) {T : Nat → Nat} (hT : ∀ j, T j < 2 ^ 31) (hu : u < 1000) : ∀ i j, tTa p t u T i j < 2 ^ 31
  | 0 => hT
  | i + 1 => by
    rw [tTa]
    split
    · exact tUp_lt (tTa_b p t u hT hu i) (by omega)
    · exact tTa_b p t u hT hu i
/-- how many of the first i are u -/
def tCn (T : Nat → Nat) (u : Nat) : Nat → Nat
  | 0 => 0
  | i + 1 => if T i = u then tCn T u i + 1 else tCn T u i
theorem tCn_yes {T : Nat → Nat} {u i : Nat} (h : T i = u) : tCn T u (i + 1) = tCn T u i + 1 := by rw [tCn, if_pos h]
theorem tCn_no {T : Nat → Nat} {u i : Nat} (h : ¬ T i = u) : tCn T u (i + 1) = tCn T u i := by rw [tCn, if_neg h]
theorem tRng_out {x : Int32} (h : ¬ tRng x 5) : x.toInt < 0 ∨ 4 < x.toInt := by
  rw [tRng] at h
  omega
/-- an array whose first i places have been filled -/
def tFl (T : Nat → Nat) (u : Nat) : Nat → Nat → Nat
  | 0 => T
  | i + 1 => va_up (tFl T u i) i u
theorem tFl_b {T : Nat → Nat} {u m : Nat} (hT : ∀ j, T j < m) (hu : u < m) : ∀ i j, tFl T u i j < m
  | 0 => hT
  | i + 1 => tUp_lt (tFl_b hT hu i) hu
/-- the sum of t i over those i that p has -/
def tSm (p : Nat → Bool) (t : Nat → Nat) : Nat → Nat
  | 0 => 0
  | i + 1 => if p i = true then tSm p t i + t i else tSm p t i
theorem tSm_yes {p : Nat → Bool} {t : Nat → Nat} {i : Nat} (h : p i = true) : tSm p t (i + 1) = tSm p t i + t i := by rw [tSm, if_pos h]
theorem tSm_no {p : Nat → Bool} {t : Nat → Nat} {i : Nat} (h : p i = false) : tSm p t (i + 1) = tSm p t i := by rw [tSm, if_neg (by rw [h]; decide)]
/-- the tallies of k leads, one after the other -/
def tLp (P : Nat → Nat → Bool) (t : Nat → Nat → Nat) (T : Nat → Nat) (n : Nat) : Nat → Nat → Nat
  | 0 => T
  | k + 1 => tTa (P k) (t k) k (tLp P t T n k) n
theorem tLp_b (P : Nat → Nat → Bool) (t : Nat → Nat → Nat) {T : Nat → Nat} (hT : ∀ j, T j < 2 ^ 31) (n : Nat) : ∀ k, k < 1000 → ∀ j, tLp P t T n k j < 2 ^ 31
  | 0, _ => hT
  | k + 1, h => tTa_b (P k) (t k) k (tLp_b P t hT n k (by omega)) (by omega) n
theorem tRP_mono (p : Nat → Bool) (k f : Nat → Nat) : ∀ {i j : Nat}, i ≤ j → (tRP p k f i).1 ≤ (tRP p k f j).1
  | i, 0, h => by rw [show i = 0 by omega]; exact Nat.le_refl _
  | i, j + 1, h => by
    rcases Nat.lt_or_eq_of_le h with q | q
    · have := tRP_mono p k f (show i ≤ j by omega)
      rw [tRP.eq_def p k f (j + 1)]
      dsimp only
      split
      · show (tRP p k f i).1 ≤ (tRP p k f j).1 + 1
        omega
      · exact this
    · rw [q]; exact Nat.le_refl _
theorem tRP_bi (p : Nat → Bool) (k f : Nat → Nat) {m : Nat} (hf : ∀ j, f j < m) : ∀ i, (∀ j, j < i → k j < m) → ∀ j, (tRP p k f i).2 j < m
  | 0, _ => hf
  | i + 1, hk => by
    rw [tRP]
    split
    · exact tPut_b (tRP_bi p k f hf i (fun j h => hk j (by omega))) (hk i (by omega))
    · exact tRP_bi p k f hf i (fun j h => hk j (by omega))
