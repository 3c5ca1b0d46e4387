/-! rows for the reference: arrays of booleans, arrays of numbers that may be -1, shifts of a stretch -/
def aB (f : Nat → Bool) : Nat → Int32 := fun j => bB (f j)
def aO (f : Nat → Option Nat) : Nat → Int32 := fun j => oI (f j)
theorem aB_up (f : Nat → Bool) (k : Nat) (b : Bool) : upd (aB f) k (vp_nar .boolean (bB b)) = aB (va_up f k b) := by
  have e : vp_nar .boolean (bB b) = bB b := by cases b <;> rfl
  rw [e]
  funext j
  by_cases h : j = k
  · subst h
    rw [pk_us, aB, va_up, if_pos rfl]
  · rw [pk_un h, aB, aB, va_up, if_neg h]
theorem aO_up (f : Nat → Option Nat) (k : Nat) (v : Option Nat) : upd (aO f) k (oI v) = aO (va_up f k v) := by
  funext j
  by_cases h : j = k
  · subst h
    rw [pk_us, aO, va_up, if_pos rfl]
  · rw [pk_un h, aO, aO, va_up, if_neg h]
section TBR
variable {p : Program} {l : Launch} {e : Env} {R : Room} {s : State} {m : MethodId} {args : Array Value} {below : List Frame} {meth : Method} {c : Code} {H : Heap} {locs : List Loc} {cells slots : Nat} {Q : State → Prop}
variable {cc : ByteArray} {pc : Nat} {ls : Array Slot} {rest : List Value} {D : va_G} {cl : List vw_C} {A : Nat → Prop} {a : Nat} {tys : List (ClassId × FieldType)} {ws : va_W} {H0 : Heap}
theorem tb_zald (hx : p.tables.exec = Jvm.exec) (hb : c.code = cc) (hK : va_K D cl tys s) (hP : va_P D cl ws H) (q0 t0 : Nat) {cA : ClassId} {n : Nat} {f : Nat → Bool} (ha : ws[q0]? = some (a, .inl (cA, n, .inl (aB f)))) (ht : tys[t0]? = some (cA, .boolean)) {i : Nat} {v : Bool} (hi : i < n) (hn : n < 2 ^ 31) (hv : f i = v) (hd : decode cc pc = .ok (.baload, 1))
    (kk : W p l e R s m args below meth c H locs cells slots Q (F0 m (pc + 1) ls (.int (bB v) :: rest))) : W p l e R s m args below meth c H locs cells slots Q (F0 m pc ls (.int (nI i) :: .ref a :: rest)) := by
  subst hv
  refine va_zald hx hb hK hP q0 t0 ha ht (vp_in_nI hi hn) hd ?_
  rw [nI_clamp (Nat.lt_trans hi hn)]
  exact kk
theorem tb_zast (hx : p.tables.exec = Jvm.exec) (hb : c.code = cc) (hK : va_K D cl tys s) (hP : va_P D cl ws H) (hD : va_D A ws) (hS : va_S A H0 H locs) (q0 t0 : Nat) {cA : ClassId} {n : Nat} {f : Nat → Bool} (ha : ws[q0]? = some (a, .inl (cA, n, .inl (aB f)))) (ht : tys[t0]? = some (cA, .boolean)) {i : Nat} (b : Bool) {x : Int32} (hxb : x = bB b) (hi : i < n) (hn : n < 2 ^ 31) (hd : decode cc pc = .ok (.bastore, 1))
    (kk : ∀ (H1 : Heap) (locs1 : List Loc), va_P D cl (ws.set q0 (a, .inl (cA, n, .inl (aB (va_up f i b))))) H1 → va_D A (ws.set q0 (a, .inl (cA, n, .inl (aB (va_up f i b))))) → va_S A H0 H1 locs1 → W p l e R s m args below meth c H1 locs1 cells slots Q (F0 m (pc + 1) ls rest)) : W p l e R s m args below meth c H locs cells slots Q (F0 m pc ls (.int x :: .int (nI i) :: .ref a :: rest)) := by
  subst hxb
  refine va_zast hx hb hK hP hD hS q0 t0 ha ht (vp_in_nI hi hn) hd ?_
  rw [nI_clamp (Nat.lt_trans hi hn), aB_up]
  exact kk
theorem tb_ialdO (hx : p.tables.exec = Jvm.exec) (hb : c.code = cc) (hK : va_K D cl tys s) (hP : va_P D cl ws H) (q0 t0 : Nat) {cA : ClassId} {n : Nat} {f : Nat → Option Nat} (ha : ws[q0]? = some (a, .inl (cA, n, .inl (aO f)))) (ht : tys[t0]? = some (cA, .int)) {i : Nat} (hi : i < n) (hn : n < 2 ^ 31) (hd : decode cc pc = .ok (.iaload, 1))
    (kk : W p l e R s m args below meth c H locs cells slots Q (F0 m (pc + 1) ls (.int (oI (f i)) :: rest))) : W p l e R s m args below meth c H locs cells slots Q (F0 m pc ls (.int (nI i) :: .ref a :: rest)) := by
  refine va_iald hx hb hK hP q0 t0 ha ht (vp_in_nI hi hn) hd ?_
  rw [nI_clamp (Nat.lt_trans hi hn)]
  exact kk
theorem tb_iastO (hx : p.tables.exec = Jvm.exec) (hb : c.code = cc) (hK : va_K D cl tys s) (hP : va_P D cl ws H) (hD : va_D A ws) (hS : va_S A H0 H locs) (q0 t0 : Nat) {cA : ClassId} {n : Nat} {f : Nat → Option Nat} (ha : ws[q0]? = some (a, .inl (cA, n, .inl (aO f)))) (ht : tys[t0]? = some (cA, .int)) {i : Nat} (v : Option Nat) (hi : i < n) (hn : n < 2 ^ 31) (hd : decode cc pc = .ok (.iastore, 1))
    (kk : ∀ (H1 : Heap) (locs1 : List Loc), va_P D cl (ws.set q0 (a, .inl (cA, n, .inl (aO (va_up f i v))))) H1 → va_D A (ws.set q0 (a, .inl (cA, n, .inl (aO (va_up f i v))))) → va_S A H0 H1 locs1 → W p l e R s m args below meth c H1 locs1 cells slots Q (F0 m (pc + 1) ls rest)) : W p l e R s m args below meth c H locs cells slots Q (F0 m pc ls (.int (oI v) :: .int (nI i) :: .ref a :: rest)) := by
  refine va_iast hx hb hK hP hD hS q0 t0 ha ht (vp_in_nI hi hn) hd ?_
  rw [nI_clamp (Nat.lt_trans hi hn), aO_up]
  exact kk
theorem tb_if_le (hx : p.tables.exec = Jvm.exec) (hb : c.code = cc) {x : Nat} {off : Int} {tgt : Nat} (hd : decode cc pc = .ok (.ifCond .le off, 3)) (ht : (pc : Int) + off = (tgt : Int)) (h1 : x < 2 ^ 31)
    (kt : x = 0 → W p l e R s m args below meth c H locs cells slots Q (F0 m tgt ls rest)) (kf : 0 < x → W p l e R s m args below meth c H locs cells slots Q (F0 m (pc + 3) ls rest)) : W p l e R s m args below meth c H locs cells slots Q (F0 m pc ls (.int (nI x) :: rest)) :=
  lv_if_le hx hb hd ht (fun q => kt (Decidable.byContradiction fun z => nI_nle (by omega) h1 q)) (fun q => kf (Nat.pos_of_ne_zero fun z => q (by rw [z]; decide)))
theorem tb_if_eqb (hx : p.tables.exec = Jvm.exec) (hb : c.code = cc) {b : Bool} {off : Int} {tgt : Nat} (hd : decode cc pc = .ok (.ifCond .eq off, 3)) (ht : (pc : Int) + off = (tgt : Int))
    (kt : b = false → W p l e R s m args below meth c H locs cells slots Q (F0 m tgt ls rest)) (kf : b = true → W p l e R s m args below meth c H locs cells slots Q (F0 m (pc + 3) ls rest)) : W p l e R s m args below meth c H locs cells slots Q (F0 m pc ls (.int (bB b) :: rest)) :=
  lv_if_eq hx hb hd ht (fun q => kt (by cases b with | false => rfl | true => exact absurd q (by decide))) (fun q => kf (by cases b with | true => rfl | false => exact absurd rfl q))
theorem tb_if_neb (hx : p.tables.exec = Jvm.exec) (hb : c.code = cc) {b : Bool} {off : Int} {tgt : Nat} (hd : decode cc pc = .ok (.ifCond .ne off, 3)) (ht : (pc : Int) + off = (tgt : Int))
    (kt : b = true → W p l e R s m args below meth c H locs cells slots Q (F0 m tgt ls rest)) (kf : b = false → W p l e R s m args below meth c H locs cells slots Q (F0 m (pc + 3) ls rest)) : W p l e R s m args below meth c H locs cells slots Q (F0 m pc ls (.int (bB b) :: rest)) :=
  lv_if_ne hx hb hd ht (fun q => kt (by cases b with | true => rfl | false => exact absurd rfl q)) (fun q => kf (by cases b with | false => rfl | true => exact absurd q (by decide)))
end TBR
theorem tb_decN {a : Nat} {k : Int} (h : 0 < a) (hk : Int32.ofInt k = -1) : nI a + Int32.ofInt k = nI (a - 1) := by rw [hk, sb_m1 h]
/-- the places above b + a and up to b + n hold what stood one below -/
def mSf (K : Nat → Nat) (b n a : Nat) : Nat → Nat := fun y => if b + a < y ∧ y ≤ b + n then K (y - 1) else K y
theorem mSf_0 (K : Nat → Nat) (b n : Nat) : mSf K b n n = K := funext fun y => if_neg (by omega)
theorem mSf_lo {K : Nat → Nat} {b n a y : Nat} (h : y ≤ b + a) : mSf K b n a y = K y := if_neg (by omega)
theorem mSf_step {K : Nat → Nat} {b n a : Nat} (h0 : 0 < a) (ha : a ≤ n) : va_up (mSf K b n a) (b + a) (K (b + a - 1)) = mSf K b n (a - 1) := by
  funext y
  by_cases h : y = b + a
  · subst h
    rw [va_up_self, mSf, if_pos (by omega)]
  · rw [va_up_ne _ _ h]
    unfold mSf
    by_cases h2 : b + a < y ∧ y ≤ b + n
    · rw [if_pos h2, if_pos (by omega)]
    · rw [if_neg h2, if_neg (by omega)]
/-- the places from b + p on and below b + k hold what stood one above -/
def mSb (K : Nat → Nat) (b p k : Nat) : Nat → Nat := fun y => if b + p ≤ y ∧ y < b + k then K (y + 1) else K y
theorem mSb_0 (K : Nat → Nat) (b p : Nat) : mSb K b p p = K := funext fun y => if_neg (by omega)
theorem mSb_hi {K : Nat → Nat} {b p k y : Nat} (h : b + k ≤ y) : mSb K b p k y = K y := if_neg (by omega)
theorem mSb_step {K : Nat → Nat} {b p k : Nat} (h0 : p ≤ k) : va_up (mSb K b p k) (b + k) (K (b + k + 1)) = mSb K b p (k + 1) := by
  funext y
  by_cases h : y = b + k
  · subst h
    rw [va_up_self, mSb, if_pos (by omega)]
  · rw [va_up_ne _ _ h]
    unfold mSb
    by_cases h2 : b + p ≤ y ∧ y < b + k
    · rw [if_pos h2, if_pos (by omega)]
    · rw [if_neg h2, if_neg (by omega)]
/-- putting in by shifts is putting in -/
theorem mSf_put {f : Nat → Nat} {n x : Nat} : va_up (mSf f 0 n (tCnt f x n)) (0 + tCnt f x n) x = tPut f n x := by
  have hk := tCnt_le f x n
  unfold tPut
  rw [Nat.zero_add]
  congr 1
  funext y
  unfold mSf va_cpy
  by_cases h : tCnt f x n < y ∧ y ≤ n
  · rw [if_pos (by omega), if_pos (by omega)]
    congr 1
    omega
  · rw [if_neg (by omega), if_neg (by omega)]
/-- the reference's words: a key of an order, now, the latest event, whether a triple is there -/
def mKey (o t : Nat) : Nat := tTerm t (taF (o * 3 + 0)) * 1000000 + tTerm t (taF (o * 3 + 1)) * 1000 + tTerm t (taF (o * 3 + 2))
theorem tTerm_lt {x : Nat} (h : x < 1000000000) (j : Nat) : tTerm x j < 1000 := by
  unfold tTerm
  split
  · omega
  · split
    · omega
    · omega
theorem mKey_lt (o : Nat) {t : Nat} (h : t < 1000000000) : mKey o t < 1000000000 := by
  have a := tTerm_lt h (taF (o * 3 + 0))
  have b := tTerm_lt h (taF (o * 3 + 1))
  have d := tTerm_lt h (taF (o * 3 + 2))
  unfold mKey
  omega
def mNow (V : Nat → Nat) (n : Nat) (cu : Option Nat) : Nat := max (if n = 0 then 0 else V (n - 1)) (cu.getD 0)
abbrev mLat (T V : Nat → Nat) (n i x : Nat) : Prop := V i ≤ x ∧ ∀ k, k < n → i < k → ¬ (T k = T i ∧ V k ≤ x)
def mTh (T : Nat → Nat) (C : Nat → Bool) (t : Nat) : Nat → Bool
  | 0 => false
  | i + 1 => if T i = t then C i else mTh T C t i
theorem mTh_yes {T : Nat → Nat} {C : Nat → Bool} {t i : Nat} (h : T i = t) : mTh T C t (i + 1) = C i := by rw [mTh, if_pos h]
theorem mTh_no {T : Nat → Nat} {C : Nat → Bool} {t i : Nat} (h : ¬ T i = t) : mTh T C t (i + 1) = mTh T C t i := by rw [mTh, if_neg h]
/-- the last page whose first key is not above x -/
def mPA (K S : Nat → Nat) (b x : Nat) : Nat → Nat
  | 0 => 0
  | k + 1 => if K (b + tSum (fun j => S (b + j)) k) ≤ x then k else mPA K S b x k
theorem mPA_yes {K S : Nat → Nat} {b x k : Nat} (h : K (b + tSum (fun j => S (b + j)) k) ≤ x) : mPA K S b x (k + 1) = k := by rw [mPA, if_pos h]
theorem mPA_no {K S : Nat → Nat} {b x k : Nat} (h : x < K (b + tSum (fun j => S (b + j)) k)) : mPA K S b x (k + 1) = mPA K S b x k := by rw [mPA, if_neg (Nat.not_le.mpr h)]
theorem mPA_lt (K S : Nat → Nat) (b x : Nat) : ∀ {q : Nat}, 0 < q → mPA K S b x q < q
  | 0, h => absurd h (Nat.lt_irrefl _)
  | q + 1, _ => by
    rw [mPA]
    split
    · exact Nat.lt_succ_self _
    · rcases Nat.eq_zero_or_pos q with e | e
      · subst e
        exact Nat.lt_succ_self _
      · exact Nat.lt_succ_of_lt (mPA_lt K S b x e)
