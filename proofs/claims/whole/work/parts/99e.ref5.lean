/-! what holds between two calls of the law: the log, the pages, (iHa: the hand,) the leads, the numbers found, the work arrays -/
def gL (R n now : Nat) (cu : Option Nat) (X Y Z V E T : Nat → Nat) (C : Nat → Bool) (nt : Nat) : Prop :=
  R ≤ 400 ∧ n ≤ R ∧ iTr T X Y Z ∧ iLog T V E C n ∧ iMono V n ∧ now = mNow V n cu ∧ (∀ j, V j < 1000001) ∧ (∀ j, E j < 1000002) ∧ (∀ j, cu = some j → j < 1000001) ∧ tSum (iOp E) n = nt
def gP (nt n : Nat) (F : Nat → Nat → Nat) (Q : Nat → Nat) (Zf : Nat → Nat → Nat) (K S P T : Nat → Nat) (C : Nat → Bool) : Prop := iPs nt F Q Zf K S P ∧ iMem nt F T C n
def gD (lc : Nat) (lo : Nat → Nat) (lA lB : Nat → Option Nat) (lo2 : Nat → Nat) (lA2 lB2 : Nat → Option Nat) : Prop :=
  lc ≤ 4 ∧ (∀ k, k < 4 → lo k < 6) ∧ (∀ k, k < 4 → ∀ j, lA k = some j → j < 1000) ∧ (∀ k, k < 4 → ∀ j, lB k = some j → j < 1000) ∧ (∀ k, k < 4 → lo2 k < 6) ∧ (∀ k, k < 4 → ∀ j, lA2 k = some j → j < 1000) ∧ (∀ k, k < 4 → ∀ j, lB2 k = some j → j < 1000) ∧ ∀ k, k < lc → lo2 k = lo k ∧ lA2 k = lA k ∧ lB2 k = lB k
def gF (R nn : Nat) (nf Fd : Nat → Nat) : Prop := nn ≤ R ∧ (∀ j, j < nn → nf j = Fd j) ∧ ∀ j, nf j < 1000
def gS (TY G9 Hd : Nat → Nat) : Prop := (∀ j, TY j < 2 ^ 31) ∧ (∀ j, G9 j < 1000000000) ∧ ∀ j, Hd j < 2 ^ 31
theorem gL.fac {R n now nt : Nat} {cu : Option Nat} {X Y Z V E T : Nat → Nat} {C : Nat → Bool} (h : gL R n now cu X Y Z V E T C nt) :
    R ≤ 400 ∧ n ≤ R ∧ (∀ j, X j < 1000) ∧ (∀ j, Y j < 1000) ∧ (∀ j, Z j < 1000) ∧ (∀ j, V j < 2 ^ 31) ∧ (∀ j, E j < 2 ^ 31) ∧ (∀ j, T j < 1000000000) ∧ (∀ j, cu = some j → j < 2 ^ 31) ∧ now = mNow V n cu ∧ now < 1000001 ∧ nt ≤ n := by
  obtain ⟨h1, h2, h3, h4, h5, h6, h7, h8, h9, h10⟩ := h
  refine ⟨h1, h2, h3.2.1, h3.2.2.1, h3.2.2.2, fun j => Nat.lt_trans (h7 j) (by decide), fun j => Nat.lt_trans (h8 j) (by decide), h3.b, fun j q => Nat.lt_trans (h9 j q) (by decide), h6, ?_, ?_⟩
  · rw [h6]
    unfold mNow
    have a : cu.getD 0 < 1000001 := by
      rcases cu with _ | c
      · exact (by decide : (0 : Nat) < 1000001)
      · exact h9 c rfl
    have b : (if n = 0 then 0 else V (n - 1)) < 1000001 := by
      split
      · decide
      · exact h7 _
    omega
  · have := iOp_le E n
    omega
theorem iTr_up {T X Y Z : Nat → Nat} {n a b d : Nat} (h : iTr T X Y Z) (ha : a < 1000) (hb : b < 1000) (hd : d < 1000) : iTr (va_up T n (a * 1000000 + b * 1000 + d)) (va_up X n a) (va_up Y n b) (va_up Z n d) := by
  refine ⟨fun j => ?_, tUp_lt h.2.1 ha, tUp_lt h.2.2.1 hb, tUp_lt h.2.2.2 hd⟩
  by_cases e : j = n
  · rw [e, va_up_self, va_up_self, va_up_self, va_up_self]
  · rw [va_up_ne _ _ e, va_up_ne _ _ e, va_up_ne _ _ e, va_up_ne _ _ e]
    exact h.1 j
theorem gL_add {R n now nt a b d vv : Nat} {cu : Option Nat} {X Y Z V E T : Nat → Nat} {C : Nat → Bool} (h : gL R n now cu X Y Z V E T C nt) (ha : a < 1000) (hb : b < 1000) (hd : d < 1000) (hv : vv < 1000001) (hno : now ≤ vv) (hlt : n < R) (hth : mTh T C (a * 1000000 + b * 1000 + d) n = false) :
    gL R (n + 1) vv cu (va_up X n a) (va_up Y n b) (va_up Z n d) (va_up V n vv) (va_up E n 1000001) (va_up T n (a * 1000000 + b * 1000 + d)) (va_up C n true) (nt + 1) := by
  obtain ⟨h1, h2, h3, h4, h5, h6, h7, h8, h9, h10⟩ := h
  have hV : ∀ k, k < n → V k ≤ vv := fun k hk => Nat.le_trans (mNow_ge (cu := cu) h5 k hk) (by omega)
  exact ⟨h1, hlt, iTr_up h3 ha hb hd, iLog_add h4 hv hV hth, iMono_up h5 hV, (mNow_up (by omega)).symm, tUp_lt h7 hv, tUp_lt h8 (by decide), h9, by rw [iOp_add, h10]⟩
theorem gL_go {R n now nt a b d vv : Nat} {cu : Option Nat} {X Y Z V E T : Nat → Nat} {C : Nat → Bool} (h : gL R n now cu X Y Z V E T C nt) (ha : a < 1000) (hb : b < 1000) (hd : d < 1000) (hv : vv < 1000001) (hno : now ≤ vv) (hlt : n < R) (hth : mTh T C (a * 1000000 + b * 1000 + d) n = true) :
    gL R (n + 1) vv cu (va_up X n a) (va_up Y n b) (va_up Z n d) (va_up V n vv) (va_up (tGo X Y Z E a b d vv n) n vv) (va_up T n (a * 1000000 + b * 1000 + d)) (va_up C n false) (nt - 1) := by
  obtain ⟨h1, h2, h3, h4, h5, h6, h7, h8, h9, h10⟩ := h
  have hV : ∀ k, k < n → V k ≤ vv := fun k hk => Nat.le_trans (mNow_ge (cu := cu) h5 k hk) (by omega)
  obtain ⟨i, i1, i2, i3, i4⟩ := mTh_iff.mp hth
  have hE : E i = 1000001 := by
    rcases ((h4 i i1).2 i3).2.1 with q | ⟨k, k1, k2, k3, k4⟩
    · exact q
    · exact absurd (k3.trans i2) (i4 k k1 k2)
  have hx : X i = a ∧ Y i = b ∧ Z i = d := by
    rw [h3.1 i] at i2
    exact (key3 (h3.2.2.1 i) (h3.2.2.2 i) hb hd).mp i2
  have hgo : tGo X Y Z E a b d vv n = va_up E i vv := tGo_at ⟨hE, hx⟩ i1 (fun j j1 j2 q => i4 j j1 j2 (by rw [h3.1 j, q.2.1, q.2.2.1, q.2.2.2]))
  rw [hgo]
  refine ⟨h1, hlt, iTr_up h3 ha hb hd, iLog_go h4 hV i1 i2 i3 i4, iMono_up h5 hV, (mNow_up (by omega)).symm, tUp_lt h7 hv, tUp_lt (tUp_lt h8 (by omega)) (by omega), h9, ?_⟩
  have := iOp_go hv i1 hE
  omega
theorem gL_cut {R n now nt vv : Nat} {cu : Option Nat} {X Y Z V E T : Nat → Nat} {C : Nat → Bool} (h : gL R n now cu X Y Z V E T C nt) (hv : vv < 1000001) (hcu : ∀ j, cu = some j → j ≤ vv) :
    mCK (fun i => decide (mStay T V C n vv i)) n = tCK E vv n ∧ mCF (fun i => decide (mStay T V C n vv i)) V n = tCF E vv V n ∧ (∀ t, mTh (mCF (fun i => decide (mStay T V C n vv i)) T n) (mCF (fun i => decide (mStay T V C n vv i)) C n) t (tCK E vv n) = mTh T C t n) ∧
      gL R (tCK E vv n) (max now vv) (some vv) (tCF E vv X n) (tCF E vv Y n) (tCF E vv Z n) (tCF E vv V n) (tCF E vv E n) (mCF (fun i => decide (mStay T V C n vv i)) T n) (mCF (fun i => decide (mStay T V C n vv i)) C n) nt := by
  obtain ⟨h1, h2, h3, h4, h5, h6, h7, h8, h9, h10⟩ := h
  have hpq : ∀ i, i < n → (fun i => decide (mStay T V C n vv i)) i = (fun i => decide (vv < E i)) i := fun i hi => decide_eq_decide.mpr (iLog_stay h4 hi hv)
  have e1 : mCK (fun i => decide (mStay T V C n vv i)) n = mCK (fun i => decide (vv < E i)) n := mCK_congr hpq
  have e2 : ∀ {α : Type} (F : Nat → α), mCF (fun i => decide (mStay T V C n vv i)) F n = mCF (fun i => decide (vv < E i)) F n := fun F => mCF_congr hpq
  have hp : ∀ i, i < n → ((fun i => decide (vv < E i)) i = true ↔ vv < E i) := fun i _ => ⟨of_decide_eq_true, decide_eq_true⟩
  rw [e1, e2 V, e2 T, e2 C, tCK_eq, tCF_eq, tCF_eq, tCF_eq, tCF_eq, tCF_eq]
  refine ⟨rfl, rfl, fun t => mTh_cut h4 hv hp, h1, Nat.le_trans (mCK_le _ n) h2, ⟨mCF_3 h3.1 n, mCF_b h3.2.1 n, mCF_b h3.2.2.1 n, mCF_b h3.2.2.2 n⟩, iLog_cut h4 hp, iMono_cut h5, ?_, mCF_b h7 n, mCF_b h8 n, fun j q => ?_, ?_⟩
  · rw [mNow_cut h4 h5 hcu hp, h6]
  · cases q
    exact hv
  · rw [iOp_cut hv hp, h10]
theorem gL_clear {R n now nt : Nat} {cu : Option Nat} {X Y Z V E T : Nat → Nat} {C : Nat → Bool} (h : gL R n now cu X Y Z V E T C nt) : gL R 0 0 none X Y Z V E T C 0 := by
  obtain ⟨h1, h2, h3, h4, h5, h6, h7, h8, h9, h10⟩ := h
  exact ⟨h1, Nat.zero_le _, h3, fun i hi => absurd hi (Nat.not_lt_zero _), fun i j _ hj => absurd hj (Nat.not_lt_zero _), rfl, h7, h8, fun j q => (by cases q), rfl⟩
theorem gP.fac {nt n : Nat} {F Zf : Nat → Nat → Nat} {Q K S P T : Nat → Nat} {C : Nat → Bool} (h : gP nt n F Q Zf K S P T C) :
    (∀ i, i < 6 → tS (F i) nt) ∧ (∀ i j, F i j < 2 ^ 31) ∧ (∀ i, i < 6 → Q i ≤ nt) ∧ (∀ i, i < 6 → tSum (Zf i) (Q i) = nt) ∧ (∀ i j, Zf i j ≤ 1000) ∧ (∀ i, i < 6 → ∀ j, j < Q i → 0 < Zf i j) := by
  obtain ⟨⟨h1, h2, h3, h4, h5, h6⟩, h7⟩ := h
  exact ⟨fun i hi => (h1 i hi).1.1, h2, fun i hi => (h1 i hi).1.q, fun i hi => (h1 i hi).1.2.2.1, fun i j => Nat.le_trans (h3 i j) (by decide), fun i hi => (h1 i hi).1.2.2.2.1⟩
theorem gP.facm {nt n : Nat} {F Zf : Nat → Nat → Nat} {Q K S P T : Nat → Nat} {C : Nat → Bool} (h : gP nt n F Q Zf K S P T C) :
    (∀ k, k < 6 → tS (fun j => K (400 * k + j)) nt) ∧ (∀ k, k < 6 → tSum (fun j => S (400 * k + j)) (P k) = nt) ∧ (∀ k, k < 6 → ∀ j, j < P k → 0 < S (400 * k + j)) ∧ (∀ k, k < 6 → P k ≤ nt) ∧ (∀ j, K j < 2 ^ 31) ∧ (∀ j, S j ≤ 16) ∧ (∀ j, P j ≤ 400) ∧ (∀ k, k < 6 → P k = Q k) ∧ (∀ k, k < 6 → ∀ j, j < Q k → S (400 * k + j) = Zf k j) ∧ (∀ k, k < 6 → ∀ j, j < nt → K (400 * k + j) = F k j) := by
  obtain ⟨⟨h1, h2, h3, h4, h5, h6⟩, h7⟩ := h
  refine ⟨fun k hk => ?_, fun k hk => ?_, fun k hk j hj => ?_, fun k hk => ?_, h4, h5, h6, fun k hk => (h1 k hk).2, fun k hk => (h1 k hk).1.2.2.2.2.1, fun k hk => (h1 k hk).1.2.1⟩
  · obtain ⟨⟨a1, a2, a3, a4, a5, a6⟩, b1⟩ := h1 k hk
    intro i j hij hj
    show K (400 * k + i) < K (400 * k + j)
    rw [show K (400 * k + i) = F k i from a2 i (by omega), show K (400 * k + j) = F k j from a2 j hj]
    exact a1 i j hij hj
  · obtain ⟨⟨a1, a2, a3, a4, a5, a6⟩, b1⟩ := h1 k hk
    rw [b1, tSum_congr a5]
    exact a3
  · obtain ⟨⟨a1, a2, a3, a4, a5, a6⟩, b1⟩ := h1 k hk
    rw [b1] at hj
    rw [show S (400 * k + j) = Zf k j from a5 j hj]
    exact a4 j hj
  · obtain ⟨g1, b1⟩ := h1 k hk
    rw [b1]
    exact g1.q
theorem gP.has {nt n a b d : Nat} {F Zf : Nat → Nat → Nat} {Q K S P T : Nat → Nat} {C : Nat → Bool} (h : gP nt n F Q Zf K S P T C) (ha : a < 1000) (hb : b < 1000) (hd : d < 1000) : tHas (F 0) nt (tKeyOf 0 a b d) ↔ mTh T C (a * 1000000 + b * 1000 + d) n = true := h.2 0 (by decide) a b d ha hb hd
theorem gP.all {nt n a b d : Nat} {F Zf : Nat → Nat → Nat} {Q K S P T : Nat → Nat} {C : Nat → Bool} (h : gP nt n F Q Zf K S P T C) (ha : a < 1000) (hb : b < 1000) (hd : d < 1000) (hth : mTh T C (a * 1000000 + b * 1000 + d) n = true) : ∀ i, i < 6 → tHas (F i) nt (tKeyOf i a b d) := fun i hi => (h.2 i hi a b d ha hb hd).mpr hth
theorem gP.allm {nt n a b d : Nat} {F Zf : Nat → Nat → Nat} {Q K S P T : Nat → Nat} {C : Nat → Bool} (h : gP nt n F Q Zf K S P T C) (ha : a < 1000) (hb : b < 1000) (hd : d < 1000) (hth : mTh T C (a * 1000000 + b * 1000 + d) n = true) : ∀ k, k < 6 → tHas (fun j => K (400 * k + j)) nt (mKey k (a * 1000000 + b * 1000 + d)) := fun k hk => by
  have h1 := h.all ha hb hd hth k hk
  have h2 := h.facm.1 k hk
  obtain ⟨j, j1, j2⟩ := (tHas_iff (h.fac.1 k hk)).mp h1
  refine (tHas_iff h2).mpr ⟨j, j1, ?_⟩
  show K (400 * k + j) = _
  rw [h.facm.2.2.2.2.2.2.2.2.2 k hk j j1, mKey_eq hb hd]
  exact j2
theorem gP.ne {nt n a b d : Nat} {F Zf : Nat → Nat → Nat} {Q K S P T : Nat → Nat} {C : Nat → Bool} (h : gP nt n F Q Zf K S P T C) (ha : a < 1000) (hb : b < 1000) (hd : d < 1000) (hth : mTh T C (a * 1000000 + b * 1000 + d) n = false) : ∀ i, i < 6 → ∀ j, j < nt → F i j ≠ tKeyOf i a b d := iMem_ne h.2 h.fac.1 ha hb hd hth
theorem gP.nem {nt n a b d : Nat} {F Zf : Nat → Nat → Nat} {Q K S P T : Nat → Nat} {C : Nat → Bool} (h : gP nt n F Q Zf K S P T C) (ha : a < 1000) (hb : b < 1000) (hd : d < 1000) (hth : mTh T C (a * 1000000 + b * 1000 + d) n = false) : ∀ k, k < 6 → ∀ j, j < nt → K (400 * k + j) ≠ mKey k (a * 1000000 + b * 1000 + d) := fun k hk j hj => by
  rw [h.facm.2.2.2.2.2.2.2.2.2 k hk j hj, mKey_eq hb hd]
  exact h.ne ha hb hd hth k hk j hj
theorem gP_add {nt n a b d : Nat} {F Zf : Nat → Nat → Nat} {Q K S P T : Nat → Nat} {C : Nat → Bool} (h : gP nt n F Q Zf K S P T C) (h0 : 0 < nt) (hnt : nt < 400) (ha : a < 1000) (hb : b < 1000) (hd : d < 1000) (hth : mTh T C (a * 1000000 + b * 1000 + d) n = false) :
    gP (nt + 1) (n + 1) (fun i => tPut (F i) nt (tKeyOf i a b d)) (fun i => tQ1 (F i) (Zf i) nt (Q i) (tKeyOf i a b d)) (fun i => tZ1 (F i) (Zf i) nt (Q i) (tKeyOf i a b d)) (mI nt (a * 1000000 + b * 1000 + d) K S P 6).1 (mI nt (a * 1000000 + b * 1000 + d) K S P 6).2.1 (mI nt (a * 1000000 + b * 1000 + d) K S P 6).2.2 (va_up T n (a * 1000000 + b * 1000 + d)) (va_up C n true) :=
  ⟨iPs_add h.1 h0 hnt ha hb hd (h.ne ha hb hd hth), iMem_add h.2 h.fac.1 ha hb hd (h.ne ha hb hd hth)⟩
theorem gP_first {n a b d : Nat} {F Zf : Nat → Nat → Nat} {Q K S P T : Nat → Nat} {C : Nat → Bool} (h : gP 0 n F Q Zf K S P T C) (ha : a < 1000) (hb : b < 1000) (hd : d < 1000) (hth : mTh T C (a * 1000000 + b * 1000 + d) n = false) :
    gP (0 + 1) (n + 1) (fun i => tPut (F i) 0 (tKeyOf i a b d)) (fun i => tQ1 (F i) (tOpen (Zf i) 0 0 0) 0 (0 + 1) (tKeyOf i a b d)) (fun i => tZ1 (F i) (tOpen (Zf i) 0 0 0) 0 (0 + 1) (tKeyOf i a b d)) (mI0 (a * 1000000 + b * 1000 + d) K S P 6).1 (mI0 (a * 1000000 + b * 1000 + d) K S P 6).2.1 (mI0 (a * 1000000 + b * 1000 + d) K S P 6).2.2 (va_up T n (a * 1000000 + b * 1000 + d)) (va_up C n true) :=
  ⟨iPs_first h.1 ha hb hd, iMem_add h.2 h.fac.1 ha hb hd (h.ne ha hb hd hth)⟩
theorem gP_take {nt n a b d : Nat} {F Zf : Nat → Nat → Nat} {Q K S P T : Nat → Nat} {C : Nat → Bool} (h : gP nt n F Q Zf K S P T C) (hnt : nt ≤ 400) (ha : a < 1000) (hb : b < 1000) (hd : d < 1000) (hth : mTh T C (a * 1000000 + b * 1000 + d) n = true) :
    gP (nt - 1) (n + 1) (fun i => tTake (F i) nt (tCnt (F i) (tKeyOf i a b d) nt)) (fun i => tQ2 (F i) (Zf i) nt (Q i) (tKeyOf i a b d)) (fun i => tZ2 (F i) (Zf i) nt (Q i) (tKeyOf i a b d)) (mJ nt (a * 1000000 + b * 1000 + d) K S P 6).1 (mJ nt (a * 1000000 + b * 1000 + d) K S P 6).2.1 (mJ nt (a * 1000000 + b * 1000 + d) K S P 6).2.2 (va_up T n (a * 1000000 + b * 1000 + d)) (va_up C n false) :=
  ⟨iPs_take h.1 hnt hb hd (h.all ha hb hd hth), iMem_take h.2 h.fac.1 ha hb hd (h.all ha hb hd hth)⟩
theorem gP_cut {nt n n' : Nat} {F Zf : Nat → Nat → Nat} {Q K S P T T' : Nat → Nat} {C C' : Nat → Bool} (h : gP nt n F Q Zf K S P T C) (ht : ∀ t, mTh T' C' t n' = mTh T C t n) : gP nt n' F Q Zf K S P T' C' :=
  ⟨h.1, fun i hi a b d ha hb hd => by rw [ht]; exact h.2 i hi a b d ha hb hd⟩
theorem gP_clear {nt n : Nat} {F Zf : Nat → Nat → Nat} {Q K S P T : Nat → Nat} {C : Nat → Bool} (h : gP nt n F Q Zf K S P T C) : gP 0 0 F (fun _ => 0) Zf K S (va_up (va_up (va_up (va_up (va_up (va_up P 0 0) 1 0) 2 0) 3 0) 4 0) 5 0) T C := by
  obtain ⟨⟨h1, h2, h3, h4, h5, h6⟩, h7⟩ := h
  have hz : ∀ i, i < 6 → va_up (va_up (va_up (va_up (va_up (va_up P 0 0) 1 0) 2 0) 3 0) 4 0) 5 0 i = 0 := by
    intro i hi
    obtain rfl | rfl | rfl | rfl | rfl | rfl : i = 0 ∨ i = 1 ∨ i = 2 ∨ i = 3 ∨ i = 4 ∨ i = 5 := by omega
    all_goals rfl
  refine ⟨⟨fun i hi => ⟨⟨fun _ _ _ q => absurd q (Nat.not_lt_zero _), fun _ q => absurd q (Nat.not_lt_zero _), rfl, fun _ q => absurd q (Nat.not_lt_zero _), fun _ q => absurd q (Nat.not_lt_zero _), h3 i⟩, hz i hi⟩, h2, h3, h4, h5, ?_⟩, fun i hi a b d _ _ _ => ⟨fun q => absurd q.1 (Nat.not_lt_zero _), fun q => by cases q⟩⟩
  exact tUp_le (tUp_le (tUp_le (tUp_le (tUp_le (tUp_le h6 (by decide)) (by decide)) (by decide)) (by decide)) (by decide)) (by decide)
theorem iHa_clear {R cn o : Nat} {f I : Nat → Nat} {a b : Option Nat} (h : iHa R cn f I o a b) : iHa R 0 f I o a b := by
  obtain ⟨h1, h2, h3, h4, h5, h6, h7, h8, h9, h10⟩ := h
  exact ⟨Nat.zero_le _, fun _ q => absurd q (Nat.not_lt_zero _), fun _ _ _ q => absurd q (Nat.not_lt_zero _), h4, h5, h6, h7, h8, h9, fun _ q => absurd q (Nat.not_lt_zero _)⟩
theorem gF_0 {R nn : Nat} {nf Fd Fd' : Nat → Nat} (h : gF R nn nf Fd) : gF R 0 nf Fd' := ⟨Nat.zero_le _, fun _ q => absurd q (Nat.not_lt_zero _), h.2.2⟩
theorem gD_0 {lc : Nat} {lo lo2 : Nat → Nat} {lA lB lA2 lB2 : Nat → Option Nat} (h : gD lc lo lA lB lo2 lA2 lB2) : gD 0 lo lA lB lo2 lA2 lB2 := by
  obtain ⟨h1, h2, h3, h4, h5, h6, h7, h8⟩ := h
  exact ⟨Nat.zero_le _, h2, h3, h4, h5, h6, h7, fun _ q => absurd q (Nat.not_lt_zero _)⟩
theorem gD_put {lc o : Nat} {lo lo2 : Nat → Nat} {lA lB lA2 lB2 : Nat → Option Nat} {a b : Option Nat} (h : gD lc lo lA lB lo2 lA2 lB2) (hl : lc < 4) (ho : o < 6) (ha : ∀ j, a = some j → j < 1000) (hb : ∀ j, b = some j → j < 1000) :
    gD (lc + 1) (va_up lo lc o) (va_up lA lc a) (va_up lB lc b) (va_up lo2 lc o) (va_up lA2 lc a) (va_up lB2 lc b) := by
  obtain ⟨h1, h2, h3, h4, h5, h6, h7, h8⟩ := h
  have up : ∀ {f : Nat → Nat}, (∀ k, k < 4 → f k < 6) → ∀ k, k < 4 → va_up f lc o k < 6 := fun {f} hf k hk => by
    by_cases e : k = lc
    · rw [e, va_up_self]
      exact ho
    · rw [va_up_ne _ _ e]
      exact hf k hk
  have upo : ∀ {f : Nat → Option Nat} {c : Option Nat}, (∀ j, c = some j → j < 1000) → (∀ k, k < 4 → ∀ j, f k = some j → j < 1000) → ∀ k, k < 4 → ∀ j, va_up f lc c k = some j → j < 1000 := fun {f c} hc hf k hk j => by
    by_cases e : k = lc
    · rw [e, va_up_self]
      exact hc j
    · rw [va_up_ne _ _ e]
      exact hf k hk j
  refine ⟨hl, up h2, upo ha h3, upo hb h4, up h5, upo ha h6, upo hb h7, fun k hk => ?_⟩
  by_cases e : k = lc
  · rw [e, va_up_self, va_up_self, va_up_self, va_up_self, va_up_self, va_up_self]
    exact ⟨rfl, rfl, rfl⟩
  · rw [va_up_ne _ _ e, va_up_ne _ _ e, va_up_ne _ _ e, va_up_ne _ _ e, va_up_ne _ _ e, va_up_ne _ _ e]
    exact h8 k (by omega)
/-- a leap: the same numbers are found -/
theorem gF_leap {R n now nt vv lc my : Nat} {cu : Option Nat} {X Y Z V E T TY G9 Hd nf Fd : Nat → Nat} {C : Nat → Bool} {lo lo2 : Nat → Nat} {lA lB lA2 lB2 : Nat → Option Nat} (hL : gL R n now cu X Y Z V E T C nt) (hD : gD lc lo lA lB lo2 lA2 lB2) (hl0 : 0 < lc) (hv : vv < 1000001) (hnf : ∀ j, nf j < 1000) :
    (tRP (tNP (tLp (tPLs V E X Y Z vv lo lA lB) (tTLs X Y Z lo lA lB) (tFl TY 0 1000) n lc) lc) tId nf 1000).1 = (mFn (mHd T V C n lo2 lA2 lB2 vv my G9 Hd lc) lc Fd 1000).1 ∧
      gF R (tRP (tNP (tLp (tPLs V E X Y Z vv lo lA lB) (tTLs X Y Z lo lA lB) (tFl TY 0 1000) n lc) lc) tId nf 1000).1 (tRP (tNP (tLp (tPLs V E X Y Z vv lo lA lB) (tTLs X Y Z lo lA lB) (tFl TY 0 1000) n lc) lc) tId nf 1000).2 (mFn (mHd T V C n lo2 lA2 lB2 vv my G9 Hd lc) lc Fd 1000).2 := by
  obtain ⟨h1, h2, h3, h4, h5, h6, h7, h8, h9, h10⟩ := hL
  obtain ⟨d1, d2, d3, d4, d5, d6, d7, d8⟩ := hD
  have hT := iLeapT (D := TY) (G := G9) (Hd := Hd) (my := my) (lo := lo) (lo' := lo2) (lA := lA) (lB := lB) (lA' := lA2) (lB' := lB2) h4 h3 hv (fun k hk => ⟨d2 k (by omega), d8 k hk⟩) lc (Nat.le_refl _)
  obtain ⟨e1, e2, e3⟩ := iFnd (A := tLp (tPLs V E X Y Z vv lo lA lB) (tTLs X Y Z lo lA lB) (tFl TY 0 1000) n lc) (B := mHd T V C n lo2 lA2 lB2 vv my G9 Hd lc) (f := nf) (F := Fd) (u := lc) 1000 (fun x hx => by rw [hT x hx])
  exact ⟨e1, Nat.le_trans (iCap hl0) h2, fun j hj => (e2 j hj).1, tRP_bi _ _ _ hnf 1000 (fun j hj => hj)⟩
theorem gS_0 {TY G9 Hd : Nat → Nat} (h : gS TY G9 Hd) : gS TY G9 (tFl Hd 0 1000) := ⟨h.1, h.2.1, tFl_b h.2.2 (by decide) 1000⟩
theorem gS_G {TY G9 Hd T V : Nat → Nat} {C : Nat → Bool} {n o x : Nat} {a b : Option Nat} (h : gS TY G9 Hd) (hT : ∀ j, T j < 1000000000) : gS TY (mRow T V C n o a b x G9 n).2 Hd := ⟨h.1, mRow_b hT h.2.1 n, h.2.2⟩
theorem gS_T {TY G9 Hd t : Nat → Nat} {p : Nat → Bool} {n : Nat} (h : gS TY G9 Hd) : gS (tTa p t 0 (tFl TY 0 1000) n) G9 Hd := ⟨tTa_b p t 0 (tFl_b h.1 (by decide) 1000) (by decide) n, h.2⟩
theorem gS_L {TY G9 Hd T V lo2 : Nat → Nat} {C : Nat → Bool} {n vv my lc : Nat} {lA2 lB2 : Nat → Option Nat} {P : Nat → Nat → Bool} {t : Nat → Nat → Nat} (h : gS TY G9 Hd) (hT : ∀ j, T j < 1000000000) (hl : lc ≤ 4) : gS (tLp P t (tFl TY 0 1000) n lc) (mGl T V C n lo2 lA2 lB2 vv my G9 lc).2 (mHd T V C n lo2 lA2 lB2 vv my G9 Hd lc) :=
  ⟨tLp_b P t (tFl_b h.1 (by decide) 1000) n lc (by omega), mGl_b hT h.2.1 lc, mHd_b h.2.2 lc (by omega)⟩
/-- the start -/
theorem gL_start {R : Nat} (hR : R ≤ 400) : gL R 0 0 none (fun _ => 0) (fun _ => 0) (fun _ => 0) (fun _ => 0) (fun _ => 0) (fun _ => 0) (fun _ => false) 0 :=
  ⟨hR, Nat.zero_le _, ⟨fun _ => (by show (0 : Nat) = 0 * 1000000 + 0 * 1000 + 0; omega), fun _ => (by decide : (0 : Nat) < 1000), fun _ => (by decide : (0 : Nat) < 1000), fun _ => (by decide : (0 : Nat) < 1000)⟩, fun i hi => absurd hi (Nat.not_lt_zero _), fun i j _ hj => absurd hj (Nat.not_lt_zero _), rfl, fun _ => (by decide : (0 : Nat) < 1000001), fun _ => (by decide : (0 : Nat) < 1000002), fun j q => (by cases q), rfl⟩
theorem gP_start {T : Nat → Nat} {C : Nat → Bool} : gP 0 0 (fun _ _ => 0) (fun _ => 0) (fun _ _ => 0) (fun _ => 0) (fun _ => 0) (fun _ => 0) T C :=
  ⟨⟨fun i hi => ⟨⟨fun _ _ _ q => absurd q (Nat.not_lt_zero _), fun _ q => absurd q (Nat.not_lt_zero _), rfl, fun _ q => absurd q (Nat.not_lt_zero _), fun _ q => absurd q (Nat.not_lt_zero _), fun _ => Nat.zero_le _⟩, rfl⟩, fun _ _ => (by decide : (0 : Nat) < 2 ^ 31), fun _ _ => Nat.zero_le _, fun _ => (by decide : (0 : Nat) < 2 ^ 31), fun _ => Nat.zero_le _, fun _ => Nat.zero_le _⟩, fun i hi a b d _ _ _ => ⟨fun q => absurd q.1 (Nat.not_lt_zero _), fun q => by cases q⟩⟩
theorem iHa_start {R : Nat} : iHa R 0 (fun _ => 0) (fun _ => 0) 0 none none :=
  ⟨Nat.zero_le _, fun _ q => absurd q (Nat.not_lt_zero _), fun _ _ _ q => absurd q (Nat.not_lt_zero _), fun _ => (by decide : (0 : Nat) < 1000000000), fun _ => (by decide : (0 : Nat) < 1000000000), by decide, fun j q => (by cases q), fun j q => (by cases q), fun q => q.2 rfl, fun _ q => absurd q (Nat.not_lt_zero _)⟩
theorem gD_start : gD 0 (fun _ => 0) (fun _ => none) (fun _ => none) (fun _ => 0) (fun _ => some 0) (fun _ => some 0) :=
  ⟨Nat.zero_le _, fun _ _ => (by decide : (0 : Nat) < 6), fun _ _ j q => (by cases q), fun _ _ j q => (by cases q), fun _ _ => (by decide : (0 : Nat) < 6), fun _ _ j q => (by cases q; decide), fun _ _ j q => (by cases q; decide), fun _ q => absurd q (Nat.not_lt_zero _)⟩
theorem gF_start {R : Nat} : gF R 0 (fun _ => 0) (fun _ => 0) := ⟨Nat.zero_le _, fun _ q => absurd q (Nat.not_lt_zero _), fun _ => (by decide : (0 : Nat) < 1000)⟩
theorem gS_start : gS (fun _ => 0) (fun _ => 0) (fun _ => 0) := ⟨fun _ => (by decide : (0 : Nat) < 2 ^ 31), fun _ => (by decide : (0 : Nat) < 1000000000), fun _ => (by decide : (0 : Nat) < 2 ^ 31)⟩
/-- what a mark is made of -/
theorem gP.mark {nt n o j : Nat} {F Zf : Nat → Nat → Nat} {Q K S P T : Nat → Nat} {C : Nat → Bool} (h : gP nt n F Q Zf K S P T C) (ho : o < 6) (hj : j < Q o) : tMk (F o) (tSum (Zf o) j) (Zf o j) = tMk K (400 * o + tSum (fun j => S (400 * o + j)) j) (S (400 * o + j)) := by
  obtain ⟨⟨a1, a2, a3, a4, a5, a6⟩, b1⟩ := h.1.1 o ho
  rw [tMk_seg, show S (400 * o + j) = Zf o j from a5 j hj, tSum_congr (g := Zf o) (fun i hi => a5 i (by omega))]
  refine tMk_congr fun i hi => (a2 _ ?_).symm
  have := tSum_mono (Zf o) (show j + 1 ≤ Q o by omega)
  rw [tSum] at this
  omega
theorem gP.term {nt n o j : Nat} {F Zf : Nat → Nat → Nat} {Q K S P T : Nat → Nat} {C : Nat → Bool} (h : gP nt n F Q Zf K S P T C) (ho : o < 6) (hj : j < Q o) : F o (tSum (Zf o) j) = K (400 * o + tSum (fun j => S (400 * o + j)) j) := by
  obtain ⟨⟨a1, a2, a3, a4, a5, a6⟩, b1⟩ := h.1.1 o ho
  rw [tSum_congr (f := fun j => S (400 * o + j)) (g := Zf o) (fun i hi => a5 i (by omega))]
  refine (a2 _ ?_).symm
  have := tSum_mono (Zf o) (show j + 1 ≤ Q o by omega)
  have := a4 j hj
  rw [tSum] at *
  omega
