/-! new int[3][n]; the array classes are one for each type -/
theorem tb_cls {D : va_G} {cl : List vw_C} {ct : Nat → ClassId} {s : State} {ty : FieldType} {c0 cA : ClassId} (hK : va_K D cl (tyL ct) s) (hK9 : va_K D cl (tyL ct ++ [(cA, ty)]) s) (t : Nat) (h : (tyL ct)[t]? = some (c0, ty)) : cA = c0 := by
  have a := (hK.2 t _ h).2
  have b := (hK9.2 5 (cA, ty) rfl).2
  cases ty with
  | object C =>
    obtain ⟨_, _, _, _, _, a4⟩ := a
    obtain ⟨_, _, _, _, _, b4⟩ := b
    exact Option.some.inj (b4.symm.trans a4)
  | _ => exact Option.some.inj (b.symm.trans a)
theorem arrV_ext {c : ClassId} {N : Nat} {f g : Nat → Value} (h : ∀ j, j < N → f j = g j) : arrV c N f = arrV c N g := by
  unfold arrV
  have e : (fun j : Fin N => f j.val) = (fun j : Fin N => g j.val) := funext fun j => h j.val j.isLt
  rw [e]
/-! new int[3][n], step by step: the outer array, then three times an inner one and its place in the outer -/
def tb_mo (c : ClassId) (h0 i : Nat) : Cell := arrV c 3 (fun j => if j < i then .ref (h0 + 1 + j) else .null)
def tb_mi (c : ClassId) (n : Nat) : Cell := arrV c n (fun _ => .int 0)
def tb_ms (s : State) (c d : ClassId) (n : Nat) : Nat → State
  | 0 => s.pushCell (tb_mo c s.heap.size 0)
  | i + 1 => ((tb_ms s c d n i).pushCell (tb_mi d n)).setCell s.heap.size (tb_mo c s.heap.size (i + 1))
theorem tb_mo_next (c : ClassId) (h0 i : Nat) : (tb_mo c h0 i).setSlot i (.ref (h0 + 1 + i)) = tb_mo c h0 (i + 1) := by
  unfold tb_mo
  rw [arrV_store]
  refine arrV_ext fun j _ => ?_
  unfold updV
  by_cases h : j = i
  · subst h
    rw [if_pos rfl, if_pos (Nat.lt_succ_self _)]
  · rw [if_neg h]
    dsimp only
    by_cases h2 : j < i
    · rw [if_pos h2, if_pos (by omega)]
    · rw [if_neg h2, if_neg (by omega)]
theorem tb_mo_0 (c : ClassId) (h0 : Nat) : ({ cls := c, slots := Array.replicate 3 .null, vm := .none } : Cell) = tb_mo c h0 0 := by
  rw [arrV_new]
  exact arrV_ext fun j _ => (if_neg (Nat.not_lt_zero j)).symm
theorem tb_mo_3 (c : ClassId) (h0 : Nat) : tb_mo c h0 3 = vp_cell c (3, .inr (.inr (.inr (.inr (tb_3 (h0 + 1) (h0 + 2) (h0 + 3)))))) := by
  rw [vp_cell_q]
  refine arrV_ext fun j hj => ?_
  rcases (show j = 0 ∨ j = 1 ∨ j = 2 by omega) with rfl | rfl | rfl <;> rfl
theorem tb_mi_v (c : ClassId) (n : Nat) : tb_mi c n = vp_cell c (n, .inl (aN (fun _ => 0))) := rfl
theorem tb_mi_s (c : ClassId) (n : Nat) : (tb_mi c n).slots.size = n := arrV_size _ _ _
theorem tb_mo_s (c : ClassId) (h0 i : Nat) : (tb_mo c h0 i).slots.size = 3 := arrV_size _ _ _
theorem tb_ms_f (s : State) (c d : ClassId) (n : Nat) : ∀ i : Nat, (tb_ms s c d n i).heap.size = s.heap.size + 1 + i ∧ (tb_ms s c d n i).heap[s.heap.size]? = some (tb_mo c s.heap.size i) ∧ (tb_ms s c d n i).vm = s.vm ∧ (tb_ms s c d n i).slotsUsed = s.slotsUsed + 3 + i * n ∧
    (∀ a : Nat, a < s.heap.size → (tb_ms s c d n i).heap[a]? = s.heap[a]?) ∧ ∀ j : Nat, j < i → (tb_ms s c d n i).heap[s.heap.size + 1 + j]? = some (tb_mi d n) := by
  intro i
  induction i with
  | zero => exact ⟨by simp [tb_ms], by simp [tb_ms], rfl, by simp [tb_ms, tb_mo_s], fun a h => State.heap_pushCell_of_lt _ _ h, fun j h => absurd h (Nat.not_lt_zero _)⟩
  | succ i ih =>
    obtain ⟨g1, g2, g3, g4, g5, g6⟩ := ih
    have hE : tb_ms s c d n (i + 1) = ((tb_ms s c d n i).pushCell (tb_mi d n)).setCell s.heap.size (tb_mo c s.heap.size (i + 1)) := rfl
    rw [hE]
    generalize tb_ms s c d n i = F at g1 g2 g3 g4 g5 g6
    have hlt : s.heap.size < F.heap.size := by omega
    have hb : (F.pushCell (tb_mi d n)).heap[s.heap.size]? = some (tb_mo c s.heap.size i) := by rw [State.heap_pushCell_of_lt (h := hlt)]; exact g2
    refine ⟨?_, State.heap_setCell_self hb, g3, ?_, fun x hx => ?_, fun j hj => ?_⟩
    · simp [State.setCell, g1]
      omega
    · simp [g4, tb_mi_s, Nat.succ_mul]
      omega
    · rw [State.heap_setCell_other (Nat.ne_of_gt hx), State.heap_pushCell_of_lt (h := Nat.lt_trans hx hlt)]
      exact g5 x hx
    · rw [State.heap_setCell_other (show s.heap.size ≠ s.heap.size + 1 + j by omega)]
      rcases Nat.lt_or_ge j i with h | h
      · rw [State.heap_pushCell_of_lt (h := show s.heap.size + 1 + j < F.heap.size by omega)]
        exact g6 j h
      · obtain rfl : j = i := by omega
        rw [← g1]
        exact State.heap_pushCell_size _ _
theorem tb_ms_top (s : State) (f : JFrame) (c d : ClassId) (n : Nat) : ∀ i : Nat, tb_ms (s.setTop f) c d n i = (tb_ms s c d n i).setTop f := by
  intro i
  induction i with
  | zero => rfl
  | succ i ih =>
    show ((tb_ms (s.setTop f) c d n i).pushCell (tb_mi d n)).setCell (s.setTop f).heap.size (tb_mo c (s.setTop f).heap.size (i + 1)) = (((tb_ms s c d n i).pushCell (tb_mi d n)).setCell s.heap.size (tb_mo c s.heap.size (i + 1))).setTop f
    rw [ih, State.pushCell_setTop, State.setCell_setTop, State.heap_setTop]
section TBM1
variable {E : CtlPost} {e : Env} {d : Bool} {acts : List Action} {s : State} {c comp c2 : ClassId} {k k2 : Class} {n : Nat}
theorem tb_wpIn (hk : s.vm.classes[comp]? = some k) (hkind : k.kind = .array c2 .int) (hn : n ≤ 1000) (hl : ¬ n > e.platform.arrayLengthLimit) (hh : ¬ n * componentBytes .int > e.platform.maxHeapBytes) (h1 : s.heap.size < e.platform.maxCells) (h2 : s.slotsUsed + n ≤ e.platform.maxSlots) {Q : Addr → Pre}
    (hq : ∀ acts' : List Action, Q s.heap.size d acts' (s.pushCell (tb_mi comp n))) : wp (multianewarray.make comp [nI n]) Q E e d acts s := by
  have hn0 : ¬ nI n < 0 := nI_pos (by omega)
  have en : (nI n).toNatClampNeg = n := nI_clamp (by omega)
  have hq' : ∀ acts' : List Action, Q s.heap.size d acts' (s.pushCell { cls := comp, slots := Array.replicate n (.int 0) }) := fun a => by
    have := hq a
    unfold tb_mi at this
    rw [← arrV_new] at this
    exact this
  rw [multianewarray.make]
  simp only [wp_bind', W.ite, hn0, if_false, wp_pure', W.theClass, hk, hkind, Option.some.injEq, exists_eq_left', en]
  exact W.newArray_of hk hkind hl hh h1 h2 rfl hq'
theorem tb_wpStep (hk : s.vm.classes[c]? = some k) (hkind : k.kind = .array comp (.array .int)) (hk2 : s.vm.classes[comp]? = some k2) (hkind2 : k2.kind = .array c2 .int) (hn : n ≤ 1000) (hl : ¬ n > e.platform.arrayLengthLimit) (hh : ¬ n * componentBytes .int > e.platform.maxHeapBytes)
    (hc : s.heap.size + 4 ≤ e.platform.maxCells) (hs : s.slotsUsed + (3 + 3 * n) ≤ e.platform.maxSlots) {i : Nat} (hi : i < 3) {Q : ForInStep PUnit → Pre} (hq : ∀ (d' : Bool) (acts' : List Action), Q (ForInStep.yield PUnit.unit) d' acts' (tb_ms s c comp n (i + 1))) :
    wp (multianewarray.make comp [nI n]) (fun a => wp (do
      Jvm.writeLoc s.heap.size i (.ref a)
      Pure.pure (ForInStep.yield PUnit.unit)) Q E e) E e d acts (tb_ms s c comp n i) := by
  obtain ⟨g1, g2, g3, g4, -, -⟩ := tb_ms_f s c comp n i
  have hm : i * n + n ≤ 3 * n := by
    have := Nat.mul_le_mul_right n (show i + 1 ≤ 3 by omega)
    rw [Nat.succ_mul] at this
    exact this
  refine tb_wpIn (by rw [g3]; exact hk2) hkind2 hn hl hh (by omega) (by omega) (fun acts' => ?_)
  have hlt : s.heap.size < (tb_ms s c comp n i).heap.size := by omega
  rw [wp_bind', W.writeLoc]
  refine ⟨tb_mo c s.heap.size i, by rw [State.heap_pushCell_of_lt (h := hlt)]; exact g2, (fun z => by cases z), by rw [tb_mo_s]; exact hi, ?_, ?_⟩
  · show State.fitsSlot _ c .none i _ = true
    simp [State.fitsSlot, State.slotType?, g3, hk, hkind, fits]
  · rw [g1, tb_mo_next]
    exact hq _ _
theorem tb_wpOut (hk : s.vm.classes[c]? = some k) (hkind : k.kind = .array comp (.array .int)) (hk2 : s.vm.classes[comp]? = some k2) (hkind2 : k2.kind = .array c2 .int) (hn : n ≤ 1000) (hl3 : ¬ 3 > e.platform.arrayLengthLimit) (hh3 : ¬ 3 * componentBytes (.array .int) > e.platform.maxHeapBytes) (hl : ¬ n > e.platform.arrayLengthLimit) (hh : ¬ n * componentBytes .int > e.platform.maxHeapBytes)
    (hc : s.heap.size + 4 ≤ e.platform.maxCells) (hs : s.slotsUsed + (3 + 3 * n) ≤ e.platform.maxSlots) {Q : Addr → Pre} (hq : ∀ (d' : Bool) (acts' : List Action), Q s.heap.size d' acts' (tb_ms s c comp n 3)) : wp (multianewarray.make c [nI 3, nI n]) Q E e d acts s := by
  have hn0 : ¬ nI n < 0 := nI_pos (by omega)
  have h30 : ¬ nI 3 < 0 := nI_pos (by decide)
  have e3 : (nI 3).toNatClampNeg = 3 := nI_clamp (by decide)
  have hf : ([nI n].find? (· < 0)) = none := by simp [hn0]
  rw [multianewarray.make]
  simp only [wp_bind', W.ite, h30, if_false, wp_pure', W.theClass, hk, hkind, Option.some.injEq, exists_eq_left', e3]
  refine W.newArray_of hk hkind hl3 hh3 (by omega) (by omega) rfl (fun acts' => ?_)
  rw [show (s.pushCell { cls := c, slots := Array.replicate 3 .null } : State) = tb_ms s c comp n 0 from congrArg s.pushCell (tb_mo_0 c s.heap.size)]
  simp only [hf]
  rw [ite_self, wp_bind', Std.Legacy.Range.forIn_eq_forIn_range']
  show wp (forIn [0, 1, 2] PUnit.unit _) _ E e d acts' _
  simp only [List.forIn_cons, List.forIn_nil, wp_bind', wp_pure']
  refine tb_wpStep hk hkind hk2 hkind2 hn hl hh hc hs (i := 0) (by decide) (fun d1 acts1 => ?_)
  simp only [wp_bind', wp_pure']
  refine tb_wpStep hk hkind hk2 hkind2 hn hl hh hc hs (i := 1) (by decide) (fun d2 acts2 => ?_)
  simp only [wp_bind', wp_pure']
  refine tb_wpStep hk hkind hk2 hkind2 hn hl hh hc hs (i := 2) (by decide) (fun d3 acts3 => ?_)
  simp only [wp_bind', wp_pure']
  exact hq _ _
end TBM1
section TBM2
variable {p : Program} {l : Launch} {e : Env} {R : Room} {s : State} {m : MethodId} {args : Array Value} {below : List Frame} {meth : Method} {c : Code} {H : Heap} {locs : List Loc} {cells slots : Nat} {Q : State → Prop}
variable {cc : ByteArray} {pc : Nat} {ls : Array Slot} {rest : List Value} {D : va_G} {cl : List vw_C} {A : Nat → Prop} {ct : Nat → ClassId} {ws : va_W} {H0 : Heap}
theorem tb_msX {T : State} (X : Stand p l e R s m args below meth c T locs cells slots) (cA cB : ClassId) (n : Nat) : ∀ i : Nat, ∃ J : List Loc, Stand p l e R s m args below meth c (tb_ms T cA cB n i) (locs ++ J) (cells + 1 + i) (slots + 3 + i * n) ∧ ∀ x ∈ J, x.base = T.heap.size := by
  intro i
  induction i with
  | zero =>
    have h := X.pushed (tb_mo cA T.heap.size 0)
    rw [tb_mo_s] at h
    exact ⟨[], by rw [List.append_nil, Nat.zero_mul]; exact h, fun x hx => by cases hx⟩
  | succ i ih =>
    obtain ⟨J, h, hJ⟩ := ih
    obtain ⟨g1, g2, -, -, -, -⟩ := tb_ms_f T cA cB n i
    have hlt : T.heap.size < (tb_ms T cA cB n i).heap.size := by omega
    have h2 := (h.pushed (tb_mi cB n)).stored (a := T.heap.size) (cell := tb_mo cA T.heap.size i) (by rw [State.heap_pushCell_of_lt (h := hlt)]; exact g2) i (.ref (T.heap.size + 1 + i))
    rw [tb_mi_s, tb_mo_next, List.append_assoc] at h2
    refine ⟨J ++ [⟨T.heap.size, i⟩], ?_, fun x hx => ?_⟩
    · rw [show slots + 3 + (i + 1) * n = slots + 3 + i * n + n by rw [Nat.succ_mul]; omega]
      exact h2
    · rcases List.mem_append.mp hx with h | h
      · exact hJ x h
      · rw [List.mem_singleton.mp h]
set_option maxHeartbeats 4000000 in
theorem tb_multi (hx : p.tables.exec = Jvm.exec) (hb : c.code = cc) {own : String} {index : Nat} (hown : s.vm.findClass own = some m.cls) (hclink : (Cond.classLink own index "[[I").before args s = true) (hover : tb_AOA s) (harr : (Cond.arrayClass .int).before args s = true)
    (hK : va_K D cl (tyL ct) s) (hP : va_P D cl ws H) (hD : va_D A ws) (hS : va_S A H0 H locs) (hA : ∀ q, H0.size ≤ q → A q) {n : Nat} (hn : n ≤ 1000) (hcells : cells + (1 + 3) ≤ R.cells) (hslots : slots + (3 + 3 * n) ≤ R.slots) (hd : decode cc pc = .ok (.multianewarray index 2, 4))
    (kk : ∀ (q qa qb qc : Nat) (H1 : Heap), va_P D cl (ws ++ [(q, .inl (ct 1, 3, .inr (.inr (.inr (.inr (tb_3 qa qb qc)))))), (qa, .inl (ct 0, n, .inl (aN (fun _ => 0)))), (qb, .inl (ct 0, n, .inl (aN (fun _ => 0)))), (qc, .inl (ct 0, n, .inl (aN (fun _ => 0))))]) H1 →
      va_D A (ws ++ [(q, .inl (ct 1, 3, .inr (.inr (.inr (.inr (tb_3 qa qb qc)))))), (qa, .inl (ct 0, n, .inl (aN (fun _ => 0)))), (qb, .inl (ct 0, n, .inl (aN (fun _ => 0)))), (qc, .inl (ct 0, n, .inl (aN (fun _ => 0))))]) → va_S A H0 H1 locs →
      W p l e R s m args below meth c H1 locs (cells + 1 + 3) (slots + 3 + 3 * n) Q (F0 m (pc + 4) ls (.ref q :: rest))) : W p l e R s m args below meth c H locs cells slots Q (F0 m pc ls (.int (nI n) :: .int (nI 3) :: rest)) := by
  intro T hT X
  have en : (nI n).toNatClampNeg = n := nI_clamp (by omega)
  have hpl : e.platform.magicAccessors = ({} : Platform).magicAccessors := by rw [X.admits.platform]
  obtain ⟨comp, cA, kA, hcomp, -, hkA, hkindA, hnameA⟩ := arrayOverA_spec hover
  obtain ⟨comp', kC, c2, hcomp', hkC, hkindC⟩ := Cond.arrayClass_spec harr
  obtain rfl : comp' = comp := Option.some.inj (hcomp'.symm.trans hcomp)
  have hclk : (Cond.classLink own index ("[" ++ (FieldType.array .int).toString)).before args s = true := by
    rw [show "[" ++ (FieldType.array .int).toString = "[[I" from by decide +kernel]
    exact hclink
  obtain ⟨c0, hfc0, hcl⟩ := Cond.classLink_spec hown hclk e.platform hpl
  obtain rfl : cA = c0 := Option.some.inj (hnameA.symm.trans hfc0)
  obtain ⟨hg₁, hwarm₁, hready₁⟩ := State.classEntry (e := e) X.warmed hcl
  generalize T.vm.noted m.cls index (.cls cA) = vm₁ at hg₁ hwarm₁ hready₁
  obtain ⟨kA₁, hkA₁, heA⟩ := hwarm₁.alike.2.2 _ _ hkA
  obtain ⟨kC₁, hkC₁, heC⟩ := hwarm₁.alike.2.2 _ _ hkC
  have hkindA₁ : kA₁.kind = .array comp' (.array .int) := by rw [heA]; exact hkindA
  have hkindC₁ : kC₁.kind = .array c2 .int := by rw [heC]; exact hkindC
  have a1 : s.vm.findClass ("[" ++ (FieldType.array .int).toString) = some (ct 1) := (hK.2 1 _ rfl).2
  have a0 : s.vm.findClass ("[" ++ FieldType.int.toString) = some (ct 0) := (hK.2 0 _ rfl).2
  obtain rfl : cA = ct 1 := Option.some.inj (hnameA.symm.trans a1)
  obtain rfl : comp' = ct 0 := Option.some.inj (hcomp'.symm.trans a0)
  have hTh : (T.setVm vm₁).heap = H := hT
  obtain ⟨hr1, hr2⟩ := X.roomAbove hcells hslots
  obtain ⟨J, XJ, hJ⟩ := tb_msX (X.noted hwarm₁) (ct 1) (ct 0) n 3
  have X' := XJ.dropFresh (fun x hx => by rw [hJ x hx]; exact X.heapGrown)
  obtain ⟨f1, f2, -, -, hold, hrow⟩ := tb_ms_f (T.setVm vm₁) (ct 1) (ct 0) n 3
  rw [hTh] at f1 f2 hold hrow
  rw [tb_mo_3] at f2
  rw [tb_mi_v] at hrow
  have step : ∀ target : State, Steps p.tables e below ((tb_ms (T.setVm vm₁) (ct 1) (ct 0) n 3).setTop (F0 m (pc + 4) ls (.ref T.heap.size :: rest))) target → Steps p.tables e below (T.setTop (F0 m pc ls (.int (nI n) :: .int (nI 3) :: rest))) target := by
    intro target hrest
    have hdg : decode c.code (F0 m pc ls (.int (nI n) :: .int (nI 3) :: rest)).pc = .ok (.multianewarray index 2, 4) := by rw [hb]; exact hd
    generalize hg : F0 m pc ls (.int (nI n) :: .int (nI 3) :: rest) = g at hdg
    have hgs : g.stack = .int (nI n) :: .int (nI 3) :: rest := by rw [← hg]
    have hgm : g.method = m := by rw [← hg]
    have hge : F0 m (pc + 4) ls (.ref T.heap.size :: rest) = { g with pc := g.pc + 4, stack := .ref T.heap.size :: rest } := by rw [← hg]
    rw [hge] at hrest
    subst hgm
    have hl3 : ¬ 3 > e.platform.arrayLengthLimit := by rw [Launch.admits_arrayLengthLimit X.admits]; omega
    have hh3 : ¬ 3 * componentBytes (.array .int) > e.platform.maxHeapBytes := by
      rw [Launch.admits_maxHeapBytes X.admits]
      decide
    have hl9 : ¬ n > e.platform.arrayLengthLimit := by rw [Launch.admits_arrayLengthLimit X.admits]; omega
    have hh9 : ¬ n * componentBytes .int > e.platform.maxHeapBytes := by
      rw [Launch.admits_maxHeapBytes X.admits]
      show ¬ n * 4 > 536870912
      omega
    jvm_step X.here [hx, hdg]
    simp only [multianewarray.sem, wp_bind', W.resolveClassAt_links (State.method?_setTop g X.here.top) hg₁]
    rw [W.popN, if_neg (by decide)]
    refine ⟨g, State.topJava?_setTop' (s := T.setVm vm₁) g X.here.top, [.int (nI 3), .int (nI n)], rest, rfl, hgs, ?_⟩
    simp only [List.mapM_cons, List.mapM_nil, wp_bind', wp_pure']
    refine tb_wpOut (k := kA₁) (k2 := kC₁) (comp := ct 0) (c2 := c2) hkA₁ hkindA₁ hkC₁ hkindC₁ hn hl3 hh3 hl9 hh9 (by show T.heap.size + 4 ≤ _; omega) (by show T.slotsUsed + _ ≤ _; omega) (fun d' acts' => ?_)
    have e9 : ((T.setTop g).setVm vm₁).setTop { g with stack := rest } = (T.setVm vm₁).setTop { g with stack := rest } := by
      show ((T.setVm vm₁).setTop g).setTop _ = _
      rw [State.setTop_setTop]
    rw [e9, tb_ms_top]
    simp only [wp_bind', W.mark, W.pushRef, State.topJava?_setTop' _ X'.here.top, Option.some.injEq, exists_eq_left', State.setTop_setTop, State.heap_setTop]
    intro acts
    simp [jvm, X'.here.top]
    exact hrest
  generalize tb_ms (T.setVm vm₁) (ct 1) (ct 0) n 3 = F at X' step f1 f2 hold hrow
  have hnew : ∀ (i : Nat) (x : Nat × va_E), ([(H.size, .inl (ct 1, 3, .inr (.inr (.inr (.inr (tb_3 (H.size + 1) (H.size + 2) (H.size + 3))))))), (H.size + 1, .inl (ct 0, n, .inl (aN (fun _ => 0)))), (H.size + 2, .inl (ct 0, n, .inl (aN (fun _ => 0)))), (H.size + 3, .inl (ct 0, n, .inl (aN (fun _ => 0))))] : va_W)[i]? = some x → x.1 = H.size + i ∧ va_at D cl x F.heap := by
    intro i x hx9
    match i, hx9 with
    | 0, hx9 => cases hx9; exact ⟨rfl, f2⟩
    | 1, hx9 => cases hx9; exact ⟨rfl, hrow 0 (by decide)⟩
    | 2, hx9 => cases hx9; exact ⟨rfl, hrow 1 (by decide)⟩
    | 3, hx9 => cases hx9; exact ⟨rfl, hrow 2 (by decide)⟩
    | i + 4, hx9 => simp at hx9
  have hP1 := (hP.kept (H1 := F.heap) (fun k x hx9 => hold x.1 ((hP k x hx9).lt))).app (fun i x hx9 => (hnew i x hx9).2)
  have hD1 := hD.app (w2 := [(H.size, .inl (ct 1, 3, .inr (.inr (.inr (.inr (tb_3 (H.size + 1) (H.size + 2) (H.size + 3))))))), (H.size + 1, .inl (ct 0, n, .inl (aN (fun _ => 0)))), (H.size + 2, .inl (ct 0, n, .inl (aN (fun _ => 0)))), (H.size + 3, .inl (ct 0, n, .inl (aN (fun _ => 0))))])
    ⟨fun i j x y hi hj e9 => by have h1 := (hnew i x hi).1; have h2 := (hnew j y hj).1; omega, fun k x hx9 => hA _ (by have h1 := (hnew k x hx9).1; have := hS.1; omega)⟩
    (fun i j x y hi hj e9 => by have h1 := (hP i x hi).lt; have h2 := (hnew j y hj).1; omega)
  have hS1 : va_S A H0 F.heap locs := ⟨by have := hS.1; omega, fun x h1 h2 => (hold x (Nat.lt_of_lt_of_le h1 hS.1)).trans (hS.2.1 x h1 h2), hS.2.2⟩
  obtain ⟨t, b1, b2⟩ := kk H.size (H.size + 1) (H.size + 2) (H.size + 3) F.heap hP1 hD1 hS1 F rfl X'
  refine ⟨t, step t ?_, b2⟩
  rw [hT]
  exact b1
end TBM2
