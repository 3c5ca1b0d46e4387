/-! the tables' further words: static tables, links within the nest, arrays of arrays and of objects; the array classes -/
abbrev tyL (ct : Nat → ClassId) : List (ClassId × FieldType) := [(ct 0, .int), (ct 1, .array .int), (ct 2, .object "TripleOrders$Range"), (ct 3, .object "TripleOrders$PageRow"), (ct 4, .boolean)]
def nestW : List Cond := [.fieldLinkNest RX0 40 "TripleOrders" "TERM_AT" "[I" "TripleOrders", .methodLinkNest RX0 37 yX4_isOrder "TripleOrders", .methodLinkNest RX0 43 yX4_keyOf "TripleOrders", .methodLinkNest RX1 71 yX4_termOfKey "TripleOrders", .methodLinkNest RX4 43 yX2_init "TripleOrders"]
theorem nest_on : ∀ w ∈ nestW, w.onTables = true := by decide +kernel
/-- there is an array class over arrays of ints -/
def tb_AOA (U : State) : Prop := (Cond.arrayOver (.array .int)).before #[] U = true
theorem tb_AOA.moved {u U : State} (hvm : u.vm.Alike U.vm) (h : tb_AOA u) : tb_AOA U := by
  obtain ⟨comp, c, k, h1, h2, h3, h4, h5⟩ := arrayOverA_spec h
  obtain ⟨k', hk', he⟩ := hvm.2.2 _ _ h3
  have hi : (U.vm.classes.findIdx? fun (x : Class) => match x.kind with | .array component _ => component == comp | _ => false) = some c := by
    rw [hvm.findIdx?_eq _ (fun _ => rfl)]
    exact h2
  have hkind : k'.kind = .array comp (.array .int) := by rw [he]; exact h4
  have f1 : U.vm.findClass (FieldType.array .int).toString = some comp := by rw [hvm.findClass]; exact h1
  have f2 : U.vm.findClass ("[" ++ (FieldType.array .int).toString) = some c := by rw [hvm.findClass]; exact h5
  unfold tb_AOA Cond.before Cond.holds
  simp only [Cond.value]
  rw [f1, Option.bind_some]
  refine (congrArg (fun o : Option Nat => (o.bind (fun c => (U.vm.classes[c]?).map fun (k : Class) => match k.kind with | .array _ ty => decide (ty = FieldType.array .int) && decide (U.vm.findClass ("[" ++ (FieldType.array .int).toString) = some c) | _ => false) == some true)) hi).trans ?_
  simp [hk', hkind, f2]
def st_all (A : Nat → Prop) (U : State) (H : Heap) : Prop :=
  (∃ t : Nat, va_Z "TripleOrders" "TERM_AT" "[I" (.ref t) A U H ∧ va_T .int t 18 (fun j => .int (nI (taF j))) A U H) ∧ (∃ t : Nat, va_Z "TripleOrders" "PLACE_OF" "[I" (.ref t) A U H ∧ va_T .int t 18 (fun j => .int (nI (poF j))) A U H) ∧
  (∀ w ∈ nestW, va_Nw w U) ∧ tb_AOA U ∧ va_AO "TripleOrders$Range" U ∧ va_AO "TripleOrders$PageRow" U
theorem st_all.narrow {A B : Nat → Prop} {U : State} {H : Heap} (h : st_all A U H) (hAB : ∀ q, B q → A q) : st_all B U H := by
  obtain ⟨⟨t, h1, h2⟩, ⟨u, h3, h4⟩, h5⟩ := h
  exact ⟨⟨t, h1.narrow hAB, h2.narrow hAB⟩, ⟨u, h3.narrow hAB, h4.narrow hAB⟩, h5⟩
theorem nest_warm {s U : State} (hW : s.WarmedH U.vm) (h : ∀ w ∈ nestW, va_Nw w s) : ∀ w ∈ nestW, va_Nw w U := by
  intro w hw
  have hz := h w hw
  unfold nestW at hw
  simp only [List.mem_cons, List.not_mem_nil, or_false] at hw
  rcases hw with rfl | rfl | rfl | rfl | rfl
  · exact va_Nw.warmF hW hz
  · exact va_Nw.warmM hW hz
  · exact va_Nw.warmM hW hz
  · exact va_Nw.warmM hW hz
  · exact va_Nw.warmM hW hz
theorem st_all.at {A : Nat → Prop} {s U : State} {H : Heap} {locs : List Loc} (h : st_all A s s.heap) (hS : va_S A s.heap H locs) (hW : s.WarmedH U.vm) : st_all A U H := by
  obtain ⟨⟨t, h1, h2⟩, ⟨u, h3, h4⟩, h5, h6, h7, h8⟩ := h
  have hq : ∀ a : Nat, a < s.heap.size → ¬ A a → H[a]? = s.heap[a]? := fun a x y => hS.2.1 a x y
  exact ⟨⟨t, (h1.kept hq).moved hW.alike, (h2.kept hq).moved hW.alike⟩, ⟨u, (h3.kept hq).moved hW.alike, (h4.kept hq).moved hW.alike⟩, nest_warm hW h5, h6.moved hW.alike, h7.moved hW.alike, h8.moved hW.alike⟩
theorem st_all.call {A : Nat → Prop} {U : State} {H : Heap} (h : st_all A U H) (g : JFrame) (mk : MethodId) (a : Array Value) : st_all A (U.calling g mk a) H := by
  obtain ⟨⟨t, h1, h2⟩, ⟨u, h3, h4⟩, h5, h6, h7, h8⟩ := h
  have hv : U.vm.Alike (U.calling g mk a).vm := Vm.Alike.refl U.vm
  exact ⟨⟨t, h1.moved hv, h2.moved hv⟩, ⟨u, h3.moved hv, h4.moved hv⟩, fun w hw => va_Nw.same (u := U) (nest_on w hw) rfl (h5 w hw), h6.moved hv, h7.moved hv, h8.moved hv⟩
/-- a callee's words are among all -/
theorem gw_V {big : List Cond} (hb : ∀ w ∈ aw, w ∈ big) {own C : String} {idx : Nat} {y : MethodName} {cc : ByteArray} {n : Nat} {r : Option FieldType} (h1 : Cond.methodLink own idx y ∈ aw) (h2 : Cond.instanceMethod y ∈ aw) (h3 : Cond.selects C y y ∈ aw) (h4 : Cond.initialized C ∈ aw) (h5 : Cond.code y cc n r ∈ aw) : GoodIn big (wsV own idx C y (.code y cc n r :: aw)) := by
  intro w hw
  have hw' : w ∈ aw := by
    unfold wsV at hw
    simp only [List.cons_append, List.nil_append, List.mem_cons] at hw
    rcases hw with rfl | rfl | rfl | rfl | rfl | h
    · exact h1
    · exact h2
    · exact h3
    · exact h4
    · exact h5
    · exact h
  exact ⟨hb w hw', aw_good hw'⟩
theorem gw_S {big : List Cond} (hb : ∀ w ∈ aw, w ∈ big) {own : String} {idx : Nat} {y : MethodName} {cc : ByteArray} {n : Nat} {r : Option FieldType} (h1 : Cond.methodLink own idx y ∈ aw) (h2 : Cond.static y ∈ aw) (h4 : Cond.initialized y.cls ∈ aw) (h5 : Cond.code y cc n r ∈ aw) : GoodIn big (va_wsS own idx y (.code y cc n r :: aw)) := by
  intro w hw
  have hw' : w ∈ aw := by
    unfold va_wsS at hw
    simp only [List.cons_append, List.nil_append, List.mem_cons] at hw
    rcases hw with rfl | rfl | rfl | rfl | h
    · exact h1
    · exact h2
    · exact h4
    · exact h5
    · exact h
  exact ⟨hb w hw', aw_good hw'⟩
theorem gw_I {big : List Cond} (hb : ∀ w ∈ aw, w ∈ big) {y : MethodName} {cc : ByteArray} {n : Nat} {r : Option FieldType} (h5 : Cond.code y cc n r ∈ aw) : GoodIn big (.code y cc n r :: aw) := by
  intro w hw
  have hw' : w ∈ aw := by
    rcases List.mem_cons.mp hw with rfl | h
    · exact h5
    · exact h
  exact ⟨hb w hw', aw_good hw'⟩
/-! calls in one row: a method that reads (tb_Pr), a method that writes (tb_Pw) -/
def tb_Pr (D : va_G) (ct : Nat → ClassId) (av : List Value) (wc : va_W) : Array Value → State → Prop := va_Pc av (fun U => va_P D vwCl wc U.heap ∧ va_K D vwCl (tyL ct) U ∧ st_all (fun _ => False) U U.heap)
def tb_Pw (D : va_G) (ct : Nat → ClassId) (av : List Value) (sz : Nat) (wc : va_W) : Array Value → State → Prop := va_Pc av (fun U => U.heap.size = sz ∧ va_P D vwCl wc U.heap ∧ va_K D vwCl (tyL ct) U ∧ va_D (fun _ => True) wc ∧ st_all (va_A wc sz) U U.heap)
def tb_B (D : va_G) (A : Nat → Prop) (w : va_W) (_ : Unit) (t : State) : Prop := va_P D vwCl w t.heap ∧ va_D A w
def tb_BS {S : Type} (D : va_G) (A : Nat → Prop) (w : S → va_W) (u : S) (t : State) : Prop := va_P D vwCl (w u) t.heap ∧ va_D A (w u)
theorem tb_Pr_blind {D : va_G} {ct : Nat → ClassId} {av : List Value} {wc : va_W} : FrameBlind (tb_Pr D ct av wc) := fun a U g mk q => by
  obtain ⟨q0, qP, qK, qZ⟩ := q
  exact ⟨q0, qP, va_K.moved (u := U) (U := U.calling g mk a) (Vm.Alike.refl U.vm) qK, qZ.call g mk a⟩
theorem tb_Pw_blind {D : va_G} {ct : Nat → ClassId} {av : List Value} {sz : Nat} {wc : va_W} : FrameBlind (tb_Pw D ct av sz wc) := fun a U g mk q => by
  obtain ⟨q0, q1, qP, qK, qD, qZ⟩ := q
  exact ⟨q0, q1, qP, va_K.moved (u := U) (U := U.calling g mk a) (Vm.Alike.refl U.vm) qK, qD, qZ.call g mk a⟩
theorem tb_psub {D : va_G} {cl : List vw_C} {ws wc : va_W} {H : Heap} (hP : va_P D cl ws H) (isC : List Nat) (hC : isC.map (fun i => ws[i]?) = wc.map some) : va_P D cl wc H := by
  intro k q hq
  have h1 : (isC.map (fun i => ws[i]?))[k]? = some (some q) := by rw [hC, List.getElem?_map, hq]; rfl
  rw [List.getElem?_map] at h1
  cases hi : isC[k]? with
  | none => rw [hi] at h1; cases h1
  | some i => rw [hi] at h1; exact hP i q (Option.some.inj h1)
section TBC
variable {p : Program} {l : Launch} {e : Env} {R : Room} {s : State} {m : MethodId} {args : Array Value} {below : List Frame} {meth : Method} {c : Code} {H : Heap} {locs : List Loc} {cells slots : Nat} {Q : State → Prop}
variable {D : va_G} {ct : Nat → ClassId} {A : Nat → Prop} {ws wc wr : va_W} {As : List Value}
theorem tb_prS (hP : va_P D vwCl ws H) (hK : va_K D vwCl (tyL ct) s) (hZ : st_all A s s.heap) (hS : va_S A s.heap H locs) (isC : List Nat) (hC : isC.map (fun i => ws[i]?) = wc.map some) : PreS s H (tb_Pr D ct As wc) As :=
  ⟨tb_Pr_blind, fun U hU hW => ⟨rfl, by rw [hU]; exact tb_psub hP isC hC, va_K.moved hW.alike hK, by rw [hU]; exact (hZ.at hS hW).narrow (fun _ h => h.elim)⟩⟩
theorem tb_prV {b ci q0 : Nat} {fs : List Value} {q : vw_C} (hP : va_P D vwCl ws H) (hK : va_K D vwCl (tyL ct) s) (hZ : st_all A s s.heap) (hS : va_S A s.heap H locs) (isC : List Nat) (hC : isC.map (fun i => ws[i]?) = wc.map some) (hc : vwCl[ci]? = some q) (he : wc[q0]? = some (b, .inr (ci, fs))) : PreV s H q.1 b (tb_Pr D ct (.ref b :: As) wc) As :=
  ⟨tb_Pr_blind, va_recv hK (tb_psub hP isC hC) hc he, fun U hU hW => ⟨rfl, by rw [hU]; exact tb_psub hP isC hC, va_K.moved hW.alike hK, by rw [hU]; exact (hZ.at hS hW).narrow (fun _ h => h.elim)⟩⟩
theorem tb_dsub (hD : va_D A ws) (isC : List Nat) (hn : va_nd isC = true) (hC : isC.map (fun i => ws[i]?) = wc.map some) : va_D (fun _ => True) wc := (hD.sub isC hn hC).weaken (fun _ _ _ _ => trivial)
theorem tb_pwS (hP : va_P D vwCl ws H) (hD : va_D A ws) (hK : va_K D vwCl (tyL ct) s) (hZ : st_all A s s.heap) (hS : va_S A s.heap H locs) (hA : ∀ q, s.heap.size ≤ q → A q) (isC : List Nat) (hn : va_nd isC = true) (hC : isC.map (fun i => ws[i]?) = wc.map some) : PreS s H (tb_Pw D ct As H.size wc) As :=
  ⟨tb_Pw_blind, fun U hU hW => ⟨rfl, by rw [hU], by rw [hU]; exact tb_psub hP isC hC, va_K.moved hW.alike hK, tb_dsub hD isC hn hC, by rw [hU]; exact (hZ.at hS hW).narrow (va_free hD hS hA isC hC)⟩⟩
theorem tb_pwV {b ci q0 : Nat} {fs : List Value} {q : vw_C} (hP : va_P D vwCl ws H) (hD : va_D A ws) (hK : va_K D vwCl (tyL ct) s) (hZ : st_all A s s.heap) (hS : va_S A s.heap H locs) (hA : ∀ q, s.heap.size ≤ q → A q) (isC : List Nat) (hn : va_nd isC = true) (hC : isC.map (fun i => ws[i]?) = wc.map some) (hc : vwCl[ci]? = some q) (he : wc[q0]? = some (b, .inr (ci, fs))) : PreV s H q.1 b (tb_Pw D ct (.ref b :: As) H.size wc) As :=
  ⟨tb_Pw_blind, va_recv hK (tb_psub hP isC hC) hc he, fun U hU hW => ⟨rfl, by rw [hU], by rw [hU]; exact tb_psub hP isC hC, va_K.moved hW.alike hK, tb_dsub hD isC hn hC, by rw [hU]; exact (hZ.at hS hW).narrow (va_free hD hS hA isC hC)⟩⟩
variable {pc : Nat} {ls : Array Slot} {rest st0 : List Value} {a : Array Value} {mc ms : Nat} {w1 : va_W}
theorem tb_calli {post : Int32 → Unit → Prop} (hP : va_P D vwCl ws H) (hD : va_D A ws) (hS : va_S A s.heap H locs) (hA : ∀ q, s.heap.size ≤ q → A q) (isC isR : List Nat) (hC : isC.map (fun i => ws[i]?) = wc.map some) (hR : isR.map (fun i => ws[i]?) = wr.map some) (hn : va_nd isR = true) (hdis : ∀ i ∈ isR, i ∉ isC)
    (hr : va_Run p l e R s m args below meth c H locs cells slots mc ms (F0 m pc ls st0) rest (va_Qi post (tb_B D (va_A wc H.size) w1) (va_A wc H.size) a) (va_A wc H.size))
    (kk : ∀ (r : Int32), post r () → ∀ (H1 : Heap) (locs1 : List Loc), va_P D vwCl (wr ++ w1) H1 → va_D A (wr ++ w1) → va_S A s.heap H1 locs1 → W p l e R s m args below meth c H1 locs1 (cells + mc) (slots + ms) Q (F0 m (pc + 3) ls (.int r :: rest))) : W p l e R s m args below meth c H locs cells slots Q (F0 m pc ls st0) := by
  have hF := va_free (wc := wc) hD hS hA isC hC
  refine va_calli hr hS (fun q _ h => hF q h) hF (fun r u t H1 locs1 ht _ hp hB _ hk hS1 => ?_)
  obtain ⟨hP1, hD1⟩ := hB
  rw [ht] at hP1
  obtain ⟨h1, h2⟩ := va_join (wr := wr) (w1 := w1) hP hD isC isR hC hR hn hdis hk hF hP1 hD1
  exact kk r hp H1 locs1 h1 h2 hS1
theorem tb_calll {post : Int64 → Unit → Prop} (hP : va_P D vwCl ws H) (hD : va_D A ws) (hS : va_S A s.heap H locs) (hA : ∀ q, s.heap.size ≤ q → A q) (isC isR : List Nat) (hC : isC.map (fun i => ws[i]?) = wc.map some) (hR : isR.map (fun i => ws[i]?) = wr.map some) (hn : va_nd isR = true) (hdis : ∀ i ∈ isR, i ∉ isC)
    (hr : va_Run p l e R s m args below meth c H locs cells slots mc ms (F0 m pc ls st0) rest (va_Ql post (tb_B D (va_A wc H.size) w1) (va_A wc H.size) a) (va_A wc H.size))
    (kk : ∀ (r : Int64), post r () → ∀ (H1 : Heap) (locs1 : List Loc), va_P D vwCl (wr ++ w1) H1 → va_D A (wr ++ w1) → va_S A s.heap H1 locs1 → W p l e R s m args below meth c H1 locs1 (cells + mc) (slots + ms) Q (F0 m (pc + 3) ls (.long r :: rest))) : W p l e R s m args below meth c H locs cells slots Q (F0 m pc ls st0) := by
  have hF := va_free (wc := wc) hD hS hA isC hC
  refine va_calll hr hS (fun q _ h => hF q h) hF (fun r u t H1 locs1 ht _ hp hB _ hk hS1 => ?_)
  obtain ⟨hP1, hD1⟩ := hB
  rw [ht] at hP1
  obtain ⟨h1, h2⟩ := va_join (wr := wr) (w1 := w1) hP hD isC isR hC hR hn hdis hk hF hP1 hD1
  exact kk r hp H1 locs1 h1 h2 hS1
theorem tb_callv {post : Unit → Prop} (hP : va_P D vwCl ws H) (hD : va_D A ws) (hS : va_S A s.heap H locs) (hA : ∀ q, s.heap.size ≤ q → A q) (isC isR : List Nat) (hC : isC.map (fun i => ws[i]?) = wc.map some) (hR : isR.map (fun i => ws[i]?) = wr.map some) (hn : va_nd isR = true) (hdis : ∀ i ∈ isR, i ∉ isC)
    (hr : va_Run p l e R s m args below meth c H locs cells slots mc ms (F0 m pc ls st0) rest (va_Qv post (tb_B D (va_A wc H.size) w1) (va_A wc H.size) a) (va_A wc H.size))
    (kk : ∀ (H1 : Heap) (locs1 : List Loc), va_P D vwCl (wr ++ w1) H1 → va_D A (wr ++ w1) → va_S A s.heap H1 locs1 → W p l e R s m args below meth c H1 locs1 (cells + mc) (slots + ms) Q (F0 m (pc + 3) ls rest)) : W p l e R s m args below meth c H locs cells slots Q (F0 m pc ls st0) := by
  have hF := va_free (wc := wc) hD hS hA isC hC
  refine va_callv hr hS (fun q _ h => hF q h) hF (fun u t H1 locs1 ht _ hp hB _ hk hS1 => ?_)
  obtain ⟨hP1, hD1⟩ := hB
  rw [ht] at hP1
  obtain ⟨h1, h2⟩ := va_join (wr := wr) (w1 := w1) hP hD isC isR hC hR hn hdis hk hF hP1 hD1
  exact kk H1 locs1 h1 h2 hS1
theorem tb_callS {S : Type} {post : S → Prop} {w1 : S → va_W} (hP : va_P D vwCl ws H) (hD : va_D A ws) (hS : va_S A s.heap H locs) (hA : ∀ q, s.heap.size ≤ q → A q) (isC isR : List Nat) (hC : isC.map (fun i => ws[i]?) = wc.map some) (hR : isR.map (fun i => ws[i]?) = wr.map some) (hn : va_nd isR = true) (hdis : ∀ i ∈ isR, i ∉ isC)
    (hr : va_Run p l e R s m args below meth c H locs cells slots mc ms (F0 m pc ls st0) rest (va_Qv post (tb_BS D (va_A wc H.size) w1) (va_A wc H.size) a) (va_A wc H.size))
    (kk : ∀ (u : S) (H1 : Heap) (locs1 : List Loc), va_P D vwCl (wr ++ w1 u) H1 → va_D A (wr ++ w1 u) → va_S A s.heap H1 locs1 → W p l e R s m args below meth c H1 locs1 (cells + mc) (slots + ms) Q (F0 m (pc + 3) ls rest)) : W p l e R s m args below meth c H locs cells slots Q (F0 m pc ls st0) := by
  have hF := va_free (wc := wc) hD hS hA isC hC
  refine va_callv hr hS (fun q _ h => hF q h) hF (fun u t H1 locs1 ht _ hp hB _ hk hS1 => ?_)
  obtain ⟨hP1, hD1⟩ := hB
  rw [ht] at hP1
  obtain ⟨h1, h2⟩ := va_join (wr := wr) (w1 := w1 u) hP hD isC isR hC hR hn hdis hk hF hP1 hD1
  exact kk u H1 locs1 h1 h2 hS1
end TBC
