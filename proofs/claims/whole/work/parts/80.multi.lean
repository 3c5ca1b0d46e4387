/-! new int[3][n]; the array classes are one for each type -/
theorem tb_cls {D : va_G} {cl : List vw_C} {ct : Nat → ClassId} {s : State} {ty : FieldType} {c0 cA : ClassId} (hK : va_K D cl (tyL ct) s) (hK9 : va_K D cl (tyL ct ++ [(cA, ty)]) s) (t : Nat) (h : (tyL ct)[t]? = some (c0, ty)) : cA = c0 := by
  have a := (hK.2 t _ h).2
  have b := (hK9.2 5 (cA, ty) rfl).2
  cases ty with
  | object C =>
    obtain ⟨_, _, _, _, _, a4⟩ := a
    obtain ⟨_, _, _, _, _, b4⟩ := b
    exact Option.some.inj (b4.symm.trans a4)
  | _ => exact Option.some.inj (b.symm.trans a)
theorem arrV_ext {c : ClassId} {N : Nat} {f g : Nat → Value} (h : ∀ j, j < N → f j = g j) : arrV c N f = arrV c N g := by
  unfold arrV
  have e : (fun j : Fin N => f j.val) = (fun j : Fin N => g j.val) := funext fun j => h j.val j.isLt
  rw [e]
theorem tb_outer (c : ClassId) (h0 : Nat) : Jvm.Free.Multi.outerC c 3 h0 3 = vp_cell c (3, .inr (.inr (.inr (.inr (tb_3 (h0 + 1) (h0 + 2) (h0 + 3)))))) := by
  rw [vp_cell_q]
  show ((({ cls := c, slots := Array.replicate 3 .null, vm := .none } : Cell).setSlot 0 (.ref (h0 + 1 + 0))).setSlot 1 (.ref (h0 + 1 + 1))).setSlot 2 (.ref (h0 + 1 + 2)) = _
  rw [arrV_new, arrV_store, arrV_store, arrV_store]
  apply arrV_ext
  intro j hj
  obtain rfl | rfl | rfl : j = 0 ∨ j = 1 ∨ j = 2 := by omega
  · rfl
  · rfl
  · rfl
theorem tb_inner (c : ClassId) (n : Nat) : Jvm.Free.Multi.innerC c n (.int 0) = vp_cell c (n, .inl (aN (fun _ => 0))) := by
  rw [vp_cell_i]
  show ({ cls := c, slots := Array.replicate n (.int 0), vm := .none } : Cell) = _
  rw [arrV_new]
  rfl
section TBM2
variable {p : Program} {l : Launch} {e : Env} {R : Room} {s : State} {m : MethodId} {args : Array Value} {below : List Frame} {meth : Method} {c : Code} {H : Heap} {locs : List Loc} {cells slots : Nat} {Q : State → Prop}
variable {cc : ByteArray} {pc : Nat} {ls : Array Slot} {rest : List Value} {D : va_G} {cl : List vw_C} {A : Nat → Prop} {ct : Nat → ClassId} {ws : va_W} {H0 : Heap}
set_option maxHeartbeats 4000000 in
theorem tb_multi (hx : p.tables.exec = Jvm.exec) (hb : c.code = cc) {own : String} {index : Nat} (hown : s.vm.findClass own = some m.cls) (hclink : (Cond.classLink own index "[[I").before args s = true) (hover : tb_AOA s) (harr : (Cond.arrayClass .int).before args s = true)
    (hK : va_K D cl (tyL ct) s) (hP : va_P D cl ws H) (hD : va_D A ws) (hS : va_S A H0 H locs) (hA : ∀ q, H0.size ≤ q → A q) {n : Nat} (hn : n ≤ 1000) (hcells : cells + (1 + 3) ≤ R.cells) (hslots : slots + (3 + 3 * n) ≤ R.slots) (hd : decode cc pc = .ok (.multianewarray index 2, 4))
    (kk : ∀ (q qa qb qc : Nat) (H1 : Heap), va_P D cl (ws ++ [(q, .inl (ct 1, 3, .inr (.inr (.inr (.inr (tb_3 qa qb qc)))))), (qa, .inl (ct 0, n, .inl (aN (fun _ => 0)))), (qb, .inl (ct 0, n, .inl (aN (fun _ => 0)))), (qc, .inl (ct 0, n, .inl (aN (fun _ => 0))))]) H1 →
      va_D A (ws ++ [(q, .inl (ct 1, 3, .inr (.inr (.inr (.inr (tb_3 qa qb qc)))))), (qa, .inl (ct 0, n, .inl (aN (fun _ => 0)))), (qb, .inl (ct 0, n, .inl (aN (fun _ => 0)))), (qc, .inl (ct 0, n, .inl (aN (fun _ => 0))))]) → va_S A H0 H1 locs →
      W p l e R s m args below meth c H1 locs (cells + 1 + 3) (slots + 3 + 3 * n) Q (F0 m (pc + 4) ls (.ref q :: rest))) : W p l e R s m args below meth c H locs cells slots Q (F0 m pc ls (.int (nI n) :: .int (nI 3) :: rest)) := by
  intro T hT X
  have e3 : (nI 3).toNatClampNeg = 3 := nI_clamp (by decide)
  have en : (nI n).toNatClampNeg = n := nI_clamp (by omega)
  have hcl : (Cond.classLink own index ("[" ++ (FieldType.array .int).toString)).before args s = true := by
    rw [show "[" ++ (FieldType.array .int).toString = "[[I" from by decide +kernel]
    exact hclink
  obtain ⟨vm₁, cA, comp, -, fA, fC, -, -, X', step⟩ := X.multianewarray2F hx hown (ty := .int) hcl hover harr (g := F0 m pc ls (.int (nI n) :: .int (nI 3) :: rest)) rfl (by rw [hb]; exact hd) rfl (by decide) (nI_pos (by omega)) (by rw [e3]; decide) (by rw [en]; show n * 4 ≤ _; omega) (by rw [en]; omega) rfl rfl (by rw [e3]; exact hcells) (by rw [e3, en]; exact hslots)
  rw [e3, en] at X' step
  have a1 : s.vm.findClass ("[" ++ (FieldType.array .int).toString) = some (ct 1) := (hK.2 1 _ rfl).2
  have a0 : s.vm.findClass ("[" ++ FieldType.int.toString) = some (ct 0) := (hK.2 0 _ rfl).2
  obtain rfl : cA = ct 1 := Option.some.inj (fA.symm.trans a1)
  obtain rfl : comp = ct 0 := Option.some.inj (fC.symm.trans a0)
  have hTh : (T.setVm vm₁).heap = H := hT
  obtain ⟨f1, f2, -, -⟩ := Jvm.Free.Multi.fill_facts (T.setVm vm₁) (ct 1) (ct 0) 3 n (.int 0) 3
  have hold : ∀ x : Nat, x < H.size → (Jvm.Free.Multi.fill (T.setVm vm₁) (ct 1) (ct 0) 3 n (.int 0) 3).heap[x]? = H[x]? := fun x hx9 => by
    have := Jvm.Free.Multi.fill_old (T.setVm vm₁) (ct 1) (ct 0) 3 n (.int 0) (a := x) (by rw [hTh]; exact hx9) 3
    rw [hTh] at this
    exact this
  have hrow : ∀ j : Nat, j < 3 → (Jvm.Free.Multi.fill (T.setVm vm₁) (ct 1) (ct 0) 3 n (.int 0) 3).heap[H.size + 1 + j]? = some (vp_cell (ct 0) (n, .inl (aN (fun _ => 0)))) := fun j hj => by
    have := Jvm.Free.Multi.fill_inner (T.setVm vm₁) (ct 1) (ct 0) 3 n (.int 0) 3 j hj
    rw [hTh, tb_inner] at this
    exact this
  rw [hTh] at f1 f2
  rw [tb_outer] at f2
  change Stand p l e R s m args below meth c (Jvm.Free.Multi.fill (T.setVm vm₁) (ct 1) (ct 0) 3 n (.int 0) 3) locs (cells + 1 + 3) (slots + 3 + 3 * n) at X'
  change ∀ target, Steps p.tables e below ((Jvm.Free.Multi.fill (T.setVm vm₁) (ct 1) (ct 0) 3 n (.int 0) 3).setTop _) target → _ at step
  generalize Jvm.Free.Multi.fill (T.setVm vm₁) (ct 1) (ct 0) 3 n (.int 0) 3 = F at X' step f1 f2 hold hrow
  have hnew : ∀ (i : Nat) (x : Nat × va_E), ([(H.size, .inl (ct 1, 3, .inr (.inr (.inr (.inr (tb_3 (H.size + 1) (H.size + 2) (H.size + 3))))))), (H.size + 1, .inl (ct 0, n, .inl (aN (fun _ => 0)))), (H.size + 2, .inl (ct 0, n, .inl (aN (fun _ => 0)))), (H.size + 3, .inl (ct 0, n, .inl (aN (fun _ => 0))))] : va_W)[i]? = some x → x.1 = H.size + i ∧ va_at D cl x F.heap := by
    intro i x hx9
    match i, hx9 with
    | 0, hx9 => cases hx9; exact ⟨rfl, f2⟩
    | 1, hx9 => cases hx9; exact ⟨rfl, hrow 0 (by decide)⟩
    | 2, hx9 => cases hx9; exact ⟨rfl, hrow 1 (by decide)⟩
    | 3, hx9 => cases hx9; exact ⟨rfl, hrow 2 (by decide)⟩
    | i + 4, hx9 => simp at hx9
  have hP1 := (hP.kept (H1 := F.heap) (fun k x hx9 => hold x.1 ((hP k x hx9).lt))).app (fun i x hx9 => (hnew i x hx9).2)
  have hD1 := hD.app (w2 := [(H.size, .inl (ct 1, 3, .inr (.inr (.inr (.inr (tb_3 (H.size + 1) (H.size + 2) (H.size + 3))))))), (H.size + 1, .inl (ct 0, n, .inl (aN (fun _ => 0)))), (H.size + 2, .inl (ct 0, n, .inl (aN (fun _ => 0)))), (H.size + 3, .inl (ct 0, n, .inl (aN (fun _ => 0))))])
    ⟨fun i j x y hi hj e9 => by have h1 := (hnew i x hi).1; have h2 := (hnew j y hj).1; omega, fun k x hx9 => hA _ (by have h1 := (hnew k x hx9).1; have := hS.1; omega)⟩
    (fun i j x y hi hj e9 => by have h1 := (hP i x hi).lt; have h2 := (hnew j y hj).1; omega)
  have hS1 : va_S A H0 F.heap locs := ⟨by have := hS.1; omega, fun x h1 h2 => (hold x (Nat.lt_of_lt_of_le h1 hS.1)).trans (hS.2.1 x h1 h2), hS.2.2⟩
  obtain ⟨t, b1, b2⟩ := kk H.size (H.size + 1) (H.size + 2) (H.size + 3) F.heap hP1 hD1 hS1 F rfl X'
  refine ⟨t, step t ?_, b2⟩
  rw [hT]
  exact b1
end TBM2
