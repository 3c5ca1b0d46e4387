set_option maxHeartbeats 4000000 in
set_option maxRecDepth 100000 in
theorem k_Row_init (l : Launch) (D : va_G) (ct : Nat → ClassId) (h : Nat) (R : Nat) (sz : Nat) (hR : R ≤ 400) : Met l yX3_init wsX3_init ({ frames := 1, cells := 1, slots := 400, locals := 12 }) (tb_Pw D ct [.ref h, .int (nI R)] sz [(h, .inr (3, [.null, .int (nI 0)]))]) (va_Qv (fun _ => True) (tb_BS D (va_A [(h, .inr (3, [.null, .int (nI 0)]))] sz) (fun u : Nat → Nat => [(h, .inr (3, [.ref (u 0), .int (nI 0)])), (u 0, .inl (ct 0, R, .inl (aN (fun _ => 0))))])) (va_A [(h, .inr (3, [.null, .int (nI 0)]))] sz)) 1 400 (va_A [(h, .inr (3, [.null, .int (nI 0)]))] sz) := by
  refine Met.ofW (cc := cX3_init) (maxL := 2) (ret := none) (by decide) rfl ?_
  intro p e s m args below meth c s₁ B hml hv
  obtain ⟨rfl, hsz, hP, hK, hD0, hZ⟩ := hv
  have hx := B.exec
  have hb := B.bytes
  have hr := B.returns
  have hts0 := atoms_spec (ws := wsX3_init) B.pre
  have hts : ∀ w9 ∈ aw, w9.before ([.ref h, .int (nI R)] : List Value).toArray s = true := fun w9 h9 => hts0 w9 (List.mem_cons_of_mem _ h9)
  have hown : s.vm.findClass RX3 = some m.cls := findClass_of_methodNamed B.named
  have hlocks := B.notSynchronized
  have hin : meth.name = "<init>" := (name_of_methodNamed B.named B.method).1
  subst hsz
  have hD := hD0.self (sz := s.heap.size)
  generalize hAe : va_A [(h, .inr (3, [.null, .int (nI 0)]))] s.heap.size = A at hD hZ ⊢
  have hA : ∀ q : Nat, s.heap.size ≤ q → A q := fun q h => by rw [← hAe]; exact Or.inr h
  have hS : va_S A s.heap s.heap [] := va_S.rf
  have hP : va_P D vwCl [(h, .inr (3, [.null, .int (nI 0)]))] s.heap := hP
  have hl := lv_entry ([.ref h, .int (nI R)]) (n := 2) (Nat.le_of_ble_eq_true rfl)
  rw [lg_entry_eq]
  generalize (lg_sl ([.ref h, .int (nI R)]) ++ List.replicate (2 - (lg_sl ([.ref h, .int (nI R)])).length) Slot.unset).toArray = ls at hl ⊢
  have hl : lv_has ls 2 [(0, .ref h), (1, .int (nI R))] := hl
  refine lv_aload_n hx hb dX3_init_0 rfl (lv_at hl 0 rfl) ?_
  refine W.objInit hx hb hown (hts _ w_68) (hts _ w_38) (hts _ wcObj) rfl (by rw [hml]; exact hl.1) rfl dX3_init_1 (Nat.le_of_ble_eq_true rfl) (Nat.le_of_ble_eq_true rfl) ?_
  refine W.eq (g2 := F0 m 4 ls []) rfl ?_
  refine lv_aload_n hx hb dX3_init_4 rfl (lv_at hl 0 rfl) ?_
  refine lv_iconst (v := nI 0) hx hb dX3_init_5 (by decide) ?_
  refine va_put (D := D) (ci := 3) (v := .int (nI 0)) (ty := .int) (C := RX3) (T := TX3) (N := 2) hx hb hts inX3 tyX3 tyX3_ok nmX3 hown hK hP hD hS 0 rfl rfl 1 (by decide) (hts _ w_70) (fun _ h9 => h9) rfl (by decide +kernel) rfl rfl (Nat.le_of_ble_eq_true rfl) dX3_init_6 (fun H locs hP hD hS => ?_)
  have hP : va_P D vwCl [(h, .inr (3, [.null, .int (nI 0)]))] H := hP
  have hD : va_D A [(h, .inr (3, [.null, .int (nI 0)]))] := hD
  refine lv_aload_n hx hb dX3_init_9 rfl (lv_at hl 0 rfl) ?_
  refine lv_iload_n hx hb dX3_init_10 rfl (lv_at hl 1 rfl) ?_
  refine va_newa (atype := .int) (ty := .int) (n := nI R) (N' := R) (a0 := (R, .inl (aN (fun _ => 0)))) hx hb (hts _ w_58) rfl hK hP hD hS hA (fun _ => rfl) (nI_pos (by omega)) (nI_clamp (by omega)) (by show R * 4 ≤ 536870912; omega) (Nat.le_of_ble_eq_true rfl) (Nat.le_trans (Nat.add_le_add_left (show R ≤ 400 by omega) _) (Nat.le_of_ble_eq_true rfl)) dX3_init_11 (fun q11_1 cA9 H hK9 hP hD hS => ?_)
  obtain rfl : cA9 = ct 0 := tb_cls hK hK9 0 rfl
  have hP : va_P D vwCl [(h, .inr (3, [.null, .int (nI 0)])), (q11_1, .inl (ct 0, R, .inl (aN (fun _ => 0))))] H := hP
  have hD : va_D A [(h, .inr (3, [.null, .int (nI 0)])), (q11_1, .inl (ct 0, R, .inl (aN (fun _ => 0))))] := hD
  refine W.widen (k := 1) (n := 400) (Nat.le_refl _) (Nat.add_le_add_left (show R ≤ 400 by omega) _) ?_
  refine va_putF (D := D) (ci := 3) (v := .ref q11_1) (ty := .array .int) (C := RX3) (T := TX3) (N := 2) hx hb hts inX3 tyX3 tyX3_ok nmX3 hown hK hP hD hS 0 rfl rfl 0 (by decide) (hts _ w_69) (fun _ h9 => h9) rfl hin rfl (by decide +kernel) rfl rfl (Nat.le_of_ble_eq_true rfl) dX3_init_13 (fun H locs hP hD hS => ?_)
  have hP : va_P D vwCl [(h, .inr (3, [.ref q11_1, .int (nI 0)])), (q11_1, .inl (ct 0, R, .inl (aN (fun _ => 0))))] H := hP
  have hD : va_D A [(h, .inr (3, [.ref q11_1, .int (nI 0)])), (q11_1, .inl (ct 0, R, .inl (aN (fun _ => 0))))] := hD
  have hP9 : va_P D vwCl [(h, .inr (3, [.ref q11_1, .int (nI 0)])), (q11_1, .inl (ct 0, R, .inl (aN (fun _ => 0))))] _ := hP.sub [0, 1] rfl
  have hD9 : va_D A [(h, .inr (3, [.ref q11_1, .int (nI 0)])), (q11_1, .inl (ct 0, R, .inl (aN (fun _ => 0))))] := hD.sub [0, 1] (by decide) rfl
  exact W.vret hx hb hr (fun t ht hW => ⟨⟨(fun j => [q11_1].getD j 0), rfl, trivial, by rw [ht]; exact hP9, hD9⟩, hS.F ht⟩) hS.2.2 dX3_init_16

set_option maxHeartbeats 4000000 in
set_option maxRecDepth 100000 in
theorem k_Range_init (l : Launch) (D : va_G) (ct : Nat → ClassId) (r : Nat) (sz : Nat) : Met l yX2_init wsX2_init ({ frames := 1, cells := 0, slots := 0, locals := 12 }) (tb_Pw D ct [.ref r] sz [(r, .inr (2, [.int (nI 0), .int (nI 0), .int (nI 0)]))]) (va_Qv (fun _ => True) (tb_B D (va_A [(r, .inr (2, [.int (nI 0), .int (nI 0), .int (nI 0)]))] sz) [(r, .inr (2, [.int (nI 0), .int (-1), .int (-1)]))]) (va_A [(r, .inr (2, [.int (nI 0), .int (nI 0), .int (nI 0)]))] sz)) 0 0 (va_A [(r, .inr (2, [.int (nI 0), .int (nI 0), .int (nI 0)]))] sz) := by
  refine Met.ofW (cc := cX2_init) (maxL := 1) (ret := none) (by decide) rfl ?_
  intro p e s m args below meth c s₁ B hml hv
  obtain ⟨rfl, hsz, hP, hK, hD0, hZ⟩ := hv
  have hx := B.exec
  have hb := B.bytes
  have hr := B.returns
  have hts0 := atoms_spec (ws := wsX2_init) B.pre
  have hts : ∀ w9 ∈ aw, w9.before ([.ref r] : List Value).toArray s = true := fun w9 h9 => hts0 w9 (List.mem_cons_of_mem _ h9)
  have hown : s.vm.findClass RX2 = some m.cls := findClass_of_methodNamed B.named
  have hlocks := B.notSynchronized
  have hin : meth.name = "<init>" := (name_of_methodNamed B.named B.method).1
  subst hsz
  have hD := hD0.self (sz := s.heap.size)
  generalize hAe : va_A [(r, .inr (2, [.int (nI 0), .int (nI 0), .int (nI 0)]))] s.heap.size = A at hD hZ ⊢
  have hA : ∀ q : Nat, s.heap.size ≤ q → A q := fun q h => by rw [← hAe]; exact Or.inr h
  have hS : va_S A s.heap s.heap [] := va_S.rf
  have hP : va_P D vwCl [(r, .inr (2, [.int (nI 0), .int (nI 0), .int (nI 0)]))] s.heap := hP
  have hl := lv_entry ([.ref r]) (n := 1) (Nat.le_of_ble_eq_true rfl)
  rw [lg_entry_eq]
  generalize (lg_sl ([.ref r]) ++ List.replicate (1 - (lg_sl ([.ref r])).length) Slot.unset).toArray = ls at hl ⊢
  have hl : lv_has ls 1 [(0, .ref r)] := hl
  refine lv_aload_n hx hb dX2_init_0 rfl (lv_at hl 0 rfl) ?_
  refine W.objInit hx hb hown (hts _ w_82) (hts _ w_38) (hts _ wcObj) rfl (by rw [hml]; exact hl.1) rfl dX2_init_1 (Nat.le_of_ble_eq_true rfl) (Nat.le_of_ble_eq_true rfl) ?_
  refine W.eq (g2 := F0 m 4 ls []) rfl ?_
  refine lv_aload_n hx hb dX2_init_4 rfl (lv_at hl 0 rfl) ?_
  refine lv_iconst (v := nI 0) hx hb dX2_init_5 (by decide) ?_
  refine va_put (D := D) (ci := 2) (v := .int (nI 0)) (ty := .int) (C := RX2) (T := TX2) (N := 3) hx hb hts inX2 tyX2 tyX2_ok nmX2 hown hK hP hD hS 0 rfl rfl 0 (by decide) (hts _ w_83) (fun _ h9 => h9) rfl (by decide +kernel) rfl rfl (Nat.le_of_ble_eq_true rfl) dX2_init_6 (fun H locs hP hD hS => ?_)
  have hP : va_P D vwCl [(r, .inr (2, [.int (nI 0), .int (nI 0), .int (nI 0)]))] H := hP
  have hD : va_D A [(r, .inr (2, [.int (nI 0), .int (nI 0), .int (nI 0)]))] := hD
  refine lv_aload_n hx hb dX2_init_9 rfl (lv_at hl 0 rfl) ?_
  refine lv_iconst (v := (-1)) hx hb dX2_init_10 (by decide) ?_
  refine va_put (D := D) (ci := 2) (v := .int (-1)) (ty := .int) (C := RX2) (T := TX2) (N := 3) hx hb hts inX2 tyX2 tyX2_ok nmX2 hown hK hP hD hS 0 rfl rfl 1 (by decide) (hts _ w_85) (fun _ h9 => h9) rfl (by decide +kernel) rfl rfl (Nat.le_of_ble_eq_true rfl) dX2_init_11 (fun H locs hP hD hS => ?_)
  have hP : va_P D vwCl [(r, .inr (2, [.int (nI 0), .int (-1), .int (nI 0)]))] H := hP
  have hD : va_D A [(r, .inr (2, [.int (nI 0), .int (-1), .int (nI 0)]))] := hD
  refine lv_aload_n hx hb dX2_init_14 rfl (lv_at hl 0 rfl) ?_
  refine lv_iconst (v := (-1)) hx hb dX2_init_15 (by decide) ?_
  refine va_put (D := D) (ci := 2) (v := .int (-1)) (ty := .int) (C := RX2) (T := TX2) (N := 3) hx hb hts inX2 tyX2 tyX2_ok nmX2 hown hK hP hD hS 0 rfl rfl 2 (by decide) (hts _ w_86) (fun _ h9 => h9) rfl (by decide +kernel) rfl rfl (Nat.le_of_ble_eq_true rfl) dX2_init_16 (fun H locs hP hD hS => ?_)
  have hP : va_P D vwCl [(r, .inr (2, [.int (nI 0), .int (-1), .int (-1)]))] H := hP
  have hD : va_D A [(r, .inr (2, [.int (nI 0), .int (-1), .int (-1)]))] := hD
  have hP9 : va_P D vwCl [(r, .inr (2, [.int (nI 0), .int (-1), .int (-1)]))] _ := hP.sub [0] rfl
  have hD9 : va_D A [(r, .inr (2, [.int (nI 0), .int (-1), .int (-1)]))] := hD.sub [0] (by decide) rfl
  exact W.vret hx hb hr (fun t ht hW => ⟨⟨(), rfl, trivial, by rw [ht]; exact hP9, hD9⟩, hS.F ht⟩) hS.2.2 dX2_init_19

set_option maxHeartbeats 4000000 in
set_option maxRecDepth 100000 in
theorem k_PR_init (l : Launch) (D : va_G) (ct : Nat → ClassId) (h : Nat) (R : Nat) (sz : Nat) (hR : R ≤ 400) : Met l yX1_init wsX1_init ({ frames := 2, cells := 3, slots := 802, locals := 33 }) (tb_Pw D ct [.ref h, .int (nI R)] sz [(h, .inr (1, [.null, .null, .int (nI 0)]))]) (va_Qv (fun _ => True) (tb_BS D (va_A [(h, .inr (1, [.null, .null, .int (nI 0)]))] sz) (fun u : Nat → Nat => [(h, .inr (1, [.ref (u 0), .ref (u 2), .int (nI 0)])), (u 0, .inr (3, [.ref (u 1), .int (nI 0)])), (u 1, .inl (ct 0, R, .inl (aN (fun _ => 0)))), (u 2, .inl (ct 0, R, .inl (aN (fun _ => 0))))])) (va_A [(h, .inr (1, [.null, .null, .int (nI 0)]))] sz)) 3 802 (va_A [(h, .inr (1, [.null, .null, .int (nI 0)]))] sz) := by
  refine Met.ofW (cc := cX1_init) (maxL := 2) (ret := none) (by decide) rfl ?_
  intro p e s m args below meth c s₁ B hml hv
  obtain ⟨rfl, hsz, hP, hK, hD0, hZ⟩ := hv
  have hx := B.exec
  have hb := B.bytes
  have hr := B.returns
  have hts0 := atoms_spec (ws := wsX1_init) B.pre
  have hts : ∀ w9 ∈ aw, w9.before ([.ref h, .int (nI R)] : List Value).toArray s = true := fun w9 h9 => hts0 w9 (List.mem_cons_of_mem _ h9)
  have hown : s.vm.findClass RX1 = some m.cls := findClass_of_methodNamed B.named
  have hlocks := B.notSynchronized
  have hin : meth.name = "<init>" := (name_of_methodNamed B.named B.method).1
  subst hsz
  have hD := hD0.self (sz := s.heap.size)
  generalize hAe : va_A [(h, .inr (1, [.null, .null, .int (nI 0)]))] s.heap.size = A at hD hZ ⊢
  have hA : ∀ q : Nat, s.heap.size ≤ q → A q := fun q h => by rw [← hAe]; exact Or.inr h
  have hS : va_S A s.heap s.heap [] := va_S.rf
  have hP : va_P D vwCl [(h, .inr (1, [.null, .null, .int (nI 0)]))] s.heap := hP
  have hl := lv_entry ([.ref h, .int (nI R)]) (n := 2) (Nat.le_of_ble_eq_true rfl)
  rw [lg_entry_eq]
  generalize (lg_sl ([.ref h, .int (nI R)]) ++ List.replicate (2 - (lg_sl ([.ref h, .int (nI R)])).length) Slot.unset).toArray = ls at hl ⊢
  have hl : lv_has ls 2 [(0, .ref h), (1, .int (nI R))] := hl
  refine lv_aload_n hx hb dX1_init_0 rfl (lv_at hl 0 rfl) ?_
  refine W.objInit hx hb hown (hts _ w_63) (hts _ w_38) (hts _ wcObj) rfl (by rw [hml]; exact hl.1) rfl dX1_init_1 (Nat.le_of_ble_eq_true rfl) (Nat.le_of_ble_eq_true rfl) ?_
  refine W.eq (g2 := F0 m 4 ls []) rfl ?_
  refine lv_aload_n hx hb dX1_init_4 rfl (lv_at hl 0 rfl) ?_
  refine lv_iconst (v := nI 0) hx hb dX1_init_5 (by decide) ?_
  refine va_put (D := D) (ci := 1) (v := .int (nI 0)) (ty := .int) (C := RX1) (T := TX1) (N := 3) hx hb hts inX1 tyX1 tyX1_ok nmX1 hown hK hP hD hS 0 rfl rfl 2 (by decide) (hts _ w_75) (fun _ h9 => h9) rfl (by decide +kernel) rfl rfl (Nat.le_of_ble_eq_true rfl) dX1_init_6 (fun H locs hP hD hS => ?_)
  have hP : va_P D vwCl [(h, .inr (1, [.null, .null, .int (nI 0)]))] H := hP
  have hD : va_D A [(h, .inr (1, [.null, .null, .int (nI 0)]))] := hD
  refine lv_aload_n hx hb dX1_init_9 rfl (lv_at hl 0 rfl) ?_
  refine va_new (ci := 3) (fs := [.null, .int (nI 0)]) (C := RX3) (T := TX3) (N := 2) hx hb hts inX3 tyX3 tyX3_ok hown (hts _ w_64) (hts _ w_65) (hts _ w_28) hK hP hD hS hA rfl (fun j hj => by rcases (show j = 0 ∨ j = 1 by omega) with rfl | rfl <;> rfl) (Nat.le_of_ble_eq_true rfl) (Nat.le_of_ble_eq_true rfl) dX1_init_10 (fun q10_1 H hP hD hS => ?_)
  have hP : va_P D vwCl [(h, .inr (1, [.null, .null, .int (nI 0)])), (q10_1, .inr (3, [.null, .int (nI 0)]))] H := hP
  have hD : va_D A [(h, .inr (1, [.null, .null, .int (nI 0)])), (q10_1, .inr (3, [.null, .int (nI 0)]))] := hD
  refine W.widen (k := 1) (n := 2) (Nat.le_refl _) (Nat.le_refl _) ?_
  refine lv_dup hx hb dX1_init_13 rfl ?_
  refine lv_iload_n hx hb dX1_init_14 rfl (lv_at hl 1 rfl) ?_
  refine tb_callS (wr := [(h, .inr (1, [.null, .null, .int (nI 0)]))]) hP hD hS hA [1] [0] rfl rfl (by decide) (by decide) (va_runI (As := [.int (nI R)]) (rest := [.ref q10_1, .ref h]) ⟨hx, hb, hml, hown, hts⟩ (k_Row_init l D ct q10_1 R _ hR) (cwI 1 hts (gw_I (fun _ h => h) wcX3_init) rfl rfl rfl (hts _ w_28) (hts _ w_66) (hts _ w_67) rfl hvX3_init.2 ⟨Nat.le_of_ble_eq_true rfl, Nat.le_of_ble_eq_true rfl⟩) (tb_pwS hP hD hK hZ hS hA [1] (by decide) rfl) rfl rfl hl.1 rfl (lv_room (Nat.le_of_ble_eq_true rfl)) dX1_init_15 ⟨Nat.le_of_ble_eq_true rfl, Nat.le_of_ble_eq_true rfl⟩) (fun u15_2 H locs hP hD hS => ?_)
  have hP : va_P D vwCl [(h, .inr (1, [.null, .null, .int (nI 0)])), (q10_1, .inr (3, [.ref (u15_2 0), .int (nI 0)])), (u15_2 0, .inl (ct 0, R, .inl (aN (fun _ => 0))))] H := hP
  have hD : va_D A [(h, .inr (1, [.null, .null, .int (nI 0)])), (q10_1, .inr (3, [.ref (u15_2 0), .int (nI 0)])), (u15_2 0, .inl (ct 0, R, .inl (aN (fun _ => 0))))] := hD
  refine W.widen (k := 2) (n := 402) (Nat.le_refl _) (Nat.le_refl _) ?_
  refine va_putF (D := D) (ci := 1) (v := .ref q10_1) (ty := .object "TripleOrders$Row") (C := RX1) (T := TX1) (N := 3) hx hb hts inX1 tyX1 tyX1_ok nmX1 hown hK hP hD hS 0 rfl rfl 0 (by decide) (hts _ w_72) (fun _ h9 => h9) rfl hin rfl (by decide +kernel) rfl rfl (Nat.le_of_ble_eq_true rfl) dX1_init_18 (fun H locs hP hD hS => ?_)
  have hP : va_P D vwCl [(h, .inr (1, [.ref q10_1, .null, .int (nI 0)])), (q10_1, .inr (3, [.ref (u15_2 0), .int (nI 0)])), (u15_2 0, .inl (ct 0, R, .inl (aN (fun _ => 0))))] H := hP
  have hD : va_D A [(h, .inr (1, [.ref q10_1, .null, .int (nI 0)])), (q10_1, .inr (3, [.ref (u15_2 0), .int (nI 0)])), (u15_2 0, .inl (ct 0, R, .inl (aN (fun _ => 0))))] := hD
  refine lv_aload_n hx hb dX1_init_21 rfl (lv_at hl 0 rfl) ?_
  refine lv_iload_n hx hb dX1_init_22 rfl (lv_at hl 1 rfl) ?_
  refine va_newa (atype := .int) (ty := .int) (n := nI R) (N' := R) (a0 := (R, .inl (aN (fun _ => 0)))) hx hb (hts _ w_58) rfl hK hP hD hS hA (fun _ => rfl) (nI_pos (by omega)) (nI_clamp (by omega)) (by show R * 4 ≤ 536870912; omega) (Nat.le_of_ble_eq_true rfl) (Nat.le_trans (Nat.add_le_add_left (show R ≤ 400 by omega) _) (Nat.le_of_ble_eq_true rfl)) dX1_init_23 (fun q23_3 cA9 H hK9 hP hD hS => ?_)
  obtain rfl : cA9 = ct 0 := tb_cls hK hK9 0 rfl
  have hP : va_P D vwCl [(h, .inr (1, [.ref q10_1, .null, .int (nI 0)])), (q10_1, .inr (3, [.ref (u15_2 0), .int (nI 0)])), (u15_2 0, .inl (ct 0, R, .inl (aN (fun _ => 0)))), (q23_3, .inl (ct 0, R, .inl (aN (fun _ => 0))))] H := hP
  have hD : va_D A [(h, .inr (1, [.ref q10_1, .null, .int (nI 0)])), (q10_1, .inr (3, [.ref (u15_2 0), .int (nI 0)])), (u15_2 0, .inl (ct 0, R, .inl (aN (fun _ => 0)))), (q23_3, .inl (ct 0, R, .inl (aN (fun _ => 0))))] := hD
  refine W.widen (k := 3) (n := 802) (Nat.le_refl _) (Nat.add_le_add_left (show R ≤ 400 by omega) _) ?_
  refine va_putF (D := D) (ci := 1) (v := .ref q23_3) (ty := .array .int) (C := RX1) (T := TX1) (N := 3) hx hb hts inX1 tyX1 tyX1_ok nmX1 hown hK hP hD hS 0 rfl rfl 1 (by decide) (hts _ w_74) (fun _ h9 => h9) rfl hin rfl (by decide +kernel) rfl rfl (Nat.le_of_ble_eq_true rfl) dX1_init_25 (fun H locs hP hD hS => ?_)
  have hP : va_P D vwCl [(h, .inr (1, [.ref q10_1, .ref q23_3, .int (nI 0)])), (q10_1, .inr (3, [.ref (u15_2 0), .int (nI 0)])), (u15_2 0, .inl (ct 0, R, .inl (aN (fun _ => 0)))), (q23_3, .inl (ct 0, R, .inl (aN (fun _ => 0))))] H := hP
  have hD : va_D A [(h, .inr (1, [.ref q10_1, .ref q23_3, .int (nI 0)])), (q10_1, .inr (3, [.ref (u15_2 0), .int (nI 0)])), (u15_2 0, .inl (ct 0, R, .inl (aN (fun _ => 0)))), (q23_3, .inl (ct 0, R, .inl (aN (fun _ => 0))))] := hD
  have hP9 : va_P D vwCl [(h, .inr (1, [.ref q10_1, .ref q23_3, .int (nI 0)])), (q10_1, .inr (3, [.ref (u15_2 0), .int (nI 0)])), (u15_2 0, .inl (ct 0, R, .inl (aN (fun _ => 0)))), (q23_3, .inl (ct 0, R, .inl (aN (fun _ => 0))))] _ := hP.sub [0, 1, 2, 3] rfl
  have hD9 : va_D A [(h, .inr (1, [.ref q10_1, .ref q23_3, .int (nI 0)])), (q10_1, .inr (3, [.ref (u15_2 0), .int (nI 0)])), (u15_2 0, .inl (ct 0, R, .inl (aN (fun _ => 0)))), (q23_3, .inl (ct 0, R, .inl (aN (fun _ => 0))))] := hD.sub [0, 1, 2, 3] (by decide) rfl
  exact W.vret hx hb hr (fun t ht hW => ⟨⟨(fun j => [q10_1, u15_2 0, q23_3].getD j 0), rfl, trivial, by rw [ht]; exact hP9, hD9⟩, hS.F ht⟩) hS.2.2 dX1_init_28

set_option maxHeartbeats 4000000 in
set_option maxRecDepth 100000 in
theorem k_Log_init (l : Launch) (D : va_G) (ct : Nat → ClassId) (g : Nat) (R : Nat) (sz : Nat) (hR : R ≤ 400) : Met l yX0_init wsX0_init ({ frames := 1, cells := 6, slots := 2003, locals := 12 }) (tb_Pw D ct [.ref g, .int (nI R)] sz [(g, .inr (0, [.null, .null, .null, .int (nI 0), .int (nI 0), .int (nI 0)]))]) (va_Qv (fun _ => True) (tb_BS D (va_A [(g, .inr (0, [.null, .null, .null, .int (nI 0), .int (nI 0), .int (nI 0)]))] sz) (fun u : Nat → Nat => [(g, .inr (0, [.ref (u 0), .ref (u 4), .ref (u 5), .int (nI 0), .int (nI 0), .int (-1)])), (u 0, .inl (ct 1, 3, .inr (.inr (.inr (.inr (tb_3 (u 1) (u 2) (u 3))))))), (u 1, .inl (ct 0, R, .inl (aN (fun _ => 0)))), (u 2, .inl (ct 0, R, .inl (aN (fun _ => 0)))), (u 3, .inl (ct 0, R, .inl (aN (fun _ => 0)))), (u 4, .inl (ct 0, R, .inl (aN (fun _ => 0)))), (u 5, .inl (ct 0, R, .inl (aN (fun _ => 0))))])) (va_A [(g, .inr (0, [.null, .null, .null, .int (nI 0), .int (nI 0), .int (nI 0)]))] sz)) 6 2003 (va_A [(g, .inr (0, [.null, .null, .null, .int (nI 0), .int (nI 0), .int (nI 0)]))] sz) := by
  refine Met.ofW (cc := cX0_init) (maxL := 2) (ret := none) (by decide) rfl ?_
  intro p e s m args below meth c s₁ B hml hv
  obtain ⟨rfl, hsz, hP, hK, hD0, hZ⟩ := hv
  have hx := B.exec
  have hb := B.bytes
  have hr := B.returns
  have hts0 := atoms_spec (ws := wsX0_init) B.pre
  have hts : ∀ w9 ∈ aw, w9.before ([.ref g, .int (nI R)] : List Value).toArray s = true := fun w9 h9 => hts0 w9 (List.mem_cons_of_mem _ h9)
  have hown : s.vm.findClass RX0 = some m.cls := findClass_of_methodNamed B.named
  have hlocks := B.notSynchronized
  have hin : meth.name = "<init>" := (name_of_methodNamed B.named B.method).1
  subst hsz
  have hD := hD0.self (sz := s.heap.size)
  generalize hAe : va_A [(g, .inr (0, [.null, .null, .null, .int (nI 0), .int (nI 0), .int (nI 0)]))] s.heap.size = A at hD hZ ⊢
  have hA : ∀ q : Nat, s.heap.size ≤ q → A q := fun q h => by rw [← hAe]; exact Or.inr h
  have hS : va_S A s.heap s.heap [] := va_S.rf
  have hP : va_P D vwCl [(g, .inr (0, [.null, .null, .null, .int (nI 0), .int (nI 0), .int (nI 0)]))] s.heap := hP
  have hl := lv_entry ([.ref g, .int (nI R)]) (n := 2) (Nat.le_of_ble_eq_true rfl)
  rw [lg_entry_eq]
  generalize (lg_sl ([.ref g, .int (nI R)]) ++ List.replicate (2 - (lg_sl ([.ref g, .int (nI R)])).length) Slot.unset).toArray = ls at hl ⊢
  have hl : lv_has ls 2 [(0, .ref g), (1, .int (nI R))] := hl
  refine lv_aload_n hx hb dX0_init_0 rfl (lv_at hl 0 rfl) ?_
  refine W.objInit hx hb hown (hts _ w_47) (hts _ w_38) (hts _ wcObj) rfl (by rw [hml]; exact hl.1) rfl dX0_init_1 (Nat.le_of_ble_eq_true rfl) (Nat.le_of_ble_eq_true rfl) ?_
  refine W.eq (g2 := F0 m 4 ls []) rfl ?_
  refine lv_aload_n hx hb dX0_init_4 rfl (lv_at hl 0 rfl) ?_
  refine lv_iconst (v := nI 0) hx hb dX0_init_5 (by decide) ?_
  refine va_put (D := D) (ci := 0) (v := .int (nI 0)) (ty := .int) (C := RX0) (T := TX0) (N := 6) hx hb hts inX0 tyX0 tyX0_ok nmX0 hown hK hP hD hS 0 rfl rfl 3 (by decide) (hts _ w_52) (fun _ h9 => h9) rfl (by decide +kernel) rfl rfl (Nat.le_of_ble_eq_true rfl) dX0_init_6 (fun H locs hP hD hS => ?_)
  have hP : va_P D vwCl [(g, .inr (0, [.null, .null, .null, .int (nI 0), .int (nI 0), .int (nI 0)]))] H := hP
  have hD : va_D A [(g, .inr (0, [.null, .null, .null, .int (nI 0), .int (nI 0), .int (nI 0)]))] := hD
  refine lv_aload_n hx hb dX0_init_9 rfl (lv_at hl 0 rfl) ?_
  refine lv_iconst (v := nI 0) hx hb dX0_init_10 (by decide) ?_
  refine va_put (D := D) (ci := 0) (v := .int (nI 0)) (ty := .int) (C := RX0) (T := TX0) (N := 6) hx hb hts inX0 tyX0 tyX0_ok nmX0 hown hK hP hD hS 0 rfl rfl 4 (by decide) (hts _ w_54) (fun _ h9 => h9) rfl (by decide +kernel) rfl rfl (Nat.le_of_ble_eq_true rfl) dX0_init_11 (fun H locs hP hD hS => ?_)
  have hP : va_P D vwCl [(g, .inr (0, [.null, .null, .null, .int (nI 0), .int (nI 0), .int (nI 0)]))] H := hP
  have hD : va_D A [(g, .inr (0, [.null, .null, .null, .int (nI 0), .int (nI 0), .int (nI 0)]))] := hD
  refine lv_aload_n hx hb dX0_init_14 rfl (lv_at hl 0 rfl) ?_
  refine lv_iconst (v := (-1)) hx hb dX0_init_15 (by decide) ?_
  refine va_put (D := D) (ci := 0) (v := .int (-1)) (ty := .int) (C := RX0) (T := TX0) (N := 6) hx hb hts inX0 tyX0 tyX0_ok nmX0 hown hK hP hD hS 0 rfl rfl 5 (by decide) (hts _ w_56) (fun _ h9 => h9) rfl (by decide +kernel) rfl rfl (Nat.le_of_ble_eq_true rfl) dX0_init_16 (fun H locs hP hD hS => ?_)
  have hP : va_P D vwCl [(g, .inr (0, [.null, .null, .null, .int (nI 0), .int (nI 0), .int (-1)]))] H := hP
  have hD : va_D A [(g, .inr (0, [.null, .null, .null, .int (nI 0), .int (nI 0), .int (-1)]))] := hD
  refine lv_aload_n hx hb dX0_init_19 rfl (lv_at hl 0 rfl) ?_
  refine lv_iconst (v := nI 3) hx hb dX0_init_20 (by decide) ?_
  refine lv_iload_n hx hb dX0_init_21 rfl (lv_at hl 1 rfl) ?_
  refine tb_multi hx hb hown (hts _ w_48) hZ.2.2.2.1 (hts _ w_58) hK hP hD hS hA (n := R) (by omega) (Nat.le_of_ble_eq_true rfl) (Nat.le_trans (Nat.add_le_add_left (show 3 + 3 * R ≤ 1203 by omega) _) (Nat.le_of_ble_eq_true rfl)) dX0_init_22 (fun q22_1 q22_1a q22_1b q22_1c H hP hD hS => ?_)
  have hP : va_P D vwCl [(g, .inr (0, [.null, .null, .null, .int (nI 0), .int (nI 0), .int (-1)])), (q22_1, .inl (ct 1, 3, .inr (.inr (.inr (.inr (tb_3 q22_1a q22_1b q22_1c)))))), (q22_1a, .inl (ct 0, R, .inl (aN (fun _ => 0)))), (q22_1b, .inl (ct 0, R, .inl (aN (fun _ => 0)))), (q22_1c, .inl (ct 0, R, .inl (aN (fun _ => 0))))] H := hP
  have hD : va_D A [(g, .inr (0, [.null, .null, .null, .int (nI 0), .int (nI 0), .int (-1)])), (q22_1, .inl (ct 1, 3, .inr (.inr (.inr (.inr (tb_3 q22_1a q22_1b q22_1c)))))), (q22_1a, .inl (ct 0, R, .inl (aN (fun _ => 0)))), (q22_1b, .inl (ct 0, R, .inl (aN (fun _ => 0)))), (q22_1c, .inl (ct 0, R, .inl (aN (fun _ => 0))))] := hD
  refine W.widen (k := 4) (n := 1203) (by omega) (by omega) ?_
  refine va_putF (D := D) (ci := 0) (v := .ref q22_1) (ty := .array (.array .int)) (C := RX0) (T := TX0) (N := 6) hx hb hts inX0 tyX0 tyX0_ok nmX0 hown hK hP hD hS 0 rfl rfl 0 (by decide) (hts _ w_49) (fun _ h9 => h9) rfl hin rfl (by decide +kernel) rfl rfl (Nat.le_of_ble_eq_true rfl) dX0_init_26 (fun H locs hP hD hS => ?_)
  have hP : va_P D vwCl [(g, .inr (0, [.ref q22_1, .null, .null, .int (nI 0), .int (nI 0), .int (-1)])), (q22_1, .inl (ct 1, 3, .inr (.inr (.inr (.inr (tb_3 q22_1a q22_1b q22_1c)))))), (q22_1a, .inl (ct 0, R, .inl (aN (fun _ => 0)))), (q22_1b, .inl (ct 0, R, .inl (aN (fun _ => 0)))), (q22_1c, .inl (ct 0, R, .inl (aN (fun _ => 0))))] H := hP
  have hD : va_D A [(g, .inr (0, [.ref q22_1, .null, .null, .int (nI 0), .int (nI 0), .int (-1)])), (q22_1, .inl (ct 1, 3, .inr (.inr (.inr (.inr (tb_3 q22_1a q22_1b q22_1c)))))), (q22_1a, .inl (ct 0, R, .inl (aN (fun _ => 0)))), (q22_1b, .inl (ct 0, R, .inl (aN (fun _ => 0)))), (q22_1c, .inl (ct 0, R, .inl (aN (fun _ => 0))))] := hD
  refine lv_aload_n hx hb dX0_init_29 rfl (lv_at hl 0 rfl) ?_
  refine lv_iload_n hx hb dX0_init_30 rfl (lv_at hl 1 rfl) ?_
  refine va_newa (atype := .int) (ty := .int) (n := nI R) (N' := R) (a0 := (R, .inl (aN (fun _ => 0)))) hx hb (hts _ w_58) rfl hK hP hD hS hA (fun _ => rfl) (nI_pos (by omega)) (nI_clamp (by omega)) (by show R * 4 ≤ 536870912; omega) (Nat.le_of_ble_eq_true rfl) (Nat.le_trans (Nat.add_le_add_left (show R ≤ 400 by omega) _) (Nat.le_of_ble_eq_true rfl)) dX0_init_31 (fun q31_2 cA9 H hK9 hP hD hS => ?_)
  obtain rfl : cA9 = ct 0 := tb_cls hK hK9 0 rfl
  have hP : va_P D vwCl [(g, .inr (0, [.ref q22_1, .null, .null, .int (nI 0), .int (nI 0), .int (-1)])), (q22_1, .inl (ct 1, 3, .inr (.inr (.inr (.inr (tb_3 q22_1a q22_1b q22_1c)))))), (q22_1a, .inl (ct 0, R, .inl (aN (fun _ => 0)))), (q22_1b, .inl (ct 0, R, .inl (aN (fun _ => 0)))), (q22_1c, .inl (ct 0, R, .inl (aN (fun _ => 0)))), (q31_2, .inl (ct 0, R, .inl (aN (fun _ => 0))))] H := hP
  have hD : va_D A [(g, .inr (0, [.ref q22_1, .null, .null, .int (nI 0), .int (nI 0), .int (-1)])), (q22_1, .inl (ct 1, 3, .inr (.inr (.inr (.inr (tb_3 q22_1a q22_1b q22_1c)))))), (q22_1a, .inl (ct 0, R, .inl (aN (fun _ => 0)))), (q22_1b, .inl (ct 0, R, .inl (aN (fun _ => 0)))), (q22_1c, .inl (ct 0, R, .inl (aN (fun _ => 0)))), (q31_2, .inl (ct 0, R, .inl (aN (fun _ => 0))))] := hD
  refine W.widen (k := 5) (n := 1603) (Nat.le_refl _) (Nat.add_le_add_left (show R ≤ 400 by omega) _) ?_
  refine va_putF (D := D) (ci := 0) (v := .ref q31_2) (ty := .array .int) (C := RX0) (T := TX0) (N := 6) hx hb hts inX0 tyX0 tyX0_ok nmX0 hown hK hP hD hS 0 rfl rfl 1 (by decide) (hts _ w_50) (fun _ h9 => h9) rfl hin rfl (by decide +kernel) rfl rfl (Nat.le_of_ble_eq_true rfl) dX0_init_33 (fun H locs hP hD hS => ?_)
  have hP : va_P D vwCl [(g, .inr (0, [.ref q22_1, .ref q31_2, .null, .int (nI 0), .int (nI 0), .int (-1)])), (q22_1, .inl (ct 1, 3, .inr (.inr (.inr (.inr (tb_3 q22_1a q22_1b q22_1c)))))), (q22_1a, .inl (ct 0, R, .inl (aN (fun _ => 0)))), (q22_1b, .inl (ct 0, R, .inl (aN (fun _ => 0)))), (q22_1c, .inl (ct 0, R, .inl (aN (fun _ => 0)))), (q31_2, .inl (ct 0, R, .inl (aN (fun _ => 0))))] H := hP
  have hD : va_D A [(g, .inr (0, [.ref q22_1, .ref q31_2, .null, .int (nI 0), .int (nI 0), .int (-1)])), (q22_1, .inl (ct 1, 3, .inr (.inr (.inr (.inr (tb_3 q22_1a q22_1b q22_1c)))))), (q22_1a, .inl (ct 0, R, .inl (aN (fun _ => 0)))), (q22_1b, .inl (ct 0, R, .inl (aN (fun _ => 0)))), (q22_1c, .inl (ct 0, R, .inl (aN (fun _ => 0)))), (q31_2, .inl (ct 0, R, .inl (aN (fun _ => 0))))] := hD
  refine lv_aload_n hx hb dX0_init_36 rfl (lv_at hl 0 rfl) ?_
  refine lv_iload_n hx hb dX0_init_37 rfl (lv_at hl 1 rfl) ?_
  refine va_newa (atype := .int) (ty := .int) (n := nI R) (N' := R) (a0 := (R, .inl (aN (fun _ => 0)))) hx hb (hts _ w_58) rfl hK hP hD hS hA (fun _ => rfl) (nI_pos (by omega)) (nI_clamp (by omega)) (by show R * 4 ≤ 536870912; omega) (Nat.le_of_ble_eq_true rfl) (Nat.le_trans (Nat.add_le_add_left (show R ≤ 400 by omega) _) (Nat.le_of_ble_eq_true rfl)) dX0_init_38 (fun q38_3 cA9 H hK9 hP hD hS => ?_)
  obtain rfl : cA9 = ct 0 := tb_cls hK hK9 0 rfl
  have hP : va_P D vwCl [(g, .inr (0, [.ref q22_1, .ref q31_2, .null, .int (nI 0), .int (nI 0), .int (-1)])), (q22_1, .inl (ct 1, 3, .inr (.inr (.inr (.inr (tb_3 q22_1a q22_1b q22_1c)))))), (q22_1a, .inl (ct 0, R, .inl (aN (fun _ => 0)))), (q22_1b, .inl (ct 0, R, .inl (aN (fun _ => 0)))), (q22_1c, .inl (ct 0, R, .inl (aN (fun _ => 0)))), (q31_2, .inl (ct 0, R, .inl (aN (fun _ => 0)))), (q38_3, .inl (ct 0, R, .inl (aN (fun _ => 0))))] H := hP
  have hD : va_D A [(g, .inr (0, [.ref q22_1, .ref q31_2, .null, .int (nI 0), .int (nI 0), .int (-1)])), (q22_1, .inl (ct 1, 3, .inr (.inr (.inr (.inr (tb_3 q22_1a q22_1b q22_1c)))))), (q22_1a, .inl (ct 0, R, .inl (aN (fun _ => 0)))), (q22_1b, .inl (ct 0, R, .inl (aN (fun _ => 0)))), (q22_1c, .inl (ct 0, R, .inl (aN (fun _ => 0)))), (q31_2, .inl (ct 0, R, .inl (aN (fun _ => 0)))), (q38_3, .inl (ct 0, R, .inl (aN (fun _ => 0))))] := hD
  refine W.widen (k := 6) (n := 2003) (Nat.le_refl _) (Nat.add_le_add_left (show R ≤ 400 by omega) _) ?_
  refine va_putF (D := D) (ci := 0) (v := .ref q38_3) (ty := .array .int) (C := RX0) (T := TX0) (N := 6) hx hb hts inX0 tyX0 tyX0_ok nmX0 hown hK hP hD hS 0 rfl rfl 2 (by decide) (hts _ w_51) (fun _ h9 => h9) rfl hin rfl (by decide +kernel) rfl rfl (Nat.le_of_ble_eq_true rfl) dX0_init_40 (fun H locs hP hD hS => ?_)
  have hP : va_P D vwCl [(g, .inr (0, [.ref q22_1, .ref q31_2, .ref q38_3, .int (nI 0), .int (nI 0), .int (-1)])), (q22_1, .inl (ct 1, 3, .inr (.inr (.inr (.inr (tb_3 q22_1a q22_1b q22_1c)))))), (q22_1a, .inl (ct 0, R, .inl (aN (fun _ => 0)))), (q22_1b, .inl (ct 0, R, .inl (aN (fun _ => 0)))), (q22_1c, .inl (ct 0, R, .inl (aN (fun _ => 0)))), (q31_2, .inl (ct 0, R, .inl (aN (fun _ => 0)))), (q38_3, .inl (ct 0, R, .inl (aN (fun _ => 0))))] H := hP
  have hD : va_D A [(g, .inr (0, [.ref q22_1, .ref q31_2, .ref q38_3, .int (nI 0), .int (nI 0), .int (-1)])), (q22_1, .inl (ct 1, 3, .inr (.inr (.inr (.inr (tb_3 q22_1a q22_1b q22_1c)))))), (q22_1a, .inl (ct 0, R, .inl (aN (fun _ => 0)))), (q22_1b, .inl (ct 0, R, .inl (aN (fun _ => 0)))), (q22_1c, .inl (ct 0, R, .inl (aN (fun _ => 0)))), (q31_2, .inl (ct 0, R, .inl (aN (fun _ => 0)))), (q38_3, .inl (ct 0, R, .inl (aN (fun _ => 0))))] := hD
  have hP9 : va_P D vwCl [(g, .inr (0, [.ref q22_1, .ref q31_2, .ref q38_3, .int (nI 0), .int (nI 0), .int (-1)])), (q22_1, .inl (ct 1, 3, .inr (.inr (.inr (.inr (tb_3 q22_1a q22_1b q22_1c)))))), (q22_1a, .inl (ct 0, R, .inl (aN (fun _ => 0)))), (q22_1b, .inl (ct 0, R, .inl (aN (fun _ => 0)))), (q22_1c, .inl (ct 0, R, .inl (aN (fun _ => 0)))), (q31_2, .inl (ct 0, R, .inl (aN (fun _ => 0)))), (q38_3, .inl (ct 0, R, .inl (aN (fun _ => 0))))] _ := hP.sub [0, 1, 2, 3, 4, 5, 6] rfl
  have hD9 : va_D A [(g, .inr (0, [.ref q22_1, .ref q31_2, .ref q38_3, .int (nI 0), .int (nI 0), .int (-1)])), (q22_1, .inl (ct 1, 3, .inr (.inr (.inr (.inr (tb_3 q22_1a q22_1b q22_1c)))))), (q22_1a, .inl (ct 0, R, .inl (aN (fun _ => 0)))), (q22_1b, .inl (ct 0, R, .inl (aN (fun _ => 0)))), (q22_1c, .inl (ct 0, R, .inl (aN (fun _ => 0)))), (q31_2, .inl (ct 0, R, .inl (aN (fun _ => 0)))), (q38_3, .inl (ct 0, R, .inl (aN (fun _ => 0))))] := hD.sub [0, 1, 2, 3, 4, 5, 6] (by decide) rfl
  exact W.vret hx hb hr (fun t ht hW => ⟨⟨(fun j => [q22_1, q22_1a, q22_1b, q22_1c, q31_2, q38_3].getD j 0), rfl, trivial, by rw [ht]; exact hP9, hD9⟩, hS.F ht⟩) hS.2.2 dX0_init_43
