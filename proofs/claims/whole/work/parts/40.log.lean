set_option maxHeartbeats 4000000 in
set_option maxRecDepth 100000 in
theorem k_Log_empty (l : Launch) (D : va_G) (ct : Nat → ClassId) (g : Nat) (t : Nat) (a0 : Nat) (a1 : Nat) (a2 : Nat) (v : Nat) (w : Nat) (R : Nat) (n : Nat) (X : Nat → Nat) (Y : Nat → Nat) (Z : Nat → Nat) (V : Nat → Nat) (E : Nat → Nat) (now : Nat) (cu : Option Nat) (sz : Nat) : Met l yX0_empty wsX0_empty ({ frames := 0, cells := 0, slots := 0, locals := 0 }) (tb_Pw D ct [.ref g] sz [(g, .inr (0, [.ref t, .ref v, .ref w, .int (nI n), .int (nI now), .int (oI cu)])), (t, .inl (ct 1, 3, .inr (.inr (.inr (.inr (tb_3 a0 a1 a2)))))), (a0, .inl (ct 0, R, .inl (aN X))), (a1, .inl (ct 0, R, .inl (aN Y))), (a2, .inl (ct 0, R, .inl (aN Z))), (v, .inl (ct 0, R, .inl (aN V))), (w, .inl (ct 0, R, .inl (aN E)))]) (va_Qv (fun _ => True) (tb_B D (va_A [(g, .inr (0, [.ref t, .ref v, .ref w, .int (nI n), .int (nI now), .int (oI cu)])), (t, .inl (ct 1, 3, .inr (.inr (.inr (.inr (tb_3 a0 a1 a2)))))), (a0, .inl (ct 0, R, .inl (aN X))), (a1, .inl (ct 0, R, .inl (aN Y))), (a2, .inl (ct 0, R, .inl (aN Z))), (v, .inl (ct 0, R, .inl (aN V))), (w, .inl (ct 0, R, .inl (aN E)))] sz) [(g, .inr (0, [.ref t, .ref v, .ref w, .int (nI 0), .int (nI 0), .int (oI none)])), (t, .inl (ct 1, 3, .inr (.inr (.inr (.inr (tb_3 a0 a1 a2)))))), (a0, .inl (ct 0, R, .inl (aN X))), (a1, .inl (ct 0, R, .inl (aN Y))), (a2, .inl (ct 0, R, .inl (aN Z))), (v, .inl (ct 0, R, .inl (aN V))), (w, .inl (ct 0, R, .inl (aN E)))]) (va_A [(g, .inr (0, [.ref t, .ref v, .ref w, .int (nI n), .int (nI now), .int (oI cu)])), (t, .inl (ct 1, 3, .inr (.inr (.inr (.inr (tb_3 a0 a1 a2)))))), (a0, .inl (ct 0, R, .inl (aN X))), (a1, .inl (ct 0, R, .inl (aN Y))), (a2, .inl (ct 0, R, .inl (aN Z))), (v, .inl (ct 0, R, .inl (aN V))), (w, .inl (ct 0, R, .inl (aN E)))] sz)) 0 0 (va_A [(g, .inr (0, [.ref t, .ref v, .ref w, .int (nI n), .int (nI now), .int (oI cu)])), (t, .inl (ct 1, 3, .inr (.inr (.inr (.inr (tb_3 a0 a1 a2)))))), (a0, .inl (ct 0, R, .inl (aN X))), (a1, .inl (ct 0, R, .inl (aN Y))), (a2, .inl (ct 0, R, .inl (aN Z))), (v, .inl (ct 0, R, .inl (aN V))), (w, .inl (ct 0, R, .inl (aN E)))] sz) := by
  refine Met.ofW (cc := cX0_empty) (maxL := 1) (ret := none) (by decide) rfl ?_
  intro p e s m args below meth c s₁ B hml hv
  obtain ⟨rfl, hsz, hP, hK, hD0, hZ⟩ := hv
  have hx := B.exec
  have hb := B.bytes
  have hr := B.returns
  have hts0 := atoms_spec (ws := wsX0_empty) B.pre
  have hts : ∀ w9 ∈ aw, w9.before ([.ref g] : List Value).toArray s = true := fun w9 h9 => hts0 w9 (List.mem_cons_of_mem _ h9)
  have hown : s.vm.findClass RX0 = some m.cls := findClass_of_methodNamed B.named
  have hlocks := B.notSynchronized
  subst hsz
  have hD := hD0.self (sz := s.heap.size)
  generalize hAe : va_A [(g, .inr (0, [.ref t, .ref v, .ref w, .int (nI n), .int (nI now), .int (oI cu)])), (t, .inl (ct 1, 3, .inr (.inr (.inr (.inr (tb_3 a0 a1 a2)))))), (a0, .inl (ct 0, R, .inl (aN X))), (a1, .inl (ct 0, R, .inl (aN Y))), (a2, .inl (ct 0, R, .inl (aN Z))), (v, .inl (ct 0, R, .inl (aN V))), (w, .inl (ct 0, R, .inl (aN E)))] s.heap.size = A at hD hZ ⊢
  have hA : ∀ q : Nat, s.heap.size ≤ q → A q := fun q h => by rw [← hAe]; exact Or.inr h
  have hS : va_S A s.heap s.heap [] := va_S.rf
  have hP : va_P D vwCl [(g, .inr (0, [.ref t, .ref v, .ref w, .int (nI n), .int (nI now), .int (oI cu)])), (t, .inl (ct 1, 3, .inr (.inr (.inr (.inr (tb_3 a0 a1 a2)))))), (a0, .inl (ct 0, R, .inl (aN X))), (a1, .inl (ct 0, R, .inl (aN Y))), (a2, .inl (ct 0, R, .inl (aN Z))), (v, .inl (ct 0, R, .inl (aN V))), (w, .inl (ct 0, R, .inl (aN E)))] s.heap := hP
  have hl := lv_entry ([.ref g]) (n := 1) (Nat.le_of_ble_eq_true rfl)
  rw [lg_entry_eq]
  generalize (lg_sl ([.ref g]) ++ List.replicate (1 - (lg_sl ([.ref g])).length) Slot.unset).toArray = ls at hl ⊢
  have hl : lv_has ls 1 [(0, .ref g)] := hl
  refine lv_aload_n hx hb dX0_empty_0 rfl (lv_at hl 0 rfl) ?_
  refine lv_iconst (v := nI 0) hx hb dX0_empty_1 (by decide) ?_
  refine va_put (D := D) (ci := 0) (v := .int (nI 0)) (ty := .int) (C := RX0) (T := TX0) (N := 6) hx hb hts inX0 tyX0 tyX0_ok nmX0 hown hK hP hD hS 0 rfl rfl 3 (by decide) (hts _ w_52) (fun _ h9 => h9) rfl (by decide +kernel) rfl rfl (Nat.le_of_ble_eq_true rfl) dX0_empty_2 (fun H locs hP hD hS => ?_)
  have hP : va_P D vwCl [(g, .inr (0, [.ref t, .ref v, .ref w, .int (nI 0), .int (nI now), .int (oI cu)])), (t, .inl (ct 1, 3, .inr (.inr (.inr (.inr (tb_3 a0 a1 a2)))))), (a0, .inl (ct 0, R, .inl (aN X))), (a1, .inl (ct 0, R, .inl (aN Y))), (a2, .inl (ct 0, R, .inl (aN Z))), (v, .inl (ct 0, R, .inl (aN V))), (w, .inl (ct 0, R, .inl (aN E)))] H := hP
  have hD : va_D A [(g, .inr (0, [.ref t, .ref v, .ref w, .int (nI 0), .int (nI now), .int (oI cu)])), (t, .inl (ct 1, 3, .inr (.inr (.inr (.inr (tb_3 a0 a1 a2)))))), (a0, .inl (ct 0, R, .inl (aN X))), (a1, .inl (ct 0, R, .inl (aN Y))), (a2, .inl (ct 0, R, .inl (aN Z))), (v, .inl (ct 0, R, .inl (aN V))), (w, .inl (ct 0, R, .inl (aN E)))] := hD
  refine lv_aload_n hx hb dX0_empty_5 rfl (lv_at hl 0 rfl) ?_
  refine lv_iconst (v := nI 0) hx hb dX0_empty_6 (by decide) ?_
  refine va_put (D := D) (ci := 0) (v := .int (nI 0)) (ty := .int) (C := RX0) (T := TX0) (N := 6) hx hb hts inX0 tyX0 tyX0_ok nmX0 hown hK hP hD hS 0 rfl rfl 4 (by decide) (hts _ w_54) (fun _ h9 => h9) rfl (by decide +kernel) rfl rfl (Nat.le_of_ble_eq_true rfl) dX0_empty_7 (fun H locs hP hD hS => ?_)
  have hP : va_P D vwCl [(g, .inr (0, [.ref t, .ref v, .ref w, .int (nI 0), .int (nI 0), .int (oI cu)])), (t, .inl (ct 1, 3, .inr (.inr (.inr (.inr (tb_3 a0 a1 a2)))))), (a0, .inl (ct 0, R, .inl (aN X))), (a1, .inl (ct 0, R, .inl (aN Y))), (a2, .inl (ct 0, R, .inl (aN Z))), (v, .inl (ct 0, R, .inl (aN V))), (w, .inl (ct 0, R, .inl (aN E)))] H := hP
  have hD : va_D A [(g, .inr (0, [.ref t, .ref v, .ref w, .int (nI 0), .int (nI 0), .int (oI cu)])), (t, .inl (ct 1, 3, .inr (.inr (.inr (.inr (tb_3 a0 a1 a2)))))), (a0, .inl (ct 0, R, .inl (aN X))), (a1, .inl (ct 0, R, .inl (aN Y))), (a2, .inl (ct 0, R, .inl (aN Z))), (v, .inl (ct 0, R, .inl (aN V))), (w, .inl (ct 0, R, .inl (aN E)))] := hD
  refine lv_aload_n hx hb dX0_empty_10 rfl (lv_at hl 0 rfl) ?_
  refine lv_iconst (v := (-1)) hx hb dX0_empty_11 (by decide) ?_
  refine va_put (D := D) (ci := 0) (v := .int (-1)) (ty := .int) (C := RX0) (T := TX0) (N := 6) hx hb hts inX0 tyX0 tyX0_ok nmX0 hown hK hP hD hS 0 rfl rfl 5 (by decide) (hts _ w_56) (fun _ h9 => h9) rfl (by decide +kernel) rfl rfl (Nat.le_of_ble_eq_true rfl) dX0_empty_12 (fun H locs hP hD hS => ?_)
  have hP : va_P D vwCl [(g, .inr (0, [.ref t, .ref v, .ref w, .int (nI 0), .int (nI 0), .int (-1)])), (t, .inl (ct 1, 3, .inr (.inr (.inr (.inr (tb_3 a0 a1 a2)))))), (a0, .inl (ct 0, R, .inl (aN X))), (a1, .inl (ct 0, R, .inl (aN Y))), (a2, .inl (ct 0, R, .inl (aN Z))), (v, .inl (ct 0, R, .inl (aN V))), (w, .inl (ct 0, R, .inl (aN E)))] H := hP
  have hD : va_D A [(g, .inr (0, [.ref t, .ref v, .ref w, .int (nI 0), .int (nI 0), .int (-1)])), (t, .inl (ct 1, 3, .inr (.inr (.inr (.inr (tb_3 a0 a1 a2)))))), (a0, .inl (ct 0, R, .inl (aN X))), (a1, .inl (ct 0, R, .inl (aN Y))), (a2, .inl (ct 0, R, .inl (aN Z))), (v, .inl (ct 0, R, .inl (aN V))), (w, .inl (ct 0, R, .inl (aN E)))] := hD
  have hP9 : va_P D vwCl [(g, .inr (0, [.ref t, .ref v, .ref w, .int (nI 0), .int (nI 0), .int (-1)])), (t, .inl (ct 1, 3, .inr (.inr (.inr (.inr (tb_3 a0 a1 a2)))))), (a0, .inl (ct 0, R, .inl (aN X))), (a1, .inl (ct 0, R, .inl (aN Y))), (a2, .inl (ct 0, R, .inl (aN Z))), (v, .inl (ct 0, R, .inl (aN V))), (w, .inl (ct 0, R, .inl (aN E)))] _ := hP.sub [0, 1, 2, 3, 4, 5, 6] rfl
  have hD9 : va_D A [(g, .inr (0, [.ref t, .ref v, .ref w, .int (nI 0), .int (nI 0), .int (-1)])), (t, .inl (ct 1, 3, .inr (.inr (.inr (.inr (tb_3 a0 a1 a2)))))), (a0, .inl (ct 0, R, .inl (aN X))), (a1, .inl (ct 0, R, .inl (aN Y))), (a2, .inl (ct 0, R, .inl (aN Z))), (v, .inl (ct 0, R, .inl (aN V))), (w, .inl (ct 0, R, .inl (aN E)))] := hD.sub [0, 1, 2, 3, 4, 5, 6] (by decide) rfl
  exact W.vret hx hb hr (fun t ht hW => ⟨⟨(), rfl, trivial, by rw [ht]; exact hP9, hD9⟩, hS.F ht⟩) hS.2.2 dX0_empty_15

set_option maxHeartbeats 4000000 in
set_option maxRecDepth 100000 in
theorem k_Log_isFull (l : Launch) (D : va_G) (ct : Nat → ClassId) (g : Nat) (t : Nat) (a0 : Nat) (a1 : Nat) (a2 : Nat) (v : Nat) (w : Nat) (R : Nat) (n : Nat) (X : Nat → Nat) (Y : Nat → Nat) (Z : Nat → Nat) (V : Nat → Nat) (E : Nat → Nat) (now : Nat) (cu : Option Nat) (hn : n ≤ R) (hR : R ≤ 400) : Met l yX0_isFull wsX0_isFull ({ frames := 0, cells := 0, slots := 0, locals := 0 }) (tb_Pr D ct [.ref g] [(g, .inr (0, [.ref t, .ref v, .ref w, .int (nI n), .int (nI now), .int (oI cu)])), (t, .inl (ct 1, 3, .inr (.inr (.inr (.inr (tb_3 a0 a1 a2)))))), (a0, .inl (ct 0, R, .inl (aN X))), (a1, .inl (ct 0, R, .inl (aN Y))), (a2, .inl (ct 0, R, .inl (aN Z))), (v, .inl (ct 0, R, .inl (aN V))), (w, .inl (ct 0, R, .inl (aN E)))]) (vp_Si (fun r => r = bB (decide (R ≤ n)))) 0 0 (fun _ => False) := by
  refine Met.ofW (cc := cX0_isFull) (maxL := 1) (ret := (some .boolean)) (by decide) rfl ?_
  intro p e s m args below meth c s₁ B hml hv
  obtain ⟨rfl, hP, hK, hZ⟩ := hv
  have hx := B.exec
  have hb := B.bytes
  have hr := B.returns
  have hts0 := atoms_spec (ws := wsX0_isFull) B.pre
  have hts : ∀ w9 ∈ aw, w9.before ([.ref g] : List Value).toArray s = true := fun w9 h9 => hts0 w9 (List.mem_cons_of_mem _ h9)
  have hown : s.vm.findClass RX0 = some m.cls := findClass_of_methodNamed B.named
  have hlocks := B.notSynchronized
  have hS : va_S (fun _ => False) s.heap s.heap [] := va_S.rf
  have hP : va_P D vwCl [(g, .inr (0, [.ref t, .ref v, .ref w, .int (nI n), .int (nI now), .int (oI cu)])), (t, .inl (ct 1, 3, .inr (.inr (.inr (.inr (tb_3 a0 a1 a2)))))), (a0, .inl (ct 0, R, .inl (aN X))), (a1, .inl (ct 0, R, .inl (aN Y))), (a2, .inl (ct 0, R, .inl (aN Z))), (v, .inl (ct 0, R, .inl (aN V))), (w, .inl (ct 0, R, .inl (aN E)))] s.heap := hP
  have hl := lv_entry ([.ref g]) (n := 1) (Nat.le_of_ble_eq_true rfl)
  rw [lg_entry_eq]
  generalize (lg_sl ([.ref g]) ++ List.replicate (1 - (lg_sl ([.ref g])).length) Slot.unset).toArray = ls at hl ⊢
  have hl : lv_has ls 1 [(0, .ref g)] := hl
  refine lv_aload_n hx hb dX0_isFull_0 rfl (lv_at hl 0 rfl) ?_
  refine va_get (D := D) (ci := 0) (v := .int (nI n)) (C := RX0) (T := TX0) (N := 6) hx hb hts inX0 hown hK hP 0 rfl rfl 3 (by decide) (hts _ w_52) (fun _ h9 => h9) rfl dX0_isFull_1 ?_
  refine lv_aload_n hx hb dX0_isFull_4 rfl (lv_at hl 0 rfl) ?_
  refine va_get (D := D) (ci := 0) (v := .ref v) (C := RX0) (T := TX0) (N := 6) hx hb hts inX0 hown hK hP 0 rfl rfl 1 (by decide) (hts _ w_50) (fun _ h9 => h9) rfl dX0_isFull_5 ?_
  refine tb_alen hx hb hK hP 5 0 rfl rfl dX0_isFull_8 ?_
  refine tb_icmp_lt (tgt := 16) hx hb dX0_isFull_9 (by decide) (by omega) (by omega) (fun c9 => ?_) (fun c9 => ?_)
  · refine lv_iconst (v := nI 0) hx hb dX0_isFull_16 (by decide) ?_
    exact W.zret (v := 0) hx hb hr (by decide) (fun t ht hW => ⟨_, rfl, (bB_f (by omega)), ht⟩) (fun q h => by cases h) dX0_isFull_17
  · refine lv_iconst (v := nI 1) hx hb dX0_isFull_12 (by decide) ?_
    refine lv_goto (tgt := 17) hx hb dX0_isFull_13 (by decide) ?_
    exact W.zret (v := 1) hx hb hr (by decide) (fun t ht hW => ⟨_, rfl, (bB_t (by omega)), ht⟩) (fun q h => by cases h) dX0_isFull_17

set_option maxHeartbeats 4000000 in
set_option maxRecDepth 100000 in
theorem k_Log_hasEvent (l : Launch) (D : va_G) (ct : Nat → ClassId) (g : Nat) (t : Nat) (a0 : Nat) (a1 : Nat) (a2 : Nat) (v : Nat) (w : Nat) (R : Nat) (n : Nat) (X : Nat → Nat) (Y : Nat → Nat) (Z : Nat → Nat) (V : Nat → Nat) (E : Nat → Nat) (now : Nat) (cu : Option Nat) (i : Int32) (hn : n ≤ R) (hR : R ≤ 400) : Met l yX0_hasEvent wsX0_hasEvent ({ frames := 0, cells := 0, slots := 0, locals := 0 }) (tb_Pr D ct [.ref g, .int i] [(g, .inr (0, [.ref t, .ref v, .ref w, .int (nI n), .int (nI now), .int (oI cu)])), (t, .inl (ct 1, 3, .inr (.inr (.inr (.inr (tb_3 a0 a1 a2)))))), (a0, .inl (ct 0, R, .inl (aN X))), (a1, .inl (ct 0, R, .inl (aN Y))), (a2, .inl (ct 0, R, .inl (aN Z))), (v, .inl (ct 0, R, .inl (aN V))), (w, .inl (ct 0, R, .inl (aN E)))]) (vp_Si (fun r => r = bB (decide (tRng i n)))) 0 0 (fun _ => False) := by
  refine Met.ofW (cc := cX0_hasEvent) (maxL := 2) (ret := (some .boolean)) (by decide) rfl ?_
  intro p e s m args below meth c s₁ B hml hv
  obtain ⟨rfl, hP, hK, hZ⟩ := hv
  have hx := B.exec
  have hb := B.bytes
  have hr := B.returns
  have hts0 := atoms_spec (ws := wsX0_hasEvent) B.pre
  have hts : ∀ w9 ∈ aw, w9.before ([.ref g, .int i] : List Value).toArray s = true := fun w9 h9 => hts0 w9 (List.mem_cons_of_mem _ h9)
  have hown : s.vm.findClass RX0 = some m.cls := findClass_of_methodNamed B.named
  have hlocks := B.notSynchronized
  have hS : va_S (fun _ => False) s.heap s.heap [] := va_S.rf
  have hP : va_P D vwCl [(g, .inr (0, [.ref t, .ref v, .ref w, .int (nI n), .int (nI now), .int (oI cu)])), (t, .inl (ct 1, 3, .inr (.inr (.inr (.inr (tb_3 a0 a1 a2)))))), (a0, .inl (ct 0, R, .inl (aN X))), (a1, .inl (ct 0, R, .inl (aN Y))), (a2, .inl (ct 0, R, .inl (aN Z))), (v, .inl (ct 0, R, .inl (aN V))), (w, .inl (ct 0, R, .inl (aN E)))] s.heap := hP
  have hl := lv_entry ([.ref g, .int i]) (n := 2) (Nat.le_of_ble_eq_true rfl)
  rw [lg_entry_eq]
  generalize (lg_sl ([.ref g, .int i]) ++ List.replicate (2 - (lg_sl ([.ref g, .int i])).length) Slot.unset).toArray = ls at hl ⊢
  have hl : lv_has ls 2 [(0, .ref g), (1, .int i)] := hl
  refine lv_iload_n hx hb dX0_hasEvent_0 rfl (lv_at hl 1 rfl) ?_
  refine lv_if_lt (tgt := 16) hx hb dX0_hasEvent_1 (by decide) (fun c1 => ?_) (fun c1 => ?_)
  · refine lv_iconst (v := nI 0) hx hb dX0_hasEvent_16 (by decide) ?_
    exact W.zret (v := 0) hx hb hr (by decide) (fun t ht hW => ⟨_, rfl, (by first | exact bB_t (tRng_of (by omega) c1 c9) | exact bB_f (tRng_neg c1) | exact bB_f (tRng_big (by omega) c9)), ht⟩) (fun q h => by cases h) dX0_hasEvent_17
  · refine lv_iload_n hx hb dX0_hasEvent_4 rfl (lv_at hl 1 rfl) ?_
    refine lv_aload_n hx hb dX0_hasEvent_5 rfl (lv_at hl 0 rfl) ?_
    refine va_get (D := D) (ci := 0) (v := .int (nI n)) (C := RX0) (T := TX0) (N := 6) hx hb hts inX0 hown hK hP 0 rfl rfl 3 (by decide) (hts _ w_52) (fun _ h9 => h9) rfl dX0_hasEvent_6 ?_
    refine lv_icmp_ge (tgt := 16) hx hb dX0_hasEvent_9 (by decide) (fun c9 => ?_) (fun c9 => ?_)
    · refine lv_iconst (v := nI 0) hx hb dX0_hasEvent_16 (by decide) ?_
      exact W.zret (v := 0) hx hb hr (by decide) (fun t ht hW => ⟨_, rfl, (by first | exact bB_t (tRng_of (by omega) c1 c9) | exact bB_f (tRng_neg c1) | exact bB_f (tRng_big (by omega) c9)), ht⟩) (fun q h => by cases h) dX0_hasEvent_17
    · refine lv_iconst (v := nI 1) hx hb dX0_hasEvent_12 (by decide) ?_
      refine lv_goto (tgt := 17) hx hb dX0_hasEvent_13 (by decide) ?_
      exact W.zret (v := 1) hx hb hr (by decide) (fun t ht hW => ⟨_, rfl, (by first | exact bB_t (tRng_of (by omega) c1 c9) | exact bB_f (tRng_neg c1) | exact bB_f (tRng_big (by omega) c9)), ht⟩) (fun q h => by cases h) dX0_hasEvent_17

set_option maxHeartbeats 4000000 in
set_option maxRecDepth 100000 in
theorem k_Log_isThere (l : Launch) (D : va_G) (ct : Nat → ClassId) (g : Nat) (t : Nat) (a0 : Nat) (a1 : Nat) (a2 : Nat) (v : Nat) (w : Nat) (R : Nat) (n : Nat) (X : Nat → Nat) (Y : Nat → Nat) (Z : Nat → Nat) (V : Nat → Nat) (E : Nat → Nat) (now : Nat) (cu : Option Nat) (i : Nat) (x : Nat) (hn : n ≤ R) (hR : R ≤ 400) (hi : i < n) (hV : ∀ j, V j < 2 ^ 31) (hE : ∀ j, E j < 2 ^ 31) (hx9 : x < 2 ^ 31) : Met l yX0_isThere wsX0_isThere ({ frames := 1, cells := 0, slots := 0, locals := 21 }) (tb_Pr D ct [.ref g, .int (nI i), .int (nI x)] [(g, .inr (0, [.ref t, .ref v, .ref w, .int (nI n), .int (nI now), .int (oI cu)])), (t, .inl (ct 1, 3, .inr (.inr (.inr (.inr (tb_3 a0 a1 a2)))))), (a0, .inl (ct 0, R, .inl (aN X))), (a1, .inl (ct 0, R, .inl (aN Y))), (a2, .inl (ct 0, R, .inl (aN Z))), (v, .inl (ct 0, R, .inl (aN V))), (w, .inl (ct 0, R, .inl (aN E)))]) (vp_Si (fun r => r = bB (decide (V i ≤ x ∧ x < E i)))) 0 0 (fun _ => False) := by
  refine Met.ofW (cc := cX0_isThere) (maxL := 3) (ret := (some .boolean)) (by decide) rfl ?_
  intro p e s m args below meth c s₁ B hml hv
  obtain ⟨rfl, hP, hK, hZ⟩ := hv
  have hx := B.exec
  have hb := B.bytes
  have hr := B.returns
  have hts0 := atoms_spec (ws := wsX0_isThere) B.pre
  have hts : ∀ w9 ∈ aw, w9.before ([.ref g, .int (nI i), .int (nI x)] : List Value).toArray s = true := fun w9 h9 => hts0 w9 (List.mem_cons_of_mem _ h9)
  have hown : s.vm.findClass RX0 = some m.cls := findClass_of_methodNamed B.named
  have hlocks := B.notSynchronized
  have hS : va_S (fun _ => False) s.heap s.heap [] := va_S.rf
  have hP : va_P D vwCl [(g, .inr (0, [.ref t, .ref v, .ref w, .int (nI n), .int (nI now), .int (oI cu)])), (t, .inl (ct 1, 3, .inr (.inr (.inr (.inr (tb_3 a0 a1 a2)))))), (a0, .inl (ct 0, R, .inl (aN X))), (a1, .inl (ct 0, R, .inl (aN Y))), (a2, .inl (ct 0, R, .inl (aN Z))), (v, .inl (ct 0, R, .inl (aN V))), (w, .inl (ct 0, R, .inl (aN E)))] s.heap := hP
  have hl := lv_entry ([.ref g, .int (nI i), .int (nI x)]) (n := 3) (Nat.le_of_ble_eq_true rfl)
  rw [lg_entry_eq]
  generalize (lg_sl ([.ref g, .int (nI i), .int (nI x)]) ++ List.replicate (3 - (lg_sl ([.ref g, .int (nI i), .int (nI x)])).length) Slot.unset).toArray = ls at hl ⊢
  have hl : lv_has ls 3 [(0, .ref g), (1, .int (nI i)), (2, .int (nI x))] := hl
  refine lv_aload_n hx hb dX0_isThere_0 rfl (lv_at hl 0 rfl) ?_
  refine lv_iload_n hx hb dX0_isThere_1 rfl (lv_at hl 1 rfl) ?_
  refine vp_callSi (va_Run.run (va_runV (As := [.int (nI i)]) (rest := []) ⟨hx, hb, hml, hown, hts⟩ (k_Log_hasEvent l D ct g t a0 a1 a2 v w R n X Y Z V E now cu (nI i) hn hR) (cwV 1 hts (gw_V (fun _ h => h) w_188 w_189 w_190 w_26 wcX0_hasEvent) rfl rfl rfl hvX0_hasEvent ⟨Nat.le_of_ble_eq_true rfl, Nat.le_of_ble_eq_true rfl⟩) (tb_prV hP hK hZ hS [0, 1, 2, 3, 4, 5, 6] rfl (ci := 0) (q0 := 0) rfl rfl) rfl rfl hl.1 rfl (lv_room (Nat.le_of_ble_eq_true rfl)) dX0_isThere_2 ⟨Nat.zero_le _, Nat.zero_le _⟩)) (fun r_2 hr_2 => ?_)
  obtain rfl : r_2 = bB (decide (tRng (nI i) n)) := hr_2
  refine tb_if_eqB (tgt := 32) hx hb dX0_isThere_5 (by decide) (fun c5 => ?_) (fun c5 => ?_)
  · exact absurd (tRng_nI hi (by omega)) c5
  · refine lv_aload_n hx hb dX0_isThere_8 rfl (lv_at hl 0 rfl) ?_
    refine va_get (D := D) (ci := 0) (v := .ref v) (C := RX0) (T := TX0) (N := 6) hx hb hts inX0 hown hK hP 0 rfl rfl 1 (by decide) (hts _ w_50) (fun _ h9 => h9) rfl dX0_isThere_9 ?_
    refine lv_iload_n hx hb dX0_isThere_12 rfl (lv_at hl 1 rfl) ?_
    refine tb_iald (v := V i) hx hb hK hP 5 0 rfl rfl (by omega) (by omega) rfl dX0_isThere_13 ?_
    refine lv_iload_n hx hb dX0_isThere_14 rfl (lv_at hl 2 rfl) ?_
    refine tb_icmp_gt (tgt := 32) hx hb dX0_isThere_15 (by decide) (hV _) hx9 (fun c15 => ?_) (fun c15 => ?_)
    · refine lv_iconst (v := nI 0) hx hb dX0_isThere_32 (by decide) ?_
      exact W.zret (v := 0) hx hb hr (by decide) (fun t ht hW => ⟨_, rfl, (by first | exact bB_t ⟨c15, c25⟩ | exact bB_f (fun z9 => absurd z9.1 (Nat.not_le.mpr c15)) | exact bB_f (fun z9 => absurd z9.2 (Nat.not_lt.mpr c25))), ht⟩) (fun q h => by cases h) dX0_isThere_33
    · refine lv_iload_n hx hb dX0_isThere_18 rfl (lv_at hl 2 rfl) ?_
      refine lv_aload_n hx hb dX0_isThere_19 rfl (lv_at hl 0 rfl) ?_
      refine va_get (D := D) (ci := 0) (v := .ref w) (C := RX0) (T := TX0) (N := 6) hx hb hts inX0 hown hK hP 0 rfl rfl 2 (by decide) (hts _ w_51) (fun _ h9 => h9) rfl dX0_isThere_20 ?_
      refine lv_iload_n hx hb dX0_isThere_23 rfl (lv_at hl 1 rfl) ?_
      refine tb_iald (v := E i) hx hb hK hP 6 0 rfl rfl (by omega) (by omega) rfl dX0_isThere_24 ?_
      refine tb_icmp_ge (tgt := 32) hx hb dX0_isThere_25 (by decide) hx9 (hE _) (fun c25 => ?_) (fun c25 => ?_)
      · refine lv_iconst (v := nI 0) hx hb dX0_isThere_32 (by decide) ?_
        exact W.zret (v := 0) hx hb hr (by decide) (fun t ht hW => ⟨_, rfl, (by first | exact bB_t ⟨c15, c25⟩ | exact bB_f (fun z9 => absurd z9.1 (Nat.not_le.mpr c15)) | exact bB_f (fun z9 => absurd z9.2 (Nat.not_lt.mpr c25))), ht⟩) (fun q h => by cases h) dX0_isThere_33
      · refine lv_iconst (v := nI 1) hx hb dX0_isThere_28 (by decide) ?_
        refine lv_goto (tgt := 33) hx hb dX0_isThere_29 (by decide) ?_
        exact W.zret (v := 1) hx hb hr (by decide) (fun t ht hW => ⟨_, rfl, (by first | exact bB_t ⟨c15, c25⟩ | exact bB_f (fun z9 => absurd z9.1 (Nat.not_le.mpr c15)) | exact bB_f (fun z9 => absurd z9.2 (Nat.not_lt.mpr c25))), ht⟩) (fun q h => by cases h) dX0_isThere_33

set_option maxHeartbeats 4000000 in
set_option maxRecDepth 100000 in
theorem k_Log_termAt (l : Launch) (D : va_G) (ct : Nat → ClassId) (g : Nat) (t : Nat) (a0 : Nat) (a1 : Nat) (a2 : Nat) (v : Nat) (w : Nat) (R : Nat) (n : Nat) (X : Nat → Nat) (Y : Nat → Nat) (Z : Nat → Nat) (V : Nat → Nat) (E : Nat → Nat) (now : Nat) (cu : Option Nat) (o : Nat) (j : Nat) (i : Nat) (hn : n ≤ R) (hR : R ≤ 400) (hi : i < n) (ho : o < 6) (hj : j < 3) : Met l yX0_termAt wsX0_termAt ({ frames := 1, cells := 0, slots := 0, locals := 21 }) (tb_Pr D ct [.ref g, .int (nI o), .int (nI j), .int (nI i)] [(g, .inr (0, [.ref t, .ref v, .ref w, .int (nI n), .int (nI now), .int (oI cu)])), (t, .inl (ct 1, 3, .inr (.inr (.inr (.inr (tb_3 a0 a1 a2)))))), (a0, .inl (ct 0, R, .inl (aN X))), (a1, .inl (ct 0, R, .inl (aN Y))), (a2, .inl (ct 0, R, .inl (aN Z))), (v, .inl (ct 0, R, .inl (aN V))), (w, .inl (ct 0, R, .inl (aN E)))]) (vp_Si (fun r => r = nI (tPick (taF (o * 3 + j)) (X i) (Y i) (Z i)))) 0 0 (fun _ => False) := by
  refine Met.ofW (cc := cX0_termAt) (maxL := 4) (ret := (some .int)) (by decide) rfl ?_
  intro p e s m args below meth c s₁ B hml hv
  obtain ⟨rfl, hP, hK, hZ⟩ := hv
  have hx := B.exec
  have hb := B.bytes
  have hr := B.returns
  have hts0 := atoms_spec (ws := wsX0_termAt) B.pre
  have hts : ∀ w9 ∈ aw, w9.before ([.ref g, .int (nI o), .int (nI j), .int (nI i)] : List Value).toArray s = true := fun w9 h9 => hts0 w9 (List.mem_cons_of_mem _ h9)
  have hown : s.vm.findClass RX0 = some m.cls := findClass_of_methodNamed B.named
  have hlocks := B.notSynchronized
  have hS : va_S (fun _ => False) s.heap s.heap [] := va_S.rf
  have hP : va_P D vwCl [(g, .inr (0, [.ref t, .ref v, .ref w, .int (nI n), .int (nI now), .int (oI cu)])), (t, .inl (ct 1, 3, .inr (.inr (.inr (.inr (tb_3 a0 a1 a2)))))), (a0, .inl (ct 0, R, .inl (aN X))), (a1, .inl (ct 0, R, .inl (aN Y))), (a2, .inl (ct 0, R, .inl (aN Z))), (v, .inl (ct 0, R, .inl (aN V))), (w, .inl (ct 0, R, .inl (aN E)))] s.heap := hP
  have hl := lv_entry ([.ref g, .int (nI o), .int (nI j), .int (nI i)]) (n := 4) (Nat.le_of_ble_eq_true rfl)
  rw [lg_entry_eq]
  generalize (lg_sl ([.ref g, .int (nI o), .int (nI j), .int (nI i)]) ++ List.replicate (4 - (lg_sl ([.ref g, .int (nI o), .int (nI j), .int (nI i)])).length) Slot.unset).toArray = ls at hl ⊢
  have hl : lv_has ls 4 [(0, .ref g), (1, .int (nI o)), (2, .int (nI j)), (3, .int (nI i))] := hl
  obtain ⟨tA, hZa, hTa⟩ := hZ.1
  refine lv_iload_n hx hb dX0_termAt_0 rfl (lv_at hl 1 rfl) ?_
  refine vp_callSi (va_Run.run (va_runSN (As := [.int (nI o)]) (rest := []) ⟨hx, hb, hml, hown, hts⟩ (k_isOrder l D ct (nI o) ) ⟨va_cnB 1 hts (gw_I (fun _ h => h) wcX4_isOrder) rfl rfl rfl (hZ.2.2.1 _ (List.mem_of_getElem? (i := 1) rfl)) (hts _ w_24) hvX4_isOrder.2 ⟨Nat.le_of_ble_eq_true rfl, Nat.le_of_ble_eq_true rfl⟩, (hts _ w_113), trivial⟩ (tb_prS hP hK hZ hS [] rfl) rfl rfl hl.1 rfl (lv_room (Nat.le_of_ble_eq_true rfl)) dX0_termAt_1 ⟨Nat.zero_le _, Nat.zero_le _⟩)) (fun r_1 hr_1 => ?_)
  obtain rfl : r_1 = bB (decide (tRng (nI o) 6)) := hr_1
  refine tb_if_eqB (tgt := 24) hx hb dX0_termAt_4 (by decide) (fun c4 => ?_) (fun c4 => ?_)
  · exact absurd (tRng_nI ho (by decide)) c4
  · refine lv_iload_n hx hb dX0_termAt_7 rfl (lv_at hl 2 rfl) ?_
    refine tb_if_lt (tgt := 24) hx hb dX0_termAt_8 (by decide) (by omega) ?_
    refine lv_iload_n hx hb dX0_termAt_11 rfl (lv_at hl 2 rfl) ?_
    refine lv_iconst (v := nI 2) hx hb dX0_termAt_12 (by decide) ?_
    refine tb_icmp_gt (tgt := 24) hx hb dX0_termAt_13 (by decide) (by omega) (by omega) (fun c13 => ?_) (fun c13 => ?_)
    · exfalso; omega
    · refine lv_aload_n hx hb dX0_termAt_16 rfl (lv_at hl 0 rfl) ?_
      refine lv_iload_n hx hb dX0_termAt_17 rfl (lv_at hl 3 rfl) ?_
      refine vp_callSi (va_Run.run (va_runV (As := [.int (nI i)]) (rest := []) ⟨hx, hb, hml, hown, hts⟩ (k_Log_hasEvent l D ct g t a0 a1 a2 v w R n X Y Z V E now cu (nI i) hn hR) (cwV 1 hts (gw_V (fun _ h => h) w_188 w_189 w_190 w_26 wcX0_hasEvent) rfl rfl rfl hvX0_hasEvent ⟨Nat.le_of_ble_eq_true rfl, Nat.le_of_ble_eq_true rfl⟩) (tb_prV hP hK hZ hS [0, 1, 2, 3, 4, 5, 6] rfl (ci := 0) (q0 := 0) rfl rfl) rfl rfl hl.1 rfl (lv_room (Nat.le_of_ble_eq_true rfl)) dX0_termAt_18 ⟨Nat.zero_le _, Nat.zero_le _⟩)) (fun r_18 hr_18 => ?_)
      obtain rfl : r_18 = bB (decide (tRng (nI i) n)) := hr_18
      refine tb_if_neB (tgt := 26) hx hb dX0_termAt_21 (by decide) (fun c21 => ?_) (fun c21 => ?_)
      · refine lv_aload_n hx hb dX0_termAt_26 rfl (lv_at hl 0 rfl) ?_
        refine va_get (D := D) (ci := 0) (v := .ref t) (C := RX0) (T := TX0) (N := 6) hx hb hts inX0 hown hK hP 0 rfl rfl 0 (by decide) (hts _ w_49) (fun _ h9 => h9) rfl dX0_termAt_27 ?_
        refine va_getsN hx hb hZa hS hown (va_Nw.use rfl (hZ.2.2.1 _ (List.mem_of_getElem? (i := 0) rfl))) (fun _ h9 => h9) dX0_termAt_30 ?_
        refine lv_iload_n hx hb dX0_termAt_33 rfl (lv_at hl 1 rfl) ?_
        refine lv_iconst (v := nI 3) hx hb dX0_termAt_34 (by decide) ?_
        refine tb_imul hx hb dX0_termAt_35 ?_
        refine lv_iload_n hx hb dX0_termAt_36 rfl (lv_at hl 2 rfl) ?_
        refine tb_iadd hx hb dX0_termAt_37 ?_
        refine tb_ti hx hb hTa hS (by omega) (by decide) dX0_termAt_38 ?_
        have h3 := taF_lt (o * 3 + j)
        obtain e9 | e9 | e9 : taF (o * 3 + j) = 0 ∨ taF (o * 3 + j) = 1 ∨ taF (o * 3 + j) = 2 := by omega
        · rw [e9]
          refine tb_aald hx hb hK hP 1 1 rfl rfl rfl (b := a0) (i := 0) (by omega) (by decide) rfl dX0_termAt_39 ?_
          refine lv_iload_n hx hb dX0_termAt_40 rfl (lv_at hl 3 rfl) ?_
          refine tb_iald (v := X i) hx hb hK hP 2 0 rfl rfl (by omega) (by omega) rfl dX0_termAt_41 ?_
          exact W.iret (v := nI (X i)) hx hb hr (fun t ht hW => ⟨_, rfl, rfl, ht⟩) (fun q h => by cases h) dX0_termAt_42
        · rw [e9]
          refine tb_aald hx hb hK hP 1 1 rfl rfl rfl (b := a1) (i := 1) (by omega) (by decide) rfl dX0_termAt_39 ?_
          refine lv_iload_n hx hb dX0_termAt_40 rfl (lv_at hl 3 rfl) ?_
          refine tb_iald (v := Y i) hx hb hK hP 3 0 rfl rfl (by omega) (by omega) rfl dX0_termAt_41 ?_
          exact W.iret (v := nI (Y i)) hx hb hr (fun t ht hW => ⟨_, rfl, rfl, ht⟩) (fun q h => by cases h) dX0_termAt_42
        · rw [e9]
          refine tb_aald hx hb hK hP 1 1 rfl rfl rfl (b := a2) (i := 2) (by omega) (by decide) rfl dX0_termAt_39 ?_
          refine lv_iload_n hx hb dX0_termAt_40 rfl (lv_at hl 3 rfl) ?_
          refine tb_iald (v := Z i) hx hb hK hP 4 0 rfl rfl (by omega) (by omega) rfl dX0_termAt_41 ?_
          exact W.iret (v := nI (Z i)) hx hb hr (fun t ht hW => ⟨_, rfl, rfl, ht⟩) (fun q h => by cases h) dX0_termAt_42
      · exact absurd (tRng_nI hi (by omega)) c21

set_option maxHeartbeats 4000000 in
set_option maxRecDepth 100000 in
theorem k_Log_keyOfEvent (l : Launch) (D : va_G) (ct : Nat → ClassId) (g : Nat) (t : Nat) (a0 : Nat) (a1 : Nat) (a2 : Nat) (v : Nat) (w : Nat) (R : Nat) (n : Nat) (X : Nat → Nat) (Y : Nat → Nat) (Z : Nat → Nat) (V : Nat → Nat) (E : Nat → Nat) (now : Nat) (cu : Option Nat) (o : Nat) (i : Nat) (hn : n ≤ R) (hR : R ≤ 400) (hi : i < n) (ho : o < 6) : Met l yX0_keyOfEvent wsX0_keyOfEvent ({ frames := 2, cells := 0, slots := 0, locals := 46 }) (tb_Pr D ct [.ref g, .int (nI o), .int (nI i)] [(g, .inr (0, [.ref t, .ref v, .ref w, .int (nI n), .int (nI now), .int (oI cu)])), (t, .inl (ct 1, 3, .inr (.inr (.inr (.inr (tb_3 a0 a1 a2)))))), (a0, .inl (ct 0, R, .inl (aN X))), (a1, .inl (ct 0, R, .inl (aN Y))), (a2, .inl (ct 0, R, .inl (aN Z))), (v, .inl (ct 0, R, .inl (aN V))), (w, .inl (ct 0, R, .inl (aN E)))]) (vp_Si (fun r => r = nI (tKeyOf o (X i) (Y i) (Z i)))) 0 0 (fun _ => False) := by
  refine Met.ofW (cc := cX0_keyOfEvent) (maxL := 3) (ret := (some .int)) (by decide) rfl ?_
  intro p e s m args below meth c s₁ B hml hv
  obtain ⟨rfl, hP, hK, hZ⟩ := hv
  have hx := B.exec
  have hb := B.bytes
  have hr := B.returns
  have hts0 := atoms_spec (ws := wsX0_keyOfEvent) B.pre
  have hts : ∀ w9 ∈ aw, w9.before ([.ref g, .int (nI o), .int (nI i)] : List Value).toArray s = true := fun w9 h9 => hts0 w9 (List.mem_cons_of_mem _ h9)
  have hown : s.vm.findClass RX0 = some m.cls := findClass_of_methodNamed B.named
  have hlocks := B.notSynchronized
  have hS : va_S (fun _ => False) s.heap s.heap [] := va_S.rf
  have hP : va_P D vwCl [(g, .inr (0, [.ref t, .ref v, .ref w, .int (nI n), .int (nI now), .int (oI cu)])), (t, .inl (ct 1, 3, .inr (.inr (.inr (.inr (tb_3 a0 a1 a2)))))), (a0, .inl (ct 0, R, .inl (aN X))), (a1, .inl (ct 0, R, .inl (aN Y))), (a2, .inl (ct 0, R, .inl (aN Z))), (v, .inl (ct 0, R, .inl (aN V))), (w, .inl (ct 0, R, .inl (aN E)))] s.heap := hP
  have hl := lv_entry ([.ref g, .int (nI o), .int (nI i)]) (n := 3) (Nat.le_of_ble_eq_true rfl)
  rw [lg_entry_eq]
  generalize (lg_sl ([.ref g, .int (nI o), .int (nI i)]) ++ List.replicate (3 - (lg_sl ([.ref g, .int (nI o), .int (nI i)])).length) Slot.unset).toArray = ls at hl ⊢
  have hl : lv_has ls 3 [(0, .ref g), (1, .int (nI o)), (2, .int (nI i))] := hl
  refine lv_aload_n hx hb dX0_keyOfEvent_0 rfl (lv_at hl 0 rfl) ?_
  refine lv_iload_n hx hb dX0_keyOfEvent_1 rfl (lv_at hl 2 rfl) ?_
  refine vp_callSi (va_Run.run (va_runV (As := [.int (nI i)]) (rest := []) ⟨hx, hb, hml, hown, hts⟩ (k_Log_hasEvent l D ct g t a0 a1 a2 v w R n X Y Z V E now cu (nI i) hn hR) (cwV 1 hts (gw_V (fun _ h => h) w_188 w_189 w_190 w_26 wcX0_hasEvent) rfl rfl rfl hvX0_hasEvent ⟨Nat.le_of_ble_eq_true rfl, Nat.le_of_ble_eq_true rfl⟩) (tb_prV hP hK hZ hS [0, 1, 2, 3, 4, 5, 6] rfl (ci := 0) (q0 := 0) rfl rfl) rfl rfl hl.1 rfl (lv_room (Nat.le_of_ble_eq_true rfl)) dX0_keyOfEvent_2 ⟨Nat.zero_le _, Nat.zero_le _⟩)) (fun r_2 hr_2 => ?_)
  obtain rfl : r_2 = bB (decide (tRng (nI i) n)) := hr_2
  refine tb_if_eqB (tgt := 39) hx hb dX0_keyOfEvent_5 (by decide) (fun c5 => ?_) (fun c5 => ?_)
  · exact absurd (tRng_nI hi (by omega)) c5
  · refine lv_iload_n hx hb dX0_keyOfEvent_8 rfl (lv_at hl 1 rfl) ?_
    refine lv_aload_n hx hb dX0_keyOfEvent_9 rfl (lv_at hl 0 rfl) ?_
    refine va_get (D := D) (ci := 0) (v := .ref t) (C := RX0) (T := TX0) (N := 6) hx hb hts inX0 hown hK hP 0 rfl rfl 0 (by decide) (hts _ w_49) (fun _ h9 => h9) rfl dX0_keyOfEvent_10 ?_
    refine lv_iconst (v := nI 0) hx hb dX0_keyOfEvent_13 (by decide) ?_
    refine tb_aald hx hb hK hP 1 1 rfl rfl rfl (b := a0) (i := 0) (by omega) (by decide) rfl dX0_keyOfEvent_14 ?_
    refine lv_iload_n hx hb dX0_keyOfEvent_15 rfl (lv_at hl 2 rfl) ?_
    refine tb_iald (v := X i) hx hb hK hP 2 0 rfl rfl (by omega) (by omega) rfl dX0_keyOfEvent_16 ?_
    refine lv_aload_n hx hb dX0_keyOfEvent_17 rfl (lv_at hl 0 rfl) ?_
    refine va_get (D := D) (ci := 0) (v := .ref t) (C := RX0) (T := TX0) (N := 6) hx hb hts inX0 hown hK hP 0 rfl rfl 0 (by decide) (hts _ w_49) (fun _ h9 => h9) rfl dX0_keyOfEvent_18 ?_
    refine lv_iconst (v := nI 1) hx hb dX0_keyOfEvent_21 (by decide) ?_
    refine tb_aald hx hb hK hP 1 1 rfl rfl rfl (b := a1) (i := 1) (by omega) (by decide) rfl dX0_keyOfEvent_22 ?_
    refine lv_iload_n hx hb dX0_keyOfEvent_23 rfl (lv_at hl 2 rfl) ?_
    refine tb_iald (v := Y i) hx hb hK hP 3 0 rfl rfl (by omega) (by omega) rfl dX0_keyOfEvent_24 ?_
    refine lv_aload_n hx hb dX0_keyOfEvent_25 rfl (lv_at hl 0 rfl) ?_
    refine va_get (D := D) (ci := 0) (v := .ref t) (C := RX0) (T := TX0) (N := 6) hx hb hts inX0 hown hK hP 0 rfl rfl 0 (by decide) (hts _ w_49) (fun _ h9 => h9) rfl dX0_keyOfEvent_26 ?_
    refine lv_iconst (v := nI 2) hx hb dX0_keyOfEvent_29 (by decide) ?_
    refine tb_aald hx hb hK hP 1 1 rfl rfl rfl (b := a2) (i := 2) (by omega) (by decide) rfl dX0_keyOfEvent_30 ?_
    refine lv_iload_n hx hb dX0_keyOfEvent_31 rfl (lv_at hl 2 rfl) ?_
    refine tb_iald (v := Z i) hx hb hK hP 4 0 rfl rfl (by omega) (by omega) rfl dX0_keyOfEvent_32 ?_
    refine vp_callSi (va_Run.run (va_runSN (As := [.int (nI o), .int (nI (X i)), .int (nI (Y i)), .int (nI (Z i))]) (rest := []) ⟨hx, hb, hml, hown, hts⟩ (k_keyOf l D ct o (X i) (Y i) (Z i) ho) ⟨va_cnB 4 hts (gw_I (fun _ h => h) wcX4_keyOf) rfl rfl rfl (hZ.2.2.1 _ (List.mem_of_getElem? (i := 2) rfl)) (hts _ w_24) hvX4_keyOf.2 ⟨Nat.le_of_ble_eq_true rfl, Nat.le_of_ble_eq_true rfl⟩, (hts _ w_111), trivial⟩ (tb_prS hP hK hZ hS [] rfl) rfl rfl hl.1 rfl (lv_room (Nat.le_of_ble_eq_true rfl)) dX0_keyOfEvent_33 ⟨Nat.zero_le _, Nat.zero_le _⟩)) (fun r_33 hr_33 => ?_)
    obtain rfl : r_33 = nI (tKeyOf o (X i) (Y i) (Z i)) := hr_33
    refine lv_goto (tgt := 40) hx hb dX0_keyOfEvent_36 (by decide) ?_
    exact W.iret (v := nI (tKeyOf o (X i) (Y i) (Z i))) hx hb hr (fun t ht hW => ⟨_, rfl, rfl, ht⟩) (fun q h => by cases h) dX0_keyOfEvent_40

set_option maxHeartbeats 4000000 in
set_option maxRecDepth 100000 in
theorem k_Log_isOf (l : Launch) (D : va_G) (ct : Nat → ClassId) (g : Nat) (t : Nat) (a0 : Nat) (a1 : Nat) (a2 : Nat) (v : Nat) (w : Nat) (R : Nat) (n : Nat) (X : Nat → Nat) (Y : Nat → Nat) (Z : Nat → Nat) (V : Nat → Nat) (E : Nat → Nat) (now : Nat) (cu : Option Nat) (i : Nat) (a : Nat) (b : Nat) (d : Nat) (hn : n ≤ R) (hR : R ≤ 400) (hi : i < n) (hX : ∀ j, X j < 2 ^ 31) (hY : ∀ j, Y j < 2 ^ 31) (hW : ∀ j, Z j < 2 ^ 31) (ha : a < 2 ^ 31) (hb9 : b < 2 ^ 31) (hd : d < 2 ^ 31) : Met l yX0_isOf wsX0_isOf ({ frames := 0, cells := 0, slots := 0, locals := 0 }) (tb_Pr D ct [.ref g, .int (nI i), .int (nI a), .int (nI b), .int (nI d)] [(g, .inr (0, [.ref t, .ref v, .ref w, .int (nI n), .int (nI now), .int (oI cu)])), (t, .inl (ct 1, 3, .inr (.inr (.inr (.inr (tb_3 a0 a1 a2)))))), (a0, .inl (ct 0, R, .inl (aN X))), (a1, .inl (ct 0, R, .inl (aN Y))), (a2, .inl (ct 0, R, .inl (aN Z))), (v, .inl (ct 0, R, .inl (aN V))), (w, .inl (ct 0, R, .inl (aN E)))]) (vp_Si (fun r => r = bB (decide (X i = a ∧ Y i = b ∧ Z i = d)))) 0 0 (fun _ => False) := by
  refine Met.ofW (cc := cX0_isOf) (maxL := 5) (ret := (some .boolean)) (by decide) rfl ?_
  intro p e s m args below meth c s₁ B hml hv
  obtain ⟨rfl, hP, hK, hZ⟩ := hv
  have hx := B.exec
  have hb := B.bytes
  have hr := B.returns
  have hts0 := atoms_spec (ws := wsX0_isOf) B.pre
  have hts : ∀ w9 ∈ aw, w9.before ([.ref g, .int (nI i), .int (nI a), .int (nI b), .int (nI d)] : List Value).toArray s = true := fun w9 h9 => hts0 w9 (List.mem_cons_of_mem _ h9)
  have hown : s.vm.findClass RX0 = some m.cls := findClass_of_methodNamed B.named
  have hlocks := B.notSynchronized
  have hS : va_S (fun _ => False) s.heap s.heap [] := va_S.rf
  have hP : va_P D vwCl [(g, .inr (0, [.ref t, .ref v, .ref w, .int (nI n), .int (nI now), .int (oI cu)])), (t, .inl (ct 1, 3, .inr (.inr (.inr (.inr (tb_3 a0 a1 a2)))))), (a0, .inl (ct 0, R, .inl (aN X))), (a1, .inl (ct 0, R, .inl (aN Y))), (a2, .inl (ct 0, R, .inl (aN Z))), (v, .inl (ct 0, R, .inl (aN V))), (w, .inl (ct 0, R, .inl (aN E)))] s.heap := hP
  have hl := lv_entry ([.ref g, .int (nI i), .int (nI a), .int (nI b), .int (nI d)]) (n := 5) (Nat.le_of_ble_eq_true rfl)
  rw [lg_entry_eq]
  generalize (lg_sl ([.ref g, .int (nI i), .int (nI a), .int (nI b), .int (nI d)]) ++ List.replicate (5 - (lg_sl ([.ref g, .int (nI i), .int (nI a), .int (nI b), .int (nI d)])).length) Slot.unset).toArray = ls at hl ⊢
  have hl : lv_has ls 5 [(0, .ref g), (1, .int (nI i)), (2, .int (nI a)), (3, .int (nI b)), (4, .int (nI d))] := hl
  refine lv_aload_n hx hb dX0_isOf_0 rfl (lv_at hl 0 rfl) ?_
  refine va_get (D := D) (ci := 0) (v := .ref t) (C := RX0) (T := TX0) (N := 6) hx hb hts inX0 hown hK hP 0 rfl rfl 0 (by decide) (hts _ w_49) (fun _ h9 => h9) rfl dX0_isOf_1 ?_
  refine lv_iconst (v := nI 0) hx hb dX0_isOf_4 (by decide) ?_
  refine tb_aald hx hb hK hP 1 1 rfl rfl rfl (b := a0) (i := 0) (by omega) (by decide) rfl dX0_isOf_5 ?_
  refine lv_iload_n hx hb dX0_isOf_6 rfl (lv_at hl 1 rfl) ?_
  refine tb_iald (v := X i) hx hb hK hP 2 0 rfl rfl (by omega) (by omega) rfl dX0_isOf_7 ?_
  refine lv_iload_n hx hb dX0_isOf_8 rfl (lv_at hl 2 rfl) ?_
  refine tb_icmp_ne (tgt := 41) hx hb dX0_isOf_9 (by decide) (hX _) ha (fun c9 => ?_) (fun c9 => ?_)
  · refine lv_iconst (v := nI 0) hx hb dX0_isOf_41 (by decide) ?_
    exact W.zret (v := 0) hx hb hr (by decide) (fun t ht hW => ⟨_, rfl, (by first | exact bB_t ⟨c9, c21, c34⟩ | exact bB_f (fun z9 => c9 z9.1) | exact bB_f (fun z9 => c21 z9.2.1) | exact bB_f (fun z9 => c34 z9.2.2)), ht⟩) (fun q h => by cases h) dX0_isOf_42
  · refine lv_aload_n hx hb dX0_isOf_12 rfl (lv_at hl 0 rfl) ?_
    refine va_get (D := D) (ci := 0) (v := .ref t) (C := RX0) (T := TX0) (N := 6) hx hb hts inX0 hown hK hP 0 rfl rfl 0 (by decide) (hts _ w_49) (fun _ h9 => h9) rfl dX0_isOf_13 ?_
    refine lv_iconst (v := nI 1) hx hb dX0_isOf_16 (by decide) ?_
    refine tb_aald hx hb hK hP 1 1 rfl rfl rfl (b := a1) (i := 1) (by omega) (by decide) rfl dX0_isOf_17 ?_
    refine lv_iload_n hx hb dX0_isOf_18 rfl (lv_at hl 1 rfl) ?_
    refine tb_iald (v := Y i) hx hb hK hP 3 0 rfl rfl (by omega) (by omega) rfl dX0_isOf_19 ?_
    refine lv_iload_n hx hb dX0_isOf_20 rfl (lv_at hl 3 rfl) ?_
    refine tb_icmp_ne (tgt := 41) hx hb dX0_isOf_21 (by decide) (hY _) hb9 (fun c21 => ?_) (fun c21 => ?_)
    · refine lv_iconst (v := nI 0) hx hb dX0_isOf_41 (by decide) ?_
      exact W.zret (v := 0) hx hb hr (by decide) (fun t ht hW => ⟨_, rfl, (by first | exact bB_t ⟨c9, c21, c34⟩ | exact bB_f (fun z9 => c9 z9.1) | exact bB_f (fun z9 => c21 z9.2.1) | exact bB_f (fun z9 => c34 z9.2.2)), ht⟩) (fun q h => by cases h) dX0_isOf_42
    · refine lv_aload_n hx hb dX0_isOf_24 rfl (lv_at hl 0 rfl) ?_
      refine va_get (D := D) (ci := 0) (v := .ref t) (C := RX0) (T := TX0) (N := 6) hx hb hts inX0 hown hK hP 0 rfl rfl 0 (by decide) (hts _ w_49) (fun _ h9 => h9) rfl dX0_isOf_25 ?_
      refine lv_iconst (v := nI 2) hx hb dX0_isOf_28 (by decide) ?_
      refine tb_aald hx hb hK hP 1 1 rfl rfl rfl (b := a2) (i := 2) (by omega) (by decide) rfl dX0_isOf_29 ?_
      refine lv_iload_n hx hb dX0_isOf_30 rfl (lv_at hl 1 rfl) ?_
      refine tb_iald (v := Z i) hx hb hK hP 4 0 rfl rfl (by omega) (by omega) rfl dX0_isOf_31 ?_
      refine lv_iload hx hb dX0_isOf_32 (lv_at hl 4 rfl) ?_
      refine tb_icmp_ne (tgt := 41) hx hb dX0_isOf_34 (by decide) (hW _) hd (fun c34 => ?_) (fun c34 => ?_)
      · refine lv_iconst (v := nI 0) hx hb dX0_isOf_41 (by decide) ?_
        exact W.zret (v := 0) hx hb hr (by decide) (fun t ht hW => ⟨_, rfl, (by first | exact bB_t ⟨c9, c21, c34⟩ | exact bB_f (fun z9 => c9 z9.1) | exact bB_f (fun z9 => c21 z9.2.1) | exact bB_f (fun z9 => c34 z9.2.2)), ht⟩) (fun q h => by cases h) dX0_isOf_42
      · refine lv_iconst (v := nI 1) hx hb dX0_isOf_37 (by decide) ?_
        refine lv_goto (tgt := 42) hx hb dX0_isOf_38 (by decide) ?_
        exact W.zret (v := 1) hx hb hr (by decide) (fun t ht hW => ⟨_, rfl, (by first | exact bB_t ⟨c9, c21, c34⟩ | exact bB_f (fun z9 => c9 z9.1) | exact bB_f (fun z9 => c21 z9.2.1) | exact bB_f (fun z9 => c34 z9.2.2)), ht⟩) (fun q h => by cases h) dX0_isOf_42

set_option maxHeartbeats 4000000 in
set_option maxRecDepth 100000 in
theorem k_Log_write (l : Launch) (D : va_G) (ct : Nat → ClassId) (g : Nat) (t : Nat) (a0 : Nat) (a1 : Nat) (a2 : Nat) (v : Nat) (w : Nat) (R : Nat) (n : Nat) (X : Nat → Nat) (Y : Nat → Nat) (Z : Nat → Nat) (V : Nat → Nat) (E : Nat → Nat) (now : Nat) (cu : Option Nat) (a : Nat) (b : Nat) (d : Nat) (x : Nat) (y : Nat) (sz : Nat) (hn : n ≤ R) (hR : R ≤ 400) (hlt : n < R) : Met l yX0_write wsX0_write ({ frames := 1, cells := 0, slots := 0, locals := 20 }) (tb_Pw D ct [.ref g, .int (nI a), .int (nI b), .int (nI d), .int (nI x), .int (nI y)] sz [(g, .inr (0, [.ref t, .ref v, .ref w, .int (nI n), .int (nI now), .int (oI cu)])), (t, .inl (ct 1, 3, .inr (.inr (.inr (.inr (tb_3 a0 a1 a2)))))), (a0, .inl (ct 0, R, .inl (aN X))), (a1, .inl (ct 0, R, .inl (aN Y))), (a2, .inl (ct 0, R, .inl (aN Z))), (v, .inl (ct 0, R, .inl (aN V))), (w, .inl (ct 0, R, .inl (aN E)))]) (va_Qv (fun _ => True) (tb_B D (va_A [(g, .inr (0, [.ref t, .ref v, .ref w, .int (nI n), .int (nI now), .int (oI cu)])), (t, .inl (ct 1, 3, .inr (.inr (.inr (.inr (tb_3 a0 a1 a2)))))), (a0, .inl (ct 0, R, .inl (aN X))), (a1, .inl (ct 0, R, .inl (aN Y))), (a2, .inl (ct 0, R, .inl (aN Z))), (v, .inl (ct 0, R, .inl (aN V))), (w, .inl (ct 0, R, .inl (aN E)))] sz) [(g, .inr (0, [.ref t, .ref v, .ref w, .int (nI (n + 1)), .int (nI x), .int (oI cu)])), (t, .inl (ct 1, 3, .inr (.inr (.inr (.inr (tb_3 a0 a1 a2)))))), (a0, .inl (ct 0, R, .inl (aN (va_up X n a)))), (a1, .inl (ct 0, R, .inl (aN (va_up Y n b)))), (a2, .inl (ct 0, R, .inl (aN (va_up Z n d)))), (v, .inl (ct 0, R, .inl (aN (va_up V n x)))), (w, .inl (ct 0, R, .inl (aN (va_up E n y))))]) (va_A [(g, .inr (0, [.ref t, .ref v, .ref w, .int (nI n), .int (nI now), .int (oI cu)])), (t, .inl (ct 1, 3, .inr (.inr (.inr (.inr (tb_3 a0 a1 a2)))))), (a0, .inl (ct 0, R, .inl (aN X))), (a1, .inl (ct 0, R, .inl (aN Y))), (a2, .inl (ct 0, R, .inl (aN Z))), (v, .inl (ct 0, R, .inl (aN V))), (w, .inl (ct 0, R, .inl (aN E)))] sz)) 0 0 (va_A [(g, .inr (0, [.ref t, .ref v, .ref w, .int (nI n), .int (nI now), .int (oI cu)])), (t, .inl (ct 1, 3, .inr (.inr (.inr (.inr (tb_3 a0 a1 a2)))))), (a0, .inl (ct 0, R, .inl (aN X))), (a1, .inl (ct 0, R, .inl (aN Y))), (a2, .inl (ct 0, R, .inl (aN Z))), (v, .inl (ct 0, R, .inl (aN V))), (w, .inl (ct 0, R, .inl (aN E)))] sz) := by
  refine Met.ofW (cc := cX0_write) (maxL := 6) (ret := none) (by decide) rfl ?_
  intro p e s m args below meth c s₁ B hml hv
  obtain ⟨rfl, hsz, hP, hK, hD0, hZ⟩ := hv
  have hx := B.exec
  have hb := B.bytes
  have hr := B.returns
  have hts0 := atoms_spec (ws := wsX0_write) B.pre
  have hts : ∀ w9 ∈ aw, w9.before ([.ref g, .int (nI a), .int (nI b), .int (nI d), .int (nI x), .int (nI y)] : List Value).toArray s = true := fun w9 h9 => hts0 w9 (List.mem_cons_of_mem _ h9)
  have hown : s.vm.findClass RX0 = some m.cls := findClass_of_methodNamed B.named
  have hlocks := B.notSynchronized
  subst hsz
  have hD := hD0.self (sz := s.heap.size)
  generalize hAe : va_A [(g, .inr (0, [.ref t, .ref v, .ref w, .int (nI n), .int (nI now), .int (oI cu)])), (t, .inl (ct 1, 3, .inr (.inr (.inr (.inr (tb_3 a0 a1 a2)))))), (a0, .inl (ct 0, R, .inl (aN X))), (a1, .inl (ct 0, R, .inl (aN Y))), (a2, .inl (ct 0, R, .inl (aN Z))), (v, .inl (ct 0, R, .inl (aN V))), (w, .inl (ct 0, R, .inl (aN E)))] s.heap.size = A at hD hZ ⊢
  have hA : ∀ q : Nat, s.heap.size ≤ q → A q := fun q h => by rw [← hAe]; exact Or.inr h
  have hS : va_S A s.heap s.heap [] := va_S.rf
  have hP : va_P D vwCl [(g, .inr (0, [.ref t, .ref v, .ref w, .int (nI n), .int (nI now), .int (oI cu)])), (t, .inl (ct 1, 3, .inr (.inr (.inr (.inr (tb_3 a0 a1 a2)))))), (a0, .inl (ct 0, R, .inl (aN X))), (a1, .inl (ct 0, R, .inl (aN Y))), (a2, .inl (ct 0, R, .inl (aN Z))), (v, .inl (ct 0, R, .inl (aN V))), (w, .inl (ct 0, R, .inl (aN E)))] s.heap := hP
  have hl := lv_entry ([.ref g, .int (nI a), .int (nI b), .int (nI d), .int (nI x), .int (nI y)]) (n := 6) (Nat.le_of_ble_eq_true rfl)
  rw [lg_entry_eq]
  generalize (lg_sl ([.ref g, .int (nI a), .int (nI b), .int (nI d), .int (nI x), .int (nI y)]) ++ List.replicate (6 - (lg_sl ([.ref g, .int (nI a), .int (nI b), .int (nI d), .int (nI x), .int (nI y)])).length) Slot.unset).toArray = ls at hl ⊢
  have hl : lv_has ls 6 [(0, .ref g), (1, .int (nI a)), (2, .int (nI b)), (3, .int (nI d)), (4, .int (nI x)), (5, .int (nI y))] := hl
  refine lv_aload_n hx hb dX0_write_0 rfl (lv_at hl 0 rfl) ?_
  refine vp_callSi (va_Run.run (va_runV (As := []) (rest := []) ⟨hx, hb, hml, hown, hts⟩ (k_Log_isFull l D ct g t a0 a1 a2 v w R n X Y Z V E now cu hn hR) (cwV 0 hts (gw_V (fun _ h => h) w_132 w_124 w_125 w_26 wcX0_isFull) rfl rfl rfl hvX0_isFull ⟨Nat.le_of_ble_eq_true rfl, Nat.le_of_ble_eq_true rfl⟩) (tb_prV hP hK hZ hS [0, 1, 2, 3, 4, 5, 6] rfl (ci := 0) (q0 := 0) rfl rfl) rfl rfl hl.1 rfl (lv_room (Nat.le_of_ble_eq_true rfl)) dX0_write_1 ⟨Nat.zero_le _, Nat.zero_le _⟩)) (fun r_1 hr_1 => ?_)
  obtain rfl : r_1 = bB (decide (R ≤ n)) := hr_1
  refine tb_if_eqB (tgt := 8) hx hb dX0_write_4 (by decide) (fun c4 => ?_) (fun c4 => ?_)
  · refine lv_aload_n hx hb dX0_write_8 rfl (lv_at hl 0 rfl) ?_
    refine va_get (D := D) (ci := 0) (v := .ref t) (C := RX0) (T := TX0) (N := 6) hx hb hts inX0 hown hK hP 0 rfl rfl 0 (by decide) (hts _ w_49) (fun _ h9 => h9) rfl dX0_write_9 ?_
    refine lv_iconst (v := nI 0) hx hb dX0_write_12 (by decide) ?_
    refine tb_aald hx hb hK hP 1 1 rfl rfl rfl (b := a0) (i := 0) (by omega) (by decide) rfl dX0_write_13 ?_
    refine lv_aload_n hx hb dX0_write_14 rfl (lv_at hl 0 rfl) ?_
    refine va_get (D := D) (ci := 0) (v := .int (nI n)) (C := RX0) (T := TX0) (N := 6) hx hb hts inX0 hown hK hP 0 rfl rfl 3 (by decide) (hts _ w_52) (fun _ h9 => h9) rfl dX0_write_15 ?_
    refine lv_iload_n hx hb dX0_write_18 rfl (lv_at hl 1 rfl) ?_
    refine tb_iast hx hb hK hP hD hS 2 0 rfl rfl (by omega) (by omega) dX0_write_19 (fun H locs hP hD hS => ?_)
    have hP : va_P D vwCl [(g, .inr (0, [.ref t, .ref v, .ref w, .int (nI n), .int (nI now), .int (oI cu)])), (t, .inl (ct 1, 3, .inr (.inr (.inr (.inr (tb_3 a0 a1 a2)))))), (a0, .inl (ct 0, R, .inl (aN (va_up X n a)))), (a1, .inl (ct 0, R, .inl (aN Y))), (a2, .inl (ct 0, R, .inl (aN Z))), (v, .inl (ct 0, R, .inl (aN V))), (w, .inl (ct 0, R, .inl (aN E)))] H := hP
    have hD : va_D A [(g, .inr (0, [.ref t, .ref v, .ref w, .int (nI n), .int (nI now), .int (oI cu)])), (t, .inl (ct 1, 3, .inr (.inr (.inr (.inr (tb_3 a0 a1 a2)))))), (a0, .inl (ct 0, R, .inl (aN (va_up X n a)))), (a1, .inl (ct 0, R, .inl (aN Y))), (a2, .inl (ct 0, R, .inl (aN Z))), (v, .inl (ct 0, R, .inl (aN V))), (w, .inl (ct 0, R, .inl (aN E)))] := hD
    refine lv_aload_n hx hb dX0_write_20 rfl (lv_at hl 0 rfl) ?_
    refine va_get (D := D) (ci := 0) (v := .ref t) (C := RX0) (T := TX0) (N := 6) hx hb hts inX0 hown hK hP 0 rfl rfl 0 (by decide) (hts _ w_49) (fun _ h9 => h9) rfl dX0_write_21 ?_
    refine lv_iconst (v := nI 1) hx hb dX0_write_24 (by decide) ?_
    refine tb_aald hx hb hK hP 1 1 rfl rfl rfl (b := a1) (i := 1) (by omega) (by decide) rfl dX0_write_25 ?_
    refine lv_aload_n hx hb dX0_write_26 rfl (lv_at hl 0 rfl) ?_
    refine va_get (D := D) (ci := 0) (v := .int (nI n)) (C := RX0) (T := TX0) (N := 6) hx hb hts inX0 hown hK hP 0 rfl rfl 3 (by decide) (hts _ w_52) (fun _ h9 => h9) rfl dX0_write_27 ?_
    refine lv_iload_n hx hb dX0_write_30 rfl (lv_at hl 2 rfl) ?_
    refine tb_iast hx hb hK hP hD hS 3 0 rfl rfl (by omega) (by omega) dX0_write_31 (fun H locs hP hD hS => ?_)
    have hP : va_P D vwCl [(g, .inr (0, [.ref t, .ref v, .ref w, .int (nI n), .int (nI now), .int (oI cu)])), (t, .inl (ct 1, 3, .inr (.inr (.inr (.inr (tb_3 a0 a1 a2)))))), (a0, .inl (ct 0, R, .inl (aN (va_up X n a)))), (a1, .inl (ct 0, R, .inl (aN (va_up Y n b)))), (a2, .inl (ct 0, R, .inl (aN Z))), (v, .inl (ct 0, R, .inl (aN V))), (w, .inl (ct 0, R, .inl (aN E)))] H := hP
    have hD : va_D A [(g, .inr (0, [.ref t, .ref v, .ref w, .int (nI n), .int (nI now), .int (oI cu)])), (t, .inl (ct 1, 3, .inr (.inr (.inr (.inr (tb_3 a0 a1 a2)))))), (a0, .inl (ct 0, R, .inl (aN (va_up X n a)))), (a1, .inl (ct 0, R, .inl (aN (va_up Y n b)))), (a2, .inl (ct 0, R, .inl (aN Z))), (v, .inl (ct 0, R, .inl (aN V))), (w, .inl (ct 0, R, .inl (aN E)))] := hD
    refine lv_aload_n hx hb dX0_write_32 rfl (lv_at hl 0 rfl) ?_
    refine va_get (D := D) (ci := 0) (v := .ref t) (C := RX0) (T := TX0) (N := 6) hx hb hts inX0 hown hK hP 0 rfl rfl 0 (by decide) (hts _ w_49) (fun _ h9 => h9) rfl dX0_write_33 ?_
    refine lv_iconst (v := nI 2) hx hb dX0_write_36 (by decide) ?_
    refine tb_aald hx hb hK hP 1 1 rfl rfl rfl (b := a2) (i := 2) (by omega) (by decide) rfl dX0_write_37 ?_
    refine lv_aload_n hx hb dX0_write_38 rfl (lv_at hl 0 rfl) ?_
    refine va_get (D := D) (ci := 0) (v := .int (nI n)) (C := RX0) (T := TX0) (N := 6) hx hb hts inX0 hown hK hP 0 rfl rfl 3 (by decide) (hts _ w_52) (fun _ h9 => h9) rfl dX0_write_39 ?_
    refine lv_iload_n hx hb dX0_write_42 rfl (lv_at hl 3 rfl) ?_
    refine tb_iast hx hb hK hP hD hS 4 0 rfl rfl (by omega) (by omega) dX0_write_43 (fun H locs hP hD hS => ?_)
    have hP : va_P D vwCl [(g, .inr (0, [.ref t, .ref v, .ref w, .int (nI n), .int (nI now), .int (oI cu)])), (t, .inl (ct 1, 3, .inr (.inr (.inr (.inr (tb_3 a0 a1 a2)))))), (a0, .inl (ct 0, R, .inl (aN (va_up X n a)))), (a1, .inl (ct 0, R, .inl (aN (va_up Y n b)))), (a2, .inl (ct 0, R, .inl (aN (va_up Z n d)))), (v, .inl (ct 0, R, .inl (aN V))), (w, .inl (ct 0, R, .inl (aN E)))] H := hP
    have hD : va_D A [(g, .inr (0, [.ref t, .ref v, .ref w, .int (nI n), .int (nI now), .int (oI cu)])), (t, .inl (ct 1, 3, .inr (.inr (.inr (.inr (tb_3 a0 a1 a2)))))), (a0, .inl (ct 0, R, .inl (aN (va_up X n a)))), (a1, .inl (ct 0, R, .inl (aN (va_up Y n b)))), (a2, .inl (ct 0, R, .inl (aN (va_up Z n d)))), (v, .inl (ct 0, R, .inl (aN V))), (w, .inl (ct 0, R, .inl (aN E)))] := hD
    refine lv_aload_n hx hb dX0_write_44 rfl (lv_at hl 0 rfl) ?_
    refine va_get (D := D) (ci := 0) (v := .ref v) (C := RX0) (T := TX0) (N := 6) hx hb hts inX0 hown hK hP 0 rfl rfl 1 (by decide) (hts _ w_50) (fun _ h9 => h9) rfl dX0_write_45 ?_
    refine lv_aload_n hx hb dX0_write_48 rfl (lv_at hl 0 rfl) ?_
    refine va_get (D := D) (ci := 0) (v := .int (nI n)) (C := RX0) (T := TX0) (N := 6) hx hb hts inX0 hown hK hP 0 rfl rfl 3 (by decide) (hts _ w_52) (fun _ h9 => h9) rfl dX0_write_49 ?_
    refine lv_iload hx hb dX0_write_52 (lv_at hl 4 rfl) ?_
    refine tb_iast hx hb hK hP hD hS 5 0 rfl rfl (by omega) (by omega) dX0_write_54 (fun H locs hP hD hS => ?_)
    have hP : va_P D vwCl [(g, .inr (0, [.ref t, .ref v, .ref w, .int (nI n), .int (nI now), .int (oI cu)])), (t, .inl (ct 1, 3, .inr (.inr (.inr (.inr (tb_3 a0 a1 a2)))))), (a0, .inl (ct 0, R, .inl (aN (va_up X n a)))), (a1, .inl (ct 0, R, .inl (aN (va_up Y n b)))), (a2, .inl (ct 0, R, .inl (aN (va_up Z n d)))), (v, .inl (ct 0, R, .inl (aN (va_up V n x)))), (w, .inl (ct 0, R, .inl (aN E)))] H := hP
    have hD : va_D A [(g, .inr (0, [.ref t, .ref v, .ref w, .int (nI n), .int (nI now), .int (oI cu)])), (t, .inl (ct 1, 3, .inr (.inr (.inr (.inr (tb_3 a0 a1 a2)))))), (a0, .inl (ct 0, R, .inl (aN (va_up X n a)))), (a1, .inl (ct 0, R, .inl (aN (va_up Y n b)))), (a2, .inl (ct 0, R, .inl (aN (va_up Z n d)))), (v, .inl (ct 0, R, .inl (aN (va_up V n x)))), (w, .inl (ct 0, R, .inl (aN E)))] := hD
    refine lv_aload_n hx hb dX0_write_55 rfl (lv_at hl 0 rfl) ?_
    refine va_get (D := D) (ci := 0) (v := .ref w) (C := RX0) (T := TX0) (N := 6) hx hb hts inX0 hown hK hP 0 rfl rfl 2 (by decide) (hts _ w_51) (fun _ h9 => h9) rfl dX0_write_56 ?_
    refine lv_aload_n hx hb dX0_write_59 rfl (lv_at hl 0 rfl) ?_
    refine va_get (D := D) (ci := 0) (v := .int (nI n)) (C := RX0) (T := TX0) (N := 6) hx hb hts inX0 hown hK hP 0 rfl rfl 3 (by decide) (hts _ w_52) (fun _ h9 => h9) rfl dX0_write_60 ?_
    refine lv_iload hx hb dX0_write_63 (lv_at hl 5 rfl) ?_
    refine tb_iast hx hb hK hP hD hS 6 0 rfl rfl (by omega) (by omega) dX0_write_65 (fun H locs hP hD hS => ?_)
    have hP : va_P D vwCl [(g, .inr (0, [.ref t, .ref v, .ref w, .int (nI n), .int (nI now), .int (oI cu)])), (t, .inl (ct 1, 3, .inr (.inr (.inr (.inr (tb_3 a0 a1 a2)))))), (a0, .inl (ct 0, R, .inl (aN (va_up X n a)))), (a1, .inl (ct 0, R, .inl (aN (va_up Y n b)))), (a2, .inl (ct 0, R, .inl (aN (va_up Z n d)))), (v, .inl (ct 0, R, .inl (aN (va_up V n x)))), (w, .inl (ct 0, R, .inl (aN (va_up E n y))))] H := hP
    have hD : va_D A [(g, .inr (0, [.ref t, .ref v, .ref w, .int (nI n), .int (nI now), .int (oI cu)])), (t, .inl (ct 1, 3, .inr (.inr (.inr (.inr (tb_3 a0 a1 a2)))))), (a0, .inl (ct 0, R, .inl (aN (va_up X n a)))), (a1, .inl (ct 0, R, .inl (aN (va_up Y n b)))), (a2, .inl (ct 0, R, .inl (aN (va_up Z n d)))), (v, .inl (ct 0, R, .inl (aN (va_up V n x)))), (w, .inl (ct 0, R, .inl (aN (va_up E n y))))] := hD
    refine lv_aload_n hx hb dX0_write_66 rfl (lv_at hl 0 rfl) ?_
    refine lv_dup hx hb dX0_write_67 rfl ?_
    refine va_get (D := D) (ci := 0) (v := .int (nI n)) (C := RX0) (T := TX0) (N := 6) hx hb hts inX0 hown hK hP 0 rfl rfl 3 (by decide) (hts _ w_52) (fun _ h9 => h9) rfl dX0_write_68 ?_
    refine lv_iconst (v := nI 1) hx hb dX0_write_71 (by decide) ?_
    refine tb_iadd hx hb dX0_write_72 ?_
    refine va_put (D := D) (ci := 0) (v := .int (nI (n + 1))) (ty := .int) (C := RX0) (T := TX0) (N := 6) hx hb hts inX0 tyX0 tyX0_ok nmX0 hown hK hP hD hS 0 rfl rfl 3 (by decide) (hts _ w_52) (fun _ h9 => h9) rfl (by decide +kernel) rfl rfl (Nat.le_of_ble_eq_true rfl) dX0_write_73 (fun H locs hP hD hS => ?_)
    have hP : va_P D vwCl [(g, .inr (0, [.ref t, .ref v, .ref w, .int (nI (n + 1)), .int (nI now), .int (oI cu)])), (t, .inl (ct 1, 3, .inr (.inr (.inr (.inr (tb_3 a0 a1 a2)))))), (a0, .inl (ct 0, R, .inl (aN (va_up X n a)))), (a1, .inl (ct 0, R, .inl (aN (va_up Y n b)))), (a2, .inl (ct 0, R, .inl (aN (va_up Z n d)))), (v, .inl (ct 0, R, .inl (aN (va_up V n x)))), (w, .inl (ct 0, R, .inl (aN (va_up E n y))))] H := hP
    have hD : va_D A [(g, .inr (0, [.ref t, .ref v, .ref w, .int (nI (n + 1)), .int (nI now), .int (oI cu)])), (t, .inl (ct 1, 3, .inr (.inr (.inr (.inr (tb_3 a0 a1 a2)))))), (a0, .inl (ct 0, R, .inl (aN (va_up X n a)))), (a1, .inl (ct 0, R, .inl (aN (va_up Y n b)))), (a2, .inl (ct 0, R, .inl (aN (va_up Z n d)))), (v, .inl (ct 0, R, .inl (aN (va_up V n x)))), (w, .inl (ct 0, R, .inl (aN (va_up E n y))))] := hD
    refine lv_aload_n hx hb dX0_write_76 rfl (lv_at hl 0 rfl) ?_
    refine lv_iload hx hb dX0_write_77 (lv_at hl 4 rfl) ?_
    refine va_put (D := D) (ci := 0) (v := .int (nI x)) (ty := .int) (C := RX0) (T := TX0) (N := 6) hx hb hts inX0 tyX0 tyX0_ok nmX0 hown hK hP hD hS 0 rfl rfl 4 (by decide) (hts _ w_54) (fun _ h9 => h9) rfl (by decide +kernel) rfl rfl (Nat.le_of_ble_eq_true rfl) dX0_write_79 (fun H locs hP hD hS => ?_)
    have hP : va_P D vwCl [(g, .inr (0, [.ref t, .ref v, .ref w, .int (nI (n + 1)), .int (nI x), .int (oI cu)])), (t, .inl (ct 1, 3, .inr (.inr (.inr (.inr (tb_3 a0 a1 a2)))))), (a0, .inl (ct 0, R, .inl (aN (va_up X n a)))), (a1, .inl (ct 0, R, .inl (aN (va_up Y n b)))), (a2, .inl (ct 0, R, .inl (aN (va_up Z n d)))), (v, .inl (ct 0, R, .inl (aN (va_up V n x)))), (w, .inl (ct 0, R, .inl (aN (va_up E n y))))] H := hP
    have hD : va_D A [(g, .inr (0, [.ref t, .ref v, .ref w, .int (nI (n + 1)), .int (nI x), .int (oI cu)])), (t, .inl (ct 1, 3, .inr (.inr (.inr (.inr (tb_3 a0 a1 a2)))))), (a0, .inl (ct 0, R, .inl (aN (va_up X n a)))), (a1, .inl (ct 0, R, .inl (aN (va_up Y n b)))), (a2, .inl (ct 0, R, .inl (aN (va_up Z n d)))), (v, .inl (ct 0, R, .inl (aN (va_up V n x)))), (w, .inl (ct 0, R, .inl (aN (va_up E n y))))] := hD
    have hP9 : va_P D vwCl [(g, .inr (0, [.ref t, .ref v, .ref w, .int (nI (n + 1)), .int (nI x), .int (oI cu)])), (t, .inl (ct 1, 3, .inr (.inr (.inr (.inr (tb_3 a0 a1 a2)))))), (a0, .inl (ct 0, R, .inl (aN (va_up X n a)))), (a1, .inl (ct 0, R, .inl (aN (va_up Y n b)))), (a2, .inl (ct 0, R, .inl (aN (va_up Z n d)))), (v, .inl (ct 0, R, .inl (aN (va_up V n x)))), (w, .inl (ct 0, R, .inl (aN (va_up E n y))))] _ := hP.sub [0, 1, 2, 3, 4, 5, 6] rfl
    have hD9 : va_D A [(g, .inr (0, [.ref t, .ref v, .ref w, .int (nI (n + 1)), .int (nI x), .int (oI cu)])), (t, .inl (ct 1, 3, .inr (.inr (.inr (.inr (tb_3 a0 a1 a2)))))), (a0, .inl (ct 0, R, .inl (aN (va_up X n a)))), (a1, .inl (ct 0, R, .inl (aN (va_up Y n b)))), (a2, .inl (ct 0, R, .inl (aN (va_up Z n d)))), (v, .inl (ct 0, R, .inl (aN (va_up V n x)))), (w, .inl (ct 0, R, .inl (aN (va_up E n y))))] := hD.sub [0, 1, 2, 3, 4, 5, 6] (by decide) rfl
    exact W.vret hx hb hr (fun t ht hW => ⟨⟨(), rfl, trivial, by rw [ht]; exact hP9, hD9⟩, hS.F ht⟩) hS.2.2 dX0_write_82
  · exfalso; omega

set_option maxHeartbeats 4000000 in
set_option maxRecDepth 100000 in
theorem k_Log_writeComing (l : Launch) (D : va_G) (ct : Nat → ClassId) (g : Nat) (t : Nat) (a0 : Nat) (a1 : Nat) (a2 : Nat) (v : Nat) (w : Nat) (R : Nat) (n : Nat) (X : Nat → Nat) (Y : Nat → Nat) (Z : Nat → Nat) (V : Nat → Nat) (E : Nat → Nat) (now : Nat) (cu : Option Nat) (a : Nat) (b : Nat) (d : Nat) (x : Nat) (sz : Nat) (hn : n ≤ R) (hR : R ≤ 400) (hlt : n < R) : Met l yX0_writeComing wsX0_writeComing ({ frames := 2, cells := 0, slots := 0, locals := 45 }) (tb_Pw D ct [.ref g, .int (nI a), .int (nI b), .int (nI d), .int (nI x)] sz [(g, .inr (0, [.ref t, .ref v, .ref w, .int (nI n), .int (nI now), .int (oI cu)])), (t, .inl (ct 1, 3, .inr (.inr (.inr (.inr (tb_3 a0 a1 a2)))))), (a0, .inl (ct 0, R, .inl (aN X))), (a1, .inl (ct 0, R, .inl (aN Y))), (a2, .inl (ct 0, R, .inl (aN Z))), (v, .inl (ct 0, R, .inl (aN V))), (w, .inl (ct 0, R, .inl (aN E)))]) (va_Qv (fun _ => True) (tb_B D (va_A [(g, .inr (0, [.ref t, .ref v, .ref w, .int (nI n), .int (nI now), .int (oI cu)])), (t, .inl (ct 1, 3, .inr (.inr (.inr (.inr (tb_3 a0 a1 a2)))))), (a0, .inl (ct 0, R, .inl (aN X))), (a1, .inl (ct 0, R, .inl (aN Y))), (a2, .inl (ct 0, R, .inl (aN Z))), (v, .inl (ct 0, R, .inl (aN V))), (w, .inl (ct 0, R, .inl (aN E)))] sz) [(g, .inr (0, [.ref t, .ref v, .ref w, .int (nI (n + 1)), .int (nI x), .int (oI cu)])), (t, .inl (ct 1, 3, .inr (.inr (.inr (.inr (tb_3 a0 a1 a2)))))), (a0, .inl (ct 0, R, .inl (aN (va_up X n a)))), (a1, .inl (ct 0, R, .inl (aN (va_up Y n b)))), (a2, .inl (ct 0, R, .inl (aN (va_up Z n d)))), (v, .inl (ct 0, R, .inl (aN (va_up V n x)))), (w, .inl (ct 0, R, .inl (aN (va_up E n 1000001))))]) (va_A [(g, .inr (0, [.ref t, .ref v, .ref w, .int (nI n), .int (nI now), .int (oI cu)])), (t, .inl (ct 1, 3, .inr (.inr (.inr (.inr (tb_3 a0 a1 a2)))))), (a0, .inl (ct 0, R, .inl (aN X))), (a1, .inl (ct 0, R, .inl (aN Y))), (a2, .inl (ct 0, R, .inl (aN Z))), (v, .inl (ct 0, R, .inl (aN V))), (w, .inl (ct 0, R, .inl (aN E)))] sz)) 0 0 (va_A [(g, .inr (0, [.ref t, .ref v, .ref w, .int (nI n), .int (nI now), .int (oI cu)])), (t, .inl (ct 1, 3, .inr (.inr (.inr (.inr (tb_3 a0 a1 a2)))))), (a0, .inl (ct 0, R, .inl (aN X))), (a1, .inl (ct 0, R, .inl (aN Y))), (a2, .inl (ct 0, R, .inl (aN Z))), (v, .inl (ct 0, R, .inl (aN V))), (w, .inl (ct 0, R, .inl (aN E)))] sz) := by
  refine Met.ofW (cc := cX0_writeComing) (maxL := 5) (ret := none) (by decide) rfl ?_
  intro p e s m args below meth c s₁ B hml hv
  obtain ⟨rfl, hsz, hP, hK, hD0, hZ⟩ := hv
  have hx := B.exec
  have hb := B.bytes
  have hr := B.returns
  have hts0 := atoms_spec (ws := wsX0_writeComing) B.pre
  have hts : ∀ w9 ∈ aw, w9.before ([.ref g, .int (nI a), .int (nI b), .int (nI d), .int (nI x)] : List Value).toArray s = true := fun w9 h9 => hts0 w9 (List.mem_cons_of_mem _ h9)
  have hown : s.vm.findClass RX0 = some m.cls := findClass_of_methodNamed B.named
  have hlocks := B.notSynchronized
  subst hsz
  have hD := hD0.self (sz := s.heap.size)
  generalize hAe : va_A [(g, .inr (0, [.ref t, .ref v, .ref w, .int (nI n), .int (nI now), .int (oI cu)])), (t, .inl (ct 1, 3, .inr (.inr (.inr (.inr (tb_3 a0 a1 a2)))))), (a0, .inl (ct 0, R, .inl (aN X))), (a1, .inl (ct 0, R, .inl (aN Y))), (a2, .inl (ct 0, R, .inl (aN Z))), (v, .inl (ct 0, R, .inl (aN V))), (w, .inl (ct 0, R, .inl (aN E)))] s.heap.size = A at hD hZ ⊢
  have hA : ∀ q : Nat, s.heap.size ≤ q → A q := fun q h => by rw [← hAe]; exact Or.inr h
  have hS : va_S A s.heap s.heap [] := va_S.rf
  have hP : va_P D vwCl [(g, .inr (0, [.ref t, .ref v, .ref w, .int (nI n), .int (nI now), .int (oI cu)])), (t, .inl (ct 1, 3, .inr (.inr (.inr (.inr (tb_3 a0 a1 a2)))))), (a0, .inl (ct 0, R, .inl (aN X))), (a1, .inl (ct 0, R, .inl (aN Y))), (a2, .inl (ct 0, R, .inl (aN Z))), (v, .inl (ct 0, R, .inl (aN V))), (w, .inl (ct 0, R, .inl (aN E)))] s.heap := hP
  have hl := lv_entry ([.ref g, .int (nI a), .int (nI b), .int (nI d), .int (nI x)]) (n := 5) (Nat.le_of_ble_eq_true rfl)
  rw [lg_entry_eq]
  generalize (lg_sl ([.ref g, .int (nI a), .int (nI b), .int (nI d), .int (nI x)]) ++ List.replicate (5 - (lg_sl ([.ref g, .int (nI a), .int (nI b), .int (nI d), .int (nI x)])).length) Slot.unset).toArray = ls at hl ⊢
  have hl : lv_has ls 5 [(0, .ref g), (1, .int (nI a)), (2, .int (nI b)), (3, .int (nI d)), (4, .int (nI x))] := hl
  refine lv_aload_n hx hb dX0_writeComing_0 rfl (lv_at hl 0 rfl) ?_
  refine lv_iload_n hx hb dX0_writeComing_1 rfl (lv_at hl 1 rfl) ?_
  refine lv_iload_n hx hb dX0_writeComing_2 rfl (lv_at hl 2 rfl) ?_
  refine lv_iload_n hx hb dX0_writeComing_3 rfl (lv_at hl 3 rfl) ?_
  refine lv_iload hx hb dX0_writeComing_4 (lv_at hl 4 rfl) ?_
  refine lv_ldc (v := nI 1000001) hx hb hown (hts _ w_129) dX0_writeComing_6 ?_
  refine tb_callv (wr := []) hP hD hS hA [0, 1, 2, 3, 4, 5, 6] [] rfl rfl (by decide) (by decide) (va_runV (As := [.int (nI a), .int (nI b), .int (nI d), .int (nI x), .int (nI 1000001)]) (rest := []) ⟨hx, hb, hml, hown, hts⟩ (k_Log_write l D ct g t a0 a1 a2 v w R n X Y Z V E now cu a b d x 1000001 _ hn hR hlt) (cwV 5 hts (gw_V (fun _ h => h) w_130 w_131 w_20 w_26 wcX0_write) rfl rfl rfl hvX0_write ⟨Nat.le_of_ble_eq_true rfl, Nat.le_of_ble_eq_true rfl⟩) (tb_pwV hP hD hK hZ hS hA [0, 1, 2, 3, 4, 5, 6] (by decide) rfl (ci := 0) (q0 := 0) rfl rfl) rfl rfl hl.1 rfl (lv_room (Nat.le_of_ble_eq_true rfl)) dX0_writeComing_8 ⟨Nat.zero_le _, Nat.zero_le _⟩) (fun H locs hP hD hS => ?_)
  have hP : va_P D vwCl [(g, .inr (0, [.ref t, .ref v, .ref w, .int (nI (n + 1)), .int (nI x), .int (oI cu)])), (t, .inl (ct 1, 3, .inr (.inr (.inr (.inr (tb_3 a0 a1 a2)))))), (a0, .inl (ct 0, R, .inl (aN (va_up X n a)))), (a1, .inl (ct 0, R, .inl (aN (va_up Y n b)))), (a2, .inl (ct 0, R, .inl (aN (va_up Z n d)))), (v, .inl (ct 0, R, .inl (aN (va_up V n x)))), (w, .inl (ct 0, R, .inl (aN (va_up E n 1000001))))] H := hP
  have hD : va_D A [(g, .inr (0, [.ref t, .ref v, .ref w, .int (nI (n + 1)), .int (nI x), .int (oI cu)])), (t, .inl (ct 1, 3, .inr (.inr (.inr (.inr (tb_3 a0 a1 a2)))))), (a0, .inl (ct 0, R, .inl (aN (va_up X n a)))), (a1, .inl (ct 0, R, .inl (aN (va_up Y n b)))), (a2, .inl (ct 0, R, .inl (aN (va_up Z n d)))), (v, .inl (ct 0, R, .inl (aN (va_up V n x)))), (w, .inl (ct 0, R, .inl (aN (va_up E n 1000001))))] := hD
  have hP9 : va_P D vwCl [(g, .inr (0, [.ref t, .ref v, .ref w, .int (nI (n + 1)), .int (nI x), .int (oI cu)])), (t, .inl (ct 1, 3, .inr (.inr (.inr (.inr (tb_3 a0 a1 a2)))))), (a0, .inl (ct 0, R, .inl (aN (va_up X n a)))), (a1, .inl (ct 0, R, .inl (aN (va_up Y n b)))), (a2, .inl (ct 0, R, .inl (aN (va_up Z n d)))), (v, .inl (ct 0, R, .inl (aN (va_up V n x)))), (w, .inl (ct 0, R, .inl (aN (va_up E n 1000001))))] _ := hP.sub [0, 1, 2, 3, 4, 5, 6] rfl
  have hD9 : va_D A [(g, .inr (0, [.ref t, .ref v, .ref w, .int (nI (n + 1)), .int (nI x), .int (oI cu)])), (t, .inl (ct 1, 3, .inr (.inr (.inr (.inr (tb_3 a0 a1 a2)))))), (a0, .inl (ct 0, R, .inl (aN (va_up X n a)))), (a1, .inl (ct 0, R, .inl (aN (va_up Y n b)))), (a2, .inl (ct 0, R, .inl (aN (va_up Z n d)))), (v, .inl (ct 0, R, .inl (aN (va_up V n x)))), (w, .inl (ct 0, R, .inl (aN (va_up E n 1000001))))] := hD.sub [0, 1, 2, 3, 4, 5, 6] (by decide) rfl
  exact W.vret hx hb hr (fun t ht hW => ⟨⟨(), rfl, trivial, by rw [ht]; exact hP9, hD9⟩, hS.F ht⟩) hS.2.2 dX0_writeComing_11

set_option maxHeartbeats 4000000 in
set_option maxRecDepth 100000 in
theorem k_Log_writeGoing (l : Launch) (D : va_G) (ct : Nat → ClassId) (g : Nat) (t : Nat) (a0 : Nat) (a1 : Nat) (a2 : Nat) (v : Nat) (w : Nat) (R : Nat) (n : Nat) (X : Nat → Nat) (Y : Nat → Nat) (Z : Nat → Nat) (V : Nat → Nat) (E : Nat → Nat) (now : Nat) (cu : Option Nat) (a : Nat) (b : Nat) (d : Nat) (x : Nat) (sz : Nat) (hn : n ≤ R) (hR : R ≤ 400) (hlt : n < R) (hX : ∀ j, X j < 2 ^ 31) (hY : ∀ j, Y j < 2 ^ 31) (hW : ∀ j, Z j < 2 ^ 31) (hE : ∀ j, E j < 2 ^ 31) (ha : a < 2 ^ 31) (hb9 : b < 2 ^ 31) (hd : d < 2 ^ 31) : Met l yX0_writeGoing wsX0_writeGoing ({ frames := 2, cells := 0, slots := 0, locals := 45 }) (tb_Pw D ct [.ref g, .int (nI a), .int (nI b), .int (nI d), .int (nI x)] sz [(g, .inr (0, [.ref t, .ref v, .ref w, .int (nI n), .int (nI now), .int (oI cu)])), (t, .inl (ct 1, 3, .inr (.inr (.inr (.inr (tb_3 a0 a1 a2)))))), (a0, .inl (ct 0, R, .inl (aN X))), (a1, .inl (ct 0, R, .inl (aN Y))), (a2, .inl (ct 0, R, .inl (aN Z))), (v, .inl (ct 0, R, .inl (aN V))), (w, .inl (ct 0, R, .inl (aN E)))]) (va_Qv (fun _ => True) (tb_B D (va_A [(g, .inr (0, [.ref t, .ref v, .ref w, .int (nI n), .int (nI now), .int (oI cu)])), (t, .inl (ct 1, 3, .inr (.inr (.inr (.inr (tb_3 a0 a1 a2)))))), (a0, .inl (ct 0, R, .inl (aN X))), (a1, .inl (ct 0, R, .inl (aN Y))), (a2, .inl (ct 0, R, .inl (aN Z))), (v, .inl (ct 0, R, .inl (aN V))), (w, .inl (ct 0, R, .inl (aN E)))] sz) [(g, .inr (0, [.ref t, .ref v, .ref w, .int (nI (n + 1)), .int (nI x), .int (oI cu)])), (t, .inl (ct 1, 3, .inr (.inr (.inr (.inr (tb_3 a0 a1 a2)))))), (a0, .inl (ct 0, R, .inl (aN (va_up X n a)))), (a1, .inl (ct 0, R, .inl (aN (va_up Y n b)))), (a2, .inl (ct 0, R, .inl (aN (va_up Z n d)))), (v, .inl (ct 0, R, .inl (aN (va_up V n x)))), (w, .inl (ct 0, R, .inl (aN (va_up (tGo X Y Z E a b d x n) n x))))]) (va_A [(g, .inr (0, [.ref t, .ref v, .ref w, .int (nI n), .int (nI now), .int (oI cu)])), (t, .inl (ct 1, 3, .inr (.inr (.inr (.inr (tb_3 a0 a1 a2)))))), (a0, .inl (ct 0, R, .inl (aN X))), (a1, .inl (ct 0, R, .inl (aN Y))), (a2, .inl (ct 0, R, .inl (aN Z))), (v, .inl (ct 0, R, .inl (aN V))), (w, .inl (ct 0, R, .inl (aN E)))] sz)) 0 0 (va_A [(g, .inr (0, [.ref t, .ref v, .ref w, .int (nI n), .int (nI now), .int (oI cu)])), (t, .inl (ct 1, 3, .inr (.inr (.inr (.inr (tb_3 a0 a1 a2)))))), (a0, .inl (ct 0, R, .inl (aN X))), (a1, .inl (ct 0, R, .inl (aN Y))), (a2, .inl (ct 0, R, .inl (aN Z))), (v, .inl (ct 0, R, .inl (aN V))), (w, .inl (ct 0, R, .inl (aN E)))] sz) := by
  refine Met.ofW (cc := cX0_writeGoing) (maxL := 6) (ret := none) (by decide) rfl ?_
  intro p e s m args below meth c s₁ B hml hv
  obtain ⟨rfl, hsz, hP, hK, hD0, hZ⟩ := hv
  have hx := B.exec
  have hb := B.bytes
  have hr := B.returns
  have hts0 := atoms_spec (ws := wsX0_writeGoing) B.pre
  have hts : ∀ w9 ∈ aw, w9.before ([.ref g, .int (nI a), .int (nI b), .int (nI d), .int (nI x)] : List Value).toArray s = true := fun w9 h9 => hts0 w9 (List.mem_cons_of_mem _ h9)
  have hown : s.vm.findClass RX0 = some m.cls := findClass_of_methodNamed B.named
  have hlocks := B.notSynchronized
  subst hsz
  have hD := hD0.self (sz := s.heap.size)
  generalize hAe : va_A [(g, .inr (0, [.ref t, .ref v, .ref w, .int (nI n), .int (nI now), .int (oI cu)])), (t, .inl (ct 1, 3, .inr (.inr (.inr (.inr (tb_3 a0 a1 a2)))))), (a0, .inl (ct 0, R, .inl (aN X))), (a1, .inl (ct 0, R, .inl (aN Y))), (a2, .inl (ct 0, R, .inl (aN Z))), (v, .inl (ct 0, R, .inl (aN V))), (w, .inl (ct 0, R, .inl (aN E)))] s.heap.size = A at hD hZ ⊢
  have hA : ∀ q : Nat, s.heap.size ≤ q → A q := fun q h => by rw [← hAe]; exact Or.inr h
  have hS : va_S A s.heap s.heap [] := va_S.rf
  have hP : va_P D vwCl [(g, .inr (0, [.ref t, .ref v, .ref w, .int (nI n), .int (nI now), .int (oI cu)])), (t, .inl (ct 1, 3, .inr (.inr (.inr (.inr (tb_3 a0 a1 a2)))))), (a0, .inl (ct 0, R, .inl (aN X))), (a1, .inl (ct 0, R, .inl (aN Y))), (a2, .inl (ct 0, R, .inl (aN Z))), (v, .inl (ct 0, R, .inl (aN V))), (w, .inl (ct 0, R, .inl (aN E)))] s.heap := hP
  have hl := lv_entry ([.ref g, .int (nI a), .int (nI b), .int (nI d), .int (nI x)]) (n := 6) (Nat.le_of_ble_eq_true rfl)
  rw [lg_entry_eq]
  generalize (lg_sl ([.ref g, .int (nI a), .int (nI b), .int (nI d), .int (nI x)]) ++ List.replicate (6 - (lg_sl ([.ref g, .int (nI a), .int (nI b), .int (nI d), .int (nI x)])).length) Slot.unset).toArray = ls at hl ⊢
  have hl : lv_has ls 6 [(0, .ref g), (1, .int (nI a)), (2, .int (nI b)), (3, .int (nI d)), (4, .int (nI x))] := hl
  refine lv_aload_n hx hb dX0_writeGoing_0 rfl (lv_at hl 0 rfl) ?_
  refine va_get (D := D) (ci := 0) (v := .int (nI n)) (C := RX0) (T := TX0) (N := 6) hx hb hts inX0 hown hK hP 0 rfl rfl 3 (by decide) (hts _ w_52) (fun _ h9 => h9) rfl dX0_writeGoing_1 ?_
  refine lv_iconst (v := nI 1) hx hb dX0_writeGoing_4 (by decide) ?_
  refine lv_isub hx hb dX0_writeGoing_5 ?_
  refine lv_istore (lv' := [(5, .int (nI n - nI 1)), (0, .ref g), (1, .int (nI a)), (2, .int (nI b)), (3, .int (nI d)), (4, .int (nI x))]) hx hb dX0_writeGoing_6 hl (by decide) rfl (fun ls hl => ?_)
  have hl8 : ∀ (N9 : Nat) (j : Nat), j < N9 → (j ≤ n) → (tGo X Y Z E a b d x n = tGo X Y Z E a b d x j) → ∀ (H : Heap) (locs : List Loc), va_P D vwCl [(g, .inr (0, [.ref t, .ref v, .ref w, .int (nI n), .int (nI now), .int (oI cu)])), (t, .inl (ct 1, 3, .inr (.inr (.inr (.inr (tb_3 a0 a1 a2)))))), (a0, .inl (ct 0, R, .inl (aN X))), (a1, .inl (ct 0, R, .inl (aN Y))), (a2, .inl (ct 0, R, .inl (aN Z))), (v, .inl (ct 0, R, .inl (aN V))), (w, .inl (ct 0, R, .inl (aN E)))] H → va_D A [(g, .inr (0, [.ref t, .ref v, .ref w, .int (nI n), .int (nI now), .int (oI cu)])), (t, .inl (ct 1, 3, .inr (.inr (.inr (.inr (tb_3 a0 a1 a2)))))), (a0, .inl (ct 0, R, .inl (aN X))), (a1, .inl (ct 0, R, .inl (aN Y))), (a2, .inl (ct 0, R, .inl (aN Z))), (v, .inl (ct 0, R, .inl (aN V))), (w, .inl (ct 0, R, .inl (aN E)))] → va_S A s.heap H locs → ∀ (ls : Array Slot), lv_has ls 6 [(0, .ref g), (1, .int (nI a)), (2, .int (nI b)), (3, .int (nI d)), (4, .int (nI x)), (5, .int (nI j - nI 1))] → W p l e (headSpec wsX0_writeGoing ({ frames := 2, cells := 0, slots := 0, locals := 45 })).room s m ([.ref g, .int (nI a), .int (nI b), .int (nI d), .int (nI x)] : List Value).toArray below meth c H locs 0 0 (MQ below (va_Qv (fun _ => True) (tb_B D A [(g, .inr (0, [.ref t, .ref v, .ref w, .int (nI (n + 1)), .int (nI x), .int (oI cu)])), (t, .inl (ct 1, 3, .inr (.inr (.inr (.inr (tb_3 a0 a1 a2)))))), (a0, .inl (ct 0, R, .inl (aN (va_up X n a)))), (a1, .inl (ct 0, R, .inl (aN (va_up Y n b)))), (a2, .inl (ct 0, R, .inl (aN (va_up Z n d)))), (v, .inl (ct 0, R, .inl (aN (va_up V n x)))), (w, .inl (ct 0, R, .inl (aN (va_up (tGo X Y Z E a b d x n) n x))))]) A) ([.ref g, .int (nI a), .int (nI b), .int (nI d), .int (nI x)] : List Value).toArray s 0 0 A) (F0 m 8 ls []) := by
    intro N9
    induction N9 with
    | zero => intro j h9; exact absurd h9 (Nat.not_lt_zero _)
    | succ N9 ih8 =>
      intro j h9 h1 h2 H locs hP hD hS ls hl
      obtain rfl | ⟨i, rfl⟩ : j = 0 ∨ ∃ i, j = i + 1 := by rcases j with _ | i; exact Or.inl rfl; exact Or.inr ⟨i, rfl⟩
      · have hl : lv_has ls 6 [(0, .ref g), (1, .int (nI a)), (2, .int (nI b)), (3, .int (nI d)), (4, .int (nI x)), (5, .int (nI 0 - nI 1))] := hl
        refine lv_iload hx hb dX0_writeGoing_8 (lv_at hl 5 rfl) ?_
        refine lv_if_lt (tgt := 55) hx hb dX0_writeGoing_10 (by decide) (fun c10 => ?_) (fun c10 => ?_)
        · refine lv_aload_n hx hb dX0_writeGoing_55 rfl (lv_at hl 0 rfl) ?_
          refine lv_iload_n hx hb dX0_writeGoing_56 rfl (lv_at hl 1 rfl) ?_
          refine lv_iload_n hx hb dX0_writeGoing_57 rfl (lv_at hl 2 rfl) ?_
          refine lv_iload_n hx hb dX0_writeGoing_58 rfl (lv_at hl 3 rfl) ?_
          refine lv_iload hx hb dX0_writeGoing_59 (lv_at hl 4 rfl) ?_
          refine lv_iload hx hb dX0_writeGoing_61 (lv_at hl 4 rfl) ?_
          refine tb_callv (wr := []) hP hD hS hA [0, 1, 2, 3, 4, 5, 6] [] rfl rfl (by decide) (by decide) (va_runV (As := [.int (nI a), .int (nI b), .int (nI d), .int (nI x), .int (nI x)]) (rest := []) ⟨hx, hb, hml, hown, hts⟩ (k_Log_write l D ct g t a0 a1 a2 v w R n X Y Z V E now cu a b d x x _ hn hR hlt) (cwV 5 hts (gw_V (fun _ h => h) w_130 w_131 w_20 w_26 wcX0_write) rfl rfl rfl hvX0_write ⟨Nat.le_of_ble_eq_true rfl, Nat.le_of_ble_eq_true rfl⟩) (tb_pwV hP hD hK hZ hS hA [0, 1, 2, 3, 4, 5, 6] (by decide) rfl (ci := 0) (q0 := 0) rfl rfl) rfl rfl hl.1 rfl (lv_room (Nat.le_of_ble_eq_true rfl)) dX0_writeGoing_63 ⟨Nat.zero_le _, Nat.zero_le _⟩) (fun H locs hP hD hS => ?_)
          have hP : va_P D vwCl [(g, .inr (0, [.ref t, .ref v, .ref w, .int (nI (n + 1)), .int (nI x), .int (oI cu)])), (t, .inl (ct 1, 3, .inr (.inr (.inr (.inr (tb_3 a0 a1 a2)))))), (a0, .inl (ct 0, R, .inl (aN (va_up X n a)))), (a1, .inl (ct 0, R, .inl (aN (va_up Y n b)))), (a2, .inl (ct 0, R, .inl (aN (va_up Z n d)))), (v, .inl (ct 0, R, .inl (aN (va_up V n x)))), (w, .inl (ct 0, R, .inl (aN (va_up E n x))))] H := hP
          have hD : va_D A [(g, .inr (0, [.ref t, .ref v, .ref w, .int (nI (n + 1)), .int (nI x), .int (oI cu)])), (t, .inl (ct 1, 3, .inr (.inr (.inr (.inr (tb_3 a0 a1 a2)))))), (a0, .inl (ct 0, R, .inl (aN (va_up X n a)))), (a1, .inl (ct 0, R, .inl (aN (va_up Y n b)))), (a2, .inl (ct 0, R, .inl (aN (va_up Z n d)))), (v, .inl (ct 0, R, .inl (aN (va_up V n x)))), (w, .inl (ct 0, R, .inl (aN (va_up E n x))))] := hD
          have hP9 : va_P D vwCl [(g, .inr (0, [.ref t, .ref v, .ref w, .int (nI (n + 1)), .int (nI x), .int (oI cu)])), (t, .inl (ct 1, 3, .inr (.inr (.inr (.inr (tb_3 a0 a1 a2)))))), (a0, .inl (ct 0, R, .inl (aN (va_up X n a)))), (a1, .inl (ct 0, R, .inl (aN (va_up Y n b)))), (a2, .inl (ct 0, R, .inl (aN (va_up Z n d)))), (v, .inl (ct 0, R, .inl (aN (va_up V n x)))), (w, .inl (ct 0, R, .inl (aN (va_up E n x))))] _ := hP.sub [0, 1, 2, 3, 4, 5, 6] rfl
          have hD9 : va_D A [(g, .inr (0, [.ref t, .ref v, .ref w, .int (nI (n + 1)), .int (nI x), .int (oI cu)])), (t, .inl (ct 1, 3, .inr (.inr (.inr (.inr (tb_3 a0 a1 a2)))))), (a0, .inl (ct 0, R, .inl (aN (va_up X n a)))), (a1, .inl (ct 0, R, .inl (aN (va_up Y n b)))), (a2, .inl (ct 0, R, .inl (aN (va_up Z n d)))), (v, .inl (ct 0, R, .inl (aN (va_up V n x)))), (w, .inl (ct 0, R, .inl (aN (va_up E n x))))] := hD.sub [0, 1, 2, 3, 4, 5, 6] (by decide) rfl
          have hP9 : va_P D vwCl [(g, .inr (0, [.ref t, .ref v, .ref w, .int (nI (n + 1)), .int (nI x), .int (oI cu)])), (t, .inl (ct 1, 3, .inr (.inr (.inr (.inr (tb_3 a0 a1 a2)))))), (a0, .inl (ct 0, R, .inl (aN (va_up X n a)))), (a1, .inl (ct 0, R, .inl (aN (va_up Y n b)))), (a2, .inl (ct 0, R, .inl (aN (va_up Z n d)))), (v, .inl (ct 0, R, .inl (aN (va_up V n x)))), (w, .inl (ct 0, R, .inl (aN (va_up (tGo X Y Z E a b d x n) n x))))] H := by rw [h2]; exact hP9
          have hD9 : va_D A [(g, .inr (0, [.ref t, .ref v, .ref w, .int (nI (n + 1)), .int (nI x), .int (oI cu)])), (t, .inl (ct 1, 3, .inr (.inr (.inr (.inr (tb_3 a0 a1 a2)))))), (a0, .inl (ct 0, R, .inl (aN (va_up X n a)))), (a1, .inl (ct 0, R, .inl (aN (va_up Y n b)))), (a2, .inl (ct 0, R, .inl (aN (va_up Z n d)))), (v, .inl (ct 0, R, .inl (aN (va_up V n x)))), (w, .inl (ct 0, R, .inl (aN (va_up (tGo X Y Z E a b d x n) n x))))] := by rw [h2]; exact hD9
          exact W.vret hx hb hr (fun t ht hW => ⟨⟨(), rfl, trivial, by rw [ht]; exact hP9, hD9⟩, hS.F ht⟩) hS.2.2 dX0_writeGoing_66
        · exact absurd (by decide) c10
      · have hl : lv_has ls 6 [(0, .ref g), (1, .int (nI a)), (2, .int (nI b)), (3, .int (nI d)), (4, .int (nI x)), (5, .int (nI i))] := by rw [pk_sub (show 1 ≤ i + 1 by omega)] at hl; exact hl
        refine lv_iload hx hb dX0_writeGoing_8 (lv_at hl 5 rfl) ?_
        refine tb_if_lt (tgt := 55) hx hb dX0_writeGoing_10 (by decide) (by omega) ?_
        refine lv_aload_n hx hb dX0_writeGoing_13 rfl (lv_at hl 0 rfl) ?_
        refine va_get (D := D) (ci := 0) (v := .ref w) (C := RX0) (T := TX0) (N := 6) hx hb hts inX0 hown hK hP 0 rfl rfl 2 (by decide) (hts _ w_51) (fun _ h9 => h9) rfl dX0_writeGoing_14 ?_
        refine lv_iload hx hb dX0_writeGoing_17 (lv_at hl 5 rfl) ?_
        refine tb_iald (v := E i) hx hb hK hP 6 0 rfl rfl (by omega) (by omega) rfl dX0_writeGoing_19 ?_
        refine lv_ldc (v := nI 1000001) hx hb hown (hts _ w_129) dX0_writeGoing_20 ?_
        refine tb_icmp_ne (tgt := 49) hx hb dX0_writeGoing_22 (by decide) (hE _) (by decide) (fun c22 => ?_) (fun c22 => ?_)
        · refine lv_iinc (v := nI i - nI 1) (lv' := [(5, .int (nI i - nI 1)), (0, .ref g), (1, .int (nI a)), (2, .int (nI b)), (3, .int (nI d)), (4, .int (nI x))]) hx hb dX0_writeGoing_49 hl (k := 5) rfl (tb_dec _ rfl) (by decide) rfl (fun ls hl => ?_)
          refine lv_goto (tgt := 8) hx hb dX0_writeGoing_52 (by decide) ?_
          exact ih8 i (by omega) (by omega) (h2.trans (tGo_no (by first | exact fun q => c22 q.1 | exact fun q => c34 q.2))) _ _ (hP.sub [0, 1, 2, 3, 4, 5, 6] rfl) (hD.sub [0, 1, 2, 3, 4, 5, 6] (by decide) rfl) hS _ (lv_sub hl [1, 2, 3, 4, 5, 0] rfl)
        · refine lv_aload_n hx hb dX0_writeGoing_25 rfl (lv_at hl 0 rfl) ?_
          refine lv_iload hx hb dX0_writeGoing_26 (lv_at hl 5 rfl) ?_
          refine lv_iload_n hx hb dX0_writeGoing_28 rfl (lv_at hl 1 rfl) ?_
          refine lv_iload_n hx hb dX0_writeGoing_29 rfl (lv_at hl 2 rfl) ?_
          refine lv_iload_n hx hb dX0_writeGoing_30 rfl (lv_at hl 3 rfl) ?_
          refine vp_callSi (va_Run.run (va_runV (As := [.int (nI i), .int (nI a), .int (nI b), .int (nI d)]) (rest := []) ⟨hx, hb, hml, hown, hts⟩ (k_Log_isOf l D ct g t a0 a1 a2 v w R n X Y Z V E now cu i a b d hn hR (by omega) hX hY hW ha hb9 hd) (cwV 4 hts (gw_V (fun _ h => h) w_157 w_158 w_17 w_26 wcX0_isOf) rfl rfl rfl hvX0_isOf ⟨Nat.le_of_ble_eq_true rfl, Nat.le_of_ble_eq_true rfl⟩) (tb_prV hP hK hZ hS [0, 1, 2, 3, 4, 5, 6] rfl (ci := 0) (q0 := 0) rfl rfl) rfl rfl hl.1 rfl (lv_room (Nat.le_of_ble_eq_true rfl)) dX0_writeGoing_31 ⟨Nat.zero_le _, Nat.zero_le _⟩)) (fun r_31 hr_31 => ?_)
          obtain rfl : r_31 = bB (decide (X i = a ∧ Y i = b ∧ Z i = d)) := hr_31
          refine tb_if_eqB (tgt := 49) hx hb dX0_writeGoing_34 (by decide) (fun c34 => ?_) (fun c34 => ?_)
          · refine lv_iinc (v := nI i - nI 1) (lv' := [(5, .int (nI i - nI 1)), (0, .ref g), (1, .int (nI a)), (2, .int (nI b)), (3, .int (nI d)), (4, .int (nI x))]) hx hb dX0_writeGoing_49 hl (k := 5) rfl (tb_dec _ rfl) (by decide) rfl (fun ls hl => ?_)
            refine lv_goto (tgt := 8) hx hb dX0_writeGoing_52 (by decide) ?_
            exact ih8 i (by omega) (by omega) (h2.trans (tGo_no (by first | exact fun q => c22 q.1 | exact fun q => c34 q.2))) _ _ (hP.sub [0, 1, 2, 3, 4, 5, 6] rfl) (hD.sub [0, 1, 2, 3, 4, 5, 6] (by decide) rfl) hS _ (lv_sub hl [1, 2, 3, 4, 5, 0] rfl)
          · have h2 := h2.trans (tGo_yes ⟨c22, c34⟩)
            refine lv_aload_n hx hb dX0_writeGoing_37 rfl (lv_at hl 0 rfl) ?_
            refine va_get (D := D) (ci := 0) (v := .ref w) (C := RX0) (T := TX0) (N := 6) hx hb hts inX0 hown hK hP 0 rfl rfl 2 (by decide) (hts _ w_51) (fun _ h9 => h9) rfl dX0_writeGoing_38 ?_
            refine lv_iload hx hb dX0_writeGoing_41 (lv_at hl 5 rfl) ?_
            refine lv_iload hx hb dX0_writeGoing_43 (lv_at hl 4 rfl) ?_
            refine tb_iast hx hb hK hP hD hS 6 0 rfl rfl (by omega) (by omega) dX0_writeGoing_45 (fun H locs hP hD hS => ?_)
            have hP : va_P D vwCl [(g, .inr (0, [.ref t, .ref v, .ref w, .int (nI n), .int (nI now), .int (oI cu)])), (t, .inl (ct 1, 3, .inr (.inr (.inr (.inr (tb_3 a0 a1 a2)))))), (a0, .inl (ct 0, R, .inl (aN X))), (a1, .inl (ct 0, R, .inl (aN Y))), (a2, .inl (ct 0, R, .inl (aN Z))), (v, .inl (ct 0, R, .inl (aN V))), (w, .inl (ct 0, R, .inl (aN (va_up E i x))))] H := hP
            have hD : va_D A [(g, .inr (0, [.ref t, .ref v, .ref w, .int (nI n), .int (nI now), .int (oI cu)])), (t, .inl (ct 1, 3, .inr (.inr (.inr (.inr (tb_3 a0 a1 a2)))))), (a0, .inl (ct 0, R, .inl (aN X))), (a1, .inl (ct 0, R, .inl (aN Y))), (a2, .inl (ct 0, R, .inl (aN Z))), (v, .inl (ct 0, R, .inl (aN V))), (w, .inl (ct 0, R, .inl (aN (va_up E i x))))] := hD
            refine lv_goto (tgt := 55) hx hb dX0_writeGoing_46 (by decide) ?_
            refine lv_aload_n hx hb dX0_writeGoing_55 rfl (lv_at hl 0 rfl) ?_
            refine lv_iload_n hx hb dX0_writeGoing_56 rfl (lv_at hl 1 rfl) ?_
            refine lv_iload_n hx hb dX0_writeGoing_57 rfl (lv_at hl 2 rfl) ?_
            refine lv_iload_n hx hb dX0_writeGoing_58 rfl (lv_at hl 3 rfl) ?_
            refine lv_iload hx hb dX0_writeGoing_59 (lv_at hl 4 rfl) ?_
            refine lv_iload hx hb dX0_writeGoing_61 (lv_at hl 4 rfl) ?_
            refine tb_callv (wr := []) hP hD hS hA [0, 1, 2, 3, 4, 5, 6] [] rfl rfl (by decide) (by decide) (va_runV (As := [.int (nI a), .int (nI b), .int (nI d), .int (nI x), .int (nI x)]) (rest := []) ⟨hx, hb, hml, hown, hts⟩ (k_Log_write l D ct g t a0 a1 a2 v w R n X Y Z V (va_up E i x) now cu a b d x x _ hn hR hlt) (cwV 5 hts (gw_V (fun _ h => h) w_130 w_131 w_20 w_26 wcX0_write) rfl rfl rfl hvX0_write ⟨Nat.le_of_ble_eq_true rfl, Nat.le_of_ble_eq_true rfl⟩) (tb_pwV hP hD hK hZ hS hA [0, 1, 2, 3, 4, 5, 6] (by decide) rfl (ci := 0) (q0 := 0) rfl rfl) rfl rfl hl.1 rfl (lv_room (Nat.le_of_ble_eq_true rfl)) dX0_writeGoing_63 ⟨Nat.zero_le _, Nat.zero_le _⟩) (fun H locs hP hD hS => ?_)
            have hP : va_P D vwCl [(g, .inr (0, [.ref t, .ref v, .ref w, .int (nI (n + 1)), .int (nI x), .int (oI cu)])), (t, .inl (ct 1, 3, .inr (.inr (.inr (.inr (tb_3 a0 a1 a2)))))), (a0, .inl (ct 0, R, .inl (aN (va_up X n a)))), (a1, .inl (ct 0, R, .inl (aN (va_up Y n b)))), (a2, .inl (ct 0, R, .inl (aN (va_up Z n d)))), (v, .inl (ct 0, R, .inl (aN (va_up V n x)))), (w, .inl (ct 0, R, .inl (aN (va_up (va_up E i x) n x))))] H := hP
            have hD : va_D A [(g, .inr (0, [.ref t, .ref v, .ref w, .int (nI (n + 1)), .int (nI x), .int (oI cu)])), (t, .inl (ct 1, 3, .inr (.inr (.inr (.inr (tb_3 a0 a1 a2)))))), (a0, .inl (ct 0, R, .inl (aN (va_up X n a)))), (a1, .inl (ct 0, R, .inl (aN (va_up Y n b)))), (a2, .inl (ct 0, R, .inl (aN (va_up Z n d)))), (v, .inl (ct 0, R, .inl (aN (va_up V n x)))), (w, .inl (ct 0, R, .inl (aN (va_up (va_up E i x) n x))))] := hD
            have hP9 : va_P D vwCl [(g, .inr (0, [.ref t, .ref v, .ref w, .int (nI (n + 1)), .int (nI x), .int (oI cu)])), (t, .inl (ct 1, 3, .inr (.inr (.inr (.inr (tb_3 a0 a1 a2)))))), (a0, .inl (ct 0, R, .inl (aN (va_up X n a)))), (a1, .inl (ct 0, R, .inl (aN (va_up Y n b)))), (a2, .inl (ct 0, R, .inl (aN (va_up Z n d)))), (v, .inl (ct 0, R, .inl (aN (va_up V n x)))), (w, .inl (ct 0, R, .inl (aN (va_up (va_up E i x) n x))))] _ := hP.sub [0, 1, 2, 3, 4, 5, 6] rfl
            have hD9 : va_D A [(g, .inr (0, [.ref t, .ref v, .ref w, .int (nI (n + 1)), .int (nI x), .int (oI cu)])), (t, .inl (ct 1, 3, .inr (.inr (.inr (.inr (tb_3 a0 a1 a2)))))), (a0, .inl (ct 0, R, .inl (aN (va_up X n a)))), (a1, .inl (ct 0, R, .inl (aN (va_up Y n b)))), (a2, .inl (ct 0, R, .inl (aN (va_up Z n d)))), (v, .inl (ct 0, R, .inl (aN (va_up V n x)))), (w, .inl (ct 0, R, .inl (aN (va_up (va_up E i x) n x))))] := hD.sub [0, 1, 2, 3, 4, 5, 6] (by decide) rfl
            have hP9 : va_P D vwCl [(g, .inr (0, [.ref t, .ref v, .ref w, .int (nI (n + 1)), .int (nI x), .int (oI cu)])), (t, .inl (ct 1, 3, .inr (.inr (.inr (.inr (tb_3 a0 a1 a2)))))), (a0, .inl (ct 0, R, .inl (aN (va_up X n a)))), (a1, .inl (ct 0, R, .inl (aN (va_up Y n b)))), (a2, .inl (ct 0, R, .inl (aN (va_up Z n d)))), (v, .inl (ct 0, R, .inl (aN (va_up V n x)))), (w, .inl (ct 0, R, .inl (aN (va_up (tGo X Y Z E a b d x n) n x))))] H := by rw [h2]; exact hP9
            have hD9 : va_D A [(g, .inr (0, [.ref t, .ref v, .ref w, .int (nI (n + 1)), .int (nI x), .int (oI cu)])), (t, .inl (ct 1, 3, .inr (.inr (.inr (.inr (tb_3 a0 a1 a2)))))), (a0, .inl (ct 0, R, .inl (aN (va_up X n a)))), (a1, .inl (ct 0, R, .inl (aN (va_up Y n b)))), (a2, .inl (ct 0, R, .inl (aN (va_up Z n d)))), (v, .inl (ct 0, R, .inl (aN (va_up V n x)))), (w, .inl (ct 0, R, .inl (aN (va_up (tGo X Y Z E a b d x n) n x))))] := by rw [h2]; exact hD9
            exact W.vret hx hb hr (fun t ht hW => ⟨⟨(), rfl, trivial, by rw [ht]; exact hP9, hD9⟩, hS.F ht⟩) hS.2.2 dX0_writeGoing_66
  exact hl8 _ n (Nat.lt_succ_self _) (by omega) rfl _ _ (hP.sub [0, 1, 2, 3, 4, 5, 6] rfl) (hD.sub [0, 1, 2, 3, 4, 5, 6] (by decide) rfl) hS _ (lv_sub hl [1, 2, 3, 4, 5, 0] rfl)

set_option maxHeartbeats 4000000 in
set_option maxRecDepth 100000 in
theorem k_Log_move (l : Launch) (D : va_G) (ct : Nat → ClassId) (g : Nat) (t : Nat) (a0 : Nat) (a1 : Nat) (a2 : Nat) (v : Nat) (w : Nat) (R : Nat) (n : Nat) (X : Nat → Nat) (Y : Nat → Nat) (Z : Nat → Nat) (V : Nat → Nat) (E : Nat → Nat) (now : Nat) (cu : Option Nat) (i : Nat) (j : Nat) (sz : Nat) (hn : n ≤ R) (hR : R ≤ 400) (hi : i < n) (hj : j < n) : Met l yX0_move wsX0_move ({ frames := 0, cells := 0, slots := 0, locals := 0 }) (tb_Pw D ct [.ref g, .int (nI i), .int (nI j)] sz [(g, .inr (0, [.ref t, .ref v, .ref w, .int (nI n), .int (nI now), .int (oI cu)])), (t, .inl (ct 1, 3, .inr (.inr (.inr (.inr (tb_3 a0 a1 a2)))))), (a0, .inl (ct 0, R, .inl (aN X))), (a1, .inl (ct 0, R, .inl (aN Y))), (a2, .inl (ct 0, R, .inl (aN Z))), (v, .inl (ct 0, R, .inl (aN V))), (w, .inl (ct 0, R, .inl (aN E)))]) (va_Qv (fun _ => True) (tb_B D (va_A [(g, .inr (0, [.ref t, .ref v, .ref w, .int (nI n), .int (nI now), .int (oI cu)])), (t, .inl (ct 1, 3, .inr (.inr (.inr (.inr (tb_3 a0 a1 a2)))))), (a0, .inl (ct 0, R, .inl (aN X))), (a1, .inl (ct 0, R, .inl (aN Y))), (a2, .inl (ct 0, R, .inl (aN Z))), (v, .inl (ct 0, R, .inl (aN V))), (w, .inl (ct 0, R, .inl (aN E)))] sz) [(g, .inr (0, [.ref t, .ref v, .ref w, .int (nI n), .int (nI now), .int (oI cu)])), (t, .inl (ct 1, 3, .inr (.inr (.inr (.inr (tb_3 a0 a1 a2)))))), (a0, .inl (ct 0, R, .inl (aN (va_up X j (X i))))), (a1, .inl (ct 0, R, .inl (aN (va_up Y j (Y i))))), (a2, .inl (ct 0, R, .inl (aN (va_up Z j (Z i))))), (v, .inl (ct 0, R, .inl (aN (va_up V j (V i))))), (w, .inl (ct 0, R, .inl (aN (va_up E j (E i)))))]) (va_A [(g, .inr (0, [.ref t, .ref v, .ref w, .int (nI n), .int (nI now), .int (oI cu)])), (t, .inl (ct 1, 3, .inr (.inr (.inr (.inr (tb_3 a0 a1 a2)))))), (a0, .inl (ct 0, R, .inl (aN X))), (a1, .inl (ct 0, R, .inl (aN Y))), (a2, .inl (ct 0, R, .inl (aN Z))), (v, .inl (ct 0, R, .inl (aN V))), (w, .inl (ct 0, R, .inl (aN E)))] sz)) 0 0 (va_A [(g, .inr (0, [.ref t, .ref v, .ref w, .int (nI n), .int (nI now), .int (oI cu)])), (t, .inl (ct 1, 3, .inr (.inr (.inr (.inr (tb_3 a0 a1 a2)))))), (a0, .inl (ct 0, R, .inl (aN X))), (a1, .inl (ct 0, R, .inl (aN Y))), (a2, .inl (ct 0, R, .inl (aN Z))), (v, .inl (ct 0, R, .inl (aN V))), (w, .inl (ct 0, R, .inl (aN E)))] sz) := by
  refine Met.ofW (cc := cX0_move) (maxL := 4) (ret := none) (by decide) rfl ?_
  intro p e s m args below meth c s₁ B hml hv
  obtain ⟨rfl, hsz, hP, hK, hD0, hZ⟩ := hv
  have hx := B.exec
  have hb := B.bytes
  have hr := B.returns
  have hts0 := atoms_spec (ws := wsX0_move) B.pre
  have hts : ∀ w9 ∈ aw, w9.before ([.ref g, .int (nI i), .int (nI j)] : List Value).toArray s = true := fun w9 h9 => hts0 w9 (List.mem_cons_of_mem _ h9)
  have hown : s.vm.findClass RX0 = some m.cls := findClass_of_methodNamed B.named
  have hlocks := B.notSynchronized
  subst hsz
  have hD := hD0.self (sz := s.heap.size)
  generalize hAe : va_A [(g, .inr (0, [.ref t, .ref v, .ref w, .int (nI n), .int (nI now), .int (oI cu)])), (t, .inl (ct 1, 3, .inr (.inr (.inr (.inr (tb_3 a0 a1 a2)))))), (a0, .inl (ct 0, R, .inl (aN X))), (a1, .inl (ct 0, R, .inl (aN Y))), (a2, .inl (ct 0, R, .inl (aN Z))), (v, .inl (ct 0, R, .inl (aN V))), (w, .inl (ct 0, R, .inl (aN E)))] s.heap.size = A at hD hZ ⊢
  have hA : ∀ q : Nat, s.heap.size ≤ q → A q := fun q h => by rw [← hAe]; exact Or.inr h
  have hS : va_S A s.heap s.heap [] := va_S.rf
  have hP : va_P D vwCl [(g, .inr (0, [.ref t, .ref v, .ref w, .int (nI n), .int (nI now), .int (oI cu)])), (t, .inl (ct 1, 3, .inr (.inr (.inr (.inr (tb_3 a0 a1 a2)))))), (a0, .inl (ct 0, R, .inl (aN X))), (a1, .inl (ct 0, R, .inl (aN Y))), (a2, .inl (ct 0, R, .inl (aN Z))), (v, .inl (ct 0, R, .inl (aN V))), (w, .inl (ct 0, R, .inl (aN E)))] s.heap := hP
  have hl := lv_entry ([.ref g, .int (nI i), .int (nI j)]) (n := 4) (Nat.le_of_ble_eq_true rfl)
  rw [lg_entry_eq]
  generalize (lg_sl ([.ref g, .int (nI i), .int (nI j)]) ++ List.replicate (4 - (lg_sl ([.ref g, .int (nI i), .int (nI j)])).length) Slot.unset).toArray = ls at hl ⊢
  have hl : lv_has ls 4 [(0, .ref g), (1, .int (nI i)), (2, .int (nI j))] := hl
  refine lv_iconst (v := nI 0) hx hb dX0_move_0 (by decide) ?_
  refine lv_istore_n (lv' := [(3, .int (nI 0)), (0, .ref g), (1, .int (nI i)), (2, .int (nI j))]) hx hb dX0_move_1 rfl hl (by decide) rfl (fun ls hl => ?_)
  refine lv_iload_n hx hb dX0_move_2 rfl (lv_at hl 0 rfl) ?_
  refine lv_iconst (v := nI 3) hx hb dX0_move_3 (by decide) ?_
  refine tb_icmp_ge (tgt := 29) hx hb dX0_move_4 (by decide) (by omega) (by omega) (fun c4 => ?_) (fun c4 => ?_)
  · exact absurd c4 (by decide)
  · refine lv_aload_n hx hb dX0_move_7 rfl (lv_at hl 1 rfl) ?_
    refine va_get (D := D) (ci := 0) (v := .ref t) (C := RX0) (T := TX0) (N := 6) hx hb hts inX0 hown hK hP 0 rfl rfl 0 (by decide) (hts _ w_49) (fun _ h9 => h9) rfl dX0_move_8 ?_
    refine lv_iload_n hx hb dX0_move_11 rfl (lv_at hl 0 rfl) ?_
    refine tb_aald hx hb hK hP 1 1 rfl rfl rfl (b := a0) (i := 0) (by omega) (by decide) rfl dX0_move_12 ?_
    refine lv_iload_n hx hb dX0_move_13 rfl (lv_at hl 3 rfl) ?_
    refine lv_aload_n hx hb dX0_move_14 rfl (lv_at hl 1 rfl) ?_
    refine va_get (D := D) (ci := 0) (v := .ref t) (C := RX0) (T := TX0) (N := 6) hx hb hts inX0 hown hK hP 0 rfl rfl 0 (by decide) (hts _ w_49) (fun _ h9 => h9) rfl dX0_move_15 ?_
    refine lv_iload_n hx hb dX0_move_18 rfl (lv_at hl 0 rfl) ?_
    refine tb_aald hx hb hK hP 1 1 rfl rfl rfl (b := a0) (i := 0) (by omega) (by decide) rfl dX0_move_19 ?_
    refine lv_iload_n hx hb dX0_move_20 rfl (lv_at hl 2 rfl) ?_
    refine tb_iald (v := X i) hx hb hK hP 2 0 rfl rfl (by omega) (by omega) rfl dX0_move_21 ?_
    refine tb_iast hx hb hK hP hD hS 2 0 rfl rfl (by omega) (by omega) dX0_move_22 (fun H locs hP hD hS => ?_)
    have hP : va_P D vwCl [(g, .inr (0, [.ref t, .ref v, .ref w, .int (nI n), .int (nI now), .int (oI cu)])), (t, .inl (ct 1, 3, .inr (.inr (.inr (.inr (tb_3 a0 a1 a2)))))), (a0, .inl (ct 0, R, .inl (aN (va_up X j (X i))))), (a1, .inl (ct 0, R, .inl (aN Y))), (a2, .inl (ct 0, R, .inl (aN Z))), (v, .inl (ct 0, R, .inl (aN V))), (w, .inl (ct 0, R, .inl (aN E)))] H := hP
    have hD : va_D A [(g, .inr (0, [.ref t, .ref v, .ref w, .int (nI n), .int (nI now), .int (oI cu)])), (t, .inl (ct 1, 3, .inr (.inr (.inr (.inr (tb_3 a0 a1 a2)))))), (a0, .inl (ct 0, R, .inl (aN (va_up X j (X i))))), (a1, .inl (ct 0, R, .inl (aN Y))), (a2, .inl (ct 0, R, .inl (aN Z))), (v, .inl (ct 0, R, .inl (aN V))), (w, .inl (ct 0, R, .inl (aN E)))] := hD
    refine lv_iinc (v := nI 1) (lv' := [(3, .int (nI 1)), (0, .ref g), (1, .int (nI i)), (2, .int (nI j))]) hx hb dX0_move_23 hl (k := 0) rfl (by decide) (by decide) rfl (fun ls hl => ?_)
    refine lv_goto (tgt := 2) hx hb dX0_move_26 (by decide) ?_
    refine lv_iload_n hx hb dX0_move_2 rfl (lv_at hl 0 rfl) ?_
    refine lv_iconst (v := nI 3) hx hb dX0_move_3 (by decide) ?_
    refine tb_icmp_ge (tgt := 29) hx hb dX0_move_4 (by decide) (by omega) (by omega) (fun c4 => ?_) (fun c4 => ?_)
    · exact absurd c4 (by decide)
    · refine lv_aload_n hx hb dX0_move_7 rfl (lv_at hl 1 rfl) ?_
      refine va_get (D := D) (ci := 0) (v := .ref t) (C := RX0) (T := TX0) (N := 6) hx hb hts inX0 hown hK hP 0 rfl rfl 0 (by decide) (hts _ w_49) (fun _ h9 => h9) rfl dX0_move_8 ?_
      refine lv_iload_n hx hb dX0_move_11 rfl (lv_at hl 0 rfl) ?_
      refine tb_aald hx hb hK hP 1 1 rfl rfl rfl (b := a1) (i := 1) (by omega) (by decide) rfl dX0_move_12 ?_
      refine lv_iload_n hx hb dX0_move_13 rfl (lv_at hl 3 rfl) ?_
      refine lv_aload_n hx hb dX0_move_14 rfl (lv_at hl 1 rfl) ?_
      refine va_get (D := D) (ci := 0) (v := .ref t) (C := RX0) (T := TX0) (N := 6) hx hb hts inX0 hown hK hP 0 rfl rfl 0 (by decide) (hts _ w_49) (fun _ h9 => h9) rfl dX0_move_15 ?_
      refine lv_iload_n hx hb dX0_move_18 rfl (lv_at hl 0 rfl) ?_
      refine tb_aald hx hb hK hP 1 1 rfl rfl rfl (b := a1) (i := 1) (by omega) (by decide) rfl dX0_move_19 ?_
      refine lv_iload_n hx hb dX0_move_20 rfl (lv_at hl 2 rfl) ?_
      refine tb_iald (v := Y i) hx hb hK hP 3 0 rfl rfl (by omega) (by omega) rfl dX0_move_21 ?_
      refine tb_iast hx hb hK hP hD hS 3 0 rfl rfl (by omega) (by omega) dX0_move_22 (fun H locs hP hD hS => ?_)
      have hP : va_P D vwCl [(g, .inr (0, [.ref t, .ref v, .ref w, .int (nI n), .int (nI now), .int (oI cu)])), (t, .inl (ct 1, 3, .inr (.inr (.inr (.inr (tb_3 a0 a1 a2)))))), (a0, .inl (ct 0, R, .inl (aN (va_up X j (X i))))), (a1, .inl (ct 0, R, .inl (aN (va_up Y j (Y i))))), (a2, .inl (ct 0, R, .inl (aN Z))), (v, .inl (ct 0, R, .inl (aN V))), (w, .inl (ct 0, R, .inl (aN E)))] H := hP
      have hD : va_D A [(g, .inr (0, [.ref t, .ref v, .ref w, .int (nI n), .int (nI now), .int (oI cu)])), (t, .inl (ct 1, 3, .inr (.inr (.inr (.inr (tb_3 a0 a1 a2)))))), (a0, .inl (ct 0, R, .inl (aN (va_up X j (X i))))), (a1, .inl (ct 0, R, .inl (aN (va_up Y j (Y i))))), (a2, .inl (ct 0, R, .inl (aN Z))), (v, .inl (ct 0, R, .inl (aN V))), (w, .inl (ct 0, R, .inl (aN E)))] := hD
      refine lv_iinc (v := nI 2) (lv' := [(3, .int (nI 2)), (0, .ref g), (1, .int (nI i)), (2, .int (nI j))]) hx hb dX0_move_23 hl (k := 0) rfl (by decide) (by decide) rfl (fun ls hl => ?_)
      refine lv_goto (tgt := 2) hx hb dX0_move_26 (by decide) ?_
      refine lv_iload_n hx hb dX0_move_2 rfl (lv_at hl 0 rfl) ?_
      refine lv_iconst (v := nI 3) hx hb dX0_move_3 (by decide) ?_
      refine tb_icmp_ge (tgt := 29) hx hb dX0_move_4 (by decide) (by omega) (by omega) (fun c4 => ?_) (fun c4 => ?_)
      · exact absurd c4 (by decide)
      · refine lv_aload_n hx hb dX0_move_7 rfl (lv_at hl 1 rfl) ?_
        refine va_get (D := D) (ci := 0) (v := .ref t) (C := RX0) (T := TX0) (N := 6) hx hb hts inX0 hown hK hP 0 rfl rfl 0 (by decide) (hts _ w_49) (fun _ h9 => h9) rfl dX0_move_8 ?_
        refine lv_iload_n hx hb dX0_move_11 rfl (lv_at hl 0 rfl) ?_
        refine tb_aald hx hb hK hP 1 1 rfl rfl rfl (b := a2) (i := 2) (by omega) (by decide) rfl dX0_move_12 ?_
        refine lv_iload_n hx hb dX0_move_13 rfl (lv_at hl 3 rfl) ?_
        refine lv_aload_n hx hb dX0_move_14 rfl (lv_at hl 1 rfl) ?_
        refine va_get (D := D) (ci := 0) (v := .ref t) (C := RX0) (T := TX0) (N := 6) hx hb hts inX0 hown hK hP 0 rfl rfl 0 (by decide) (hts _ w_49) (fun _ h9 => h9) rfl dX0_move_15 ?_
        refine lv_iload_n hx hb dX0_move_18 rfl (lv_at hl 0 rfl) ?_
        refine tb_aald hx hb hK hP 1 1 rfl rfl rfl (b := a2) (i := 2) (by omega) (by decide) rfl dX0_move_19 ?_
        refine lv_iload_n hx hb dX0_move_20 rfl (lv_at hl 2 rfl) ?_
        refine tb_iald (v := Z i) hx hb hK hP 4 0 rfl rfl (by omega) (by omega) rfl dX0_move_21 ?_
        refine tb_iast hx hb hK hP hD hS 4 0 rfl rfl (by omega) (by omega) dX0_move_22 (fun H locs hP hD hS => ?_)
        have hP : va_P D vwCl [(g, .inr (0, [.ref t, .ref v, .ref w, .int (nI n), .int (nI now), .int (oI cu)])), (t, .inl (ct 1, 3, .inr (.inr (.inr (.inr (tb_3 a0 a1 a2)))))), (a0, .inl (ct 0, R, .inl (aN (va_up X j (X i))))), (a1, .inl (ct 0, R, .inl (aN (va_up Y j (Y i))))), (a2, .inl (ct 0, R, .inl (aN (va_up Z j (Z i))))), (v, .inl (ct 0, R, .inl (aN V))), (w, .inl (ct 0, R, .inl (aN E)))] H := hP
        have hD : va_D A [(g, .inr (0, [.ref t, .ref v, .ref w, .int (nI n), .int (nI now), .int (oI cu)])), (t, .inl (ct 1, 3, .inr (.inr (.inr (.inr (tb_3 a0 a1 a2)))))), (a0, .inl (ct 0, R, .inl (aN (va_up X j (X i))))), (a1, .inl (ct 0, R, .inl (aN (va_up Y j (Y i))))), (a2, .inl (ct 0, R, .inl (aN (va_up Z j (Z i))))), (v, .inl (ct 0, R, .inl (aN V))), (w, .inl (ct 0, R, .inl (aN E)))] := hD
        refine lv_iinc (v := nI 3) (lv' := [(3, .int (nI 3)), (0, .ref g), (1, .int (nI i)), (2, .int (nI j))]) hx hb dX0_move_23 hl (k := 0) rfl (by decide) (by decide) rfl (fun ls hl => ?_)
        refine lv_goto (tgt := 2) hx hb dX0_move_26 (by decide) ?_
        refine lv_iload_n hx hb dX0_move_2 rfl (lv_at hl 0 rfl) ?_
        refine lv_iconst (v := nI 3) hx hb dX0_move_3 (by decide) ?_
        refine tb_icmp_ge (tgt := 29) hx hb dX0_move_4 (by decide) (by omega) (by omega) (fun c4 => ?_) (fun c4 => ?_)
        · refine lv_aload_n hx hb dX0_move_29 rfl (lv_at hl 1 rfl) ?_
          refine va_get (D := D) (ci := 0) (v := .ref v) (C := RX0) (T := TX0) (N := 6) hx hb hts inX0 hown hK hP 0 rfl rfl 1 (by decide) (hts _ w_50) (fun _ h9 => h9) rfl dX0_move_30 ?_
          refine lv_iload_n hx hb dX0_move_33 rfl (lv_at hl 3 rfl) ?_
          refine lv_aload_n hx hb dX0_move_34 rfl (lv_at hl 1 rfl) ?_
          refine va_get (D := D) (ci := 0) (v := .ref v) (C := RX0) (T := TX0) (N := 6) hx hb hts inX0 hown hK hP 0 rfl rfl 1 (by decide) (hts _ w_50) (fun _ h9 => h9) rfl dX0_move_35 ?_
          refine lv_iload_n hx hb dX0_move_38 rfl (lv_at hl 2 rfl) ?_
          refine tb_iald (v := V i) hx hb hK hP 5 0 rfl rfl (by omega) (by omega) rfl dX0_move_39 ?_
          refine tb_iast hx hb hK hP hD hS 5 0 rfl rfl (by omega) (by omega) dX0_move_40 (fun H locs hP hD hS => ?_)
          have hP : va_P D vwCl [(g, .inr (0, [.ref t, .ref v, .ref w, .int (nI n), .int (nI now), .int (oI cu)])), (t, .inl (ct 1, 3, .inr (.inr (.inr (.inr (tb_3 a0 a1 a2)))))), (a0, .inl (ct 0, R, .inl (aN (va_up X j (X i))))), (a1, .inl (ct 0, R, .inl (aN (va_up Y j (Y i))))), (a2, .inl (ct 0, R, .inl (aN (va_up Z j (Z i))))), (v, .inl (ct 0, R, .inl (aN (va_up V j (V i))))), (w, .inl (ct 0, R, .inl (aN E)))] H := hP
          have hD : va_D A [(g, .inr (0, [.ref t, .ref v, .ref w, .int (nI n), .int (nI now), .int (oI cu)])), (t, .inl (ct 1, 3, .inr (.inr (.inr (.inr (tb_3 a0 a1 a2)))))), (a0, .inl (ct 0, R, .inl (aN (va_up X j (X i))))), (a1, .inl (ct 0, R, .inl (aN (va_up Y j (Y i))))), (a2, .inl (ct 0, R, .inl (aN (va_up Z j (Z i))))), (v, .inl (ct 0, R, .inl (aN (va_up V j (V i))))), (w, .inl (ct 0, R, .inl (aN E)))] := hD
          refine lv_aload_n hx hb dX0_move_41 rfl (lv_at hl 1 rfl) ?_
          refine va_get (D := D) (ci := 0) (v := .ref w) (C := RX0) (T := TX0) (N := 6) hx hb hts inX0 hown hK hP 0 rfl rfl 2 (by decide) (hts _ w_51) (fun _ h9 => h9) rfl dX0_move_42 ?_
          refine lv_iload_n hx hb dX0_move_45 rfl (lv_at hl 3 rfl) ?_
          refine lv_aload_n hx hb dX0_move_46 rfl (lv_at hl 1 rfl) ?_
          refine va_get (D := D) (ci := 0) (v := .ref w) (C := RX0) (T := TX0) (N := 6) hx hb hts inX0 hown hK hP 0 rfl rfl 2 (by decide) (hts _ w_51) (fun _ h9 => h9) rfl dX0_move_47 ?_
          refine lv_iload_n hx hb dX0_move_50 rfl (lv_at hl 2 rfl) ?_
          refine tb_iald (v := E i) hx hb hK hP 6 0 rfl rfl (by omega) (by omega) rfl dX0_move_51 ?_
          refine tb_iast hx hb hK hP hD hS 6 0 rfl rfl (by omega) (by omega) dX0_move_52 (fun H locs hP hD hS => ?_)
          have hP : va_P D vwCl [(g, .inr (0, [.ref t, .ref v, .ref w, .int (nI n), .int (nI now), .int (oI cu)])), (t, .inl (ct 1, 3, .inr (.inr (.inr (.inr (tb_3 a0 a1 a2)))))), (a0, .inl (ct 0, R, .inl (aN (va_up X j (X i))))), (a1, .inl (ct 0, R, .inl (aN (va_up Y j (Y i))))), (a2, .inl (ct 0, R, .inl (aN (va_up Z j (Z i))))), (v, .inl (ct 0, R, .inl (aN (va_up V j (V i))))), (w, .inl (ct 0, R, .inl (aN (va_up E j (E i)))))] H := hP
          have hD : va_D A [(g, .inr (0, [.ref t, .ref v, .ref w, .int (nI n), .int (nI now), .int (oI cu)])), (t, .inl (ct 1, 3, .inr (.inr (.inr (.inr (tb_3 a0 a1 a2)))))), (a0, .inl (ct 0, R, .inl (aN (va_up X j (X i))))), (a1, .inl (ct 0, R, .inl (aN (va_up Y j (Y i))))), (a2, .inl (ct 0, R, .inl (aN (va_up Z j (Z i))))), (v, .inl (ct 0, R, .inl (aN (va_up V j (V i))))), (w, .inl (ct 0, R, .inl (aN (va_up E j (E i)))))] := hD
          have hP9 : va_P D vwCl [(g, .inr (0, [.ref t, .ref v, .ref w, .int (nI n), .int (nI now), .int (oI cu)])), (t, .inl (ct 1, 3, .inr (.inr (.inr (.inr (tb_3 a0 a1 a2)))))), (a0, .inl (ct 0, R, .inl (aN (va_up X j (X i))))), (a1, .inl (ct 0, R, .inl (aN (va_up Y j (Y i))))), (a2, .inl (ct 0, R, .inl (aN (va_up Z j (Z i))))), (v, .inl (ct 0, R, .inl (aN (va_up V j (V i))))), (w, .inl (ct 0, R, .inl (aN (va_up E j (E i)))))] _ := hP.sub [0, 1, 2, 3, 4, 5, 6] rfl
          have hD9 : va_D A [(g, .inr (0, [.ref t, .ref v, .ref w, .int (nI n), .int (nI now), .int (oI cu)])), (t, .inl (ct 1, 3, .inr (.inr (.inr (.inr (tb_3 a0 a1 a2)))))), (a0, .inl (ct 0, R, .inl (aN (va_up X j (X i))))), (a1, .inl (ct 0, R, .inl (aN (va_up Y j (Y i))))), (a2, .inl (ct 0, R, .inl (aN (va_up Z j (Z i))))), (v, .inl (ct 0, R, .inl (aN (va_up V j (V i))))), (w, .inl (ct 0, R, .inl (aN (va_up E j (E i)))))] := hD.sub [0, 1, 2, 3, 4, 5, 6] (by decide) rfl
          exact W.vret hx hb hr (fun t ht hW => ⟨⟨(), rfl, trivial, by rw [ht]; exact hP9, hD9⟩, hS.F ht⟩) hS.2.2 dX0_move_53
        · exact absurd c4 (by decide)

set_option maxHeartbeats 4000000 in
set_option maxRecDepth 100000 in
theorem k_Log_cutAt (l : Launch) (D : va_G) (ct : Nat → ClassId) (g : Nat) (t : Nat) (a0 : Nat) (a1 : Nat) (a2 : Nat) (v : Nat) (w : Nat) (R : Nat) (n : Nat) (X : Nat → Nat) (Y : Nat → Nat) (Z : Nat → Nat) (V : Nat → Nat) (E : Nat → Nat) (now : Nat) (cu : Option Nat) (x : Nat) (sz : Nat) (hn : n ≤ R) (hR : R ≤ 400) (hV : ∀ j, V j < 2 ^ 31) (hE : ∀ j, E j < 2 ^ 31) (hx9 : x < 2 ^ 31) (hno : now < 2 ^ 31) : Met l yX0_cutAt wsX0_cutAt ({ frames := 1, cells := 0, slots := 0, locals := 23 }) (tb_Pw D ct [.ref g, .int (nI x)] sz [(g, .inr (0, [.ref t, .ref v, .ref w, .int (nI n), .int (nI now), .int (oI cu)])), (t, .inl (ct 1, 3, .inr (.inr (.inr (.inr (tb_3 a0 a1 a2)))))), (a0, .inl (ct 0, R, .inl (aN X))), (a1, .inl (ct 0, R, .inl (aN Y))), (a2, .inl (ct 0, R, .inl (aN Z))), (v, .inl (ct 0, R, .inl (aN V))), (w, .inl (ct 0, R, .inl (aN E)))]) (va_Qi (fun r _ => r = nI (n - tCK E x n)) (tb_B D (va_A [(g, .inr (0, [.ref t, .ref v, .ref w, .int (nI n), .int (nI now), .int (oI cu)])), (t, .inl (ct 1, 3, .inr (.inr (.inr (.inr (tb_3 a0 a1 a2)))))), (a0, .inl (ct 0, R, .inl (aN X))), (a1, .inl (ct 0, R, .inl (aN Y))), (a2, .inl (ct 0, R, .inl (aN Z))), (v, .inl (ct 0, R, .inl (aN V))), (w, .inl (ct 0, R, .inl (aN E)))] sz) [(g, .inr (0, [.ref t, .ref v, .ref w, .int (nI (tCK E x n)), .int (nI (max now x)), .int (oI (some x))])), (t, .inl (ct 1, 3, .inr (.inr (.inr (.inr (tb_3 a0 a1 a2)))))), (a0, .inl (ct 0, R, .inl (aN (tCF E x X n)))), (a1, .inl (ct 0, R, .inl (aN (tCF E x Y n)))), (a2, .inl (ct 0, R, .inl (aN (tCF E x Z n)))), (v, .inl (ct 0, R, .inl (aN (tCF E x V n)))), (w, .inl (ct 0, R, .inl (aN (tCF E x E n))))]) (va_A [(g, .inr (0, [.ref t, .ref v, .ref w, .int (nI n), .int (nI now), .int (oI cu)])), (t, .inl (ct 1, 3, .inr (.inr (.inr (.inr (tb_3 a0 a1 a2)))))), (a0, .inl (ct 0, R, .inl (aN X))), (a1, .inl (ct 0, R, .inl (aN Y))), (a2, .inl (ct 0, R, .inl (aN Z))), (v, .inl (ct 0, R, .inl (aN V))), (w, .inl (ct 0, R, .inl (aN E)))] sz)) 0 0 (va_A [(g, .inr (0, [.ref t, .ref v, .ref w, .int (nI n), .int (nI now), .int (oI cu)])), (t, .inl (ct 1, 3, .inr (.inr (.inr (.inr (tb_3 a0 a1 a2)))))), (a0, .inl (ct 0, R, .inl (aN X))), (a1, .inl (ct 0, R, .inl (aN Y))), (a2, .inl (ct 0, R, .inl (aN Z))), (v, .inl (ct 0, R, .inl (aN V))), (w, .inl (ct 0, R, .inl (aN E)))] sz) := by
  refine Met.ofW (cc := cX0_cutAt) (maxL := 4) (ret := (some .int)) (by decide) rfl ?_
  intro p e s m args below meth c s₁ B hml hv
  obtain ⟨rfl, hsz, hP, hK, hD0, hZ⟩ := hv
  have hx := B.exec
  have hb := B.bytes
  have hr := B.returns
  have hts0 := atoms_spec (ws := wsX0_cutAt) B.pre
  have hts : ∀ w9 ∈ aw, w9.before ([.ref g, .int (nI x)] : List Value).toArray s = true := fun w9 h9 => hts0 w9 (List.mem_cons_of_mem _ h9)
  have hown : s.vm.findClass RX0 = some m.cls := findClass_of_methodNamed B.named
  have hlocks := B.notSynchronized
  subst hsz
  have hD := hD0.self (sz := s.heap.size)
  generalize hAe : va_A [(g, .inr (0, [.ref t, .ref v, .ref w, .int (nI n), .int (nI now), .int (oI cu)])), (t, .inl (ct 1, 3, .inr (.inr (.inr (.inr (tb_3 a0 a1 a2)))))), (a0, .inl (ct 0, R, .inl (aN X))), (a1, .inl (ct 0, R, .inl (aN Y))), (a2, .inl (ct 0, R, .inl (aN Z))), (v, .inl (ct 0, R, .inl (aN V))), (w, .inl (ct 0, R, .inl (aN E)))] s.heap.size = A at hD hZ ⊢
  have hA : ∀ q : Nat, s.heap.size ≤ q → A q := fun q h => by rw [← hAe]; exact Or.inr h
  have hS : va_S A s.heap s.heap [] := va_S.rf
  have hP : va_P D vwCl [(g, .inr (0, [.ref t, .ref v, .ref w, .int (nI n), .int (nI now), .int (oI cu)])), (t, .inl (ct 1, 3, .inr (.inr (.inr (.inr (tb_3 a0 a1 a2)))))), (a0, .inl (ct 0, R, .inl (aN X))), (a1, .inl (ct 0, R, .inl (aN Y))), (a2, .inl (ct 0, R, .inl (aN Z))), (v, .inl (ct 0, R, .inl (aN V))), (w, .inl (ct 0, R, .inl (aN E)))] s.heap := hP
  have hl := lv_entry ([.ref g, .int (nI x)]) (n := 4) (Nat.le_of_ble_eq_true rfl)
  rw [lg_entry_eq]
  generalize (lg_sl ([.ref g, .int (nI x)]) ++ List.replicate (4 - (lg_sl ([.ref g, .int (nI x)])).length) Slot.unset).toArray = ls at hl ⊢
  have hl : lv_has ls 4 [(0, .ref g), (1, .int (nI x))] := hl
  refine lv_iconst (v := nI 0) hx hb dX0_cutAt_0 (by decide) ?_
  refine lv_istore_n (lv' := [(2, .int (nI 0)), (0, .ref g), (1, .int (nI x))]) hx hb dX0_cutAt_1 rfl hl (by decide) rfl (fun ls hl => ?_)
  refine lv_iconst (v := nI 0) hx hb dX0_cutAt_2 (by decide) ?_
  refine lv_istore_n (lv' := [(3, .int (nI 0)), (2, .int (nI 0)), (0, .ref g), (1, .int (nI x))]) hx hb dX0_cutAt_3 rfl hl (by decide) rfl (fun ls hl => ?_)
  have hl4 : ∀ (N9 : Nat) (i : Nat), n - i < N9 → (i ≤ n) → ∀ (H : Heap) (locs : List Loc), va_P D vwCl [(g, .inr (0, [.ref t, .ref v, .ref w, .int (nI n), .int (nI now), .int (oI cu)])), (t, .inl (ct 1, 3, .inr (.inr (.inr (.inr (tb_3 a0 a1 a2)))))), (a0, .inl (ct 0, R, .inl (aN (tCF E x X i)))), (a1, .inl (ct 0, R, .inl (aN (tCF E x Y i)))), (a2, .inl (ct 0, R, .inl (aN (tCF E x Z i)))), (v, .inl (ct 0, R, .inl (aN (tCF E x V i)))), (w, .inl (ct 0, R, .inl (aN (tCF E x E i))))] H → va_D A [(g, .inr (0, [.ref t, .ref v, .ref w, .int (nI n), .int (nI now), .int (oI cu)])), (t, .inl (ct 1, 3, .inr (.inr (.inr (.inr (tb_3 a0 a1 a2)))))), (a0, .inl (ct 0, R, .inl (aN (tCF E x X i)))), (a1, .inl (ct 0, R, .inl (aN (tCF E x Y i)))), (a2, .inl (ct 0, R, .inl (aN (tCF E x Z i)))), (v, .inl (ct 0, R, .inl (aN (tCF E x V i)))), (w, .inl (ct 0, R, .inl (aN (tCF E x E i))))] → va_S A s.heap H locs → ∀ (ls : Array Slot), lv_has ls 4 [(0, .ref g), (1, .int (nI x)), (2, .int (nI (tCK E x i))), (3, .int (nI i))] → W p l e (headSpec wsX0_cutAt ({ frames := 1, cells := 0, slots := 0, locals := 23 })).room s m ([.ref g, .int (nI x)] : List Value).toArray below meth c H locs 0 0 (MQ below (va_Qi (fun r _ => r = nI (n - tCK E x n)) (tb_B D A [(g, .inr (0, [.ref t, .ref v, .ref w, .int (nI (tCK E x n)), .int (nI (max now x)), .int (oI (some x))])), (t, .inl (ct 1, 3, .inr (.inr (.inr (.inr (tb_3 a0 a1 a2)))))), (a0, .inl (ct 0, R, .inl (aN (tCF E x X n)))), (a1, .inl (ct 0, R, .inl (aN (tCF E x Y n)))), (a2, .inl (ct 0, R, .inl (aN (tCF E x Z n)))), (v, .inl (ct 0, R, .inl (aN (tCF E x V n)))), (w, .inl (ct 0, R, .inl (aN (tCF E x E n))))]) A) ([.ref g, .int (nI x)] : List Value).toArray s 0 0 A) (F0 m 4 ls []) := by
    intro N9
    induction N9 with
    | zero => intro i h9; exact absurd h9 (Nat.not_lt_zero _)
    | succ N9 ih4 =>
      intro i h9 h1 H locs hP hD hS ls hl
      refine lv_iload_n hx hb dX0_cutAt_4 rfl (lv_at hl 3 rfl) ?_
      refine lv_aload_n hx hb dX0_cutAt_5 rfl (lv_at hl 0 rfl) ?_
      refine va_get (D := D) (ci := 0) (v := .int (nI n)) (C := RX0) (T := TX0) (N := 6) hx hb hts inX0 hown hK hP 0 rfl rfl 3 (by decide) (hts _ w_52) (fun _ h9 => h9) rfl dX0_cutAt_6 ?_
      refine tb_icmp_ge (tgt := 37) hx hb dX0_cutAt_9 (by decide) (by omega) (by omega) (fun c9 => ?_) (fun c9 => ?_)
      · have e9 : n = i := by omega
        subst e9
        refine lv_aload_n hx hb dX0_cutAt_37 rfl (lv_at hl 0 rfl) ?_
        refine va_get (D := D) (ci := 0) (v := .int (nI n)) (C := RX0) (T := TX0) (N := 6) hx hb hts inX0 hown hK hP 0 rfl rfl 3 (by decide) (hts _ w_52) (fun _ h9 => h9) rfl dX0_cutAt_38 ?_
        refine lv_iload_n hx hb dX0_cutAt_41 rfl (lv_at hl 2 rfl) ?_
        refine tb_isub hx hb dX0_cutAt_42 (by have := tCK_le E x n; omega) ?_
        refine lv_istore_n (lv' := [(3, .int (nI (n - (tCK E x n)))), (0, .ref g), (1, .int (nI x)), (2, .int (nI (tCK E x n)))]) hx hb dX0_cutAt_43 rfl hl (by decide) rfl (fun ls hl => ?_)
        refine lv_aload_n hx hb dX0_cutAt_44 rfl (lv_at hl 1 rfl) ?_
        refine lv_iload_n hx hb dX0_cutAt_45 rfl (lv_at hl 3 rfl) ?_
        refine va_put (D := D) (ci := 0) (v := .int (nI (tCK E x n))) (ty := .int) (C := RX0) (T := TX0) (N := 6) hx hb hts inX0 tyX0 tyX0_ok nmX0 hown hK hP hD hS 0 rfl rfl 3 (by decide) (hts _ w_52) (fun _ h9 => h9) rfl (by decide +kernel) rfl rfl (Nat.le_of_ble_eq_true rfl) dX0_cutAt_46 (fun H locs hP hD hS => ?_)
        have hP : va_P D vwCl [(g, .inr (0, [.ref t, .ref v, .ref w, .int (nI (tCK E x n)), .int (nI now), .int (oI cu)])), (t, .inl (ct 1, 3, .inr (.inr (.inr (.inr (tb_3 a0 a1 a2)))))), (a0, .inl (ct 0, R, .inl (aN (tCF E x X n)))), (a1, .inl (ct 0, R, .inl (aN (tCF E x Y n)))), (a2, .inl (ct 0, R, .inl (aN (tCF E x Z n)))), (v, .inl (ct 0, R, .inl (aN (tCF E x V n)))), (w, .inl (ct 0, R, .inl (aN (tCF E x E n))))] H := hP
        have hD : va_D A [(g, .inr (0, [.ref t, .ref v, .ref w, .int (nI (tCK E x n)), .int (nI now), .int (oI cu)])), (t, .inl (ct 1, 3, .inr (.inr (.inr (.inr (tb_3 a0 a1 a2)))))), (a0, .inl (ct 0, R, .inl (aN (tCF E x X n)))), (a1, .inl (ct 0, R, .inl (aN (tCF E x Y n)))), (a2, .inl (ct 0, R, .inl (aN (tCF E x Z n)))), (v, .inl (ct 0, R, .inl (aN (tCF E x V n)))), (w, .inl (ct 0, R, .inl (aN (tCF E x E n))))] := hD
        refine lv_aload_n hx hb dX0_cutAt_49 rfl (lv_at hl 1 rfl) ?_
        refine lv_iload_n hx hb dX0_cutAt_50 rfl (lv_at hl 2 rfl) ?_
        refine va_put (D := D) (ci := 0) (v := .int (nI x)) (ty := .int) (C := RX0) (T := TX0) (N := 6) hx hb hts inX0 tyX0 tyX0_ok nmX0 hown hK hP hD hS 0 rfl rfl 5 (by decide) (hts _ w_56) (fun _ h9 => h9) rfl (by decide +kernel) rfl rfl (Nat.le_of_ble_eq_true rfl) dX0_cutAt_51 (fun H locs hP hD hS => ?_)
        have hP : va_P D vwCl [(g, .inr (0, [.ref t, .ref v, .ref w, .int (nI (tCK E x n)), .int (nI now), .int (nI x)])), (t, .inl (ct 1, 3, .inr (.inr (.inr (.inr (tb_3 a0 a1 a2)))))), (a0, .inl (ct 0, R, .inl (aN (tCF E x X n)))), (a1, .inl (ct 0, R, .inl (aN (tCF E x Y n)))), (a2, .inl (ct 0, R, .inl (aN (tCF E x Z n)))), (v, .inl (ct 0, R, .inl (aN (tCF E x V n)))), (w, .inl (ct 0, R, .inl (aN (tCF E x E n))))] H := hP
        have hD : va_D A [(g, .inr (0, [.ref t, .ref v, .ref w, .int (nI (tCK E x n)), .int (nI now), .int (nI x)])), (t, .inl (ct 1, 3, .inr (.inr (.inr (.inr (tb_3 a0 a1 a2)))))), (a0, .inl (ct 0, R, .inl (aN (tCF E x X n)))), (a1, .inl (ct 0, R, .inl (aN (tCF E x Y n)))), (a2, .inl (ct 0, R, .inl (aN (tCF E x Z n)))), (v, .inl (ct 0, R, .inl (aN (tCF E x V n)))), (w, .inl (ct 0, R, .inl (aN (tCF E x E n))))] := hD
        refine lv_aload_n hx hb dX0_cutAt_54 rfl (lv_at hl 1 rfl) ?_
        refine lv_aload_n hx hb dX0_cutAt_55 rfl (lv_at hl 1 rfl) ?_
        refine va_get (D := D) (ci := 0) (v := .int (nI now)) (C := RX0) (T := TX0) (N := 6) hx hb hts inX0 hown hK hP 0 rfl rfl 4 (by decide) (hts _ w_54) (fun _ h9 => h9) rfl dX0_cutAt_56 ?_
        refine lv_iload_n hx hb dX0_cutAt_59 rfl (lv_at hl 2 rfl) ?_
        refine tb_mmax hx hb (by rw [hml]; exact hl.1.symm) hown (hts _ w_253) (hts _ w_42) (hts _ w_25) (hts _ wcMath_max) (Nat.le_of_ble_eq_true rfl) (Nat.le_of_ble_eq_true rfl) (Nat.zero_le _) (Nat.zero_le _) (by omega) (by omega) dX0_cutAt_60 ?_
        refine va_put (D := D) (ci := 0) (v := .int (nI (max now x))) (ty := .int) (C := RX0) (T := TX0) (N := 6) hx hb hts inX0 tyX0 tyX0_ok nmX0 hown hK hP hD hS 0 rfl rfl 4 (by decide) (hts _ w_54) (fun _ h9 => h9) rfl (by decide +kernel) rfl rfl (Nat.le_of_ble_eq_true rfl) dX0_cutAt_63 (fun H locs hP hD hS => ?_)
        have hP : va_P D vwCl [(g, .inr (0, [.ref t, .ref v, .ref w, .int (nI (tCK E x n)), .int (nI (max now x)), .int (nI x)])), (t, .inl (ct 1, 3, .inr (.inr (.inr (.inr (tb_3 a0 a1 a2)))))), (a0, .inl (ct 0, R, .inl (aN (tCF E x X n)))), (a1, .inl (ct 0, R, .inl (aN (tCF E x Y n)))), (a2, .inl (ct 0, R, .inl (aN (tCF E x Z n)))), (v, .inl (ct 0, R, .inl (aN (tCF E x V n)))), (w, .inl (ct 0, R, .inl (aN (tCF E x E n))))] H := hP
        have hD : va_D A [(g, .inr (0, [.ref t, .ref v, .ref w, .int (nI (tCK E x n)), .int (nI (max now x)), .int (nI x)])), (t, .inl (ct 1, 3, .inr (.inr (.inr (.inr (tb_3 a0 a1 a2)))))), (a0, .inl (ct 0, R, .inl (aN (tCF E x X n)))), (a1, .inl (ct 0, R, .inl (aN (tCF E x Y n)))), (a2, .inl (ct 0, R, .inl (aN (tCF E x Z n)))), (v, .inl (ct 0, R, .inl (aN (tCF E x V n)))), (w, .inl (ct 0, R, .inl (aN (tCF E x E n))))] := hD
        refine lv_iload_n hx hb dX0_cutAt_66 rfl (lv_at hl 0 rfl) ?_
        have hP9 : va_P D vwCl [(g, .inr (0, [.ref t, .ref v, .ref w, .int (nI (tCK E x n)), .int (nI (max now x)), .int (nI x)])), (t, .inl (ct 1, 3, .inr (.inr (.inr (.inr (tb_3 a0 a1 a2)))))), (a0, .inl (ct 0, R, .inl (aN (tCF E x X n)))), (a1, .inl (ct 0, R, .inl (aN (tCF E x Y n)))), (a2, .inl (ct 0, R, .inl (aN (tCF E x Z n)))), (v, .inl (ct 0, R, .inl (aN (tCF E x V n)))), (w, .inl (ct 0, R, .inl (aN (tCF E x E n))))] _ := hP.sub [0, 1, 2, 3, 4, 5, 6] rfl
        have hD9 : va_D A [(g, .inr (0, [.ref t, .ref v, .ref w, .int (nI (tCK E x n)), .int (nI (max now x)), .int (nI x)])), (t, .inl (ct 1, 3, .inr (.inr (.inr (.inr (tb_3 a0 a1 a2)))))), (a0, .inl (ct 0, R, .inl (aN (tCF E x X n)))), (a1, .inl (ct 0, R, .inl (aN (tCF E x Y n)))), (a2, .inl (ct 0, R, .inl (aN (tCF E x Z n)))), (v, .inl (ct 0, R, .inl (aN (tCF E x V n)))), (w, .inl (ct 0, R, .inl (aN (tCF E x E n))))] := hD.sub [0, 1, 2, 3, 4, 5, 6] (by decide) rfl
        exact W.iret (v := nI (n - (tCK E x n))) hx hb hr (fun t ht hW => ⟨⟨_, (), rfl, rfl, by rw [ht]; exact hP9, hD9⟩, hS.F ht⟩) hS.2.2 dX0_cutAt_67
      · have hk9 := tCK_le E x i
        refine lv_aload_n hx hb dX0_cutAt_12 rfl (lv_at hl 0 rfl) ?_
        refine va_get (D := D) (ci := 0) (v := .ref w) (C := RX0) (T := TX0) (N := 6) hx hb hts inX0 hown hK hP 0 rfl rfl 2 (by decide) (hts _ w_51) (fun _ h9 => h9) rfl dX0_cutAt_13 ?_
        refine lv_iload_n hx hb dX0_cutAt_16 rfl (lv_at hl 3 rfl) ?_
        refine tb_iald (v := E i) hx hb hK hP 6 0 rfl rfl (by omega) (by omega) (tCF_ge (tCK_le E x i) (Nat.le_refl i)) dX0_cutAt_17 ?_
        refine lv_iload_n hx hb dX0_cutAt_18 rfl (lv_at hl 1 rfl) ?_
        refine tb_icmp_le (tgt := 31) hx hb dX0_cutAt_19 (by decide) (hE _) hx9 (fun c19 => ?_) (fun c19 => ?_)
        · refine lv_iinc (v := nI (i + 1)) (lv' := [(3, .int (nI (i + 1))), (0, .ref g), (1, .int (nI x)), (2, .int (nI (tCK E x i)))]) hx hb dX0_cutAt_31 hl (k := 3) rfl (tb_inc i rfl) (by decide) rfl (fun ls hl => ?_)
          refine lv_goto (tgt := 4) hx hb dX0_cutAt_34 (by decide) ?_
          exact ih4 (i + 1) (by omega) (by omega) _ _ (by first | (simp only [tCK_no c19, tCF_no c19]; exact hP.sub [0, 1, 2, 3, 4, 5, 6] rfl) | exact hP.sub [0, 1, 2, 3, 4, 5, 6] rfl) (by first | (simp only [tCK_no c19, tCF_no c19]; exact hD.sub [0, 1, 2, 3, 4, 5, 6] (by decide) rfl) | exact hD.sub [0, 1, 2, 3, 4, 5, 6] (by decide) rfl) hS _ (by first | (simp only [tCK_no c19, tCF_no c19]; exact lv_sub hl [1, 2, 3, 0] rfl) | exact lv_sub hl [1, 2, 3, 0] rfl)
        · refine lv_aload_n hx hb dX0_cutAt_22 rfl (lv_at hl 0 rfl) ?_
          refine lv_iload_n hx hb dX0_cutAt_23 rfl (lv_at hl 3 rfl) ?_
          refine lv_iload_n hx hb dX0_cutAt_24 rfl (lv_at hl 2 rfl) ?_
          refine tb_callv (wr := []) hP hD hS hA [0, 1, 2, 3, 4, 5, 6] [] rfl rfl (by decide) (by decide) (va_runV (As := [.int (nI i), .int (nI (tCK E x i))]) (rest := []) ⟨hx, hb, hml, hown, hts⟩ (k_Log_move l D ct g t a0 a1 a2 v w R n (tCF E x X i) (tCF E x Y i) (tCF E x Z i) (tCF E x V i) (tCF E x E i) now cu i (tCK E x i) _ hn hR (by omega) (by omega)) (cwV 2 hts (gw_V (fun _ h => h) w_251 w_252 w_10 w_26 wcX0_move) rfl rfl rfl hvX0_move ⟨Nat.le_of_ble_eq_true rfl, Nat.le_of_ble_eq_true rfl⟩) (tb_pwV hP hD hK hZ hS hA [0, 1, 2, 3, 4, 5, 6] (by decide) rfl (ci := 0) (q0 := 0) rfl rfl) rfl rfl hl.1 rfl (lv_room (Nat.le_of_ble_eq_true rfl)) dX0_cutAt_25 ⟨Nat.zero_le _, Nat.zero_le _⟩) (fun H locs hP hD hS => ?_)
          have hP : va_P D vwCl [(g, .inr (0, [.ref t, .ref v, .ref w, .int (nI n), .int (nI now), .int (oI cu)])), (t, .inl (ct 1, 3, .inr (.inr (.inr (.inr (tb_3 a0 a1 a2)))))), (a0, .inl (ct 0, R, .inl (aN (va_up (tCF E x X i) (tCK E x i) ((tCF E x X i) i))))), (a1, .inl (ct 0, R, .inl (aN (va_up (tCF E x Y i) (tCK E x i) ((tCF E x Y i) i))))), (a2, .inl (ct 0, R, .inl (aN (va_up (tCF E x Z i) (tCK E x i) ((tCF E x Z i) i))))), (v, .inl (ct 0, R, .inl (aN (va_up (tCF E x V i) (tCK E x i) ((tCF E x V i) i))))), (w, .inl (ct 0, R, .inl (aN (va_up (tCF E x E i) (tCK E x i) ((tCF E x E i) i)))))] H := hP
          have hD : va_D A [(g, .inr (0, [.ref t, .ref v, .ref w, .int (nI n), .int (nI now), .int (oI cu)])), (t, .inl (ct 1, 3, .inr (.inr (.inr (.inr (tb_3 a0 a1 a2)))))), (a0, .inl (ct 0, R, .inl (aN (va_up (tCF E x X i) (tCK E x i) ((tCF E x X i) i))))), (a1, .inl (ct 0, R, .inl (aN (va_up (tCF E x Y i) (tCK E x i) ((tCF E x Y i) i))))), (a2, .inl (ct 0, R, .inl (aN (va_up (tCF E x Z i) (tCK E x i) ((tCF E x Z i) i))))), (v, .inl (ct 0, R, .inl (aN (va_up (tCF E x V i) (tCK E x i) ((tCF E x V i) i))))), (w, .inl (ct 0, R, .inl (aN (va_up (tCF E x E i) (tCK E x i) ((tCF E x E i) i)))))] := hD
          refine lv_iinc (v := nI ((tCK E x i) + 1)) (lv' := [(2, .int (nI ((tCK E x i) + 1))), (0, .ref g), (1, .int (nI x)), (3, .int (nI i))]) hx hb dX0_cutAt_28 hl (k := 2) rfl (tb_inc (tCK E x i) rfl) (by decide) rfl (fun ls hl => ?_)
          refine lv_iinc (v := nI (i + 1)) (lv' := [(3, .int (nI (i + 1))), (2, .int (nI ((tCK E x i) + 1))), (0, .ref g), (1, .int (nI x))]) hx hb dX0_cutAt_31 hl (k := 3) rfl (tb_inc i rfl) (by decide) rfl (fun ls hl => ?_)
          refine lv_goto (tgt := 4) hx hb dX0_cutAt_34 (by decide) ?_
          exact ih4 (i + 1) (by omega) (by omega) _ _ (by first | (simp only [tCK_yes c19, tCF_yes c19]; exact hP.sub [0, 1, 2, 3, 4, 5, 6] rfl) | exact hP.sub [0, 1, 2, 3, 4, 5, 6] rfl) (by first | (simp only [tCK_yes c19, tCF_yes c19]; exact hD.sub [0, 1, 2, 3, 4, 5, 6] (by decide) rfl) | exact hD.sub [0, 1, 2, 3, 4, 5, 6] (by decide) rfl) hS _ (by first | (simp only [tCK_yes c19, tCF_yes c19]; exact lv_sub hl [2, 3, 1, 0] rfl) | exact lv_sub hl [2, 3, 1, 0] rfl)
  exact hl4 _ 0 (Nat.lt_succ_self _) (by omega) _ _ (hP.sub [0, 1, 2, 3, 4, 5, 6] rfl) (hD.sub [0, 1, 2, 3, 4, 5, 6] (by decide) rfl) hS _ (lv_sub hl [2, 3, 1, 0] rfl)
