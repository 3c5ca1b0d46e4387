set_option maxHeartbeats 4000000 in
set_option maxRecDepth 100000 in
theorem k_Range_tell (l : Launch) (D : va_G) (ct : Nat → ClassId) (r : Nat) (o0 : Nat) (x0 : Int32) (y0 : Int32) (o : Nat) (x : Int32) (y : Int32) (sz : Nat) : Met l yX2_tell wsX2_tell ({ frames := 0, cells := 0, slots := 0, locals := 0 }) (tb_Pw D ct [.ref r, .int (nI o), .int x, .int y] sz [(r, .inr (2, [.int (nI o0), .int x0, .int y0]))]) (va_Qv (fun _ => True) (tb_B D (va_A [(r, .inr (2, [.int (nI o0), .int x0, .int y0]))] sz) [(r, .inr (2, [.int (nI o), .int x, .int y]))]) (va_A [(r, .inr (2, [.int (nI o0), .int x0, .int y0]))] sz)) 0 0 (va_A [(r, .inr (2, [.int (nI o0), .int x0, .int y0]))] sz) := by
  refine Met.ofW (cc := cX2_tell) (maxL := 4) (ret := none) (by decide) rfl ?_
  intro p e s m args below meth c s₁ B hml hv
  obtain ⟨rfl, hsz, hP, hK, hD0, hZ⟩ := hv
  have hx := B.exec
  have hb := B.bytes
  have hr := B.returns
  have hts0 := atoms_spec (ws := wsX2_tell) B.pre
  have hts : ∀ w9 ∈ aw, w9.before ([.ref r, .int (nI o), .int x, .int y] : List Value).toArray s = true := fun w9 h9 => hts0 w9 (List.mem_cons_of_mem _ h9)
  have hown : s.vm.findClass RX2 = some m.cls := findClass_of_methodNamed B.named
  have hlocks := B.notSynchronized
  subst hsz
  have hD := hD0.self (sz := s.heap.size)
  generalize hAe : va_A [(r, .inr (2, [.int (nI o0), .int x0, .int y0]))] s.heap.size = A at hD hZ ⊢
  have hA : ∀ q : Nat, s.heap.size ≤ q → A q := fun q h => by rw [← hAe]; exact Or.inr h
  have hS : va_S A s.heap s.heap [] := va_S.rf
  have hP : va_P D vwCl [(r, .inr (2, [.int (nI o0), .int x0, .int y0]))] s.heap := hP
  have hl := lv_entry ([.ref r, .int (nI o), .int x, .int y]) (n := 4) (Nat.le_of_ble_eq_true rfl)
  rw [lg_entry_eq]
  generalize (lg_sl ([.ref r, .int (nI o), .int x, .int y]) ++ List.replicate (4 - (lg_sl ([.ref r, .int (nI o), .int x, .int y])).length) Slot.unset).toArray = ls at hl ⊢
  have hl : lv_has ls 4 [(0, .ref r), (1, .int (nI o)), (2, .int x), (3, .int y)] := hl
  refine lv_aload_n hx hb dX2_tell_0 rfl (lv_at hl 0 rfl) ?_
  refine lv_iload_n hx hb dX2_tell_1 rfl (lv_at hl 1 rfl) ?_
  refine va_put (D := D) (ci := 2) (v := .int (nI o)) (ty := .int) (C := RX2) (T := TX2) (N := 3) hx hb hts inX2 tyX2 tyX2_ok nmX2 hown hK hP hD hS 0 rfl rfl 0 (by decide) (hts _ w_83) (fun _ h9 => h9) rfl (by decide +kernel) rfl rfl (Nat.le_of_ble_eq_true rfl) dX2_tell_2 (fun H locs hP hD hS => ?_)
  have hP : va_P D vwCl [(r, .inr (2, [.int (nI o), .int x0, .int y0]))] H := hP
  have hD : va_D A [(r, .inr (2, [.int (nI o), .int x0, .int y0]))] := hD
  refine lv_aload_n hx hb dX2_tell_5 rfl (lv_at hl 0 rfl) ?_
  refine lv_iload_n hx hb dX2_tell_6 rfl (lv_at hl 2 rfl) ?_
  refine va_put (D := D) (ci := 2) (v := .int x) (ty := .int) (C := RX2) (T := TX2) (N := 3) hx hb hts inX2 tyX2 tyX2_ok nmX2 hown hK hP hD hS 0 rfl rfl 1 (by decide) (hts _ w_85) (fun _ h9 => h9) rfl (by decide +kernel) rfl rfl (Nat.le_of_ble_eq_true rfl) dX2_tell_7 (fun H locs hP hD hS => ?_)
  have hP : va_P D vwCl [(r, .inr (2, [.int (nI o), .int x, .int y0]))] H := hP
  have hD : va_D A [(r, .inr (2, [.int (nI o), .int x, .int y0]))] := hD
  refine lv_aload_n hx hb dX2_tell_10 rfl (lv_at hl 0 rfl) ?_
  refine lv_iload_n hx hb dX2_tell_11 rfl (lv_at hl 3 rfl) ?_
  refine va_put (D := D) (ci := 2) (v := .int y) (ty := .int) (C := RX2) (T := TX2) (N := 3) hx hb hts inX2 tyX2 tyX2_ok nmX2 hown hK hP hD hS 0 rfl rfl 2 (by decide) (hts _ w_86) (fun _ h9 => h9) rfl (by decide +kernel) rfl rfl (Nat.le_of_ble_eq_true rfl) dX2_tell_12 (fun H locs hP hD hS => ?_)
  have hP : va_P D vwCl [(r, .inr (2, [.int (nI o), .int x, .int y]))] H := hP
  have hD : va_D A [(r, .inr (2, [.int (nI o), .int x, .int y]))] := hD
  have hP9 : va_P D vwCl [(r, .inr (2, [.int (nI o), .int x, .int y]))] _ := hP.sub [0] rfl
  have hD9 : va_D A [(r, .inr (2, [.int (nI o), .int x, .int y]))] := hD.sub [0] (by decide) rfl
  exact W.vret hx hb hr (fun t ht hW => ⟨⟨(), rfl, trivial, by rw [ht]; exact hP9, hD9⟩, hS.F ht⟩) hS.2.2 dX2_tell_15

set_option maxHeartbeats 4000000 in
set_option maxRecDepth 100000 in
theorem k_Range_freePlace (l : Launch) (D : va_G) (ct : Nat → ClassId) (r : Nat) (o : Nat) (a : Option Nat) (b : Option Nat) (ha : ∀ j, a = some j → j < 1000) (hb9 : ∀ j, b = some j → j < 1000) : Met l yX2_freePlace wsX2_freePlace ({ frames := 0, cells := 0, slots := 0, locals := 0 }) (tb_Pr D ct [.ref r] [(r, .inr (2, [.int (nI o), .int (oI a), .int (oI b)]))]) (vp_Si (fun r => r = nI (tFree a b))) 0 0 (fun _ => False) := by
  rcases a with _ | a <;> rcases b with _ | b
  · show Met l yX2_freePlace wsX2_freePlace ({ frames := 0, cells := 0, slots := 0, locals := 0 }) (tb_Pr D ct [.ref r] [(r, .inr (2, [.int (nI o), .int (-1), .int (-1)]))]) (vp_Si (fun r => r = nI (tFree none none))) 0 0 (fun _ => False)
    refine Met.ofW (cc := cX2_freePlace) (maxL := 1) (ret := (some .int)) (by decide) rfl ?_
    intro p e s m args below meth c s₁ B hml hv
    obtain ⟨rfl, hP, hK, hZ⟩ := hv
    have hx := B.exec
    have hb := B.bytes
    have hr := B.returns
    have hts0 := atoms_spec (ws := wsX2_freePlace) B.pre
    have hts : ∀ w9 ∈ aw, w9.before ([.ref r] : List Value).toArray s = true := fun w9 h9 => hts0 w9 (List.mem_cons_of_mem _ h9)
    have hown : s.vm.findClass RX2 = some m.cls := findClass_of_methodNamed B.named
    have hlocks := B.notSynchronized
    have hS : va_S (fun _ => False) s.heap s.heap [] := va_S.rf
    have hP : va_P D vwCl [(r, .inr (2, [.int (nI o), .int (-1), .int (-1)]))] s.heap := hP
    have hl := lv_entry ([.ref r]) (n := 1) (Nat.le_of_ble_eq_true rfl)
    rw [lg_entry_eq]
    generalize (lg_sl ([.ref r]) ++ List.replicate (1 - (lg_sl ([.ref r])).length) Slot.unset).toArray = ls at hl ⊢
    have hl : lv_has ls 1 [(0, .ref r)] := hl
    refine lv_aload_n hx hb dX2_freePlace_0 rfl (lv_at hl 0 rfl) ?_
    refine va_get (D := D) (ci := 2) (v := .int (-1)) (C := RX2) (T := TX2) (N := 3) hx hb hts inX2 hown hK hP 0 rfl rfl 1 (by decide) (hts _ w_85) (fun _ h9 => h9) rfl dX2_freePlace_1 ?_
    refine lv_iconst (v := (-1)) hx hb dX2_freePlace_4 (by decide) ?_
    refine lv_icmp_ne (tgt := 10) hx hb dX2_freePlace_5 (by decide) (fun c5 => ?_) (fun c5 => ?_)
    · exact absurd rfl c5
    · refine lv_iconst (v := nI 0) hx hb dX2_freePlace_8 (by decide) ?_
      exact W.iret (v := nI 0) hx hb hr (fun t ht hW => ⟨_, rfl, rfl, ht⟩) (fun q h => by cases h) dX2_freePlace_9
  · show Met l yX2_freePlace wsX2_freePlace ({ frames := 0, cells := 0, slots := 0, locals := 0 }) (tb_Pr D ct [.ref r] [(r, .inr (2, [.int (nI o), .int (-1), .int (nI b)]))]) (vp_Si (fun r => r = nI (tFree none (some b)))) 0 0 (fun _ => False)
    refine Met.ofW (cc := cX2_freePlace) (maxL := 1) (ret := (some .int)) (by decide) rfl ?_
    intro p e s m args below meth c s₁ B hml hv
    obtain ⟨rfl, hP, hK, hZ⟩ := hv
    have hx := B.exec
    have hb := B.bytes
    have hr := B.returns
    have hts0 := atoms_spec (ws := wsX2_freePlace) B.pre
    have hts : ∀ w9 ∈ aw, w9.before ([.ref r] : List Value).toArray s = true := fun w9 h9 => hts0 w9 (List.mem_cons_of_mem _ h9)
    have hown : s.vm.findClass RX2 = some m.cls := findClass_of_methodNamed B.named
    have hlocks := B.notSynchronized
    have hS : va_S (fun _ => False) s.heap s.heap [] := va_S.rf
    have hP : va_P D vwCl [(r, .inr (2, [.int (nI o), .int (-1), .int (nI b)]))] s.heap := hP
    have hl := lv_entry ([.ref r]) (n := 1) (Nat.le_of_ble_eq_true rfl)
    rw [lg_entry_eq]
    generalize (lg_sl ([.ref r]) ++ List.replicate (1 - (lg_sl ([.ref r])).length) Slot.unset).toArray = ls at hl ⊢
    have hl : lv_has ls 1 [(0, .ref r)] := hl
    have hb9 := hb9 b rfl
    refine lv_aload_n hx hb dX2_freePlace_0 rfl (lv_at hl 0 rfl) ?_
    refine va_get (D := D) (ci := 2) (v := .int (-1)) (C := RX2) (T := TX2) (N := 3) hx hb hts inX2 hown hK hP 0 rfl rfl 1 (by decide) (hts _ w_85) (fun _ h9 => h9) rfl dX2_freePlace_1 ?_
    refine lv_iconst (v := (-1)) hx hb dX2_freePlace_4 (by decide) ?_
    refine lv_icmp_ne (tgt := 10) hx hb dX2_freePlace_5 (by decide) (fun c5 => ?_) (fun c5 => ?_)
    · exact absurd rfl c5
    · refine lv_iconst (v := nI 0) hx hb dX2_freePlace_8 (by decide) ?_
      exact W.iret (v := nI 0) hx hb hr (fun t ht hW => ⟨_, rfl, rfl, ht⟩) (fun q h => by cases h) dX2_freePlace_9
  · show Met l yX2_freePlace wsX2_freePlace ({ frames := 0, cells := 0, slots := 0, locals := 0 }) (tb_Pr D ct [.ref r] [(r, .inr (2, [.int (nI o), .int (nI a), .int (-1)]))]) (vp_Si (fun r => r = nI (tFree (some a) none))) 0 0 (fun _ => False)
    refine Met.ofW (cc := cX2_freePlace) (maxL := 1) (ret := (some .int)) (by decide) rfl ?_
    intro p e s m args below meth c s₁ B hml hv
    obtain ⟨rfl, hP, hK, hZ⟩ := hv
    have hx := B.exec
    have hb := B.bytes
    have hr := B.returns
    have hts0 := atoms_spec (ws := wsX2_freePlace) B.pre
    have hts : ∀ w9 ∈ aw, w9.before ([.ref r] : List Value).toArray s = true := fun w9 h9 => hts0 w9 (List.mem_cons_of_mem _ h9)
    have hown : s.vm.findClass RX2 = some m.cls := findClass_of_methodNamed B.named
    have hlocks := B.notSynchronized
    have hS : va_S (fun _ => False) s.heap s.heap [] := va_S.rf
    have hP : va_P D vwCl [(r, .inr (2, [.int (nI o), .int (nI a), .int (-1)]))] s.heap := hP
    have hl := lv_entry ([.ref r]) (n := 1) (Nat.le_of_ble_eq_true rfl)
    rw [lg_entry_eq]
    generalize (lg_sl ([.ref r]) ++ List.replicate (1 - (lg_sl ([.ref r])).length) Slot.unset).toArray = ls at hl ⊢
    have hl : lv_has ls 1 [(0, .ref r)] := hl
    have ha := ha a rfl
    refine lv_aload_n hx hb dX2_freePlace_0 rfl (lv_at hl 0 rfl) ?_
    refine va_get (D := D) (ci := 2) (v := .int (nI a)) (C := RX2) (T := TX2) (N := 3) hx hb hts inX2 hown hK hP 0 rfl rfl 1 (by decide) (hts _ w_85) (fun _ h9 => h9) rfl dX2_freePlace_1 ?_
    refine lv_iconst (v := (-1)) hx hb dX2_freePlace_4 (by decide) ?_
    refine lv_icmp_ne (tgt := 10) hx hb dX2_freePlace_5 (by decide) (fun c5 => ?_) (fun c5 => ?_)
    · refine lv_aload_n hx hb dX2_freePlace_10 rfl (lv_at hl 0 rfl) ?_
      refine va_get (D := D) (ci := 2) (v := .int (-1)) (C := RX2) (T := TX2) (N := 3) hx hb hts inX2 hown hK hP 0 rfl rfl 2 (by decide) (hts _ w_86) (fun _ h9 => h9) rfl dX2_freePlace_11 ?_
      refine lv_iconst (v := (-1)) hx hb dX2_freePlace_14 (by decide) ?_
      refine lv_icmp_ne (tgt := 22) hx hb dX2_freePlace_15 (by decide) (fun c15 => ?_) (fun c15 => ?_)
      · exact absurd rfl c15
      · refine lv_iconst (v := nI 1) hx hb dX2_freePlace_18 (by decide) ?_
        refine lv_goto (tgt := 23) hx hb dX2_freePlace_19 (by decide) ?_
        exact W.iret (v := nI 1) hx hb hr (fun t ht hW => ⟨_, rfl, rfl, ht⟩) (fun q h => by cases h) dX2_freePlace_23
    · exact absurd c5 (nI_nm1 (by omega))
  · show Met l yX2_freePlace wsX2_freePlace ({ frames := 0, cells := 0, slots := 0, locals := 0 }) (tb_Pr D ct [.ref r] [(r, .inr (2, [.int (nI o), .int (nI a), .int (nI b)]))]) (vp_Si (fun r => r = nI (tFree (some a) (some b)))) 0 0 (fun _ => False)
    refine Met.ofW (cc := cX2_freePlace) (maxL := 1) (ret := (some .int)) (by decide) rfl ?_
    intro p e s m args below meth c s₁ B hml hv
    obtain ⟨rfl, hP, hK, hZ⟩ := hv
    have hx := B.exec
    have hb := B.bytes
    have hr := B.returns
    have hts0 := atoms_spec (ws := wsX2_freePlace) B.pre
    have hts : ∀ w9 ∈ aw, w9.before ([.ref r] : List Value).toArray s = true := fun w9 h9 => hts0 w9 (List.mem_cons_of_mem _ h9)
    have hown : s.vm.findClass RX2 = some m.cls := findClass_of_methodNamed B.named
    have hlocks := B.notSynchronized
    have hS : va_S (fun _ => False) s.heap s.heap [] := va_S.rf
    have hP : va_P D vwCl [(r, .inr (2, [.int (nI o), .int (nI a), .int (nI b)]))] s.heap := hP
    have hl := lv_entry ([.ref r]) (n := 1) (Nat.le_of_ble_eq_true rfl)
    rw [lg_entry_eq]
    generalize (lg_sl ([.ref r]) ++ List.replicate (1 - (lg_sl ([.ref r])).length) Slot.unset).toArray = ls at hl ⊢
    have hl : lv_has ls 1 [(0, .ref r)] := hl
    have ha := ha a rfl
    have hb9 := hb9 b rfl
    refine lv_aload_n hx hb dX2_freePlace_0 rfl (lv_at hl 0 rfl) ?_
    refine va_get (D := D) (ci := 2) (v := .int (nI a)) (C := RX2) (T := TX2) (N := 3) hx hb hts inX2 hown hK hP 0 rfl rfl 1 (by decide) (hts _ w_85) (fun _ h9 => h9) rfl dX2_freePlace_1 ?_
    refine lv_iconst (v := (-1)) hx hb dX2_freePlace_4 (by decide) ?_
    refine lv_icmp_ne (tgt := 10) hx hb dX2_freePlace_5 (by decide) (fun c5 => ?_) (fun c5 => ?_)
    · refine lv_aload_n hx hb dX2_freePlace_10 rfl (lv_at hl 0 rfl) ?_
      refine va_get (D := D) (ci := 2) (v := .int (nI b)) (C := RX2) (T := TX2) (N := 3) hx hb hts inX2 hown hK hP 0 rfl rfl 2 (by decide) (hts _ w_86) (fun _ h9 => h9) rfl dX2_freePlace_11 ?_
      refine lv_iconst (v := (-1)) hx hb dX2_freePlace_14 (by decide) ?_
      refine lv_icmp_ne (tgt := 22) hx hb dX2_freePlace_15 (by decide) (fun c15 => ?_) (fun c15 => ?_)
      · refine lv_iconst (v := nI 2) hx hb dX2_freePlace_22 (by decide) ?_
        exact W.iret (v := nI 2) hx hb hr (fun t ht hW => ⟨_, rfl, rfl, ht⟩) (fun q h => by cases h) dX2_freePlace_23
      · exact absurd c15 (nI_nm1 (by omega))
    · exact absurd c5 (nI_nm1 (by omega))

set_option maxHeartbeats 4000000 in
set_option maxRecDepth 100000 in
theorem k_Range_lowestKey (l : Launch) (D : va_G) (ct : Nat → ClassId) (r : Nat) (o : Nat) (a : Option Nat) (b : Option Nat) (x : Nat) (ha : ∀ j, a = some j → j < 1000) (hb9 : ∀ j, b = some j → j < 1000) : Met l yX2_lowestKey wsX2_lowestKey ({ frames := 0, cells := 0, slots := 0, locals := 0 }) (tb_Pr D ct [.ref r, .int (nI x)] [(r, .inr (2, [.int (nI o), .int (oI a), .int (oI b)]))]) (vp_Si (fun r => r = nI (tLow a b x))) 0 0 (fun _ => False) := by
  rcases a with _ | a <;> rcases b with _ | b
  · show Met l yX2_lowestKey wsX2_lowestKey ({ frames := 0, cells := 0, slots := 0, locals := 0 }) (tb_Pr D ct [.ref r, .int (nI x)] [(r, .inr (2, [.int (nI o), .int (-1), .int (-1)]))]) (vp_Si (fun r => r = nI (tLow none none x))) 0 0 (fun _ => False)
    refine Met.ofW (cc := cX2_lowestKey) (maxL := 2) (ret := (some .int)) (by decide) rfl ?_
    intro p e s m args below meth c s₁ B hml hv
    obtain ⟨rfl, hP, hK, hZ⟩ := hv
    have hx := B.exec
    have hb := B.bytes
    have hr := B.returns
    have hts0 := atoms_spec (ws := wsX2_lowestKey) B.pre
    have hts : ∀ w9 ∈ aw, w9.before ([.ref r, .int (nI x)] : List Value).toArray s = true := fun w9 h9 => hts0 w9 (List.mem_cons_of_mem _ h9)
    have hown : s.vm.findClass RX2 = some m.cls := findClass_of_methodNamed B.named
    have hlocks := B.notSynchronized
    have hS : va_S (fun _ => False) s.heap s.heap [] := va_S.rf
    have hP : va_P D vwCl [(r, .inr (2, [.int (nI o), .int (-1), .int (-1)]))] s.heap := hP
    have hl := lv_entry ([.ref r, .int (nI x)]) (n := 2) (Nat.le_of_ble_eq_true rfl)
    rw [lg_entry_eq]
    generalize (lg_sl ([.ref r, .int (nI x)]) ++ List.replicate (2 - (lg_sl ([.ref r, .int (nI x)])).length) Slot.unset).toArray = ls at hl ⊢
    have hl : lv_has ls 2 [(0, .ref r), (1, .int (nI x))] := hl
    refine lv_aload_n hx hb dX2_lowestKey_0 rfl (lv_at hl 0 rfl) ?_
    refine va_get (D := D) (ci := 2) (v := .int (-1)) (C := RX2) (T := TX2) (N := 3) hx hb hts inX2 hown hK hP 0 rfl rfl 1 (by decide) (hts _ w_85) (fun _ h9 => h9) rfl dX2_lowestKey_1 ?_
    refine lv_iconst (v := (-1)) hx hb dX2_lowestKey_4 (by decide) ?_
    refine lv_icmp_ne (tgt := 13) hx hb dX2_lowestKey_5 (by decide) (fun c5 => ?_) (fun c5 => ?_)
    · exact absurd rfl c5
    · refine lv_iload_n hx hb dX2_lowestKey_8 rfl (lv_at hl 1 rfl) ?_
      refine lv_ldc (v := nI 1000000) hx hb hown (hts _ w_216) dX2_lowestKey_9 ?_
      refine tb_imul hx hb dX2_lowestKey_11 ?_
      exact W.iret (v := nI (x * 1000000)) hx hb hr (fun t ht hW => ⟨_, rfl, rfl, ht⟩) (fun q h => by cases h) dX2_lowestKey_12
  · show Met l yX2_lowestKey wsX2_lowestKey ({ frames := 0, cells := 0, slots := 0, locals := 0 }) (tb_Pr D ct [.ref r, .int (nI x)] [(r, .inr (2, [.int (nI o), .int (-1), .int (nI b)]))]) (vp_Si (fun r => r = nI (tLow none (some b) x))) 0 0 (fun _ => False)
    refine Met.ofW (cc := cX2_lowestKey) (maxL := 2) (ret := (some .int)) (by decide) rfl ?_
    intro p e s m args below meth c s₁ B hml hv
    obtain ⟨rfl, hP, hK, hZ⟩ := hv
    have hx := B.exec
    have hb := B.bytes
    have hr := B.returns
    have hts0 := atoms_spec (ws := wsX2_lowestKey) B.pre
    have hts : ∀ w9 ∈ aw, w9.before ([.ref r, .int (nI x)] : List Value).toArray s = true := fun w9 h9 => hts0 w9 (List.mem_cons_of_mem _ h9)
    have hown : s.vm.findClass RX2 = some m.cls := findClass_of_methodNamed B.named
    have hlocks := B.notSynchronized
    have hS : va_S (fun _ => False) s.heap s.heap [] := va_S.rf
    have hP : va_P D vwCl [(r, .inr (2, [.int (nI o), .int (-1), .int (nI b)]))] s.heap := hP
    have hl := lv_entry ([.ref r, .int (nI x)]) (n := 2) (Nat.le_of_ble_eq_true rfl)
    rw [lg_entry_eq]
    generalize (lg_sl ([.ref r, .int (nI x)]) ++ List.replicate (2 - (lg_sl ([.ref r, .int (nI x)])).length) Slot.unset).toArray = ls at hl ⊢
    have hl : lv_has ls 2 [(0, .ref r), (1, .int (nI x))] := hl
    have hb9 := hb9 b rfl
    refine lv_aload_n hx hb dX2_lowestKey_0 rfl (lv_at hl 0 rfl) ?_
    refine va_get (D := D) (ci := 2) (v := .int (-1)) (C := RX2) (T := TX2) (N := 3) hx hb hts inX2 hown hK hP 0 rfl rfl 1 (by decide) (hts _ w_85) (fun _ h9 => h9) rfl dX2_lowestKey_1 ?_
    refine lv_iconst (v := (-1)) hx hb dX2_lowestKey_4 (by decide) ?_
    refine lv_icmp_ne (tgt := 13) hx hb dX2_lowestKey_5 (by decide) (fun c5 => ?_) (fun c5 => ?_)
    · exact absurd rfl c5
    · refine lv_iload_n hx hb dX2_lowestKey_8 rfl (lv_at hl 1 rfl) ?_
      refine lv_ldc (v := nI 1000000) hx hb hown (hts _ w_216) dX2_lowestKey_9 ?_
      refine tb_imul hx hb dX2_lowestKey_11 ?_
      exact W.iret (v := nI (x * 1000000)) hx hb hr (fun t ht hW => ⟨_, rfl, rfl, ht⟩) (fun q h => by cases h) dX2_lowestKey_12
  · show Met l yX2_lowestKey wsX2_lowestKey ({ frames := 0, cells := 0, slots := 0, locals := 0 }) (tb_Pr D ct [.ref r, .int (nI x)] [(r, .inr (2, [.int (nI o), .int (nI a), .int (-1)]))]) (vp_Si (fun r => r = nI (tLow (some a) none x))) 0 0 (fun _ => False)
    refine Met.ofW (cc := cX2_lowestKey) (maxL := 2) (ret := (some .int)) (by decide) rfl ?_
    intro p e s m args below meth c s₁ B hml hv
    obtain ⟨rfl, hP, hK, hZ⟩ := hv
    have hx := B.exec
    have hb := B.bytes
    have hr := B.returns
    have hts0 := atoms_spec (ws := wsX2_lowestKey) B.pre
    have hts : ∀ w9 ∈ aw, w9.before ([.ref r, .int (nI x)] : List Value).toArray s = true := fun w9 h9 => hts0 w9 (List.mem_cons_of_mem _ h9)
    have hown : s.vm.findClass RX2 = some m.cls := findClass_of_methodNamed B.named
    have hlocks := B.notSynchronized
    have hS : va_S (fun _ => False) s.heap s.heap [] := va_S.rf
    have hP : va_P D vwCl [(r, .inr (2, [.int (nI o), .int (nI a), .int (-1)]))] s.heap := hP
    have hl := lv_entry ([.ref r, .int (nI x)]) (n := 2) (Nat.le_of_ble_eq_true rfl)
    rw [lg_entry_eq]
    generalize (lg_sl ([.ref r, .int (nI x)]) ++ List.replicate (2 - (lg_sl ([.ref r, .int (nI x)])).length) Slot.unset).toArray = ls at hl ⊢
    have hl : lv_has ls 2 [(0, .ref r), (1, .int (nI x))] := hl
    have ha := ha a rfl
    refine lv_aload_n hx hb dX2_lowestKey_0 rfl (lv_at hl 0 rfl) ?_
    refine va_get (D := D) (ci := 2) (v := .int (nI a)) (C := RX2) (T := TX2) (N := 3) hx hb hts inX2 hown hK hP 0 rfl rfl 1 (by decide) (hts _ w_85) (fun _ h9 => h9) rfl dX2_lowestKey_1 ?_
    refine lv_iconst (v := (-1)) hx hb dX2_lowestKey_4 (by decide) ?_
    refine lv_icmp_ne (tgt := 13) hx hb dX2_lowestKey_5 (by decide) (fun c5 => ?_) (fun c5 => ?_)
    · refine lv_aload_n hx hb dX2_lowestKey_13 rfl (lv_at hl 0 rfl) ?_
      refine va_get (D := D) (ci := 2) (v := .int (-1)) (C := RX2) (T := TX2) (N := 3) hx hb hts inX2 hown hK hP 0 rfl rfl 2 (by decide) (hts _ w_86) (fun _ h9 => h9) rfl dX2_lowestKey_14 ?_
      refine lv_iconst (v := (-1)) hx hb dX2_lowestKey_17 (by decide) ?_
      refine lv_icmp_ne (tgt := 35) hx hb dX2_lowestKey_18 (by decide) (fun c18 => ?_) (fun c18 => ?_)
      · exact absurd rfl c18
      · refine lv_aload_n hx hb dX2_lowestKey_21 rfl (lv_at hl 0 rfl) ?_
        refine va_get (D := D) (ci := 2) (v := .int (nI a)) (C := RX2) (T := TX2) (N := 3) hx hb hts inX2 hown hK hP 0 rfl rfl 1 (by decide) (hts _ w_85) (fun _ h9 => h9) rfl dX2_lowestKey_22 ?_
        refine lv_ldc (v := nI 1000000) hx hb hown (hts _ w_216) dX2_lowestKey_25 ?_
        refine tb_imul hx hb dX2_lowestKey_27 ?_
        refine lv_iload_n hx hb dX2_lowestKey_28 rfl (lv_at hl 1 rfl) ?_
        refine lv_sipush (v := nI 1000) hx hb dX2_lowestKey_29 (by decide) ?_
        refine tb_imul hx hb dX2_lowestKey_32 ?_
        refine tb_iadd hx hb dX2_lowestKey_33 ?_
        exact W.iret (v := nI ((a * 1000000) + (x * 1000))) hx hb hr (fun t ht hW => ⟨_, rfl, rfl, ht⟩) (fun q h => by cases h) dX2_lowestKey_34
    · exact absurd c5 (nI_nm1 (by omega))
  · show Met l yX2_lowestKey wsX2_lowestKey ({ frames := 0, cells := 0, slots := 0, locals := 0 }) (tb_Pr D ct [.ref r, .int (nI x)] [(r, .inr (2, [.int (nI o), .int (nI a), .int (nI b)]))]) (vp_Si (fun r => r = nI (tLow (some a) (some b) x))) 0 0 (fun _ => False)
    refine Met.ofW (cc := cX2_lowestKey) (maxL := 2) (ret := (some .int)) (by decide) rfl ?_
    intro p e s m args below meth c s₁ B hml hv
    obtain ⟨rfl, hP, hK, hZ⟩ := hv
    have hx := B.exec
    have hb := B.bytes
    have hr := B.returns
    have hts0 := atoms_spec (ws := wsX2_lowestKey) B.pre
    have hts : ∀ w9 ∈ aw, w9.before ([.ref r, .int (nI x)] : List Value).toArray s = true := fun w9 h9 => hts0 w9 (List.mem_cons_of_mem _ h9)
    have hown : s.vm.findClass RX2 = some m.cls := findClass_of_methodNamed B.named
    have hlocks := B.notSynchronized
    have hS : va_S (fun _ => False) s.heap s.heap [] := va_S.rf
    have hP : va_P D vwCl [(r, .inr (2, [.int (nI o), .int (nI a), .int (nI b)]))] s.heap := hP
    have hl := lv_entry ([.ref r, .int (nI x)]) (n := 2) (Nat.le_of_ble_eq_true rfl)
    rw [lg_entry_eq]
    generalize (lg_sl ([.ref r, .int (nI x)]) ++ List.replicate (2 - (lg_sl ([.ref r, .int (nI x)])).length) Slot.unset).toArray = ls at hl ⊢
    have hl : lv_has ls 2 [(0, .ref r), (1, .int (nI x))] := hl
    have ha := ha a rfl
    have hb9 := hb9 b rfl
    refine lv_aload_n hx hb dX2_lowestKey_0 rfl (lv_at hl 0 rfl) ?_
    refine va_get (D := D) (ci := 2) (v := .int (nI a)) (C := RX2) (T := TX2) (N := 3) hx hb hts inX2 hown hK hP 0 rfl rfl 1 (by decide) (hts _ w_85) (fun _ h9 => h9) rfl dX2_lowestKey_1 ?_
    refine lv_iconst (v := (-1)) hx hb dX2_lowestKey_4 (by decide) ?_
    refine lv_icmp_ne (tgt := 13) hx hb dX2_lowestKey_5 (by decide) (fun c5 => ?_) (fun c5 => ?_)
    · refine lv_aload_n hx hb dX2_lowestKey_13 rfl (lv_at hl 0 rfl) ?_
      refine va_get (D := D) (ci := 2) (v := .int (nI b)) (C := RX2) (T := TX2) (N := 3) hx hb hts inX2 hown hK hP 0 rfl rfl 2 (by decide) (hts _ w_86) (fun _ h9 => h9) rfl dX2_lowestKey_14 ?_
      refine lv_iconst (v := (-1)) hx hb dX2_lowestKey_17 (by decide) ?_
      refine lv_icmp_ne (tgt := 35) hx hb dX2_lowestKey_18 (by decide) (fun c18 => ?_) (fun c18 => ?_)
      · refine lv_aload_n hx hb dX2_lowestKey_35 rfl (lv_at hl 0 rfl) ?_
        refine va_get (D := D) (ci := 2) (v := .int (nI a)) (C := RX2) (T := TX2) (N := 3) hx hb hts inX2 hown hK hP 0 rfl rfl 1 (by decide) (hts _ w_85) (fun _ h9 => h9) rfl dX2_lowestKey_36 ?_
        refine lv_ldc (v := nI 1000000) hx hb hown (hts _ w_216) dX2_lowestKey_39 ?_
        refine tb_imul hx hb dX2_lowestKey_41 ?_
        refine lv_aload_n hx hb dX2_lowestKey_42 rfl (lv_at hl 0 rfl) ?_
        refine va_get (D := D) (ci := 2) (v := .int (nI b)) (C := RX2) (T := TX2) (N := 3) hx hb hts inX2 hown hK hP 0 rfl rfl 2 (by decide) (hts _ w_86) (fun _ h9 => h9) rfl dX2_lowestKey_43 ?_
        refine lv_sipush (v := nI 1000) hx hb dX2_lowestKey_46 (by decide) ?_
        refine tb_imul hx hb dX2_lowestKey_49 ?_
        refine tb_iadd hx hb dX2_lowestKey_50 ?_
        refine lv_iload_n hx hb dX2_lowestKey_51 rfl (lv_at hl 1 rfl) ?_
        refine tb_iadd hx hb dX2_lowestKey_52 ?_
        exact W.iret (v := nI (((a * 1000000) + (b * 1000)) + x)) hx hb hr (fun t ht hW => ⟨_, rfl, rfl, ht⟩) (fun q h => by cases h) dX2_lowestKey_53
      · exact absurd c18 (nI_nm1 (by omega))
    · exact absurd c5 (nI_nm1 (by omega))

set_option maxHeartbeats 4000000 in
set_option maxRecDepth 100000 in
theorem k_Range_covers (l : Launch) (D : va_G) (ct : Nat → ClassId) (r : Nat) (o : Nat) (a : Option Nat) (b : Option Nat) (g : Nat) (t : Nat) (a0 : Nat) (a1 : Nat) (a2 : Nat) (v : Nat) (w : Nat) (R : Nat) (n : Nat) (X : Nat → Nat) (Y : Nat → Nat) (Z : Nat → Nat) (V : Nat → Nat) (E : Nat → Nat) (now : Nat) (cu : Option Nat) (i : Nat) (ha : ∀ j, a = some j → j < 1000) (hb9 : ∀ j, b = some j → j < 1000) (hn : n ≤ R) (hR : R ≤ 400) (hi : i < n) (hX : ∀ j, X j < 1000) (hY : ∀ j, Y j < 1000) (hW : ∀ j, Z j < 1000) (ho : o < 6) : Met l yX2_covers wsX2_covers ({ frames := 2, cells := 0, slots := 0, locals := 44 }) (tb_Pr D ct [.ref r, .ref g, .int (nI i)] [(r, .inr (2, [.int (nI o), .int (oI a), .int (oI b)])), (g, .inr (0, [.ref t, .ref v, .ref w, .int (nI n), .int (nI now), .int (oI cu)])), (t, .inl (ct 1, 3, .inr (.inr (.inr (.inr (tb_3 a0 a1 a2)))))), (a0, .inl (ct 0, R, .inl (aN X))), (a1, .inl (ct 0, R, .inl (aN Y))), (a2, .inl (ct 0, R, .inl (aN Z))), (v, .inl (ct 0, R, .inl (aN V))), (w, .inl (ct 0, R, .inl (aN E)))]) (vp_Si (fun r => r = bB (decide (tCov a b (tPick (taF (o * 3 + 0)) (X i) (Y i) (Z i)) (tPick (taF (o * 3 + 1)) (X i) (Y i) (Z i)))))) 0 0 (fun _ => False) := by
  rcases a with _ | a <;> rcases b with _ | b
  · show Met l yX2_covers wsX2_covers ({ frames := 2, cells := 0, slots := 0, locals := 44 }) (tb_Pr D ct [.ref r, .ref g, .int (nI i)] [(r, .inr (2, [.int (nI o), .int (-1), .int (-1)])), (g, .inr (0, [.ref t, .ref v, .ref w, .int (nI n), .int (nI now), .int (oI cu)])), (t, .inl (ct 1, 3, .inr (.inr (.inr (.inr (tb_3 a0 a1 a2)))))), (a0, .inl (ct 0, R, .inl (aN X))), (a1, .inl (ct 0, R, .inl (aN Y))), (a2, .inl (ct 0, R, .inl (aN Z))), (v, .inl (ct 0, R, .inl (aN V))), (w, .inl (ct 0, R, .inl (aN E)))]) (vp_Si (fun r => r = bB (decide (tCov none none (tPick (taF (o * 3 + 0)) (X i) (Y i) (Z i)) (tPick (taF (o * 3 + 1)) (X i) (Y i) (Z i)))))) 0 0 (fun _ => False)
    refine Met.ofW (cc := cX2_covers) (maxL := 3) (ret := (some .boolean)) (by decide) rfl ?_
    intro p e s m args below meth c s₁ B hml hv
    obtain ⟨rfl, hP, hK, hZ⟩ := hv
    have hx := B.exec
    have hb := B.bytes
    have hr := B.returns
    have hts0 := atoms_spec (ws := wsX2_covers) B.pre
    have hts : ∀ w9 ∈ aw, w9.before ([.ref r, .ref g, .int (nI i)] : List Value).toArray s = true := fun w9 h9 => hts0 w9 (List.mem_cons_of_mem _ h9)
    have hown : s.vm.findClass RX2 = some m.cls := findClass_of_methodNamed B.named
    have hlocks := B.notSynchronized
    have hS : va_S (fun _ => False) s.heap s.heap [] := va_S.rf
    have hP : va_P D vwCl [(r, .inr (2, [.int (nI o), .int (-1), .int (-1)])), (g, .inr (0, [.ref t, .ref v, .ref w, .int (nI n), .int (nI now), .int (oI cu)])), (t, .inl (ct 1, 3, .inr (.inr (.inr (.inr (tb_3 a0 a1 a2)))))), (a0, .inl (ct 0, R, .inl (aN X))), (a1, .inl (ct 0, R, .inl (aN Y))), (a2, .inl (ct 0, R, .inl (aN Z))), (v, .inl (ct 0, R, .inl (aN V))), (w, .inl (ct 0, R, .inl (aN E)))] s.heap := hP
    have hl := lv_entry ([.ref r, .ref g, .int (nI i)]) (n := 3) (Nat.le_of_ble_eq_true rfl)
    rw [lg_entry_eq]
    generalize (lg_sl ([.ref r, .ref g, .int (nI i)]) ++ List.replicate (3 - (lg_sl ([.ref r, .ref g, .int (nI i)])).length) Slot.unset).toArray = ls at hl ⊢
    have hl : lv_has ls 3 [(0, .ref r), (1, .ref g), (2, .int (nI i))] := hl
    have t0 := tPick_lt (taF (o * 3 + 0)) (hX i) (hY i) (hW i)
    have t1 := tPick_lt (taF (o * 3 + 1)) (hX i) (hY i) (hW i)
    refine lv_aload_n hx hb dX2_covers_0 rfl (lv_at hl 0 rfl) ?_
    refine va_get (D := D) (ci := 2) (v := .int (-1)) (C := RX2) (T := TX2) (N := 3) hx hb hts inX2 hown hK hP 0 rfl rfl 1 (by decide) (hts _ w_85) (fun _ h9 => h9) rfl dX2_covers_1 ?_
    refine lv_iconst (v := (-1)) hx hb dX2_covers_4 (by decide) ?_
    refine lv_icmp_eq (tgt := 25) hx hb dX2_covers_5 (by decide) (fun c5 => ?_) (fun c5 => ?_)
    · refine lv_aload_n hx hb dX2_covers_25 rfl (lv_at hl 0 rfl) ?_
      refine va_get (D := D) (ci := 2) (v := .int (-1)) (C := RX2) (T := TX2) (N := 3) hx hb hts inX2 hown hK hP 0 rfl rfl 2 (by decide) (hts _ w_86) (fun _ h9 => h9) rfl dX2_covers_26 ?_
      refine lv_iconst (v := (-1)) hx hb dX2_covers_29 (by decide) ?_
      refine lv_icmp_eq (tgt := 50) hx hb dX2_covers_30 (by decide) (fun c30 => ?_) (fun c30 => ?_)
      · refine lv_iconst (v := nI 1) hx hb dX2_covers_50 (by decide) ?_
        refine lv_goto (tgt := 55) hx hb dX2_covers_51 (by decide) ?_
        exact W.zret (v := 1) hx hb hr (by decide) (fun t ht hW => ⟨_, rfl, (by first | exact bB_t ⟨Or.inl rfl, Or.inl rfl⟩ | exact bB_t ⟨Or.inl rfl, Or.inr (congrArg some c47.symm)⟩ | exact bB_t ⟨Or.inr (congrArg some c22.symm), Or.inl rfl⟩ | exact bB_t ⟨Or.inr (congrArg some c22.symm), Or.inr (congrArg some c47.symm)⟩ | exact bB_f (fun q => c22 (by rcases q.1 with q | q; cases q; exact (Option.some.inj q).symm)) | exact bB_f (fun q => c47 (by rcases q.2 with q | q; cases q; exact (Option.some.inj q).symm))), ht⟩) (fun q h => by cases h) dX2_covers_55
      · exact absurd rfl c30
    · exact absurd rfl c5
  · show Met l yX2_covers wsX2_covers ({ frames := 2, cells := 0, slots := 0, locals := 44 }) (tb_Pr D ct [.ref r, .ref g, .int (nI i)] [(r, .inr (2, [.int (nI o), .int (-1), .int (nI b)])), (g, .inr (0, [.ref t, .ref v, .ref w, .int (nI n), .int (nI now), .int (oI cu)])), (t, .inl (ct 1, 3, .inr (.inr (.inr (.inr (tb_3 a0 a1 a2)))))), (a0, .inl (ct 0, R, .inl (aN X))), (a1, .inl (ct 0, R, .inl (aN Y))), (a2, .inl (ct 0, R, .inl (aN Z))), (v, .inl (ct 0, R, .inl (aN V))), (w, .inl (ct 0, R, .inl (aN E)))]) (vp_Si (fun r => r = bB (decide (tCov none (some b) (tPick (taF (o * 3 + 0)) (X i) (Y i) (Z i)) (tPick (taF (o * 3 + 1)) (X i) (Y i) (Z i)))))) 0 0 (fun _ => False)
    refine Met.ofW (cc := cX2_covers) (maxL := 3) (ret := (some .boolean)) (by decide) rfl ?_
    intro p e s m args below meth c s₁ B hml hv
    obtain ⟨rfl, hP, hK, hZ⟩ := hv
    have hx := B.exec
    have hb := B.bytes
    have hr := B.returns
    have hts0 := atoms_spec (ws := wsX2_covers) B.pre
    have hts : ∀ w9 ∈ aw, w9.before ([.ref r, .ref g, .int (nI i)] : List Value).toArray s = true := fun w9 h9 => hts0 w9 (List.mem_cons_of_mem _ h9)
    have hown : s.vm.findClass RX2 = some m.cls := findClass_of_methodNamed B.named
    have hlocks := B.notSynchronized
    have hS : va_S (fun _ => False) s.heap s.heap [] := va_S.rf
    have hP : va_P D vwCl [(r, .inr (2, [.int (nI o), .int (-1), .int (nI b)])), (g, .inr (0, [.ref t, .ref v, .ref w, .int (nI n), .int (nI now), .int (oI cu)])), (t, .inl (ct 1, 3, .inr (.inr (.inr (.inr (tb_3 a0 a1 a2)))))), (a0, .inl (ct 0, R, .inl (aN X))), (a1, .inl (ct 0, R, .inl (aN Y))), (a2, .inl (ct 0, R, .inl (aN Z))), (v, .inl (ct 0, R, .inl (aN V))), (w, .inl (ct 0, R, .inl (aN E)))] s.heap := hP
    have hl := lv_entry ([.ref r, .ref g, .int (nI i)]) (n := 3) (Nat.le_of_ble_eq_true rfl)
    rw [lg_entry_eq]
    generalize (lg_sl ([.ref r, .ref g, .int (nI i)]) ++ List.replicate (3 - (lg_sl ([.ref r, .ref g, .int (nI i)])).length) Slot.unset).toArray = ls at hl ⊢
    have hl : lv_has ls 3 [(0, .ref r), (1, .ref g), (2, .int (nI i))] := hl
    have t0 := tPick_lt (taF (o * 3 + 0)) (hX i) (hY i) (hW i)
    have t1 := tPick_lt (taF (o * 3 + 1)) (hX i) (hY i) (hW i)
    have hb9 := hb9 b rfl
    refine lv_aload_n hx hb dX2_covers_0 rfl (lv_at hl 0 rfl) ?_
    refine va_get (D := D) (ci := 2) (v := .int (-1)) (C := RX2) (T := TX2) (N := 3) hx hb hts inX2 hown hK hP 0 rfl rfl 1 (by decide) (hts _ w_85) (fun _ h9 => h9) rfl dX2_covers_1 ?_
    refine lv_iconst (v := (-1)) hx hb dX2_covers_4 (by decide) ?_
    refine lv_icmp_eq (tgt := 25) hx hb dX2_covers_5 (by decide) (fun c5 => ?_) (fun c5 => ?_)
    · refine lv_aload_n hx hb dX2_covers_25 rfl (lv_at hl 0 rfl) ?_
      refine va_get (D := D) (ci := 2) (v := .int (nI b)) (C := RX2) (T := TX2) (N := 3) hx hb hts inX2 hown hK hP 0 rfl rfl 2 (by decide) (hts _ w_86) (fun _ h9 => h9) rfl dX2_covers_26 ?_
      refine lv_iconst (v := (-1)) hx hb dX2_covers_29 (by decide) ?_
      refine lv_icmp_eq (tgt := 50) hx hb dX2_covers_30 (by decide) (fun c30 => ?_) (fun c30 => ?_)
      · exact absurd c30 (nI_nm1 (by omega))
      · refine lv_aload_n hx hb dX2_covers_33 rfl (lv_at hl 1 rfl) ?_
        refine lv_aload_n hx hb dX2_covers_34 rfl (lv_at hl 0 rfl) ?_
        refine va_get (D := D) (ci := 2) (v := .int (nI o)) (C := RX2) (T := TX2) (N := 3) hx hb hts inX2 hown hK hP 0 rfl rfl 0 (by decide) (hts _ w_83) (fun _ h9 => h9) rfl dX2_covers_35 ?_
        refine lv_iconst (v := nI 1) hx hb dX2_covers_38 (by decide) ?_
        refine lv_iload_n hx hb dX2_covers_39 rfl (lv_at hl 2 rfl) ?_
        refine vp_callSi (va_Run.run (va_runV (As := [.int (nI o), .int (nI 1), .int (nI i)]) (rest := []) ⟨hx, hb, hml, hown, hts⟩ (k_Log_termAt l D ct g t a0 a1 a2 v w R n X Y Z V E now cu o 1 i hn hR hi ho (by omega)) (cwV 3 hts (gw_V (fun _ h => h) w_194 w_195 w_196 w_26 wcX0_termAt) rfl rfl rfl hvX0_termAt ⟨Nat.le_of_ble_eq_true rfl, Nat.le_of_ble_eq_true rfl⟩) (tb_prV hP hK hZ hS [1, 2, 3, 4, 5, 6, 7] rfl (ci := 0) (q0 := 0) rfl rfl) rfl rfl hl.1 rfl (lv_room (Nat.le_of_ble_eq_true rfl)) dX2_covers_40 ⟨Nat.zero_le _, Nat.zero_le _⟩)) (fun r_40 hr_40 => ?_)
        obtain rfl : r_40 = nI (tPick (taF (o * 3 + 1)) (X i) (Y i) (Z i)) := hr_40
        refine lv_aload_n hx hb dX2_covers_43 rfl (lv_at hl 0 rfl) ?_
        refine va_get (D := D) (ci := 2) (v := .int (nI b)) (C := RX2) (T := TX2) (N := 3) hx hb hts inX2 hown hK hP 0 rfl rfl 2 (by decide) (hts _ w_86) (fun _ h9 => h9) rfl dX2_covers_44 ?_
        refine tb_icmp_ne (tgt := 54) hx hb dX2_covers_47 (by decide) (by omega) (by omega) (fun c47 => ?_) (fun c47 => ?_)
        · refine lv_iconst (v := nI 0) hx hb dX2_covers_54 (by decide) ?_
          exact W.zret (v := 0) hx hb hr (by decide) (fun t ht hW => ⟨_, rfl, (by first | exact bB_t ⟨Or.inl rfl, Or.inl rfl⟩ | exact bB_t ⟨Or.inl rfl, Or.inr (congrArg some c47.symm)⟩ | exact bB_t ⟨Or.inr (congrArg some c22.symm), Or.inl rfl⟩ | exact bB_t ⟨Or.inr (congrArg some c22.symm), Or.inr (congrArg some c47.symm)⟩ | exact bB_f (fun q => c22 (by rcases q.1 with q | q; cases q; exact (Option.some.inj q).symm)) | exact bB_f (fun q => c47 (by rcases q.2 with q | q; cases q; exact (Option.some.inj q).symm))), ht⟩) (fun q h => by cases h) dX2_covers_55
        · refine lv_iconst (v := nI 1) hx hb dX2_covers_50 (by decide) ?_
          refine lv_goto (tgt := 55) hx hb dX2_covers_51 (by decide) ?_
          exact W.zret (v := 1) hx hb hr (by decide) (fun t ht hW => ⟨_, rfl, (by first | exact bB_t ⟨Or.inl rfl, Or.inl rfl⟩ | exact bB_t ⟨Or.inl rfl, Or.inr (congrArg some c47.symm)⟩ | exact bB_t ⟨Or.inr (congrArg some c22.symm), Or.inl rfl⟩ | exact bB_t ⟨Or.inr (congrArg some c22.symm), Or.inr (congrArg some c47.symm)⟩ | exact bB_f (fun q => c22 (by rcases q.1 with q | q; cases q; exact (Option.some.inj q).symm)) | exact bB_f (fun q => c47 (by rcases q.2 with q | q; cases q; exact (Option.some.inj q).symm))), ht⟩) (fun q h => by cases h) dX2_covers_55
    · exact absurd rfl c5
  · show Met l yX2_covers wsX2_covers ({ frames := 2, cells := 0, slots := 0, locals := 44 }) (tb_Pr D ct [.ref r, .ref g, .int (nI i)] [(r, .inr (2, [.int (nI o), .int (nI a), .int (-1)])), (g, .inr (0, [.ref t, .ref v, .ref w, .int (nI n), .int (nI now), .int (oI cu)])), (t, .inl (ct 1, 3, .inr (.inr (.inr (.inr (tb_3 a0 a1 a2)))))), (a0, .inl (ct 0, R, .inl (aN X))), (a1, .inl (ct 0, R, .inl (aN Y))), (a2, .inl (ct 0, R, .inl (aN Z))), (v, .inl (ct 0, R, .inl (aN V))), (w, .inl (ct 0, R, .inl (aN E)))]) (vp_Si (fun r => r = bB (decide (tCov (some a) none (tPick (taF (o * 3 + 0)) (X i) (Y i) (Z i)) (tPick (taF (o * 3 + 1)) (X i) (Y i) (Z i)))))) 0 0 (fun _ => False)
    refine Met.ofW (cc := cX2_covers) (maxL := 3) (ret := (some .boolean)) (by decide) rfl ?_
    intro p e s m args below meth c s₁ B hml hv
    obtain ⟨rfl, hP, hK, hZ⟩ := hv
    have hx := B.exec
    have hb := B.bytes
    have hr := B.returns
    have hts0 := atoms_spec (ws := wsX2_covers) B.pre
    have hts : ∀ w9 ∈ aw, w9.before ([.ref r, .ref g, .int (nI i)] : List Value).toArray s = true := fun w9 h9 => hts0 w9 (List.mem_cons_of_mem _ h9)
    have hown : s.vm.findClass RX2 = some m.cls := findClass_of_methodNamed B.named
    have hlocks := B.notSynchronized
    have hS : va_S (fun _ => False) s.heap s.heap [] := va_S.rf
    have hP : va_P D vwCl [(r, .inr (2, [.int (nI o), .int (nI a), .int (-1)])), (g, .inr (0, [.ref t, .ref v, .ref w, .int (nI n), .int (nI now), .int (oI cu)])), (t, .inl (ct 1, 3, .inr (.inr (.inr (.inr (tb_3 a0 a1 a2)))))), (a0, .inl (ct 0, R, .inl (aN X))), (a1, .inl (ct 0, R, .inl (aN Y))), (a2, .inl (ct 0, R, .inl (aN Z))), (v, .inl (ct 0, R, .inl (aN V))), (w, .inl (ct 0, R, .inl (aN E)))] s.heap := hP
    have hl := lv_entry ([.ref r, .ref g, .int (nI i)]) (n := 3) (Nat.le_of_ble_eq_true rfl)
    rw [lg_entry_eq]
    generalize (lg_sl ([.ref r, .ref g, .int (nI i)]) ++ List.replicate (3 - (lg_sl ([.ref r, .ref g, .int (nI i)])).length) Slot.unset).toArray = ls at hl ⊢
    have hl : lv_has ls 3 [(0, .ref r), (1, .ref g), (2, .int (nI i))] := hl
    have t0 := tPick_lt (taF (o * 3 + 0)) (hX i) (hY i) (hW i)
    have t1 := tPick_lt (taF (o * 3 + 1)) (hX i) (hY i) (hW i)
    have ha := ha a rfl
    refine lv_aload_n hx hb dX2_covers_0 rfl (lv_at hl 0 rfl) ?_
    refine va_get (D := D) (ci := 2) (v := .int (nI a)) (C := RX2) (T := TX2) (N := 3) hx hb hts inX2 hown hK hP 0 rfl rfl 1 (by decide) (hts _ w_85) (fun _ h9 => h9) rfl dX2_covers_1 ?_
    refine lv_iconst (v := (-1)) hx hb dX2_covers_4 (by decide) ?_
    refine lv_icmp_eq (tgt := 25) hx hb dX2_covers_5 (by decide) (fun c5 => ?_) (fun c5 => ?_)
    · exact absurd c5 (nI_nm1 (by omega))
    · refine lv_aload_n hx hb dX2_covers_8 rfl (lv_at hl 1 rfl) ?_
      refine lv_aload_n hx hb dX2_covers_9 rfl (lv_at hl 0 rfl) ?_
      refine va_get (D := D) (ci := 2) (v := .int (nI o)) (C := RX2) (T := TX2) (N := 3) hx hb hts inX2 hown hK hP 0 rfl rfl 0 (by decide) (hts _ w_83) (fun _ h9 => h9) rfl dX2_covers_10 ?_
      refine lv_iconst (v := nI 0) hx hb dX2_covers_13 (by decide) ?_
      refine lv_iload_n hx hb dX2_covers_14 rfl (lv_at hl 2 rfl) ?_
      refine vp_callSi (va_Run.run (va_runV (As := [.int (nI o), .int (nI 0), .int (nI i)]) (rest := []) ⟨hx, hb, hml, hown, hts⟩ (k_Log_termAt l D ct g t a0 a1 a2 v w R n X Y Z V E now cu o 0 i hn hR hi ho (by omega)) (cwV 3 hts (gw_V (fun _ h => h) w_194 w_195 w_196 w_26 wcX0_termAt) rfl rfl rfl hvX0_termAt ⟨Nat.le_of_ble_eq_true rfl, Nat.le_of_ble_eq_true rfl⟩) (tb_prV hP hK hZ hS [1, 2, 3, 4, 5, 6, 7] rfl (ci := 0) (q0 := 0) rfl rfl) rfl rfl hl.1 rfl (lv_room (Nat.le_of_ble_eq_true rfl)) dX2_covers_15 ⟨Nat.zero_le _, Nat.zero_le _⟩)) (fun r_15 hr_15 => ?_)
      obtain rfl : r_15 = nI (tPick (taF (o * 3 + 0)) (X i) (Y i) (Z i)) := hr_15
      refine lv_aload_n hx hb dX2_covers_18 rfl (lv_at hl 0 rfl) ?_
      refine va_get (D := D) (ci := 2) (v := .int (nI a)) (C := RX2) (T := TX2) (N := 3) hx hb hts inX2 hown hK hP 0 rfl rfl 1 (by decide) (hts _ w_85) (fun _ h9 => h9) rfl dX2_covers_19 ?_
      refine tb_icmp_ne (tgt := 54) hx hb dX2_covers_22 (by decide) (by omega) (by omega) (fun c22 => ?_) (fun c22 => ?_)
      · refine lv_iconst (v := nI 0) hx hb dX2_covers_54 (by decide) ?_
        exact W.zret (v := 0) hx hb hr (by decide) (fun t ht hW => ⟨_, rfl, (by first | exact bB_t ⟨Or.inl rfl, Or.inl rfl⟩ | exact bB_t ⟨Or.inl rfl, Or.inr (congrArg some c47.symm)⟩ | exact bB_t ⟨Or.inr (congrArg some c22.symm), Or.inl rfl⟩ | exact bB_t ⟨Or.inr (congrArg some c22.symm), Or.inr (congrArg some c47.symm)⟩ | exact bB_f (fun q => c22 (by rcases q.1 with q | q; cases q; exact (Option.some.inj q).symm)) | exact bB_f (fun q => c47 (by rcases q.2 with q | q; cases q; exact (Option.some.inj q).symm))), ht⟩) (fun q h => by cases h) dX2_covers_55
      · refine lv_aload_n hx hb dX2_covers_25 rfl (lv_at hl 0 rfl) ?_
        refine va_get (D := D) (ci := 2) (v := .int (-1)) (C := RX2) (T := TX2) (N := 3) hx hb hts inX2 hown hK hP 0 rfl rfl 2 (by decide) (hts _ w_86) (fun _ h9 => h9) rfl dX2_covers_26 ?_
        refine lv_iconst (v := (-1)) hx hb dX2_covers_29 (by decide) ?_
        refine lv_icmp_eq (tgt := 50) hx hb dX2_covers_30 (by decide) (fun c30 => ?_) (fun c30 => ?_)
        · refine lv_iconst (v := nI 1) hx hb dX2_covers_50 (by decide) ?_
          refine lv_goto (tgt := 55) hx hb dX2_covers_51 (by decide) ?_
          exact W.zret (v := 1) hx hb hr (by decide) (fun t ht hW => ⟨_, rfl, (by first | exact bB_t ⟨Or.inl rfl, Or.inl rfl⟩ | exact bB_t ⟨Or.inl rfl, Or.inr (congrArg some c47.symm)⟩ | exact bB_t ⟨Or.inr (congrArg some c22.symm), Or.inl rfl⟩ | exact bB_t ⟨Or.inr (congrArg some c22.symm), Or.inr (congrArg some c47.symm)⟩ | exact bB_f (fun q => c22 (by rcases q.1 with q | q; cases q; exact (Option.some.inj q).symm)) | exact bB_f (fun q => c47 (by rcases q.2 with q | q; cases q; exact (Option.some.inj q).symm))), ht⟩) (fun q h => by cases h) dX2_covers_55
        · exact absurd rfl c30
  · show Met l yX2_covers wsX2_covers ({ frames := 2, cells := 0, slots := 0, locals := 44 }) (tb_Pr D ct [.ref r, .ref g, .int (nI i)] [(r, .inr (2, [.int (nI o), .int (nI a), .int (nI b)])), (g, .inr (0, [.ref t, .ref v, .ref w, .int (nI n), .int (nI now), .int (oI cu)])), (t, .inl (ct 1, 3, .inr (.inr (.inr (.inr (tb_3 a0 a1 a2)))))), (a0, .inl (ct 0, R, .inl (aN X))), (a1, .inl (ct 0, R, .inl (aN Y))), (a2, .inl (ct 0, R, .inl (aN Z))), (v, .inl (ct 0, R, .inl (aN V))), (w, .inl (ct 0, R, .inl (aN E)))]) (vp_Si (fun r => r = bB (decide (tCov (some a) (some b) (tPick (taF (o * 3 + 0)) (X i) (Y i) (Z i)) (tPick (taF (o * 3 + 1)) (X i) (Y i) (Z i)))))) 0 0 (fun _ => False)
    refine Met.ofW (cc := cX2_covers) (maxL := 3) (ret := (some .boolean)) (by decide) rfl ?_
    intro p e s m args below meth c s₁ B hml hv
    obtain ⟨rfl, hP, hK, hZ⟩ := hv
    have hx := B.exec
    have hb := B.bytes
    have hr := B.returns
    have hts0 := atoms_spec (ws := wsX2_covers) B.pre
    have hts : ∀ w9 ∈ aw, w9.before ([.ref r, .ref g, .int (nI i)] : List Value).toArray s = true := fun w9 h9 => hts0 w9 (List.mem_cons_of_mem _ h9)
    have hown : s.vm.findClass RX2 = some m.cls := findClass_of_methodNamed B.named
    have hlocks := B.notSynchronized
    have hS : va_S (fun _ => False) s.heap s.heap [] := va_S.rf
    have hP : va_P D vwCl [(r, .inr (2, [.int (nI o), .int (nI a), .int (nI b)])), (g, .inr (0, [.ref t, .ref v, .ref w, .int (nI n), .int (nI now), .int (oI cu)])), (t, .inl (ct 1, 3, .inr (.inr (.inr (.inr (tb_3 a0 a1 a2)))))), (a0, .inl (ct 0, R, .inl (aN X))), (a1, .inl (ct 0, R, .inl (aN Y))), (a2, .inl (ct 0, R, .inl (aN Z))), (v, .inl (ct 0, R, .inl (aN V))), (w, .inl (ct 0, R, .inl (aN E)))] s.heap := hP
    have hl := lv_entry ([.ref r, .ref g, .int (nI i)]) (n := 3) (Nat.le_of_ble_eq_true rfl)
    rw [lg_entry_eq]
    generalize (lg_sl ([.ref r, .ref g, .int (nI i)]) ++ List.replicate (3 - (lg_sl ([.ref r, .ref g, .int (nI i)])).length) Slot.unset).toArray = ls at hl ⊢
    have hl : lv_has ls 3 [(0, .ref r), (1, .ref g), (2, .int (nI i))] := hl
    have t0 := tPick_lt (taF (o * 3 + 0)) (hX i) (hY i) (hW i)
    have t1 := tPick_lt (taF (o * 3 + 1)) (hX i) (hY i) (hW i)
    have ha := ha a rfl
    have hb9 := hb9 b rfl
    refine lv_aload_n hx hb dX2_covers_0 rfl (lv_at hl 0 rfl) ?_
    refine va_get (D := D) (ci := 2) (v := .int (nI a)) (C := RX2) (T := TX2) (N := 3) hx hb hts inX2 hown hK hP 0 rfl rfl 1 (by decide) (hts _ w_85) (fun _ h9 => h9) rfl dX2_covers_1 ?_
    refine lv_iconst (v := (-1)) hx hb dX2_covers_4 (by decide) ?_
    refine lv_icmp_eq (tgt := 25) hx hb dX2_covers_5 (by decide) (fun c5 => ?_) (fun c5 => ?_)
    · exact absurd c5 (nI_nm1 (by omega))
    · refine lv_aload_n hx hb dX2_covers_8 rfl (lv_at hl 1 rfl) ?_
      refine lv_aload_n hx hb dX2_covers_9 rfl (lv_at hl 0 rfl) ?_
      refine va_get (D := D) (ci := 2) (v := .int (nI o)) (C := RX2) (T := TX2) (N := 3) hx hb hts inX2 hown hK hP 0 rfl rfl 0 (by decide) (hts _ w_83) (fun _ h9 => h9) rfl dX2_covers_10 ?_
      refine lv_iconst (v := nI 0) hx hb dX2_covers_13 (by decide) ?_
      refine lv_iload_n hx hb dX2_covers_14 rfl (lv_at hl 2 rfl) ?_
      refine vp_callSi (va_Run.run (va_runV (As := [.int (nI o), .int (nI 0), .int (nI i)]) (rest := []) ⟨hx, hb, hml, hown, hts⟩ (k_Log_termAt l D ct g t a0 a1 a2 v w R n X Y Z V E now cu o 0 i hn hR hi ho (by omega)) (cwV 3 hts (gw_V (fun _ h => h) w_194 w_195 w_196 w_26 wcX0_termAt) rfl rfl rfl hvX0_termAt ⟨Nat.le_of_ble_eq_true rfl, Nat.le_of_ble_eq_true rfl⟩) (tb_prV hP hK hZ hS [1, 2, 3, 4, 5, 6, 7] rfl (ci := 0) (q0 := 0) rfl rfl) rfl rfl hl.1 rfl (lv_room (Nat.le_of_ble_eq_true rfl)) dX2_covers_15 ⟨Nat.zero_le _, Nat.zero_le _⟩)) (fun r_15 hr_15 => ?_)
      obtain rfl : r_15 = nI (tPick (taF (o * 3 + 0)) (X i) (Y i) (Z i)) := hr_15
      refine lv_aload_n hx hb dX2_covers_18 rfl (lv_at hl 0 rfl) ?_
      refine va_get (D := D) (ci := 2) (v := .int (nI a)) (C := RX2) (T := TX2) (N := 3) hx hb hts inX2 hown hK hP 0 rfl rfl 1 (by decide) (hts _ w_85) (fun _ h9 => h9) rfl dX2_covers_19 ?_
      refine tb_icmp_ne (tgt := 54) hx hb dX2_covers_22 (by decide) (by omega) (by omega) (fun c22 => ?_) (fun c22 => ?_)
      · refine lv_iconst (v := nI 0) hx hb dX2_covers_54 (by decide) ?_
        exact W.zret (v := 0) hx hb hr (by decide) (fun t ht hW => ⟨_, rfl, (by first | exact bB_t ⟨Or.inl rfl, Or.inl rfl⟩ | exact bB_t ⟨Or.inl rfl, Or.inr (congrArg some c47.symm)⟩ | exact bB_t ⟨Or.inr (congrArg some c22.symm), Or.inl rfl⟩ | exact bB_t ⟨Or.inr (congrArg some c22.symm), Or.inr (congrArg some c47.symm)⟩ | exact bB_f (fun q => c22 (by rcases q.1 with q | q; cases q; exact (Option.some.inj q).symm)) | exact bB_f (fun q => c47 (by rcases q.2 with q | q; cases q; exact (Option.some.inj q).symm))), ht⟩) (fun q h => by cases h) dX2_covers_55
      · refine lv_aload_n hx hb dX2_covers_25 rfl (lv_at hl 0 rfl) ?_
        refine va_get (D := D) (ci := 2) (v := .int (nI b)) (C := RX2) (T := TX2) (N := 3) hx hb hts inX2 hown hK hP 0 rfl rfl 2 (by decide) (hts _ w_86) (fun _ h9 => h9) rfl dX2_covers_26 ?_
        refine lv_iconst (v := (-1)) hx hb dX2_covers_29 (by decide) ?_
        refine lv_icmp_eq (tgt := 50) hx hb dX2_covers_30 (by decide) (fun c30 => ?_) (fun c30 => ?_)
        · exact absurd c30 (nI_nm1 (by omega))
        · refine lv_aload_n hx hb dX2_covers_33 rfl (lv_at hl 1 rfl) ?_
          refine lv_aload_n hx hb dX2_covers_34 rfl (lv_at hl 0 rfl) ?_
          refine va_get (D := D) (ci := 2) (v := .int (nI o)) (C := RX2) (T := TX2) (N := 3) hx hb hts inX2 hown hK hP 0 rfl rfl 0 (by decide) (hts _ w_83) (fun _ h9 => h9) rfl dX2_covers_35 ?_
          refine lv_iconst (v := nI 1) hx hb dX2_covers_38 (by decide) ?_
          refine lv_iload_n hx hb dX2_covers_39 rfl (lv_at hl 2 rfl) ?_
          refine vp_callSi (va_Run.run (va_runV (As := [.int (nI o), .int (nI 1), .int (nI i)]) (rest := []) ⟨hx, hb, hml, hown, hts⟩ (k_Log_termAt l D ct g t a0 a1 a2 v w R n X Y Z V E now cu o 1 i hn hR hi ho (by omega)) (cwV 3 hts (gw_V (fun _ h => h) w_194 w_195 w_196 w_26 wcX0_termAt) rfl rfl rfl hvX0_termAt ⟨Nat.le_of_ble_eq_true rfl, Nat.le_of_ble_eq_true rfl⟩) (tb_prV hP hK hZ hS [1, 2, 3, 4, 5, 6, 7] rfl (ci := 0) (q0 := 0) rfl rfl) rfl rfl hl.1 rfl (lv_room (Nat.le_of_ble_eq_true rfl)) dX2_covers_40 ⟨Nat.zero_le _, Nat.zero_le _⟩)) (fun r_40 hr_40 => ?_)
          obtain rfl : r_40 = nI (tPick (taF (o * 3 + 1)) (X i) (Y i) (Z i)) := hr_40
          refine lv_aload_n hx hb dX2_covers_43 rfl (lv_at hl 0 rfl) ?_
          refine va_get (D := D) (ci := 2) (v := .int (nI b)) (C := RX2) (T := TX2) (N := 3) hx hb hts inX2 hown hK hP 0 rfl rfl 2 (by decide) (hts _ w_86) (fun _ h9 => h9) rfl dX2_covers_44 ?_
          refine tb_icmp_ne (tgt := 54) hx hb dX2_covers_47 (by decide) (by omega) (by omega) (fun c47 => ?_) (fun c47 => ?_)
          · refine lv_iconst (v := nI 0) hx hb dX2_covers_54 (by decide) ?_
            exact W.zret (v := 0) hx hb hr (by decide) (fun t ht hW => ⟨_, rfl, (by first | exact bB_t ⟨Or.inl rfl, Or.inl rfl⟩ | exact bB_t ⟨Or.inl rfl, Or.inr (congrArg some c47.symm)⟩ | exact bB_t ⟨Or.inr (congrArg some c22.symm), Or.inl rfl⟩ | exact bB_t ⟨Or.inr (congrArg some c22.symm), Or.inr (congrArg some c47.symm)⟩ | exact bB_f (fun q => c22 (by rcases q.1 with q | q; cases q; exact (Option.some.inj q).symm)) | exact bB_f (fun q => c47 (by rcases q.2 with q | q; cases q; exact (Option.some.inj q).symm))), ht⟩) (fun q h => by cases h) dX2_covers_55
          · refine lv_iconst (v := nI 1) hx hb dX2_covers_50 (by decide) ?_
            refine lv_goto (tgt := 55) hx hb dX2_covers_51 (by decide) ?_
            exact W.zret (v := 1) hx hb hr (by decide) (fun t ht hW => ⟨_, rfl, (by first | exact bB_t ⟨Or.inl rfl, Or.inl rfl⟩ | exact bB_t ⟨Or.inl rfl, Or.inr (congrArg some c47.symm)⟩ | exact bB_t ⟨Or.inr (congrArg some c22.symm), Or.inl rfl⟩ | exact bB_t ⟨Or.inr (congrArg some c22.symm), Or.inr (congrArg some c47.symm)⟩ | exact bB_f (fun q => c22 (by rcases q.1 with q | q; cases q; exact (Option.some.inj q).symm)) | exact bB_f (fun q => c47 (by rcases q.2 with q | q; cases q; exact (Option.some.inj q).symm))), ht⟩) (fun q h => by cases h) dX2_covers_55
