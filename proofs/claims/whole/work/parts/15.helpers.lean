set_option maxHeartbeats 4000000 in
set_option maxRecDepth 100000 in
theorem k_isOrder (l : Launch) (D : va_G) (ct : Nat → ClassId) (x : Int32) : Met l yX4_isOrder wsX4_isOrder ({ frames := 0, cells := 0, slots := 0, locals := 0 }) (tb_Pr D ct [.int x] []) (vp_Si (fun r => r = bB (decide (tRng x 6)))) 0 0 (fun _ => False) := by
  refine Met.ofW (cc := cX4_isOrder) (maxL := 1) (ret := (some .boolean)) (by decide) rfl ?_
  intro p e s m args below meth c s₁ B hml hv
  obtain ⟨rfl, hP, hK, hZ⟩ := hv
  have hx := B.exec
  have hb := B.bytes
  have hr := B.returns
  have hts0 := atoms_spec (ws := wsX4_isOrder) B.pre
  have hts : ∀ w9 ∈ aw, w9.before ([.int x] : List Value).toArray s = true := fun w9 h9 => hts0 w9 (List.mem_cons_of_mem _ h9)
  have hown : s.vm.findClass RX4 = some m.cls := findClass_of_methodNamed B.named
  have hlocks := B.notSynchronized
  have hS : va_S (fun _ => False) s.heap s.heap [] := va_S.rf
  have hP : va_P D vwCl [] s.heap := hP
  have hl := lv_entry ([.int x]) (n := 1) (Nat.le_of_ble_eq_true rfl)
  rw [lg_entry_eq]
  generalize (lg_sl ([.int x]) ++ List.replicate (1 - (lg_sl ([.int x])).length) Slot.unset).toArray = ls at hl ⊢
  have hl : lv_has ls 1 [(0, .int x)] := hl
  refine lv_iload_n hx hb dX4_isOrder_0 rfl (lv_at hl 0 rfl) ?_
  refine lv_if_lt (tgt := 14) hx hb dX4_isOrder_1 (by decide) (fun c1 => ?_) (fun c1 => ?_)
  · refine lv_iconst (v := nI 0) hx hb dX4_isOrder_14 (by decide) ?_
    exact W.zret (v := 0) hx hb hr (by decide) (fun t ht hW => ⟨_, rfl, (by first | exact bB_t (tRng_of (by decide) c1 c7) | exact bB_f (tRng_neg c1) | exact bB_f (tRng_big (by decide) c7)), ht⟩) (fun q h => by cases h) dX4_isOrder_15
  · refine lv_iload_n hx hb dX4_isOrder_4 rfl (lv_at hl 0 rfl) ?_
    refine lv_bipush (v := nI 6) hx hb dX4_isOrder_5 (by decide) ?_
    refine lv_icmp_ge (tgt := 14) hx hb dX4_isOrder_7 (by decide) (fun c7 => ?_) (fun c7 => ?_)
    · refine lv_iconst (v := nI 0) hx hb dX4_isOrder_14 (by decide) ?_
      exact W.zret (v := 0) hx hb hr (by decide) (fun t ht hW => ⟨_, rfl, (by first | exact bB_t (tRng_of (by decide) c1 c7) | exact bB_f (tRng_neg c1) | exact bB_f (tRng_big (by decide) c7)), ht⟩) (fun q h => by cases h) dX4_isOrder_15
    · refine lv_iconst (v := nI 1) hx hb dX4_isOrder_10 (by decide) ?_
      refine lv_goto (tgt := 15) hx hb dX4_isOrder_11 (by decide) ?_
      exact W.zret (v := 1) hx hb hr (by decide) (fun t ht hW => ⟨_, rfl, (by first | exact bB_t (tRng_of (by decide) c1 c7) | exact bB_f (tRng_neg c1) | exact bB_f (tRng_big (by decide) c7)), ht⟩) (fun q h => by cases h) dX4_isOrder_15

set_option maxHeartbeats 4000000 in
set_option maxRecDepth 100000 in
theorem k_isTerm (l : Launch) (D : va_G) (ct : Nat → ClassId) (x : Int32) : Met l yX4_isTerm wsX4_isTerm ({ frames := 0, cells := 0, slots := 0, locals := 0 }) (tb_Pr D ct [.int x] []) (vp_Si (fun r => r = bB (decide (tRng x 1000)))) 0 0 (fun _ => False) := by
  refine Met.ofW (cc := cX4_isTerm) (maxL := 1) (ret := (some .boolean)) (by decide) rfl ?_
  intro p e s m args below meth c s₁ B hml hv
  obtain ⟨rfl, hP, hK, hZ⟩ := hv
  have hx := B.exec
  have hb := B.bytes
  have hr := B.returns
  have hts0 := atoms_spec (ws := wsX4_isTerm) B.pre
  have hts : ∀ w9 ∈ aw, w9.before ([.int x] : List Value).toArray s = true := fun w9 h9 => hts0 w9 (List.mem_cons_of_mem _ h9)
  have hown : s.vm.findClass RX4 = some m.cls := findClass_of_methodNamed B.named
  have hlocks := B.notSynchronized
  have hS : va_S (fun _ => False) s.heap s.heap [] := va_S.rf
  have hP : va_P D vwCl [] s.heap := hP
  have hl := lv_entry ([.int x]) (n := 1) (Nat.le_of_ble_eq_true rfl)
  rw [lg_entry_eq]
  generalize (lg_sl ([.int x]) ++ List.replicate (1 - (lg_sl ([.int x])).length) Slot.unset).toArray = ls at hl ⊢
  have hl : lv_has ls 1 [(0, .int x)] := hl
  refine lv_iload_n hx hb dX4_isTerm_0 rfl (lv_at hl 0 rfl) ?_
  refine lv_if_lt (tgt := 15) hx hb dX4_isTerm_1 (by decide) (fun c1 => ?_) (fun c1 => ?_)
  · refine lv_iconst (v := nI 0) hx hb dX4_isTerm_15 (by decide) ?_
    exact W.zret (v := 0) hx hb hr (by decide) (fun t ht hW => ⟨_, rfl, (by first | exact bB_t (tRng_of (by decide) c1 c8) | exact bB_f (tRng_neg c1) | exact bB_f (tRng_big (by decide) c8)), ht⟩) (fun q h => by cases h) dX4_isTerm_16
  · refine lv_iload_n hx hb dX4_isTerm_4 rfl (lv_at hl 0 rfl) ?_
    refine lv_sipush (v := nI 1000) hx hb dX4_isTerm_5 (by decide) ?_
    refine lv_icmp_ge (tgt := 15) hx hb dX4_isTerm_8 (by decide) (fun c8 => ?_) (fun c8 => ?_)
    · refine lv_iconst (v := nI 0) hx hb dX4_isTerm_15 (by decide) ?_
      exact W.zret (v := 0) hx hb hr (by decide) (fun t ht hW => ⟨_, rfl, (by first | exact bB_t (tRng_of (by decide) c1 c8) | exact bB_f (tRng_neg c1) | exact bB_f (tRng_big (by decide) c8)), ht⟩) (fun q h => by cases h) dX4_isTerm_16
    · refine lv_iconst (v := nI 1) hx hb dX4_isTerm_11 (by decide) ?_
      refine lv_goto (tgt := 16) hx hb dX4_isTerm_12 (by decide) ?_
      exact W.zret (v := 1) hx hb hr (by decide) (fun t ht hW => ⟨_, rfl, (by first | exact bB_t (tRng_of (by decide) c1 c8) | exact bB_f (tRng_neg c1) | exact bB_f (tRng_big (by decide) c8)), ht⟩) (fun q h => by cases h) dX4_isTerm_16

set_option maxHeartbeats 4000000 in
set_option maxRecDepth 100000 in
theorem k_isVersion (l : Launch) (D : va_G) (ct : Nat → ClassId) (x : Int32) : Met l yX4_isVersion wsX4_isVersion ({ frames := 0, cells := 0, slots := 0, locals := 0 }) (tb_Pr D ct [.int x] []) (vp_Si (fun r => r = bB (decide (tRng x 1000001)))) 0 0 (fun _ => False) := by
  refine Met.ofW (cc := cX4_isVersion) (maxL := 1) (ret := (some .boolean)) (by decide) rfl ?_
  intro p e s m args below meth c s₁ B hml hv
  obtain ⟨rfl, hP, hK, hZ⟩ := hv
  have hx := B.exec
  have hb := B.bytes
  have hr := B.returns
  have hts0 := atoms_spec (ws := wsX4_isVersion) B.pre
  have hts : ∀ w9 ∈ aw, w9.before ([.int x] : List Value).toArray s = true := fun w9 h9 => hts0 w9 (List.mem_cons_of_mem _ h9)
  have hown : s.vm.findClass RX4 = some m.cls := findClass_of_methodNamed B.named
  have hlocks := B.notSynchronized
  have hS : va_S (fun _ => False) s.heap s.heap [] := va_S.rf
  have hP : va_P D vwCl [] s.heap := hP
  have hl := lv_entry ([.int x]) (n := 1) (Nat.le_of_ble_eq_true rfl)
  rw [lg_entry_eq]
  generalize (lg_sl ([.int x]) ++ List.replicate (1 - (lg_sl ([.int x])).length) Slot.unset).toArray = ls at hl ⊢
  have hl : lv_has ls 1 [(0, .int x)] := hl
  refine lv_iload_n hx hb dX4_isVersion_0 rfl (lv_at hl 0 rfl) ?_
  refine lv_if_lt (tgt := 14) hx hb dX4_isVersion_1 (by decide) (fun c1 => ?_) (fun c1 => ?_)
  · refine lv_iconst (v := nI 0) hx hb dX4_isVersion_14 (by decide) ?_
    exact W.zret (v := 0) hx hb hr (by decide) (fun t ht hW => ⟨_, rfl, (by first | exact bB_t (tRng_ofg (by decide) c1 c7) | exact bB_f (tRng_neg c1) | exact bB_f (tRng_bigg (by decide) c7)), ht⟩) (fun q h => by cases h) dX4_isVersion_15
  · refine lv_iload_n hx hb dX4_isVersion_4 rfl (lv_at hl 0 rfl) ?_
    refine lv_ldc (v := nI 1000000) hx hb hown (hts _ w_107) dX4_isVersion_5 ?_
    refine lv_icmp_gt (tgt := 14) hx hb dX4_isVersion_7 (by decide) (fun c7 => ?_) (fun c7 => ?_)
    · refine lv_iconst (v := nI 0) hx hb dX4_isVersion_14 (by decide) ?_
      exact W.zret (v := 0) hx hb hr (by decide) (fun t ht hW => ⟨_, rfl, (by first | exact bB_t (tRng_ofg (by decide) c1 c7) | exact bB_f (tRng_neg c1) | exact bB_f (tRng_bigg (by decide) c7)), ht⟩) (fun q h => by cases h) dX4_isVersion_15
    · refine lv_iconst (v := nI 1) hx hb dX4_isVersion_10 (by decide) ?_
      refine lv_goto (tgt := 15) hx hb dX4_isVersion_11 (by decide) ?_
      exact W.zret (v := 1) hx hb hr (by decide) (fun t ht hW => ⟨_, rfl, (by first | exact bB_t (tRng_ofg (by decide) c1 c7) | exact bB_f (tRng_neg c1) | exact bB_f (tRng_bigg (by decide) c7)), ht⟩) (fun q h => by cases h) dX4_isVersion_15

set_option maxHeartbeats 4000000 in
set_option maxRecDepth 100000 in
theorem k_isTriple (l : Launch) (D : va_G) (ct : Nat → ClassId) (x : Int32) (y : Int32) (w : Int32) : Met l yX4_isTriple wsX4_isTriple ({ frames := 1, cells := 0, slots := 0, locals := 20 }) (tb_Pr D ct [.int x, .int y, .int w] []) (vp_Si (fun r => r = bB (decide (tRng x 1000 ∧ tRng y 1000 ∧ tRng w 1000)))) 0 0 (fun _ => False) := by
  refine Met.ofW (cc := cX4_isTriple) (maxL := 3) (ret := (some .boolean)) (by decide) rfl ?_
  intro p e s m args below meth c s₁ B hml hv
  obtain ⟨rfl, hP, hK, hZ⟩ := hv
  have hx := B.exec
  have hb := B.bytes
  have hr := B.returns
  have hts0 := atoms_spec (ws := wsX4_isTriple) B.pre
  have hts : ∀ w9 ∈ aw, w9.before ([.int x, .int y, .int w] : List Value).toArray s = true := fun w9 h9 => hts0 w9 (List.mem_cons_of_mem _ h9)
  have hown : s.vm.findClass RX4 = some m.cls := findClass_of_methodNamed B.named
  have hlocks := B.notSynchronized
  have hS : va_S (fun _ => False) s.heap s.heap [] := va_S.rf
  have hP : va_P D vwCl [] s.heap := hP
  have hl := lv_entry ([.int x, .int y, .int w]) (n := 3) (Nat.le_of_ble_eq_true rfl)
  rw [lg_entry_eq]
  generalize (lg_sl ([.int x, .int y, .int w]) ++ List.replicate (3 - (lg_sl ([.int x, .int y, .int w])).length) Slot.unset).toArray = ls at hl ⊢
  have hl : lv_has ls 3 [(0, .int x), (1, .int y), (2, .int w)] := hl
  refine lv_iload_n hx hb dX4_isTriple_0 rfl (lv_at hl 0 rfl) ?_
  refine vp_callSi (va_Run.run (va_runS (As := [.int x]) (rest := []) ⟨hx, hb, hml, hown, hts⟩ (k_isTerm l D ct x ) (va_cwS 1 hts (gw_S (fun _ h => h) w_103 w_104 w_24 wcX4_isTerm) rfl rfl rfl hvX4_isTerm.2 ⟨Nat.le_of_ble_eq_true rfl, Nat.le_of_ble_eq_true rfl⟩) (tb_prS hP hK hZ hS [] rfl) rfl rfl hl.1 rfl (lv_room (Nat.le_of_ble_eq_true rfl)) dX4_isTriple_1 ⟨Nat.zero_le _, Nat.zero_le _⟩)) (fun r_1 hr_1 => ?_)
  obtain rfl : r_1 = bB (decide (tRng x 1000)) := hr_1
  refine tb_if_eqB (tgt := 25) hx hb dX4_isTriple_4 (by decide) (fun c4 => ?_) (fun c4 => ?_)
  · refine lv_iconst (v := nI 0) hx hb dX4_isTriple_25 (by decide) ?_
    exact W.zret (v := 0) hx hb hr (by decide) (fun t ht hW => ⟨_, rfl, (by first | exact bB_t ⟨c4, c11, c18⟩ | exact bB_f (fun q => c4 q.1) | exact bB_f (fun q => c11 q.2.1) | exact bB_f (fun q => c18 q.2.2)), ht⟩) (fun q h => by cases h) dX4_isTriple_26
  · refine lv_iload_n hx hb dX4_isTriple_7 rfl (lv_at hl 1 rfl) ?_
    refine vp_callSi (va_Run.run (va_runS (As := [.int y]) (rest := []) ⟨hx, hb, hml, hown, hts⟩ (k_isTerm l D ct y ) (va_cwS 1 hts (gw_S (fun _ h => h) w_103 w_104 w_24 wcX4_isTerm) rfl rfl rfl hvX4_isTerm.2 ⟨Nat.le_of_ble_eq_true rfl, Nat.le_of_ble_eq_true rfl⟩) (tb_prS hP hK hZ hS [] rfl) rfl rfl hl.1 rfl (lv_room (Nat.le_of_ble_eq_true rfl)) dX4_isTriple_8 ⟨Nat.zero_le _, Nat.zero_le _⟩)) (fun r_8 hr_8 => ?_)
    obtain rfl : r_8 = bB (decide (tRng y 1000)) := hr_8
    refine tb_if_eqB (tgt := 25) hx hb dX4_isTriple_11 (by decide) (fun c11 => ?_) (fun c11 => ?_)
    · refine lv_iconst (v := nI 0) hx hb dX4_isTriple_25 (by decide) ?_
      exact W.zret (v := 0) hx hb hr (by decide) (fun t ht hW => ⟨_, rfl, (by first | exact bB_t ⟨c4, c11, c18⟩ | exact bB_f (fun q => c4 q.1) | exact bB_f (fun q => c11 q.2.1) | exact bB_f (fun q => c18 q.2.2)), ht⟩) (fun q h => by cases h) dX4_isTriple_26
    · refine lv_iload_n hx hb dX4_isTriple_14 rfl (lv_at hl 2 rfl) ?_
      refine vp_callSi (va_Run.run (va_runS (As := [.int w]) (rest := []) ⟨hx, hb, hml, hown, hts⟩ (k_isTerm l D ct w ) (va_cwS 1 hts (gw_S (fun _ h => h) w_103 w_104 w_24 wcX4_isTerm) rfl rfl rfl hvX4_isTerm.2 ⟨Nat.le_of_ble_eq_true rfl, Nat.le_of_ble_eq_true rfl⟩) (tb_prS hP hK hZ hS [] rfl) rfl rfl hl.1 rfl (lv_room (Nat.le_of_ble_eq_true rfl)) dX4_isTriple_15 ⟨Nat.zero_le _, Nat.zero_le _⟩)) (fun r_15 hr_15 => ?_)
      obtain rfl : r_15 = bB (decide (tRng w 1000)) := hr_15
      refine tb_if_eqB (tgt := 25) hx hb dX4_isTriple_18 (by decide) (fun c18 => ?_) (fun c18 => ?_)
      · refine lv_iconst (v := nI 0) hx hb dX4_isTriple_25 (by decide) ?_
        exact W.zret (v := 0) hx hb hr (by decide) (fun t ht hW => ⟨_, rfl, (by first | exact bB_t ⟨c4, c11, c18⟩ | exact bB_f (fun q => c4 q.1) | exact bB_f (fun q => c11 q.2.1) | exact bB_f (fun q => c18 q.2.2)), ht⟩) (fun q h => by cases h) dX4_isTriple_26
      · refine lv_iconst (v := nI 1) hx hb dX4_isTriple_21 (by decide) ?_
        refine lv_goto (tgt := 26) hx hb dX4_isTriple_22 (by decide) ?_
        exact W.zret (v := 1) hx hb hr (by decide) (fun t ht hW => ⟨_, rfl, (by first | exact bB_t ⟨c4, c11, c18⟩ | exact bB_f (fun q => c4 q.1) | exact bB_f (fun q => c11 q.2.1) | exact bB_f (fun q => c18 q.2.2)), ht⟩) (fun q h => by cases h) dX4_isTriple_26

set_option maxHeartbeats 4000000 in
set_option maxRecDepth 100000 in
theorem k_isRange (l : Launch) (D : va_G) (ct : Nat → ClassId) (x : Int32) (y : Int32) (w : Int32) : Met l yX4_isRange wsX4_isRange ({ frames := 1, cells := 0, slots := 0, locals := 20 }) (tb_Pr D ct [.int x, .int y, .int w] []) (vp_Si (fun r => r = bB (decide (tRng x 6 ∧ (y = -1 ∨ tRng y 1000) ∧ (w = -1 ∨ tRng w 1000))))) 0 0 (fun _ => False) := by
  refine Met.ofW (cc := cX4_isRange) (maxL := 3) (ret := (some .boolean)) (by decide) rfl ?_
  intro p e s m args below meth c s₁ B hml hv
  obtain ⟨rfl, hP, hK, hZ⟩ := hv
  have hx := B.exec
  have hb := B.bytes
  have hr := B.returns
  have hts0 := atoms_spec (ws := wsX4_isRange) B.pre
  have hts : ∀ w9 ∈ aw, w9.before ([.int x, .int y, .int w] : List Value).toArray s = true := fun w9 h9 => hts0 w9 (List.mem_cons_of_mem _ h9)
  have hown : s.vm.findClass RX4 = some m.cls := findClass_of_methodNamed B.named
  have hlocks := B.notSynchronized
  have hS : va_S (fun _ => False) s.heap s.heap [] := va_S.rf
  have hP : va_P D vwCl [] s.heap := hP
  have hl := lv_entry ([.int x, .int y, .int w]) (n := 3) (Nat.le_of_ble_eq_true rfl)
  rw [lg_entry_eq]
  generalize (lg_sl ([.int x, .int y, .int w]) ++ List.replicate (3 - (lg_sl ([.int x, .int y, .int w])).length) Slot.unset).toArray = ls at hl ⊢
  have hl : lv_has ls 3 [(0, .int x), (1, .int y), (2, .int w)] := hl
  refine lv_iload_n hx hb dX4_isRange_0 rfl (lv_at hl 0 rfl) ?_
  refine vp_callSi (va_Run.run (va_runS (As := [.int x]) (rest := []) ⟨hx, hb, hml, hown, hts⟩ (k_isOrder l D ct x ) (va_cwS 1 hts (gw_S (fun _ h => h) w_112 w_113 w_24 wcX4_isOrder) rfl rfl rfl hvX4_isOrder.2 ⟨Nat.le_of_ble_eq_true rfl, Nat.le_of_ble_eq_true rfl⟩) (tb_prS hP hK hZ hS [] rfl) rfl rfl hl.1 rfl (lv_room (Nat.le_of_ble_eq_true rfl)) dX4_isRange_1 ⟨Nat.zero_le _, Nat.zero_le _⟩)) (fun r_1 hr_1 => ?_)
  obtain rfl : r_1 = bB (decide (tRng x 6)) := hr_1
  refine tb_if_eqB (tgt := 35) hx hb dX4_isRange_4 (by decide) (fun c4 => ?_) (fun c4 => ?_)
  · refine lv_iconst (v := nI 0) hx hb dX4_isRange_35 (by decide) ?_
    exact W.zret (v := 0) hx hb hr (by decide) (fun t ht hW => ⟨_, rfl, (by first | exact bB_t ⟨c4, Or.inl c9, Or.inl c21⟩ | exact bB_t ⟨c4, Or.inl c9, Or.inr c28⟩ | exact bB_t ⟨c4, Or.inr c16, Or.inl c21⟩ | exact bB_t ⟨c4, Or.inr c16, Or.inr c28⟩ | exact bB_f (fun q => c4 q.1) | exact bB_f (fun q => q.2.1.elim c9 c16) | exact bB_f (fun q => q.2.2.elim c21 c28)), ht⟩) (fun q h => by cases h) dX4_isRange_36
  · refine lv_iload_n hx hb dX4_isRange_7 rfl (lv_at hl 1 rfl) ?_
    refine lv_iconst (v := (-1)) hx hb dX4_isRange_8 (by decide) ?_
    refine lv_icmp_eq (tgt := 19) hx hb dX4_isRange_9 (by decide) (fun c9 => ?_) (fun c9 => ?_)
    · refine lv_iload_n hx hb dX4_isRange_19 rfl (lv_at hl 2 rfl) ?_
      refine lv_iconst (v := (-1)) hx hb dX4_isRange_20 (by decide) ?_
      refine lv_icmp_eq (tgt := 31) hx hb dX4_isRange_21 (by decide) (fun c21 => ?_) (fun c21 => ?_)
      · refine lv_iconst (v := nI 1) hx hb dX4_isRange_31 (by decide) ?_
        refine lv_goto (tgt := 36) hx hb dX4_isRange_32 (by decide) ?_
        exact W.zret (v := 1) hx hb hr (by decide) (fun t ht hW => ⟨_, rfl, (by first | exact bB_t ⟨c4, Or.inl c9, Or.inl c21⟩ | exact bB_t ⟨c4, Or.inl c9, Or.inr c28⟩ | exact bB_t ⟨c4, Or.inr c16, Or.inl c21⟩ | exact bB_t ⟨c4, Or.inr c16, Or.inr c28⟩ | exact bB_f (fun q => c4 q.1) | exact bB_f (fun q => q.2.1.elim c9 c16) | exact bB_f (fun q => q.2.2.elim c21 c28)), ht⟩) (fun q h => by cases h) dX4_isRange_36
      · refine lv_iload_n hx hb dX4_isRange_24 rfl (lv_at hl 2 rfl) ?_
        refine vp_callSi (va_Run.run (va_runS (As := [.int w]) (rest := []) ⟨hx, hb, hml, hown, hts⟩ (k_isTerm l D ct w ) (va_cwS 1 hts (gw_S (fun _ h => h) w_103 w_104 w_24 wcX4_isTerm) rfl rfl rfl hvX4_isTerm.2 ⟨Nat.le_of_ble_eq_true rfl, Nat.le_of_ble_eq_true rfl⟩) (tb_prS hP hK hZ hS [] rfl) rfl rfl hl.1 rfl (lv_room (Nat.le_of_ble_eq_true rfl)) dX4_isRange_25 ⟨Nat.zero_le _, Nat.zero_le _⟩)) (fun r_25 hr_25 => ?_)
        obtain rfl : r_25 = bB (decide (tRng w 1000)) := hr_25
        refine tb_if_eqB (tgt := 35) hx hb dX4_isRange_28 (by decide) (fun c28 => ?_) (fun c28 => ?_)
        · refine lv_iconst (v := nI 0) hx hb dX4_isRange_35 (by decide) ?_
          exact W.zret (v := 0) hx hb hr (by decide) (fun t ht hW => ⟨_, rfl, (by first | exact bB_t ⟨c4, Or.inl c9, Or.inl c21⟩ | exact bB_t ⟨c4, Or.inl c9, Or.inr c28⟩ | exact bB_t ⟨c4, Or.inr c16, Or.inl c21⟩ | exact bB_t ⟨c4, Or.inr c16, Or.inr c28⟩ | exact bB_f (fun q => c4 q.1) | exact bB_f (fun q => q.2.1.elim c9 c16) | exact bB_f (fun q => q.2.2.elim c21 c28)), ht⟩) (fun q h => by cases h) dX4_isRange_36
        · refine lv_iconst (v := nI 1) hx hb dX4_isRange_31 (by decide) ?_
          refine lv_goto (tgt := 36) hx hb dX4_isRange_32 (by decide) ?_
          exact W.zret (v := 1) hx hb hr (by decide) (fun t ht hW => ⟨_, rfl, (by first | exact bB_t ⟨c4, Or.inl c9, Or.inl c21⟩ | exact bB_t ⟨c4, Or.inl c9, Or.inr c28⟩ | exact bB_t ⟨c4, Or.inr c16, Or.inl c21⟩ | exact bB_t ⟨c4, Or.inr c16, Or.inr c28⟩ | exact bB_f (fun q => c4 q.1) | exact bB_f (fun q => q.2.1.elim c9 c16) | exact bB_f (fun q => q.2.2.elim c21 c28)), ht⟩) (fun q h => by cases h) dX4_isRange_36
    · refine lv_iload_n hx hb dX4_isRange_12 rfl (lv_at hl 1 rfl) ?_
      refine vp_callSi (va_Run.run (va_runS (As := [.int y]) (rest := []) ⟨hx, hb, hml, hown, hts⟩ (k_isTerm l D ct y ) (va_cwS 1 hts (gw_S (fun _ h => h) w_103 w_104 w_24 wcX4_isTerm) rfl rfl rfl hvX4_isTerm.2 ⟨Nat.le_of_ble_eq_true rfl, Nat.le_of_ble_eq_true rfl⟩) (tb_prS hP hK hZ hS [] rfl) rfl rfl hl.1 rfl (lv_room (Nat.le_of_ble_eq_true rfl)) dX4_isRange_13 ⟨Nat.zero_le _, Nat.zero_le _⟩)) (fun r_13 hr_13 => ?_)
      obtain rfl : r_13 = bB (decide (tRng y 1000)) := hr_13
      refine tb_if_eqB (tgt := 35) hx hb dX4_isRange_16 (by decide) (fun c16 => ?_) (fun c16 => ?_)
      · refine lv_iconst (v := nI 0) hx hb dX4_isRange_35 (by decide) ?_
        exact W.zret (v := 0) hx hb hr (by decide) (fun t ht hW => ⟨_, rfl, (by first | exact bB_t ⟨c4, Or.inl c9, Or.inl c21⟩ | exact bB_t ⟨c4, Or.inl c9, Or.inr c28⟩ | exact bB_t ⟨c4, Or.inr c16, Or.inl c21⟩ | exact bB_t ⟨c4, Or.inr c16, Or.inr c28⟩ | exact bB_f (fun q => c4 q.1) | exact bB_f (fun q => q.2.1.elim c9 c16) | exact bB_f (fun q => q.2.2.elim c21 c28)), ht⟩) (fun q h => by cases h) dX4_isRange_36
      · refine lv_iload_n hx hb dX4_isRange_19 rfl (lv_at hl 2 rfl) ?_
        refine lv_iconst (v := (-1)) hx hb dX4_isRange_20 (by decide) ?_
        refine lv_icmp_eq (tgt := 31) hx hb dX4_isRange_21 (by decide) (fun c21 => ?_) (fun c21 => ?_)
        · refine lv_iconst (v := nI 1) hx hb dX4_isRange_31 (by decide) ?_
          refine lv_goto (tgt := 36) hx hb dX4_isRange_32 (by decide) ?_
          exact W.zret (v := 1) hx hb hr (by decide) (fun t ht hW => ⟨_, rfl, (by first | exact bB_t ⟨c4, Or.inl c9, Or.inl c21⟩ | exact bB_t ⟨c4, Or.inl c9, Or.inr c28⟩ | exact bB_t ⟨c4, Or.inr c16, Or.inl c21⟩ | exact bB_t ⟨c4, Or.inr c16, Or.inr c28⟩ | exact bB_f (fun q => c4 q.1) | exact bB_f (fun q => q.2.1.elim c9 c16) | exact bB_f (fun q => q.2.2.elim c21 c28)), ht⟩) (fun q h => by cases h) dX4_isRange_36
        · refine lv_iload_n hx hb dX4_isRange_24 rfl (lv_at hl 2 rfl) ?_
          refine vp_callSi (va_Run.run (va_runS (As := [.int w]) (rest := []) ⟨hx, hb, hml, hown, hts⟩ (k_isTerm l D ct w ) (va_cwS 1 hts (gw_S (fun _ h => h) w_103 w_104 w_24 wcX4_isTerm) rfl rfl rfl hvX4_isTerm.2 ⟨Nat.le_of_ble_eq_true rfl, Nat.le_of_ble_eq_true rfl⟩) (tb_prS hP hK hZ hS [] rfl) rfl rfl hl.1 rfl (lv_room (Nat.le_of_ble_eq_true rfl)) dX4_isRange_25 ⟨Nat.zero_le _, Nat.zero_le _⟩)) (fun r_25 hr_25 => ?_)
          obtain rfl : r_25 = bB (decide (tRng w 1000)) := hr_25
          refine tb_if_eqB (tgt := 35) hx hb dX4_isRange_28 (by decide) (fun c28 => ?_) (fun c28 => ?_)
          · refine lv_iconst (v := nI 0) hx hb dX4_isRange_35 (by decide) ?_
            exact W.zret (v := 0) hx hb hr (by decide) (fun t ht hW => ⟨_, rfl, (by first | exact bB_t ⟨c4, Or.inl c9, Or.inl c21⟩ | exact bB_t ⟨c4, Or.inl c9, Or.inr c28⟩ | exact bB_t ⟨c4, Or.inr c16, Or.inl c21⟩ | exact bB_t ⟨c4, Or.inr c16, Or.inr c28⟩ | exact bB_f (fun q => c4 q.1) | exact bB_f (fun q => q.2.1.elim c9 c16) | exact bB_f (fun q => q.2.2.elim c21 c28)), ht⟩) (fun q h => by cases h) dX4_isRange_36
          · refine lv_iconst (v := nI 1) hx hb dX4_isRange_31 (by decide) ?_
            refine lv_goto (tgt := 36) hx hb dX4_isRange_32 (by decide) ?_
            exact W.zret (v := 1) hx hb hr (by decide) (fun t ht hW => ⟨_, rfl, (by first | exact bB_t ⟨c4, Or.inl c9, Or.inl c21⟩ | exact bB_t ⟨c4, Or.inl c9, Or.inr c28⟩ | exact bB_t ⟨c4, Or.inr c16, Or.inl c21⟩ | exact bB_t ⟨c4, Or.inr c16, Or.inr c28⟩ | exact bB_f (fun q => c4 q.1) | exact bB_f (fun q => q.2.1.elim c9 c16) | exact bB_f (fun q => q.2.2.elim c21 c28)), ht⟩) (fun q h => by cases h) dX4_isRange_36

set_option maxHeartbeats 4000000 in
set_option maxRecDepth 100000 in
theorem k_isSecondAlone (l : Launch) (D : va_G) (ct : Nat → ClassId) (x : Int32) (y : Int32) : Met l yX4_isSecondAlone wsX4_isSecondAlone ({ frames := 0, cells := 0, slots := 0, locals := 0 }) (tb_Pr D ct [.int x, .int y] []) (vp_Si (fun r => r = bB (decide (x = -1 ∧ ¬ y = -1)))) 0 0 (fun _ => False) := by
  refine Met.ofW (cc := cX4_isSecondAlone) (maxL := 2) (ret := (some .boolean)) (by decide) rfl ?_
  intro p e s m args below meth c s₁ B hml hv
  obtain ⟨rfl, hP, hK, hZ⟩ := hv
  have hx := B.exec
  have hb := B.bytes
  have hr := B.returns
  have hts0 := atoms_spec (ws := wsX4_isSecondAlone) B.pre
  have hts : ∀ w9 ∈ aw, w9.before ([.int x, .int y] : List Value).toArray s = true := fun w9 h9 => hts0 w9 (List.mem_cons_of_mem _ h9)
  have hown : s.vm.findClass RX4 = some m.cls := findClass_of_methodNamed B.named
  have hlocks := B.notSynchronized
  have hS : va_S (fun _ => False) s.heap s.heap [] := va_S.rf
  have hP : va_P D vwCl [] s.heap := hP
  have hl := lv_entry ([.int x, .int y]) (n := 2) (Nat.le_of_ble_eq_true rfl)
  rw [lg_entry_eq]
  generalize (lg_sl ([.int x, .int y]) ++ List.replicate (2 - (lg_sl ([.int x, .int y])).length) Slot.unset).toArray = ls at hl ⊢
  have hl : lv_has ls 2 [(0, .int x), (1, .int y)] := hl
  refine lv_iload_n hx hb dX4_isSecondAlone_0 rfl (lv_at hl 0 rfl) ?_
  refine lv_iconst (v := (-1)) hx hb dX4_isSecondAlone_1 (by decide) ?_
  refine lv_icmp_ne (tgt := 14) hx hb dX4_isSecondAlone_2 (by decide) (fun c2 => ?_) (fun c2 => ?_)
  · refine lv_iconst (v := nI 0) hx hb dX4_isSecondAlone_14 (by decide) ?_
    exact W.zret (v := 0) hx hb hr (by decide) (fun t ht hW => ⟨_, rfl, (by first | exact bB_t ⟨c2, c7⟩ | exact bB_f (fun q => c2 q.1) | exact bB_f (fun q => q.2 c7)), ht⟩) (fun q h => by cases h) dX4_isSecondAlone_15
  · refine lv_iload_n hx hb dX4_isSecondAlone_5 rfl (lv_at hl 1 rfl) ?_
    refine lv_iconst (v := (-1)) hx hb dX4_isSecondAlone_6 (by decide) ?_
    refine lv_icmp_eq (tgt := 14) hx hb dX4_isSecondAlone_7 (by decide) (fun c7 => ?_) (fun c7 => ?_)
    · refine lv_iconst (v := nI 0) hx hb dX4_isSecondAlone_14 (by decide) ?_
      exact W.zret (v := 0) hx hb hr (by decide) (fun t ht hW => ⟨_, rfl, (by first | exact bB_t ⟨c2, c7⟩ | exact bB_f (fun q => c2 q.1) | exact bB_f (fun q => q.2 c7)), ht⟩) (fun q h => by cases h) dX4_isSecondAlone_15
    · refine lv_iconst (v := nI 1) hx hb dX4_isSecondAlone_10 (by decide) ?_
      refine lv_goto (tgt := 15) hx hb dX4_isSecondAlone_11 (by decide) ?_
      exact W.zret (v := 1) hx hb hr (by decide) (fun t ht hW => ⟨_, rfl, (by first | exact bB_t ⟨c2, c7⟩ | exact bB_f (fun q => c2 q.1) | exact bB_f (fun q => q.2 c7)), ht⟩) (fun q h => by cases h) dX4_isSecondAlone_15

set_option maxHeartbeats 4000000 in
set_option maxRecDepth 100000 in
theorem k_pick (l : Launch) (D : va_G) (ct : Nat → ClassId) (t : Nat) (a : Nat) (b : Nat) (d : Nat) (ht : t < 2 ^ 31) : Met l yX4_pick wsX4_pick ({ frames := 0, cells := 0, slots := 0, locals := 0 }) (tb_Pr D ct [.int (nI t), .int (nI a), .int (nI b), .int (nI d)] []) (vp_Si (fun r => r = nI (tPick t a b d))) 0 0 (fun _ => False) := by
  refine Met.ofW (cc := cX4_pick) (maxL := 4) (ret := (some .int)) (by decide) rfl ?_
  intro p e s m args below meth c s₁ B hml hv
  obtain ⟨rfl, hP, hK, hZ⟩ := hv
  have hx := B.exec
  have hb := B.bytes
  have hr := B.returns
  have hts0 := atoms_spec (ws := wsX4_pick) B.pre
  have hts : ∀ w9 ∈ aw, w9.before ([.int (nI t), .int (nI a), .int (nI b), .int (nI d)] : List Value).toArray s = true := fun w9 h9 => hts0 w9 (List.mem_cons_of_mem _ h9)
  have hown : s.vm.findClass RX4 = some m.cls := findClass_of_methodNamed B.named
  have hlocks := B.notSynchronized
  have hS : va_S (fun _ => False) s.heap s.heap [] := va_S.rf
  have hP : va_P D vwCl [] s.heap := hP
  have hl := lv_entry ([.int (nI t), .int (nI a), .int (nI b), .int (nI d)]) (n := 4) (Nat.le_of_ble_eq_true rfl)
  rw [lg_entry_eq]
  generalize (lg_sl ([.int (nI t), .int (nI a), .int (nI b), .int (nI d)]) ++ List.replicate (4 - (lg_sl ([.int (nI t), .int (nI a), .int (nI b), .int (nI d)])).length) Slot.unset).toArray = ls at hl ⊢
  have hl : lv_has ls 4 [(0, .int (nI t)), (1, .int (nI a)), (2, .int (nI b)), (3, .int (nI d))] := hl
  refine lv_iload_n hx hb dX4_pick_0 rfl (lv_at hl 0 rfl) ?_
  refine tb_if_ne (tgt := 8) hx hb dX4_pick_1 (by decide) (by omega) (fun c1 => ?_) (fun c1 => ?_)
  · refine lv_iload_n hx hb dX4_pick_8 rfl (lv_at hl 0 rfl) ?_
    refine lv_iconst (v := nI 1) hx hb dX4_pick_9 (by decide) ?_
    refine tb_icmp_ne (tgt := 17) hx hb dX4_pick_10 (by decide) (by omega) (by omega) (fun c10 => ?_) (fun c10 => ?_)
    · refine lv_iload_n hx hb dX4_pick_17 rfl (lv_at hl 3 rfl) ?_
      exact W.iret (v := nI d) hx hb hr (fun t ht hW => ⟨_, rfl, (by first | rw [tPick, if_pos c1] | rw [tPick, if_neg (by omega), if_pos c10] | rw [tPick, if_neg (by omega), if_neg c10]), ht⟩) (fun q h => by cases h) dX4_pick_18
    · refine lv_iload_n hx hb dX4_pick_13 rfl (lv_at hl 2 rfl) ?_
      refine lv_goto (tgt := 18) hx hb dX4_pick_14 (by decide) ?_
      exact W.iret (v := nI b) hx hb hr (fun t ht hW => ⟨_, rfl, (by first | rw [tPick, if_pos c1] | rw [tPick, if_neg (by omega), if_pos c10] | rw [tPick, if_neg (by omega), if_neg c10]), ht⟩) (fun q h => by cases h) dX4_pick_18
  · refine lv_iload_n hx hb dX4_pick_4 rfl (lv_at hl 1 rfl) ?_
    refine lv_goto (tgt := 18) hx hb dX4_pick_5 (by decide) ?_
    exact W.iret (v := nI a) hx hb hr (fun t ht hW => ⟨_, rfl, (by first | rw [tPick, if_pos c1] | rw [tPick, if_neg (by omega), if_pos c10] | rw [tPick, if_neg (by omega), if_neg c10]), ht⟩) (fun q h => by cases h) dX4_pick_18

set_option maxHeartbeats 4000000 in
set_option maxRecDepth 100000 in
theorem k_keyOf (l : Launch) (D : va_G) (ct : Nat → ClassId) (o : Nat) (a : Nat) (b : Nat) (d : Nat) (ho : o < 6) : Met l yX4_keyOf wsX4_keyOf ({ frames := 1, cells := 0, slots := 0, locals := 23 }) (tb_Pr D ct [.int (nI o), .int (nI a), .int (nI b), .int (nI d)] []) (vp_Si (fun r => r = nI (tKeyOf o a b d))) 0 0 (fun _ => False) := by
  refine Met.ofW (cc := cX4_keyOf) (maxL := 4) (ret := (some .int)) (by decide) rfl ?_
  intro p e s m args below meth c s₁ B hml hv
  obtain ⟨rfl, hP, hK, hZ⟩ := hv
  have hx := B.exec
  have hb := B.bytes
  have hr := B.returns
  have hts0 := atoms_spec (ws := wsX4_keyOf) B.pre
  have hts : ∀ w9 ∈ aw, w9.before ([.int (nI o), .int (nI a), .int (nI b), .int (nI d)] : List Value).toArray s = true := fun w9 h9 => hts0 w9 (List.mem_cons_of_mem _ h9)
  have hown : s.vm.findClass RX4 = some m.cls := findClass_of_methodNamed B.named
  have hlocks := B.notSynchronized
  have hS : va_S (fun _ => False) s.heap s.heap [] := va_S.rf
  have hP : va_P D vwCl [] s.heap := hP
  have hl := lv_entry ([.int (nI o), .int (nI a), .int (nI b), .int (nI d)]) (n := 4) (Nat.le_of_ble_eq_true rfl)
  rw [lg_entry_eq]
  generalize (lg_sl ([.int (nI o), .int (nI a), .int (nI b), .int (nI d)]) ++ List.replicate (4 - (lg_sl ([.int (nI o), .int (nI a), .int (nI b), .int (nI d)])).length) Slot.unset).toArray = ls at hl ⊢
  have hl : lv_has ls 4 [(0, .int (nI o)), (1, .int (nI a)), (2, .int (nI b)), (3, .int (nI d))] := hl
  obtain ⟨tA, hZa, hTa⟩ := hZ.1
  refine lv_iload_n hx hb dX4_keyOf_0 rfl (lv_at hl 0 rfl) ?_
  refine vp_callSi (va_Run.run (va_runS (As := [.int (nI o)]) (rest := []) ⟨hx, hb, hml, hown, hts⟩ (k_isOrder l D ct (nI o) ) (va_cwS 1 hts (gw_S (fun _ h => h) w_112 w_113 w_24 wcX4_isOrder) rfl rfl rfl hvX4_isOrder.2 ⟨Nat.le_of_ble_eq_true rfl, Nat.le_of_ble_eq_true rfl⟩) (tb_prS hP hK hZ hS [] rfl) rfl rfl hl.1 rfl (lv_room (Nat.le_of_ble_eq_true rfl)) dX4_keyOf_1 ⟨Nat.zero_le _, Nat.zero_le _⟩)) (fun r_1 hr_1 => ?_)
  obtain rfl : r_1 = bB (decide (tRng (nI o) 6)) := hr_1
  refine tb_if_neB (tgt := 9) hx hb dX4_keyOf_4 (by decide) (fun c4 => ?_) (fun c4 => ?_)
  · refine va_gets hx hb hZa hS hown (hts _ w_114) (fun _ h9 => h9) dX4_keyOf_9 ?_
    refine lv_iload_n hx hb dX4_keyOf_12 rfl (lv_at hl 0 rfl) ?_
    refine lv_iconst (v := nI 3) hx hb dX4_keyOf_13 (by decide) ?_
    refine tb_imul hx hb dX4_keyOf_14 ?_
    refine tb_ti hx hb hTa hS (by omega) (by decide) dX4_keyOf_15 ?_
    refine lv_iload_n hx hb dX4_keyOf_16 rfl (lv_at hl 1 rfl) ?_
    refine lv_iload_n hx hb dX4_keyOf_17 rfl (lv_at hl 2 rfl) ?_
    refine lv_iload_n hx hb dX4_keyOf_18 rfl (lv_at hl 3 rfl) ?_
    refine vp_callSi (va_Run.run (va_runS (As := [.int (nI (taF (o * 3))), .int (nI a), .int (nI b), .int (nI d)]) (rest := []) ⟨hx, hb, hml, hown, hts⟩ (k_pick l D ct (taF (o * 3)) a b d (Nat.lt_trans (taF_lt _) (by decide))) (va_cwS 4 hts (gw_S (fun _ h => h) w_115 w_116 w_24 wcX4_pick) rfl rfl rfl hvX4_pick.2 ⟨Nat.le_of_ble_eq_true rfl, Nat.le_of_ble_eq_true rfl⟩) (tb_prS hP hK hZ hS [] rfl) rfl rfl hl.1 rfl (lv_room (Nat.le_of_ble_eq_true rfl)) dX4_keyOf_19 ⟨Nat.zero_le _, Nat.zero_le _⟩)) (fun r_19 hr_19 => ?_)
    obtain rfl : r_19 = nI (tPick (taF (o * 3)) a b d) := hr_19
    refine lv_ldc (v := nI 1000000) hx hb hown (hts _ w_107) dX4_keyOf_22 ?_
    refine tb_imul hx hb dX4_keyOf_24 ?_
    refine va_gets hx hb hZa hS hown (hts _ w_114) (fun _ h9 => h9) dX4_keyOf_25 ?_
    refine lv_iload_n hx hb dX4_keyOf_28 rfl (lv_at hl 0 rfl) ?_
    refine lv_iconst (v := nI 3) hx hb dX4_keyOf_29 (by decide) ?_
    refine tb_imul hx hb dX4_keyOf_30 ?_
    refine lv_iconst (v := nI 1) hx hb dX4_keyOf_31 (by decide) ?_
    refine tb_iadd hx hb dX4_keyOf_32 ?_
    refine tb_ti hx hb hTa hS (by omega) (by decide) dX4_keyOf_33 ?_
    refine lv_iload_n hx hb dX4_keyOf_34 rfl (lv_at hl 1 rfl) ?_
    refine lv_iload_n hx hb dX4_keyOf_35 rfl (lv_at hl 2 rfl) ?_
    refine lv_iload_n hx hb dX4_keyOf_36 rfl (lv_at hl 3 rfl) ?_
    refine vp_callSi (va_Run.run (va_runS (As := [.int (nI (taF ((o * 3) + 1))), .int (nI a), .int (nI b), .int (nI d)]) (rest := [.int (nI ((tPick (taF (o * 3)) a b d) * 1000000))]) ⟨hx, hb, hml, hown, hts⟩ (k_pick l D ct (taF ((o * 3) + 1)) a b d (Nat.lt_trans (taF_lt _) (by decide))) (va_cwS 4 hts (gw_S (fun _ h => h) w_115 w_116 w_24 wcX4_pick) rfl rfl rfl hvX4_pick.2 ⟨Nat.le_of_ble_eq_true rfl, Nat.le_of_ble_eq_true rfl⟩) (tb_prS hP hK hZ hS [] rfl) rfl rfl hl.1 rfl (lv_room (Nat.le_of_ble_eq_true rfl)) dX4_keyOf_37 ⟨Nat.zero_le _, Nat.zero_le _⟩)) (fun r_37 hr_37 => ?_)
    obtain rfl : r_37 = nI (tPick (taF ((o * 3) + 1)) a b d) := hr_37
    refine lv_sipush (v := nI 1000) hx hb dX4_keyOf_40 (by decide) ?_
    refine tb_imul hx hb dX4_keyOf_43 ?_
    refine tb_iadd hx hb dX4_keyOf_44 ?_
    refine va_gets hx hb hZa hS hown (hts _ w_114) (fun _ h9 => h9) dX4_keyOf_45 ?_
    refine lv_iload_n hx hb dX4_keyOf_48 rfl (lv_at hl 0 rfl) ?_
    refine lv_iconst (v := nI 3) hx hb dX4_keyOf_49 (by decide) ?_
    refine tb_imul hx hb dX4_keyOf_50 ?_
    refine lv_iconst (v := nI 2) hx hb dX4_keyOf_51 (by decide) ?_
    refine tb_iadd hx hb dX4_keyOf_52 ?_
    refine tb_ti hx hb hTa hS (by omega) (by decide) dX4_keyOf_53 ?_
    refine lv_iload_n hx hb dX4_keyOf_54 rfl (lv_at hl 1 rfl) ?_
    refine lv_iload_n hx hb dX4_keyOf_55 rfl (lv_at hl 2 rfl) ?_
    refine lv_iload_n hx hb dX4_keyOf_56 rfl (lv_at hl 3 rfl) ?_
    refine vp_callSi (va_Run.run (va_runS (As := [.int (nI (taF ((o * 3) + 2))), .int (nI a), .int (nI b), .int (nI d)]) (rest := [.int (nI (((tPick (taF (o * 3)) a b d) * 1000000) + ((tPick (taF ((o * 3) + 1)) a b d) * 1000)))]) ⟨hx, hb, hml, hown, hts⟩ (k_pick l D ct (taF ((o * 3) + 2)) a b d (Nat.lt_trans (taF_lt _) (by decide))) (va_cwS 4 hts (gw_S (fun _ h => h) w_115 w_116 w_24 wcX4_pick) rfl rfl rfl hvX4_pick.2 ⟨Nat.le_of_ble_eq_true rfl, Nat.le_of_ble_eq_true rfl⟩) (tb_prS hP hK hZ hS [] rfl) rfl rfl hl.1 rfl (lv_room (Nat.le_of_ble_eq_true rfl)) dX4_keyOf_57 ⟨Nat.zero_le _, Nat.zero_le _⟩)) (fun r_57 hr_57 => ?_)
    obtain rfl : r_57 = nI (tPick (taF ((o * 3) + 2)) a b d) := hr_57
    refine tb_iadd hx hb dX4_keyOf_60 ?_
    exact W.iret (v := nI ((((tPick (taF (o * 3)) a b d) * 1000000) + ((tPick (taF ((o * 3) + 1)) a b d) * 1000)) + (tPick (taF ((o * 3) + 2)) a b d))) hx hb hr (fun t ht hW => ⟨_, rfl, rfl, ht⟩) (fun q h => by cases h) dX4_keyOf_61
  · exact absurd (tRng_nI ho (by decide)) c4

set_option maxHeartbeats 4000000 in
set_option maxRecDepth 100000 in
theorem k_termOfKey (l : Launch) (D : va_G) (ct : Nat → ClassId) (x : Nat) (t : Nat) (hx9 : x < 2 ^ 31) (ht : t < 2 ^ 31) : Met l yX4_termOfKey wsX4_termOfKey ({ frames := 0, cells := 0, slots := 0, locals := 0 }) (tb_Pr D ct [.int (nI x), .int (nI t)] []) (vp_Si (fun r => r = nI (tTerm x t))) 0 0 (fun _ => False) := by
  refine Met.ofW (cc := cX4_termOfKey) (maxL := 2) (ret := (some .int)) (by decide) rfl ?_
  intro p e s m args below meth c s₁ B hml hv
  obtain ⟨rfl, hP, hK, hZ⟩ := hv
  have hx := B.exec
  have hb := B.bytes
  have hr := B.returns
  have hts0 := atoms_spec (ws := wsX4_termOfKey) B.pre
  have hts : ∀ w9 ∈ aw, w9.before ([.int (nI x), .int (nI t)] : List Value).toArray s = true := fun w9 h9 => hts0 w9 (List.mem_cons_of_mem _ h9)
  have hown : s.vm.findClass RX4 = some m.cls := findClass_of_methodNamed B.named
  have hlocks := B.notSynchronized
  have hS : va_S (fun _ => False) s.heap s.heap [] := va_S.rf
  have hP : va_P D vwCl [] s.heap := hP
  have hl := lv_entry ([.int (nI x), .int (nI t)]) (n := 2) (Nat.le_of_ble_eq_true rfl)
  rw [lg_entry_eq]
  generalize (lg_sl ([.int (nI x), .int (nI t)]) ++ List.replicate (2 - (lg_sl ([.int (nI x), .int (nI t)])).length) Slot.unset).toArray = ls at hl ⊢
  have hl : lv_has ls 2 [(0, .int (nI x)), (1, .int (nI t))] := hl
  refine lv_iload_n hx hb dX4_termOfKey_0 rfl (lv_at hl 1 rfl) ?_
  refine tb_if_ne (tgt := 9) hx hb dX4_termOfKey_1 (by decide) (by omega) (fun c1 => ?_) (fun c1 => ?_)
  · refine lv_iload_n hx hb dX4_termOfKey_9 rfl (lv_at hl 1 rfl) ?_
    refine lv_iconst (v := nI 1) hx hb dX4_termOfKey_10 (by decide) ?_
    refine tb_icmp_ne (tgt := 26) hx hb dX4_termOfKey_11 (by decide) (by omega) (by omega) (fun c11 => ?_) (fun c11 => ?_)
    · refine lv_iload_n hx hb dX4_termOfKey_26 rfl (lv_at hl 0 rfl) ?_
      refine lv_sipush (v := nI 1000) hx hb dX4_termOfKey_27 (by decide) ?_
      refine tb_irem hx hb dX4_termOfKey_30 (by omega) (by decide) (by decide) ?_
      exact W.iret (v := nI (x % 1000)) hx hb hr (fun t ht hW => ⟨_, rfl, (by first | rw [tTerm, if_neg (by omega), if_pos c11] | rw [tTerm, if_neg (by omega), if_neg c11]), ht⟩) (fun q h => by cases h) dX4_termOfKey_31
    · refine lv_iload_n hx hb dX4_termOfKey_14 rfl (lv_at hl 0 rfl) ?_
      refine lv_sipush (v := nI 1000) hx hb dX4_termOfKey_15 (by decide) ?_
      refine tb_idiv hx hb dX4_termOfKey_18 (by omega) (by decide) (by decide) ?_
      refine lv_sipush (v := nI 1000) hx hb dX4_termOfKey_19 (by decide) ?_
      refine tb_irem hx hb dX4_termOfKey_22 (by omega) (by decide) (by decide) ?_
      refine lv_goto (tgt := 31) hx hb dX4_termOfKey_23 (by decide) ?_
      exact W.iret (v := nI ((x / 1000) % 1000)) hx hb hr (fun t ht hW => ⟨_, rfl, (by first | rw [tTerm, if_neg (by omega), if_pos c11] | rw [tTerm, if_neg (by omega), if_neg c11]), ht⟩) (fun q h => by cases h) dX4_termOfKey_31
  · refine lv_iload_n hx hb dX4_termOfKey_4 rfl (lv_at hl 0 rfl) ?_
    refine lv_ldc (v := nI 1000000) hx hb hown (hts _ w_107) dX4_termOfKey_5 ?_
    refine tb_idiv hx hb dX4_termOfKey_7 (by omega) (by decide) (by decide) ?_
    exact W.iret (v := nI (x / 1000000)) hx hb hr (fun t ht hW => ⟨_, rfl, (by rw [tTerm, if_pos c1]), ht⟩) (fun q h => by cases h) dX4_termOfKey_8
