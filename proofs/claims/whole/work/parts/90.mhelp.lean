set_option maxHeartbeats 4000000 in
set_option maxRecDepth 100000 in
theorem m_isOrder (l : Launch) (D : va_G) (ct : Nat → ClassId) (x : Int32) : Met l yX5_isOrder wsX5_isOrder ({ frames := 0, cells := 0, slots := 0, locals := 0 }) (tb_Pr D ct [.int x] []) (vp_Si (fun r => r = bB (decide (tRng x 6)))) 0 0 (fun _ => False) := by
  refine Met.ofW (cc := cX5_isOrder) (maxL := 1) (ret := (some .boolean)) (by decide) rfl ?_
  intro p e s m args below meth c s₁ B hml hv
  obtain ⟨rfl, hP, hK, hZ⟩ := hv
  have hx := B.exec
  have hb := B.bytes
  have hr := B.returns
  have hts0 := atoms_spec (ws := wsX5_isOrder) B.pre
  have hts : ∀ w9 ∈ aw, w9.before ([.int x] : List Value).toArray s = true := fun w9 h9 => hts0 w9 (List.mem_cons_of_mem _ h9)
  have hown : s.vm.findClass RX5 = some m.cls := findClass_of_methodNamed B.named
  have hlocks := B.notSynchronized
  have hS : va_S (fun _ => False) s.heap s.heap [] := va_S.rf
  have hP : va_P D vwCl [] s.heap := hP
  have hl := lv_entry ([.int x]) (n := 1) (Nat.le_of_ble_eq_true rfl)
  rw [lg_entry_eq]
  generalize (lg_sl ([.int x]) ++ List.replicate (1 - (lg_sl ([.int x])).length) Slot.unset).toArray = ls at hl ⊢
  have hl : lv_has ls 1 [(0, .int x)] := hl
  refine lv_iload_n hx hb dX5_isOrder_0 rfl (lv_at hl 0 rfl) ?_
  refine lv_if_lt (tgt := 14) hx hb dX5_isOrder_1 (by decide) (fun c1 => ?_) (fun c1 => ?_)
  · refine lv_iconst (v := nI 0) hx hb dX5_isOrder_14 (by decide) ?_
    exact W.zret (v := 0) hx hb hr (by decide) (fun t ht hW => ⟨_, rfl, (by first | exact bB_t (tRng_of (by decide) c1 c7) | exact bB_f (tRng_neg c1) | exact bB_f (tRng_big (by decide) c7)), ht⟩) (fun q h => by cases h) dX5_isOrder_15
  · refine lv_iload_n hx hb dX5_isOrder_4 rfl (lv_at hl 0 rfl) ?_
    refine lv_bipush (v := nI 6) hx hb dX5_isOrder_5 (by decide) ?_
    refine lv_icmp_ge (tgt := 14) hx hb dX5_isOrder_7 (by decide) (fun c7 => ?_) (fun c7 => ?_)
    · refine lv_iconst (v := nI 0) hx hb dX5_isOrder_14 (by decide) ?_
      exact W.zret (v := 0) hx hb hr (by decide) (fun t ht hW => ⟨_, rfl, (by first | exact bB_t (tRng_of (by decide) c1 c7) | exact bB_f (tRng_neg c1) | exact bB_f (tRng_big (by decide) c7)), ht⟩) (fun q h => by cases h) dX5_isOrder_15
    · refine lv_iconst (v := nI 1) hx hb dX5_isOrder_10 (by decide) ?_
      refine lv_goto (tgt := 15) hx hb dX5_isOrder_11 (by decide) ?_
      exact W.zret (v := 1) hx hb hr (by decide) (fun t ht hW => ⟨_, rfl, (by first | exact bB_t (tRng_of (by decide) c1 c7) | exact bB_f (tRng_neg c1) | exact bB_f (tRng_big (by decide) c7)), ht⟩) (fun q h => by cases h) dX5_isOrder_15

set_option maxHeartbeats 4000000 in
set_option maxRecDepth 100000 in
theorem m_isTerm (l : Launch) (D : va_G) (ct : Nat → ClassId) (x : Int32) : Met l yX5_isTerm wsX5_isTerm ({ frames := 0, cells := 0, slots := 0, locals := 0 }) (tb_Pr D ct [.int x] []) (vp_Si (fun r => r = bB (decide (tRng x 1000)))) 0 0 (fun _ => False) := by
  refine Met.ofW (cc := cX5_isTerm) (maxL := 1) (ret := (some .boolean)) (by decide) rfl ?_
  intro p e s m args below meth c s₁ B hml hv
  obtain ⟨rfl, hP, hK, hZ⟩ := hv
  have hx := B.exec
  have hb := B.bytes
  have hr := B.returns
  have hts0 := atoms_spec (ws := wsX5_isTerm) B.pre
  have hts : ∀ w9 ∈ aw, w9.before ([.int x] : List Value).toArray s = true := fun w9 h9 => hts0 w9 (List.mem_cons_of_mem _ h9)
  have hown : s.vm.findClass RX5 = some m.cls := findClass_of_methodNamed B.named
  have hlocks := B.notSynchronized
  have hS : va_S (fun _ => False) s.heap s.heap [] := va_S.rf
  have hP : va_P D vwCl [] s.heap := hP
  have hl := lv_entry ([.int x]) (n := 1) (Nat.le_of_ble_eq_true rfl)
  rw [lg_entry_eq]
  generalize (lg_sl ([.int x]) ++ List.replicate (1 - (lg_sl ([.int x])).length) Slot.unset).toArray = ls at hl ⊢
  have hl : lv_has ls 1 [(0, .int x)] := hl
  refine lv_iload_n hx hb dX5_isTerm_0 rfl (lv_at hl 0 rfl) ?_
  refine lv_if_lt (tgt := 15) hx hb dX5_isTerm_1 (by decide) (fun c1 => ?_) (fun c1 => ?_)
  · refine lv_iconst (v := nI 0) hx hb dX5_isTerm_15 (by decide) ?_
    exact W.zret (v := 0) hx hb hr (by decide) (fun t ht hW => ⟨_, rfl, (by first | exact bB_t (tRng_of (by decide) c1 c8) | exact bB_f (tRng_neg c1) | exact bB_f (tRng_big (by decide) c8)), ht⟩) (fun q h => by cases h) dX5_isTerm_16
  · refine lv_iload_n hx hb dX5_isTerm_4 rfl (lv_at hl 0 rfl) ?_
    refine lv_sipush (v := nI 1000) hx hb dX5_isTerm_5 (by decide) ?_
    refine lv_icmp_ge (tgt := 15) hx hb dX5_isTerm_8 (by decide) (fun c8 => ?_) (fun c8 => ?_)
    · refine lv_iconst (v := nI 0) hx hb dX5_isTerm_15 (by decide) ?_
      exact W.zret (v := 0) hx hb hr (by decide) (fun t ht hW => ⟨_, rfl, (by first | exact bB_t (tRng_of (by decide) c1 c8) | exact bB_f (tRng_neg c1) | exact bB_f (tRng_big (by decide) c8)), ht⟩) (fun q h => by cases h) dX5_isTerm_16
    · refine lv_iconst (v := nI 1) hx hb dX5_isTerm_11 (by decide) ?_
      refine lv_goto (tgt := 16) hx hb dX5_isTerm_12 (by decide) ?_
      exact W.zret (v := 1) hx hb hr (by decide) (fun t ht hW => ⟨_, rfl, (by first | exact bB_t (tRng_of (by decide) c1 c8) | exact bB_f (tRng_neg c1) | exact bB_f (tRng_big (by decide) c8)), ht⟩) (fun q h => by cases h) dX5_isTerm_16

set_option maxHeartbeats 4000000 in
set_option maxRecDepth 100000 in
theorem m_isVersion (l : Launch) (D : va_G) (ct : Nat → ClassId) (x : Int32) : Met l yX5_isVersion wsX5_isVersion ({ frames := 0, cells := 0, slots := 0, locals := 0 }) (tb_Pr D ct [.int x] []) (vp_Si (fun r => r = bB (decide (tRng x 1000001)))) 0 0 (fun _ => False) := by
  refine Met.ofW (cc := cX5_isVersion) (maxL := 1) (ret := (some .boolean)) (by decide) rfl ?_
  intro p e s m args below meth c s₁ B hml hv
  obtain ⟨rfl, hP, hK, hZ⟩ := hv
  have hx := B.exec
  have hb := B.bytes
  have hr := B.returns
  have hts0 := atoms_spec (ws := wsX5_isVersion) B.pre
  have hts : ∀ w9 ∈ aw, w9.before ([.int x] : List Value).toArray s = true := fun w9 h9 => hts0 w9 (List.mem_cons_of_mem _ h9)
  have hown : s.vm.findClass RX5 = some m.cls := findClass_of_methodNamed B.named
  have hlocks := B.notSynchronized
  have hS : va_S (fun _ => False) s.heap s.heap [] := va_S.rf
  have hP : va_P D vwCl [] s.heap := hP
  have hl := lv_entry ([.int x]) (n := 1) (Nat.le_of_ble_eq_true rfl)
  rw [lg_entry_eq]
  generalize (lg_sl ([.int x]) ++ List.replicate (1 - (lg_sl ([.int x])).length) Slot.unset).toArray = ls at hl ⊢
  have hl : lv_has ls 1 [(0, .int x)] := hl
  refine lv_iload_n hx hb dX5_isVersion_0 rfl (lv_at hl 0 rfl) ?_
  refine lv_if_lt (tgt := 14) hx hb dX5_isVersion_1 (by decide) (fun c1 => ?_) (fun c1 => ?_)
  · refine lv_iconst (v := nI 0) hx hb dX5_isVersion_14 (by decide) ?_
    exact W.zret (v := 0) hx hb hr (by decide) (fun t ht hW => ⟨_, rfl, (by first | exact bB_t (tRng_ofg (by decide) c1 c7) | exact bB_f (tRng_neg c1) | exact bB_f (tRng_bigg (by decide) c7)), ht⟩) (fun q h => by cases h) dX5_isVersion_15
  · refine lv_iload_n hx hb dX5_isVersion_4 rfl (lv_at hl 0 rfl) ?_
    refine lv_ldc (v := nI 1000000) hx hb hown (hts _ w_333) dX5_isVersion_5 ?_
    refine lv_icmp_gt (tgt := 14) hx hb dX5_isVersion_7 (by decide) (fun c7 => ?_) (fun c7 => ?_)
    · refine lv_iconst (v := nI 0) hx hb dX5_isVersion_14 (by decide) ?_
      exact W.zret (v := 0) hx hb hr (by decide) (fun t ht hW => ⟨_, rfl, (by first | exact bB_t (tRng_ofg (by decide) c1 c7) | exact bB_f (tRng_neg c1) | exact bB_f (tRng_bigg (by decide) c7)), ht⟩) (fun q h => by cases h) dX5_isVersion_15
    · refine lv_iconst (v := nI 1) hx hb dX5_isVersion_10 (by decide) ?_
      refine lv_goto (tgt := 15) hx hb dX5_isVersion_11 (by decide) ?_
      exact W.zret (v := 1) hx hb hr (by decide) (fun t ht hW => ⟨_, rfl, (by first | exact bB_t (tRng_ofg (by decide) c1 c7) | exact bB_f (tRng_neg c1) | exact bB_f (tRng_bigg (by decide) c7)), ht⟩) (fun q h => by cases h) dX5_isVersion_15

set_option maxHeartbeats 4000000 in
set_option maxRecDepth 100000 in
theorem m_isAny (l : Launch) (D : va_G) (ct : Nat → ClassId) (x : Int32) : Met l yX5_isAny wsX5_isAny ({ frames := 0, cells := 0, slots := 0, locals := 0 }) (tb_Pr D ct [.int x] []) (vp_Si (fun r => r = bB (decide (x = -1 ∨ tRng x 1000)))) 0 0 (fun _ => False) := by
  refine Met.ofW (cc := cX5_isAny) (maxL := 1) (ret := (some .boolean)) (by decide) rfl ?_
  intro p e s m args below meth c s₁ B hml hv
  obtain ⟨rfl, hP, hK, hZ⟩ := hv
  have hx := B.exec
  have hb := B.bytes
  have hr := B.returns
  have hts0 := atoms_spec (ws := wsX5_isAny) B.pre
  have hts : ∀ w9 ∈ aw, w9.before ([.int x] : List Value).toArray s = true := fun w9 h9 => hts0 w9 (List.mem_cons_of_mem _ h9)
  have hown : s.vm.findClass RX5 = some m.cls := findClass_of_methodNamed B.named
  have hlocks := B.notSynchronized
  have hS : va_S (fun _ => False) s.heap s.heap [] := va_S.rf
  have hP : va_P D vwCl [] s.heap := hP
  have hl := lv_entry ([.int x]) (n := 1) (Nat.le_of_ble_eq_true rfl)
  rw [lg_entry_eq]
  generalize (lg_sl ([.int x]) ++ List.replicate (1 - (lg_sl ([.int x])).length) Slot.unset).toArray = ls at hl ⊢
  have hl : lv_has ls 1 [(0, .int x)] := hl
  refine lv_iload_n hx hb dX5_isAny_0 rfl (lv_at hl 0 rfl) ?_
  refine lv_iconst (v := (-1)) hx hb dX5_isAny_1 (by decide) ?_
  refine lv_icmp_lt (tgt := 16) hx hb dX5_isAny_2 (by decide) (fun c2 => ?_) (fun c2 => ?_)
  · refine lv_iconst (v := nI 0) hx hb dX5_isAny_16 (by decide) ?_
    exact W.zret (v := 0) hx hb hr (by decide) (fun t ht hW => ⟨_, rfl, (by first | exact bB_t (tAny_of c2 c9) | exact bB_f (tAny_lo c2) | exact bB_f (tAny_hi c9)), ht⟩) (fun q h => by cases h) dX5_isAny_17
  · refine lv_iload_n hx hb dX5_isAny_5 rfl (lv_at hl 0 rfl) ?_
    refine lv_sipush (v := nI 1000) hx hb dX5_isAny_6 (by decide) ?_
    refine lv_icmp_ge (tgt := 16) hx hb dX5_isAny_9 (by decide) (fun c9 => ?_) (fun c9 => ?_)
    · refine lv_iconst (v := nI 0) hx hb dX5_isAny_16 (by decide) ?_
      exact W.zret (v := 0) hx hb hr (by decide) (fun t ht hW => ⟨_, rfl, (by first | exact bB_t (tAny_of c2 c9) | exact bB_f (tAny_lo c2) | exact bB_f (tAny_hi c9)), ht⟩) (fun q h => by cases h) dX5_isAny_17
    · refine lv_iconst (v := nI 1) hx hb dX5_isAny_12 (by decide) ?_
      refine lv_goto (tgt := 17) hx hb dX5_isAny_13 (by decide) ?_
      exact W.zret (v := 1) hx hb hr (by decide) (fun t ht hW => ⟨_, rfl, (by first | exact bB_t (tAny_of c2 c9) | exact bB_f (tAny_lo c2) | exact bB_f (tAny_hi c9)), ht⟩) (fun q h => by cases h) dX5_isAny_17

set_option maxHeartbeats 4000000 in
set_option maxRecDepth 100000 in
theorem m_part (l : Launch) (D : va_G) (ct : Nat → ClassId) (o : Nat) (i : Nat) (ho : o < 6) (hi : i < 3) : Met l yX5_part wsX5_part ({ frames := 0, cells := 0, slots := 0, locals := 0 }) (tb_Pr D ct [.int (nI o), .int (nI i)] []) (vp_Si (fun r => r = nI (taF (o * 3 + i)))) 0 0 (fun _ => False) := by
  refine Met.ofW (cc := cX5_part) (maxL := 5) (ret := (some .int)) (by decide) rfl ?_
  intro p e s m args below meth c s₁ B hml hv
  obtain ⟨rfl, hP, hK, hZ⟩ := hv
  have hx := B.exec
  have hb := B.bytes
  have hr := B.returns
  have hts0 := atoms_spec (ws := wsX5_part) B.pre
  have hts : ∀ w9 ∈ aw, w9.before ([.int (nI o), .int (nI i)] : List Value).toArray s = true := fun w9 h9 => hts0 w9 (List.mem_cons_of_mem _ h9)
  have hown : s.vm.findClass RX5 = some m.cls := findClass_of_methodNamed B.named
  have hlocks := B.notSynchronized
  have hS : va_S (fun _ => False) s.heap s.heap [] := va_S.rf
  have hP : va_P D vwCl [] s.heap := hP
  have hl := lv_entry ([.int (nI o), .int (nI i)]) (n := 5) (Nat.le_of_ble_eq_true rfl)
  rw [lg_entry_eq]
  generalize (lg_sl ([.int (nI o), .int (nI i)]) ++ List.replicate (5 - (lg_sl ([.int (nI o), .int (nI i)])).length) Slot.unset).toArray = ls at hl ⊢
  have hl : lv_has ls 5 [(0, .int (nI o)), (1, .int (nI i))] := hl
  obtain rfl | rfl | rfl | rfl | rfl | rfl : o = 0 ∨ o = 1 ∨ o = 2 ∨ o = 3 ∨ o = 4 ∨ o = 5 := by omega
  · skip
    obtain rfl | rfl | rfl : i = 0 ∨ i = 1 ∨ i = 2 := by omega
    · skip
      refine lv_iload_n hx hb dX5_part_0 rfl (lv_at hl 0 rfl) ?_
      refine lv_iconst (v := nI 2) hx hb dX5_part_1 (by decide) ?_
      refine tb_idiv hx hb dX5_part_2 (by omega) (by decide) (by decide) ?_
      refine lv_istore_n (lv' := [(2, .int (nI 0)), (0, .int (nI 0)), (1, .int (nI 0))]) hx hb dX5_part_3 rfl hl (by decide) rfl (fun ls hl => ?_)
      refine lv_iload_n hx hb dX5_part_4 rfl (lv_at hl 0 rfl) ?_
      refine tb_if_ne (tgt := 12) hx hb dX5_part_5 (by decide) (by omega) (fun c5 => ?_) (fun c5 => ?_)
      · exact absurd c5 (by decide)
      · refine lv_iconst (v := nI 1) hx hb dX5_part_8 (by decide) ?_
        refine lv_goto (tgt := 13) hx hb dX5_part_9 (by decide) ?_
        refine lv_istore_n (lv' := [(3, .int (nI 1)), (2, .int (nI 0)), (0, .int (nI 0)), (1, .int (nI 0))]) hx hb dX5_part_13 rfl hl (by decide) rfl (fun ls hl => ?_)
        refine lv_iconst (v := nI 3) hx hb dX5_part_14 (by decide) ?_
        refine lv_iload_n hx hb dX5_part_15 rfl (lv_at hl 1 rfl) ?_
        refine tb_isub hx hb dX5_part_16 (by omega) ?_
        refine lv_iload_n hx hb dX5_part_17 rfl (lv_at hl 0 rfl) ?_
        refine tb_isub hx hb dX5_part_18 (by omega) ?_
        refine lv_istore (lv' := [(4, .int (nI 2)), (3, .int (nI 1)), (2, .int (nI 0)), (0, .int (nI 0)), (1, .int (nI 0))]) hx hb dX5_part_19 hl (by decide) rfl (fun ls hl => ?_)
        refine lv_iload_n hx hb dX5_part_21 rfl (lv_at hl 4 rfl) ?_
        refine tb_if_ne (tgt := 29) hx hb dX5_part_22 (by decide) (by omega) (fun c22 => ?_) (fun c22 => ?_)
        · exact absurd c22 (by decide)
        · refine lv_iload_n hx hb dX5_part_25 rfl (lv_at hl 2 rfl) ?_
          refine lv_goto (tgt := 59) hx hb dX5_part_26 (by decide) ?_
          exact W.iret (v := nI 0) hx hb hr (fun t ht hW => ⟨_, rfl, (by decide), ht⟩) (fun q h => by cases h) dX5_part_59
    · skip
      refine lv_iload_n hx hb dX5_part_0 rfl (lv_at hl 0 rfl) ?_
      refine lv_iconst (v := nI 2) hx hb dX5_part_1 (by decide) ?_
      refine tb_idiv hx hb dX5_part_2 (by omega) (by decide) (by decide) ?_
      refine lv_istore_n (lv' := [(2, .int (nI 0)), (0, .int (nI 0)), (1, .int (nI 1))]) hx hb dX5_part_3 rfl hl (by decide) rfl (fun ls hl => ?_)
      refine lv_iload_n hx hb dX5_part_4 rfl (lv_at hl 0 rfl) ?_
      refine tb_if_ne (tgt := 12) hx hb dX5_part_5 (by decide) (by omega) (fun c5 => ?_) (fun c5 => ?_)
      · exact absurd c5 (by decide)
      · refine lv_iconst (v := nI 1) hx hb dX5_part_8 (by decide) ?_
        refine lv_goto (tgt := 13) hx hb dX5_part_9 (by decide) ?_
        refine lv_istore_n (lv' := [(3, .int (nI 1)), (2, .int (nI 0)), (0, .int (nI 0)), (1, .int (nI 1))]) hx hb dX5_part_13 rfl hl (by decide) rfl (fun ls hl => ?_)
        refine lv_iconst (v := nI 3) hx hb dX5_part_14 (by decide) ?_
        refine lv_iload_n hx hb dX5_part_15 rfl (lv_at hl 1 rfl) ?_
        refine tb_isub hx hb dX5_part_16 (by omega) ?_
        refine lv_iload_n hx hb dX5_part_17 rfl (lv_at hl 0 rfl) ?_
        refine tb_isub hx hb dX5_part_18 (by omega) ?_
        refine lv_istore (lv' := [(4, .int (nI 2)), (3, .int (nI 1)), (2, .int (nI 0)), (0, .int (nI 0)), (1, .int (nI 1))]) hx hb dX5_part_19 hl (by decide) rfl (fun ls hl => ?_)
        refine lv_iload_n hx hb dX5_part_21 rfl (lv_at hl 4 rfl) ?_
        refine tb_if_ne (tgt := 29) hx hb dX5_part_22 (by decide) (by omega) (fun c22 => ?_) (fun c22 => ?_)
        · refine lv_iload_n hx hb dX5_part_29 rfl (lv_at hl 4 rfl) ?_
          refine lv_iconst (v := nI 1) hx hb dX5_part_30 (by decide) ?_
          refine tb_icmp_ne (tgt := 38) hx hb dX5_part_31 (by decide) (by omega) (by omega) (fun c31 => ?_) (fun c31 => ?_)
          · exact absurd c31 (by decide)
          · refine lv_iconst (v := nI 1) hx hb dX5_part_34 (by decide) ?_
            refine lv_goto (tgt := 39) hx hb dX5_part_35 (by decide) ?_
            refine lv_iload_n hx hb dX5_part_39 rfl (lv_at hl 3 rfl) ?_
            refine lv_iconst (v := nI 2) hx hb dX5_part_40 (by decide) ?_
            refine tb_irem hx hb dX5_part_41 (by omega) (by decide) (by decide) ?_
            refine tb_if_ne (tgt := 49) hx hb dX5_part_42 (by decide) (by omega) (fun c42 => ?_) (fun c42 => ?_)
            · exact absurd c42 (by decide)
            · refine lv_iconst (v := nI 1) hx hb dX5_part_45 (by decide) ?_
              refine lv_goto (tgt := 50) hx hb dX5_part_46 (by decide) ?_
              refine tb_icmp_ne (tgt := 57) hx hb dX5_part_50 (by decide) (by omega) (by omega) (fun c50 => ?_) (fun c50 => ?_)
              · exact absurd c50 (by decide)
              · refine lv_iload_n hx hb dX5_part_53 rfl (lv_at hl 1 rfl) ?_
                refine lv_goto (tgt := 59) hx hb dX5_part_54 (by decide) ?_
                exact W.iret (v := nI 1) hx hb hr (fun t ht hW => ⟨_, rfl, (by decide), ht⟩) (fun q h => by cases h) dX5_part_59
        · exact absurd c22 (by decide)
    · skip
      refine lv_iload_n hx hb dX5_part_0 rfl (lv_at hl 0 rfl) ?_
      refine lv_iconst (v := nI 2) hx hb dX5_part_1 (by decide) ?_
      refine tb_idiv hx hb dX5_part_2 (by omega) (by decide) (by decide) ?_
      refine lv_istore_n (lv' := [(2, .int (nI 0)), (0, .int (nI 0)), (1, .int (nI 2))]) hx hb dX5_part_3 rfl hl (by decide) rfl (fun ls hl => ?_)
      refine lv_iload_n hx hb dX5_part_4 rfl (lv_at hl 0 rfl) ?_
      refine tb_if_ne (tgt := 12) hx hb dX5_part_5 (by decide) (by omega) (fun c5 => ?_) (fun c5 => ?_)
      · exact absurd c5 (by decide)
      · refine lv_iconst (v := nI 1) hx hb dX5_part_8 (by decide) ?_
        refine lv_goto (tgt := 13) hx hb dX5_part_9 (by decide) ?_
        refine lv_istore_n (lv' := [(3, .int (nI 1)), (2, .int (nI 0)), (0, .int (nI 0)), (1, .int (nI 2))]) hx hb dX5_part_13 rfl hl (by decide) rfl (fun ls hl => ?_)
        refine lv_iconst (v := nI 3) hx hb dX5_part_14 (by decide) ?_
        refine lv_iload_n hx hb dX5_part_15 rfl (lv_at hl 1 rfl) ?_
        refine tb_isub hx hb dX5_part_16 (by omega) ?_
        refine lv_iload_n hx hb dX5_part_17 rfl (lv_at hl 0 rfl) ?_
        refine tb_isub hx hb dX5_part_18 (by omega) ?_
        refine lv_istore (lv' := [(4, .int (nI 2)), (3, .int (nI 1)), (2, .int (nI 0)), (0, .int (nI 0)), (1, .int (nI 2))]) hx hb dX5_part_19 hl (by decide) rfl (fun ls hl => ?_)
        refine lv_iload_n hx hb dX5_part_21 rfl (lv_at hl 4 rfl) ?_
        refine tb_if_ne (tgt := 29) hx hb dX5_part_22 (by decide) (by omega) (fun c22 => ?_) (fun c22 => ?_)
        · refine lv_iload_n hx hb dX5_part_29 rfl (lv_at hl 4 rfl) ?_
          refine lv_iconst (v := nI 1) hx hb dX5_part_30 (by decide) ?_
          refine tb_icmp_ne (tgt := 38) hx hb dX5_part_31 (by decide) (by omega) (by omega) (fun c31 => ?_) (fun c31 => ?_)
          · refine lv_iconst (v := nI 0) hx hb dX5_part_38 (by decide) ?_
            refine lv_iload_n hx hb dX5_part_39 rfl (lv_at hl 3 rfl) ?_
            refine lv_iconst (v := nI 2) hx hb dX5_part_40 (by decide) ?_
            refine tb_irem hx hb dX5_part_41 (by omega) (by decide) (by decide) ?_
            refine tb_if_ne (tgt := 49) hx hb dX5_part_42 (by decide) (by omega) (fun c42 => ?_) (fun c42 => ?_)
            · exact absurd c42 (by decide)
            · refine lv_iconst (v := nI 1) hx hb dX5_part_45 (by decide) ?_
              refine lv_goto (tgt := 50) hx hb dX5_part_46 (by decide) ?_
              refine tb_icmp_ne (tgt := 57) hx hb dX5_part_50 (by decide) (by omega) (by omega) (fun c50 => ?_) (fun c50 => ?_)
              · refine lv_iload hx hb dX5_part_57 (lv_at hl 0 rfl) ?_
                exact W.iret (v := nI 2) hx hb hr (fun t ht hW => ⟨_, rfl, (by decide), ht⟩) (fun q h => by cases h) dX5_part_59
              · exact absurd c50 (by decide)
          · exact absurd c31 (by decide)
        · exact absurd c22 (by decide)
  · skip
    obtain rfl | rfl | rfl : i = 0 ∨ i = 1 ∨ i = 2 := by omega
    · skip
      refine lv_iload_n hx hb dX5_part_0 rfl (lv_at hl 0 rfl) ?_
      refine lv_iconst (v := nI 2) hx hb dX5_part_1 (by decide) ?_
      refine tb_idiv hx hb dX5_part_2 (by omega) (by decide) (by decide) ?_
      refine lv_istore_n (lv' := [(2, .int (nI 0)), (0, .int (nI 1)), (1, .int (nI 0))]) hx hb dX5_part_3 rfl hl (by decide) rfl (fun ls hl => ?_)
      refine lv_iload_n hx hb dX5_part_4 rfl (lv_at hl 0 rfl) ?_
      refine tb_if_ne (tgt := 12) hx hb dX5_part_5 (by decide) (by omega) (fun c5 => ?_) (fun c5 => ?_)
      · exact absurd c5 (by decide)
      · refine lv_iconst (v := nI 1) hx hb dX5_part_8 (by decide) ?_
        refine lv_goto (tgt := 13) hx hb dX5_part_9 (by decide) ?_
        refine lv_istore_n (lv' := [(3, .int (nI 1)), (2, .int (nI 0)), (0, .int (nI 1)), (1, .int (nI 0))]) hx hb dX5_part_13 rfl hl (by decide) rfl (fun ls hl => ?_)
        refine lv_iconst (v := nI 3) hx hb dX5_part_14 (by decide) ?_
        refine lv_iload_n hx hb dX5_part_15 rfl (lv_at hl 1 rfl) ?_
        refine tb_isub hx hb dX5_part_16 (by omega) ?_
        refine lv_iload_n hx hb dX5_part_17 rfl (lv_at hl 0 rfl) ?_
        refine tb_isub hx hb dX5_part_18 (by omega) ?_
        refine lv_istore (lv' := [(4, .int (nI 2)), (3, .int (nI 1)), (2, .int (nI 0)), (0, .int (nI 1)), (1, .int (nI 0))]) hx hb dX5_part_19 hl (by decide) rfl (fun ls hl => ?_)
        refine lv_iload_n hx hb dX5_part_21 rfl (lv_at hl 4 rfl) ?_
        refine tb_if_ne (tgt := 29) hx hb dX5_part_22 (by decide) (by omega) (fun c22 => ?_) (fun c22 => ?_)
        · exact absurd c22 (by decide)
        · refine lv_iload_n hx hb dX5_part_25 rfl (lv_at hl 2 rfl) ?_
          refine lv_goto (tgt := 59) hx hb dX5_part_26 (by decide) ?_
          exact W.iret (v := nI 0) hx hb hr (fun t ht hW => ⟨_, rfl, (by decide), ht⟩) (fun q h => by cases h) dX5_part_59
    · skip
      refine lv_iload_n hx hb dX5_part_0 rfl (lv_at hl 0 rfl) ?_
      refine lv_iconst (v := nI 2) hx hb dX5_part_1 (by decide) ?_
      refine tb_idiv hx hb dX5_part_2 (by omega) (by decide) (by decide) ?_
      refine lv_istore_n (lv' := [(2, .int (nI 0)), (0, .int (nI 1)), (1, .int (nI 1))]) hx hb dX5_part_3 rfl hl (by decide) rfl (fun ls hl => ?_)
      refine lv_iload_n hx hb dX5_part_4 rfl (lv_at hl 0 rfl) ?_
      refine tb_if_ne (tgt := 12) hx hb dX5_part_5 (by decide) (by omega) (fun c5 => ?_) (fun c5 => ?_)
      · exact absurd c5 (by decide)
      · refine lv_iconst (v := nI 1) hx hb dX5_part_8 (by decide) ?_
        refine lv_goto (tgt := 13) hx hb dX5_part_9 (by decide) ?_
        refine lv_istore_n (lv' := [(3, .int (nI 1)), (2, .int (nI 0)), (0, .int (nI 1)), (1, .int (nI 1))]) hx hb dX5_part_13 rfl hl (by decide) rfl (fun ls hl => ?_)
        refine lv_iconst (v := nI 3) hx hb dX5_part_14 (by decide) ?_
        refine lv_iload_n hx hb dX5_part_15 rfl (lv_at hl 1 rfl) ?_
        refine tb_isub hx hb dX5_part_16 (by omega) ?_
        refine lv_iload_n hx hb dX5_part_17 rfl (lv_at hl 0 rfl) ?_
        refine tb_isub hx hb dX5_part_18 (by omega) ?_
        refine lv_istore (lv' := [(4, .int (nI 2)), (3, .int (nI 1)), (2, .int (nI 0)), (0, .int (nI 1)), (1, .int (nI 1))]) hx hb dX5_part_19 hl (by decide) rfl (fun ls hl => ?_)
        refine lv_iload_n hx hb dX5_part_21 rfl (lv_at hl 4 rfl) ?_
        refine tb_if_ne (tgt := 29) hx hb dX5_part_22 (by decide) (by omega) (fun c22 => ?_) (fun c22 => ?_)
        · refine lv_iload_n hx hb dX5_part_29 rfl (lv_at hl 4 rfl) ?_
          refine lv_iconst (v := nI 1) hx hb dX5_part_30 (by decide) ?_
          refine tb_icmp_ne (tgt := 38) hx hb dX5_part_31 (by decide) (by omega) (by omega) (fun c31 => ?_) (fun c31 => ?_)
          · exact absurd c31 (by decide)
          · refine lv_iconst (v := nI 1) hx hb dX5_part_34 (by decide) ?_
            refine lv_goto (tgt := 39) hx hb dX5_part_35 (by decide) ?_
            refine lv_iload_n hx hb dX5_part_39 rfl (lv_at hl 3 rfl) ?_
            refine lv_iconst (v := nI 2) hx hb dX5_part_40 (by decide) ?_
            refine tb_irem hx hb dX5_part_41 (by omega) (by decide) (by decide) ?_
            refine tb_if_ne (tgt := 49) hx hb dX5_part_42 (by decide) (by omega) (fun c42 => ?_) (fun c42 => ?_)
            · refine lv_iconst (v := nI 0) hx hb dX5_part_49 (by decide) ?_
              refine tb_icmp_ne (tgt := 57) hx hb dX5_part_50 (by decide) (by omega) (by omega) (fun c50 => ?_) (fun c50 => ?_)
              · refine lv_iload hx hb dX5_part_57 (lv_at hl 0 rfl) ?_
                exact W.iret (v := nI 2) hx hb hr (fun t ht hW => ⟨_, rfl, (by decide), ht⟩) (fun q h => by cases h) dX5_part_59
              · exact absurd c50 (by decide)
            · exact absurd c42 (by decide)
        · exact absurd c22 (by decide)
    · skip
      refine lv_iload_n hx hb dX5_part_0 rfl (lv_at hl 0 rfl) ?_
      refine lv_iconst (v := nI 2) hx hb dX5_part_1 (by decide) ?_
      refine tb_idiv hx hb dX5_part_2 (by omega) (by decide) (by decide) ?_
      refine lv_istore_n (lv' := [(2, .int (nI 0)), (0, .int (nI 1)), (1, .int (nI 2))]) hx hb dX5_part_3 rfl hl (by decide) rfl (fun ls hl => ?_)
      refine lv_iload_n hx hb dX5_part_4 rfl (lv_at hl 0 rfl) ?_
      refine tb_if_ne (tgt := 12) hx hb dX5_part_5 (by decide) (by omega) (fun c5 => ?_) (fun c5 => ?_)
      · exact absurd c5 (by decide)
      · refine lv_iconst (v := nI 1) hx hb dX5_part_8 (by decide) ?_
        refine lv_goto (tgt := 13) hx hb dX5_part_9 (by decide) ?_
        refine lv_istore_n (lv' := [(3, .int (nI 1)), (2, .int (nI 0)), (0, .int (nI 1)), (1, .int (nI 2))]) hx hb dX5_part_13 rfl hl (by decide) rfl (fun ls hl => ?_)
        refine lv_iconst (v := nI 3) hx hb dX5_part_14 (by decide) ?_
        refine lv_iload_n hx hb dX5_part_15 rfl (lv_at hl 1 rfl) ?_
        refine tb_isub hx hb dX5_part_16 (by omega) ?_
        refine lv_iload_n hx hb dX5_part_17 rfl (lv_at hl 0 rfl) ?_
        refine tb_isub hx hb dX5_part_18 (by omega) ?_
        refine lv_istore (lv' := [(4, .int (nI 2)), (3, .int (nI 1)), (2, .int (nI 0)), (0, .int (nI 1)), (1, .int (nI 2))]) hx hb dX5_part_19 hl (by decide) rfl (fun ls hl => ?_)
        refine lv_iload_n hx hb dX5_part_21 rfl (lv_at hl 4 rfl) ?_
        refine tb_if_ne (tgt := 29) hx hb dX5_part_22 (by decide) (by omega) (fun c22 => ?_) (fun c22 => ?_)
        · refine lv_iload_n hx hb dX5_part_29 rfl (lv_at hl 4 rfl) ?_
          refine lv_iconst (v := nI 1) hx hb dX5_part_30 (by decide) ?_
          refine tb_icmp_ne (tgt := 38) hx hb dX5_part_31 (by decide) (by omega) (by omega) (fun c31 => ?_) (fun c31 => ?_)
          · refine lv_iconst (v := nI 0) hx hb dX5_part_38 (by decide) ?_
            refine lv_iload_n hx hb dX5_part_39 rfl (lv_at hl 3 rfl) ?_
            refine lv_iconst (v := nI 2) hx hb dX5_part_40 (by decide) ?_
            refine tb_irem hx hb dX5_part_41 (by omega) (by decide) (by decide) ?_
            refine tb_if_ne (tgt := 49) hx hb dX5_part_42 (by decide) (by omega) (fun c42 => ?_) (fun c42 => ?_)
            · refine lv_iconst (v := nI 0) hx hb dX5_part_49 (by decide) ?_
              refine tb_icmp_ne (tgt := 57) hx hb dX5_part_50 (by decide) (by omega) (by omega) (fun c50 => ?_) (fun c50 => ?_)
              · exact absurd c50 (by decide)
              · refine lv_iload_n hx hb dX5_part_53 rfl (lv_at hl 1 rfl) ?_
                refine lv_goto (tgt := 59) hx hb dX5_part_54 (by decide) ?_
                exact W.iret (v := nI 1) hx hb hr (fun t ht hW => ⟨_, rfl, (by decide), ht⟩) (fun q h => by cases h) dX5_part_59
            · exact absurd c42 (by decide)
          · exact absurd c31 (by decide)
        · exact absurd c22 (by decide)
  · skip
    obtain rfl | rfl | rfl : i = 0 ∨ i = 1 ∨ i = 2 := by omega
    · skip
      refine lv_iload_n hx hb dX5_part_0 rfl (lv_at hl 0 rfl) ?_
      refine lv_iconst (v := nI 2) hx hb dX5_part_1 (by decide) ?_
      refine tb_idiv hx hb dX5_part_2 (by omega) (by decide) (by decide) ?_
      refine lv_istore_n (lv' := [(2, .int (nI 1)), (0, .int (nI 2)), (1, .int (nI 0))]) hx hb dX5_part_3 rfl hl (by decide) rfl (fun ls hl => ?_)
      refine lv_iload_n hx hb dX5_part_4 rfl (lv_at hl 0 rfl) ?_
      refine tb_if_ne (tgt := 12) hx hb dX5_part_5 (by decide) (by omega) (fun c5 => ?_) (fun c5 => ?_)
      · refine lv_iconst (v := nI 0) hx hb dX5_part_12 (by decide) ?_
        refine lv_istore_n (lv' := [(3, .int (nI 0)), (2, .int (nI 1)), (0, .int (nI 2)), (1, .int (nI 0))]) hx hb dX5_part_13 rfl hl (by decide) rfl (fun ls hl => ?_)
        refine lv_iconst (v := nI 3) hx hb dX5_part_14 (by decide) ?_
        refine lv_iload_n hx hb dX5_part_15 rfl (lv_at hl 1 rfl) ?_
        refine tb_isub hx hb dX5_part_16 (by omega) ?_
        refine lv_iload_n hx hb dX5_part_17 rfl (lv_at hl 0 rfl) ?_
        refine tb_isub hx hb dX5_part_18 (by omega) ?_
        refine lv_istore (lv' := [(4, .int (nI 2)), (3, .int (nI 0)), (2, .int (nI 1)), (0, .int (nI 2)), (1, .int (nI 0))]) hx hb dX5_part_19 hl (by decide) rfl (fun ls hl => ?_)
        refine lv_iload_n hx hb dX5_part_21 rfl (lv_at hl 4 rfl) ?_
        refine tb_if_ne (tgt := 29) hx hb dX5_part_22 (by decide) (by omega) (fun c22 => ?_) (fun c22 => ?_)
        · exact absurd c22 (by decide)
        · refine lv_iload_n hx hb dX5_part_25 rfl (lv_at hl 2 rfl) ?_
          refine lv_goto (tgt := 59) hx hb dX5_part_26 (by decide) ?_
          exact W.iret (v := nI 1) hx hb hr (fun t ht hW => ⟨_, rfl, (by decide), ht⟩) (fun q h => by cases h) dX5_part_59
      · exact absurd c5 (by decide)
    · skip
      refine lv_iload_n hx hb dX5_part_0 rfl (lv_at hl 0 rfl) ?_
      refine lv_iconst (v := nI 2) hx hb dX5_part_1 (by decide) ?_
      refine tb_idiv hx hb dX5_part_2 (by omega) (by decide) (by decide) ?_
      refine lv_istore_n (lv' := [(2, .int (nI 1)), (0, .int (nI 2)), (1, .int (nI 1))]) hx hb dX5_part_3 rfl hl (by decide) rfl (fun ls hl => ?_)
      refine lv_iload_n hx hb dX5_part_4 rfl (lv_at hl 0 rfl) ?_
      refine tb_if_ne (tgt := 12) hx hb dX5_part_5 (by decide) (by omega) (fun c5 => ?_) (fun c5 => ?_)
      · refine lv_iconst (v := nI 0) hx hb dX5_part_12 (by decide) ?_
        refine lv_istore_n (lv' := [(3, .int (nI 0)), (2, .int (nI 1)), (0, .int (nI 2)), (1, .int (nI 1))]) hx hb dX5_part_13 rfl hl (by decide) rfl (fun ls hl => ?_)
        refine lv_iconst (v := nI 3) hx hb dX5_part_14 (by decide) ?_
        refine lv_iload_n hx hb dX5_part_15 rfl (lv_at hl 1 rfl) ?_
        refine tb_isub hx hb dX5_part_16 (by omega) ?_
        refine lv_iload_n hx hb dX5_part_17 rfl (lv_at hl 0 rfl) ?_
        refine tb_isub hx hb dX5_part_18 (by omega) ?_
        refine lv_istore (lv' := [(4, .int (nI 2)), (3, .int (nI 0)), (2, .int (nI 1)), (0, .int (nI 2)), (1, .int (nI 1))]) hx hb dX5_part_19 hl (by decide) rfl (fun ls hl => ?_)
        refine lv_iload_n hx hb dX5_part_21 rfl (lv_at hl 4 rfl) ?_
        refine tb_if_ne (tgt := 29) hx hb dX5_part_22 (by decide) (by omega) (fun c22 => ?_) (fun c22 => ?_)
        · refine lv_iload_n hx hb dX5_part_29 rfl (lv_at hl 4 rfl) ?_
          refine lv_iconst (v := nI 1) hx hb dX5_part_30 (by decide) ?_
          refine tb_icmp_ne (tgt := 38) hx hb dX5_part_31 (by decide) (by omega) (by omega) (fun c31 => ?_) (fun c31 => ?_)
          · exact absurd c31 (by decide)
          · refine lv_iconst (v := nI 1) hx hb dX5_part_34 (by decide) ?_
            refine lv_goto (tgt := 39) hx hb dX5_part_35 (by decide) ?_
            refine lv_iload_n hx hb dX5_part_39 rfl (lv_at hl 3 rfl) ?_
            refine lv_iconst (v := nI 2) hx hb dX5_part_40 (by decide) ?_
            refine tb_irem hx hb dX5_part_41 (by omega) (by decide) (by decide) ?_
            refine tb_if_ne (tgt := 49) hx hb dX5_part_42 (by decide) (by omega) (fun c42 => ?_) (fun c42 => ?_)
            · exact absurd c42 (by decide)
            · refine lv_iconst (v := nI 1) hx hb dX5_part_45 (by decide) ?_
              refine lv_goto (tgt := 50) hx hb dX5_part_46 (by decide) ?_
              refine tb_icmp_ne (tgt := 57) hx hb dX5_part_50 (by decide) (by omega) (by omega) (fun c50 => ?_) (fun c50 => ?_)
              · exact absurd c50 (by decide)
              · refine lv_iload_n hx hb dX5_part_53 rfl (lv_at hl 1 rfl) ?_
                refine lv_goto (tgt := 59) hx hb dX5_part_54 (by decide) ?_
                exact W.iret (v := nI 0) hx hb hr (fun t ht hW => ⟨_, rfl, (by decide), ht⟩) (fun q h => by cases h) dX5_part_59
        · exact absurd c22 (by decide)
      · exact absurd c5 (by decide)
    · skip
      refine lv_iload_n hx hb dX5_part_0 rfl (lv_at hl 0 rfl) ?_
      refine lv_iconst (v := nI 2) hx hb dX5_part_1 (by decide) ?_
      refine tb_idiv hx hb dX5_part_2 (by omega) (by decide) (by decide) ?_
      refine lv_istore_n (lv' := [(2, .int (nI 1)), (0, .int (nI 2)), (1, .int (nI 2))]) hx hb dX5_part_3 rfl hl (by decide) rfl (fun ls hl => ?_)
      refine lv_iload_n hx hb dX5_part_4 rfl (lv_at hl 0 rfl) ?_
      refine tb_if_ne (tgt := 12) hx hb dX5_part_5 (by decide) (by omega) (fun c5 => ?_) (fun c5 => ?_)
      · refine lv_iconst (v := nI 0) hx hb dX5_part_12 (by decide) ?_
        refine lv_istore_n (lv' := [(3, .int (nI 0)), (2, .int (nI 1)), (0, .int (nI 2)), (1, .int (nI 2))]) hx hb dX5_part_13 rfl hl (by decide) rfl (fun ls hl => ?_)
        refine lv_iconst (v := nI 3) hx hb dX5_part_14 (by decide) ?_
        refine lv_iload_n hx hb dX5_part_15 rfl (lv_at hl 1 rfl) ?_
        refine tb_isub hx hb dX5_part_16 (by omega) ?_
        refine lv_iload_n hx hb dX5_part_17 rfl (lv_at hl 0 rfl) ?_
        refine tb_isub hx hb dX5_part_18 (by omega) ?_
        refine lv_istore (lv' := [(4, .int (nI 2)), (3, .int (nI 0)), (2, .int (nI 1)), (0, .int (nI 2)), (1, .int (nI 2))]) hx hb dX5_part_19 hl (by decide) rfl (fun ls hl => ?_)
        refine lv_iload_n hx hb dX5_part_21 rfl (lv_at hl 4 rfl) ?_
        refine tb_if_ne (tgt := 29) hx hb dX5_part_22 (by decide) (by omega) (fun c22 => ?_) (fun c22 => ?_)
        · refine lv_iload_n hx hb dX5_part_29 rfl (lv_at hl 4 rfl) ?_
          refine lv_iconst (v := nI 1) hx hb dX5_part_30 (by decide) ?_
          refine tb_icmp_ne (tgt := 38) hx hb dX5_part_31 (by decide) (by omega) (by omega) (fun c31 => ?_) (fun c31 => ?_)
          · refine lv_iconst (v := nI 0) hx hb dX5_part_38 (by decide) ?_
            refine lv_iload_n hx hb dX5_part_39 rfl (lv_at hl 3 rfl) ?_
            refine lv_iconst (v := nI 2) hx hb dX5_part_40 (by decide) ?_
            refine tb_irem hx hb dX5_part_41 (by omega) (by decide) (by decide) ?_
            refine tb_if_ne (tgt := 49) hx hb dX5_part_42 (by decide) (by omega) (fun c42 => ?_) (fun c42 => ?_)
            · exact absurd c42 (by decide)
            · refine lv_iconst (v := nI 1) hx hb dX5_part_45 (by decide) ?_
              refine lv_goto (tgt := 50) hx hb dX5_part_46 (by decide) ?_
              refine tb_icmp_ne (tgt := 57) hx hb dX5_part_50 (by decide) (by omega) (by omega) (fun c50 => ?_) (fun c50 => ?_)
              · refine lv_iload hx hb dX5_part_57 (lv_at hl 0 rfl) ?_
                exact W.iret (v := nI 2) hx hb hr (fun t ht hW => ⟨_, rfl, (by decide), ht⟩) (fun q h => by cases h) dX5_part_59
              · exact absurd c50 (by decide)
          · exact absurd c31 (by decide)
        · exact absurd c22 (by decide)
      · exact absurd c5 (by decide)
  · skip
    obtain rfl | rfl | rfl : i = 0 ∨ i = 1 ∨ i = 2 := by omega
    · skip
      refine lv_iload_n hx hb dX5_part_0 rfl (lv_at hl 0 rfl) ?_
      refine lv_iconst (v := nI 2) hx hb dX5_part_1 (by decide) ?_
      refine tb_idiv hx hb dX5_part_2 (by omega) (by decide) (by decide) ?_
      refine lv_istore_n (lv' := [(2, .int (nI 1)), (0, .int (nI 3)), (1, .int (nI 0))]) hx hb dX5_part_3 rfl hl (by decide) rfl (fun ls hl => ?_)
      refine lv_iload_n hx hb dX5_part_4 rfl (lv_at hl 0 rfl) ?_
      refine tb_if_ne (tgt := 12) hx hb dX5_part_5 (by decide) (by omega) (fun c5 => ?_) (fun c5 => ?_)
      · refine lv_iconst (v := nI 0) hx hb dX5_part_12 (by decide) ?_
        refine lv_istore_n (lv' := [(3, .int (nI 0)), (2, .int (nI 1)), (0, .int (nI 3)), (1, .int (nI 0))]) hx hb dX5_part_13 rfl hl (by decide) rfl (fun ls hl => ?_)
        refine lv_iconst (v := nI 3) hx hb dX5_part_14 (by decide) ?_
        refine lv_iload_n hx hb dX5_part_15 rfl (lv_at hl 1 rfl) ?_
        refine tb_isub hx hb dX5_part_16 (by omega) ?_
        refine lv_iload_n hx hb dX5_part_17 rfl (lv_at hl 0 rfl) ?_
        refine tb_isub hx hb dX5_part_18 (by omega) ?_
        refine lv_istore (lv' := [(4, .int (nI 2)), (3, .int (nI 0)), (2, .int (nI 1)), (0, .int (nI 3)), (1, .int (nI 0))]) hx hb dX5_part_19 hl (by decide) rfl (fun ls hl => ?_)
        refine lv_iload_n hx hb dX5_part_21 rfl (lv_at hl 4 rfl) ?_
        refine tb_if_ne (tgt := 29) hx hb dX5_part_22 (by decide) (by omega) (fun c22 => ?_) (fun c22 => ?_)
        · exact absurd c22 (by decide)
        · refine lv_iload_n hx hb dX5_part_25 rfl (lv_at hl 2 rfl) ?_
          refine lv_goto (tgt := 59) hx hb dX5_part_26 (by decide) ?_
          exact W.iret (v := nI 1) hx hb hr (fun t ht hW => ⟨_, rfl, (by decide), ht⟩) (fun q h => by cases h) dX5_part_59
      · exact absurd c5 (by decide)
    · skip
      refine lv_iload_n hx hb dX5_part_0 rfl (lv_at hl 0 rfl) ?_
      refine lv_iconst (v := nI 2) hx hb dX5_part_1 (by decide) ?_
      refine tb_idiv hx hb dX5_part_2 (by omega) (by decide) (by decide) ?_
      refine lv_istore_n (lv' := [(2, .int (nI 1)), (0, .int (nI 3)), (1, .int (nI 1))]) hx hb dX5_part_3 rfl hl (by decide) rfl (fun ls hl => ?_)
      refine lv_iload_n hx hb dX5_part_4 rfl (lv_at hl 0 rfl) ?_
      refine tb_if_ne (tgt := 12) hx hb dX5_part_5 (by decide) (by omega) (fun c5 => ?_) (fun c5 => ?_)
      · refine lv_iconst (v := nI 0) hx hb dX5_part_12 (by decide) ?_
        refine lv_istore_n (lv' := [(3, .int (nI 0)), (2, .int (nI 1)), (0, .int (nI 3)), (1, .int (nI 1))]) hx hb dX5_part_13 rfl hl (by decide) rfl (fun ls hl => ?_)
        refine lv_iconst (v := nI 3) hx hb dX5_part_14 (by decide) ?_
        refine lv_iload_n hx hb dX5_part_15 rfl (lv_at hl 1 rfl) ?_
        refine tb_isub hx hb dX5_part_16 (by omega) ?_
        refine lv_iload_n hx hb dX5_part_17 rfl (lv_at hl 0 rfl) ?_
        refine tb_isub hx hb dX5_part_18 (by omega) ?_
        refine lv_istore (lv' := [(4, .int (nI 2)), (3, .int (nI 0)), (2, .int (nI 1)), (0, .int (nI 3)), (1, .int (nI 1))]) hx hb dX5_part_19 hl (by decide) rfl (fun ls hl => ?_)
        refine lv_iload_n hx hb dX5_part_21 rfl (lv_at hl 4 rfl) ?_
        refine tb_if_ne (tgt := 29) hx hb dX5_part_22 (by decide) (by omega) (fun c22 => ?_) (fun c22 => ?_)
        · refine lv_iload_n hx hb dX5_part_29 rfl (lv_at hl 4 rfl) ?_
          refine lv_iconst (v := nI 1) hx hb dX5_part_30 (by decide) ?_
          refine tb_icmp_ne (tgt := 38) hx hb dX5_part_31 (by decide) (by omega) (by omega) (fun c31 => ?_) (fun c31 => ?_)
          · exact absurd c31 (by decide)
          · refine lv_iconst (v := nI 1) hx hb dX5_part_34 (by decide) ?_
            refine lv_goto (tgt := 39) hx hb dX5_part_35 (by decide) ?_
            refine lv_iload_n hx hb dX5_part_39 rfl (lv_at hl 3 rfl) ?_
            refine lv_iconst (v := nI 2) hx hb dX5_part_40 (by decide) ?_
            refine tb_irem hx hb dX5_part_41 (by omega) (by decide) (by decide) ?_
            refine tb_if_ne (tgt := 49) hx hb dX5_part_42 (by decide) (by omega) (fun c42 => ?_) (fun c42 => ?_)
            · refine lv_iconst (v := nI 0) hx hb dX5_part_49 (by decide) ?_
              refine tb_icmp_ne (tgt := 57) hx hb dX5_part_50 (by decide) (by omega) (by omega) (fun c50 => ?_) (fun c50 => ?_)
              · refine lv_iload hx hb dX5_part_57 (lv_at hl 0 rfl) ?_
                exact W.iret (v := nI 2) hx hb hr (fun t ht hW => ⟨_, rfl, (by decide), ht⟩) (fun q h => by cases h) dX5_part_59
              · exact absurd c50 (by decide)
            · exact absurd c42 (by decide)
        · exact absurd c22 (by decide)
      · exact absurd c5 (by decide)
    · skip
      refine lv_iload_n hx hb dX5_part_0 rfl (lv_at hl 0 rfl) ?_
      refine lv_iconst (v := nI 2) hx hb dX5_part_1 (by decide) ?_
      refine tb_idiv hx hb dX5_part_2 (by omega) (by decide) (by decide) ?_
      refine lv_istore_n (lv' := [(2, .int (nI 1)), (0, .int (nI 3)), (1, .int (nI 2))]) hx hb dX5_part_3 rfl hl (by decide) rfl (fun ls hl => ?_)
      refine lv_iload_n hx hb dX5_part_4 rfl (lv_at hl 0 rfl) ?_
      refine tb_if_ne (tgt := 12) hx hb dX5_part_5 (by decide) (by omega) (fun c5 => ?_) (fun c5 => ?_)
      · refine lv_iconst (v := nI 0) hx hb dX5_part_12 (by decide) ?_
        refine lv_istore_n (lv' := [(3, .int (nI 0)), (2, .int (nI 1)), (0, .int (nI 3)), (1, .int (nI 2))]) hx hb dX5_part_13 rfl hl (by decide) rfl (fun ls hl => ?_)
        refine lv_iconst (v := nI 3) hx hb dX5_part_14 (by decide) ?_
        refine lv_iload_n hx hb dX5_part_15 rfl (lv_at hl 1 rfl) ?_
        refine tb_isub hx hb dX5_part_16 (by omega) ?_
        refine lv_iload_n hx hb dX5_part_17 rfl (lv_at hl 0 rfl) ?_
        refine tb_isub hx hb dX5_part_18 (by omega) ?_
        refine lv_istore (lv' := [(4, .int (nI 2)), (3, .int (nI 0)), (2, .int (nI 1)), (0, .int (nI 3)), (1, .int (nI 2))]) hx hb dX5_part_19 hl (by decide) rfl (fun ls hl => ?_)
        refine lv_iload_n hx hb dX5_part_21 rfl (lv_at hl 4 rfl) ?_
        refine tb_if_ne (tgt := 29) hx hb dX5_part_22 (by decide) (by omega) (fun c22 => ?_) (fun c22 => ?_)
        · refine lv_iload_n hx hb dX5_part_29 rfl (lv_at hl 4 rfl) ?_
          refine lv_iconst (v := nI 1) hx hb dX5_part_30 (by decide) ?_
          refine tb_icmp_ne (tgt := 38) hx hb dX5_part_31 (by decide) (by omega) (by omega) (fun c31 => ?_) (fun c31 => ?_)
          · refine lv_iconst (v := nI 0) hx hb dX5_part_38 (by decide) ?_
            refine lv_iload_n hx hb dX5_part_39 rfl (lv_at hl 3 rfl) ?_
            refine lv_iconst (v := nI 2) hx hb dX5_part_40 (by decide) ?_
            refine tb_irem hx hb dX5_part_41 (by omega) (by decide) (by decide) ?_
            refine tb_if_ne (tgt := 49) hx hb dX5_part_42 (by decide) (by omega) (fun c42 => ?_) (fun c42 => ?_)
            · refine lv_iconst (v := nI 0) hx hb dX5_part_49 (by decide) ?_
              refine tb_icmp_ne (tgt := 57) hx hb dX5_part_50 (by decide) (by omega) (by omega) (fun c50 => ?_) (fun c50 => ?_)
              · exact absurd c50 (by decide)
              · refine lv_iload_n hx hb dX5_part_53 rfl (lv_at hl 1 rfl) ?_
                refine lv_goto (tgt := 59) hx hb dX5_part_54 (by decide) ?_
                exact W.iret (v := nI 0) hx hb hr (fun t ht hW => ⟨_, rfl, (by decide), ht⟩) (fun q h => by cases h) dX5_part_59
            · exact absurd c42 (by decide)
          · exact absurd c31 (by decide)
        · exact absurd c22 (by decide)
      · exact absurd c5 (by decide)
  · skip
    obtain rfl | rfl | rfl : i = 0 ∨ i = 1 ∨ i = 2 := by omega
    · skip
      refine lv_iload_n hx hb dX5_part_0 rfl (lv_at hl 0 rfl) ?_
      refine lv_iconst (v := nI 2) hx hb dX5_part_1 (by decide) ?_
      refine tb_idiv hx hb dX5_part_2 (by omega) (by decide) (by decide) ?_
      refine lv_istore_n (lv' := [(2, .int (nI 2)), (0, .int (nI 4)), (1, .int (nI 0))]) hx hb dX5_part_3 rfl hl (by decide) rfl (fun ls hl => ?_)
      refine lv_iload_n hx hb dX5_part_4 rfl (lv_at hl 0 rfl) ?_
      refine tb_if_ne (tgt := 12) hx hb dX5_part_5 (by decide) (by omega) (fun c5 => ?_) (fun c5 => ?_)
      · refine lv_iconst (v := nI 0) hx hb dX5_part_12 (by decide) ?_
        refine lv_istore_n (lv' := [(3, .int (nI 0)), (2, .int (nI 2)), (0, .int (nI 4)), (1, .int (nI 0))]) hx hb dX5_part_13 rfl hl (by decide) rfl (fun ls hl => ?_)
        refine lv_iconst (v := nI 3) hx hb dX5_part_14 (by decide) ?_
        refine lv_iload_n hx hb dX5_part_15 rfl (lv_at hl 1 rfl) ?_
        refine tb_isub hx hb dX5_part_16 (by omega) ?_
        refine lv_iload_n hx hb dX5_part_17 rfl (lv_at hl 0 rfl) ?_
        refine tb_isub hx hb dX5_part_18 (by omega) ?_
        refine lv_istore (lv' := [(4, .int (nI 1)), (3, .int (nI 0)), (2, .int (nI 2)), (0, .int (nI 4)), (1, .int (nI 0))]) hx hb dX5_part_19 hl (by decide) rfl (fun ls hl => ?_)
        refine lv_iload_n hx hb dX5_part_21 rfl (lv_at hl 4 rfl) ?_
        refine tb_if_ne (tgt := 29) hx hb dX5_part_22 (by decide) (by omega) (fun c22 => ?_) (fun c22 => ?_)
        · exact absurd c22 (by decide)
        · refine lv_iload_n hx hb dX5_part_25 rfl (lv_at hl 2 rfl) ?_
          refine lv_goto (tgt := 59) hx hb dX5_part_26 (by decide) ?_
          exact W.iret (v := nI 2) hx hb hr (fun t ht hW => ⟨_, rfl, (by decide), ht⟩) (fun q h => by cases h) dX5_part_59
      · exact absurd c5 (by decide)
    · skip
      refine lv_iload_n hx hb dX5_part_0 rfl (lv_at hl 0 rfl) ?_
      refine lv_iconst (v := nI 2) hx hb dX5_part_1 (by decide) ?_
      refine tb_idiv hx hb dX5_part_2 (by omega) (by decide) (by decide) ?_
      refine lv_istore_n (lv' := [(2, .int (nI 2)), (0, .int (nI 4)), (1, .int (nI 1))]) hx hb dX5_part_3 rfl hl (by decide) rfl (fun ls hl => ?_)
      refine lv_iload_n hx hb dX5_part_4 rfl (lv_at hl 0 rfl) ?_
      refine tb_if_ne (tgt := 12) hx hb dX5_part_5 (by decide) (by omega) (fun c5 => ?_) (fun c5 => ?_)
      · refine lv_iconst (v := nI 0) hx hb dX5_part_12 (by decide) ?_
        refine lv_istore_n (lv' := [(3, .int (nI 0)), (2, .int (nI 2)), (0, .int (nI 4)), (1, .int (nI 1))]) hx hb dX5_part_13 rfl hl (by decide) rfl (fun ls hl => ?_)
        refine lv_iconst (v := nI 3) hx hb dX5_part_14 (by decide) ?_
        refine lv_iload_n hx hb dX5_part_15 rfl (lv_at hl 1 rfl) ?_
        refine tb_isub hx hb dX5_part_16 (by omega) ?_
        refine lv_iload_n hx hb dX5_part_17 rfl (lv_at hl 0 rfl) ?_
        refine tb_isub hx hb dX5_part_18 (by omega) ?_
        refine lv_istore (lv' := [(4, .int (nI 1)), (3, .int (nI 0)), (2, .int (nI 2)), (0, .int (nI 4)), (1, .int (nI 1))]) hx hb dX5_part_19 hl (by decide) rfl (fun ls hl => ?_)
        refine lv_iload_n hx hb dX5_part_21 rfl (lv_at hl 4 rfl) ?_
        refine tb_if_ne (tgt := 29) hx hb dX5_part_22 (by decide) (by omega) (fun c22 => ?_) (fun c22 => ?_)
        · refine lv_iload_n hx hb dX5_part_29 rfl (lv_at hl 4 rfl) ?_
          refine lv_iconst (v := nI 1) hx hb dX5_part_30 (by decide) ?_
          refine tb_icmp_ne (tgt := 38) hx hb dX5_part_31 (by decide) (by omega) (by omega) (fun c31 => ?_) (fun c31 => ?_)
          · exact absurd c31 (by decide)
          · refine lv_iconst (v := nI 1) hx hb dX5_part_34 (by decide) ?_
            refine lv_goto (tgt := 39) hx hb dX5_part_35 (by decide) ?_
            refine lv_iload_n hx hb dX5_part_39 rfl (lv_at hl 3 rfl) ?_
            refine lv_iconst (v := nI 2) hx hb dX5_part_40 (by decide) ?_
            refine tb_irem hx hb dX5_part_41 (by omega) (by decide) (by decide) ?_
            refine tb_if_ne (tgt := 49) hx hb dX5_part_42 (by decide) (by omega) (fun c42 => ?_) (fun c42 => ?_)
            · exact absurd c42 (by decide)
            · refine lv_iconst (v := nI 1) hx hb dX5_part_45 (by decide) ?_
              refine lv_goto (tgt := 50) hx hb dX5_part_46 (by decide) ?_
              refine tb_icmp_ne (tgt := 57) hx hb dX5_part_50 (by decide) (by omega) (by omega) (fun c50 => ?_) (fun c50 => ?_)
              · exact absurd c50 (by decide)
              · refine lv_iload_n hx hb dX5_part_53 rfl (lv_at hl 1 rfl) ?_
                refine lv_goto (tgt := 59) hx hb dX5_part_54 (by decide) ?_
                exact W.iret (v := nI 0) hx hb hr (fun t ht hW => ⟨_, rfl, (by decide), ht⟩) (fun q h => by cases h) dX5_part_59
        · exact absurd c22 (by decide)
      · exact absurd c5 (by decide)
    · skip
      refine lv_iload_n hx hb dX5_part_0 rfl (lv_at hl 0 rfl) ?_
      refine lv_iconst (v := nI 2) hx hb dX5_part_1 (by decide) ?_
      refine tb_idiv hx hb dX5_part_2 (by omega) (by decide) (by decide) ?_
      refine lv_istore_n (lv' := [(2, .int (nI 2)), (0, .int (nI 4)), (1, .int (nI 2))]) hx hb dX5_part_3 rfl hl (by decide) rfl (fun ls hl => ?_)
      refine lv_iload_n hx hb dX5_part_4 rfl (lv_at hl 0 rfl) ?_
      refine tb_if_ne (tgt := 12) hx hb dX5_part_5 (by decide) (by omega) (fun c5 => ?_) (fun c5 => ?_)
      · refine lv_iconst (v := nI 0) hx hb dX5_part_12 (by decide) ?_
        refine lv_istore_n (lv' := [(3, .int (nI 0)), (2, .int (nI 2)), (0, .int (nI 4)), (1, .int (nI 2))]) hx hb dX5_part_13 rfl hl (by decide) rfl (fun ls hl => ?_)
        refine lv_iconst (v := nI 3) hx hb dX5_part_14 (by decide) ?_
        refine lv_iload_n hx hb dX5_part_15 rfl (lv_at hl 1 rfl) ?_
        refine tb_isub hx hb dX5_part_16 (by omega) ?_
        refine lv_iload_n hx hb dX5_part_17 rfl (lv_at hl 0 rfl) ?_
        refine tb_isub hx hb dX5_part_18 (by omega) ?_
        refine lv_istore (lv' := [(4, .int (nI 1)), (3, .int (nI 0)), (2, .int (nI 2)), (0, .int (nI 4)), (1, .int (nI 2))]) hx hb dX5_part_19 hl (by decide) rfl (fun ls hl => ?_)
        refine lv_iload_n hx hb dX5_part_21 rfl (lv_at hl 4 rfl) ?_
        refine tb_if_ne (tgt := 29) hx hb dX5_part_22 (by decide) (by omega) (fun c22 => ?_) (fun c22 => ?_)
        · refine lv_iload_n hx hb dX5_part_29 rfl (lv_at hl 4 rfl) ?_
          refine lv_iconst (v := nI 1) hx hb dX5_part_30 (by decide) ?_
          refine tb_icmp_ne (tgt := 38) hx hb dX5_part_31 (by decide) (by omega) (by omega) (fun c31 => ?_) (fun c31 => ?_)
          · refine lv_iconst (v := nI 0) hx hb dX5_part_38 (by decide) ?_
            refine lv_iload_n hx hb dX5_part_39 rfl (lv_at hl 3 rfl) ?_
            refine lv_iconst (v := nI 2) hx hb dX5_part_40 (by decide) ?_
            refine tb_irem hx hb dX5_part_41 (by omega) (by decide) (by decide) ?_
            refine tb_if_ne (tgt := 49) hx hb dX5_part_42 (by decide) (by omega) (fun c42 => ?_) (fun c42 => ?_)
            · exact absurd c42 (by decide)
            · refine lv_iconst (v := nI 1) hx hb dX5_part_45 (by decide) ?_
              refine lv_goto (tgt := 50) hx hb dX5_part_46 (by decide) ?_
              refine tb_icmp_ne (tgt := 57) hx hb dX5_part_50 (by decide) (by omega) (by omega) (fun c50 => ?_) (fun c50 => ?_)
              · refine lv_iload hx hb dX5_part_57 (lv_at hl 0 rfl) ?_
                exact W.iret (v := nI 1) hx hb hr (fun t ht hW => ⟨_, rfl, (by decide), ht⟩) (fun q h => by cases h) dX5_part_59
              · exact absurd c50 (by decide)
          · exact absurd c31 (by decide)
        · exact absurd c22 (by decide)
      · exact absurd c5 (by decide)
  · skip
    obtain rfl | rfl | rfl : i = 0 ∨ i = 1 ∨ i = 2 := by omega
    · skip
      refine lv_iload_n hx hb dX5_part_0 rfl (lv_at hl 0 rfl) ?_
      refine lv_iconst (v := nI 2) hx hb dX5_part_1 (by decide) ?_
      refine tb_idiv hx hb dX5_part_2 (by omega) (by decide) (by decide) ?_
      refine lv_istore_n (lv' := [(2, .int (nI 2)), (0, .int (nI 5)), (1, .int (nI 0))]) hx hb dX5_part_3 rfl hl (by decide) rfl (fun ls hl => ?_)
      refine lv_iload_n hx hb dX5_part_4 rfl (lv_at hl 0 rfl) ?_
      refine tb_if_ne (tgt := 12) hx hb dX5_part_5 (by decide) (by omega) (fun c5 => ?_) (fun c5 => ?_)
      · refine lv_iconst (v := nI 0) hx hb dX5_part_12 (by decide) ?_
        refine lv_istore_n (lv' := [(3, .int (nI 0)), (2, .int (nI 2)), (0, .int (nI 5)), (1, .int (nI 0))]) hx hb dX5_part_13 rfl hl (by decide) rfl (fun ls hl => ?_)
        refine lv_iconst (v := nI 3) hx hb dX5_part_14 (by decide) ?_
        refine lv_iload_n hx hb dX5_part_15 rfl (lv_at hl 1 rfl) ?_
        refine tb_isub hx hb dX5_part_16 (by omega) ?_
        refine lv_iload_n hx hb dX5_part_17 rfl (lv_at hl 0 rfl) ?_
        refine tb_isub hx hb dX5_part_18 (by omega) ?_
        refine lv_istore (lv' := [(4, .int (nI 1)), (3, .int (nI 0)), (2, .int (nI 2)), (0, .int (nI 5)), (1, .int (nI 0))]) hx hb dX5_part_19 hl (by decide) rfl (fun ls hl => ?_)
        refine lv_iload_n hx hb dX5_part_21 rfl (lv_at hl 4 rfl) ?_
        refine tb_if_ne (tgt := 29) hx hb dX5_part_22 (by decide) (by omega) (fun c22 => ?_) (fun c22 => ?_)
        · exact absurd c22 (by decide)
        · refine lv_iload_n hx hb dX5_part_25 rfl (lv_at hl 2 rfl) ?_
          refine lv_goto (tgt := 59) hx hb dX5_part_26 (by decide) ?_
          exact W.iret (v := nI 2) hx hb hr (fun t ht hW => ⟨_, rfl, (by decide), ht⟩) (fun q h => by cases h) dX5_part_59
      · exact absurd c5 (by decide)
    · skip
      refine lv_iload_n hx hb dX5_part_0 rfl (lv_at hl 0 rfl) ?_
      refine lv_iconst (v := nI 2) hx hb dX5_part_1 (by decide) ?_
      refine tb_idiv hx hb dX5_part_2 (by omega) (by decide) (by decide) ?_
      refine lv_istore_n (lv' := [(2, .int (nI 2)), (0, .int (nI 5)), (1, .int (nI 1))]) hx hb dX5_part_3 rfl hl (by decide) rfl (fun ls hl => ?_)
      refine lv_iload_n hx hb dX5_part_4 rfl (lv_at hl 0 rfl) ?_
      refine tb_if_ne (tgt := 12) hx hb dX5_part_5 (by decide) (by omega) (fun c5 => ?_) (fun c5 => ?_)
      · refine lv_iconst (v := nI 0) hx hb dX5_part_12 (by decide) ?_
        refine lv_istore_n (lv' := [(3, .int (nI 0)), (2, .int (nI 2)), (0, .int (nI 5)), (1, .int (nI 1))]) hx hb dX5_part_13 rfl hl (by decide) rfl (fun ls hl => ?_)
        refine lv_iconst (v := nI 3) hx hb dX5_part_14 (by decide) ?_
        refine lv_iload_n hx hb dX5_part_15 rfl (lv_at hl 1 rfl) ?_
        refine tb_isub hx hb dX5_part_16 (by omega) ?_
        refine lv_iload_n hx hb dX5_part_17 rfl (lv_at hl 0 rfl) ?_
        refine tb_isub hx hb dX5_part_18 (by omega) ?_
        refine lv_istore (lv' := [(4, .int (nI 1)), (3, .int (nI 0)), (2, .int (nI 2)), (0, .int (nI 5)), (1, .int (nI 1))]) hx hb dX5_part_19 hl (by decide) rfl (fun ls hl => ?_)
        refine lv_iload_n hx hb dX5_part_21 rfl (lv_at hl 4 rfl) ?_
        refine tb_if_ne (tgt := 29) hx hb dX5_part_22 (by decide) (by omega) (fun c22 => ?_) (fun c22 => ?_)
        · refine lv_iload_n hx hb dX5_part_29 rfl (lv_at hl 4 rfl) ?_
          refine lv_iconst (v := nI 1) hx hb dX5_part_30 (by decide) ?_
          refine tb_icmp_ne (tgt := 38) hx hb dX5_part_31 (by decide) (by omega) (by omega) (fun c31 => ?_) (fun c31 => ?_)
          · exact absurd c31 (by decide)
          · refine lv_iconst (v := nI 1) hx hb dX5_part_34 (by decide) ?_
            refine lv_goto (tgt := 39) hx hb dX5_part_35 (by decide) ?_
            refine lv_iload_n hx hb dX5_part_39 rfl (lv_at hl 3 rfl) ?_
            refine lv_iconst (v := nI 2) hx hb dX5_part_40 (by decide) ?_
            refine tb_irem hx hb dX5_part_41 (by omega) (by decide) (by decide) ?_
            refine tb_if_ne (tgt := 49) hx hb dX5_part_42 (by decide) (by omega) (fun c42 => ?_) (fun c42 => ?_)
            · refine lv_iconst (v := nI 0) hx hb dX5_part_49 (by decide) ?_
              refine tb_icmp_ne (tgt := 57) hx hb dX5_part_50 (by decide) (by omega) (by omega) (fun c50 => ?_) (fun c50 => ?_)
              · refine lv_iload hx hb dX5_part_57 (lv_at hl 0 rfl) ?_
                exact W.iret (v := nI 1) hx hb hr (fun t ht hW => ⟨_, rfl, (by decide), ht⟩) (fun q h => by cases h) dX5_part_59
              · exact absurd c50 (by decide)
            · exact absurd c42 (by decide)
        · exact absurd c22 (by decide)
      · exact absurd c5 (by decide)
    · skip
      refine lv_iload_n hx hb dX5_part_0 rfl (lv_at hl 0 rfl) ?_
      refine lv_iconst (v := nI 2) hx hb dX5_part_1 (by decide) ?_
      refine tb_idiv hx hb dX5_part_2 (by omega) (by decide) (by decide) ?_
      refine lv_istore_n (lv' := [(2, .int (nI 2)), (0, .int (nI 5)), (1, .int (nI 2))]) hx hb dX5_part_3 rfl hl (by decide) rfl (fun ls hl => ?_)
      refine lv_iload_n hx hb dX5_part_4 rfl (lv_at hl 0 rfl) ?_
      refine tb_if_ne (tgt := 12) hx hb dX5_part_5 (by decide) (by omega) (fun c5 => ?_) (fun c5 => ?_)
      · refine lv_iconst (v := nI 0) hx hb dX5_part_12 (by decide) ?_
        refine lv_istore_n (lv' := [(3, .int (nI 0)), (2, .int (nI 2)), (0, .int (nI 5)), (1, .int (nI 2))]) hx hb dX5_part_13 rfl hl (by decide) rfl (fun ls hl => ?_)
        refine lv_iconst (v := nI 3) hx hb dX5_part_14 (by decide) ?_
        refine lv_iload_n hx hb dX5_part_15 rfl (lv_at hl 1 rfl) ?_
        refine tb_isub hx hb dX5_part_16 (by omega) ?_
        refine lv_iload_n hx hb dX5_part_17 rfl (lv_at hl 0 rfl) ?_
        refine tb_isub hx hb dX5_part_18 (by omega) ?_
        refine lv_istore (lv' := [(4, .int (nI 1)), (3, .int (nI 0)), (2, .int (nI 2)), (0, .int (nI 5)), (1, .int (nI 2))]) hx hb dX5_part_19 hl (by decide) rfl (fun ls hl => ?_)
        refine lv_iload_n hx hb dX5_part_21 rfl (lv_at hl 4 rfl) ?_
        refine tb_if_ne (tgt := 29) hx hb dX5_part_22 (by decide) (by omega) (fun c22 => ?_) (fun c22 => ?_)
        · refine lv_iload_n hx hb dX5_part_29 rfl (lv_at hl 4 rfl) ?_
          refine lv_iconst (v := nI 1) hx hb dX5_part_30 (by decide) ?_
          refine tb_icmp_ne (tgt := 38) hx hb dX5_part_31 (by decide) (by omega) (by omega) (fun c31 => ?_) (fun c31 => ?_)
          · refine lv_iconst (v := nI 0) hx hb dX5_part_38 (by decide) ?_
            refine lv_iload_n hx hb dX5_part_39 rfl (lv_at hl 3 rfl) ?_
            refine lv_iconst (v := nI 2) hx hb dX5_part_40 (by decide) ?_
            refine tb_irem hx hb dX5_part_41 (by omega) (by decide) (by decide) ?_
            refine tb_if_ne (tgt := 49) hx hb dX5_part_42 (by decide) (by omega) (fun c42 => ?_) (fun c42 => ?_)
            · refine lv_iconst (v := nI 0) hx hb dX5_part_49 (by decide) ?_
              refine tb_icmp_ne (tgt := 57) hx hb dX5_part_50 (by decide) (by omega) (by omega) (fun c50 => ?_) (fun c50 => ?_)
              · exact absurd c50 (by decide)
              · refine lv_iload_n hx hb dX5_part_53 rfl (lv_at hl 1 rfl) ?_
                refine lv_goto (tgt := 59) hx hb dX5_part_54 (by decide) ?_
                exact W.iret (v := nI 0) hx hb hr (fun t ht hW => ⟨_, rfl, (by decide), ht⟩) (fun q h => by cases h) dX5_part_59
            · exact absurd c42 (by decide)
          · exact absurd c31 (by decide)
        · exact absurd c22 (by decide)
      · exact absurd c5 (by decide)

set_option maxHeartbeats 4000000 in
set_option maxRecDepth 100000 in
theorem m_digits (l : Launch) (D : va_G) (ct : Nat → ClassId) (x : Nat) (t : Nat) (hx9 : x < 2 ^ 31) (ht : t < 2 ^ 31) : Met l yX5_digits wsX5_digits ({ frames := 0, cells := 0, slots := 0, locals := 0 }) (tb_Pr D ct [.int (nI x), .int (nI t)] []) (vp_Si (fun r => r = nI (tTerm x t))) 0 0 (fun _ => False) := by
  refine Met.ofW (cc := cX5_digits) (maxL := 2) (ret := (some .int)) (by decide) rfl ?_
  intro p e s m args below meth c s₁ B hml hv
  obtain ⟨rfl, hP, hK, hZ⟩ := hv
  have hx := B.exec
  have hb := B.bytes
  have hr := B.returns
  have hts0 := atoms_spec (ws := wsX5_digits) B.pre
  have hts : ∀ w9 ∈ aw, w9.before ([.int (nI x), .int (nI t)] : List Value).toArray s = true := fun w9 h9 => hts0 w9 (List.mem_cons_of_mem _ h9)
  have hown : s.vm.findClass RX5 = some m.cls := findClass_of_methodNamed B.named
  have hlocks := B.notSynchronized
  have hS : va_S (fun _ => False) s.heap s.heap [] := va_S.rf
  have hP : va_P D vwCl [] s.heap := hP
  have hl := lv_entry ([.int (nI x), .int (nI t)]) (n := 2) (Nat.le_of_ble_eq_true rfl)
  rw [lg_entry_eq]
  generalize (lg_sl ([.int (nI x), .int (nI t)]) ++ List.replicate (2 - (lg_sl ([.int (nI x), .int (nI t)])).length) Slot.unset).toArray = ls at hl ⊢
  have hl : lv_has ls 2 [(0, .int (nI x)), (1, .int (nI t))] := hl
  refine lv_iload_n hx hb dX5_digits_0 rfl (lv_at hl 1 rfl) ?_
  refine tb_if_ne (tgt := 11) hx hb dX5_digits_1 (by decide) (by omega) (fun c1 => ?_) (fun c1 => ?_)
  · refine lv_iload_n hx hb dX5_digits_11 rfl (lv_at hl 1 rfl) ?_
    refine lv_iconst (v := nI 1) hx hb dX5_digits_12 (by decide) ?_
    refine tb_icmp_ne (tgt := 28) hx hb dX5_digits_13 (by decide) (by omega) (by omega) (fun c13 => ?_) (fun c13 => ?_)
    · refine lv_iload_n hx hb dX5_digits_28 rfl (lv_at hl 0 rfl) ?_
      refine lv_sipush (v := nI 1000) hx hb dX5_digits_29 (by decide) ?_
      refine tb_irem hx hb dX5_digits_32 (by omega) (by decide) (by decide) ?_
      exact W.iret (v := nI (x % 1000)) hx hb hr (fun t ht hW => ⟨_, rfl, (by first | rw [tTerm, if_pos c1] | rw [tTerm, if_neg (by omega), if_pos c13] | rw [tTerm, if_neg (by omega), if_neg c13]), ht⟩) (fun q h => by cases h) dX5_digits_33
    · refine lv_iload_n hx hb dX5_digits_16 rfl (lv_at hl 0 rfl) ?_
      refine lv_sipush (v := nI 1000) hx hb dX5_digits_17 (by decide) ?_
      refine tb_idiv hx hb dX5_digits_20 (by omega) (by decide) (by decide) ?_
      refine lv_sipush (v := nI 1000) hx hb dX5_digits_21 (by decide) ?_
      refine tb_irem hx hb dX5_digits_24 (by omega) (by decide) (by decide) ?_
      refine lv_goto (tgt := 33) hx hb dX5_digits_25 (by decide) ?_
      exact W.iret (v := nI ((x / 1000) % 1000)) hx hb hr (fun t ht hW => ⟨_, rfl, (by first | rw [tTerm, if_pos c1] | rw [tTerm, if_neg (by omega), if_pos c13] | rw [tTerm, if_neg (by omega), if_neg c13]), ht⟩) (fun q h => by cases h) dX5_digits_33
  · refine lv_iload_n hx hb dX5_digits_4 rfl (lv_at hl 0 rfl) ?_
    refine lv_ldc (v := nI 1000000) hx hb hown (hts _ w_333) dX5_digits_5 ?_
    refine tb_idiv hx hb dX5_digits_7 (by omega) (by decide) (by decide) ?_
    refine lv_goto (tgt := 33) hx hb dX5_digits_8 (by decide) ?_
    exact W.iret (v := nI (x / 1000000)) hx hb hr (fun t ht hW => ⟨_, rfl, (by first | rw [tTerm, if_pos c1] | rw [tTerm, if_neg (by omega), if_pos c13] | rw [tTerm, if_neg (by omega), if_neg c13]), ht⟩) (fun q h => by cases h) dX5_digits_33

set_option maxHeartbeats 4000000 in
set_option maxRecDepth 100000 in
theorem m_key (l : Launch) (D : va_G) (ct : Nat → ClassId) (o : Nat) (t : Nat) (ho : o < 6) (ht : t < 2 ^ 31) : Met l yX5_key wsX5_key ({ frames := 1, cells := 0, slots := 0, locals := 24 }) (tb_Pr D ct [.int (nI o), .int (nI t)] []) (vp_Si (fun r => r = nI (mKey o t))) 0 0 (fun _ => False) := by
  refine Met.ofW (cc := cX5_key) (maxL := 2) (ret := (some .int)) (by decide) rfl ?_
  intro p e s m args below meth c s₁ B hml hv
  obtain ⟨rfl, hP, hK, hZ⟩ := hv
  have hx := B.exec
  have hb := B.bytes
  have hr := B.returns
  have hts0 := atoms_spec (ws := wsX5_key) B.pre
  have hts : ∀ w9 ∈ aw, w9.before ([.int (nI o), .int (nI t)] : List Value).toArray s = true := fun w9 h9 => hts0 w9 (List.mem_cons_of_mem _ h9)
  have hown : s.vm.findClass RX5 = some m.cls := findClass_of_methodNamed B.named
  have hlocks := B.notSynchronized
  have hS : va_S (fun _ => False) s.heap s.heap [] := va_S.rf
  have hP : va_P D vwCl [] s.heap := hP
  have hl := lv_entry ([.int (nI o), .int (nI t)]) (n := 2) (Nat.le_of_ble_eq_true rfl)
  rw [lg_entry_eq]
  generalize (lg_sl ([.int (nI o), .int (nI t)]) ++ List.replicate (2 - (lg_sl ([.int (nI o), .int (nI t)])).length) Slot.unset).toArray = ls at hl ⊢
  have hl : lv_has ls 2 [(0, .int (nI o)), (1, .int (nI t))] := hl
  refine lv_iload_n hx hb dX5_key_0 rfl (lv_at hl 1 rfl) ?_
  refine lv_iload_n hx hb dX5_key_1 rfl (lv_at hl 0 rfl) ?_
  refine lv_iconst (v := nI 0) hx hb dX5_key_2 (by decide) ?_
  refine vp_callSi (va_Run.run (va_runS (As := [.int (nI o), .int (nI 0)]) (rest := [.int (nI t)]) ⟨hx, hb, hml, hown, hts⟩ (m_part l D ct o 0 ho (by omega)) (va_cwS 2 hts (gw_S (fun _ h => h) w_340 w_341 w_30 wcX5_part) rfl rfl rfl hvX5_part.2 ⟨Nat.le_of_ble_eq_true rfl, Nat.le_of_ble_eq_true rfl⟩) (tb_prS hP hK hZ hS [] rfl) rfl rfl hl.1 rfl (lv_room (Nat.le_of_ble_eq_true rfl)) dX5_key_3 ⟨Nat.zero_le _, Nat.zero_le _⟩)) (fun r_3 hr_3 => ?_)
  obtain rfl : r_3 = nI (taF (o * 3 + 0)) := hr_3
  refine vp_callSi (va_Run.run (va_runS (As := [.int (nI t), .int (nI (taF (o * 3 + 0)))]) (rest := []) ⟨hx, hb, hml, hown, hts⟩ (m_digits l D ct t (taF (o * 3 + 0)) ht (Nat.lt_trans (taF_lt _) (by decide))) (va_cwS 2 hts (gw_S (fun _ h => h) w_342 w_343 w_30 wcX5_digits) rfl rfl rfl hvX5_digits.2 ⟨Nat.le_of_ble_eq_true rfl, Nat.le_of_ble_eq_true rfl⟩) (tb_prS hP hK hZ hS [] rfl) rfl rfl hl.1 rfl (lv_room (Nat.le_of_ble_eq_true rfl)) dX5_key_6 ⟨Nat.zero_le _, Nat.zero_le _⟩)) (fun r_6 hr_6 => ?_)
  obtain rfl : r_6 = nI (tTerm t (taF (o * 3 + 0))) := hr_6
  refine lv_ldc (v := nI 1000000) hx hb hown (hts _ w_333) dX5_key_9 ?_
  refine tb_imul hx hb dX5_key_11 ?_
  refine lv_iload_n hx hb dX5_key_12 rfl (lv_at hl 1 rfl) ?_
  refine lv_iload_n hx hb dX5_key_13 rfl (lv_at hl 0 rfl) ?_
  refine lv_iconst (v := nI 1) hx hb dX5_key_14 (by decide) ?_
  refine vp_callSi (va_Run.run (va_runS (As := [.int (nI o), .int (nI 1)]) (rest := [.int (nI t), .int (nI ((tTerm t (taF (o * 3 + 0))) * 1000000))]) ⟨hx, hb, hml, hown, hts⟩ (m_part l D ct o 1 ho (by omega)) (va_cwS 2 hts (gw_S (fun _ h => h) w_340 w_341 w_30 wcX5_part) rfl rfl rfl hvX5_part.2 ⟨Nat.le_of_ble_eq_true rfl, Nat.le_of_ble_eq_true rfl⟩) (tb_prS hP hK hZ hS [] rfl) rfl rfl hl.1 rfl (lv_room (Nat.le_of_ble_eq_true rfl)) dX5_key_15 ⟨Nat.zero_le _, Nat.zero_le _⟩)) (fun r_15 hr_15 => ?_)
  obtain rfl : r_15 = nI (taF (o * 3 + 1)) := hr_15
  refine vp_callSi (va_Run.run (va_runS (As := [.int (nI t), .int (nI (taF (o * 3 + 1)))]) (rest := [.int (nI ((tTerm t (taF (o * 3 + 0))) * 1000000))]) ⟨hx, hb, hml, hown, hts⟩ (m_digits l D ct t (taF (o * 3 + 1)) ht (Nat.lt_trans (taF_lt _) (by decide))) (va_cwS 2 hts (gw_S (fun _ h => h) w_342 w_343 w_30 wcX5_digits) rfl rfl rfl hvX5_digits.2 ⟨Nat.le_of_ble_eq_true rfl, Nat.le_of_ble_eq_true rfl⟩) (tb_prS hP hK hZ hS [] rfl) rfl rfl hl.1 rfl (lv_room (Nat.le_of_ble_eq_true rfl)) dX5_key_18 ⟨Nat.zero_le _, Nat.zero_le _⟩)) (fun r_18 hr_18 => ?_)
  obtain rfl : r_18 = nI (tTerm t (taF (o * 3 + 1))) := hr_18
  refine lv_sipush (v := nI 1000) hx hb dX5_key_21 (by decide) ?_
  refine tb_imul hx hb dX5_key_24 ?_
  refine tb_iadd hx hb dX5_key_25 ?_
  refine lv_iload_n hx hb dX5_key_26 rfl (lv_at hl 1 rfl) ?_
  refine lv_iload_n hx hb dX5_key_27 rfl (lv_at hl 0 rfl) ?_
  refine lv_iconst (v := nI 2) hx hb dX5_key_28 (by decide) ?_
  refine vp_callSi (va_Run.run (va_runS (As := [.int (nI o), .int (nI 2)]) (rest := [.int (nI t), .int (nI (((tTerm t (taF (o * 3 + 0))) * 1000000) + ((tTerm t (taF (o * 3 + 1))) * 1000)))]) ⟨hx, hb, hml, hown, hts⟩ (m_part l D ct o 2 ho (by omega)) (va_cwS 2 hts (gw_S (fun _ h => h) w_340 w_341 w_30 wcX5_part) rfl rfl rfl hvX5_part.2 ⟨Nat.le_of_ble_eq_true rfl, Nat.le_of_ble_eq_true rfl⟩) (tb_prS hP hK hZ hS [] rfl) rfl rfl hl.1 rfl (lv_room (Nat.le_of_ble_eq_true rfl)) dX5_key_29 ⟨Nat.zero_le _, Nat.zero_le _⟩)) (fun r_29 hr_29 => ?_)
  obtain rfl : r_29 = nI (taF (o * 3 + 2)) := hr_29
  refine vp_callSi (va_Run.run (va_runS (As := [.int (nI t), .int (nI (taF (o * 3 + 2)))]) (rest := [.int (nI (((tTerm t (taF (o * 3 + 0))) * 1000000) + ((tTerm t (taF (o * 3 + 1))) * 1000)))]) ⟨hx, hb, hml, hown, hts⟩ (m_digits l D ct t (taF (o * 3 + 2)) ht (Nat.lt_trans (taF_lt _) (by decide))) (va_cwS 2 hts (gw_S (fun _ h => h) w_342 w_343 w_30 wcX5_digits) rfl rfl rfl hvX5_digits.2 ⟨Nat.le_of_ble_eq_true rfl, Nat.le_of_ble_eq_true rfl⟩) (tb_prS hP hK hZ hS [] rfl) rfl rfl hl.1 rfl (lv_room (Nat.le_of_ble_eq_true rfl)) dX5_key_32 ⟨Nat.zero_le _, Nat.zero_le _⟩)) (fun r_32 hr_32 => ?_)
  obtain rfl : r_32 = nI (tTerm t (taF (o * 3 + 2))) := hr_32
  refine tb_iadd hx hb dX5_key_35 ?_
  exact W.iret (v := nI ((((tTerm t (taF (o * 3 + 0))) * 1000000) + ((tTerm t (taF (o * 3 + 1))) * 1000)) + (tTerm t (taF (o * 3 + 2))))) hx hb hr (fun t ht hW => ⟨_, rfl, rfl, ht⟩) (fun q h => by cases h) dX5_key_36

set_option maxHeartbeats 4000000 in
set_option maxRecDepth 100000 in
theorem m_free (l : Launch) (D : va_G) (ct : Nat → ClassId) (a : Option Nat) (b : Option Nat) (ha : ∀ j, a = some j → j < 1000) (hb9 : ∀ j, b = some j → j < 1000) : Met l yX5_free wsX5_free ({ frames := 0, cells := 0, slots := 0, locals := 0 }) (tb_Pr D ct [.int (oI a), .int (oI b)] []) (vp_Si (fun r => r = nI (tFree a b))) 0 0 (fun _ => False) := by
  rcases a with _ | a <;> rcases b with _ | b
  · show Met l yX5_free wsX5_free ({ frames := 0, cells := 0, slots := 0, locals := 0 }) (tb_Pr D ct [.int (-1), .int (-1)] []) (vp_Si (fun r => r = nI (tFree none none))) 0 0 (fun _ => False)
    refine Met.ofW (cc := cX5_free) (maxL := 2) (ret := (some .int)) (by decide) rfl ?_
    intro p e s m args below meth c s₁ B hml hv
    obtain ⟨rfl, hP, hK, hZ⟩ := hv
    have hx := B.exec
    have hb := B.bytes
    have hr := B.returns
    have hts0 := atoms_spec (ws := wsX5_free) B.pre
    have hts : ∀ w9 ∈ aw, w9.before ([.int (-1), .int (-1)] : List Value).toArray s = true := fun w9 h9 => hts0 w9 (List.mem_cons_of_mem _ h9)
    have hown : s.vm.findClass RX5 = some m.cls := findClass_of_methodNamed B.named
    have hlocks := B.notSynchronized
    have hS : va_S (fun _ => False) s.heap s.heap [] := va_S.rf
    have hP : va_P D vwCl [] s.heap := hP
    have hl := lv_entry ([.int (-1), .int (-1)]) (n := 2) (Nat.le_of_ble_eq_true rfl)
    rw [lg_entry_eq]
    generalize (lg_sl ([.int (-1), .int (-1)]) ++ List.replicate (2 - (lg_sl ([.int (-1), .int (-1)])).length) Slot.unset).toArray = ls at hl ⊢
    have hl : lv_has ls 2 [(0, .int (-1)), (1, .int (-1))] := hl
    refine lv_iload_n hx hb dX5_free_0 rfl (lv_at hl 0 rfl) ?_
    refine lv_iconst (v := (-1)) hx hb dX5_free_1 (by decide) ?_
    refine lv_icmp_ne (tgt := 9) hx hb dX5_free_2 (by decide) (fun c2 => ?_) (fun c2 => ?_)
    · exact absurd rfl c2
    · refine lv_iconst (v := nI 0) hx hb dX5_free_5 (by decide) ?_
      refine lv_goto (tgt := 19) hx hb dX5_free_6 (by decide) ?_
      exact W.iret (v := nI 0) hx hb hr (fun t ht hW => ⟨_, rfl, rfl, ht⟩) (fun q h => by cases h) dX5_free_19
  · show Met l yX5_free wsX5_free ({ frames := 0, cells := 0, slots := 0, locals := 0 }) (tb_Pr D ct [.int (-1), .int (nI b)] []) (vp_Si (fun r => r = nI (tFree none (some b)))) 0 0 (fun _ => False)
    refine Met.ofW (cc := cX5_free) (maxL := 2) (ret := (some .int)) (by decide) rfl ?_
    intro p e s m args below meth c s₁ B hml hv
    obtain ⟨rfl, hP, hK, hZ⟩ := hv
    have hx := B.exec
    have hb := B.bytes
    have hr := B.returns
    have hts0 := atoms_spec (ws := wsX5_free) B.pre
    have hts : ∀ w9 ∈ aw, w9.before ([.int (-1), .int (nI b)] : List Value).toArray s = true := fun w9 h9 => hts0 w9 (List.mem_cons_of_mem _ h9)
    have hown : s.vm.findClass RX5 = some m.cls := findClass_of_methodNamed B.named
    have hlocks := B.notSynchronized
    have hS : va_S (fun _ => False) s.heap s.heap [] := va_S.rf
    have hP : va_P D vwCl [] s.heap := hP
    have hl := lv_entry ([.int (-1), .int (nI b)]) (n := 2) (Nat.le_of_ble_eq_true rfl)
    rw [lg_entry_eq]
    generalize (lg_sl ([.int (-1), .int (nI b)]) ++ List.replicate (2 - (lg_sl ([.int (-1), .int (nI b)])).length) Slot.unset).toArray = ls at hl ⊢
    have hl : lv_has ls 2 [(0, .int (-1)), (1, .int (nI b))] := hl
    have hb9 := hb9 b rfl
    refine lv_iload_n hx hb dX5_free_0 rfl (lv_at hl 0 rfl) ?_
    refine lv_iconst (v := (-1)) hx hb dX5_free_1 (by decide) ?_
    refine lv_icmp_ne (tgt := 9) hx hb dX5_free_2 (by decide) (fun c2 => ?_) (fun c2 => ?_)
    · exact absurd rfl c2
    · refine lv_iconst (v := nI 0) hx hb dX5_free_5 (by decide) ?_
      refine lv_goto (tgt := 19) hx hb dX5_free_6 (by decide) ?_
      exact W.iret (v := nI 0) hx hb hr (fun t ht hW => ⟨_, rfl, rfl, ht⟩) (fun q h => by cases h) dX5_free_19
  · show Met l yX5_free wsX5_free ({ frames := 0, cells := 0, slots := 0, locals := 0 }) (tb_Pr D ct [.int (nI a), .int (-1)] []) (vp_Si (fun r => r = nI (tFree (some a) none))) 0 0 (fun _ => False)
    refine Met.ofW (cc := cX5_free) (maxL := 2) (ret := (some .int)) (by decide) rfl ?_
    intro p e s m args below meth c s₁ B hml hv
    obtain ⟨rfl, hP, hK, hZ⟩ := hv
    have hx := B.exec
    have hb := B.bytes
    have hr := B.returns
    have hts0 := atoms_spec (ws := wsX5_free) B.pre
    have hts : ∀ w9 ∈ aw, w9.before ([.int (nI a), .int (-1)] : List Value).toArray s = true := fun w9 h9 => hts0 w9 (List.mem_cons_of_mem _ h9)
    have hown : s.vm.findClass RX5 = some m.cls := findClass_of_methodNamed B.named
    have hlocks := B.notSynchronized
    have hS : va_S (fun _ => False) s.heap s.heap [] := va_S.rf
    have hP : va_P D vwCl [] s.heap := hP
    have hl := lv_entry ([.int (nI a), .int (-1)]) (n := 2) (Nat.le_of_ble_eq_true rfl)
    rw [lg_entry_eq]
    generalize (lg_sl ([.int (nI a), .int (-1)]) ++ List.replicate (2 - (lg_sl ([.int (nI a), .int (-1)])).length) Slot.unset).toArray = ls at hl ⊢
    have hl : lv_has ls 2 [(0, .int (nI a)), (1, .int (-1))] := hl
    have ha := ha a rfl
    refine lv_iload_n hx hb dX5_free_0 rfl (lv_at hl 0 rfl) ?_
    refine lv_iconst (v := (-1)) hx hb dX5_free_1 (by decide) ?_
    refine lv_icmp_ne (tgt := 9) hx hb dX5_free_2 (by decide) (fun c2 => ?_) (fun c2 => ?_)
    · refine lv_iload_n hx hb dX5_free_9 rfl (lv_at hl 1 rfl) ?_
      refine lv_iconst (v := (-1)) hx hb dX5_free_10 (by decide) ?_
      refine lv_icmp_ne (tgt := 18) hx hb dX5_free_11 (by decide) (fun c11 => ?_) (fun c11 => ?_)
      · exact absurd rfl c11
      · refine lv_iconst (v := nI 1) hx hb dX5_free_14 (by decide) ?_
        refine lv_goto (tgt := 19) hx hb dX5_free_15 (by decide) ?_
        exact W.iret (v := nI 1) hx hb hr (fun t ht hW => ⟨_, rfl, rfl, ht⟩) (fun q h => by cases h) dX5_free_19
    · exact absurd c2 (nI_nm1 (by omega))
  · show Met l yX5_free wsX5_free ({ frames := 0, cells := 0, slots := 0, locals := 0 }) (tb_Pr D ct [.int (nI a), .int (nI b)] []) (vp_Si (fun r => r = nI (tFree (some a) (some b)))) 0 0 (fun _ => False)
    refine Met.ofW (cc := cX5_free) (maxL := 2) (ret := (some .int)) (by decide) rfl ?_
    intro p e s m args below meth c s₁ B hml hv
    obtain ⟨rfl, hP, hK, hZ⟩ := hv
    have hx := B.exec
    have hb := B.bytes
    have hr := B.returns
    have hts0 := atoms_spec (ws := wsX5_free) B.pre
    have hts : ∀ w9 ∈ aw, w9.before ([.int (nI a), .int (nI b)] : List Value).toArray s = true := fun w9 h9 => hts0 w9 (List.mem_cons_of_mem _ h9)
    have hown : s.vm.findClass RX5 = some m.cls := findClass_of_methodNamed B.named
    have hlocks := B.notSynchronized
    have hS : va_S (fun _ => False) s.heap s.heap [] := va_S.rf
    have hP : va_P D vwCl [] s.heap := hP
    have hl := lv_entry ([.int (nI a), .int (nI b)]) (n := 2) (Nat.le_of_ble_eq_true rfl)
    rw [lg_entry_eq]
    generalize (lg_sl ([.int (nI a), .int (nI b)]) ++ List.replicate (2 - (lg_sl ([.int (nI a), .int (nI b)])).length) Slot.unset).toArray = ls at hl ⊢
    have hl : lv_has ls 2 [(0, .int (nI a)), (1, .int (nI b))] := hl
    have ha := ha a rfl
    have hb9 := hb9 b rfl
    refine lv_iload_n hx hb dX5_free_0 rfl (lv_at hl 0 rfl) ?_
    refine lv_iconst (v := (-1)) hx hb dX5_free_1 (by decide) ?_
    refine lv_icmp_ne (tgt := 9) hx hb dX5_free_2 (by decide) (fun c2 => ?_) (fun c2 => ?_)
    · refine lv_iload_n hx hb dX5_free_9 rfl (lv_at hl 1 rfl) ?_
      refine lv_iconst (v := (-1)) hx hb dX5_free_10 (by decide) ?_
      refine lv_icmp_ne (tgt := 18) hx hb dX5_free_11 (by decide) (fun c11 => ?_) (fun c11 => ?_)
      · refine lv_iconst (v := nI 2) hx hb dX5_free_18 (by decide) ?_
        exact W.iret (v := nI 2) hx hb hr (fun t ht hW => ⟨_, rfl, rfl, ht⟩) (fun q h => by cases h) dX5_free_19
      · exact absurd c11 (nI_nm1 (by omega))
    · exact absurd c2 (nI_nm1 (by omega))

set_option maxHeartbeats 4000000 in
set_option maxRecDepth 100000 in
theorem m_isWithin (l : Launch) (D : va_G) (ct : Nat → ClassId) (x : Nat) (a : Option Nat) (b : Option Nat) (ha : ∀ j, a = some j → j < 1000) (hb9 : ∀ j, b = some j → j < 1000) (hx9 : x < 1000000000) : Met l yX5_isWithin wsX5_isWithin ({ frames := 1, cells := 0, slots := 0, locals := 21 }) (tb_Pr D ct [.int (nI x), .int (oI a), .int (oI b)] []) (vp_Si (fun r => r = bB (decide (tCov a b (tTerm x 0) (tTerm x 1))))) 0 0 (fun _ => False) := by
  rcases a with _ | a <;> rcases b with _ | b
  · show Met l yX5_isWithin wsX5_isWithin ({ frames := 1, cells := 0, slots := 0, locals := 21 }) (tb_Pr D ct [.int (nI x), .int (-1), .int (-1)] []) (vp_Si (fun r => r = bB (decide (tCov none none (tTerm x 0) (tTerm x 1))))) 0 0 (fun _ => False)
    refine Met.ofW (cc := cX5_isWithin) (maxL := 3) (ret := (some .boolean)) (by decide) rfl ?_
    intro p e s m args below meth c s₁ B hml hv
    obtain ⟨rfl, hP, hK, hZ⟩ := hv
    have hx := B.exec
    have hb := B.bytes
    have hr := B.returns
    have hts0 := atoms_spec (ws := wsX5_isWithin) B.pre
    have hts : ∀ w9 ∈ aw, w9.before ([.int (nI x), .int (-1), .int (-1)] : List Value).toArray s = true := fun w9 h9 => hts0 w9 (List.mem_cons_of_mem _ h9)
    have hown : s.vm.findClass RX5 = some m.cls := findClass_of_methodNamed B.named
    have hlocks := B.notSynchronized
    have hS : va_S (fun _ => False) s.heap s.heap [] := va_S.rf
    have hP : va_P D vwCl [] s.heap := hP
    have hl := lv_entry ([.int (nI x), .int (-1), .int (-1)]) (n := 3) (Nat.le_of_ble_eq_true rfl)
    rw [lg_entry_eq]
    generalize (lg_sl ([.int (nI x), .int (-1), .int (-1)]) ++ List.replicate (3 - (lg_sl ([.int (nI x), .int (-1), .int (-1)])).length) Slot.unset).toArray = ls at hl ⊢
    have hl : lv_has ls 3 [(0, .int (nI x)), (1, .int (-1)), (2, .int (-1))] := hl
    have t0 := tTerm_lt hx9 0
    have t1 := tTerm_lt hx9 1
    refine lv_iload_n hx hb dX5_isWithin_0 rfl (lv_at hl 1 rfl) ?_
    refine lv_iconst (v := (-1)) hx hb dX5_isWithin_1 (by decide) ?_
    refine lv_icmp_eq (tgt := 14) hx hb dX5_isWithin_2 (by decide) (fun c2 => ?_) (fun c2 => ?_)
    · refine lv_iload_n hx hb dX5_isWithin_14 rfl (lv_at hl 2 rfl) ?_
      refine lv_iconst (v := (-1)) hx hb dX5_isWithin_15 (by decide) ?_
      refine lv_icmp_eq (tgt := 28) hx hb dX5_isWithin_16 (by decide) (fun c16 => ?_) (fun c16 => ?_)
      · refine lv_iconst (v := nI 1) hx hb dX5_isWithin_28 (by decide) ?_
        refine lv_goto (tgt := 33) hx hb dX5_isWithin_29 (by decide) ?_
        exact W.zret (v := 1) hx hb hr (by decide) (fun t ht hW => ⟨_, rfl, (by first | exact bB_t ⟨Or.inl rfl, Or.inl rfl⟩ | exact bB_t ⟨Or.inl rfl, Or.inr (congrArg some c25.symm)⟩ | exact bB_t ⟨Or.inr (congrArg some c11.symm), Or.inl rfl⟩ | exact bB_t ⟨Or.inr (congrArg some c11.symm), Or.inr (congrArg some c25.symm)⟩ | exact bB_f (fun q => c11 (by rcases q.1 with q | q; cases q; exact (Option.some.inj q).symm)) | exact bB_f (fun q => c25 (by rcases q.2 with q | q; cases q; exact (Option.some.inj q).symm))), ht⟩) (fun q h => by cases h) dX5_isWithin_33
      · exact absurd rfl c16
    · exact absurd rfl c2
  · show Met l yX5_isWithin wsX5_isWithin ({ frames := 1, cells := 0, slots := 0, locals := 21 }) (tb_Pr D ct [.int (nI x), .int (-1), .int (nI b)] []) (vp_Si (fun r => r = bB (decide (tCov none (some b) (tTerm x 0) (tTerm x 1))))) 0 0 (fun _ => False)
    refine Met.ofW (cc := cX5_isWithin) (maxL := 3) (ret := (some .boolean)) (by decide) rfl ?_
    intro p e s m args below meth c s₁ B hml hv
    obtain ⟨rfl, hP, hK, hZ⟩ := hv
    have hx := B.exec
    have hb := B.bytes
    have hr := B.returns
    have hts0 := atoms_spec (ws := wsX5_isWithin) B.pre
    have hts : ∀ w9 ∈ aw, w9.before ([.int (nI x), .int (-1), .int (nI b)] : List Value).toArray s = true := fun w9 h9 => hts0 w9 (List.mem_cons_of_mem _ h9)
    have hown : s.vm.findClass RX5 = some m.cls := findClass_of_methodNamed B.named
    have hlocks := B.notSynchronized
    have hS : va_S (fun _ => False) s.heap s.heap [] := va_S.rf
    have hP : va_P D vwCl [] s.heap := hP
    have hl := lv_entry ([.int (nI x), .int (-1), .int (nI b)]) (n := 3) (Nat.le_of_ble_eq_true rfl)
    rw [lg_entry_eq]
    generalize (lg_sl ([.int (nI x), .int (-1), .int (nI b)]) ++ List.replicate (3 - (lg_sl ([.int (nI x), .int (-1), .int (nI b)])).length) Slot.unset).toArray = ls at hl ⊢
    have hl : lv_has ls 3 [(0, .int (nI x)), (1, .int (-1)), (2, .int (nI b))] := hl
    have t0 := tTerm_lt hx9 0
    have t1 := tTerm_lt hx9 1
    have hb9 := hb9 b rfl
    refine lv_iload_n hx hb dX5_isWithin_0 rfl (lv_at hl 1 rfl) ?_
    refine lv_iconst (v := (-1)) hx hb dX5_isWithin_1 (by decide) ?_
    refine lv_icmp_eq (tgt := 14) hx hb dX5_isWithin_2 (by decide) (fun c2 => ?_) (fun c2 => ?_)
    · refine lv_iload_n hx hb dX5_isWithin_14 rfl (lv_at hl 2 rfl) ?_
      refine lv_iconst (v := (-1)) hx hb dX5_isWithin_15 (by decide) ?_
      refine lv_icmp_eq (tgt := 28) hx hb dX5_isWithin_16 (by decide) (fun c16 => ?_) (fun c16 => ?_)
      · exact absurd c16 (nI_nm1 (by omega))
      · refine lv_iload_n hx hb dX5_isWithin_19 rfl (lv_at hl 0 rfl) ?_
        refine lv_iconst (v := nI 1) hx hb dX5_isWithin_20 (by decide) ?_
        refine vp_callSi (va_Run.run (va_runS (As := [.int (nI x), .int (nI 1)]) (rest := []) ⟨hx, hb, hml, hown, hts⟩ (m_digits l D ct x 1 (by omega) (by omega)) (va_cwS 2 hts (gw_S (fun _ h => h) w_342 w_343 w_30 wcX5_digits) rfl rfl rfl hvX5_digits.2 ⟨Nat.le_of_ble_eq_true rfl, Nat.le_of_ble_eq_true rfl⟩) (tb_prS hP hK hZ hS [] rfl) rfl rfl hl.1 rfl (lv_room (Nat.le_of_ble_eq_true rfl)) dX5_isWithin_21 ⟨Nat.zero_le _, Nat.zero_le _⟩)) (fun r_21 hr_21 => ?_)
        obtain rfl : r_21 = nI (tTerm x 1) := hr_21
        refine lv_iload_n hx hb dX5_isWithin_24 rfl (lv_at hl 2 rfl) ?_
        refine tb_icmp_ne (tgt := 32) hx hb dX5_isWithin_25 (by decide) (by omega) (by omega) (fun c25 => ?_) (fun c25 => ?_)
        · refine lv_iconst (v := nI 0) hx hb dX5_isWithin_32 (by decide) ?_
          exact W.zret (v := 0) hx hb hr (by decide) (fun t ht hW => ⟨_, rfl, (by first | exact bB_t ⟨Or.inl rfl, Or.inl rfl⟩ | exact bB_t ⟨Or.inl rfl, Or.inr (congrArg some c25.symm)⟩ | exact bB_t ⟨Or.inr (congrArg some c11.symm), Or.inl rfl⟩ | exact bB_t ⟨Or.inr (congrArg some c11.symm), Or.inr (congrArg some c25.symm)⟩ | exact bB_f (fun q => c11 (by rcases q.1 with q | q; cases q; exact (Option.some.inj q).symm)) | exact bB_f (fun q => c25 (by rcases q.2 with q | q; cases q; exact (Option.some.inj q).symm))), ht⟩) (fun q h => by cases h) dX5_isWithin_33
        · refine lv_iconst (v := nI 1) hx hb dX5_isWithin_28 (by decide) ?_
          refine lv_goto (tgt := 33) hx hb dX5_isWithin_29 (by decide) ?_
          exact W.zret (v := 1) hx hb hr (by decide) (fun t ht hW => ⟨_, rfl, (by first | exact bB_t ⟨Or.inl rfl, Or.inl rfl⟩ | exact bB_t ⟨Or.inl rfl, Or.inr (congrArg some c25.symm)⟩ | exact bB_t ⟨Or.inr (congrArg some c11.symm), Or.inl rfl⟩ | exact bB_t ⟨Or.inr (congrArg some c11.symm), Or.inr (congrArg some c25.symm)⟩ | exact bB_f (fun q => c11 (by rcases q.1 with q | q; cases q; exact (Option.some.inj q).symm)) | exact bB_f (fun q => c25 (by rcases q.2 with q | q; cases q; exact (Option.some.inj q).symm))), ht⟩) (fun q h => by cases h) dX5_isWithin_33
    · exact absurd rfl c2
  · show Met l yX5_isWithin wsX5_isWithin ({ frames := 1, cells := 0, slots := 0, locals := 21 }) (tb_Pr D ct [.int (nI x), .int (nI a), .int (-1)] []) (vp_Si (fun r => r = bB (decide (tCov (some a) none (tTerm x 0) (tTerm x 1))))) 0 0 (fun _ => False)
    refine Met.ofW (cc := cX5_isWithin) (maxL := 3) (ret := (some .boolean)) (by decide) rfl ?_
    intro p e s m args below meth c s₁ B hml hv
    obtain ⟨rfl, hP, hK, hZ⟩ := hv
    have hx := B.exec
    have hb := B.bytes
    have hr := B.returns
    have hts0 := atoms_spec (ws := wsX5_isWithin) B.pre
    have hts : ∀ w9 ∈ aw, w9.before ([.int (nI x), .int (nI a), .int (-1)] : List Value).toArray s = true := fun w9 h9 => hts0 w9 (List.mem_cons_of_mem _ h9)
    have hown : s.vm.findClass RX5 = some m.cls := findClass_of_methodNamed B.named
    have hlocks := B.notSynchronized
    have hS : va_S (fun _ => False) s.heap s.heap [] := va_S.rf
    have hP : va_P D vwCl [] s.heap := hP
    have hl := lv_entry ([.int (nI x), .int (nI a), .int (-1)]) (n := 3) (Nat.le_of_ble_eq_true rfl)
    rw [lg_entry_eq]
    generalize (lg_sl ([.int (nI x), .int (nI a), .int (-1)]) ++ List.replicate (3 - (lg_sl ([.int (nI x), .int (nI a), .int (-1)])).length) Slot.unset).toArray = ls at hl ⊢
    have hl : lv_has ls 3 [(0, .int (nI x)), (1, .int (nI a)), (2, .int (-1))] := hl
    have t0 := tTerm_lt hx9 0
    have t1 := tTerm_lt hx9 1
    have ha := ha a rfl
    refine lv_iload_n hx hb dX5_isWithin_0 rfl (lv_at hl 1 rfl) ?_
    refine lv_iconst (v := (-1)) hx hb dX5_isWithin_1 (by decide) ?_
    refine lv_icmp_eq (tgt := 14) hx hb dX5_isWithin_2 (by decide) (fun c2 => ?_) (fun c2 => ?_)
    · exact absurd c2 (nI_nm1 (by omega))
    · refine lv_iload_n hx hb dX5_isWithin_5 rfl (lv_at hl 0 rfl) ?_
      refine lv_iconst (v := nI 0) hx hb dX5_isWithin_6 (by decide) ?_
      refine vp_callSi (va_Run.run (va_runS (As := [.int (nI x), .int (nI 0)]) (rest := []) ⟨hx, hb, hml, hown, hts⟩ (m_digits l D ct x 0 (by omega) (by omega)) (va_cwS 2 hts (gw_S (fun _ h => h) w_342 w_343 w_30 wcX5_digits) rfl rfl rfl hvX5_digits.2 ⟨Nat.le_of_ble_eq_true rfl, Nat.le_of_ble_eq_true rfl⟩) (tb_prS hP hK hZ hS [] rfl) rfl rfl hl.1 rfl (lv_room (Nat.le_of_ble_eq_true rfl)) dX5_isWithin_7 ⟨Nat.zero_le _, Nat.zero_le _⟩)) (fun r_7 hr_7 => ?_)
      obtain rfl : r_7 = nI (tTerm x 0) := hr_7
      refine lv_iload_n hx hb dX5_isWithin_10 rfl (lv_at hl 1 rfl) ?_
      refine tb_icmp_ne (tgt := 32) hx hb dX5_isWithin_11 (by decide) (by omega) (by omega) (fun c11 => ?_) (fun c11 => ?_)
      · refine lv_iconst (v := nI 0) hx hb dX5_isWithin_32 (by decide) ?_
        exact W.zret (v := 0) hx hb hr (by decide) (fun t ht hW => ⟨_, rfl, (by first | exact bB_t ⟨Or.inl rfl, Or.inl rfl⟩ | exact bB_t ⟨Or.inl rfl, Or.inr (congrArg some c25.symm)⟩ | exact bB_t ⟨Or.inr (congrArg some c11.symm), Or.inl rfl⟩ | exact bB_t ⟨Or.inr (congrArg some c11.symm), Or.inr (congrArg some c25.symm)⟩ | exact bB_f (fun q => c11 (by rcases q.1 with q | q; cases q; exact (Option.some.inj q).symm)) | exact bB_f (fun q => c25 (by rcases q.2 with q | q; cases q; exact (Option.some.inj q).symm))), ht⟩) (fun q h => by cases h) dX5_isWithin_33
      · refine lv_iload_n hx hb dX5_isWithin_14 rfl (lv_at hl 2 rfl) ?_
        refine lv_iconst (v := (-1)) hx hb dX5_isWithin_15 (by decide) ?_
        refine lv_icmp_eq (tgt := 28) hx hb dX5_isWithin_16 (by decide) (fun c16 => ?_) (fun c16 => ?_)
        · refine lv_iconst (v := nI 1) hx hb dX5_isWithin_28 (by decide) ?_
          refine lv_goto (tgt := 33) hx hb dX5_isWithin_29 (by decide) ?_
          exact W.zret (v := 1) hx hb hr (by decide) (fun t ht hW => ⟨_, rfl, (by first | exact bB_t ⟨Or.inl rfl, Or.inl rfl⟩ | exact bB_t ⟨Or.inl rfl, Or.inr (congrArg some c25.symm)⟩ | exact bB_t ⟨Or.inr (congrArg some c11.symm), Or.inl rfl⟩ | exact bB_t ⟨Or.inr (congrArg some c11.symm), Or.inr (congrArg some c25.symm)⟩ | exact bB_f (fun q => c11 (by rcases q.1 with q | q; cases q; exact (Option.some.inj q).symm)) | exact bB_f (fun q => c25 (by rcases q.2 with q | q; cases q; exact (Option.some.inj q).symm))), ht⟩) (fun q h => by cases h) dX5_isWithin_33
        · exact absurd rfl c16
  · show Met l yX5_isWithin wsX5_isWithin ({ frames := 1, cells := 0, slots := 0, locals := 21 }) (tb_Pr D ct [.int (nI x), .int (nI a), .int (nI b)] []) (vp_Si (fun r => r = bB (decide (tCov (some a) (some b) (tTerm x 0) (tTerm x 1))))) 0 0 (fun _ => False)
    refine Met.ofW (cc := cX5_isWithin) (maxL := 3) (ret := (some .boolean)) (by decide) rfl ?_
    intro p e s m args below meth c s₁ B hml hv
    obtain ⟨rfl, hP, hK, hZ⟩ := hv
    have hx := B.exec
    have hb := B.bytes
    have hr := B.returns
    have hts0 := atoms_spec (ws := wsX5_isWithin) B.pre
    have hts : ∀ w9 ∈ aw, w9.before ([.int (nI x), .int (nI a), .int (nI b)] : List Value).toArray s = true := fun w9 h9 => hts0 w9 (List.mem_cons_of_mem _ h9)
    have hown : s.vm.findClass RX5 = some m.cls := findClass_of_methodNamed B.named
    have hlocks := B.notSynchronized
    have hS : va_S (fun _ => False) s.heap s.heap [] := va_S.rf
    have hP : va_P D vwCl [] s.heap := hP
    have hl := lv_entry ([.int (nI x), .int (nI a), .int (nI b)]) (n := 3) (Nat.le_of_ble_eq_true rfl)
    rw [lg_entry_eq]
    generalize (lg_sl ([.int (nI x), .int (nI a), .int (nI b)]) ++ List.replicate (3 - (lg_sl ([.int (nI x), .int (nI a), .int (nI b)])).length) Slot.unset).toArray = ls at hl ⊢
    have hl : lv_has ls 3 [(0, .int (nI x)), (1, .int (nI a)), (2, .int (nI b))] := hl
    have t0 := tTerm_lt hx9 0
    have t1 := tTerm_lt hx9 1
    have ha := ha a rfl
    have hb9 := hb9 b rfl
    refine lv_iload_n hx hb dX5_isWithin_0 rfl (lv_at hl 1 rfl) ?_
    refine lv_iconst (v := (-1)) hx hb dX5_isWithin_1 (by decide) ?_
    refine lv_icmp_eq (tgt := 14) hx hb dX5_isWithin_2 (by decide) (fun c2 => ?_) (fun c2 => ?_)
    · exact absurd c2 (nI_nm1 (by omega))
    · refine lv_iload_n hx hb dX5_isWithin_5 rfl (lv_at hl 0 rfl) ?_
      refine lv_iconst (v := nI 0) hx hb dX5_isWithin_6 (by decide) ?_
      refine vp_callSi (va_Run.run (va_runS (As := [.int (nI x), .int (nI 0)]) (rest := []) ⟨hx, hb, hml, hown, hts⟩ (m_digits l D ct x 0 (by omega) (by omega)) (va_cwS 2 hts (gw_S (fun _ h => h) w_342 w_343 w_30 wcX5_digits) rfl rfl rfl hvX5_digits.2 ⟨Nat.le_of_ble_eq_true rfl, Nat.le_of_ble_eq_true rfl⟩) (tb_prS hP hK hZ hS [] rfl) rfl rfl hl.1 rfl (lv_room (Nat.le_of_ble_eq_true rfl)) dX5_isWithin_7 ⟨Nat.zero_le _, Nat.zero_le _⟩)) (fun r_7 hr_7 => ?_)
      obtain rfl : r_7 = nI (tTerm x 0) := hr_7
      refine lv_iload_n hx hb dX5_isWithin_10 rfl (lv_at hl 1 rfl) ?_
      refine tb_icmp_ne (tgt := 32) hx hb dX5_isWithin_11 (by decide) (by omega) (by omega) (fun c11 => ?_) (fun c11 => ?_)
      · refine lv_iconst (v := nI 0) hx hb dX5_isWithin_32 (by decide) ?_
        exact W.zret (v := 0) hx hb hr (by decide) (fun t ht hW => ⟨_, rfl, (by first | exact bB_t ⟨Or.inl rfl, Or.inl rfl⟩ | exact bB_t ⟨Or.inl rfl, Or.inr (congrArg some c25.symm)⟩ | exact bB_t ⟨Or.inr (congrArg some c11.symm), Or.inl rfl⟩ | exact bB_t ⟨Or.inr (congrArg some c11.symm), Or.inr (congrArg some c25.symm)⟩ | exact bB_f (fun q => c11 (by rcases q.1 with q | q; cases q; exact (Option.some.inj q).symm)) | exact bB_f (fun q => c25 (by rcases q.2 with q | q; cases q; exact (Option.some.inj q).symm))), ht⟩) (fun q h => by cases h) dX5_isWithin_33
      · refine lv_iload_n hx hb dX5_isWithin_14 rfl (lv_at hl 2 rfl) ?_
        refine lv_iconst (v := (-1)) hx hb dX5_isWithin_15 (by decide) ?_
        refine lv_icmp_eq (tgt := 28) hx hb dX5_isWithin_16 (by decide) (fun c16 => ?_) (fun c16 => ?_)
        · exact absurd c16 (nI_nm1 (by omega))
        · refine lv_iload_n hx hb dX5_isWithin_19 rfl (lv_at hl 0 rfl) ?_
          refine lv_iconst (v := nI 1) hx hb dX5_isWithin_20 (by decide) ?_
          refine vp_callSi (va_Run.run (va_runS (As := [.int (nI x), .int (nI 1)]) (rest := []) ⟨hx, hb, hml, hown, hts⟩ (m_digits l D ct x 1 (by omega) (by omega)) (va_cwS 2 hts (gw_S (fun _ h => h) w_342 w_343 w_30 wcX5_digits) rfl rfl rfl hvX5_digits.2 ⟨Nat.le_of_ble_eq_true rfl, Nat.le_of_ble_eq_true rfl⟩) (tb_prS hP hK hZ hS [] rfl) rfl rfl hl.1 rfl (lv_room (Nat.le_of_ble_eq_true rfl)) dX5_isWithin_21 ⟨Nat.zero_le _, Nat.zero_le _⟩)) (fun r_21 hr_21 => ?_)
          obtain rfl : r_21 = nI (tTerm x 1) := hr_21
          refine lv_iload_n hx hb dX5_isWithin_24 rfl (lv_at hl 2 rfl) ?_
          refine tb_icmp_ne (tgt := 32) hx hb dX5_isWithin_25 (by decide) (by omega) (by omega) (fun c25 => ?_) (fun c25 => ?_)
          · refine lv_iconst (v := nI 0) hx hb dX5_isWithin_32 (by decide) ?_
            exact W.zret (v := 0) hx hb hr (by decide) (fun t ht hW => ⟨_, rfl, (by first | exact bB_t ⟨Or.inl rfl, Or.inl rfl⟩ | exact bB_t ⟨Or.inl rfl, Or.inr (congrArg some c25.symm)⟩ | exact bB_t ⟨Or.inr (congrArg some c11.symm), Or.inl rfl⟩ | exact bB_t ⟨Or.inr (congrArg some c11.symm), Or.inr (congrArg some c25.symm)⟩ | exact bB_f (fun q => c11 (by rcases q.1 with q | q; cases q; exact (Option.some.inj q).symm)) | exact bB_f (fun q => c25 (by rcases q.2 with q | q; cases q; exact (Option.some.inj q).symm))), ht⟩) (fun q h => by cases h) dX5_isWithin_33
          · refine lv_iconst (v := nI 1) hx hb dX5_isWithin_28 (by decide) ?_
            refine lv_goto (tgt := 33) hx hb dX5_isWithin_29 (by decide) ?_
            exact W.zret (v := 1) hx hb hr (by decide) (fun t ht hW => ⟨_, rfl, (by first | exact bB_t ⟨Or.inl rfl, Or.inl rfl⟩ | exact bB_t ⟨Or.inl rfl, Or.inr (congrArg some c25.symm)⟩ | exact bB_t ⟨Or.inr (congrArg some c11.symm), Or.inl rfl⟩ | exact bB_t ⟨Or.inr (congrArg some c11.symm), Or.inr (congrArg some c25.symm)⟩ | exact bB_f (fun q => c11 (by rcases q.1 with q | q; cases q; exact (Option.some.inj q).symm)) | exact bB_f (fun q => c25 (by rcases q.2 with q | q; cases q; exact (Option.some.inj q).symm))), ht⟩) (fun q h => by cases h) dX5_isWithin_33
