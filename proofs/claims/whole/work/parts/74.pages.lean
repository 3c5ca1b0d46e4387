set_option maxHeartbeats 4000000 in
set_option maxRecDepth 100000 in
theorem k_pages_m2 (l : Launch) (D : va_G) (ct : Nat → ClassId) (mo : Nat) (g : Nat) (pr : Nat) (hh : Nat) (rh : Nat) (aq : Nat) (ld : Nat) (lc : Nat) (nh : Nat) (ty : Nat) (x : Int32) (hbad : ¬ tRng x 6) : Met l yX4_pages wsX4_pages ({ frames := 1, cells := 0, slots := 0, locals := 20 }) (tb_Pr D ct [.ref mo, .int x] [(mo, .inr (4, [.ref g, .ref pr, .ref hh, .ref rh, .ref aq, .ref ld, .int (nI lc), .ref nh, .ref ty]))]) (vp_Si (fun r => r = (-2))) 0 0 (fun _ => False) := by
  refine Met.ofW (cc := cX4_pages) (maxL := 2) (ret := (some .int)) (by decide) rfl ?_
  intro p e s m args below meth c s₁ B hml hv
  obtain ⟨rfl, hP, hK, hZ⟩ := hv
  have hx := B.exec
  have hb := B.bytes
  have hr := B.returns
  have hts0 := atoms_spec (ws := wsX4_pages) B.pre
  have hts : ∀ w9 ∈ aw, w9.before ([.ref mo, .int x] : List Value).toArray s = true := fun w9 h9 => hts0 w9 (List.mem_cons_of_mem _ h9)
  have hown : s.vm.findClass RX4 = some m.cls := findClass_of_methodNamed B.named
  have hlocks := B.notSynchronized
  have hS : va_S (fun _ => False) s.heap s.heap [] := va_S.rf
  have hP : va_P D vwCl [(mo, .inr (4, [.ref g, .ref pr, .ref hh, .ref rh, .ref aq, .ref ld, .int (nI lc), .ref nh, .ref ty]))] s.heap := hP
  have hl := lv_entry ([.ref mo, .int x]) (n := 2) (Nat.le_of_ble_eq_true rfl)
  rw [lg_entry_eq]
  generalize (lg_sl ([.ref mo, .int x]) ++ List.replicate (2 - (lg_sl ([.ref mo, .int x])).length) Slot.unset).toArray = ls at hl ⊢
  have hl : lv_has ls 2 [(0, .ref mo), (1, .int x)] := hl
  refine lv_iload_n hx hb dX4_pages_0 rfl (lv_at hl 1 rfl) ?_
  refine vp_callSi (va_Run.run (va_runS (As := [.int x]) (rest := []) ⟨hx, hb, hml, hown, hts⟩ (k_isOrder l D ct x ) (va_cwS 1 hts (gw_S (fun _ h => h) w_112 w_113 w_24 wcX4_isOrder) rfl rfl rfl hvX4_isOrder.2 ⟨Nat.le_of_ble_eq_true rfl, Nat.le_of_ble_eq_true rfl⟩) (tb_prS hP hK hZ hS [] rfl) rfl rfl hl.1 rfl (lv_room (Nat.le_of_ble_eq_true rfl)) dX4_pages_1 ⟨Nat.zero_le _, Nat.zero_le _⟩)) (fun r_1 hr_1 => ?_)
  obtain rfl : r_1 = bB (decide (tRng x 6)) := hr_1
  refine tb_if_eqB (tgt := 19) hx hb dX4_pages_4 (by decide) (fun c4 => ?_) (fun c4 => ?_)
  · refine lv_bipush (v := (-2)) hx hb dX4_pages_19 (by decide) ?_
    exact W.iret (v := (-2)) hx hb hr (fun t ht hW => ⟨_, rfl, rfl, ht⟩) (fun q h => by cases h) dX4_pages_21
  · exact absurd c4 hbad

set_option maxHeartbeats 4000000 in
set_option maxRecDepth 100000 in
theorem k_pages_ok (l : Launch) (D : va_G) (ct : Nat → ClassId) (mo : Nat) (g : Nat) (pr : Nat) (hh : Nat) (rh : Nat) (aq : Nat) (ld : Nat) (lc : Nat) (nh : Nat) (ty : Nat) (R : Nat) (pa : Nat → Nat) (ta : Nat → Nat) (ka : Nat → Nat) (ga : Nat → Nat) (nt : Nat) (F : Nat → Nat → Nat) (Qf : Nat → Nat) (Zf : Nat → Nat → Nat) (o : Nat) (ho : o < 6) : Met l yX4_pages wsX4_pages ({ frames := 1, cells := 0, slots := 0, locals := 20 }) (tb_Pr D ct [.ref mo, .int (nI o)] [(mo, .inr (4, [.ref g, .ref pr, .ref hh, .ref rh, .ref aq, .ref ld, .int (nI lc), .ref nh, .ref ty])), (pr, .inl (ct 3, 6, .inr (.inr (.inr (.inr (sF pa)))))), (pa 0, .inr (1, [.ref (ta 0), .ref (ga 0), .int (nI (Qf 0))])), (ta 0, .inr (3, [.ref (ka 0), .int (nI nt)])), (ka 0, .inl (ct 0, R, .inl (aN (F 0)))), (ga 0, .inl (ct 0, R, .inl (aN (Zf 0)))), (pa 1, .inr (1, [.ref (ta 1), .ref (ga 1), .int (nI (Qf 1))])), (ta 1, .inr (3, [.ref (ka 1), .int (nI nt)])), (ka 1, .inl (ct 0, R, .inl (aN (F 1)))), (ga 1, .inl (ct 0, R, .inl (aN (Zf 1)))), (pa 2, .inr (1, [.ref (ta 2), .ref (ga 2), .int (nI (Qf 2))])), (ta 2, .inr (3, [.ref (ka 2), .int (nI nt)])), (ka 2, .inl (ct 0, R, .inl (aN (F 2)))), (ga 2, .inl (ct 0, R, .inl (aN (Zf 2)))), (pa 3, .inr (1, [.ref (ta 3), .ref (ga 3), .int (nI (Qf 3))])), (ta 3, .inr (3, [.ref (ka 3), .int (nI nt)])), (ka 3, .inl (ct 0, R, .inl (aN (F 3)))), (ga 3, .inl (ct 0, R, .inl (aN (Zf 3)))), (pa 4, .inr (1, [.ref (ta 4), .ref (ga 4), .int (nI (Qf 4))])), (ta 4, .inr (3, [.ref (ka 4), .int (nI nt)])), (ka 4, .inl (ct 0, R, .inl (aN (F 4)))), (ga 4, .inl (ct 0, R, .inl (aN (Zf 4)))), (pa 5, .inr (1, [.ref (ta 5), .ref (ga 5), .int (nI (Qf 5))])), (ta 5, .inr (3, [.ref (ka 5), .int (nI nt)])), (ka 5, .inl (ct 0, R, .inl (aN (F 5)))), (ga 5, .inl (ct 0, R, .inl (aN (Zf 5))))]) (vp_Si (fun r => r = nI (Qf o))) 0 0 (fun _ => False) := by
  refine Met.ofW (cc := cX4_pages) (maxL := 2) (ret := (some .int)) (by decide) rfl ?_
  intro p e s m args below meth c s₁ B hml hv
  obtain ⟨rfl, hP, hK, hZ⟩ := hv
  have hx := B.exec
  have hb := B.bytes
  have hr := B.returns
  have hts0 := atoms_spec (ws := wsX4_pages) B.pre
  have hts : ∀ w9 ∈ aw, w9.before ([.ref mo, .int (nI o)] : List Value).toArray s = true := fun w9 h9 => hts0 w9 (List.mem_cons_of_mem _ h9)
  have hown : s.vm.findClass RX4 = some m.cls := findClass_of_methodNamed B.named
  have hlocks := B.notSynchronized
  have hS : va_S (fun _ => False) s.heap s.heap [] := va_S.rf
  have hP : va_P D vwCl [(mo, .inr (4, [.ref g, .ref pr, .ref hh, .ref rh, .ref aq, .ref ld, .int (nI lc), .ref nh, .ref ty])), (pr, .inl (ct 3, 6, .inr (.inr (.inr (.inr (sF pa)))))), (pa 0, .inr (1, [.ref (ta 0), .ref (ga 0), .int (nI (Qf 0))])), (ta 0, .inr (3, [.ref (ka 0), .int (nI nt)])), (ka 0, .inl (ct 0, R, .inl (aN (F 0)))), (ga 0, .inl (ct 0, R, .inl (aN (Zf 0)))), (pa 1, .inr (1, [.ref (ta 1), .ref (ga 1), .int (nI (Qf 1))])), (ta 1, .inr (3, [.ref (ka 1), .int (nI nt)])), (ka 1, .inl (ct 0, R, .inl (aN (F 1)))), (ga 1, .inl (ct 0, R, .inl (aN (Zf 1)))), (pa 2, .inr (1, [.ref (ta 2), .ref (ga 2), .int (nI (Qf 2))])), (ta 2, .inr (3, [.ref (ka 2), .int (nI nt)])), (ka 2, .inl (ct 0, R, .inl (aN (F 2)))), (ga 2, .inl (ct 0, R, .inl (aN (Zf 2)))), (pa 3, .inr (1, [.ref (ta 3), .ref (ga 3), .int (nI (Qf 3))])), (ta 3, .inr (3, [.ref (ka 3), .int (nI nt)])), (ka 3, .inl (ct 0, R, .inl (aN (F 3)))), (ga 3, .inl (ct 0, R, .inl (aN (Zf 3)))), (pa 4, .inr (1, [.ref (ta 4), .ref (ga 4), .int (nI (Qf 4))])), (ta 4, .inr (3, [.ref (ka 4), .int (nI nt)])), (ka 4, .inl (ct 0, R, .inl (aN (F 4)))), (ga 4, .inl (ct 0, R, .inl (aN (Zf 4)))), (pa 5, .inr (1, [.ref (ta 5), .ref (ga 5), .int (nI (Qf 5))])), (ta 5, .inr (3, [.ref (ka 5), .int (nI nt)])), (ka 5, .inl (ct 0, R, .inl (aN (F 5)))), (ga 5, .inl (ct 0, R, .inl (aN (Zf 5))))] s.heap := hP
  have hl := lv_entry ([.ref mo, .int (nI o)]) (n := 2) (Nat.le_of_ble_eq_true rfl)
  rw [lg_entry_eq]
  generalize (lg_sl ([.ref mo, .int (nI o)]) ++ List.replicate (2 - (lg_sl ([.ref mo, .int (nI o)])).length) Slot.unset).toArray = ls at hl ⊢
  have hl : lv_has ls 2 [(0, .ref mo), (1, .int (nI o))] := hl
  refine lv_iload_n hx hb dX4_pages_0 rfl (lv_at hl 1 rfl) ?_
  refine vp_callSi (va_Run.run (va_runS (As := [.int (nI o)]) (rest := []) ⟨hx, hb, hml, hown, hts⟩ (k_isOrder l D ct (nI o) ) (va_cwS 1 hts (gw_S (fun _ h => h) w_112 w_113 w_24 wcX4_isOrder) rfl rfl rfl hvX4_isOrder.2 ⟨Nat.le_of_ble_eq_true rfl, Nat.le_of_ble_eq_true rfl⟩) (tb_prS hP hK hZ hS [] rfl) rfl rfl hl.1 rfl (lv_room (Nat.le_of_ble_eq_true rfl)) dX4_pages_1 ⟨Nat.zero_le _, Nat.zero_le _⟩)) (fun r_1 hr_1 => ?_)
  obtain rfl : r_1 = bB (decide (tRng (nI o) 6)) := hr_1
  refine tb_if_eqB (tgt := 19) hx hb dX4_pages_4 (by decide) (fun c4 => ?_) (fun c4 => ?_)
  · exact absurd (tRng_nI ho (by decide)) c4
  · refine lv_aload_n hx hb dX4_pages_7 rfl (lv_at hl 0 rfl) ?_
    refine va_get (D := D) (ci := 4) (v := .ref pr) (C := RX4) (T := TX4) (N := 9) hx hb hts inX4 hown hK hP 0 rfl rfl 1 (by decide) (hts _ w_88) (fun _ h9 => h9) rfl dX4_pages_8 ?_
    refine lv_iload_n hx hb dX4_pages_11 rfl (lv_at hl 1 rfl) ?_
    obtain rfl | rfl | rfl | rfl | rfl | rfl : o = 0 ∨ o = 1 ∨ o = 2 ∨ o = 3 ∨ o = 4 ∨ o = 5 := by omega
    · skip
      refine tb_aald hx hb hK hP 1 3 rfl rfl rfl (b := pa 0) (i := 0) (by omega) (by decide) rfl dX4_pages_12 ?_
      refine va_get (D := D) (ci := 1) (v := .int (nI (Qf 0))) (C := RX1) (T := TX1) (N := 3) hx hb hts inX1 hown hK hP 2 rfl rfl 2 (by decide) (hts _ w_76) (fun _ h9 => h9) rfl dX4_pages_13 ?_
      refine lv_goto (tgt := 21) hx hb dX4_pages_16 (by decide) ?_
      exact W.iret (v := nI (Qf 0)) hx hb hr (fun t ht hW => ⟨_, rfl, rfl, ht⟩) (fun q h => by cases h) dX4_pages_21
    · skip
      refine tb_aald hx hb hK hP 1 3 rfl rfl rfl (b := pa 1) (i := 1) (by omega) (by decide) rfl dX4_pages_12 ?_
      refine va_get (D := D) (ci := 1) (v := .int (nI (Qf 1))) (C := RX1) (T := TX1) (N := 3) hx hb hts inX1 hown hK hP 6 rfl rfl 2 (by decide) (hts _ w_76) (fun _ h9 => h9) rfl dX4_pages_13 ?_
      refine lv_goto (tgt := 21) hx hb dX4_pages_16 (by decide) ?_
      exact W.iret (v := nI (Qf 1)) hx hb hr (fun t ht hW => ⟨_, rfl, rfl, ht⟩) (fun q h => by cases h) dX4_pages_21
    · skip
      refine tb_aald hx hb hK hP 1 3 rfl rfl rfl (b := pa 2) (i := 2) (by omega) (by decide) rfl dX4_pages_12 ?_
      refine va_get (D := D) (ci := 1) (v := .int (nI (Qf 2))) (C := RX1) (T := TX1) (N := 3) hx hb hts inX1 hown hK hP 10 rfl rfl 2 (by decide) (hts _ w_76) (fun _ h9 => h9) rfl dX4_pages_13 ?_
      refine lv_goto (tgt := 21) hx hb dX4_pages_16 (by decide) ?_
      exact W.iret (v := nI (Qf 2)) hx hb hr (fun t ht hW => ⟨_, rfl, rfl, ht⟩) (fun q h => by cases h) dX4_pages_21
    · skip
      refine tb_aald hx hb hK hP 1 3 rfl rfl rfl (b := pa 3) (i := 3) (by omega) (by decide) rfl dX4_pages_12 ?_
      refine va_get (D := D) (ci := 1) (v := .int (nI (Qf 3))) (C := RX1) (T := TX1) (N := 3) hx hb hts inX1 hown hK hP 14 rfl rfl 2 (by decide) (hts _ w_76) (fun _ h9 => h9) rfl dX4_pages_13 ?_
      refine lv_goto (tgt := 21) hx hb dX4_pages_16 (by decide) ?_
      exact W.iret (v := nI (Qf 3)) hx hb hr (fun t ht hW => ⟨_, rfl, rfl, ht⟩) (fun q h => by cases h) dX4_pages_21
    · skip
      refine tb_aald hx hb hK hP 1 3 rfl rfl rfl (b := pa 4) (i := 4) (by omega) (by decide) rfl dX4_pages_12 ?_
      refine va_get (D := D) (ci := 1) (v := .int (nI (Qf 4))) (C := RX1) (T := TX1) (N := 3) hx hb hts inX1 hown hK hP 18 rfl rfl 2 (by decide) (hts _ w_76) (fun _ h9 => h9) rfl dX4_pages_13 ?_
      refine lv_goto (tgt := 21) hx hb dX4_pages_16 (by decide) ?_
      exact W.iret (v := nI (Qf 4)) hx hb hr (fun t ht hW => ⟨_, rfl, rfl, ht⟩) (fun q h => by cases h) dX4_pages_21
    · skip
      refine tb_aald hx hb hK hP 1 3 rfl rfl rfl (b := pa 5) (i := 5) (by omega) (by decide) rfl dX4_pages_12 ?_
      refine va_get (D := D) (ci := 1) (v := .int (nI (Qf 5))) (C := RX1) (T := TX1) (N := 3) hx hb hts inX1 hown hK hP 22 rfl rfl 2 (by decide) (hts _ w_76) (fun _ h9 => h9) rfl dX4_pages_13 ?_
      refine lv_goto (tgt := 21) hx hb dX4_pages_16 (by decide) ?_
      exact W.iret (v := nI (Qf 5)) hx hb hr (fun t ht hW => ⟨_, rfl, rfl, ht⟩) (fun q h => by cases h) dX4_pages_21

set_option maxHeartbeats 4000000 in
set_option maxRecDepth 100000 in
theorem k_mark_bad (l : Launch) (D : va_G) (ct : Nat → ClassId) (mo : Nat) (g : Nat) (pr : Nat) (hh : Nat) (rh : Nat) (aq : Nat) (ld : Nat) (lc : Nat) (nh : Nat) (ty : Nat) (x : Int32) (y : Int32) (hbad : ¬ tRng x 6) : Met l yX4_mark wsX4_mark ({ frames := 1, cells := 0, slots := 0, locals := 20 }) (tb_Pr D ct [.ref mo, .int x, .int y] [(mo, .inr (4, [.ref g, .ref pr, .ref hh, .ref rh, .ref aq, .ref ld, .int (nI lc), .ref nh, .ref ty]))]) (vp_Si (fun r => r = nI 0)) 0 0 (fun _ => False) := by
  refine Met.ofW (cc := cX4_mark) (maxL := 3) (ret := (some .int)) (by decide) rfl ?_
  intro p e s m args below meth c s₁ B hml hv
  obtain ⟨rfl, hP, hK, hZ⟩ := hv
  have hx := B.exec
  have hb := B.bytes
  have hr := B.returns
  have hts0 := atoms_spec (ws := wsX4_mark) B.pre
  have hts : ∀ w9 ∈ aw, w9.before ([.ref mo, .int x, .int y] : List Value).toArray s = true := fun w9 h9 => hts0 w9 (List.mem_cons_of_mem _ h9)
  have hown : s.vm.findClass RX4 = some m.cls := findClass_of_methodNamed B.named
  have hlocks := B.notSynchronized
  have hS : va_S (fun _ => False) s.heap s.heap [] := va_S.rf
  have hP : va_P D vwCl [(mo, .inr (4, [.ref g, .ref pr, .ref hh, .ref rh, .ref aq, .ref ld, .int (nI lc), .ref nh, .ref ty]))] s.heap := hP
  have hl := lv_entry ([.ref mo, .int x, .int y]) (n := 3) (Nat.le_of_ble_eq_true rfl)
  rw [lg_entry_eq]
  generalize (lg_sl ([.ref mo, .int x, .int y]) ++ List.replicate (3 - (lg_sl ([.ref mo, .int x, .int y])).length) Slot.unset).toArray = ls at hl ⊢
  have hl : lv_has ls 3 [(0, .ref mo), (1, .int x), (2, .int y)] := hl
  refine lv_iload_n hx hb dX4_mark_0 rfl (lv_at hl 1 rfl) ?_
  refine vp_callSi (va_Run.run (va_runS (As := [.int x]) (rest := []) ⟨hx, hb, hml, hown, hts⟩ (k_isOrder l D ct x ) (va_cwS 1 hts (gw_S (fun _ h => h) w_112 w_113 w_24 wcX4_isOrder) rfl rfl rfl hvX4_isOrder.2 ⟨Nat.le_of_ble_eq_true rfl, Nat.le_of_ble_eq_true rfl⟩) (tb_prS hP hK hZ hS [] rfl) rfl rfl hl.1 rfl (lv_room (Nat.le_of_ble_eq_true rfl)) dX4_mark_1 ⟨Nat.zero_le _, Nat.zero_le _⟩)) (fun r_1 hr_1 => ?_)
  obtain rfl : r_1 = bB (decide (tRng x 6)) := hr_1
  refine tb_if_eqB (tgt := 20) hx hb dX4_mark_4 (by decide) (fun c4 => ?_) (fun c4 => ?_)
  · refine lv_iconst (v := nI 0) hx hb dX4_mark_20 (by decide) ?_
    exact W.iret (v := nI 0) hx hb hr (fun t ht hW => ⟨_, rfl, rfl, ht⟩) (fun q h => by cases h) dX4_mark_21
  · exact absurd c4 hbad

set_option maxHeartbeats 4000000 in
set_option maxRecDepth 100000 in
theorem k_mark_ok (l : Launch) (D : va_G) (ct : Nat → ClassId) (mo : Nat) (g : Nat) (pr : Nat) (hh : Nat) (rh : Nat) (aq : Nat) (ld : Nat) (lc : Nat) (nh : Nat) (ty : Nat) (R : Nat) (pa : Nat → Nat) (ta : Nat → Nat) (ka : Nat → Nat) (ga : Nat → Nat) (nt : Nat) (F : Nat → Nat → Nat) (Qf : Nat → Nat) (Zf : Nat → Nat → Nat) (o : Nat) (j : Nat) (hR : R ≤ 400) (hnt : nt ≤ R) (hFs : ∀ i, i < 6 → tS (F i) nt) (hFb : ∀ i j, F i j < 2 ^ 31) (hQ : ∀ i, i < 6 → Qf i ≤ nt) (hsm : ∀ i, i < 6 → tSum (Zf i) (Qf i) = nt) (hzb : ∀ i j, Zf i j ≤ 1000) (hzp : ∀ i, i < 6 → ∀ j, j < Qf i → 0 < Zf i j) (ho : o < 6) (hj : j < Qf o) : Met l yX4_mark wsX4_mark ({ frames := 3, cells := 0, slots := 0, locals := 70 }) (tb_Pr D ct [.ref mo, .int (nI o), .int (nI j)] [(mo, .inr (4, [.ref g, .ref pr, .ref hh, .ref rh, .ref aq, .ref ld, .int (nI lc), .ref nh, .ref ty])), (pr, .inl (ct 3, 6, .inr (.inr (.inr (.inr (sF pa)))))), (pa 0, .inr (1, [.ref (ta 0), .ref (ga 0), .int (nI (Qf 0))])), (ta 0, .inr (3, [.ref (ka 0), .int (nI nt)])), (ka 0, .inl (ct 0, R, .inl (aN (F 0)))), (ga 0, .inl (ct 0, R, .inl (aN (Zf 0)))), (pa 1, .inr (1, [.ref (ta 1), .ref (ga 1), .int (nI (Qf 1))])), (ta 1, .inr (3, [.ref (ka 1), .int (nI nt)])), (ka 1, .inl (ct 0, R, .inl (aN (F 1)))), (ga 1, .inl (ct 0, R, .inl (aN (Zf 1)))), (pa 2, .inr (1, [.ref (ta 2), .ref (ga 2), .int (nI (Qf 2))])), (ta 2, .inr (3, [.ref (ka 2), .int (nI nt)])), (ka 2, .inl (ct 0, R, .inl (aN (F 2)))), (ga 2, .inl (ct 0, R, .inl (aN (Zf 2)))), (pa 3, .inr (1, [.ref (ta 3), .ref (ga 3), .int (nI (Qf 3))])), (ta 3, .inr (3, [.ref (ka 3), .int (nI nt)])), (ka 3, .inl (ct 0, R, .inl (aN (F 3)))), (ga 3, .inl (ct 0, R, .inl (aN (Zf 3)))), (pa 4, .inr (1, [.ref (ta 4), .ref (ga 4), .int (nI (Qf 4))])), (ta 4, .inr (3, [.ref (ka 4), .int (nI nt)])), (ka 4, .inl (ct 0, R, .inl (aN (F 4)))), (ga 4, .inl (ct 0, R, .inl (aN (Zf 4)))), (pa 5, .inr (1, [.ref (ta 5), .ref (ga 5), .int (nI (Qf 5))])), (ta 5, .inr (3, [.ref (ka 5), .int (nI nt)])), (ka 5, .inl (ct 0, R, .inl (aN (F 5)))), (ga 5, .inl (ct 0, R, .inl (aN (Zf 5))))]) (vp_Si (fun r => r = tMk (F o) (tSum (Zf o) j) (Zf o j))) 0 0 (fun _ => False) := by
  refine Met.ofW (cc := cX4_mark) (maxL := 3) (ret := (some .int)) (by decide) rfl ?_
  intro p e s m args below meth c s₁ B hml hv
  obtain ⟨rfl, hP, hK, hZ⟩ := hv
  have hx := B.exec
  have hb := B.bytes
  have hr := B.returns
  have hts0 := atoms_spec (ws := wsX4_mark) B.pre
  have hts : ∀ w9 ∈ aw, w9.before ([.ref mo, .int (nI o), .int (nI j)] : List Value).toArray s = true := fun w9 h9 => hts0 w9 (List.mem_cons_of_mem _ h9)
  have hown : s.vm.findClass RX4 = some m.cls := findClass_of_methodNamed B.named
  have hlocks := B.notSynchronized
  have hS : va_S (fun _ => False) s.heap s.heap [] := va_S.rf
  have hP : va_P D vwCl [(mo, .inr (4, [.ref g, .ref pr, .ref hh, .ref rh, .ref aq, .ref ld, .int (nI lc), .ref nh, .ref ty])), (pr, .inl (ct 3, 6, .inr (.inr (.inr (.inr (sF pa)))))), (pa 0, .inr (1, [.ref (ta 0), .ref (ga 0), .int (nI (Qf 0))])), (ta 0, .inr (3, [.ref (ka 0), .int (nI nt)])), (ka 0, .inl (ct 0, R, .inl (aN (F 0)))), (ga 0, .inl (ct 0, R, .inl (aN (Zf 0)))), (pa 1, .inr (1, [.ref (ta 1), .ref (ga 1), .int (nI (Qf 1))])), (ta 1, .inr (3, [.ref (ka 1), .int (nI nt)])), (ka 1, .inl (ct 0, R, .inl (aN (F 1)))), (ga 1, .inl (ct 0, R, .inl (aN (Zf 1)))), (pa 2, .inr (1, [.ref (ta 2), .ref (ga 2), .int (nI (Qf 2))])), (ta 2, .inr (3, [.ref (ka 2), .int (nI nt)])), (ka 2, .inl (ct 0, R, .inl (aN (F 2)))), (ga 2, .inl (ct 0, R, .inl (aN (Zf 2)))), (pa 3, .inr (1, [.ref (ta 3), .ref (ga 3), .int (nI (Qf 3))])), (ta 3, .inr (3, [.ref (ka 3), .int (nI nt)])), (ka 3, .inl (ct 0, R, .inl (aN (F 3)))), (ga 3, .inl (ct 0, R, .inl (aN (Zf 3)))), (pa 4, .inr (1, [.ref (ta 4), .ref (ga 4), .int (nI (Qf 4))])), (ta 4, .inr (3, [.ref (ka 4), .int (nI nt)])), (ka 4, .inl (ct 0, R, .inl (aN (F 4)))), (ga 4, .inl (ct 0, R, .inl (aN (Zf 4)))), (pa 5, .inr (1, [.ref (ta 5), .ref (ga 5), .int (nI (Qf 5))])), (ta 5, .inr (3, [.ref (ka 5), .int (nI nt)])), (ka 5, .inl (ct 0, R, .inl (aN (F 5)))), (ga 5, .inl (ct 0, R, .inl (aN (Zf 5))))] s.heap := hP
  have hl := lv_entry ([.ref mo, .int (nI o), .int (nI j)]) (n := 3) (Nat.le_of_ble_eq_true rfl)
  rw [lg_entry_eq]
  generalize (lg_sl ([.ref mo, .int (nI o), .int (nI j)]) ++ List.replicate (3 - (lg_sl ([.ref mo, .int (nI o), .int (nI j)])).length) Slot.unset).toArray = ls at hl ⊢
  have hl : lv_has ls 3 [(0, .ref mo), (1, .int (nI o)), (2, .int (nI j))] := hl
  refine lv_iload_n hx hb dX4_mark_0 rfl (lv_at hl 1 rfl) ?_
  refine vp_callSi (va_Run.run (va_runS (As := [.int (nI o)]) (rest := []) ⟨hx, hb, hml, hown, hts⟩ (k_isOrder l D ct (nI o) ) (va_cwS 1 hts (gw_S (fun _ h => h) w_112 w_113 w_24 wcX4_isOrder) rfl rfl rfl hvX4_isOrder.2 ⟨Nat.le_of_ble_eq_true rfl, Nat.le_of_ble_eq_true rfl⟩) (tb_prS hP hK hZ hS [] rfl) rfl rfl hl.1 rfl (lv_room (Nat.le_of_ble_eq_true rfl)) dX4_mark_1 ⟨Nat.zero_le _, Nat.zero_le _⟩)) (fun r_1 hr_1 => ?_)
  obtain rfl : r_1 = bB (decide (tRng (nI o) 6)) := hr_1
  refine tb_if_eqB (tgt := 20) hx hb dX4_mark_4 (by decide) (fun c4 => ?_) (fun c4 => ?_)
  · exact absurd (tRng_nI ho (by decide)) c4
  · refine lv_aload_n hx hb dX4_mark_7 rfl (lv_at hl 0 rfl) ?_
    refine va_get (D := D) (ci := 4) (v := .ref pr) (C := RX4) (T := TX4) (N := 9) hx hb hts inX4 hown hK hP 0 rfl rfl 1 (by decide) (hts _ w_88) (fun _ h9 => h9) rfl dX4_mark_8 ?_
    refine lv_iload_n hx hb dX4_mark_11 rfl (lv_at hl 1 rfl) ?_
    obtain rfl | rfl | rfl | rfl | rfl | rfl : o = 0 ∨ o = 1 ∨ o = 2 ∨ o = 3 ∨ o = 4 ∨ o = 5 := by omega
    · skip
      refine tb_aald hx hb hK hP 1 3 rfl rfl rfl (b := pa 0) (i := 0) (by omega) (by decide) rfl dX4_mark_12 ?_
      refine lv_iload_n hx hb dX4_mark_13 rfl (lv_at hl 2 rfl) ?_
      refine vp_callSi (va_Run.run (va_runV (As := [.int (nI j)]) (rest := []) ⟨hx, hb, hml, hown, hts⟩ (k_PR_markOf l D ct (pa 0) (ta 0) (ka 0) (ga 0) R nt (F 0) (Qf 0) (Zf 0) j hnt hR (by have := hQ 0 (by decide); omega) hj (hsm 0 (by decide)) (hzp 0 (by decide)) (hFb 0)) (cwV 1 hts (gw_V (fun _ h => h) w_273 w_274 w_275 w_27 wcX1_markOf) rfl rfl rfl hvX1_markOf ⟨Nat.le_of_ble_eq_true rfl, Nat.le_of_ble_eq_true rfl⟩) (tb_prV hP hK hZ hS [2, 3, 4, 5] rfl (ci := 1) (q0 := 0) rfl rfl) rfl rfl hl.1 rfl (lv_room (Nat.le_of_ble_eq_true rfl)) dX4_mark_14 ⟨Nat.zero_le _, Nat.zero_le _⟩)) (fun r_14 hr_14 => ?_)
      obtain rfl : r_14 = tMk (F 0) (tSum (Zf 0) j) ((Zf 0) j) := hr_14
      refine lv_goto (tgt := 21) hx hb dX4_mark_17 (by decide) ?_
      exact W.iret (v := tMk (F 0) (tSum (Zf 0) j) ((Zf 0) j)) hx hb hr (fun t ht hW => ⟨_, rfl, rfl, ht⟩) (fun q h => by cases h) dX4_mark_21
    · skip
      refine tb_aald hx hb hK hP 1 3 rfl rfl rfl (b := pa 1) (i := 1) (by omega) (by decide) rfl dX4_mark_12 ?_
      refine lv_iload_n hx hb dX4_mark_13 rfl (lv_at hl 2 rfl) ?_
      refine vp_callSi (va_Run.run (va_runV (As := [.int (nI j)]) (rest := []) ⟨hx, hb, hml, hown, hts⟩ (k_PR_markOf l D ct (pa 1) (ta 1) (ka 1) (ga 1) R nt (F 1) (Qf 1) (Zf 1) j hnt hR (by have := hQ 1 (by decide); omega) hj (hsm 1 (by decide)) (hzp 1 (by decide)) (hFb 1)) (cwV 1 hts (gw_V (fun _ h => h) w_273 w_274 w_275 w_27 wcX1_markOf) rfl rfl rfl hvX1_markOf ⟨Nat.le_of_ble_eq_true rfl, Nat.le_of_ble_eq_true rfl⟩) (tb_prV hP hK hZ hS [6, 7, 8, 9] rfl (ci := 1) (q0 := 0) rfl rfl) rfl rfl hl.1 rfl (lv_room (Nat.le_of_ble_eq_true rfl)) dX4_mark_14 ⟨Nat.zero_le _, Nat.zero_le _⟩)) (fun r_14 hr_14 => ?_)
      obtain rfl : r_14 = tMk (F 1) (tSum (Zf 1) j) ((Zf 1) j) := hr_14
      refine lv_goto (tgt := 21) hx hb dX4_mark_17 (by decide) ?_
      exact W.iret (v := tMk (F 1) (tSum (Zf 1) j) ((Zf 1) j)) hx hb hr (fun t ht hW => ⟨_, rfl, rfl, ht⟩) (fun q h => by cases h) dX4_mark_21
    · skip
      refine tb_aald hx hb hK hP 1 3 rfl rfl rfl (b := pa 2) (i := 2) (by omega) (by decide) rfl dX4_mark_12 ?_
      refine lv_iload_n hx hb dX4_mark_13 rfl (lv_at hl 2 rfl) ?_
      refine vp_callSi (va_Run.run (va_runV (As := [.int (nI j)]) (rest := []) ⟨hx, hb, hml, hown, hts⟩ (k_PR_markOf l D ct (pa 2) (ta 2) (ka 2) (ga 2) R nt (F 2) (Qf 2) (Zf 2) j hnt hR (by have := hQ 2 (by decide); omega) hj (hsm 2 (by decide)) (hzp 2 (by decide)) (hFb 2)) (cwV 1 hts (gw_V (fun _ h => h) w_273 w_274 w_275 w_27 wcX1_markOf) rfl rfl rfl hvX1_markOf ⟨Nat.le_of_ble_eq_true rfl, Nat.le_of_ble_eq_true rfl⟩) (tb_prV hP hK hZ hS [10, 11, 12, 13] rfl (ci := 1) (q0 := 0) rfl rfl) rfl rfl hl.1 rfl (lv_room (Nat.le_of_ble_eq_true rfl)) dX4_mark_14 ⟨Nat.zero_le _, Nat.zero_le _⟩)) (fun r_14 hr_14 => ?_)
      obtain rfl : r_14 = tMk (F 2) (tSum (Zf 2) j) ((Zf 2) j) := hr_14
      refine lv_goto (tgt := 21) hx hb dX4_mark_17 (by decide) ?_
      exact W.iret (v := tMk (F 2) (tSum (Zf 2) j) ((Zf 2) j)) hx hb hr (fun t ht hW => ⟨_, rfl, rfl, ht⟩) (fun q h => by cases h) dX4_mark_21
    · skip
      refine tb_aald hx hb hK hP 1 3 rfl rfl rfl (b := pa 3) (i := 3) (by omega) (by decide) rfl dX4_mark_12 ?_
      refine lv_iload_n hx hb dX4_mark_13 rfl (lv_at hl 2 rfl) ?_
      refine vp_callSi (va_Run.run (va_runV (As := [.int (nI j)]) (rest := []) ⟨hx, hb, hml, hown, hts⟩ (k_PR_markOf l D ct (pa 3) (ta 3) (ka 3) (ga 3) R nt (F 3) (Qf 3) (Zf 3) j hnt hR (by have := hQ 3 (by decide); omega) hj (hsm 3 (by decide)) (hzp 3 (by decide)) (hFb 3)) (cwV 1 hts (gw_V (fun _ h => h) w_273 w_274 w_275 w_27 wcX1_markOf) rfl rfl rfl hvX1_markOf ⟨Nat.le_of_ble_eq_true rfl, Nat.le_of_ble_eq_true rfl⟩) (tb_prV hP hK hZ hS [14, 15, 16, 17] rfl (ci := 1) (q0 := 0) rfl rfl) rfl rfl hl.1 rfl (lv_room (Nat.le_of_ble_eq_true rfl)) dX4_mark_14 ⟨Nat.zero_le _, Nat.zero_le _⟩)) (fun r_14 hr_14 => ?_)
      obtain rfl : r_14 = tMk (F 3) (tSum (Zf 3) j) ((Zf 3) j) := hr_14
      refine lv_goto (tgt := 21) hx hb dX4_mark_17 (by decide) ?_
      exact W.iret (v := tMk (F 3) (tSum (Zf 3) j) ((Zf 3) j)) hx hb hr (fun t ht hW => ⟨_, rfl, rfl, ht⟩) (fun q h => by cases h) dX4_mark_21
    · skip
      refine tb_aald hx hb hK hP 1 3 rfl rfl rfl (b := pa 4) (i := 4) (by omega) (by decide) rfl dX4_mark_12 ?_
      refine lv_iload_n hx hb dX4_mark_13 rfl (lv_at hl 2 rfl) ?_
      refine vp_callSi (va_Run.run (va_runV (As := [.int (nI j)]) (rest := []) ⟨hx, hb, hml, hown, hts⟩ (k_PR_markOf l D ct (pa 4) (ta 4) (ka 4) (ga 4) R nt (F 4) (Qf 4) (Zf 4) j hnt hR (by have := hQ 4 (by decide); omega) hj (hsm 4 (by decide)) (hzp 4 (by decide)) (hFb 4)) (cwV 1 hts (gw_V (fun _ h => h) w_273 w_274 w_275 w_27 wcX1_markOf) rfl rfl rfl hvX1_markOf ⟨Nat.le_of_ble_eq_true rfl, Nat.le_of_ble_eq_true rfl⟩) (tb_prV hP hK hZ hS [18, 19, 20, 21] rfl (ci := 1) (q0 := 0) rfl rfl) rfl rfl hl.1 rfl (lv_room (Nat.le_of_ble_eq_true rfl)) dX4_mark_14 ⟨Nat.zero_le _, Nat.zero_le _⟩)) (fun r_14 hr_14 => ?_)
      obtain rfl : r_14 = tMk (F 4) (tSum (Zf 4) j) ((Zf 4) j) := hr_14
      refine lv_goto (tgt := 21) hx hb dX4_mark_17 (by decide) ?_
      exact W.iret (v := tMk (F 4) (tSum (Zf 4) j) ((Zf 4) j)) hx hb hr (fun t ht hW => ⟨_, rfl, rfl, ht⟩) (fun q h => by cases h) dX4_mark_21
    · skip
      refine tb_aald hx hb hK hP 1 3 rfl rfl rfl (b := pa 5) (i := 5) (by omega) (by decide) rfl dX4_mark_12 ?_
      refine lv_iload_n hx hb dX4_mark_13 rfl (lv_at hl 2 rfl) ?_
      refine vp_callSi (va_Run.run (va_runV (As := [.int (nI j)]) (rest := []) ⟨hx, hb, hml, hown, hts⟩ (k_PR_markOf l D ct (pa 5) (ta 5) (ka 5) (ga 5) R nt (F 5) (Qf 5) (Zf 5) j hnt hR (by have := hQ 5 (by decide); omega) hj (hsm 5 (by decide)) (hzp 5 (by decide)) (hFb 5)) (cwV 1 hts (gw_V (fun _ h => h) w_273 w_274 w_275 w_27 wcX1_markOf) rfl rfl rfl hvX1_markOf ⟨Nat.le_of_ble_eq_true rfl, Nat.le_of_ble_eq_true rfl⟩) (tb_prV hP hK hZ hS [22, 23, 24, 25] rfl (ci := 1) (q0 := 0) rfl rfl) rfl rfl hl.1 rfl (lv_room (Nat.le_of_ble_eq_true rfl)) dX4_mark_14 ⟨Nat.zero_le _, Nat.zero_le _⟩)) (fun r_14 hr_14 => ?_)
      obtain rfl : r_14 = tMk (F 5) (tSum (Zf 5) j) ((Zf 5) j) := hr_14
      refine lv_goto (tgt := 21) hx hb dX4_mark_17 (by decide) ?_
      exact W.iret (v := tMk (F 5) (tSum (Zf 5) j) ((Zf 5) j)) hx hb hr (fun t ht hW => ⟨_, rfl, rfl, ht⟩) (fun q h => by cases h) dX4_mark_21

set_option maxHeartbeats 4000000 in
set_option maxRecDepth 100000 in
theorem k_mark_N (l : Launch) (D : va_G) (ct : Nat → ClassId) (mo : Nat) (g : Nat) (pr : Nat) (hh : Nat) (rh : Nat) (aq : Nat) (ld : Nat) (lc : Nat) (nh : Nat) (ty : Nat) (R : Nat) (pa : Nat → Nat) (ta : Nat → Nat) (ka : Nat → Nat) (ga : Nat → Nat) (nt : Nat) (F : Nat → Nat → Nat) (Qf : Nat → Nat) (Zf : Nat → Nat → Nat) (o : Nat) (j : Nat) (hR : R ≤ 400) (hnt : nt ≤ R) (hFs : ∀ i, i < 6 → tS (F i) nt) (hFb : ∀ i j, F i j < 2 ^ 31) (hQ : ∀ i, i < 6 → Qf i ≤ nt) (hsm : ∀ i, i < 6 → tSum (Zf i) (Qf i) = nt) (hzb : ∀ i j, Zf i j ≤ 1000) (hzp : ∀ i, i < 6 → ∀ j, j < Qf i → 0 < Zf i j) (ho : o < 6) (hj : Qf o ≤ j) (hj2 : j < 2 ^ 31) : Met l yX4_mark wsX4_mark ({ frames := 3, cells := 0, slots := 0, locals := 70 }) (tb_Pr D ct [.ref mo, .int (nI o), .int (nI j)] [(mo, .inr (4, [.ref g, .ref pr, .ref hh, .ref rh, .ref aq, .ref ld, .int (nI lc), .ref nh, .ref ty])), (pr, .inl (ct 3, 6, .inr (.inr (.inr (.inr (sF pa)))))), (pa 0, .inr (1, [.ref (ta 0), .ref (ga 0), .int (nI (Qf 0))])), (ta 0, .inr (3, [.ref (ka 0), .int (nI nt)])), (ka 0, .inl (ct 0, R, .inl (aN (F 0)))), (ga 0, .inl (ct 0, R, .inl (aN (Zf 0)))), (pa 1, .inr (1, [.ref (ta 1), .ref (ga 1), .int (nI (Qf 1))])), (ta 1, .inr (3, [.ref (ka 1), .int (nI nt)])), (ka 1, .inl (ct 0, R, .inl (aN (F 1)))), (ga 1, .inl (ct 0, R, .inl (aN (Zf 1)))), (pa 2, .inr (1, [.ref (ta 2), .ref (ga 2), .int (nI (Qf 2))])), (ta 2, .inr (3, [.ref (ka 2), .int (nI nt)])), (ka 2, .inl (ct 0, R, .inl (aN (F 2)))), (ga 2, .inl (ct 0, R, .inl (aN (Zf 2)))), (pa 3, .inr (1, [.ref (ta 3), .ref (ga 3), .int (nI (Qf 3))])), (ta 3, .inr (3, [.ref (ka 3), .int (nI nt)])), (ka 3, .inl (ct 0, R, .inl (aN (F 3)))), (ga 3, .inl (ct 0, R, .inl (aN (Zf 3)))), (pa 4, .inr (1, [.ref (ta 4), .ref (ga 4), .int (nI (Qf 4))])), (ta 4, .inr (3, [.ref (ka 4), .int (nI nt)])), (ka 4, .inl (ct 0, R, .inl (aN (F 4)))), (ga 4, .inl (ct 0, R, .inl (aN (Zf 4)))), (pa 5, .inr (1, [.ref (ta 5), .ref (ga 5), .int (nI (Qf 5))])), (ta 5, .inr (3, [.ref (ka 5), .int (nI nt)])), (ka 5, .inl (ct 0, R, .inl (aN (F 5)))), (ga 5, .inl (ct 0, R, .inl (aN (Zf 5))))]) (vp_Si (fun r => r = nI 0)) 0 0 (fun _ => False) := by
  refine Met.ofW (cc := cX4_mark) (maxL := 3) (ret := (some .int)) (by decide) rfl ?_
  intro p e s m args below meth c s₁ B hml hv
  obtain ⟨rfl, hP, hK, hZ⟩ := hv
  have hx := B.exec
  have hb := B.bytes
  have hr := B.returns
  have hts0 := atoms_spec (ws := wsX4_mark) B.pre
  have hts : ∀ w9 ∈ aw, w9.before ([.ref mo, .int (nI o), .int (nI j)] : List Value).toArray s = true := fun w9 h9 => hts0 w9 (List.mem_cons_of_mem _ h9)
  have hown : s.vm.findClass RX4 = some m.cls := findClass_of_methodNamed B.named
  have hlocks := B.notSynchronized
  have hS : va_S (fun _ => False) s.heap s.heap [] := va_S.rf
  have hP : va_P D vwCl [(mo, .inr (4, [.ref g, .ref pr, .ref hh, .ref rh, .ref aq, .ref ld, .int (nI lc), .ref nh, .ref ty])), (pr, .inl (ct 3, 6, .inr (.inr (.inr (.inr (sF pa)))))), (pa 0, .inr (1, [.ref (ta 0), .ref (ga 0), .int (nI (Qf 0))])), (ta 0, .inr (3, [.ref (ka 0), .int (nI nt)])), (ka 0, .inl (ct 0, R, .inl (aN (F 0)))), (ga 0, .inl (ct 0, R, .inl (aN (Zf 0)))), (pa 1, .inr (1, [.ref (ta 1), .ref (ga 1), .int (nI (Qf 1))])), (ta 1, .inr (3, [.ref (ka 1), .int (nI nt)])), (ka 1, .inl (ct 0, R, .inl (aN (F 1)))), (ga 1, .inl (ct 0, R, .inl (aN (Zf 1)))), (pa 2, .inr (1, [.ref (ta 2), .ref (ga 2), .int (nI (Qf 2))])), (ta 2, .inr (3, [.ref (ka 2), .int (nI nt)])), (ka 2, .inl (ct 0, R, .inl (aN (F 2)))), (ga 2, .inl (ct 0, R, .inl (aN (Zf 2)))), (pa 3, .inr (1, [.ref (ta 3), .ref (ga 3), .int (nI (Qf 3))])), (ta 3, .inr (3, [.ref (ka 3), .int (nI nt)])), (ka 3, .inl (ct 0, R, .inl (aN (F 3)))), (ga 3, .inl (ct 0, R, .inl (aN (Zf 3)))), (pa 4, .inr (1, [.ref (ta 4), .ref (ga 4), .int (nI (Qf 4))])), (ta 4, .inr (3, [.ref (ka 4), .int (nI nt)])), (ka 4, .inl (ct 0, R, .inl (aN (F 4)))), (ga 4, .inl (ct 0, R, .inl (aN (Zf 4)))), (pa 5, .inr (1, [.ref (ta 5), .ref (ga 5), .int (nI (Qf 5))])), (ta 5, .inr (3, [.ref (ka 5), .int (nI nt)])), (ka 5, .inl (ct 0, R, .inl (aN (F 5)))), (ga 5, .inl (ct 0, R, .inl (aN (Zf 5))))] s.heap := hP
  have hl := lv_entry ([.ref mo, .int (nI o), .int (nI j)]) (n := 3) (Nat.le_of_ble_eq_true rfl)
  rw [lg_entry_eq]
  generalize (lg_sl ([.ref mo, .int (nI o), .int (nI j)]) ++ List.replicate (3 - (lg_sl ([.ref mo, .int (nI o), .int (nI j)])).length) Slot.unset).toArray = ls at hl ⊢
  have hl : lv_has ls 3 [(0, .ref mo), (1, .int (nI o)), (2, .int (nI j))] := hl
  refine lv_iload_n hx hb dX4_mark_0 rfl (lv_at hl 1 rfl) ?_
  refine vp_callSi (va_Run.run (va_runS (As := [.int (nI o)]) (rest := []) ⟨hx, hb, hml, hown, hts⟩ (k_isOrder l D ct (nI o) ) (va_cwS 1 hts (gw_S (fun _ h => h) w_112 w_113 w_24 wcX4_isOrder) rfl rfl rfl hvX4_isOrder.2 ⟨Nat.le_of_ble_eq_true rfl, Nat.le_of_ble_eq_true rfl⟩) (tb_prS hP hK hZ hS [] rfl) rfl rfl hl.1 rfl (lv_room (Nat.le_of_ble_eq_true rfl)) dX4_mark_1 ⟨Nat.zero_le _, Nat.zero_le _⟩)) (fun r_1 hr_1 => ?_)
  obtain rfl : r_1 = bB (decide (tRng (nI o) 6)) := hr_1
  refine tb_if_eqB (tgt := 20) hx hb dX4_mark_4 (by decide) (fun c4 => ?_) (fun c4 => ?_)
  · exact absurd (tRng_nI ho (by decide)) c4
  · refine lv_aload_n hx hb dX4_mark_7 rfl (lv_at hl 0 rfl) ?_
    refine va_get (D := D) (ci := 4) (v := .ref pr) (C := RX4) (T := TX4) (N := 9) hx hb hts inX4 hown hK hP 0 rfl rfl 1 (by decide) (hts _ w_88) (fun _ h9 => h9) rfl dX4_mark_8 ?_
    refine lv_iload_n hx hb dX4_mark_11 rfl (lv_at hl 1 rfl) ?_
    obtain rfl | rfl | rfl | rfl | rfl | rfl : o = 0 ∨ o = 1 ∨ o = 2 ∨ o = 3 ∨ o = 4 ∨ o = 5 := by omega
    · skip
      refine tb_aald hx hb hK hP 1 3 rfl rfl rfl (b := pa 0) (i := 0) (by omega) (by decide) rfl dX4_mark_12 ?_
      refine lv_iload_n hx hb dX4_mark_13 rfl (lv_at hl 2 rfl) ?_
      refine vp_callSi (va_Run.run (va_runV (As := [.int (nI j)]) (rest := []) ⟨hx, hb, hml, hown, hts⟩ (k_PR_markN l D ct (pa 0) (ta 0) (ka 0) (ga 0) R nt (F 0) (Qf 0) (Zf 0) j hnt hR (by have := hQ 0 (by decide); omega) hj hj2 (hsm 0 (by decide))) (cwV 1 hts (gw_V (fun _ h => h) w_273 w_274 w_275 w_27 wcX1_markOf) rfl rfl rfl hvX1_markOf ⟨Nat.le_of_ble_eq_true rfl, Nat.le_of_ble_eq_true rfl⟩) (tb_prV hP hK hZ hS [2, 3, 4, 5] rfl (ci := 1) (q0 := 0) rfl rfl) rfl rfl hl.1 rfl (lv_room (Nat.le_of_ble_eq_true rfl)) dX4_mark_14 ⟨Nat.zero_le _, Nat.zero_le _⟩)) (fun r_14 hr_14 => ?_)
      obtain rfl : r_14 = nI 0 := hr_14
      refine lv_goto (tgt := 21) hx hb dX4_mark_17 (by decide) ?_
      exact W.iret (v := nI 0) hx hb hr (fun t ht hW => ⟨_, rfl, rfl, ht⟩) (fun q h => by cases h) dX4_mark_21
    · skip
      refine tb_aald hx hb hK hP 1 3 rfl rfl rfl (b := pa 1) (i := 1) (by omega) (by decide) rfl dX4_mark_12 ?_
      refine lv_iload_n hx hb dX4_mark_13 rfl (lv_at hl 2 rfl) ?_
      refine vp_callSi (va_Run.run (va_runV (As := [.int (nI j)]) (rest := []) ⟨hx, hb, hml, hown, hts⟩ (k_PR_markN l D ct (pa 1) (ta 1) (ka 1) (ga 1) R nt (F 1) (Qf 1) (Zf 1) j hnt hR (by have := hQ 1 (by decide); omega) hj hj2 (hsm 1 (by decide))) (cwV 1 hts (gw_V (fun _ h => h) w_273 w_274 w_275 w_27 wcX1_markOf) rfl rfl rfl hvX1_markOf ⟨Nat.le_of_ble_eq_true rfl, Nat.le_of_ble_eq_true rfl⟩) (tb_prV hP hK hZ hS [6, 7, 8, 9] rfl (ci := 1) (q0 := 0) rfl rfl) rfl rfl hl.1 rfl (lv_room (Nat.le_of_ble_eq_true rfl)) dX4_mark_14 ⟨Nat.zero_le _, Nat.zero_le _⟩)) (fun r_14 hr_14 => ?_)
      obtain rfl : r_14 = nI 0 := hr_14
      refine lv_goto (tgt := 21) hx hb dX4_mark_17 (by decide) ?_
      exact W.iret (v := nI 0) hx hb hr (fun t ht hW => ⟨_, rfl, rfl, ht⟩) (fun q h => by cases h) dX4_mark_21
    · skip
      refine tb_aald hx hb hK hP 1 3 rfl rfl rfl (b := pa 2) (i := 2) (by omega) (by decide) rfl dX4_mark_12 ?_
      refine lv_iload_n hx hb dX4_mark_13 rfl (lv_at hl 2 rfl) ?_
      refine vp_callSi (va_Run.run (va_runV (As := [.int (nI j)]) (rest := []) ⟨hx, hb, hml, hown, hts⟩ (k_PR_markN l D ct (pa 2) (ta 2) (ka 2) (ga 2) R nt (F 2) (Qf 2) (Zf 2) j hnt hR (by have := hQ 2 (by decide); omega) hj hj2 (hsm 2 (by decide))) (cwV 1 hts (gw_V (fun _ h => h) w_273 w_274 w_275 w_27 wcX1_markOf) rfl rfl rfl hvX1_markOf ⟨Nat.le_of_ble_eq_true rfl, Nat.le_of_ble_eq_true rfl⟩) (tb_prV hP hK hZ hS [10, 11, 12, 13] rfl (ci := 1) (q0 := 0) rfl rfl) rfl rfl hl.1 rfl (lv_room (Nat.le_of_ble_eq_true rfl)) dX4_mark_14 ⟨Nat.zero_le _, Nat.zero_le _⟩)) (fun r_14 hr_14 => ?_)
      obtain rfl : r_14 = nI 0 := hr_14
      refine lv_goto (tgt := 21) hx hb dX4_mark_17 (by decide) ?_
      exact W.iret (v := nI 0) hx hb hr (fun t ht hW => ⟨_, rfl, rfl, ht⟩) (fun q h => by cases h) dX4_mark_21
    · skip
      refine tb_aald hx hb hK hP 1 3 rfl rfl rfl (b := pa 3) (i := 3) (by omega) (by decide) rfl dX4_mark_12 ?_
      refine lv_iload_n hx hb dX4_mark_13 rfl (lv_at hl 2 rfl) ?_
      refine vp_callSi (va_Run.run (va_runV (As := [.int (nI j)]) (rest := []) ⟨hx, hb, hml, hown, hts⟩ (k_PR_markN l D ct (pa 3) (ta 3) (ka 3) (ga 3) R nt (F 3) (Qf 3) (Zf 3) j hnt hR (by have := hQ 3 (by decide); omega) hj hj2 (hsm 3 (by decide))) (cwV 1 hts (gw_V (fun _ h => h) w_273 w_274 w_275 w_27 wcX1_markOf) rfl rfl rfl hvX1_markOf ⟨Nat.le_of_ble_eq_true rfl, Nat.le_of_ble_eq_true rfl⟩) (tb_prV hP hK hZ hS [14, 15, 16, 17] rfl (ci := 1) (q0 := 0) rfl rfl) rfl rfl hl.1 rfl (lv_room (Nat.le_of_ble_eq_true rfl)) dX4_mark_14 ⟨Nat.zero_le _, Nat.zero_le _⟩)) (fun r_14 hr_14 => ?_)
      obtain rfl : r_14 = nI 0 := hr_14
      refine lv_goto (tgt := 21) hx hb dX4_mark_17 (by decide) ?_
      exact W.iret (v := nI 0) hx hb hr (fun t ht hW => ⟨_, rfl, rfl, ht⟩) (fun q h => by cases h) dX4_mark_21
    · skip
      refine tb_aald hx hb hK hP 1 3 rfl rfl rfl (b := pa 4) (i := 4) (by omega) (by decide) rfl dX4_mark_12 ?_
      refine lv_iload_n hx hb dX4_mark_13 rfl (lv_at hl 2 rfl) ?_
      refine vp_callSi (va_Run.run (va_runV (As := [.int (nI j)]) (rest := []) ⟨hx, hb, hml, hown, hts⟩ (k_PR_markN l D ct (pa 4) (ta 4) (ka 4) (ga 4) R nt (F 4) (Qf 4) (Zf 4) j hnt hR (by have := hQ 4 (by decide); omega) hj hj2 (hsm 4 (by decide))) (cwV 1 hts (gw_V (fun _ h => h) w_273 w_274 w_275 w_27 wcX1_markOf) rfl rfl rfl hvX1_markOf ⟨Nat.le_of_ble_eq_true rfl, Nat.le_of_ble_eq_true rfl⟩) (tb_prV hP hK hZ hS [18, 19, 20, 21] rfl (ci := 1) (q0 := 0) rfl rfl) rfl rfl hl.1 rfl (lv_room (Nat.le_of_ble_eq_true rfl)) dX4_mark_14 ⟨Nat.zero_le _, Nat.zero_le _⟩)) (fun r_14 hr_14 => ?_)
      obtain rfl : r_14 = nI 0 := hr_14
      refine lv_goto (tgt := 21) hx hb dX4_mark_17 (by decide) ?_
      exact W.iret (v := nI 0) hx hb hr (fun t ht hW => ⟨_, rfl, rfl, ht⟩) (fun q h => by cases h) dX4_mark_21
    · skip
      refine tb_aald hx hb hK hP 1 3 rfl rfl rfl (b := pa 5) (i := 5) (by omega) (by decide) rfl dX4_mark_12 ?_
      refine lv_iload_n hx hb dX4_mark_13 rfl (lv_at hl 2 rfl) ?_
      refine vp_callSi (va_Run.run (va_runV (As := [.int (nI j)]) (rest := []) ⟨hx, hb, hml, hown, hts⟩ (k_PR_markN l D ct (pa 5) (ta 5) (ka 5) (ga 5) R nt (F 5) (Qf 5) (Zf 5) j hnt hR (by have := hQ 5 (by decide); omega) hj hj2 (hsm 5 (by decide))) (cwV 1 hts (gw_V (fun _ h => h) w_273 w_274 w_275 w_27 wcX1_markOf) rfl rfl rfl hvX1_markOf ⟨Nat.le_of_ble_eq_true rfl, Nat.le_of_ble_eq_true rfl⟩) (tb_prV hP hK hZ hS [22, 23, 24, 25] rfl (ci := 1) (q0 := 0) rfl rfl) rfl rfl hl.1 rfl (lv_room (Nat.le_of_ble_eq_true rfl)) dX4_mark_14 ⟨Nat.zero_le _, Nat.zero_le _⟩)) (fun r_14 hr_14 => ?_)
      obtain rfl : r_14 = nI 0 := hr_14
      refine lv_goto (tgt := 21) hx hb dX4_mark_17 (by decide) ?_
      exact W.iret (v := nI 0) hx hb hr (fun t ht hW => ⟨_, rfl, rfl, ht⟩) (fun q h => by cases h) dX4_mark_21

set_option maxHeartbeats 4000000 in
set_option maxRecDepth 100000 in
theorem k_mark_M (l : Launch) (D : va_G) (ct : Nat → ClassId) (mo : Nat) (g : Nat) (pr : Nat) (hh : Nat) (rh : Nat) (aq : Nat) (ld : Nat) (lc : Nat) (nh : Nat) (ty : Nat) (R : Nat) (pa : Nat → Nat) (ta : Nat → Nat) (ka : Nat → Nat) (ga : Nat → Nat) (nt : Nat) (F : Nat → Nat → Nat) (Qf : Nat → Nat) (Zf : Nat → Nat → Nat) (o : Nat) (y : Int32) (hR : R ≤ 400) (hnt : nt ≤ R) (hFs : ∀ i, i < 6 → tS (F i) nt) (hFb : ∀ i j, F i j < 2 ^ 31) (hQ : ∀ i, i < 6 → Qf i ≤ nt) (hsm : ∀ i, i < 6 → tSum (Zf i) (Qf i) = nt) (hzb : ∀ i j, Zf i j ≤ 1000) (hzp : ∀ i, i < 6 → ∀ j, j < Qf i → 0 < Zf i j) (ho : o < 6) (hj : y < 0) : Met l yX4_mark wsX4_mark ({ frames := 3, cells := 0, slots := 0, locals := 70 }) (tb_Pr D ct [.ref mo, .int (nI o), .int y] [(mo, .inr (4, [.ref g, .ref pr, .ref hh, .ref rh, .ref aq, .ref ld, .int (nI lc), .ref nh, .ref ty])), (pr, .inl (ct 3, 6, .inr (.inr (.inr (.inr (sF pa)))))), (pa 0, .inr (1, [.ref (ta 0), .ref (ga 0), .int (nI (Qf 0))])), (ta 0, .inr (3, [.ref (ka 0), .int (nI nt)])), (ka 0, .inl (ct 0, R, .inl (aN (F 0)))), (ga 0, .inl (ct 0, R, .inl (aN (Zf 0)))), (pa 1, .inr (1, [.ref (ta 1), .ref (ga 1), .int (nI (Qf 1))])), (ta 1, .inr (3, [.ref (ka 1), .int (nI nt)])), (ka 1, .inl (ct 0, R, .inl (aN (F 1)))), (ga 1, .inl (ct 0, R, .inl (aN (Zf 1)))), (pa 2, .inr (1, [.ref (ta 2), .ref (ga 2), .int (nI (Qf 2))])), (ta 2, .inr (3, [.ref (ka 2), .int (nI nt)])), (ka 2, .inl (ct 0, R, .inl (aN (F 2)))), (ga 2, .inl (ct 0, R, .inl (aN (Zf 2)))), (pa 3, .inr (1, [.ref (ta 3), .ref (ga 3), .int (nI (Qf 3))])), (ta 3, .inr (3, [.ref (ka 3), .int (nI nt)])), (ka 3, .inl (ct 0, R, .inl (aN (F 3)))), (ga 3, .inl (ct 0, R, .inl (aN (Zf 3)))), (pa 4, .inr (1, [.ref (ta 4), .ref (ga 4), .int (nI (Qf 4))])), (ta 4, .inr (3, [.ref (ka 4), .int (nI nt)])), (ka 4, .inl (ct 0, R, .inl (aN (F 4)))), (ga 4, .inl (ct 0, R, .inl (aN (Zf 4)))), (pa 5, .inr (1, [.ref (ta 5), .ref (ga 5), .int (nI (Qf 5))])), (ta 5, .inr (3, [.ref (ka 5), .int (nI nt)])), (ka 5, .inl (ct 0, R, .inl (aN (F 5)))), (ga 5, .inl (ct 0, R, .inl (aN (Zf 5))))]) (vp_Si (fun r => r = nI 0)) 0 0 (fun _ => False) := by
  refine Met.ofW (cc := cX4_mark) (maxL := 3) (ret := (some .int)) (by decide) rfl ?_
  intro p e s m args below meth c s₁ B hml hv
  obtain ⟨rfl, hP, hK, hZ⟩ := hv
  have hx := B.exec
  have hb := B.bytes
  have hr := B.returns
  have hts0 := atoms_spec (ws := wsX4_mark) B.pre
  have hts : ∀ w9 ∈ aw, w9.before ([.ref mo, .int (nI o), .int y] : List Value).toArray s = true := fun w9 h9 => hts0 w9 (List.mem_cons_of_mem _ h9)
  have hown : s.vm.findClass RX4 = some m.cls := findClass_of_methodNamed B.named
  have hlocks := B.notSynchronized
  have hS : va_S (fun _ => False) s.heap s.heap [] := va_S.rf
  have hP : va_P D vwCl [(mo, .inr (4, [.ref g, .ref pr, .ref hh, .ref rh, .ref aq, .ref ld, .int (nI lc), .ref nh, .ref ty])), (pr, .inl (ct 3, 6, .inr (.inr (.inr (.inr (sF pa)))))), (pa 0, .inr (1, [.ref (ta 0), .ref (ga 0), .int (nI (Qf 0))])), (ta 0, .inr (3, [.ref (ka 0), .int (nI nt)])), (ka 0, .inl (ct 0, R, .inl (aN (F 0)))), (ga 0, .inl (ct 0, R, .inl (aN (Zf 0)))), (pa 1, .inr (1, [.ref (ta 1), .ref (ga 1), .int (nI (Qf 1))])), (ta 1, .inr (3, [.ref (ka 1), .int (nI nt)])), (ka 1, .inl (ct 0, R, .inl (aN (F 1)))), (ga 1, .inl (ct 0, R, .inl (aN (Zf 1)))), (pa 2, .inr (1, [.ref (ta 2), .ref (ga 2), .int (nI (Qf 2))])), (ta 2, .inr (3, [.ref (ka 2), .int (nI nt)])), (ka 2, .inl (ct 0, R, .inl (aN (F 2)))), (ga 2, .inl (ct 0, R, .inl (aN (Zf 2)))), (pa 3, .inr (1, [.ref (ta 3), .ref (ga 3), .int (nI (Qf 3))])), (ta 3, .inr (3, [.ref (ka 3), .int (nI nt)])), (ka 3, .inl (ct 0, R, .inl (aN (F 3)))), (ga 3, .inl (ct 0, R, .inl (aN (Zf 3)))), (pa 4, .inr (1, [.ref (ta 4), .ref (ga 4), .int (nI (Qf 4))])), (ta 4, .inr (3, [.ref (ka 4), .int (nI nt)])), (ka 4, .inl (ct 0, R, .inl (aN (F 4)))), (ga 4, .inl (ct 0, R, .inl (aN (Zf 4)))), (pa 5, .inr (1, [.ref (ta 5), .ref (ga 5), .int (nI (Qf 5))])), (ta 5, .inr (3, [.ref (ka 5), .int (nI nt)])), (ka 5, .inl (ct 0, R, .inl (aN (F 5)))), (ga 5, .inl (ct 0, R, .inl (aN (Zf 5))))] s.heap := hP
  have hl := lv_entry ([.ref mo, .int (nI o), .int y]) (n := 3) (Nat.le_of_ble_eq_true rfl)
  rw [lg_entry_eq]
  generalize (lg_sl ([.ref mo, .int (nI o), .int y]) ++ List.replicate (3 - (lg_sl ([.ref mo, .int (nI o), .int y])).length) Slot.unset).toArray = ls at hl ⊢
  have hl : lv_has ls 3 [(0, .ref mo), (1, .int (nI o)), (2, .int y)] := hl
  refine lv_iload_n hx hb dX4_mark_0 rfl (lv_at hl 1 rfl) ?_
  refine vp_callSi (va_Run.run (va_runS (As := [.int (nI o)]) (rest := []) ⟨hx, hb, hml, hown, hts⟩ (k_isOrder l D ct (nI o) ) (va_cwS 1 hts (gw_S (fun _ h => h) w_112 w_113 w_24 wcX4_isOrder) rfl rfl rfl hvX4_isOrder.2 ⟨Nat.le_of_ble_eq_true rfl, Nat.le_of_ble_eq_true rfl⟩) (tb_prS hP hK hZ hS [] rfl) rfl rfl hl.1 rfl (lv_room (Nat.le_of_ble_eq_true rfl)) dX4_mark_1 ⟨Nat.zero_le _, Nat.zero_le _⟩)) (fun r_1 hr_1 => ?_)
  obtain rfl : r_1 = bB (decide (tRng (nI o) 6)) := hr_1
  refine tb_if_eqB (tgt := 20) hx hb dX4_mark_4 (by decide) (fun c4 => ?_) (fun c4 => ?_)
  · exact absurd (tRng_nI ho (by decide)) c4
  · refine lv_aload_n hx hb dX4_mark_7 rfl (lv_at hl 0 rfl) ?_
    refine va_get (D := D) (ci := 4) (v := .ref pr) (C := RX4) (T := TX4) (N := 9) hx hb hts inX4 hown hK hP 0 rfl rfl 1 (by decide) (hts _ w_88) (fun _ h9 => h9) rfl dX4_mark_8 ?_
    refine lv_iload_n hx hb dX4_mark_11 rfl (lv_at hl 1 rfl) ?_
    obtain rfl | rfl | rfl | rfl | rfl | rfl : o = 0 ∨ o = 1 ∨ o = 2 ∨ o = 3 ∨ o = 4 ∨ o = 5 := by omega
    · skip
      refine tb_aald hx hb hK hP 1 3 rfl rfl rfl (b := pa 0) (i := 0) (by omega) (by decide) rfl dX4_mark_12 ?_
      refine lv_iload_n hx hb dX4_mark_13 rfl (lv_at hl 2 rfl) ?_
      refine vp_callSi (va_Run.run (va_runV (As := [.int y]) (rest := []) ⟨hx, hb, hml, hown, hts⟩ (k_PR_markM l D ct (pa 0) (ta 0) (ka 0) (ga 0) R nt (F 0) (Qf 0) (Zf 0) y hnt hR (by have := hQ 0 (by decide); omega) hj) (cwV 1 hts (gw_V (fun _ h => h) w_273 w_274 w_275 w_27 wcX1_markOf) rfl rfl rfl hvX1_markOf ⟨Nat.le_of_ble_eq_true rfl, Nat.le_of_ble_eq_true rfl⟩) (tb_prV hP hK hZ hS [2, 3, 4, 5] rfl (ci := 1) (q0 := 0) rfl rfl) rfl rfl hl.1 rfl (lv_room (Nat.le_of_ble_eq_true rfl)) dX4_mark_14 ⟨Nat.zero_le _, Nat.zero_le _⟩)) (fun r_14 hr_14 => ?_)
      obtain rfl : r_14 = nI 0 := hr_14
      refine lv_goto (tgt := 21) hx hb dX4_mark_17 (by decide) ?_
      exact W.iret (v := nI 0) hx hb hr (fun t ht hW => ⟨_, rfl, rfl, ht⟩) (fun q h => by cases h) dX4_mark_21
    · skip
      refine tb_aald hx hb hK hP 1 3 rfl rfl rfl (b := pa 1) (i := 1) (by omega) (by decide) rfl dX4_mark_12 ?_
      refine lv_iload_n hx hb dX4_mark_13 rfl (lv_at hl 2 rfl) ?_
      refine vp_callSi (va_Run.run (va_runV (As := [.int y]) (rest := []) ⟨hx, hb, hml, hown, hts⟩ (k_PR_markM l D ct (pa 1) (ta 1) (ka 1) (ga 1) R nt (F 1) (Qf 1) (Zf 1) y hnt hR (by have := hQ 1 (by decide); omega) hj) (cwV 1 hts (gw_V (fun _ h => h) w_273 w_274 w_275 w_27 wcX1_markOf) rfl rfl rfl hvX1_markOf ⟨Nat.le_of_ble_eq_true rfl, Nat.le_of_ble_eq_true rfl⟩) (tb_prV hP hK hZ hS [6, 7, 8, 9] rfl (ci := 1) (q0 := 0) rfl rfl) rfl rfl hl.1 rfl (lv_room (Nat.le_of_ble_eq_true rfl)) dX4_mark_14 ⟨Nat.zero_le _, Nat.zero_le _⟩)) (fun r_14 hr_14 => ?_)
      obtain rfl : r_14 = nI 0 := hr_14
      refine lv_goto (tgt := 21) hx hb dX4_mark_17 (by decide) ?_
      exact W.iret (v := nI 0) hx hb hr (fun t ht hW => ⟨_, rfl, rfl, ht⟩) (fun q h => by cases h) dX4_mark_21
    · skip
      refine tb_aald hx hb hK hP 1 3 rfl rfl rfl (b := pa 2) (i := 2) (by omega) (by decide) rfl dX4_mark_12 ?_
      refine lv_iload_n hx hb dX4_mark_13 rfl (lv_at hl 2 rfl) ?_
      refine vp_callSi (va_Run.run (va_runV (As := [.int y]) (rest := []) ⟨hx, hb, hml, hown, hts⟩ (k_PR_markM l D ct (pa 2) (ta 2) (ka 2) (ga 2) R nt (F 2) (Qf 2) (Zf 2) y hnt hR (by have := hQ 2 (by decide); omega) hj) (cwV 1 hts (gw_V (fun _ h => h) w_273 w_274 w_275 w_27 wcX1_markOf) rfl rfl rfl hvX1_markOf ⟨Nat.le_of_ble_eq_true rfl, Nat.le_of_ble_eq_true rfl⟩) (tb_prV hP hK hZ hS [10, 11, 12, 13] rfl (ci := 1) (q0 := 0) rfl rfl) rfl rfl hl.1 rfl (lv_room (Nat.le_of_ble_eq_true rfl)) dX4_mark_14 ⟨Nat.zero_le _, Nat.zero_le _⟩)) (fun r_14 hr_14 => ?_)
      obtain rfl : r_14 = nI 0 := hr_14
      refine lv_goto (tgt := 21) hx hb dX4_mark_17 (by decide) ?_
      exact W.iret (v := nI 0) hx hb hr (fun t ht hW => ⟨_, rfl, rfl, ht⟩) (fun q h => by cases h) dX4_mark_21
    · skip
      refine tb_aald hx hb hK hP 1 3 rfl rfl rfl (b := pa 3) (i := 3) (by omega) (by decide) rfl dX4_mark_12 ?_
      refine lv_iload_n hx hb dX4_mark_13 rfl (lv_at hl 2 rfl) ?_
      refine vp_callSi (va_Run.run (va_runV (As := [.int y]) (rest := []) ⟨hx, hb, hml, hown, hts⟩ (k_PR_markM l D ct (pa 3) (ta 3) (ka 3) (ga 3) R nt (F 3) (Qf 3) (Zf 3) y hnt hR (by have := hQ 3 (by decide); omega) hj) (cwV 1 hts (gw_V (fun _ h => h) w_273 w_274 w_275 w_27 wcX1_markOf) rfl rfl rfl hvX1_markOf ⟨Nat.le_of_ble_eq_true rfl, Nat.le_of_ble_eq_true rfl⟩) (tb_prV hP hK hZ hS [14, 15, 16, 17] rfl (ci := 1) (q0 := 0) rfl rfl) rfl rfl hl.1 rfl (lv_room (Nat.le_of_ble_eq_true rfl)) dX4_mark_14 ⟨Nat.zero_le _, Nat.zero_le _⟩)) (fun r_14 hr_14 => ?_)
      obtain rfl : r_14 = nI 0 := hr_14
      refine lv_goto (tgt := 21) hx hb dX4_mark_17 (by decide) ?_
      exact W.iret (v := nI 0) hx hb hr (fun t ht hW => ⟨_, rfl, rfl, ht⟩) (fun q h => by cases h) dX4_mark_21
    · skip
      refine tb_aald hx hb hK hP 1 3 rfl rfl rfl (b := pa 4) (i := 4) (by omega) (by decide) rfl dX4_mark_12 ?_
      refine lv_iload_n hx hb dX4_mark_13 rfl (lv_at hl 2 rfl) ?_
      refine vp_callSi (va_Run.run (va_runV (As := [.int y]) (rest := []) ⟨hx, hb, hml, hown, hts⟩ (k_PR_markM l D ct (pa 4) (ta 4) (ka 4) (ga 4) R nt (F 4) (Qf 4) (Zf 4) y hnt hR (by have := hQ 4 (by decide); omega) hj) (cwV 1 hts (gw_V (fun _ h => h) w_273 w_274 w_275 w_27 wcX1_markOf) rfl rfl rfl hvX1_markOf ⟨Nat.le_of_ble_eq_true rfl, Nat.le_of_ble_eq_true rfl⟩) (tb_prV hP hK hZ hS [18, 19, 20, 21] rfl (ci := 1) (q0 := 0) rfl rfl) rfl rfl hl.1 rfl (lv_room (Nat.le_of_ble_eq_true rfl)) dX4_mark_14 ⟨Nat.zero_le _, Nat.zero_le _⟩)) (fun r_14 hr_14 => ?_)
      obtain rfl : r_14 = nI 0 := hr_14
      refine lv_goto (tgt := 21) hx hb dX4_mark_17 (by decide) ?_
      exact W.iret (v := nI 0) hx hb hr (fun t ht hW => ⟨_, rfl, rfl, ht⟩) (fun q h => by cases h) dX4_mark_21
    · skip
      refine tb_aald hx hb hK hP 1 3 rfl rfl rfl (b := pa 5) (i := 5) (by omega) (by decide) rfl dX4_mark_12 ?_
      refine lv_iload_n hx hb dX4_mark_13 rfl (lv_at hl 2 rfl) ?_
      refine vp_callSi (va_Run.run (va_runV (As := [.int y]) (rest := []) ⟨hx, hb, hml, hown, hts⟩ (k_PR_markM l D ct (pa 5) (ta 5) (ka 5) (ga 5) R nt (F 5) (Qf 5) (Zf 5) y hnt hR (by have := hQ 5 (by decide); omega) hj) (cwV 1 hts (gw_V (fun _ h => h) w_273 w_274 w_275 w_27 wcX1_markOf) rfl rfl rfl hvX1_markOf ⟨Nat.le_of_ble_eq_true rfl, Nat.le_of_ble_eq_true rfl⟩) (tb_prV hP hK hZ hS [22, 23, 24, 25] rfl (ci := 1) (q0 := 0) rfl rfl) rfl rfl hl.1 rfl (lv_room (Nat.le_of_ble_eq_true rfl)) dX4_mark_14 ⟨Nat.zero_le _, Nat.zero_le _⟩)) (fun r_14 hr_14 => ?_)
      obtain rfl : r_14 = nI 0 := hr_14
      refine lv_goto (tgt := 21) hx hb dX4_mark_17 (by decide) ?_
      exact W.iret (v := nI 0) hx hb hr (fun t ht hW => ⟨_, rfl, rfl, ht⟩) (fun q h => by cases h) dX4_mark_21
