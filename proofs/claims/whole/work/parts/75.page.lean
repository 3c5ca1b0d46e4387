set_option maxHeartbeats 4000000 in
set_option maxRecDepth 100000 in
theorem k_page_m2 (l : Launch) (D : va_G) (ct : Nat → ClassId) (mo : Nat) (g : Nat) (pr : Nat) (hh : Nat) (rh : Nat) (aq : Nat) (ld : Nat) (lc : Nat) (nh : Nat) (ty : Nat) (x : Int32) (y : Int32) (u : Int32) (hbad : ¬ (tRng x 6 ∧ tRng u 4)) : Met l yX4_page wsX4_page ({ frames := 1, cells := 0, slots := 0, locals := 20 }) (tb_Pr D ct [.ref mo, .int x, .int y, .int u] [(mo, .inr (4, [.ref g, .ref pr, .ref hh, .ref rh, .ref aq, .ref ld, .int (nI lc), .ref nh, .ref ty]))]) (vp_Si (fun r => r = (-2))) 0 0 (fun _ => False) := by
  refine Met.ofW (cc := cX4_page) (maxL := 5) (ret := (some .int)) (by decide) rfl ?_
  intro p e s m args below meth c s₁ B hml hv
  obtain ⟨rfl, hP, hK, hZ⟩ := hv
  have hx := B.exec
  have hb := B.bytes
  have hr := B.returns
  have hts0 := atoms_spec (ws := wsX4_page) B.pre
  have hts : ∀ w9 ∈ aw, w9.before ([.ref mo, .int x, .int y, .int u] : List Value).toArray s = true := fun w9 h9 => hts0 w9 (List.mem_cons_of_mem _ h9)
  have hown : s.vm.findClass RX4 = some m.cls := findClass_of_methodNamed B.named
  have hlocks := B.notSynchronized
  have hS : va_S (fun _ => False) s.heap s.heap [] := va_S.rf
  have hP : va_P D vwCl [(mo, .inr (4, [.ref g, .ref pr, .ref hh, .ref rh, .ref aq, .ref ld, .int (nI lc), .ref nh, .ref ty]))] s.heap := hP
  have hl := lv_entry ([.ref mo, .int x, .int y, .int u]) (n := 5) (Nat.le_of_ble_eq_true rfl)
  rw [lg_entry_eq]
  generalize (lg_sl ([.ref mo, .int x, .int y, .int u]) ++ List.replicate (5 - (lg_sl ([.ref mo, .int x, .int y, .int u])).length) Slot.unset).toArray = ls at hl ⊢
  have hl : lv_has ls 5 [(0, .ref mo), (1, .int x), (2, .int y), (3, .int u)] := hl
  refine lv_iload_n hx hb dX4_page_0 rfl (lv_at hl 1 rfl) ?_
  refine vp_callSi (va_Run.run (va_runS (As := [.int x]) (rest := []) ⟨hx, hb, hml, hown, hts⟩ (k_isOrder l D ct x ) (va_cwS 1 hts (gw_S (fun _ h => h) w_112 w_113 w_24 wcX4_isOrder) rfl rfl rfl hvX4_isOrder.2 ⟨Nat.le_of_ble_eq_true rfl, Nat.le_of_ble_eq_true rfl⟩) (tb_prS hP hK hZ hS [] rfl) rfl rfl hl.1 rfl (lv_room (Nat.le_of_ble_eq_true rfl)) dX4_page_1 ⟨Nat.zero_le _, Nat.zero_le _⟩)) (fun r_1 hr_1 => ?_)
  obtain rfl : r_1 = bB (decide (tRng x 6)) := hr_1
  refine tb_if_eqB (tgt := 16) hx hb dX4_page_4 (by decide) (fun c4 => ?_) (fun c4 => ?_)
  · refine lv_bipush (v := (-2)) hx hb dX4_page_16 (by decide) ?_
    exact W.iret (v := (-2)) hx hb hr (fun t ht hW => ⟨_, rfl, rfl, ht⟩) (fun q h => by cases h) dX4_page_18
  · refine lv_iload_n hx hb dX4_page_7 rfl (lv_at hl 3 rfl) ?_
    refine lv_if_lt (tgt := 16) hx hb dX4_page_8 (by decide) (fun c8 => ?_) (fun c8 => ?_)
    · refine lv_bipush (v := (-2)) hx hb dX4_page_16 (by decide) ?_
      exact W.iret (v := (-2)) hx hb hr (fun t ht hW => ⟨_, rfl, rfl, ht⟩) (fun q h => by cases h) dX4_page_18
    · refine lv_iload_n hx hb dX4_page_11 rfl (lv_at hl 3 rfl) ?_
      refine lv_iconst (v := nI 3) hx hb dX4_page_12 (by decide) ?_
      refine lv_icmp_le (tgt := 19) hx hb dX4_page_13 (by decide) (fun c13 => ?_) (fun c13 => ?_)
      · exact absurd ⟨c4, tRng_ofg (by decide) c8 (Int32.not_lt.mpr c13)⟩ hbad
      · refine lv_bipush (v := (-2)) hx hb dX4_page_16 (by decide) ?_
        exact W.iret (v := (-2)) hx hb hr (fun t ht hW => ⟨_, rfl, rfl, ht⟩) (fun q h => by cases h) dX4_page_18

set_option maxHeartbeats 4000000 in
set_option maxRecDepth 100000 in
theorem k_page_none (l : Launch) (D : va_G) (ct : Nat → ClassId) (mo : Nat) (g : Nat) (pr : Nat) (hh : Nat) (rh : Nat) (aq : Nat) (ld : Nat) (lc : Nat) (nh : Nat) (ty : Nat) (R : Nat) (pa : Nat → Nat) (ta : Nat → Nat) (ka : Nat → Nat) (ga : Nat → Nat) (nt : Nat) (F : Nat → Nat → Nat) (Qf : Nat → Nat) (Zf : Nat → Nat → Nat) (o : Nat) (y : Int32) (j : Nat) (hR : R ≤ 400) (hnt : nt ≤ R) (hFs : ∀ i, i < 6 → tS (F i) nt) (hFb : ∀ i j, F i j < 2 ^ 31) (hQ : ∀ i, i < 6 → Qf i ≤ nt) (hsm : ∀ i, i < 6 → tSum (Zf i) (Qf i) = nt) (hzb : ∀ i j, Zf i j ≤ 1000) (hzp : ∀ i, i < 6 → ∀ j, j < Qf i → 0 < Zf i j) (ho : o < 6) (hj : j < 4) (hy : ¬ tRng y (Qf o)) : Met l yX4_page wsX4_page ({ frames := 1, cells := 0, slots := 0, locals := 21 }) (tb_Pr D ct [.ref mo, .int (nI o), .int y, .int (nI j)] [(mo, .inr (4, [.ref g, .ref pr, .ref hh, .ref rh, .ref aq, .ref ld, .int (nI lc), .ref nh, .ref ty])), (pr, .inl (ct 3, 6, .inr (.inr (.inr (.inr (sF pa)))))), (pa 0, .inr (1, [.ref (ta 0), .ref (ga 0), .int (nI (Qf 0))])), (ta 0, .inr (3, [.ref (ka 0), .int (nI nt)])), (ka 0, .inl (ct 0, R, .inl (aN (F 0)))), (ga 0, .inl (ct 0, R, .inl (aN (Zf 0)))), (pa 1, .inr (1, [.ref (ta 1), .ref (ga 1), .int (nI (Qf 1))])), (ta 1, .inr (3, [.ref (ka 1), .int (nI nt)])), (ka 1, .inl (ct 0, R, .inl (aN (F 1)))), (ga 1, .inl (ct 0, R, .inl (aN (Zf 1)))), (pa 2, .inr (1, [.ref (ta 2), .ref (ga 2), .int (nI (Qf 2))])), (ta 2, .inr (3, [.ref (ka 2), .int (nI nt)])), (ka 2, .inl (ct 0, R, .inl (aN (F 2)))), (ga 2, .inl (ct 0, R, .inl (aN (Zf 2)))), (pa 3, .inr (1, [.ref (ta 3), .ref (ga 3), .int (nI (Qf 3))])), (ta 3, .inr (3, [.ref (ka 3), .int (nI nt)])), (ka 3, .inl (ct 0, R, .inl (aN (F 3)))), (ga 3, .inl (ct 0, R, .inl (aN (Zf 3)))), (pa 4, .inr (1, [.ref (ta 4), .ref (ga 4), .int (nI (Qf 4))])), (ta 4, .inr (3, [.ref (ka 4), .int (nI nt)])), (ka 4, .inl (ct 0, R, .inl (aN (F 4)))), (ga 4, .inl (ct 0, R, .inl (aN (Zf 4)))), (pa 5, .inr (1, [.ref (ta 5), .ref (ga 5), .int (nI (Qf 5))])), (ta 5, .inr (3, [.ref (ka 5), .int (nI nt)])), (ka 5, .inl (ct 0, R, .inl (aN (F 5)))), (ga 5, .inl (ct 0, R, .inl (aN (Zf 5))))]) (vp_Si (fun r => r = (-1))) 0 0 (fun _ => False) := by
  refine Met.ofW (cc := cX4_page) (maxL := 5) (ret := (some .int)) (by decide) rfl ?_
  intro p e s m args below meth c s₁ B hml hv
  obtain ⟨rfl, hP, hK, hZ⟩ := hv
  have hx := B.exec
  have hb := B.bytes
  have hr := B.returns
  have hts0 := atoms_spec (ws := wsX4_page) B.pre
  have hts : ∀ w9 ∈ aw, w9.before ([.ref mo, .int (nI o), .int y, .int (nI j)] : List Value).toArray s = true := fun w9 h9 => hts0 w9 (List.mem_cons_of_mem _ h9)
  have hown : s.vm.findClass RX4 = some m.cls := findClass_of_methodNamed B.named
  have hlocks := B.notSynchronized
  have hS : va_S (fun _ => False) s.heap s.heap [] := va_S.rf
  have hP : va_P D vwCl [(mo, .inr (4, [.ref g, .ref pr, .ref hh, .ref rh, .ref aq, .ref ld, .int (nI lc), .ref nh, .ref ty])), (pr, .inl (ct 3, 6, .inr (.inr (.inr (.inr (sF pa)))))), (pa 0, .inr (1, [.ref (ta 0), .ref (ga 0), .int (nI (Qf 0))])), (ta 0, .inr (3, [.ref (ka 0), .int (nI nt)])), (ka 0, .inl (ct 0, R, .inl (aN (F 0)))), (ga 0, .inl (ct 0, R, .inl (aN (Zf 0)))), (pa 1, .inr (1, [.ref (ta 1), .ref (ga 1), .int (nI (Qf 1))])), (ta 1, .inr (3, [.ref (ka 1), .int (nI nt)])), (ka 1, .inl (ct 0, R, .inl (aN (F 1)))), (ga 1, .inl (ct 0, R, .inl (aN (Zf 1)))), (pa 2, .inr (1, [.ref (ta 2), .ref (ga 2), .int (nI (Qf 2))])), (ta 2, .inr (3, [.ref (ka 2), .int (nI nt)])), (ka 2, .inl (ct 0, R, .inl (aN (F 2)))), (ga 2, .inl (ct 0, R, .inl (aN (Zf 2)))), (pa 3, .inr (1, [.ref (ta 3), .ref (ga 3), .int (nI (Qf 3))])), (ta 3, .inr (3, [.ref (ka 3), .int (nI nt)])), (ka 3, .inl (ct 0, R, .inl (aN (F 3)))), (ga 3, .inl (ct 0, R, .inl (aN (Zf 3)))), (pa 4, .inr (1, [.ref (ta 4), .ref (ga 4), .int (nI (Qf 4))])), (ta 4, .inr (3, [.ref (ka 4), .int (nI nt)])), (ka 4, .inl (ct 0, R, .inl (aN (F 4)))), (ga 4, .inl (ct 0, R, .inl (aN (Zf 4)))), (pa 5, .inr (1, [.ref (ta 5), .ref (ga 5), .int (nI (Qf 5))])), (ta 5, .inr (3, [.ref (ka 5), .int (nI nt)])), (ka 5, .inl (ct 0, R, .inl (aN (F 5)))), (ga 5, .inl (ct 0, R, .inl (aN (Zf 5))))] s.heap := hP
  have hl := lv_entry ([.ref mo, .int (nI o), .int y, .int (nI j)]) (n := 5) (Nat.le_of_ble_eq_true rfl)
  rw [lg_entry_eq]
  generalize (lg_sl ([.ref mo, .int (nI o), .int y, .int (nI j)]) ++ List.replicate (5 - (lg_sl ([.ref mo, .int (nI o), .int y, .int (nI j)])).length) Slot.unset).toArray = ls at hl ⊢
  have hl : lv_has ls 5 [(0, .ref mo), (1, .int (nI o)), (2, .int y), (3, .int (nI j))] := hl
  refine lv_iload_n hx hb dX4_page_0 rfl (lv_at hl 1 rfl) ?_
  refine vp_callSi (va_Run.run (va_runS (As := [.int (nI o)]) (rest := []) ⟨hx, hb, hml, hown, hts⟩ (k_isOrder l D ct (nI o) ) (va_cwS 1 hts (gw_S (fun _ h => h) w_112 w_113 w_24 wcX4_isOrder) rfl rfl rfl hvX4_isOrder.2 ⟨Nat.le_of_ble_eq_true rfl, Nat.le_of_ble_eq_true rfl⟩) (tb_prS hP hK hZ hS [] rfl) rfl rfl hl.1 rfl (lv_room (Nat.le_of_ble_eq_true rfl)) dX4_page_1 ⟨Nat.zero_le _, Nat.zero_le _⟩)) (fun r_1 hr_1 => ?_)
  obtain rfl : r_1 = bB (decide (tRng (nI o) 6)) := hr_1
  refine tb_if_eqB (tgt := 16) hx hb dX4_page_4 (by decide) (fun c4 => ?_) (fun c4 => ?_)
  · exact absurd (tRng_nI ho (by decide)) c4
  · refine lv_iload_n hx hb dX4_page_7 rfl (lv_at hl 3 rfl) ?_
    refine tb_if_lt (tgt := 16) hx hb dX4_page_8 (by decide) (by omega) ?_
    refine lv_iload_n hx hb dX4_page_11 rfl (lv_at hl 3 rfl) ?_
    refine lv_iconst (v := nI 3) hx hb dX4_page_12 (by decide) ?_
    refine tb_icmp_le (tgt := 19) hx hb dX4_page_13 (by decide) (by omega) (by omega) (fun c13 => ?_) (fun c13 => ?_)
    · refine lv_aload_n hx hb dX4_page_19 rfl (lv_at hl 0 rfl) ?_
      refine va_get (D := D) (ci := 4) (v := .ref pr) (C := RX4) (T := TX4) (N := 9) hx hb hts inX4 hown hK hP 0 rfl rfl 1 (by decide) (hts _ w_88) (fun _ h9 => h9) rfl dX4_page_20 ?_
      refine lv_iload_n hx hb dX4_page_23 rfl (lv_at hl 1 rfl) ?_
      obtain rfl | rfl | rfl | rfl | rfl | rfl : o = 0 ∨ o = 1 ∨ o = 2 ∨ o = 3 ∨ o = 4 ∨ o = 5 := by omega
      · skip
        refine tb_aald hx hb hK hP 1 3 rfl rfl rfl (b := pa 0) (i := 0) (by omega) (by decide) rfl dX4_page_24 ?_
        refine lv_astore (lv' := [(4, .ref (pa 0)), (0, .ref mo), (1, .int (nI 0)), (2, .int y), (3, .int (nI j))]) hx hb dX4_page_25 hl (by decide) rfl (fun ls hl => ?_)
        refine lv_aload hx hb dX4_page_27 (lv_at hl 0 rfl) ?_
        refine lv_iload_n hx hb dX4_page_29 rfl (lv_at hl 3 rfl) ?_
        refine vp_callSi (va_Run.run (va_runV (As := [.int y]) (rest := []) ⟨hx, hb, hml, hown, hts⟩ (k_PR_hasPage l D ct (pa 0) (ta 0) (ka 0) (ga 0) R nt (F 0) (Qf 0) (Zf 0) y hnt hR (by have := hQ 0 (by decide); omega)) (cwV 1 hts (gw_V (fun _ h => h) w_260 w_149 w_150 w_27 wcX1_hasPage) rfl rfl rfl hvX1_hasPage ⟨Nat.le_of_ble_eq_true rfl, Nat.le_of_ble_eq_true rfl⟩) (tb_prV hP hK hZ hS [2, 3, 4, 5] rfl (ci := 1) (q0 := 0) rfl rfl) rfl rfl hl.1 rfl (lv_room (Nat.le_of_ble_eq_true rfl)) dX4_page_30 ⟨Nat.zero_le _, Nat.zero_le _⟩)) (fun r_30 hr_30 => ?_)
        obtain rfl : r_30 = bB (decide (tRng y (Qf 0))) := hr_30
        refine tb_if_neB (tgt := 38) hx hb dX4_page_33 (by decide) (fun c33 => ?_) (fun c33 => ?_)
        · exact absurd c33 hy
        · refine lv_iconst (v := (-1)) hx hb dX4_page_36 (by decide) ?_
          exact W.iret (v := (-1)) hx hb hr (fun t ht hW => ⟨_, rfl, rfl, ht⟩) (fun q h => by cases h) dX4_page_37
      · skip
        refine tb_aald hx hb hK hP 1 3 rfl rfl rfl (b := pa 1) (i := 1) (by omega) (by decide) rfl dX4_page_24 ?_
        refine lv_astore (lv' := [(4, .ref (pa 1)), (0, .ref mo), (1, .int (nI 1)), (2, .int y), (3, .int (nI j))]) hx hb dX4_page_25 hl (by decide) rfl (fun ls hl => ?_)
        refine lv_aload hx hb dX4_page_27 (lv_at hl 0 rfl) ?_
        refine lv_iload_n hx hb dX4_page_29 rfl (lv_at hl 3 rfl) ?_
        refine vp_callSi (va_Run.run (va_runV (As := [.int y]) (rest := []) ⟨hx, hb, hml, hown, hts⟩ (k_PR_hasPage l D ct (pa 1) (ta 1) (ka 1) (ga 1) R nt (F 1) (Qf 1) (Zf 1) y hnt hR (by have := hQ 1 (by decide); omega)) (cwV 1 hts (gw_V (fun _ h => h) w_260 w_149 w_150 w_27 wcX1_hasPage) rfl rfl rfl hvX1_hasPage ⟨Nat.le_of_ble_eq_true rfl, Nat.le_of_ble_eq_true rfl⟩) (tb_prV hP hK hZ hS [6, 7, 8, 9] rfl (ci := 1) (q0 := 0) rfl rfl) rfl rfl hl.1 rfl (lv_room (Nat.le_of_ble_eq_true rfl)) dX4_page_30 ⟨Nat.zero_le _, Nat.zero_le _⟩)) (fun r_30 hr_30 => ?_)
        obtain rfl : r_30 = bB (decide (tRng y (Qf 1))) := hr_30
        refine tb_if_neB (tgt := 38) hx hb dX4_page_33 (by decide) (fun c33 => ?_) (fun c33 => ?_)
        · exact absurd c33 hy
        · refine lv_iconst (v := (-1)) hx hb dX4_page_36 (by decide) ?_
          exact W.iret (v := (-1)) hx hb hr (fun t ht hW => ⟨_, rfl, rfl, ht⟩) (fun q h => by cases h) dX4_page_37
      · skip
        refine tb_aald hx hb hK hP 1 3 rfl rfl rfl (b := pa 2) (i := 2) (by omega) (by decide) rfl dX4_page_24 ?_
        refine lv_astore (lv' := [(4, .ref (pa 2)), (0, .ref mo), (1, .int (nI 2)), (2, .int y), (3, .int (nI j))]) hx hb dX4_page_25 hl (by decide) rfl (fun ls hl => ?_)
        refine lv_aload hx hb dX4_page_27 (lv_at hl 0 rfl) ?_
        refine lv_iload_n hx hb dX4_page_29 rfl (lv_at hl 3 rfl) ?_
        refine vp_callSi (va_Run.run (va_runV (As := [.int y]) (rest := []) ⟨hx, hb, hml, hown, hts⟩ (k_PR_hasPage l D ct (pa 2) (ta 2) (ka 2) (ga 2) R nt (F 2) (Qf 2) (Zf 2) y hnt hR (by have := hQ 2 (by decide); omega)) (cwV 1 hts (gw_V (fun _ h => h) w_260 w_149 w_150 w_27 wcX1_hasPage) rfl rfl rfl hvX1_hasPage ⟨Nat.le_of_ble_eq_true rfl, Nat.le_of_ble_eq_true rfl⟩) (tb_prV hP hK hZ hS [10, 11, 12, 13] rfl (ci := 1) (q0 := 0) rfl rfl) rfl rfl hl.1 rfl (lv_room (Nat.le_of_ble_eq_true rfl)) dX4_page_30 ⟨Nat.zero_le _, Nat.zero_le _⟩)) (fun r_30 hr_30 => ?_)
        obtain rfl : r_30 = bB (decide (tRng y (Qf 2))) := hr_30
        refine tb_if_neB (tgt := 38) hx hb dX4_page_33 (by decide) (fun c33 => ?_) (fun c33 => ?_)
        · exact absurd c33 hy
        · refine lv_iconst (v := (-1)) hx hb dX4_page_36 (by decide) ?_
          exact W.iret (v := (-1)) hx hb hr (fun t ht hW => ⟨_, rfl, rfl, ht⟩) (fun q h => by cases h) dX4_page_37
      · skip
        refine tb_aald hx hb hK hP 1 3 rfl rfl rfl (b := pa 3) (i := 3) (by omega) (by decide) rfl dX4_page_24 ?_
        refine lv_astore (lv' := [(4, .ref (pa 3)), (0, .ref mo), (1, .int (nI 3)), (2, .int y), (3, .int (nI j))]) hx hb dX4_page_25 hl (by decide) rfl (fun ls hl => ?_)
        refine lv_aload hx hb dX4_page_27 (lv_at hl 0 rfl) ?_
        refine lv_iload_n hx hb dX4_page_29 rfl (lv_at hl 3 rfl) ?_
        refine vp_callSi (va_Run.run (va_runV (As := [.int y]) (rest := []) ⟨hx, hb, hml, hown, hts⟩ (k_PR_hasPage l D ct (pa 3) (ta 3) (ka 3) (ga 3) R nt (F 3) (Qf 3) (Zf 3) y hnt hR (by have := hQ 3 (by decide); omega)) (cwV 1 hts (gw_V (fun _ h => h) w_260 w_149 w_150 w_27 wcX1_hasPage) rfl rfl rfl hvX1_hasPage ⟨Nat.le_of_ble_eq_true rfl, Nat.le_of_ble_eq_true rfl⟩) (tb_prV hP hK hZ hS [14, 15, 16, 17] rfl (ci := 1) (q0 := 0) rfl rfl) rfl rfl hl.1 rfl (lv_room (Nat.le_of_ble_eq_true rfl)) dX4_page_30 ⟨Nat.zero_le _, Nat.zero_le _⟩)) (fun r_30 hr_30 => ?_)
        obtain rfl : r_30 = bB (decide (tRng y (Qf 3))) := hr_30
        refine tb_if_neB (tgt := 38) hx hb dX4_page_33 (by decide) (fun c33 => ?_) (fun c33 => ?_)
        · exact absurd c33 hy
        · refine lv_iconst (v := (-1)) hx hb dX4_page_36 (by decide) ?_
          exact W.iret (v := (-1)) hx hb hr (fun t ht hW => ⟨_, rfl, rfl, ht⟩) (fun q h => by cases h) dX4_page_37
      · skip
        refine tb_aald hx hb hK hP 1 3 rfl rfl rfl (b := pa 4) (i := 4) (by omega) (by decide) rfl dX4_page_24 ?_
        refine lv_astore (lv' := [(4, .ref (pa 4)), (0, .ref mo), (1, .int (nI 4)), (2, .int y), (3, .int (nI j))]) hx hb dX4_page_25 hl (by decide) rfl (fun ls hl => ?_)
        refine lv_aload hx hb dX4_page_27 (lv_at hl 0 rfl) ?_
        refine lv_iload_n hx hb dX4_page_29 rfl (lv_at hl 3 rfl) ?_
        refine vp_callSi (va_Run.run (va_runV (As := [.int y]) (rest := []) ⟨hx, hb, hml, hown, hts⟩ (k_PR_hasPage l D ct (pa 4) (ta 4) (ka 4) (ga 4) R nt (F 4) (Qf 4) (Zf 4) y hnt hR (by have := hQ 4 (by decide); omega)) (cwV 1 hts (gw_V (fun _ h => h) w_260 w_149 w_150 w_27 wcX1_hasPage) rfl rfl rfl hvX1_hasPage ⟨Nat.le_of_ble_eq_true rfl, Nat.le_of_ble_eq_true rfl⟩) (tb_prV hP hK hZ hS [18, 19, 20, 21] rfl (ci := 1) (q0 := 0) rfl rfl) rfl rfl hl.1 rfl (lv_room (Nat.le_of_ble_eq_true rfl)) dX4_page_30 ⟨Nat.zero_le _, Nat.zero_le _⟩)) (fun r_30 hr_30 => ?_)
        obtain rfl : r_30 = bB (decide (tRng y (Qf 4))) := hr_30
        refine tb_if_neB (tgt := 38) hx hb dX4_page_33 (by decide) (fun c33 => ?_) (fun c33 => ?_)
        · exact absurd c33 hy
        · refine lv_iconst (v := (-1)) hx hb dX4_page_36 (by decide) ?_
          exact W.iret (v := (-1)) hx hb hr (fun t ht hW => ⟨_, rfl, rfl, ht⟩) (fun q h => by cases h) dX4_page_37
      · skip
        refine tb_aald hx hb hK hP 1 3 rfl rfl rfl (b := pa 5) (i := 5) (by omega) (by decide) rfl dX4_page_24 ?_
        refine lv_astore (lv' := [(4, .ref (pa 5)), (0, .ref mo), (1, .int (nI 5)), (2, .int y), (3, .int (nI j))]) hx hb dX4_page_25 hl (by decide) rfl (fun ls hl => ?_)
        refine lv_aload hx hb dX4_page_27 (lv_at hl 0 rfl) ?_
        refine lv_iload_n hx hb dX4_page_29 rfl (lv_at hl 3 rfl) ?_
        refine vp_callSi (va_Run.run (va_runV (As := [.int y]) (rest := []) ⟨hx, hb, hml, hown, hts⟩ (k_PR_hasPage l D ct (pa 5) (ta 5) (ka 5) (ga 5) R nt (F 5) (Qf 5) (Zf 5) y hnt hR (by have := hQ 5 (by decide); omega)) (cwV 1 hts (gw_V (fun _ h => h) w_260 w_149 w_150 w_27 wcX1_hasPage) rfl rfl rfl hvX1_hasPage ⟨Nat.le_of_ble_eq_true rfl, Nat.le_of_ble_eq_true rfl⟩) (tb_prV hP hK hZ hS [22, 23, 24, 25] rfl (ci := 1) (q0 := 0) rfl rfl) rfl rfl hl.1 rfl (lv_room (Nat.le_of_ble_eq_true rfl)) dX4_page_30 ⟨Nat.zero_le _, Nat.zero_le _⟩)) (fun r_30 hr_30 => ?_)
        obtain rfl : r_30 = bB (decide (tRng y (Qf 5))) := hr_30
        refine tb_if_neB (tgt := 38) hx hb dX4_page_33 (by decide) (fun c33 => ?_) (fun c33 => ?_)
        · exact absurd c33 hy
        · refine lv_iconst (v := (-1)) hx hb dX4_page_36 (by decide) ?_
          exact W.iret (v := (-1)) hx hb hr (fun t ht hW => ⟨_, rfl, rfl, ht⟩) (fun q h => by cases h) dX4_page_37
    · exfalso; omega

set_option maxHeartbeats 4000000 in
set_option maxRecDepth 100000 in
theorem k_page_len (l : Launch) (D : va_G) (ct : Nat → ClassId) (mo : Nat) (g : Nat) (pr : Nat) (hh : Nat) (rh : Nat) (aq : Nat) (ld : Nat) (lc : Nat) (nh : Nat) (ty : Nat) (R : Nat) (pa : Nat → Nat) (ta : Nat → Nat) (ka : Nat → Nat) (ga : Nat → Nat) (nt : Nat) (F : Nat → Nat → Nat) (Qf : Nat → Nat) (Zf : Nat → Nat → Nat) (o : Nat) (i : Nat) (hR : R ≤ 400) (hnt : nt ≤ R) (hFs : ∀ i, i < 6 → tS (F i) nt) (hFb : ∀ i j, F i j < 2 ^ 31) (hQ : ∀ i, i < 6 → Qf i ≤ nt) (hsm : ∀ i, i < 6 → tSum (Zf i) (Qf i) = nt) (hzb : ∀ i j, Zf i j ≤ 1000) (hzp : ∀ i, i < 6 → ∀ j, j < Qf i → 0 < Zf i j) (ho : o < 6) (hk : i < Qf o) : Met l yX4_page wsX4_page ({ frames := 2, cells := 0, slots := 0, locals := 42 }) (tb_Pr D ct [.ref mo, .int (nI o), .int (nI i), .int (nI 0)] [(mo, .inr (4, [.ref g, .ref pr, .ref hh, .ref rh, .ref aq, .ref ld, .int (nI lc), .ref nh, .ref ty])), (pr, .inl (ct 3, 6, .inr (.inr (.inr (.inr (sF pa)))))), (pa 0, .inr (1, [.ref (ta 0), .ref (ga 0), .int (nI (Qf 0))])), (ta 0, .inr (3, [.ref (ka 0), .int (nI nt)])), (ka 0, .inl (ct 0, R, .inl (aN (F 0)))), (ga 0, .inl (ct 0, R, .inl (aN (Zf 0)))), (pa 1, .inr (1, [.ref (ta 1), .ref (ga 1), .int (nI (Qf 1))])), (ta 1, .inr (3, [.ref (ka 1), .int (nI nt)])), (ka 1, .inl (ct 0, R, .inl (aN (F 1)))), (ga 1, .inl (ct 0, R, .inl (aN (Zf 1)))), (pa 2, .inr (1, [.ref (ta 2), .ref (ga 2), .int (nI (Qf 2))])), (ta 2, .inr (3, [.ref (ka 2), .int (nI nt)])), (ka 2, .inl (ct 0, R, .inl (aN (F 2)))), (ga 2, .inl (ct 0, R, .inl (aN (Zf 2)))), (pa 3, .inr (1, [.ref (ta 3), .ref (ga 3), .int (nI (Qf 3))])), (ta 3, .inr (3, [.ref (ka 3), .int (nI nt)])), (ka 3, .inl (ct 0, R, .inl (aN (F 3)))), (ga 3, .inl (ct 0, R, .inl (aN (Zf 3)))), (pa 4, .inr (1, [.ref (ta 4), .ref (ga 4), .int (nI (Qf 4))])), (ta 4, .inr (3, [.ref (ka 4), .int (nI nt)])), (ka 4, .inl (ct 0, R, .inl (aN (F 4)))), (ga 4, .inl (ct 0, R, .inl (aN (Zf 4)))), (pa 5, .inr (1, [.ref (ta 5), .ref (ga 5), .int (nI (Qf 5))])), (ta 5, .inr (3, [.ref (ka 5), .int (nI nt)])), (ka 5, .inl (ct 0, R, .inl (aN (F 5)))), (ga 5, .inl (ct 0, R, .inl (aN (Zf 5))))]) (vp_Si (fun r => r = nI (Zf o i))) 0 0 (fun _ => False) := by
  refine Met.ofW (cc := cX4_page) (maxL := 5) (ret := (some .int)) (by decide) rfl ?_
  intro p e s m args below meth c s₁ B hml hv
  obtain ⟨rfl, hP, hK, hZ⟩ := hv
  have hx := B.exec
  have hb := B.bytes
  have hr := B.returns
  have hts0 := atoms_spec (ws := wsX4_page) B.pre
  have hts : ∀ w9 ∈ aw, w9.before ([.ref mo, .int (nI o), .int (nI i), .int (nI 0)] : List Value).toArray s = true := fun w9 h9 => hts0 w9 (List.mem_cons_of_mem _ h9)
  have hown : s.vm.findClass RX4 = some m.cls := findClass_of_methodNamed B.named
  have hlocks := B.notSynchronized
  have hS : va_S (fun _ => False) s.heap s.heap [] := va_S.rf
  have hP : va_P D vwCl [(mo, .inr (4, [.ref g, .ref pr, .ref hh, .ref rh, .ref aq, .ref ld, .int (nI lc), .ref nh, .ref ty])), (pr, .inl (ct 3, 6, .inr (.inr (.inr (.inr (sF pa)))))), (pa 0, .inr (1, [.ref (ta 0), .ref (ga 0), .int (nI (Qf 0))])), (ta 0, .inr (3, [.ref (ka 0), .int (nI nt)])), (ka 0, .inl (ct 0, R, .inl (aN (F 0)))), (ga 0, .inl (ct 0, R, .inl (aN (Zf 0)))), (pa 1, .inr (1, [.ref (ta 1), .ref (ga 1), .int (nI (Qf 1))])), (ta 1, .inr (3, [.ref (ka 1), .int (nI nt)])), (ka 1, .inl (ct 0, R, .inl (aN (F 1)))), (ga 1, .inl (ct 0, R, .inl (aN (Zf 1)))), (pa 2, .inr (1, [.ref (ta 2), .ref (ga 2), .int (nI (Qf 2))])), (ta 2, .inr (3, [.ref (ka 2), .int (nI nt)])), (ka 2, .inl (ct 0, R, .inl (aN (F 2)))), (ga 2, .inl (ct 0, R, .inl (aN (Zf 2)))), (pa 3, .inr (1, [.ref (ta 3), .ref (ga 3), .int (nI (Qf 3))])), (ta 3, .inr (3, [.ref (ka 3), .int (nI nt)])), (ka 3, .inl (ct 0, R, .inl (aN (F 3)))), (ga 3, .inl (ct 0, R, .inl (aN (Zf 3)))), (pa 4, .inr (1, [.ref (ta 4), .ref (ga 4), .int (nI (Qf 4))])), (ta 4, .inr (3, [.ref (ka 4), .int (nI nt)])), (ka 4, .inl (ct 0, R, .inl (aN (F 4)))), (ga 4, .inl (ct 0, R, .inl (aN (Zf 4)))), (pa 5, .inr (1, [.ref (ta 5), .ref (ga 5), .int (nI (Qf 5))])), (ta 5, .inr (3, [.ref (ka 5), .int (nI nt)])), (ka 5, .inl (ct 0, R, .inl (aN (F 5)))), (ga 5, .inl (ct 0, R, .inl (aN (Zf 5))))] s.heap := hP
  have hl := lv_entry ([.ref mo, .int (nI o), .int (nI i), .int (nI 0)]) (n := 5) (Nat.le_of_ble_eq_true rfl)
  rw [lg_entry_eq]
  generalize (lg_sl ([.ref mo, .int (nI o), .int (nI i), .int (nI 0)]) ++ List.replicate (5 - (lg_sl ([.ref mo, .int (nI o), .int (nI i), .int (nI 0)])).length) Slot.unset).toArray = ls at hl ⊢
  have hl : lv_has ls 5 [(0, .ref mo), (1, .int (nI o)), (2, .int (nI i)), (3, .int (nI 0))] := hl
  refine lv_iload_n hx hb dX4_page_0 rfl (lv_at hl 1 rfl) ?_
  refine vp_callSi (va_Run.run (va_runS (As := [.int (nI o)]) (rest := []) ⟨hx, hb, hml, hown, hts⟩ (k_isOrder l D ct (nI o) ) (va_cwS 1 hts (gw_S (fun _ h => h) w_112 w_113 w_24 wcX4_isOrder) rfl rfl rfl hvX4_isOrder.2 ⟨Nat.le_of_ble_eq_true rfl, Nat.le_of_ble_eq_true rfl⟩) (tb_prS hP hK hZ hS [] rfl) rfl rfl hl.1 rfl (lv_room (Nat.le_of_ble_eq_true rfl)) dX4_page_1 ⟨Nat.zero_le _, Nat.zero_le _⟩)) (fun r_1 hr_1 => ?_)
  obtain rfl : r_1 = bB (decide (tRng (nI o) 6)) := hr_1
  refine tb_if_eqB (tgt := 16) hx hb dX4_page_4 (by decide) (fun c4 => ?_) (fun c4 => ?_)
  · exact absurd (tRng_nI ho (by decide)) c4
  · refine lv_iload_n hx hb dX4_page_7 rfl (lv_at hl 3 rfl) ?_
    refine tb_if_lt (tgt := 16) hx hb dX4_page_8 (by decide) (by omega) ?_
    refine lv_iload_n hx hb dX4_page_11 rfl (lv_at hl 3 rfl) ?_
    refine lv_iconst (v := nI 3) hx hb dX4_page_12 (by decide) ?_
    refine tb_icmp_le (tgt := 19) hx hb dX4_page_13 (by decide) (by omega) (by omega) (fun c13 => ?_) (fun c13 => ?_)
    · refine lv_aload_n hx hb dX4_page_19 rfl (lv_at hl 0 rfl) ?_
      refine va_get (D := D) (ci := 4) (v := .ref pr) (C := RX4) (T := TX4) (N := 9) hx hb hts inX4 hown hK hP 0 rfl rfl 1 (by decide) (hts _ w_88) (fun _ h9 => h9) rfl dX4_page_20 ?_
      refine lv_iload_n hx hb dX4_page_23 rfl (lv_at hl 1 rfl) ?_
      obtain rfl | rfl | rfl | rfl | rfl | rfl : o = 0 ∨ o = 1 ∨ o = 2 ∨ o = 3 ∨ o = 4 ∨ o = 5 := by omega
      · skip
        refine tb_aald hx hb hK hP 1 3 rfl rfl rfl (b := pa 0) (i := 0) (by omega) (by decide) rfl dX4_page_24 ?_
        refine lv_astore (lv' := [(4, .ref (pa 0)), (0, .ref mo), (1, .int (nI 0)), (2, .int (nI i)), (3, .int (nI 0))]) hx hb dX4_page_25 hl (by decide) rfl (fun ls hl => ?_)
        refine lv_aload hx hb dX4_page_27 (lv_at hl 0 rfl) ?_
        refine lv_iload_n hx hb dX4_page_29 rfl (lv_at hl 3 rfl) ?_
        refine vp_callSi (va_Run.run (va_runV (As := [.int (nI i)]) (rest := []) ⟨hx, hb, hml, hown, hts⟩ (k_PR_hasPage l D ct (pa 0) (ta 0) (ka 0) (ga 0) R nt (F 0) (Qf 0) (Zf 0) (nI i) hnt hR (by have := hQ 0 (by decide); omega)) (cwV 1 hts (gw_V (fun _ h => h) w_260 w_149 w_150 w_27 wcX1_hasPage) rfl rfl rfl hvX1_hasPage ⟨Nat.le_of_ble_eq_true rfl, Nat.le_of_ble_eq_true rfl⟩) (tb_prV hP hK hZ hS [2, 3, 4, 5] rfl (ci := 1) (q0 := 0) rfl rfl) rfl rfl hl.1 rfl (lv_room (Nat.le_of_ble_eq_true rfl)) dX4_page_30 ⟨Nat.zero_le _, Nat.zero_le _⟩)) (fun r_30 hr_30 => ?_)
        obtain rfl : r_30 = bB (decide (tRng (nI i) (Qf 0))) := hr_30
        refine tb_if_neB (tgt := 38) hx hb dX4_page_33 (by decide) (fun c33 => ?_) (fun c33 => ?_)
        · refine lv_iload_n hx hb dX4_page_38 rfl (lv_at hl 4 rfl) ?_
          refine tb_if_ne (tgt := 51) hx hb dX4_page_39 (by decide) (by omega) (fun c39 => ?_) (fun c39 => ?_)
          · exact absurd c39 (by decide)
          · refine lv_aload hx hb dX4_page_42 (lv_at hl 0 rfl) ?_
            refine lv_iload_n hx hb dX4_page_44 rfl (lv_at hl 3 rfl) ?_
            refine vp_callSi (va_Run.run (va_runV (As := [.int (nI i)]) (rest := []) ⟨hx, hb, hml, hown, hts⟩ (k_PR_lengthOf l D ct (pa 0) (ta 0) (ka 0) (ga 0) R nt (F 0) (Qf 0) (Zf 0) i hnt hR (by have := hQ 0 (by decide); omega) hk) (cwV 1 hts (gw_V (fun _ h => h) w_261 w_262 w_263 w_27 wcX1_lengthOf) rfl rfl rfl hvX1_lengthOf ⟨Nat.le_of_ble_eq_true rfl, Nat.le_of_ble_eq_true rfl⟩) (tb_prV hP hK hZ hS [2, 3, 4, 5] rfl (ci := 1) (q0 := 0) rfl rfl) rfl rfl hl.1 rfl (lv_room (Nat.le_of_ble_eq_true rfl)) dX4_page_45 ⟨Nat.zero_le _, Nat.zero_le _⟩)) (fun r_45 hr_45 => ?_)
            obtain rfl : r_45 = nI ((Zf 0) i) := hr_45
            refine lv_goto (tgt := 63) hx hb dX4_page_48 (by decide) ?_
            exact W.iret (v := nI ((Zf 0) i)) hx hb hr (fun t ht hW => ⟨_, rfl, rfl, ht⟩) (fun q h => by cases h) dX4_page_63
        · exact absurd (tRng_nI hk (by have := hQ _ ho; omega)) c33
      · skip
        refine tb_aald hx hb hK hP 1 3 rfl rfl rfl (b := pa 1) (i := 1) (by omega) (by decide) rfl dX4_page_24 ?_
        refine lv_astore (lv' := [(4, .ref (pa 1)), (0, .ref mo), (1, .int (nI 1)), (2, .int (nI i)), (3, .int (nI 0))]) hx hb dX4_page_25 hl (by decide) rfl (fun ls hl => ?_)
        refine lv_aload hx hb dX4_page_27 (lv_at hl 0 rfl) ?_
        refine lv_iload_n hx hb dX4_page_29 rfl (lv_at hl 3 rfl) ?_
        refine vp_callSi (va_Run.run (va_runV (As := [.int (nI i)]) (rest := []) ⟨hx, hb, hml, hown, hts⟩ (k_PR_hasPage l D ct (pa 1) (ta 1) (ka 1) (ga 1) R nt (F 1) (Qf 1) (Zf 1) (nI i) hnt hR (by have := hQ 1 (by decide); omega)) (cwV 1 hts (gw_V (fun _ h => h) w_260 w_149 w_150 w_27 wcX1_hasPage) rfl rfl rfl hvX1_hasPage ⟨Nat.le_of_ble_eq_true rfl, Nat.le_of_ble_eq_true rfl⟩) (tb_prV hP hK hZ hS [6, 7, 8, 9] rfl (ci := 1) (q0 := 0) rfl rfl) rfl rfl hl.1 rfl (lv_room (Nat.le_of_ble_eq_true rfl)) dX4_page_30 ⟨Nat.zero_le _, Nat.zero_le _⟩)) (fun r_30 hr_30 => ?_)
        obtain rfl : r_30 = bB (decide (tRng (nI i) (Qf 1))) := hr_30
        refine tb_if_neB (tgt := 38) hx hb dX4_page_33 (by decide) (fun c33 => ?_) (fun c33 => ?_)
        · refine lv_iload_n hx hb dX4_page_38 rfl (lv_at hl 4 rfl) ?_
          refine tb_if_ne (tgt := 51) hx hb dX4_page_39 (by decide) (by omega) (fun c39 => ?_) (fun c39 => ?_)
          · exact absurd c39 (by decide)
          · refine lv_aload hx hb dX4_page_42 (lv_at hl 0 rfl) ?_
            refine lv_iload_n hx hb dX4_page_44 rfl (lv_at hl 3 rfl) ?_
            refine vp_callSi (va_Run.run (va_runV (As := [.int (nI i)]) (rest := []) ⟨hx, hb, hml, hown, hts⟩ (k_PR_lengthOf l D ct (pa 1) (ta 1) (ka 1) (ga 1) R nt (F 1) (Qf 1) (Zf 1) i hnt hR (by have := hQ 1 (by decide); omega) hk) (cwV 1 hts (gw_V (fun _ h => h) w_261 w_262 w_263 w_27 wcX1_lengthOf) rfl rfl rfl hvX1_lengthOf ⟨Nat.le_of_ble_eq_true rfl, Nat.le_of_ble_eq_true rfl⟩) (tb_prV hP hK hZ hS [6, 7, 8, 9] rfl (ci := 1) (q0 := 0) rfl rfl) rfl rfl hl.1 rfl (lv_room (Nat.le_of_ble_eq_true rfl)) dX4_page_45 ⟨Nat.zero_le _, Nat.zero_le _⟩)) (fun r_45 hr_45 => ?_)
            obtain rfl : r_45 = nI ((Zf 1) i) := hr_45
            refine lv_goto (tgt := 63) hx hb dX4_page_48 (by decide) ?_
            exact W.iret (v := nI ((Zf 1) i)) hx hb hr (fun t ht hW => ⟨_, rfl, rfl, ht⟩) (fun q h => by cases h) dX4_page_63
        · exact absurd (tRng_nI hk (by have := hQ _ ho; omega)) c33
      · skip
        refine tb_aald hx hb hK hP 1 3 rfl rfl rfl (b := pa 2) (i := 2) (by omega) (by decide) rfl dX4_page_24 ?_
        refine lv_astore (lv' := [(4, .ref (pa 2)), (0, .ref mo), (1, .int (nI 2)), (2, .int (nI i)), (3, .int (nI 0))]) hx hb dX4_page_25 hl (by decide) rfl (fun ls hl => ?_)
        refine lv_aload hx hb dX4_page_27 (lv_at hl 0 rfl) ?_
        refine lv_iload_n hx hb dX4_page_29 rfl (lv_at hl 3 rfl) ?_
        refine vp_callSi (va_Run.run (va_runV (As := [.int (nI i)]) (rest := []) ⟨hx, hb, hml, hown, hts⟩ (k_PR_hasPage l D ct (pa 2) (ta 2) (ka 2) (ga 2) R nt (F 2) (Qf 2) (Zf 2) (nI i) hnt hR (by have := hQ 2 (by decide); omega)) (cwV 1 hts (gw_V (fun _ h => h) w_260 w_149 w_150 w_27 wcX1_hasPage) rfl rfl rfl hvX1_hasPage ⟨Nat.le_of_ble_eq_true rfl, Nat.le_of_ble_eq_true rfl⟩) (tb_prV hP hK hZ hS [10, 11, 12, 13] rfl (ci := 1) (q0 := 0) rfl rfl) rfl rfl hl.1 rfl (lv_room (Nat.le_of_ble_eq_true rfl)) dX4_page_30 ⟨Nat.zero_le _, Nat.zero_le _⟩)) (fun r_30 hr_30 => ?_)
        obtain rfl : r_30 = bB (decide (tRng (nI i) (Qf 2))) := hr_30
        refine tb_if_neB (tgt := 38) hx hb dX4_page_33 (by decide) (fun c33 => ?_) (fun c33 => ?_)
        · refine lv_iload_n hx hb dX4_page_38 rfl (lv_at hl 4 rfl) ?_
          refine tb_if_ne (tgt := 51) hx hb dX4_page_39 (by decide) (by omega) (fun c39 => ?_) (fun c39 => ?_)
          · exact absurd c39 (by decide)
          · refine lv_aload hx hb dX4_page_42 (lv_at hl 0 rfl) ?_
            refine lv_iload_n hx hb dX4_page_44 rfl (lv_at hl 3 rfl) ?_
            refine vp_callSi (va_Run.run (va_runV (As := [.int (nI i)]) (rest := []) ⟨hx, hb, hml, hown, hts⟩ (k_PR_lengthOf l D ct (pa 2) (ta 2) (ka 2) (ga 2) R nt (F 2) (Qf 2) (Zf 2) i hnt hR (by have := hQ 2 (by decide); omega) hk) (cwV 1 hts (gw_V (fun _ h => h) w_261 w_262 w_263 w_27 wcX1_lengthOf) rfl rfl rfl hvX1_lengthOf ⟨Nat.le_of_ble_eq_true rfl, Nat.le_of_ble_eq_true rfl⟩) (tb_prV hP hK hZ hS [10, 11, 12, 13] rfl (ci := 1) (q0 := 0) rfl rfl) rfl rfl hl.1 rfl (lv_room (Nat.le_of_ble_eq_true rfl)) dX4_page_45 ⟨Nat.zero_le _, Nat.zero_le _⟩)) (fun r_45 hr_45 => ?_)
            obtain rfl : r_45 = nI ((Zf 2) i) := hr_45
            refine lv_goto (tgt := 63) hx hb dX4_page_48 (by decide) ?_
            exact W.iret (v := nI ((Zf 2) i)) hx hb hr (fun t ht hW => ⟨_, rfl, rfl, ht⟩) (fun q h => by cases h) dX4_page_63
        · exact absurd (tRng_nI hk (by have := hQ _ ho; omega)) c33
      · skip
        refine tb_aald hx hb hK hP 1 3 rfl rfl rfl (b := pa 3) (i := 3) (by omega) (by decide) rfl dX4_page_24 ?_
        refine lv_astore (lv' := [(4, .ref (pa 3)), (0, .ref mo), (1, .int (nI 3)), (2, .int (nI i)), (3, .int (nI 0))]) hx hb dX4_page_25 hl (by decide) rfl (fun ls hl => ?_)
        refine lv_aload hx hb dX4_page_27 (lv_at hl 0 rfl) ?_
        refine lv_iload_n hx hb dX4_page_29 rfl (lv_at hl 3 rfl) ?_
        refine vp_callSi (va_Run.run (va_runV (As := [.int (nI i)]) (rest := []) ⟨hx, hb, hml, hown, hts⟩ (k_PR_hasPage l D ct (pa 3) (ta 3) (ka 3) (ga 3) R nt (F 3) (Qf 3) (Zf 3) (nI i) hnt hR (by have := hQ 3 (by decide); omega)) (cwV 1 hts (gw_V (fun _ h => h) w_260 w_149 w_150 w_27 wcX1_hasPage) rfl rfl rfl hvX1_hasPage ⟨Nat.le_of_ble_eq_true rfl, Nat.le_of_ble_eq_true rfl⟩) (tb_prV hP hK hZ hS [14, 15, 16, 17] rfl (ci := 1) (q0 := 0) rfl rfl) rfl rfl hl.1 rfl (lv_room (Nat.le_of_ble_eq_true rfl)) dX4_page_30 ⟨Nat.zero_le _, Nat.zero_le _⟩)) (fun r_30 hr_30 => ?_)
        obtain rfl : r_30 = bB (decide (tRng (nI i) (Qf 3))) := hr_30
        refine tb_if_neB (tgt := 38) hx hb dX4_page_33 (by decide) (fun c33 => ?_) (fun c33 => ?_)
        · refine lv_iload_n hx hb dX4_page_38 rfl (lv_at hl 4 rfl) ?_
          refine tb_if_ne (tgt := 51) hx hb dX4_page_39 (by decide) (by omega) (fun c39 => ?_) (fun c39 => ?_)
          · exact absurd c39 (by decide)
          · refine lv_aload hx hb dX4_page_42 (lv_at hl 0 rfl) ?_
            refine lv_iload_n hx hb dX4_page_44 rfl (lv_at hl 3 rfl) ?_
            refine vp_callSi (va_Run.run (va_runV (As := [.int (nI i)]) (rest := []) ⟨hx, hb, hml, hown, hts⟩ (k_PR_lengthOf l D ct (pa 3) (ta 3) (ka 3) (ga 3) R nt (F 3) (Qf 3) (Zf 3) i hnt hR (by have := hQ 3 (by decide); omega) hk) (cwV 1 hts (gw_V (fun _ h => h) w_261 w_262 w_263 w_27 wcX1_lengthOf) rfl rfl rfl hvX1_lengthOf ⟨Nat.le_of_ble_eq_true rfl, Nat.le_of_ble_eq_true rfl⟩) (tb_prV hP hK hZ hS [14, 15, 16, 17] rfl (ci := 1) (q0 := 0) rfl rfl) rfl rfl hl.1 rfl (lv_room (Nat.le_of_ble_eq_true rfl)) dX4_page_45 ⟨Nat.zero_le _, Nat.zero_le _⟩)) (fun r_45 hr_45 => ?_)
            obtain rfl : r_45 = nI ((Zf 3) i) := hr_45
            refine lv_goto (tgt := 63) hx hb dX4_page_48 (by decide) ?_
            exact W.iret (v := nI ((Zf 3) i)) hx hb hr (fun t ht hW => ⟨_, rfl, rfl, ht⟩) (fun q h => by cases h) dX4_page_63
        · exact absurd (tRng_nI hk (by have := hQ _ ho; omega)) c33
      · skip
        refine tb_aald hx hb hK hP 1 3 rfl rfl rfl (b := pa 4) (i := 4) (by omega) (by decide) rfl dX4_page_24 ?_
        refine lv_astore (lv' := [(4, .ref (pa 4)), (0, .ref mo), (1, .int (nI 4)), (2, .int (nI i)), (3, .int (nI 0))]) hx hb dX4_page_25 hl (by decide) rfl (fun ls hl => ?_)
        refine lv_aload hx hb dX4_page_27 (lv_at hl 0 rfl) ?_
        refine lv_iload_n hx hb dX4_page_29 rfl (lv_at hl 3 rfl) ?_
        refine vp_callSi (va_Run.run (va_runV (As := [.int (nI i)]) (rest := []) ⟨hx, hb, hml, hown, hts⟩ (k_PR_hasPage l D ct (pa 4) (ta 4) (ka 4) (ga 4) R nt (F 4) (Qf 4) (Zf 4) (nI i) hnt hR (by have := hQ 4 (by decide); omega)) (cwV 1 hts (gw_V (fun _ h => h) w_260 w_149 w_150 w_27 wcX1_hasPage) rfl rfl rfl hvX1_hasPage ⟨Nat.le_of_ble_eq_true rfl, Nat.le_of_ble_eq_true rfl⟩) (tb_prV hP hK hZ hS [18, 19, 20, 21] rfl (ci := 1) (q0 := 0) rfl rfl) rfl rfl hl.1 rfl (lv_room (Nat.le_of_ble_eq_true rfl)) dX4_page_30 ⟨Nat.zero_le _, Nat.zero_le _⟩)) (fun r_30 hr_30 => ?_)
        obtain rfl : r_30 = bB (decide (tRng (nI i) (Qf 4))) := hr_30
        refine tb_if_neB (tgt := 38) hx hb dX4_page_33 (by decide) (fun c33 => ?_) (fun c33 => ?_)
        · refine lv_iload_n hx hb dX4_page_38 rfl (lv_at hl 4 rfl) ?_
          refine tb_if_ne (tgt := 51) hx hb dX4_page_39 (by decide) (by omega) (fun c39 => ?_) (fun c39 => ?_)
          · exact absurd c39 (by decide)
          · refine lv_aload hx hb dX4_page_42 (lv_at hl 0 rfl) ?_
            refine lv_iload_n hx hb dX4_page_44 rfl (lv_at hl 3 rfl) ?_
            refine vp_callSi (va_Run.run (va_runV (As := [.int (nI i)]) (rest := []) ⟨hx, hb, hml, hown, hts⟩ (k_PR_lengthOf l D ct (pa 4) (ta 4) (ka 4) (ga 4) R nt (F 4) (Qf 4) (Zf 4) i hnt hR (by have := hQ 4 (by decide); omega) hk) (cwV 1 hts (gw_V (fun _ h => h) w_261 w_262 w_263 w_27 wcX1_lengthOf) rfl rfl rfl hvX1_lengthOf ⟨Nat.le_of_ble_eq_true rfl, Nat.le_of_ble_eq_true rfl⟩) (tb_prV hP hK hZ hS [18, 19, 20, 21] rfl (ci := 1) (q0 := 0) rfl rfl) rfl rfl hl.1 rfl (lv_room (Nat.le_of_ble_eq_true rfl)) dX4_page_45 ⟨Nat.zero_le _, Nat.zero_le _⟩)) (fun r_45 hr_45 => ?_)
            obtain rfl : r_45 = nI ((Zf 4) i) := hr_45
            refine lv_goto (tgt := 63) hx hb dX4_page_48 (by decide) ?_
            exact W.iret (v := nI ((Zf 4) i)) hx hb hr (fun t ht hW => ⟨_, rfl, rfl, ht⟩) (fun q h => by cases h) dX4_page_63
        · exact absurd (tRng_nI hk (by have := hQ _ ho; omega)) c33
      · skip
        refine tb_aald hx hb hK hP 1 3 rfl rfl rfl (b := pa 5) (i := 5) (by omega) (by decide) rfl dX4_page_24 ?_
        refine lv_astore (lv' := [(4, .ref (pa 5)), (0, .ref mo), (1, .int (nI 5)), (2, .int (nI i)), (3, .int (nI 0))]) hx hb dX4_page_25 hl (by decide) rfl (fun ls hl => ?_)
        refine lv_aload hx hb dX4_page_27 (lv_at hl 0 rfl) ?_
        refine lv_iload_n hx hb dX4_page_29 rfl (lv_at hl 3 rfl) ?_
        refine vp_callSi (va_Run.run (va_runV (As := [.int (nI i)]) (rest := []) ⟨hx, hb, hml, hown, hts⟩ (k_PR_hasPage l D ct (pa 5) (ta 5) (ka 5) (ga 5) R nt (F 5) (Qf 5) (Zf 5) (nI i) hnt hR (by have := hQ 5 (by decide); omega)) (cwV 1 hts (gw_V (fun _ h => h) w_260 w_149 w_150 w_27 wcX1_hasPage) rfl rfl rfl hvX1_hasPage ⟨Nat.le_of_ble_eq_true rfl, Nat.le_of_ble_eq_true rfl⟩) (tb_prV hP hK hZ hS [22, 23, 24, 25] rfl (ci := 1) (q0 := 0) rfl rfl) rfl rfl hl.1 rfl (lv_room (Nat.le_of_ble_eq_true rfl)) dX4_page_30 ⟨Nat.zero_le _, Nat.zero_le _⟩)) (fun r_30 hr_30 => ?_)
        obtain rfl : r_30 = bB (decide (tRng (nI i) (Qf 5))) := hr_30
        refine tb_if_neB (tgt := 38) hx hb dX4_page_33 (by decide) (fun c33 => ?_) (fun c33 => ?_)
        · refine lv_iload_n hx hb dX4_page_38 rfl (lv_at hl 4 rfl) ?_
          refine tb_if_ne (tgt := 51) hx hb dX4_page_39 (by decide) (by omega) (fun c39 => ?_) (fun c39 => ?_)
          · exact absurd c39 (by decide)
          · refine lv_aload hx hb dX4_page_42 (lv_at hl 0 rfl) ?_
            refine lv_iload_n hx hb dX4_page_44 rfl (lv_at hl 3 rfl) ?_
            refine vp_callSi (va_Run.run (va_runV (As := [.int (nI i)]) (rest := []) ⟨hx, hb, hml, hown, hts⟩ (k_PR_lengthOf l D ct (pa 5) (ta 5) (ka 5) (ga 5) R nt (F 5) (Qf 5) (Zf 5) i hnt hR (by have := hQ 5 (by decide); omega) hk) (cwV 1 hts (gw_V (fun _ h => h) w_261 w_262 w_263 w_27 wcX1_lengthOf) rfl rfl rfl hvX1_lengthOf ⟨Nat.le_of_ble_eq_true rfl, Nat.le_of_ble_eq_true rfl⟩) (tb_prV hP hK hZ hS [22, 23, 24, 25] rfl (ci := 1) (q0 := 0) rfl rfl) rfl rfl hl.1 rfl (lv_room (Nat.le_of_ble_eq_true rfl)) dX4_page_45 ⟨Nat.zero_le _, Nat.zero_le _⟩)) (fun r_45 hr_45 => ?_)
            obtain rfl : r_45 = nI ((Zf 5) i) := hr_45
            refine lv_goto (tgt := 63) hx hb dX4_page_48 (by decide) ?_
            exact W.iret (v := nI ((Zf 5) i)) hx hb hr (fun t ht hW => ⟨_, rfl, rfl, ht⟩) (fun q h => by cases h) dX4_page_63
        · exact absurd (tRng_nI hk (by have := hQ _ ho; omega)) c33
    · exfalso; omega

set_option maxHeartbeats 4000000 in
set_option maxRecDepth 100000 in
theorem k_page_term (l : Launch) (D : va_G) (ct : Nat → ClassId) (mo : Nat) (g : Nat) (pr : Nat) (hh : Nat) (rh : Nat) (aq : Nat) (ld : Nat) (lc : Nat) (nh : Nat) (ty : Nat) (R : Nat) (pa : Nat → Nat) (ta : Nat → Nat) (ka : Nat → Nat) (ga : Nat → Nat) (nt : Nat) (F : Nat → Nat → Nat) (Qf : Nat → Nat) (Zf : Nat → Nat → Nat) (o : Nat) (i : Nat) (j : Nat) (hR : R ≤ 400) (hnt : nt ≤ R) (hFs : ∀ i, i < 6 → tS (F i) nt) (hFb : ∀ i j, F i j < 2 ^ 31) (hQ : ∀ i, i < 6 → Qf i ≤ nt) (hsm : ∀ i, i < 6 → tSum (Zf i) (Qf i) = nt) (hzb : ∀ i j, Zf i j ≤ 1000) (hzp : ∀ i, i < 6 → ∀ j, j < Qf i → 0 < Zf i j) (ho : o < 6) (hk : i < Qf o) (hj : 0 < j) (hj2 : j < 4) : Met l yX4_page wsX4_page ({ frames := 2, cells := 0, slots := 0, locals := 44 }) (tb_Pr D ct [.ref mo, .int (nI o), .int (nI i), .int (nI j)] [(mo, .inr (4, [.ref g, .ref pr, .ref hh, .ref rh, .ref aq, .ref ld, .int (nI lc), .ref nh, .ref ty])), (pr, .inl (ct 3, 6, .inr (.inr (.inr (.inr (sF pa)))))), (pa 0, .inr (1, [.ref (ta 0), .ref (ga 0), .int (nI (Qf 0))])), (ta 0, .inr (3, [.ref (ka 0), .int (nI nt)])), (ka 0, .inl (ct 0, R, .inl (aN (F 0)))), (ga 0, .inl (ct 0, R, .inl (aN (Zf 0)))), (pa 1, .inr (1, [.ref (ta 1), .ref (ga 1), .int (nI (Qf 1))])), (ta 1, .inr (3, [.ref (ka 1), .int (nI nt)])), (ka 1, .inl (ct 0, R, .inl (aN (F 1)))), (ga 1, .inl (ct 0, R, .inl (aN (Zf 1)))), (pa 2, .inr (1, [.ref (ta 2), .ref (ga 2), .int (nI (Qf 2))])), (ta 2, .inr (3, [.ref (ka 2), .int (nI nt)])), (ka 2, .inl (ct 0, R, .inl (aN (F 2)))), (ga 2, .inl (ct 0, R, .inl (aN (Zf 2)))), (pa 3, .inr (1, [.ref (ta 3), .ref (ga 3), .int (nI (Qf 3))])), (ta 3, .inr (3, [.ref (ka 3), .int (nI nt)])), (ka 3, .inl (ct 0, R, .inl (aN (F 3)))), (ga 3, .inl (ct 0, R, .inl (aN (Zf 3)))), (pa 4, .inr (1, [.ref (ta 4), .ref (ga 4), .int (nI (Qf 4))])), (ta 4, .inr (3, [.ref (ka 4), .int (nI nt)])), (ka 4, .inl (ct 0, R, .inl (aN (F 4)))), (ga 4, .inl (ct 0, R, .inl (aN (Zf 4)))), (pa 5, .inr (1, [.ref (ta 5), .ref (ga 5), .int (nI (Qf 5))])), (ta 5, .inr (3, [.ref (ka 5), .int (nI nt)])), (ka 5, .inl (ct 0, R, .inl (aN (F 5)))), (ga 5, .inl (ct 0, R, .inl (aN (Zf 5))))]) (vp_Si (fun r => r = nI (tTerm (F o (tSum (Zf o) i)) (j - 1)))) 0 0 (fun _ => False) := by
  refine Met.ofW (cc := cX4_page) (maxL := 5) (ret := (some .int)) (by decide) rfl ?_
  intro p e s m args below meth c s₁ B hml hv
  obtain ⟨rfl, hP, hK, hZ⟩ := hv
  have hx := B.exec
  have hb := B.bytes
  have hr := B.returns
  have hts0 := atoms_spec (ws := wsX4_page) B.pre
  have hts : ∀ w9 ∈ aw, w9.before ([.ref mo, .int (nI o), .int (nI i), .int (nI j)] : List Value).toArray s = true := fun w9 h9 => hts0 w9 (List.mem_cons_of_mem _ h9)
  have hown : s.vm.findClass RX4 = some m.cls := findClass_of_methodNamed B.named
  have hlocks := B.notSynchronized
  have hS : va_S (fun _ => False) s.heap s.heap [] := va_S.rf
  have hP : va_P D vwCl [(mo, .inr (4, [.ref g, .ref pr, .ref hh, .ref rh, .ref aq, .ref ld, .int (nI lc), .ref nh, .ref ty])), (pr, .inl (ct 3, 6, .inr (.inr (.inr (.inr (sF pa)))))), (pa 0, .inr (1, [.ref (ta 0), .ref (ga 0), .int (nI (Qf 0))])), (ta 0, .inr (3, [.ref (ka 0), .int (nI nt)])), (ka 0, .inl (ct 0, R, .inl (aN (F 0)))), (ga 0, .inl (ct 0, R, .inl (aN (Zf 0)))), (pa 1, .inr (1, [.ref (ta 1), .ref (ga 1), .int (nI (Qf 1))])), (ta 1, .inr (3, [.ref (ka 1), .int (nI nt)])), (ka 1, .inl (ct 0, R, .inl (aN (F 1)))), (ga 1, .inl (ct 0, R, .inl (aN (Zf 1)))), (pa 2, .inr (1, [.ref (ta 2), .ref (ga 2), .int (nI (Qf 2))])), (ta 2, .inr (3, [.ref (ka 2), .int (nI nt)])), (ka 2, .inl (ct 0, R, .inl (aN (F 2)))), (ga 2, .inl (ct 0, R, .inl (aN (Zf 2)))), (pa 3, .inr (1, [.ref (ta 3), .ref (ga 3), .int (nI (Qf 3))])), (ta 3, .inr (3, [.ref (ka 3), .int (nI nt)])), (ka 3, .inl (ct 0, R, .inl (aN (F 3)))), (ga 3, .inl (ct 0, R, .inl (aN (Zf 3)))), (pa 4, .inr (1, [.ref (ta 4), .ref (ga 4), .int (nI (Qf 4))])), (ta 4, .inr (3, [.ref (ka 4), .int (nI nt)])), (ka 4, .inl (ct 0, R, .inl (aN (F 4)))), (ga 4, .inl (ct 0, R, .inl (aN (Zf 4)))), (pa 5, .inr (1, [.ref (ta 5), .ref (ga 5), .int (nI (Qf 5))])), (ta 5, .inr (3, [.ref (ka 5), .int (nI nt)])), (ka 5, .inl (ct 0, R, .inl (aN (F 5)))), (ga 5, .inl (ct 0, R, .inl (aN (Zf 5))))] s.heap := hP
  have hl := lv_entry ([.ref mo, .int (nI o), .int (nI i), .int (nI j)]) (n := 5) (Nat.le_of_ble_eq_true rfl)
  rw [lg_entry_eq]
  generalize (lg_sl ([.ref mo, .int (nI o), .int (nI i), .int (nI j)]) ++ List.replicate (5 - (lg_sl ([.ref mo, .int (nI o), .int (nI i), .int (nI j)])).length) Slot.unset).toArray = ls at hl ⊢
  have hl : lv_has ls 5 [(0, .ref mo), (1, .int (nI o)), (2, .int (nI i)), (3, .int (nI j))] := hl
  refine lv_iload_n hx hb dX4_page_0 rfl (lv_at hl 1 rfl) ?_
  refine vp_callSi (va_Run.run (va_runS (As := [.int (nI o)]) (rest := []) ⟨hx, hb, hml, hown, hts⟩ (k_isOrder l D ct (nI o) ) (va_cwS 1 hts (gw_S (fun _ h => h) w_112 w_113 w_24 wcX4_isOrder) rfl rfl rfl hvX4_isOrder.2 ⟨Nat.le_of_ble_eq_true rfl, Nat.le_of_ble_eq_true rfl⟩) (tb_prS hP hK hZ hS [] rfl) rfl rfl hl.1 rfl (lv_room (Nat.le_of_ble_eq_true rfl)) dX4_page_1 ⟨Nat.zero_le _, Nat.zero_le _⟩)) (fun r_1 hr_1 => ?_)
  obtain rfl : r_1 = bB (decide (tRng (nI o) 6)) := hr_1
  refine tb_if_eqB (tgt := 16) hx hb dX4_page_4 (by decide) (fun c4 => ?_) (fun c4 => ?_)
  · exact absurd (tRng_nI ho (by decide)) c4
  · refine lv_iload_n hx hb dX4_page_7 rfl (lv_at hl 3 rfl) ?_
    refine tb_if_lt (tgt := 16) hx hb dX4_page_8 (by decide) (by omega) ?_
    refine lv_iload_n hx hb dX4_page_11 rfl (lv_at hl 3 rfl) ?_
    refine lv_iconst (v := nI 3) hx hb dX4_page_12 (by decide) ?_
    refine tb_icmp_le (tgt := 19) hx hb dX4_page_13 (by decide) (by omega) (by omega) (fun c13 => ?_) (fun c13 => ?_)
    · refine lv_aload_n hx hb dX4_page_19 rfl (lv_at hl 0 rfl) ?_
      refine va_get (D := D) (ci := 4) (v := .ref pr) (C := RX4) (T := TX4) (N := 9) hx hb hts inX4 hown hK hP 0 rfl rfl 1 (by decide) (hts _ w_88) (fun _ h9 => h9) rfl dX4_page_20 ?_
      refine lv_iload_n hx hb dX4_page_23 rfl (lv_at hl 1 rfl) ?_
      obtain rfl | rfl | rfl | rfl | rfl | rfl : o = 0 ∨ o = 1 ∨ o = 2 ∨ o = 3 ∨ o = 4 ∨ o = 5 := by omega
      · skip
        refine tb_aald hx hb hK hP 1 3 rfl rfl rfl (b := pa 0) (i := 0) (by omega) (by decide) rfl dX4_page_24 ?_
        refine lv_astore (lv' := [(4, .ref (pa 0)), (0, .ref mo), (1, .int (nI 0)), (2, .int (nI i)), (3, .int (nI j))]) hx hb dX4_page_25 hl (by decide) rfl (fun ls hl => ?_)
        refine lv_aload hx hb dX4_page_27 (lv_at hl 0 rfl) ?_
        refine lv_iload_n hx hb dX4_page_29 rfl (lv_at hl 3 rfl) ?_
        refine vp_callSi (va_Run.run (va_runV (As := [.int (nI i)]) (rest := []) ⟨hx, hb, hml, hown, hts⟩ (k_PR_hasPage l D ct (pa 0) (ta 0) (ka 0) (ga 0) R nt (F 0) (Qf 0) (Zf 0) (nI i) hnt hR (by have := hQ 0 (by decide); omega)) (cwV 1 hts (gw_V (fun _ h => h) w_260 w_149 w_150 w_27 wcX1_hasPage) rfl rfl rfl hvX1_hasPage ⟨Nat.le_of_ble_eq_true rfl, Nat.le_of_ble_eq_true rfl⟩) (tb_prV hP hK hZ hS [2, 3, 4, 5] rfl (ci := 1) (q0 := 0) rfl rfl) rfl rfl hl.1 rfl (lv_room (Nat.le_of_ble_eq_true rfl)) dX4_page_30 ⟨Nat.zero_le _, Nat.zero_le _⟩)) (fun r_30 hr_30 => ?_)
        obtain rfl : r_30 = bB (decide (tRng (nI i) (Qf 0))) := hr_30
        refine tb_if_neB (tgt := 38) hx hb dX4_page_33 (by decide) (fun c33 => ?_) (fun c33 => ?_)
        · refine lv_iload_n hx hb dX4_page_38 rfl (lv_at hl 4 rfl) ?_
          refine tb_if_ne (tgt := 51) hx hb dX4_page_39 (by decide) (by omega) (fun c39 => ?_) (fun c39 => ?_)
          · refine lv_aload hx hb dX4_page_51 (lv_at hl 0 rfl) ?_
            refine lv_iload_n hx hb dX4_page_53 rfl (lv_at hl 3 rfl) ?_
            refine vp_callSi (va_Run.run (va_runV (As := [.int (nI i)]) (rest := []) ⟨hx, hb, hml, hown, hts⟩ (k_PR_firstKey l D ct (pa 0) (ta 0) (ka 0) (ga 0) R nt (F 0) (Qf 0) (Zf 0) i hnt hR (by have := hQ 0 (by decide); omega) hk (hsm 0 (by decide)) (hzp 0 (by decide))) (cwV 1 hts (gw_V (fun _ h => h) w_264 w_265 w_266 w_27 wcX1_firstKey) rfl rfl rfl hvX1_firstKey ⟨Nat.le_of_ble_eq_true rfl, Nat.le_of_ble_eq_true rfl⟩) (tb_prV hP hK hZ hS [2, 3, 4, 5] rfl (ci := 1) (q0 := 0) rfl rfl) rfl rfl hl.1 rfl (lv_room (Nat.le_of_ble_eq_true rfl)) dX4_page_54 ⟨Nat.zero_le _, Nat.zero_le _⟩)) (fun r_54 hr_54 => ?_)
            obtain rfl : r_54 = nI ((F 0) (tSum (Zf 0) i)) := hr_54
            refine lv_iload_n hx hb dX4_page_57 rfl (lv_at hl 4 rfl) ?_
            refine lv_iconst (v := nI 1) hx hb dX4_page_58 (by decide) ?_
            refine tb_isub hx hb dX4_page_59 (by omega) ?_
            refine vp_callSi (va_Run.run (va_runS (As := [.int (nI ((F 0) (tSum (Zf 0) i))), .int (nI (j - 1))]) (rest := []) ⟨hx, hb, hml, hown, hts⟩ (k_termOfKey l D ct ((F 0) (tSum (Zf 0) i)) (j - 1) (hFb _ _) (by omega)) (va_cwS 2 hts (gw_S (fun _ h => h) w_208 w_209 w_24 wcX4_termOfKey) rfl rfl rfl hvX4_termOfKey.2 ⟨Nat.le_of_ble_eq_true rfl, Nat.le_of_ble_eq_true rfl⟩) (tb_prS hP hK hZ hS [] rfl) rfl rfl hl.1 rfl (lv_room (Nat.le_of_ble_eq_true rfl)) dX4_page_60 ⟨Nat.zero_le _, Nat.zero_le _⟩)) (fun r_60 hr_60 => ?_)
            obtain rfl : r_60 = nI (tTerm ((F 0) (tSum (Zf 0) i)) (j - 1)) := hr_60
            exact W.iret (v := nI (tTerm ((F 0) (tSum (Zf 0) i)) (j - 1))) hx hb hr (fun t ht hW => ⟨_, rfl, rfl, ht⟩) (fun q h => by cases h) dX4_page_63
          · exfalso; omega
        · exact absurd (tRng_nI hk (by have := hQ _ ho; omega)) c33
      · skip
        refine tb_aald hx hb hK hP 1 3 rfl rfl rfl (b := pa 1) (i := 1) (by omega) (by decide) rfl dX4_page_24 ?_
        refine lv_astore (lv' := [(4, .ref (pa 1)), (0, .ref mo), (1, .int (nI 1)), (2, .int (nI i)), (3, .int (nI j))]) hx hb dX4_page_25 hl (by decide) rfl (fun ls hl => ?_)
        refine lv_aload hx hb dX4_page_27 (lv_at hl 0 rfl) ?_
        refine lv_iload_n hx hb dX4_page_29 rfl (lv_at hl 3 rfl) ?_
        refine vp_callSi (va_Run.run (va_runV (As := [.int (nI i)]) (rest := []) ⟨hx, hb, hml, hown, hts⟩ (k_PR_hasPage l D ct (pa 1) (ta 1) (ka 1) (ga 1) R nt (F 1) (Qf 1) (Zf 1) (nI i) hnt hR (by have := hQ 1 (by decide); omega)) (cwV 1 hts (gw_V (fun _ h => h) w_260 w_149 w_150 w_27 wcX1_hasPage) rfl rfl rfl hvX1_hasPage ⟨Nat.le_of_ble_eq_true rfl, Nat.le_of_ble_eq_true rfl⟩) (tb_prV hP hK hZ hS [6, 7, 8, 9] rfl (ci := 1) (q0 := 0) rfl rfl) rfl rfl hl.1 rfl (lv_room (Nat.le_of_ble_eq_true rfl)) dX4_page_30 ⟨Nat.zero_le _, Nat.zero_le _⟩)) (fun r_30 hr_30 => ?_)
        obtain rfl : r_30 = bB (decide (tRng (nI i) (Qf 1))) := hr_30
        refine tb_if_neB (tgt := 38) hx hb dX4_page_33 (by decide) (fun c33 => ?_) (fun c33 => ?_)
        · refine lv_iload_n hx hb dX4_page_38 rfl (lv_at hl 4 rfl) ?_
          refine tb_if_ne (tgt := 51) hx hb dX4_page_39 (by decide) (by omega) (fun c39 => ?_) (fun c39 => ?_)
          · refine lv_aload hx hb dX4_page_51 (lv_at hl 0 rfl) ?_
            refine lv_iload_n hx hb dX4_page_53 rfl (lv_at hl 3 rfl) ?_
            refine vp_callSi (va_Run.run (va_runV (As := [.int (nI i)]) (rest := []) ⟨hx, hb, hml, hown, hts⟩ (k_PR_firstKey l D ct (pa 1) (ta 1) (ka 1) (ga 1) R nt (F 1) (Qf 1) (Zf 1) i hnt hR (by have := hQ 1 (by decide); omega) hk (hsm 1 (by decide)) (hzp 1 (by decide))) (cwV 1 hts (gw_V (fun _ h => h) w_264 w_265 w_266 w_27 wcX1_firstKey) rfl rfl rfl hvX1_firstKey ⟨Nat.le_of_ble_eq_true rfl, Nat.le_of_ble_eq_true rfl⟩) (tb_prV hP hK hZ hS [6, 7, 8, 9] rfl (ci := 1) (q0 := 0) rfl rfl) rfl rfl hl.1 rfl (lv_room (Nat.le_of_ble_eq_true rfl)) dX4_page_54 ⟨Nat.zero_le _, Nat.zero_le _⟩)) (fun r_54 hr_54 => ?_)
            obtain rfl : r_54 = nI ((F 1) (tSum (Zf 1) i)) := hr_54
            refine lv_iload_n hx hb dX4_page_57 rfl (lv_at hl 4 rfl) ?_
            refine lv_iconst (v := nI 1) hx hb dX4_page_58 (by decide) ?_
            refine tb_isub hx hb dX4_page_59 (by omega) ?_
            refine vp_callSi (va_Run.run (va_runS (As := [.int (nI ((F 1) (tSum (Zf 1) i))), .int (nI (j - 1))]) (rest := []) ⟨hx, hb, hml, hown, hts⟩ (k_termOfKey l D ct ((F 1) (tSum (Zf 1) i)) (j - 1) (hFb _ _) (by omega)) (va_cwS 2 hts (gw_S (fun _ h => h) w_208 w_209 w_24 wcX4_termOfKey) rfl rfl rfl hvX4_termOfKey.2 ⟨Nat.le_of_ble_eq_true rfl, Nat.le_of_ble_eq_true rfl⟩) (tb_prS hP hK hZ hS [] rfl) rfl rfl hl.1 rfl (lv_room (Nat.le_of_ble_eq_true rfl)) dX4_page_60 ⟨Nat.zero_le _, Nat.zero_le _⟩)) (fun r_60 hr_60 => ?_)
            obtain rfl : r_60 = nI (tTerm ((F 1) (tSum (Zf 1) i)) (j - 1)) := hr_60
            exact W.iret (v := nI (tTerm ((F 1) (tSum (Zf 1) i)) (j - 1))) hx hb hr (fun t ht hW => ⟨_, rfl, rfl, ht⟩) (fun q h => by cases h) dX4_page_63
          · exfalso; omega
        · exact absurd (tRng_nI hk (by have := hQ _ ho; omega)) c33
      · skip
        refine tb_aald hx hb hK hP 1 3 rfl rfl rfl (b := pa 2) (i := 2) (by omega) (by decide) rfl dX4_page_24 ?_
        refine lv_astore (lv' := [(4, .ref (pa 2)), (0, .ref mo), (1, .int (nI 2)), (2, .int (nI i)), (3, .int (nI j))]) hx hb dX4_page_25 hl (by decide) rfl (fun ls hl => ?_)
        refine lv_aload hx hb dX4_page_27 (lv_at hl 0 rfl) ?_
        refine lv_iload_n hx hb dX4_page_29 rfl (lv_at hl 3 rfl) ?_
        refine vp_callSi (va_Run.run (va_runV (As := [.int (nI i)]) (rest := []) ⟨hx, hb, hml, hown, hts⟩ (k_PR_hasPage l D ct (pa 2) (ta 2) (ka 2) (ga 2) R nt (F 2) (Qf 2) (Zf 2) (nI i) hnt hR (by have := hQ 2 (by decide); omega)) (cwV 1 hts (gw_V (fun _ h => h) w_260 w_149 w_150 w_27 wcX1_hasPage) rfl rfl rfl hvX1_hasPage ⟨Nat.le_of_ble_eq_true rfl, Nat.le_of_ble_eq_true rfl⟩) (tb_prV hP hK hZ hS [10, 11, 12, 13] rfl (ci := 1) (q0 := 0) rfl rfl) rfl rfl hl.1 rfl (lv_room (Nat.le_of_ble_eq_true rfl)) dX4_page_30 ⟨Nat.zero_le _, Nat.zero_le _⟩)) (fun r_30 hr_30 => ?_)
        obtain rfl : r_30 = bB (decide (tRng (nI i) (Qf 2))) := hr_30
        refine tb_if_neB (tgt := 38) hx hb dX4_page_33 (by decide) (fun c33 => ?_) (fun c33 => ?_)
        · refine lv_iload_n hx hb dX4_page_38 rfl (lv_at hl 4 rfl) ?_
          refine tb_if_ne (tgt := 51) hx hb dX4_page_39 (by decide) (by omega) (fun c39 => ?_) (fun c39 => ?_)
          · refine lv_aload hx hb dX4_page_51 (lv_at hl 0 rfl) ?_
            refine lv_iload_n hx hb dX4_page_53 rfl (lv_at hl 3 rfl) ?_
            refine vp_callSi (va_Run.run (va_runV (As := [.int (nI i)]) (rest := []) ⟨hx, hb, hml, hown, hts⟩ (k_PR_firstKey l D ct (pa 2) (ta 2) (ka 2) (ga 2) R nt (F 2) (Qf 2) (Zf 2) i hnt hR (by have := hQ 2 (by decide); omega) hk (hsm 2 (by decide)) (hzp 2 (by decide))) (cwV 1 hts (gw_V (fun _ h => h) w_264 w_265 w_266 w_27 wcX1_firstKey) rfl rfl rfl hvX1_firstKey ⟨Nat.le_of_ble_eq_true rfl, Nat.le_of_ble_eq_true rfl⟩) (tb_prV hP hK hZ hS [10, 11, 12, 13] rfl (ci := 1) (q0 := 0) rfl rfl) rfl rfl hl.1 rfl (lv_room (Nat.le_of_ble_eq_true rfl)) dX4_page_54 ⟨Nat.zero_le _, Nat.zero_le _⟩)) (fun r_54 hr_54 => ?_)
            obtain rfl : r_54 = nI ((F 2) (tSum (Zf 2) i)) := hr_54
            refine lv_iload_n hx hb dX4_page_57 rfl (lv_at hl 4 rfl) ?_
            refine lv_iconst (v := nI 1) hx hb dX4_page_58 (by decide) ?_
            refine tb_isub hx hb dX4_page_59 (by omega) ?_
            refine vp_callSi (va_Run.run (va_runS (As := [.int (nI ((F 2) (tSum (Zf 2) i))), .int (nI (j - 1))]) (rest := []) ⟨hx, hb, hml, hown, hts⟩ (k_termOfKey l D ct ((F 2) (tSum (Zf 2) i)) (j - 1) (hFb _ _) (by omega)) (va_cwS 2 hts (gw_S (fun _ h => h) w_208 w_209 w_24 wcX4_termOfKey) rfl rfl rfl hvX4_termOfKey.2 ⟨Nat.le_of_ble_eq_true rfl, Nat.le_of_ble_eq_true rfl⟩) (tb_prS hP hK hZ hS [] rfl) rfl rfl hl.1 rfl (lv_room (Nat.le_of_ble_eq_true rfl)) dX4_page_60 ⟨Nat.zero_le _, Nat.zero_le _⟩)) (fun r_60 hr_60 => ?_)
            obtain rfl : r_60 = nI (tTerm ((F 2) (tSum (Zf 2) i)) (j - 1)) := hr_60
            exact W.iret (v := nI (tTerm ((F 2) (tSum (Zf 2) i)) (j - 1))) hx hb hr (fun t ht hW => ⟨_, rfl, rfl, ht⟩) (fun q h => by cases h) dX4_page_63
          · exfalso; omega
        · exact absurd (tRng_nI hk (by have := hQ _ ho; omega)) c33
      · skip
        refine tb_aald hx hb hK hP 1 3 rfl rfl rfl (b := pa 3) (i := 3) (by omega) (by decide) rfl dX4_page_24 ?_
        refine lv_astore (lv' := [(4, .ref (pa 3)), (0, .ref mo), (1, .int (nI 3)), (2, .int (nI i)), (3, .int (nI j))]) hx hb dX4_page_25 hl (by decide) rfl (fun ls hl => ?_)
        refine lv_aload hx hb dX4_page_27 (lv_at hl 0 rfl) ?_
        refine lv_iload_n hx hb dX4_page_29 rfl (lv_at hl 3 rfl) ?_
        refine vp_callSi (va_Run.run (va_runV (As := [.int (nI i)]) (rest := []) ⟨hx, hb, hml, hown, hts⟩ (k_PR_hasPage l D ct (pa 3) (ta 3) (ka 3) (ga 3) R nt (F 3) (Qf 3) (Zf 3) (nI i) hnt hR (by have := hQ 3 (by decide); omega)) (cwV 1 hts (gw_V (fun _ h => h) w_260 w_149 w_150 w_27 wcX1_hasPage) rfl rfl rfl hvX1_hasPage ⟨Nat.le_of_ble_eq_true rfl, Nat.le_of_ble_eq_true rfl⟩) (tb_prV hP hK hZ hS [14, 15, 16, 17] rfl (ci := 1) (q0 := 0) rfl rfl) rfl rfl hl.1 rfl (lv_room (Nat.le_of_ble_eq_true rfl)) dX4_page_30 ⟨Nat.zero_le _, Nat.zero_le _⟩)) (fun r_30 hr_30 => ?_)
        obtain rfl : r_30 = bB (decide (tRng (nI i) (Qf 3))) := hr_30
        refine tb_if_neB (tgt := 38) hx hb dX4_page_33 (by decide) (fun c33 => ?_) (fun c33 => ?_)
        · refine lv_iload_n hx hb dX4_page_38 rfl (lv_at hl 4 rfl) ?_
          refine tb_if_ne (tgt := 51) hx hb dX4_page_39 (by decide) (by omega) (fun c39 => ?_) (fun c39 => ?_)
          · refine lv_aload hx hb dX4_page_51 (lv_at hl 0 rfl) ?_
            refine lv_iload_n hx hb dX4_page_53 rfl (lv_at hl 3 rfl) ?_
            refine vp_callSi (va_Run.run (va_runV (As := [.int (nI i)]) (rest := []) ⟨hx, hb, hml, hown, hts⟩ (k_PR_firstKey l D ct (pa 3) (ta 3) (ka 3) (ga 3) R nt (F 3) (Qf 3) (Zf 3) i hnt hR (by have := hQ 3 (by decide); omega) hk (hsm 3 (by decide)) (hzp 3 (by decide))) (cwV 1 hts (gw_V (fun _ h => h) w_264 w_265 w_266 w_27 wcX1_firstKey) rfl rfl rfl hvX1_firstKey ⟨Nat.le_of_ble_eq_true rfl, Nat.le_of_ble_eq_true rfl⟩) (tb_prV hP hK hZ hS [14, 15, 16, 17] rfl (ci := 1) (q0 := 0) rfl rfl) rfl rfl hl.1 rfl (lv_room (Nat.le_of_ble_eq_true rfl)) dX4_page_54 ⟨Nat.zero_le _, Nat.zero_le _⟩)) (fun r_54 hr_54 => ?_)
            obtain rfl : r_54 = nI ((F 3) (tSum (Zf 3) i)) := hr_54
            refine lv_iload_n hx hb dX4_page_57 rfl (lv_at hl 4 rfl) ?_
            refine lv_iconst (v := nI 1) hx hb dX4_page_58 (by decide) ?_
            refine tb_isub hx hb dX4_page_59 (by omega) ?_
            refine vp_callSi (va_Run.run (va_runS (As := [.int (nI ((F 3) (tSum (Zf 3) i))), .int (nI (j - 1))]) (rest := []) ⟨hx, hb, hml, hown, hts⟩ (k_termOfKey l D ct ((F 3) (tSum (Zf 3) i)) (j - 1) (hFb _ _) (by omega)) (va_cwS 2 hts (gw_S (fun _ h => h) w_208 w_209 w_24 wcX4_termOfKey) rfl rfl rfl hvX4_termOfKey.2 ⟨Nat.le_of_ble_eq_true rfl, Nat.le_of_ble_eq_true rfl⟩) (tb_prS hP hK hZ hS [] rfl) rfl rfl hl.1 rfl (lv_room (Nat.le_of_ble_eq_true rfl)) dX4_page_60 ⟨Nat.zero_le _, Nat.zero_le _⟩)) (fun r_60 hr_60 => ?_)
            obtain rfl : r_60 = nI (tTerm ((F 3) (tSum (Zf 3) i)) (j - 1)) := hr_60
            exact W.iret (v := nI (tTerm ((F 3) (tSum (Zf 3) i)) (j - 1))) hx hb hr (fun t ht hW => ⟨_, rfl, rfl, ht⟩) (fun q h => by cases h) dX4_page_63
          · exfalso; omega
        · exact absurd (tRng_nI hk (by have := hQ _ ho; omega)) c33
      · skip
        refine tb_aald hx hb hK hP 1 3 rfl rfl rfl (b := pa 4) (i := 4) (by omega) (by decide) rfl dX4_page_24 ?_
        refine lv_astore (lv' := [(4, .ref (pa 4)), (0, .ref mo), (1, .int (nI 4)), (2, .int (nI i)), (3, .int (nI j))]) hx hb dX4_page_25 hl (by decide) rfl (fun ls hl => ?_)
        refine lv_aload hx hb dX4_page_27 (lv_at hl 0 rfl) ?_
        refine lv_iload_n hx hb dX4_page_29 rfl (lv_at hl 3 rfl) ?_
        refine vp_callSi (va_Run.run (va_runV (As := [.int (nI i)]) (rest := []) ⟨hx, hb, hml, hown, hts⟩ (k_PR_hasPage l D ct (pa 4) (ta 4) (ka 4) (ga 4) R nt (F 4) (Qf 4) (Zf 4) (nI i) hnt hR (by have := hQ 4 (by decide); omega)) (cwV 1 hts (gw_V (fun _ h => h) w_260 w_149 w_150 w_27 wcX1_hasPage) rfl rfl rfl hvX1_hasPage ⟨Nat.le_of_ble_eq_true rfl, Nat.le_of_ble_eq_true rfl⟩) (tb_prV hP hK hZ hS [18, 19, 20, 21] rfl (ci := 1) (q0 := 0) rfl rfl) rfl rfl hl.1 rfl (lv_room (Nat.le_of_ble_eq_true rfl)) dX4_page_30 ⟨Nat.zero_le _, Nat.zero_le _⟩)) (fun r_30 hr_30 => ?_)
        obtain rfl : r_30 = bB (decide (tRng (nI i) (Qf 4))) := hr_30
        refine tb_if_neB (tgt := 38) hx hb dX4_page_33 (by decide) (fun c33 => ?_) (fun c33 => ?_)
        · refine lv_iload_n hx hb dX4_page_38 rfl (lv_at hl 4 rfl) ?_
          refine tb_if_ne (tgt := 51) hx hb dX4_page_39 (by decide) (by omega) (fun c39 => ?_) (fun c39 => ?_)
          · refine lv_aload hx hb dX4_page_51 (lv_at hl 0 rfl) ?_
            refine lv_iload_n hx hb dX4_page_53 rfl (lv_at hl 3 rfl) ?_
            refine vp_callSi (va_Run.run (va_runV (As := [.int (nI i)]) (rest := []) ⟨hx, hb, hml, hown, hts⟩ (k_PR_firstKey l D ct (pa 4) (ta 4) (ka 4) (ga 4) R nt (F 4) (Qf 4) (Zf 4) i hnt hR (by have := hQ 4 (by decide); omega) hk (hsm 4 (by decide)) (hzp 4 (by decide))) (cwV 1 hts (gw_V (fun _ h => h) w_264 w_265 w_266 w_27 wcX1_firstKey) rfl rfl rfl hvX1_firstKey ⟨Nat.le_of_ble_eq_true rfl, Nat.le_of_ble_eq_true rfl⟩) (tb_prV hP hK hZ hS [18, 19, 20, 21] rfl (ci := 1) (q0 := 0) rfl rfl) rfl rfl hl.1 rfl (lv_room (Nat.le_of_ble_eq_true rfl)) dX4_page_54 ⟨Nat.zero_le _, Nat.zero_le _⟩)) (fun r_54 hr_54 => ?_)
            obtain rfl : r_54 = nI ((F 4) (tSum (Zf 4) i)) := hr_54
            refine lv_iload_n hx hb dX4_page_57 rfl (lv_at hl 4 rfl) ?_
            refine lv_iconst (v := nI 1) hx hb dX4_page_58 (by decide) ?_
            refine tb_isub hx hb dX4_page_59 (by omega) ?_
            refine vp_callSi (va_Run.run (va_runS (As := [.int (nI ((F 4) (tSum (Zf 4) i))), .int (nI (j - 1))]) (rest := []) ⟨hx, hb, hml, hown, hts⟩ (k_termOfKey l D ct ((F 4) (tSum (Zf 4) i)) (j - 1) (hFb _ _) (by omega)) (va_cwS 2 hts (gw_S (fun _ h => h) w_208 w_209 w_24 wcX4_termOfKey) rfl rfl rfl hvX4_termOfKey.2 ⟨Nat.le_of_ble_eq_true rfl, Nat.le_of_ble_eq_true rfl⟩) (tb_prS hP hK hZ hS [] rfl) rfl rfl hl.1 rfl (lv_room (Nat.le_of_ble_eq_true rfl)) dX4_page_60 ⟨Nat.zero_le _, Nat.zero_le _⟩)) (fun r_60 hr_60 => ?_)
            obtain rfl : r_60 = nI (tTerm ((F 4) (tSum (Zf 4) i)) (j - 1)) := hr_60
            exact W.iret (v := nI (tTerm ((F 4) (tSum (Zf 4) i)) (j - 1))) hx hb hr (fun t ht hW => ⟨_, rfl, rfl, ht⟩) (fun q h => by cases h) dX4_page_63
          · exfalso; omega
        · exact absurd (tRng_nI hk (by have := hQ _ ho; omega)) c33
      · skip
        refine tb_aald hx hb hK hP 1 3 rfl rfl rfl (b := pa 5) (i := 5) (by omega) (by decide) rfl dX4_page_24 ?_
        refine lv_astore (lv' := [(4, .ref (pa 5)), (0, .ref mo), (1, .int (nI 5)), (2, .int (nI i)), (3, .int (nI j))]) hx hb dX4_page_25 hl (by decide) rfl (fun ls hl => ?_)
        refine lv_aload hx hb dX4_page_27 (lv_at hl 0 rfl) ?_
        refine lv_iload_n hx hb dX4_page_29 rfl (lv_at hl 3 rfl) ?_
        refine vp_callSi (va_Run.run (va_runV (As := [.int (nI i)]) (rest := []) ⟨hx, hb, hml, hown, hts⟩ (k_PR_hasPage l D ct (pa 5) (ta 5) (ka 5) (ga 5) R nt (F 5) (Qf 5) (Zf 5) (nI i) hnt hR (by have := hQ 5 (by decide); omega)) (cwV 1 hts (gw_V (fun _ h => h) w_260 w_149 w_150 w_27 wcX1_hasPage) rfl rfl rfl hvX1_hasPage ⟨Nat.le_of_ble_eq_true rfl, Nat.le_of_ble_eq_true rfl⟩) (tb_prV hP hK hZ hS [22, 23, 24, 25] rfl (ci := 1) (q0 := 0) rfl rfl) rfl rfl hl.1 rfl (lv_room (Nat.le_of_ble_eq_true rfl)) dX4_page_30 ⟨Nat.zero_le _, Nat.zero_le _⟩)) (fun r_30 hr_30 => ?_)
        obtain rfl : r_30 = bB (decide (tRng (nI i) (Qf 5))) := hr_30
        refine tb_if_neB (tgt := 38) hx hb dX4_page_33 (by decide) (fun c33 => ?_) (fun c33 => ?_)
        · refine lv_iload_n hx hb dX4_page_38 rfl (lv_at hl 4 rfl) ?_
          refine tb_if_ne (tgt := 51) hx hb dX4_page_39 (by decide) (by omega) (fun c39 => ?_) (fun c39 => ?_)
          · refine lv_aload hx hb dX4_page_51 (lv_at hl 0 rfl) ?_
            refine lv_iload_n hx hb dX4_page_53 rfl (lv_at hl 3 rfl) ?_
            refine vp_callSi (va_Run.run (va_runV (As := [.int (nI i)]) (rest := []) ⟨hx, hb, hml, hown, hts⟩ (k_PR_firstKey l D ct (pa 5) (ta 5) (ka 5) (ga 5) R nt (F 5) (Qf 5) (Zf 5) i hnt hR (by have := hQ 5 (by decide); omega) hk (hsm 5 (by decide)) (hzp 5 (by decide))) (cwV 1 hts (gw_V (fun _ h => h) w_264 w_265 w_266 w_27 wcX1_firstKey) rfl rfl rfl hvX1_firstKey ⟨Nat.le_of_ble_eq_true rfl, Nat.le_of_ble_eq_true rfl⟩) (tb_prV hP hK hZ hS [22, 23, 24, 25] rfl (ci := 1) (q0 := 0) rfl rfl) rfl rfl hl.1 rfl (lv_room (Nat.le_of_ble_eq_true rfl)) dX4_page_54 ⟨Nat.zero_le _, Nat.zero_le _⟩)) (fun r_54 hr_54 => ?_)
            obtain rfl : r_54 = nI ((F 5) (tSum (Zf 5) i)) := hr_54
            refine lv_iload_n hx hb dX4_page_57 rfl (lv_at hl 4 rfl) ?_
            refine lv_iconst (v := nI 1) hx hb dX4_page_58 (by decide) ?_
            refine tb_isub hx hb dX4_page_59 (by omega) ?_
            refine vp_callSi (va_Run.run (va_runS (As := [.int (nI ((F 5) (tSum (Zf 5) i))), .int (nI (j - 1))]) (rest := []) ⟨hx, hb, hml, hown, hts⟩ (k_termOfKey l D ct ((F 5) (tSum (Zf 5) i)) (j - 1) (hFb _ _) (by omega)) (va_cwS 2 hts (gw_S (fun _ h => h) w_208 w_209 w_24 wcX4_termOfKey) rfl rfl rfl hvX4_termOfKey.2 ⟨Nat.le_of_ble_eq_true rfl, Nat.le_of_ble_eq_true rfl⟩) (tb_prS hP hK hZ hS [] rfl) rfl rfl hl.1 rfl (lv_room (Nat.le_of_ble_eq_true rfl)) dX4_page_60 ⟨Nat.zero_le _, Nat.zero_le _⟩)) (fun r_60 hr_60 => ?_)
            obtain rfl : r_60 = nI (tTerm ((F 5) (tSum (Zf 5) i)) (j - 1)) := hr_60
            exact W.iret (v := nI (tTerm ((F 5) (tSum (Zf 5) i)) (j - 1))) hx hb hr (fun t ht hW => ⟨_, rfl, rfl, ht⟩) (fun q h => by cases h) dX4_page_63
          · exfalso; omega
        · exact absurd (tRng_nI hk (by have := hQ _ ho; omega)) c33
    · exfalso; omega
