set_option maxHeartbeats 4000000 in
set_option maxRecDepth 100000 in
theorem k_isThereNow (l : Launch) (D : va_G) (ct : Nat → ClassId) (mo : Nat) (g : Nat) (pr : Nat) (hh : Nat) (rh : Nat) (aq : Nat) (ld : Nat) (lc : Nat) (nh : Nat) (ty : Nat) (R : Nat) (pa : Nat → Nat) (ta : Nat → Nat) (ka : Nat → Nat) (ga : Nat → Nat) (nt : Nat) (F : Nat → Nat → Nat) (Qf : Nat → Nat) (Zf : Nat → Nat → Nat) (a : Nat) (b : Nat) (d : Nat) (hR : R ≤ 400) (hnt : nt ≤ R) (hFs : ∀ i, i < 6 → tS (F i) nt) (hFb : ∀ i j, F i j < 2 ^ 31) (hQ : ∀ i, i < 6 → Qf i ≤ nt) (hsm : ∀ i, i < 6 → tSum (Zf i) (Qf i) = nt) (hzb : ∀ i j, Zf i j ≤ 1000) (hzp : ∀ i, i < 6 → ∀ j, j < Qf i → 0 < Zf i j) (ha : a < 1000) (hb9 : b < 1000) (hd : d < 1000) : Met l yX4_isThereNow wsX4_isThereNow ({ frames := 2, cells := 0, slots := 0, locals := 46 }) (tb_Pr D ct [.ref mo, .int (nI a), .int (nI b), .int (nI d)] [(mo, .inr (4, [.ref g, .ref pr, .ref hh, .ref rh, .ref aq, .ref ld, .int (nI lc), .ref nh, .ref ty])), (pr, .inl (ct 3, 6, .inr (.inr (.inr (.inr (sF pa)))))), (pa 0, .inr (1, [.ref (ta 0), .ref (ga 0), .int (nI (Qf 0))])), (ta 0, .inr (3, [.ref (ka 0), .int (nI nt)])), (ka 0, .inl (ct 0, R, .inl (aN (F 0)))), (ga 0, .inl (ct 0, R, .inl (aN (Zf 0))))]) (vp_Si (fun r => r = bB (decide (tHas (F 0) nt (tKeyOf 0 a b d))))) 0 0 (fun _ => False) := by
  refine Met.ofW (cc := cX4_isThereNow) (maxL := 4) (ret := (some .boolean)) (by decide) rfl ?_
  intro p e s m args below meth c s₁ B hml hv
  obtain ⟨rfl, hP, hK, hZ⟩ := hv
  have hx := B.exec
  have hb := B.bytes
  have hr := B.returns
  have hts0 := atoms_spec (ws := wsX4_isThereNow) B.pre
  have hts : ∀ w9 ∈ aw, w9.before ([.ref mo, .int (nI a), .int (nI b), .int (nI d)] : List Value).toArray s = true := fun w9 h9 => hts0 w9 (List.mem_cons_of_mem _ h9)
  have hown : s.vm.findClass RX4 = some m.cls := findClass_of_methodNamed B.named
  have hlocks := B.notSynchronized
  have hS : va_S (fun _ => False) s.heap s.heap [] := va_S.rf
  have hP : va_P D vwCl [(mo, .inr (4, [.ref g, .ref pr, .ref hh, .ref rh, .ref aq, .ref ld, .int (nI lc), .ref nh, .ref ty])), (pr, .inl (ct 3, 6, .inr (.inr (.inr (.inr (sF pa)))))), (pa 0, .inr (1, [.ref (ta 0), .ref (ga 0), .int (nI (Qf 0))])), (ta 0, .inr (3, [.ref (ka 0), .int (nI nt)])), (ka 0, .inl (ct 0, R, .inl (aN (F 0)))), (ga 0, .inl (ct 0, R, .inl (aN (Zf 0))))] s.heap := hP
  have hl := lv_entry ([.ref mo, .int (nI a), .int (nI b), .int (nI d)]) (n := 4) (Nat.le_of_ble_eq_true rfl)
  rw [lg_entry_eq]
  generalize (lg_sl ([.ref mo, .int (nI a), .int (nI b), .int (nI d)]) ++ List.replicate (4 - (lg_sl ([.ref mo, .int (nI a), .int (nI b), .int (nI d)])).length) Slot.unset).toArray = ls at hl ⊢
  have hl : lv_has ls 4 [(0, .ref mo), (1, .int (nI a)), (2, .int (nI b)), (3, .int (nI d))] := hl
  refine lv_aload_n hx hb dX4_isThereNow_0 rfl (lv_at hl 0 rfl) ?_
  refine va_get (D := D) (ci := 4) (v := .ref pr) (C := RX4) (T := TX4) (N := 9) hx hb hts inX4 hown hK hP 0 rfl rfl 1 (by decide) (hts _ w_88) (fun _ h9 => h9) rfl dX4_isThereNow_1 ?_
  refine lv_iconst (v := nI 0) hx hb dX4_isThereNow_4 (by decide) ?_
  refine tb_aald hx hb hK hP 1 3 rfl rfl rfl (b := pa 0) (i := 0) (by omega) (by decide) rfl dX4_isThereNow_5 ?_
  refine va_get (D := D) (ci := 1) (v := .ref (ta 0)) (C := RX1) (T := TX1) (N := 3) hx hb hts inX1 hown hK hP 2 rfl rfl 0 (by decide) (hts _ w_73) (fun _ h9 => h9) rfl dX4_isThereNow_6 ?_
  refine lv_iconst (v := nI 0) hx hb dX4_isThereNow_9 (by decide) ?_
  refine lv_iload_n hx hb dX4_isThereNow_10 rfl (lv_at hl 1 rfl) ?_
  refine lv_iload_n hx hb dX4_isThereNow_11 rfl (lv_at hl 2 rfl) ?_
  refine lv_iload_n hx hb dX4_isThereNow_12 rfl (lv_at hl 3 rfl) ?_
  refine vp_callSi (va_Run.run (va_runS (As := [.int (nI 0), .int (nI a), .int (nI b), .int (nI d)]) (rest := [.ref (ta 0)]) ⟨hx, hb, hml, hown, hts⟩ (k_keyOf l D ct 0 a b d (by omega)) (va_cwS 4 hts (gw_S (fun _ h => h) w_110 w_111 w_24 wcX4_keyOf) rfl rfl rfl hvX4_keyOf.2 ⟨Nat.le_of_ble_eq_true rfl, Nat.le_of_ble_eq_true rfl⟩) (tb_prS hP hK hZ hS [] rfl) rfl rfl hl.1 rfl (lv_room (Nat.le_of_ble_eq_true rfl)) dX4_isThereNow_13 ⟨Nat.zero_le _, Nat.zero_le _⟩)) (fun r_13 hr_13 => ?_)
  obtain rfl : r_13 = nI (tKeyOf 0 a b d) := hr_13
  refine vp_callSi (va_Run.run (va_runV (As := [.int (nI (tKeyOf 0 a b d))]) (rest := []) ⟨hx, hb, hml, hown, hts⟩ (k_Row_has l D ct (ta 0) (ka 0) R nt (F 0) (tKeyOf 0 a b d) hnt hR (hFs 0 (by decide)) (hFb 0) (tKeyOf_lt 0 ha hb9 hd)) (cwV 1 hts (gw_V (fun _ h => h) w_117 w_118 w_119 w_28 wcX3_has) rfl rfl rfl hvX3_has ⟨Nat.le_of_ble_eq_true rfl, Nat.le_of_ble_eq_true rfl⟩) (tb_prV hP hK hZ hS [3, 4] rfl (ci := 3) (q0 := 0) rfl rfl) rfl rfl hl.1 rfl (lv_room (Nat.le_of_ble_eq_true rfl)) dX4_isThereNow_16 ⟨Nat.zero_le _, Nat.zero_le _⟩)) (fun r_16 hr_16 => ?_)
  obtain rfl : r_16 = bB (decide (tHas (F 0) nt (tKeyOf 0 a b d))) := hr_16
  exact W.zret (v := bB (decide (tHas (F 0) nt (tKeyOf 0 a b d)))) hx hb hr (tb_nar _) (fun t ht hW => ⟨_, rfl, rfl, ht⟩) (fun q h => by cases h) dX4_isThereNow_19

set_option maxHeartbeats 4000000 in
set_option maxRecDepth 100000 in
theorem k_rchange_m2 (l : Launch) (D : va_G) (ct : Nat → ClassId) (mo : Nat) (g : Nat) (pr : Nat) (hh : Nat) (rh : Nat) (aq : Nat) (ld : Nat) (lc : Nat) (nh : Nat) (ty : Nat) (x : Int32) (y : Int32) (u : Int32) (vv : Int32) (hbad : ¬ ((tRng x 1000 ∧ tRng y 1000 ∧ tRng u 1000) ∧ tRng vv 1000001)) : Met l yX4_refusalOfChange wsX4_refusalOfChange ({ frames := 2, cells := 0, slots := 0, locals := 42 }) (tb_Pr D ct [.ref mo, .int x, .int y, .int u, .int vv] [(mo, .inr (4, [.ref g, .ref pr, .ref hh, .ref rh, .ref aq, .ref ld, .int (nI lc), .ref nh, .ref ty]))]) (vp_Si (fun r => r = (-2))) 0 0 (fun _ => False) := by
  refine Met.ofW (cc := cX4_refusalOfChange) (maxL := 5) (ret := (some .int)) (by decide) rfl ?_
  intro p e s m args below meth c s₁ B hml hv
  obtain ⟨rfl, hP, hK, hZ⟩ := hv
  have hx := B.exec
  have hb := B.bytes
  have hr := B.returns
  have hts0 := atoms_spec (ws := wsX4_refusalOfChange) B.pre
  have hts : ∀ w9 ∈ aw, w9.before ([.ref mo, .int x, .int y, .int u, .int vv] : List Value).toArray s = true := fun w9 h9 => hts0 w9 (List.mem_cons_of_mem _ h9)
  have hown : s.vm.findClass RX4 = some m.cls := findClass_of_methodNamed B.named
  have hlocks := B.notSynchronized
  have hS : va_S (fun _ => False) s.heap s.heap [] := va_S.rf
  have hP : va_P D vwCl [(mo, .inr (4, [.ref g, .ref pr, .ref hh, .ref rh, .ref aq, .ref ld, .int (nI lc), .ref nh, .ref ty]))] s.heap := hP
  have hl := lv_entry ([.ref mo, .int x, .int y, .int u, .int vv]) (n := 5) (Nat.le_of_ble_eq_true rfl)
  rw [lg_entry_eq]
  generalize (lg_sl ([.ref mo, .int x, .int y, .int u, .int vv]) ++ List.replicate (5 - (lg_sl ([.ref mo, .int x, .int y, .int u, .int vv])).length) Slot.unset).toArray = ls at hl ⊢
  have hl : lv_has ls 5 [(0, .ref mo), (1, .int x), (2, .int y), (3, .int u), (4, .int vv)] := hl
  refine lv_iload_n hx hb dX4_refusalOfChange_0 rfl (lv_at hl 1 rfl) ?_
  refine lv_iload_n hx hb dX4_refusalOfChange_1 rfl (lv_at hl 2 rfl) ?_
  refine lv_iload_n hx hb dX4_refusalOfChange_2 rfl (lv_at hl 3 rfl) ?_
  refine vp_callSi (va_Run.run (va_runS (As := [.int x, .int y, .int u]) (rest := []) ⟨hx, hb, hml, hown, hts⟩ (k_isTriple l D ct x y u ) (va_cwS 3 hts (gw_S (fun _ h => h) w_101 w_102 w_24 wcX4_isTriple) rfl rfl rfl hvX4_isTriple.2 ⟨Nat.le_of_ble_eq_true rfl, Nat.le_of_ble_eq_true rfl⟩) (tb_prS hP hK hZ hS [] rfl) rfl rfl hl.1 rfl (lv_room (Nat.le_of_ble_eq_true rfl)) dX4_refusalOfChange_3 ⟨Nat.zero_le _, Nat.zero_le _⟩)) (fun r_3 hr_3 => ?_)
  obtain rfl : r_3 = bB (decide (tRng x 1000 ∧ tRng y 1000 ∧ tRng u 1000)) := hr_3
  refine tb_if_eqB (tgt := 17) hx hb dX4_refusalOfChange_6 (by decide) (fun c6 => ?_) (fun c6 => ?_)
  · refine lv_bipush (v := (-2)) hx hb dX4_refusalOfChange_17 (by decide) ?_
    exact W.iret (v := (-2)) hx hb hr (fun t ht hW => ⟨_, rfl, rfl, ht⟩) (fun q h => by cases h) dX4_refusalOfChange_19
  · refine lv_iload hx hb dX4_refusalOfChange_9 (lv_at hl 4 rfl) ?_
    refine vp_callSi (va_Run.run (va_runS (As := [.int vv]) (rest := []) ⟨hx, hb, hml, hown, hts⟩ (k_isVersion l D ct vv ) (va_cwS 1 hts (gw_S (fun _ h => h) w_105 w_106 w_24 wcX4_isVersion) rfl rfl rfl hvX4_isVersion.2 ⟨Nat.le_of_ble_eq_true rfl, Nat.le_of_ble_eq_true rfl⟩) (tb_prS hP hK hZ hS [] rfl) rfl rfl hl.1 rfl (lv_room (Nat.le_of_ble_eq_true rfl)) dX4_refusalOfChange_11 ⟨Nat.zero_le _, Nat.zero_le _⟩)) (fun r_11 hr_11 => ?_)
    obtain rfl : r_11 = bB (decide (tRng vv 1000001)) := hr_11
    refine tb_if_neB (tgt := 20) hx hb dX4_refusalOfChange_14 (by decide) (fun c14 => ?_) (fun c14 => ?_)
    · exact absurd ⟨c6, c14⟩ hbad
    · refine lv_bipush (v := (-2)) hx hb dX4_refusalOfChange_17 (by decide) ?_
      exact W.iret (v := (-2)) hx hb hr (fun t ht hW => ⟨_, rfl, rfl, ht⟩) (fun q h => by cases h) dX4_refusalOfChange_19

set_option maxHeartbeats 4000000 in
set_option maxRecDepth 100000 in
theorem k_rchange_m3 (l : Launch) (D : va_G) (ct : Nat → ClassId) (mo : Nat) (g : Nat) (pr : Nat) (hh : Nat) (rh : Nat) (aq : Nat) (ld : Nat) (lc : Nat) (nh : Nat) (ty : Nat) (t : Nat) (a0 : Nat) (a1 : Nat) (a2 : Nat) (v : Nat) (w : Nat) (R : Nat) (n : Nat) (X : Nat → Nat) (Y : Nat → Nat) (Z : Nat → Nat) (V : Nat → Nat) (E : Nat → Nat) (now : Nat) (cu : Option Nat) (a : Nat) (b : Nat) (d : Nat) (vv : Nat) (ha : a < 1000) (hb9 : b < 1000) (hd : d < 1000) (hv : vv < 1000001) (hno : now < 2 ^ 31) (hlow : vv < now) : Met l yX4_refusalOfChange wsX4_refusalOfChange ({ frames := 2, cells := 0, slots := 0, locals := 42 }) (tb_Pr D ct [.ref mo, .int (nI a), .int (nI b), .int (nI d), .int (nI vv)] [(mo, .inr (4, [.ref g, .ref pr, .ref hh, .ref rh, .ref aq, .ref ld, .int (nI lc), .ref nh, .ref ty])), (g, .inr (0, [.ref t, .ref v, .ref w, .int (nI n), .int (nI now), .int (oI cu)])), (t, .inl (ct 1, 3, .inr (.inr (.inr (.inr (tb_3 a0 a1 a2)))))), (a0, .inl (ct 0, R, .inl (aN X))), (a1, .inl (ct 0, R, .inl (aN Y))), (a2, .inl (ct 0, R, .inl (aN Z))), (v, .inl (ct 0, R, .inl (aN V))), (w, .inl (ct 0, R, .inl (aN E)))]) (vp_Si (fun r => r = (-3))) 0 0 (fun _ => False) := by
  refine Met.ofW (cc := cX4_refusalOfChange) (maxL := 5) (ret := (some .int)) (by decide) rfl ?_
  intro p e s m args below meth c s₁ B hml hv
  obtain ⟨rfl, hP, hK, hZ⟩ := hv
  have hx := B.exec
  have hb := B.bytes
  have hr := B.returns
  have hts0 := atoms_spec (ws := wsX4_refusalOfChange) B.pre
  have hts : ∀ w9 ∈ aw, w9.before ([.ref mo, .int (nI a), .int (nI b), .int (nI d), .int (nI vv)] : List Value).toArray s = true := fun w9 h9 => hts0 w9 (List.mem_cons_of_mem _ h9)
  have hown : s.vm.findClass RX4 = some m.cls := findClass_of_methodNamed B.named
  have hlocks := B.notSynchronized
  have hS : va_S (fun _ => False) s.heap s.heap [] := va_S.rf
  have hP : va_P D vwCl [(mo, .inr (4, [.ref g, .ref pr, .ref hh, .ref rh, .ref aq, .ref ld, .int (nI lc), .ref nh, .ref ty])), (g, .inr (0, [.ref t, .ref v, .ref w, .int (nI n), .int (nI now), .int (oI cu)])), (t, .inl (ct 1, 3, .inr (.inr (.inr (.inr (tb_3 a0 a1 a2)))))), (a0, .inl (ct 0, R, .inl (aN X))), (a1, .inl (ct 0, R, .inl (aN Y))), (a2, .inl (ct 0, R, .inl (aN Z))), (v, .inl (ct 0, R, .inl (aN V))), (w, .inl (ct 0, R, .inl (aN E)))] s.heap := hP
  have hl := lv_entry ([.ref mo, .int (nI a), .int (nI b), .int (nI d), .int (nI vv)]) (n := 5) (Nat.le_of_ble_eq_true rfl)
  rw [lg_entry_eq]
  generalize (lg_sl ([.ref mo, .int (nI a), .int (nI b), .int (nI d), .int (nI vv)]) ++ List.replicate (5 - (lg_sl ([.ref mo, .int (nI a), .int (nI b), .int (nI d), .int (nI vv)])).length) Slot.unset).toArray = ls at hl ⊢
  have hl : lv_has ls 5 [(0, .ref mo), (1, .int (nI a)), (2, .int (nI b)), (3, .int (nI d)), (4, .int (nI vv))] := hl
  refine lv_iload_n hx hb dX4_refusalOfChange_0 rfl (lv_at hl 1 rfl) ?_
  refine lv_iload_n hx hb dX4_refusalOfChange_1 rfl (lv_at hl 2 rfl) ?_
  refine lv_iload_n hx hb dX4_refusalOfChange_2 rfl (lv_at hl 3 rfl) ?_
  refine vp_callSi (va_Run.run (va_runS (As := [.int (nI a), .int (nI b), .int (nI d)]) (rest := []) ⟨hx, hb, hml, hown, hts⟩ (k_isTriple l D ct (nI a) (nI b) (nI d) ) (va_cwS 3 hts (gw_S (fun _ h => h) w_101 w_102 w_24 wcX4_isTriple) rfl rfl rfl hvX4_isTriple.2 ⟨Nat.le_of_ble_eq_true rfl, Nat.le_of_ble_eq_true rfl⟩) (tb_prS hP hK hZ hS [] rfl) rfl rfl hl.1 rfl (lv_room (Nat.le_of_ble_eq_true rfl)) dX4_refusalOfChange_3 ⟨Nat.zero_le _, Nat.zero_le _⟩)) (fun r_3 hr_3 => ?_)
  obtain rfl : r_3 = bB (decide (tRng (nI a) 1000 ∧ tRng (nI b) 1000 ∧ tRng (nI d) 1000)) := hr_3
  refine tb_if_eqB (tgt := 17) hx hb dX4_refusalOfChange_6 (by decide) (fun c6 => ?_) (fun c6 => ?_)
  · exact absurd ⟨tRng_nI ha (by decide), tRng_nI hb9 (by decide), tRng_nI hd (by decide)⟩ c6
  · refine lv_iload hx hb dX4_refusalOfChange_9 (lv_at hl 4 rfl) ?_
    refine vp_callSi (va_Run.run (va_runS (As := [.int (nI vv)]) (rest := []) ⟨hx, hb, hml, hown, hts⟩ (k_isVersion l D ct (nI vv) ) (va_cwS 1 hts (gw_S (fun _ h => h) w_105 w_106 w_24 wcX4_isVersion) rfl rfl rfl hvX4_isVersion.2 ⟨Nat.le_of_ble_eq_true rfl, Nat.le_of_ble_eq_true rfl⟩) (tb_prS hP hK hZ hS [] rfl) rfl rfl hl.1 rfl (lv_room (Nat.le_of_ble_eq_true rfl)) dX4_refusalOfChange_11 ⟨Nat.zero_le _, Nat.zero_le _⟩)) (fun r_11 hr_11 => ?_)
    obtain rfl : r_11 = bB (decide (tRng (nI vv) 1000001)) := hr_11
    refine tb_if_neB (tgt := 20) hx hb dX4_refusalOfChange_14 (by decide) (fun c14 => ?_) (fun c14 => ?_)
    · refine lv_iload hx hb dX4_refusalOfChange_20 (lv_at hl 4 rfl) ?_
      refine lv_aload_n hx hb dX4_refusalOfChange_22 rfl (lv_at hl 0 rfl) ?_
      refine va_get (D := D) (ci := 4) (v := .ref g) (C := RX4) (T := TX4) (N := 9) hx hb hts inX4 hown hK hP 0 rfl rfl 0 (by decide) (hts _ w_87) (fun _ h9 => h9) rfl dX4_refusalOfChange_23 ?_
      refine va_get (D := D) (ci := 0) (v := .int (nI now)) (C := RX0) (T := TX0) (N := 6) hx hb hts inX0 hown hK hP 1 rfl rfl 4 (by decide) (hts _ w_55) (fun _ h9 => h9) rfl dX4_refusalOfChange_26 ?_
      refine tb_icmp_ge (tgt := 37) hx hb dX4_refusalOfChange_29 (by decide) (by omega) (by omega) (fun c29 => ?_) (fun c29 => ?_)
      · exfalso; omega
      · refine lv_bipush (v := (-3)) hx hb dX4_refusalOfChange_32 (by decide) ?_
        refine lv_goto (tgt := 38) hx hb dX4_refusalOfChange_34 (by decide) ?_
        exact W.iret (v := (-3)) hx hb hr (fun t ht hW => ⟨_, rfl, rfl, ht⟩) (fun q h => by cases h) dX4_refusalOfChange_38
    · exact absurd (tRng_nI hv (by decide)) c14

set_option maxHeartbeats 4000000 in
set_option maxRecDepth 100000 in
theorem k_rchange_0 (l : Launch) (D : va_G) (ct : Nat → ClassId) (mo : Nat) (g : Nat) (pr : Nat) (hh : Nat) (rh : Nat) (aq : Nat) (ld : Nat) (lc : Nat) (nh : Nat) (ty : Nat) (t : Nat) (a0 : Nat) (a1 : Nat) (a2 : Nat) (v : Nat) (w : Nat) (R : Nat) (n : Nat) (X : Nat → Nat) (Y : Nat → Nat) (Z : Nat → Nat) (V : Nat → Nat) (E : Nat → Nat) (now : Nat) (cu : Option Nat) (a : Nat) (b : Nat) (d : Nat) (vv : Nat) (ha : a < 1000) (hb9 : b < 1000) (hd : d < 1000) (hv : vv < 1000001) (hno : now ≤ vv) : Met l yX4_refusalOfChange wsX4_refusalOfChange ({ frames := 2, cells := 0, slots := 0, locals := 42 }) (tb_Pr D ct [.ref mo, .int (nI a), .int (nI b), .int (nI d), .int (nI vv)] [(mo, .inr (4, [.ref g, .ref pr, .ref hh, .ref rh, .ref aq, .ref ld, .int (nI lc), .ref nh, .ref ty])), (g, .inr (0, [.ref t, .ref v, .ref w, .int (nI n), .int (nI now), .int (oI cu)])), (t, .inl (ct 1, 3, .inr (.inr (.inr (.inr (tb_3 a0 a1 a2)))))), (a0, .inl (ct 0, R, .inl (aN X))), (a1, .inl (ct 0, R, .inl (aN Y))), (a2, .inl (ct 0, R, .inl (aN Z))), (v, .inl (ct 0, R, .inl (aN V))), (w, .inl (ct 0, R, .inl (aN E)))]) (vp_Si (fun r => r = nI 0)) 0 0 (fun _ => False) := by
  refine Met.ofW (cc := cX4_refusalOfChange) (maxL := 5) (ret := (some .int)) (by decide) rfl ?_
  intro p e s m args below meth c s₁ B hml hv
  obtain ⟨rfl, hP, hK, hZ⟩ := hv
  have hx := B.exec
  have hb := B.bytes
  have hr := B.returns
  have hts0 := atoms_spec (ws := wsX4_refusalOfChange) B.pre
  have hts : ∀ w9 ∈ aw, w9.before ([.ref mo, .int (nI a), .int (nI b), .int (nI d), .int (nI vv)] : List Value).toArray s = true := fun w9 h9 => hts0 w9 (List.mem_cons_of_mem _ h9)
  have hown : s.vm.findClass RX4 = some m.cls := findClass_of_methodNamed B.named
  have hlocks := B.notSynchronized
  have hS : va_S (fun _ => False) s.heap s.heap [] := va_S.rf
  have hP : va_P D vwCl [(mo, .inr (4, [.ref g, .ref pr, .ref hh, .ref rh, .ref aq, .ref ld, .int (nI lc), .ref nh, .ref ty])), (g, .inr (0, [.ref t, .ref v, .ref w, .int (nI n), .int (nI now), .int (oI cu)])), (t, .inl (ct 1, 3, .inr (.inr (.inr (.inr (tb_3 a0 a1 a2)))))), (a0, .inl (ct 0, R, .inl (aN X))), (a1, .inl (ct 0, R, .inl (aN Y))), (a2, .inl (ct 0, R, .inl (aN Z))), (v, .inl (ct 0, R, .inl (aN V))), (w, .inl (ct 0, R, .inl (aN E)))] s.heap := hP
  have hl := lv_entry ([.ref mo, .int (nI a), .int (nI b), .int (nI d), .int (nI vv)]) (n := 5) (Nat.le_of_ble_eq_true rfl)
  rw [lg_entry_eq]
  generalize (lg_sl ([.ref mo, .int (nI a), .int (nI b), .int (nI d), .int (nI vv)]) ++ List.replicate (5 - (lg_sl ([.ref mo, .int (nI a), .int (nI b), .int (nI d), .int (nI vv)])).length) Slot.unset).toArray = ls at hl ⊢
  have hl : lv_has ls 5 [(0, .ref mo), (1, .int (nI a)), (2, .int (nI b)), (3, .int (nI d)), (4, .int (nI vv))] := hl
  refine lv_iload_n hx hb dX4_refusalOfChange_0 rfl (lv_at hl 1 rfl) ?_
  refine lv_iload_n hx hb dX4_refusalOfChange_1 rfl (lv_at hl 2 rfl) ?_
  refine lv_iload_n hx hb dX4_refusalOfChange_2 rfl (lv_at hl 3 rfl) ?_
  refine vp_callSi (va_Run.run (va_runS (As := [.int (nI a), .int (nI b), .int (nI d)]) (rest := []) ⟨hx, hb, hml, hown, hts⟩ (k_isTriple l D ct (nI a) (nI b) (nI d) ) (va_cwS 3 hts (gw_S (fun _ h => h) w_101 w_102 w_24 wcX4_isTriple) rfl rfl rfl hvX4_isTriple.2 ⟨Nat.le_of_ble_eq_true rfl, Nat.le_of_ble_eq_true rfl⟩) (tb_prS hP hK hZ hS [] rfl) rfl rfl hl.1 rfl (lv_room (Nat.le_of_ble_eq_true rfl)) dX4_refusalOfChange_3 ⟨Nat.zero_le _, Nat.zero_le _⟩)) (fun r_3 hr_3 => ?_)
  obtain rfl : r_3 = bB (decide (tRng (nI a) 1000 ∧ tRng (nI b) 1000 ∧ tRng (nI d) 1000)) := hr_3
  refine tb_if_eqB (tgt := 17) hx hb dX4_refusalOfChange_6 (by decide) (fun c6 => ?_) (fun c6 => ?_)
  · exact absurd ⟨tRng_nI ha (by decide), tRng_nI hb9 (by decide), tRng_nI hd (by decide)⟩ c6
  · refine lv_iload hx hb dX4_refusalOfChange_9 (lv_at hl 4 rfl) ?_
    refine vp_callSi (va_Run.run (va_runS (As := [.int (nI vv)]) (rest := []) ⟨hx, hb, hml, hown, hts⟩ (k_isVersion l D ct (nI vv) ) (va_cwS 1 hts (gw_S (fun _ h => h) w_105 w_106 w_24 wcX4_isVersion) rfl rfl rfl hvX4_isVersion.2 ⟨Nat.le_of_ble_eq_true rfl, Nat.le_of_ble_eq_true rfl⟩) (tb_prS hP hK hZ hS [] rfl) rfl rfl hl.1 rfl (lv_room (Nat.le_of_ble_eq_true rfl)) dX4_refusalOfChange_11 ⟨Nat.zero_le _, Nat.zero_le _⟩)) (fun r_11 hr_11 => ?_)
    obtain rfl : r_11 = bB (decide (tRng (nI vv) 1000001)) := hr_11
    refine tb_if_neB (tgt := 20) hx hb dX4_refusalOfChange_14 (by decide) (fun c14 => ?_) (fun c14 => ?_)
    · refine lv_iload hx hb dX4_refusalOfChange_20 (lv_at hl 4 rfl) ?_
      refine lv_aload_n hx hb dX4_refusalOfChange_22 rfl (lv_at hl 0 rfl) ?_
      refine va_get (D := D) (ci := 4) (v := .ref g) (C := RX4) (T := TX4) (N := 9) hx hb hts inX4 hown hK hP 0 rfl rfl 0 (by decide) (hts _ w_87) (fun _ h9 => h9) rfl dX4_refusalOfChange_23 ?_
      refine va_get (D := D) (ci := 0) (v := .int (nI now)) (C := RX0) (T := TX0) (N := 6) hx hb hts inX0 hown hK hP 1 rfl rfl 4 (by decide) (hts _ w_55) (fun _ h9 => h9) rfl dX4_refusalOfChange_26 ?_
      refine tb_icmp_ge (tgt := 37) hx hb dX4_refusalOfChange_29 (by decide) (by omega) (by omega) (fun c29 => ?_) (fun c29 => ?_)
      · refine lv_iconst (v := nI 0) hx hb dX4_refusalOfChange_37 (by decide) ?_
        exact W.iret (v := nI 0) hx hb hr (fun t ht hW => ⟨_, rfl, rfl, ht⟩) (fun q h => by cases h) dX4_refusalOfChange_38
      · exfalso; omega
    · exact absurd (tRng_nI hv (by decide)) c14

set_option maxHeartbeats 4000000 in
set_option maxRecDepth 100000 in
theorem k_add_m2 (l : Launch) (D : va_G) (ct : Nat → ClassId) (mo : Nat) (g : Nat) (pr : Nat) (hh : Nat) (rh : Nat) (aq : Nat) (ld : Nat) (lc : Nat) (nh : Nat) (ty : Nat) (x : Int32) (y : Int32) (u : Int32) (vv : Int32) (hbad : ¬ ((tRng x 1000 ∧ tRng y 1000 ∧ tRng u 1000) ∧ tRng vv 1000001)) : Met l yX4_add wsX4_add ({ frames := 3, cells := 0, slots := 0, locals := 66 }) (tb_Pr D ct [.ref mo, .int x, .int y, .int u, .int vv] [(mo, .inr (4, [.ref g, .ref pr, .ref hh, .ref rh, .ref aq, .ref ld, .int (nI lc), .ref nh, .ref ty]))]) (vp_Si (fun r => r = (-2))) 0 0 (fun _ => False) := by
  refine Met.ofW (cc := cX4_add) (maxL := 7) (ret := (some .int)) (by decide) rfl ?_
  intro p e s m args below meth c s₁ B hml hv
  obtain ⟨rfl, hP, hK, hZ⟩ := hv
  have hx := B.exec
  have hb := B.bytes
  have hr := B.returns
  have hts0 := atoms_spec (ws := wsX4_add) B.pre
  have hts : ∀ w9 ∈ aw, w9.before ([.ref mo, .int x, .int y, .int u, .int vv] : List Value).toArray s = true := fun w9 h9 => hts0 w9 (List.mem_cons_of_mem _ h9)
  have hown : s.vm.findClass RX4 = some m.cls := findClass_of_methodNamed B.named
  have hlocks := B.notSynchronized
  have hS : va_S (fun _ => False) s.heap s.heap [] := va_S.rf
  have hP : va_P D vwCl [(mo, .inr (4, [.ref g, .ref pr, .ref hh, .ref rh, .ref aq, .ref ld, .int (nI lc), .ref nh, .ref ty]))] s.heap := hP
  have hl := lv_entry ([.ref mo, .int x, .int y, .int u, .int vv]) (n := 7) (Nat.le_of_ble_eq_true rfl)
  rw [lg_entry_eq]
  generalize (lg_sl ([.ref mo, .int x, .int y, .int u, .int vv]) ++ List.replicate (7 - (lg_sl ([.ref mo, .int x, .int y, .int u, .int vv])).length) Slot.unset).toArray = ls at hl ⊢
  have hl : lv_has ls 7 [(0, .ref mo), (1, .int x), (2, .int y), (3, .int u), (4, .int vv)] := hl
  refine lv_aload_n hx hb dX4_add_0 rfl (lv_at hl 0 rfl) ?_
  refine lv_iload_n hx hb dX4_add_1 rfl (lv_at hl 1 rfl) ?_
  refine lv_iload_n hx hb dX4_add_2 rfl (lv_at hl 2 rfl) ?_
  refine lv_iload_n hx hb dX4_add_3 rfl (lv_at hl 3 rfl) ?_
  refine lv_iload hx hb dX4_add_4 (lv_at hl 4 rfl) ?_
  refine vp_callSi (va_Run.run (va_runV (As := [.int x, .int y, .int u, .int vv]) (rest := []) ⟨hx, hb, hml, hown, hts⟩ (k_rchange_m2 l D ct mo g pr hh rh aq ld lc nh ty x y u vv hbad) (cwV 4 hts (gw_V (fun _ h => h) w_99 w_100 w_22 w_24 wcX4_refusalOfChange) rfl rfl rfl hvX4_refusalOfChange ⟨Nat.le_of_ble_eq_true rfl, Nat.le_of_ble_eq_true rfl⟩) (tb_prV hP hK hZ hS [0] rfl (ci := 4) (q0 := 0) rfl rfl) rfl rfl hl.1 rfl (lv_room (Nat.le_of_ble_eq_true rfl)) dX4_add_6 ⟨Nat.zero_le _, Nat.zero_le _⟩)) (fun r_6 hr_6 => ?_)
  obtain rfl : r_6 = (-2) := hr_6
  refine lv_istore (lv' := [(5, .int (-2)), (0, .ref mo), (1, .int x), (2, .int y), (3, .int u), (4, .int vv)]) hx hb dX4_add_9 hl (by decide) rfl (fun ls hl => ?_)
  refine lv_iload hx hb dX4_add_11 (lv_at hl 0 rfl) ?_
  refine lv_if_eq (tgt := 19) hx hb dX4_add_13 (by decide) (fun c13 => ?_) (fun c13 => ?_)
  · exact absurd c13 (by decide)
  · refine lv_iload hx hb dX4_add_16 (lv_at hl 0 rfl) ?_
    exact W.iret (v := (-2)) hx hb hr (fun t ht hW => ⟨_, rfl, rfl, ht⟩) (fun q h => by cases h) dX4_add_18

set_option maxHeartbeats 4000000 in
set_option maxRecDepth 100000 in
theorem k_add_m3 (l : Launch) (D : va_G) (ct : Nat → ClassId) (mo : Nat) (g : Nat) (pr : Nat) (hh : Nat) (rh : Nat) (aq : Nat) (ld : Nat) (lc : Nat) (nh : Nat) (ty : Nat) (t : Nat) (a0 : Nat) (a1 : Nat) (a2 : Nat) (v : Nat) (w : Nat) (R : Nat) (n : Nat) (X : Nat → Nat) (Y : Nat → Nat) (Z : Nat → Nat) (V : Nat → Nat) (E : Nat → Nat) (now : Nat) (cu : Option Nat) (a : Nat) (b : Nat) (d : Nat) (vv : Nat) (ha : a < 1000) (hb9 : b < 1000) (hd : d < 1000) (hv : vv < 1000001) (hno : now < 2 ^ 31) (hlow : vv < now) : Met l yX4_add wsX4_add ({ frames := 3, cells := 0, slots := 0, locals := 66 }) (tb_Pr D ct [.ref mo, .int (nI a), .int (nI b), .int (nI d), .int (nI vv)] [(mo, .inr (4, [.ref g, .ref pr, .ref hh, .ref rh, .ref aq, .ref ld, .int (nI lc), .ref nh, .ref ty])), (g, .inr (0, [.ref t, .ref v, .ref w, .int (nI n), .int (nI now), .int (oI cu)])), (t, .inl (ct 1, 3, .inr (.inr (.inr (.inr (tb_3 a0 a1 a2)))))), (a0, .inl (ct 0, R, .inl (aN X))), (a1, .inl (ct 0, R, .inl (aN Y))), (a2, .inl (ct 0, R, .inl (aN Z))), (v, .inl (ct 0, R, .inl (aN V))), (w, .inl (ct 0, R, .inl (aN E)))]) (vp_Si (fun r => r = (-3))) 0 0 (fun _ => False) := by
  refine Met.ofW (cc := cX4_add) (maxL := 7) (ret := (some .int)) (by decide) rfl ?_
  intro p e s m args below meth c s₁ B hml hv
  obtain ⟨rfl, hP, hK, hZ⟩ := hv
  have hx := B.exec
  have hb := B.bytes
  have hr := B.returns
  have hts0 := atoms_spec (ws := wsX4_add) B.pre
  have hts : ∀ w9 ∈ aw, w9.before ([.ref mo, .int (nI a), .int (nI b), .int (nI d), .int (nI vv)] : List Value).toArray s = true := fun w9 h9 => hts0 w9 (List.mem_cons_of_mem _ h9)
  have hown : s.vm.findClass RX4 = some m.cls := findClass_of_methodNamed B.named
  have hlocks := B.notSynchronized
  have hS : va_S (fun _ => False) s.heap s.heap [] := va_S.rf
  have hP : va_P D vwCl [(mo, .inr (4, [.ref g, .ref pr, .ref hh, .ref rh, .ref aq, .ref ld, .int (nI lc), .ref nh, .ref ty])), (g, .inr (0, [.ref t, .ref v, .ref w, .int (nI n), .int (nI now), .int (oI cu)])), (t, .inl (ct 1, 3, .inr (.inr (.inr (.inr (tb_3 a0 a1 a2)))))), (a0, .inl (ct 0, R, .inl (aN X))), (a1, .inl (ct 0, R, .inl (aN Y))), (a2, .inl (ct 0, R, .inl (aN Z))), (v, .inl (ct 0, R, .inl (aN V))), (w, .inl (ct 0, R, .inl (aN E)))] s.heap := hP
  have hl := lv_entry ([.ref mo, .int (nI a), .int (nI b), .int (nI d), .int (nI vv)]) (n := 7) (Nat.le_of_ble_eq_true rfl)
  rw [lg_entry_eq]
  generalize (lg_sl ([.ref mo, .int (nI a), .int (nI b), .int (nI d), .int (nI vv)]) ++ List.replicate (7 - (lg_sl ([.ref mo, .int (nI a), .int (nI b), .int (nI d), .int (nI vv)])).length) Slot.unset).toArray = ls at hl ⊢
  have hl : lv_has ls 7 [(0, .ref mo), (1, .int (nI a)), (2, .int (nI b)), (3, .int (nI d)), (4, .int (nI vv))] := hl
  refine lv_aload_n hx hb dX4_add_0 rfl (lv_at hl 0 rfl) ?_
  refine lv_iload_n hx hb dX4_add_1 rfl (lv_at hl 1 rfl) ?_
  refine lv_iload_n hx hb dX4_add_2 rfl (lv_at hl 2 rfl) ?_
  refine lv_iload_n hx hb dX4_add_3 rfl (lv_at hl 3 rfl) ?_
  refine lv_iload hx hb dX4_add_4 (lv_at hl 4 rfl) ?_
  refine vp_callSi (va_Run.run (va_runV (As := [.int (nI a), .int (nI b), .int (nI d), .int (nI vv)]) (rest := []) ⟨hx, hb, hml, hown, hts⟩ (k_rchange_m3 l D ct mo g pr hh rh aq ld lc nh ty t a0 a1 a2 v w R n X Y Z V E now cu a b d vv ha hb9 hd hv hno hlow) (cwV 4 hts (gw_V (fun _ h => h) w_99 w_100 w_22 w_24 wcX4_refusalOfChange) rfl rfl rfl hvX4_refusalOfChange ⟨Nat.le_of_ble_eq_true rfl, Nat.le_of_ble_eq_true rfl⟩) (tb_prV hP hK hZ hS [0, 1, 2, 3, 4, 5, 6, 7] rfl (ci := 4) (q0 := 0) rfl rfl) rfl rfl hl.1 rfl (lv_room (Nat.le_of_ble_eq_true rfl)) dX4_add_6 ⟨Nat.zero_le _, Nat.zero_le _⟩)) (fun r_6 hr_6 => ?_)
  obtain rfl : r_6 = (-3) := hr_6
  refine lv_istore (lv' := [(5, .int (-3)), (0, .ref mo), (1, .int (nI a)), (2, .int (nI b)), (3, .int (nI d)), (4, .int (nI vv))]) hx hb dX4_add_9 hl (by decide) rfl (fun ls hl => ?_)
  refine lv_iload hx hb dX4_add_11 (lv_at hl 0 rfl) ?_
  refine lv_if_eq (tgt := 19) hx hb dX4_add_13 (by decide) (fun c13 => ?_) (fun c13 => ?_)
  · exact absurd c13 (by decide)
  · refine lv_iload hx hb dX4_add_16 (lv_at hl 0 rfl) ?_
    exact W.iret (v := (-3)) hx hb hr (fun t ht hW => ⟨_, rfl, rfl, ht⟩) (fun q h => by cases h) dX4_add_18

set_option maxHeartbeats 4000000 in
set_option maxRecDepth 100000 in
theorem k_add_0 (l : Launch) (D : va_G) (ct : Nat → ClassId) (mo : Nat) (g : Nat) (pr : Nat) (hh : Nat) (rh : Nat) (aq : Nat) (ld : Nat) (lc : Nat) (nh : Nat) (ty : Nat) (t : Nat) (a0 : Nat) (a1 : Nat) (a2 : Nat) (v : Nat) (w : Nat) (R : Nat) (n : Nat) (X : Nat → Nat) (Y : Nat → Nat) (Z : Nat → Nat) (V : Nat → Nat) (E : Nat → Nat) (now : Nat) (cu : Option Nat) (pa : Nat → Nat) (ta : Nat → Nat) (ka : Nat → Nat) (ga : Nat → Nat) (nt : Nat) (F : Nat → Nat → Nat) (Qf : Nat → Nat) (Zf : Nat → Nat → Nat) (a : Nat) (b : Nat) (d : Nat) (vv : Nat) (hn : n ≤ R) (hR : R ≤ 400) (hnt : nt ≤ R) (hFs : ∀ i, i < 6 → tS (F i) nt) (hFb : ∀ i j, F i j < 2 ^ 31) (hQ : ∀ i, i < 6 → Qf i ≤ nt) (hsm : ∀ i, i < 6 → tSum (Zf i) (Qf i) = nt) (hzb : ∀ i j, Zf i j ≤ 1000) (hzp : ∀ i, i < 6 → ∀ j, j < Qf i → 0 < Zf i j) (ha : a < 1000) (hb9 : b < 1000) (hd : d < 1000) (hv : vv < 1000001) (hno : now ≤ vv) (hhas : tHas (F 0) nt (tKeyOf 0 a b d)) : Met l yX4_add wsX4_add ({ frames := 3, cells := 0, slots := 0, locals := 69 }) (tb_Pr D ct [.ref mo, .int (nI a), .int (nI b), .int (nI d), .int (nI vv)] [(mo, .inr (4, [.ref g, .ref pr, .ref hh, .ref rh, .ref aq, .ref ld, .int (nI lc), .ref nh, .ref ty])), (g, .inr (0, [.ref t, .ref v, .ref w, .int (nI n), .int (nI now), .int (oI cu)])), (t, .inl (ct 1, 3, .inr (.inr (.inr (.inr (tb_3 a0 a1 a2)))))), (a0, .inl (ct 0, R, .inl (aN X))), (a1, .inl (ct 0, R, .inl (aN Y))), (a2, .inl (ct 0, R, .inl (aN Z))), (v, .inl (ct 0, R, .inl (aN V))), (w, .inl (ct 0, R, .inl (aN E))), (pr, .inl (ct 3, 6, .inr (.inr (.inr (.inr (sF pa)))))), (pa 0, .inr (1, [.ref (ta 0), .ref (ga 0), .int (nI (Qf 0))])), (ta 0, .inr (3, [.ref (ka 0), .int (nI nt)])), (ka 0, .inl (ct 0, R, .inl (aN (F 0)))), (ga 0, .inl (ct 0, R, .inl (aN (Zf 0))))]) (vp_Si (fun r => r = nI 0)) 0 0 (fun _ => False) := by
  refine Met.ofW (cc := cX4_add) (maxL := 7) (ret := (some .int)) (by decide) rfl ?_
  intro p e s m args below meth c s₁ B hml hv
  obtain ⟨rfl, hP, hK, hZ⟩ := hv
  have hx := B.exec
  have hb := B.bytes
  have hr := B.returns
  have hts0 := atoms_spec (ws := wsX4_add) B.pre
  have hts : ∀ w9 ∈ aw, w9.before ([.ref mo, .int (nI a), .int (nI b), .int (nI d), .int (nI vv)] : List Value).toArray s = true := fun w9 h9 => hts0 w9 (List.mem_cons_of_mem _ h9)
  have hown : s.vm.findClass RX4 = some m.cls := findClass_of_methodNamed B.named
  have hlocks := B.notSynchronized
  have hS : va_S (fun _ => False) s.heap s.heap [] := va_S.rf
  have hP : va_P D vwCl [(mo, .inr (4, [.ref g, .ref pr, .ref hh, .ref rh, .ref aq, .ref ld, .int (nI lc), .ref nh, .ref ty])), (g, .inr (0, [.ref t, .ref v, .ref w, .int (nI n), .int (nI now), .int (oI cu)])), (t, .inl (ct 1, 3, .inr (.inr (.inr (.inr (tb_3 a0 a1 a2)))))), (a0, .inl (ct 0, R, .inl (aN X))), (a1, .inl (ct 0, R, .inl (aN Y))), (a2, .inl (ct 0, R, .inl (aN Z))), (v, .inl (ct 0, R, .inl (aN V))), (w, .inl (ct 0, R, .inl (aN E))), (pr, .inl (ct 3, 6, .inr (.inr (.inr (.inr (sF pa)))))), (pa 0, .inr (1, [.ref (ta 0), .ref (ga 0), .int (nI (Qf 0))])), (ta 0, .inr (3, [.ref (ka 0), .int (nI nt)])), (ka 0, .inl (ct 0, R, .inl (aN (F 0)))), (ga 0, .inl (ct 0, R, .inl (aN (Zf 0))))] s.heap := hP
  have hl := lv_entry ([.ref mo, .int (nI a), .int (nI b), .int (nI d), .int (nI vv)]) (n := 7) (Nat.le_of_ble_eq_true rfl)
  rw [lg_entry_eq]
  generalize (lg_sl ([.ref mo, .int (nI a), .int (nI b), .int (nI d), .int (nI vv)]) ++ List.replicate (7 - (lg_sl ([.ref mo, .int (nI a), .int (nI b), .int (nI d), .int (nI vv)])).length) Slot.unset).toArray = ls at hl ⊢
  have hl : lv_has ls 7 [(0, .ref mo), (1, .int (nI a)), (2, .int (nI b)), (3, .int (nI d)), (4, .int (nI vv))] := hl
  refine lv_aload_n hx hb dX4_add_0 rfl (lv_at hl 0 rfl) ?_
  refine lv_iload_n hx hb dX4_add_1 rfl (lv_at hl 1 rfl) ?_
  refine lv_iload_n hx hb dX4_add_2 rfl (lv_at hl 2 rfl) ?_
  refine lv_iload_n hx hb dX4_add_3 rfl (lv_at hl 3 rfl) ?_
  refine lv_iload hx hb dX4_add_4 (lv_at hl 4 rfl) ?_
  refine vp_callSi (va_Run.run (va_runV (As := [.int (nI a), .int (nI b), .int (nI d), .int (nI vv)]) (rest := []) ⟨hx, hb, hml, hown, hts⟩ (k_rchange_0 l D ct mo g pr hh rh aq ld lc nh ty t a0 a1 a2 v w R n X Y Z V E now cu a b d vv ha hb9 hd hv hno) (cwV 4 hts (gw_V (fun _ h => h) w_99 w_100 w_22 w_24 wcX4_refusalOfChange) rfl rfl rfl hvX4_refusalOfChange ⟨Nat.le_of_ble_eq_true rfl, Nat.le_of_ble_eq_true rfl⟩) (tb_prV hP hK hZ hS [0, 1, 2, 3, 4, 5, 6, 7] rfl (ci := 4) (q0 := 0) rfl rfl) rfl rfl hl.1 rfl (lv_room (Nat.le_of_ble_eq_true rfl)) dX4_add_6 ⟨Nat.zero_le _, Nat.zero_le _⟩)) (fun r_6 hr_6 => ?_)
  obtain rfl : r_6 = nI 0 := hr_6
  refine lv_istore (lv' := [(5, .int (nI 0)), (0, .ref mo), (1, .int (nI a)), (2, .int (nI b)), (3, .int (nI d)), (4, .int (nI vv))]) hx hb dX4_add_9 hl (by decide) rfl (fun ls hl => ?_)
  refine lv_iload hx hb dX4_add_11 (lv_at hl 0 rfl) ?_
  refine tb_if_eq (tgt := 19) hx hb dX4_add_13 (by decide) (by omega) (fun c13 => ?_) (fun c13 => ?_)
  · refine lv_aload_n hx hb dX4_add_19 rfl (lv_at hl 1 rfl) ?_
    refine lv_iload_n hx hb dX4_add_20 rfl (lv_at hl 2 rfl) ?_
    refine lv_iload_n hx hb dX4_add_21 rfl (lv_at hl 3 rfl) ?_
    refine lv_iload_n hx hb dX4_add_22 rfl (lv_at hl 4 rfl) ?_
    refine vp_callSi (va_Run.run (va_runV (As := [.int (nI a), .int (nI b), .int (nI d)]) (rest := []) ⟨hx, hb, hml, hown, hts⟩ (k_isThereNow l D ct mo g pr hh rh aq ld lc nh ty R pa ta ka ga nt F Qf Zf a b d hR hnt hFs hFb hQ hsm hzb hzp ha hb9 hd) (cwV 3 hts (gw_V (fun _ h => h) w_108 w_109 w_21 w_24 wcX4_isThereNow) rfl rfl rfl hvX4_isThereNow ⟨Nat.le_of_ble_eq_true rfl, Nat.le_of_ble_eq_true rfl⟩) (tb_prV hP hK hZ hS [0, 8, 9, 10, 11, 12] rfl (ci := 4) (q0 := 0) rfl rfl) rfl rfl hl.1 rfl (lv_room (Nat.le_of_ble_eq_true rfl)) dX4_add_23 ⟨Nat.zero_le _, Nat.zero_le _⟩)) (fun r_23 hr_23 => ?_)
    obtain rfl : r_23 = bB (decide (tHas (F 0) nt (tKeyOf 0 a b d))) := hr_23
    refine tb_if_eqB (tgt := 31) hx hb dX4_add_26 (by decide) (fun c26 => ?_) (fun c26 => ?_)
    · exact absurd hhas c26
    · refine lv_iconst (v := nI 0) hx hb dX4_add_29 (by decide) ?_
      exact W.iret (v := nI 0) hx hb hr (fun t ht hW => ⟨_, rfl, rfl, ht⟩) (fun q h => by cases h) dX4_add_30
  · exact absurd c13 (by decide)

set_option maxHeartbeats 4000000 in
set_option maxRecDepth 100000 in
theorem k_add_m4 (l : Launch) (D : va_G) (ct : Nat → ClassId) (mo : Nat) (g : Nat) (pr : Nat) (hh : Nat) (rh : Nat) (aq : Nat) (ld : Nat) (lc : Nat) (nh : Nat) (ty : Nat) (t : Nat) (a0 : Nat) (a1 : Nat) (a2 : Nat) (v : Nat) (w : Nat) (R : Nat) (n : Nat) (X : Nat → Nat) (Y : Nat → Nat) (Z : Nat → Nat) (V : Nat → Nat) (E : Nat → Nat) (now : Nat) (cu : Option Nat) (pa : Nat → Nat) (ta : Nat → Nat) (ka : Nat → Nat) (ga : Nat → Nat) (nt : Nat) (F : Nat → Nat → Nat) (Qf : Nat → Nat) (Zf : Nat → Nat → Nat) (a : Nat) (b : Nat) (d : Nat) (vv : Nat) (hn : n ≤ R) (hR : R ≤ 400) (hnt : nt ≤ R) (hFs : ∀ i, i < 6 → tS (F i) nt) (hFb : ∀ i j, F i j < 2 ^ 31) (hQ : ∀ i, i < 6 → Qf i ≤ nt) (hsm : ∀ i, i < 6 → tSum (Zf i) (Qf i) = nt) (hzb : ∀ i j, Zf i j ≤ 1000) (hzp : ∀ i, i < 6 → ∀ j, j < Qf i → 0 < Zf i j) (ha : a < 1000) (hb9 : b < 1000) (hd : d < 1000) (hv : vv < 1000001) (hno : now ≤ vv) (hhas : ¬ tHas (F 0) nt (tKeyOf 0 a b d)) (hfull : R ≤ n) : Met l yX4_add wsX4_add ({ frames := 3, cells := 0, slots := 0, locals := 69 }) (tb_Pr D ct [.ref mo, .int (nI a), .int (nI b), .int (nI d), .int (nI vv)] [(mo, .inr (4, [.ref g, .ref pr, .ref hh, .ref rh, .ref aq, .ref ld, .int (nI lc), .ref nh, .ref ty])), (g, .inr (0, [.ref t, .ref v, .ref w, .int (nI n), .int (nI now), .int (oI cu)])), (t, .inl (ct 1, 3, .inr (.inr (.inr (.inr (tb_3 a0 a1 a2)))))), (a0, .inl (ct 0, R, .inl (aN X))), (a1, .inl (ct 0, R, .inl (aN Y))), (a2, .inl (ct 0, R, .inl (aN Z))), (v, .inl (ct 0, R, .inl (aN V))), (w, .inl (ct 0, R, .inl (aN E))), (pr, .inl (ct 3, 6, .inr (.inr (.inr (.inr (sF pa)))))), (pa 0, .inr (1, [.ref (ta 0), .ref (ga 0), .int (nI (Qf 0))])), (ta 0, .inr (3, [.ref (ka 0), .int (nI nt)])), (ka 0, .inl (ct 0, R, .inl (aN (F 0)))), (ga 0, .inl (ct 0, R, .inl (aN (Zf 0))))]) (vp_Si (fun r => r = (-4))) 0 0 (fun _ => False) := by
  refine Met.ofW (cc := cX4_add) (maxL := 7) (ret := (some .int)) (by decide) rfl ?_
  intro p e s m args below meth c s₁ B hml hv
  obtain ⟨rfl, hP, hK, hZ⟩ := hv
  have hx := B.exec
  have hb := B.bytes
  have hr := B.returns
  have hts0 := atoms_spec (ws := wsX4_add) B.pre
  have hts : ∀ w9 ∈ aw, w9.before ([.ref mo, .int (nI a), .int (nI b), .int (nI d), .int (nI vv)] : List Value).toArray s = true := fun w9 h9 => hts0 w9 (List.mem_cons_of_mem _ h9)
  have hown : s.vm.findClass RX4 = some m.cls := findClass_of_methodNamed B.named
  have hlocks := B.notSynchronized
  have hS : va_S (fun _ => False) s.heap s.heap [] := va_S.rf
  have hP : va_P D vwCl [(mo, .inr (4, [.ref g, .ref pr, .ref hh, .ref rh, .ref aq, .ref ld, .int (nI lc), .ref nh, .ref ty])), (g, .inr (0, [.ref t, .ref v, .ref w, .int (nI n), .int (nI now), .int (oI cu)])), (t, .inl (ct 1, 3, .inr (.inr (.inr (.inr (tb_3 a0 a1 a2)))))), (a0, .inl (ct 0, R, .inl (aN X))), (a1, .inl (ct 0, R, .inl (aN Y))), (a2, .inl (ct 0, R, .inl (aN Z))), (v, .inl (ct 0, R, .inl (aN V))), (w, .inl (ct 0, R, .inl (aN E))), (pr, .inl (ct 3, 6, .inr (.inr (.inr (.inr (sF pa)))))), (pa 0, .inr (1, [.ref (ta 0), .ref (ga 0), .int (nI (Qf 0))])), (ta 0, .inr (3, [.ref (ka 0), .int (nI nt)])), (ka 0, .inl (ct 0, R, .inl (aN (F 0)))), (ga 0, .inl (ct 0, R, .inl (aN (Zf 0))))] s.heap := hP
  have hl := lv_entry ([.ref mo, .int (nI a), .int (nI b), .int (nI d), .int (nI vv)]) (n := 7) (Nat.le_of_ble_eq_true rfl)
  rw [lg_entry_eq]
  generalize (lg_sl ([.ref mo, .int (nI a), .int (nI b), .int (nI d), .int (nI vv)]) ++ List.replicate (7 - (lg_sl ([.ref mo, .int (nI a), .int (nI b), .int (nI d), .int (nI vv)])).length) Slot.unset).toArray = ls at hl ⊢
  have hl : lv_has ls 7 [(0, .ref mo), (1, .int (nI a)), (2, .int (nI b)), (3, .int (nI d)), (4, .int (nI vv))] := hl
  refine lv_aload_n hx hb dX4_add_0 rfl (lv_at hl 0 rfl) ?_
  refine lv_iload_n hx hb dX4_add_1 rfl (lv_at hl 1 rfl) ?_
  refine lv_iload_n hx hb dX4_add_2 rfl (lv_at hl 2 rfl) ?_
  refine lv_iload_n hx hb dX4_add_3 rfl (lv_at hl 3 rfl) ?_
  refine lv_iload hx hb dX4_add_4 (lv_at hl 4 rfl) ?_
  refine vp_callSi (va_Run.run (va_runV (As := [.int (nI a), .int (nI b), .int (nI d), .int (nI vv)]) (rest := []) ⟨hx, hb, hml, hown, hts⟩ (k_rchange_0 l D ct mo g pr hh rh aq ld lc nh ty t a0 a1 a2 v w R n X Y Z V E now cu a b d vv ha hb9 hd hv hno) (cwV 4 hts (gw_V (fun _ h => h) w_99 w_100 w_22 w_24 wcX4_refusalOfChange) rfl rfl rfl hvX4_refusalOfChange ⟨Nat.le_of_ble_eq_true rfl, Nat.le_of_ble_eq_true rfl⟩) (tb_prV hP hK hZ hS [0, 1, 2, 3, 4, 5, 6, 7] rfl (ci := 4) (q0 := 0) rfl rfl) rfl rfl hl.1 rfl (lv_room (Nat.le_of_ble_eq_true rfl)) dX4_add_6 ⟨Nat.zero_le _, Nat.zero_le _⟩)) (fun r_6 hr_6 => ?_)
  obtain rfl : r_6 = nI 0 := hr_6
  refine lv_istore (lv' := [(5, .int (nI 0)), (0, .ref mo), (1, .int (nI a)), (2, .int (nI b)), (3, .int (nI d)), (4, .int (nI vv))]) hx hb dX4_add_9 hl (by decide) rfl (fun ls hl => ?_)
  refine lv_iload hx hb dX4_add_11 (lv_at hl 0 rfl) ?_
  refine tb_if_eq (tgt := 19) hx hb dX4_add_13 (by decide) (by omega) (fun c13 => ?_) (fun c13 => ?_)
  · refine lv_aload_n hx hb dX4_add_19 rfl (lv_at hl 1 rfl) ?_
    refine lv_iload_n hx hb dX4_add_20 rfl (lv_at hl 2 rfl) ?_
    refine lv_iload_n hx hb dX4_add_21 rfl (lv_at hl 3 rfl) ?_
    refine lv_iload_n hx hb dX4_add_22 rfl (lv_at hl 4 rfl) ?_
    refine vp_callSi (va_Run.run (va_runV (As := [.int (nI a), .int (nI b), .int (nI d)]) (rest := []) ⟨hx, hb, hml, hown, hts⟩ (k_isThereNow l D ct mo g pr hh rh aq ld lc nh ty R pa ta ka ga nt F Qf Zf a b d hR hnt hFs hFb hQ hsm hzb hzp ha hb9 hd) (cwV 3 hts (gw_V (fun _ h => h) w_108 w_109 w_21 w_24 wcX4_isThereNow) rfl rfl rfl hvX4_isThereNow ⟨Nat.le_of_ble_eq_true rfl, Nat.le_of_ble_eq_true rfl⟩) (tb_prV hP hK hZ hS [0, 8, 9, 10, 11, 12] rfl (ci := 4) (q0 := 0) rfl rfl) rfl rfl hl.1 rfl (lv_room (Nat.le_of_ble_eq_true rfl)) dX4_add_23 ⟨Nat.zero_le _, Nat.zero_le _⟩)) (fun r_23 hr_23 => ?_)
    obtain rfl : r_23 = bB (decide (tHas (F 0) nt (tKeyOf 0 a b d))) := hr_23
    refine tb_if_eqB (tgt := 31) hx hb dX4_add_26 (by decide) (fun c26 => ?_) (fun c26 => ?_)
    · refine lv_aload_n hx hb dX4_add_31 rfl (lv_at hl 1 rfl) ?_
      refine va_get (D := D) (ci := 4) (v := .ref g) (C := RX4) (T := TX4) (N := 9) hx hb hts inX4 hown hK hP 0 rfl rfl 0 (by decide) (hts _ w_87) (fun _ h9 => h9) rfl dX4_add_32 ?_
      refine vp_callSi (va_Run.run (va_runV (As := []) (rest := []) ⟨hx, hb, hml, hown, hts⟩ (k_Log_isFull l D ct g t a0 a1 a2 v w R n X Y Z V E now cu hn hR) (cwV 0 hts (gw_V (fun _ h => h) w_123 w_124 w_125 w_26 wcX0_isFull) rfl rfl rfl hvX0_isFull ⟨Nat.le_of_ble_eq_true rfl, Nat.le_of_ble_eq_true rfl⟩) (tb_prV hP hK hZ hS [1, 2, 3, 4, 5, 6, 7] rfl (ci := 0) (q0 := 0) rfl rfl) rfl rfl hl.1 rfl (lv_room (Nat.le_of_ble_eq_true rfl)) dX4_add_35 ⟨Nat.zero_le _, Nat.zero_le _⟩)) (fun r_35 hr_35 => ?_)
      obtain rfl : r_35 = bB (decide (R ≤ n)) := hr_35
      refine tb_if_eqB (tgt := 44) hx hb dX4_add_38 (by decide) (fun c38 => ?_) (fun c38 => ?_)
      · exact absurd hfull c38
      · refine lv_bipush (v := (-4)) hx hb dX4_add_41 (by decide) ?_
        exact W.iret (v := (-4)) hx hb hr (fun t ht hW => ⟨_, rfl, rfl, ht⟩) (fun q h => by cases h) dX4_add_43
    · exact absurd c26 hhas
  · exact absurd c13 (by decide)

set_option maxHeartbeats 4000000 in
set_option maxRecDepth 100000 in
theorem k_remove_m2 (l : Launch) (D : va_G) (ct : Nat → ClassId) (mo : Nat) (g : Nat) (pr : Nat) (hh : Nat) (rh : Nat) (aq : Nat) (ld : Nat) (lc : Nat) (nh : Nat) (ty : Nat) (x : Int32) (y : Int32) (u : Int32) (vv : Int32) (hbad : ¬ ((tRng x 1000 ∧ tRng y 1000 ∧ tRng u 1000) ∧ tRng vv 1000001)) : Met l yX4_remove wsX4_remove ({ frames := 3, cells := 0, slots := 0, locals := 66 }) (tb_Pr D ct [.ref mo, .int x, .int y, .int u, .int vv] [(mo, .inr (4, [.ref g, .ref pr, .ref hh, .ref rh, .ref aq, .ref ld, .int (nI lc), .ref nh, .ref ty]))]) (vp_Si (fun r => r = (-2))) 0 0 (fun _ => False) := by
  refine Met.ofW (cc := cX4_remove) (maxL := 7) (ret := (some .int)) (by decide) rfl ?_
  intro p e s m args below meth c s₁ B hml hv
  obtain ⟨rfl, hP, hK, hZ⟩ := hv
  have hx := B.exec
  have hb := B.bytes
  have hr := B.returns
  have hts0 := atoms_spec (ws := wsX4_remove) B.pre
  have hts : ∀ w9 ∈ aw, w9.before ([.ref mo, .int x, .int y, .int u, .int vv] : List Value).toArray s = true := fun w9 h9 => hts0 w9 (List.mem_cons_of_mem _ h9)
  have hown : s.vm.findClass RX4 = some m.cls := findClass_of_methodNamed B.named
  have hlocks := B.notSynchronized
  have hS : va_S (fun _ => False) s.heap s.heap [] := va_S.rf
  have hP : va_P D vwCl [(mo, .inr (4, [.ref g, .ref pr, .ref hh, .ref rh, .ref aq, .ref ld, .int (nI lc), .ref nh, .ref ty]))] s.heap := hP
  have hl := lv_entry ([.ref mo, .int x, .int y, .int u, .int vv]) (n := 7) (Nat.le_of_ble_eq_true rfl)
  rw [lg_entry_eq]
  generalize (lg_sl ([.ref mo, .int x, .int y, .int u, .int vv]) ++ List.replicate (7 - (lg_sl ([.ref mo, .int x, .int y, .int u, .int vv])).length) Slot.unset).toArray = ls at hl ⊢
  have hl : lv_has ls 7 [(0, .ref mo), (1, .int x), (2, .int y), (3, .int u), (4, .int vv)] := hl
  refine lv_aload_n hx hb dX4_remove_0 rfl (lv_at hl 0 rfl) ?_
  refine lv_iload_n hx hb dX4_remove_1 rfl (lv_at hl 1 rfl) ?_
  refine lv_iload_n hx hb dX4_remove_2 rfl (lv_at hl 2 rfl) ?_
  refine lv_iload_n hx hb dX4_remove_3 rfl (lv_at hl 3 rfl) ?_
  refine lv_iload hx hb dX4_remove_4 (lv_at hl 4 rfl) ?_
  refine vp_callSi (va_Run.run (va_runV (As := [.int x, .int y, .int u, .int vv]) (rest := []) ⟨hx, hb, hml, hown, hts⟩ (k_rchange_m2 l D ct mo g pr hh rh aq ld lc nh ty x y u vv hbad) (cwV 4 hts (gw_V (fun _ h => h) w_99 w_100 w_22 w_24 wcX4_refusalOfChange) rfl rfl rfl hvX4_refusalOfChange ⟨Nat.le_of_ble_eq_true rfl, Nat.le_of_ble_eq_true rfl⟩) (tb_prV hP hK hZ hS [0] rfl (ci := 4) (q0 := 0) rfl rfl) rfl rfl hl.1 rfl (lv_room (Nat.le_of_ble_eq_true rfl)) dX4_remove_6 ⟨Nat.zero_le _, Nat.zero_le _⟩)) (fun r_6 hr_6 => ?_)
  obtain rfl : r_6 = (-2) := hr_6
  refine lv_istore (lv' := [(5, .int (-2)), (0, .ref mo), (1, .int x), (2, .int y), (3, .int u), (4, .int vv)]) hx hb dX4_remove_9 hl (by decide) rfl (fun ls hl => ?_)
  refine lv_iload hx hb dX4_remove_11 (lv_at hl 0 rfl) ?_
  refine lv_if_eq (tgt := 19) hx hb dX4_remove_13 (by decide) (fun c13 => ?_) (fun c13 => ?_)
  · exact absurd c13 (by decide)
  · refine lv_iload hx hb dX4_remove_16 (lv_at hl 0 rfl) ?_
    exact W.iret (v := (-2)) hx hb hr (fun t ht hW => ⟨_, rfl, rfl, ht⟩) (fun q h => by cases h) dX4_remove_18

set_option maxHeartbeats 4000000 in
set_option maxRecDepth 100000 in
theorem k_remove_m3 (l : Launch) (D : va_G) (ct : Nat → ClassId) (mo : Nat) (g : Nat) (pr : Nat) (hh : Nat) (rh : Nat) (aq : Nat) (ld : Nat) (lc : Nat) (nh : Nat) (ty : Nat) (t : Nat) (a0 : Nat) (a1 : Nat) (a2 : Nat) (v : Nat) (w : Nat) (R : Nat) (n : Nat) (X : Nat → Nat) (Y : Nat → Nat) (Z : Nat → Nat) (V : Nat → Nat) (E : Nat → Nat) (now : Nat) (cu : Option Nat) (a : Nat) (b : Nat) (d : Nat) (vv : Nat) (ha : a < 1000) (hb9 : b < 1000) (hd : d < 1000) (hv : vv < 1000001) (hno : now < 2 ^ 31) (hlow : vv < now) : Met l yX4_remove wsX4_remove ({ frames := 3, cells := 0, slots := 0, locals := 66 }) (tb_Pr D ct [.ref mo, .int (nI a), .int (nI b), .int (nI d), .int (nI vv)] [(mo, .inr (4, [.ref g, .ref pr, .ref hh, .ref rh, .ref aq, .ref ld, .int (nI lc), .ref nh, .ref ty])), (g, .inr (0, [.ref t, .ref v, .ref w, .int (nI n), .int (nI now), .int (oI cu)])), (t, .inl (ct 1, 3, .inr (.inr (.inr (.inr (tb_3 a0 a1 a2)))))), (a0, .inl (ct 0, R, .inl (aN X))), (a1, .inl (ct 0, R, .inl (aN Y))), (a2, .inl (ct 0, R, .inl (aN Z))), (v, .inl (ct 0, R, .inl (aN V))), (w, .inl (ct 0, R, .inl (aN E)))]) (vp_Si (fun r => r = (-3))) 0 0 (fun _ => False) := by
  refine Met.ofW (cc := cX4_remove) (maxL := 7) (ret := (some .int)) (by decide) rfl ?_
  intro p e s m args below meth c s₁ B hml hv
  obtain ⟨rfl, hP, hK, hZ⟩ := hv
  have hx := B.exec
  have hb := B.bytes
  have hr := B.returns
  have hts0 := atoms_spec (ws := wsX4_remove) B.pre
  have hts : ∀ w9 ∈ aw, w9.before ([.ref mo, .int (nI a), .int (nI b), .int (nI d), .int (nI vv)] : List Value).toArray s = true := fun w9 h9 => hts0 w9 (List.mem_cons_of_mem _ h9)
  have hown : s.vm.findClass RX4 = some m.cls := findClass_of_methodNamed B.named
  have hlocks := B.notSynchronized
  have hS : va_S (fun _ => False) s.heap s.heap [] := va_S.rf
  have hP : va_P D vwCl [(mo, .inr (4, [.ref g, .ref pr, .ref hh, .ref rh, .ref aq, .ref ld, .int (nI lc), .ref nh, .ref ty])), (g, .inr (0, [.ref t, .ref v, .ref w, .int (nI n), .int (nI now), .int (oI cu)])), (t, .inl (ct 1, 3, .inr (.inr (.inr (.inr (tb_3 a0 a1 a2)))))), (a0, .inl (ct 0, R, .inl (aN X))), (a1, .inl (ct 0, R, .inl (aN Y))), (a2, .inl (ct 0, R, .inl (aN Z))), (v, .inl (ct 0, R, .inl (aN V))), (w, .inl (ct 0, R, .inl (aN E)))] s.heap := hP
  have hl := lv_entry ([.ref mo, .int (nI a), .int (nI b), .int (nI d), .int (nI vv)]) (n := 7) (Nat.le_of_ble_eq_true rfl)
  rw [lg_entry_eq]
  generalize (lg_sl ([.ref mo, .int (nI a), .int (nI b), .int (nI d), .int (nI vv)]) ++ List.replicate (7 - (lg_sl ([.ref mo, .int (nI a), .int (nI b), .int (nI d), .int (nI vv)])).length) Slot.unset).toArray = ls at hl ⊢
  have hl : lv_has ls 7 [(0, .ref mo), (1, .int (nI a)), (2, .int (nI b)), (3, .int (nI d)), (4, .int (nI vv))] := hl
  refine lv_aload_n hx hb dX4_remove_0 rfl (lv_at hl 0 rfl) ?_
  refine lv_iload_n hx hb dX4_remove_1 rfl (lv_at hl 1 rfl) ?_
  refine lv_iload_n hx hb dX4_remove_2 rfl (lv_at hl 2 rfl) ?_
  refine lv_iload_n hx hb dX4_remove_3 rfl (lv_at hl 3 rfl) ?_
  refine lv_iload hx hb dX4_remove_4 (lv_at hl 4 rfl) ?_
  refine vp_callSi (va_Run.run (va_runV (As := [.int (nI a), .int (nI b), .int (nI d), .int (nI vv)]) (rest := []) ⟨hx, hb, hml, hown, hts⟩ (k_rchange_m3 l D ct mo g pr hh rh aq ld lc nh ty t a0 a1 a2 v w R n X Y Z V E now cu a b d vv ha hb9 hd hv hno hlow) (cwV 4 hts (gw_V (fun _ h => h) w_99 w_100 w_22 w_24 wcX4_refusalOfChange) rfl rfl rfl hvX4_refusalOfChange ⟨Nat.le_of_ble_eq_true rfl, Nat.le_of_ble_eq_true rfl⟩) (tb_prV hP hK hZ hS [0, 1, 2, 3, 4, 5, 6, 7] rfl (ci := 4) (q0 := 0) rfl rfl) rfl rfl hl.1 rfl (lv_room (Nat.le_of_ble_eq_true rfl)) dX4_remove_6 ⟨Nat.zero_le _, Nat.zero_le _⟩)) (fun r_6 hr_6 => ?_)
  obtain rfl : r_6 = (-3) := hr_6
  refine lv_istore (lv' := [(5, .int (-3)), (0, .ref mo), (1, .int (nI a)), (2, .int (nI b)), (3, .int (nI d)), (4, .int (nI vv))]) hx hb dX4_remove_9 hl (by decide) rfl (fun ls hl => ?_)
  refine lv_iload hx hb dX4_remove_11 (lv_at hl 0 rfl) ?_
  refine lv_if_eq (tgt := 19) hx hb dX4_remove_13 (by decide) (fun c13 => ?_) (fun c13 => ?_)
  · exact absurd c13 (by decide)
  · refine lv_iload hx hb dX4_remove_16 (lv_at hl 0 rfl) ?_
    exact W.iret (v := (-3)) hx hb hr (fun t ht hW => ⟨_, rfl, rfl, ht⟩) (fun q h => by cases h) dX4_remove_18

set_option maxHeartbeats 4000000 in
set_option maxRecDepth 100000 in
theorem k_remove_0 (l : Launch) (D : va_G) (ct : Nat → ClassId) (mo : Nat) (g : Nat) (pr : Nat) (hh : Nat) (rh : Nat) (aq : Nat) (ld : Nat) (lc : Nat) (nh : Nat) (ty : Nat) (t : Nat) (a0 : Nat) (a1 : Nat) (a2 : Nat) (v : Nat) (w : Nat) (R : Nat) (n : Nat) (X : Nat → Nat) (Y : Nat → Nat) (Z : Nat → Nat) (V : Nat → Nat) (E : Nat → Nat) (now : Nat) (cu : Option Nat) (pa : Nat → Nat) (ta : Nat → Nat) (ka : Nat → Nat) (ga : Nat → Nat) (nt : Nat) (F : Nat → Nat → Nat) (Qf : Nat → Nat) (Zf : Nat → Nat → Nat) (a : Nat) (b : Nat) (d : Nat) (vv : Nat) (hn : n ≤ R) (hR : R ≤ 400) (hnt : nt ≤ R) (hFs : ∀ i, i < 6 → tS (F i) nt) (hFb : ∀ i j, F i j < 2 ^ 31) (hQ : ∀ i, i < 6 → Qf i ≤ nt) (hsm : ∀ i, i < 6 → tSum (Zf i) (Qf i) = nt) (hzb : ∀ i j, Zf i j ≤ 1000) (hzp : ∀ i, i < 6 → ∀ j, j < Qf i → 0 < Zf i j) (ha : a < 1000) (hb9 : b < 1000) (hd : d < 1000) (hv : vv < 1000001) (hno : now ≤ vv) (hhas : ¬ tHas (F 0) nt (tKeyOf 0 a b d)) : Met l yX4_remove wsX4_remove ({ frames := 3, cells := 0, slots := 0, locals := 69 }) (tb_Pr D ct [.ref mo, .int (nI a), .int (nI b), .int (nI d), .int (nI vv)] [(mo, .inr (4, [.ref g, .ref pr, .ref hh, .ref rh, .ref aq, .ref ld, .int (nI lc), .ref nh, .ref ty])), (g, .inr (0, [.ref t, .ref v, .ref w, .int (nI n), .int (nI now), .int (oI cu)])), (t, .inl (ct 1, 3, .inr (.inr (.inr (.inr (tb_3 a0 a1 a2)))))), (a0, .inl (ct 0, R, .inl (aN X))), (a1, .inl (ct 0, R, .inl (aN Y))), (a2, .inl (ct 0, R, .inl (aN Z))), (v, .inl (ct 0, R, .inl (aN V))), (w, .inl (ct 0, R, .inl (aN E))), (pr, .inl (ct 3, 6, .inr (.inr (.inr (.inr (sF pa)))))), (pa 0, .inr (1, [.ref (ta 0), .ref (ga 0), .int (nI (Qf 0))])), (ta 0, .inr (3, [.ref (ka 0), .int (nI nt)])), (ka 0, .inl (ct 0, R, .inl (aN (F 0)))), (ga 0, .inl (ct 0, R, .inl (aN (Zf 0))))]) (vp_Si (fun r => r = nI 0)) 0 0 (fun _ => False) := by
  refine Met.ofW (cc := cX4_remove) (maxL := 7) (ret := (some .int)) (by decide) rfl ?_
  intro p e s m args below meth c s₁ B hml hv
  obtain ⟨rfl, hP, hK, hZ⟩ := hv
  have hx := B.exec
  have hb := B.bytes
  have hr := B.returns
  have hts0 := atoms_spec (ws := wsX4_remove) B.pre
  have hts : ∀ w9 ∈ aw, w9.before ([.ref mo, .int (nI a), .int (nI b), .int (nI d), .int (nI vv)] : List Value).toArray s = true := fun w9 h9 => hts0 w9 (List.mem_cons_of_mem _ h9)
  have hown : s.vm.findClass RX4 = some m.cls := findClass_of_methodNamed B.named
  have hlocks := B.notSynchronized
  have hS : va_S (fun _ => False) s.heap s.heap [] := va_S.rf
  have hP : va_P D vwCl [(mo, .inr (4, [.ref g, .ref pr, .ref hh, .ref rh, .ref aq, .ref ld, .int (nI lc), .ref nh, .ref ty])), (g, .inr (0, [.ref t, .ref v, .ref w, .int (nI n), .int (nI now), .int (oI cu)])), (t, .inl (ct 1, 3, .inr (.inr (.inr (.inr (tb_3 a0 a1 a2)))))), (a0, .inl (ct 0, R, .inl (aN X))), (a1, .inl (ct 0, R, .inl (aN Y))), (a2, .inl (ct 0, R, .inl (aN Z))), (v, .inl (ct 0, R, .inl (aN V))), (w, .inl (ct 0, R, .inl (aN E))), (pr, .inl (ct 3, 6, .inr (.inr (.inr (.inr (sF pa)))))), (pa 0, .inr (1, [.ref (ta 0), .ref (ga 0), .int (nI (Qf 0))])), (ta 0, .inr (3, [.ref (ka 0), .int (nI nt)])), (ka 0, .inl (ct 0, R, .inl (aN (F 0)))), (ga 0, .inl (ct 0, R, .inl (aN (Zf 0))))] s.heap := hP
  have hl := lv_entry ([.ref mo, .int (nI a), .int (nI b), .int (nI d), .int (nI vv)]) (n := 7) (Nat.le_of_ble_eq_true rfl)
  rw [lg_entry_eq]
  generalize (lg_sl ([.ref mo, .int (nI a), .int (nI b), .int (nI d), .int (nI vv)]) ++ List.replicate (7 - (lg_sl ([.ref mo, .int (nI a), .int (nI b), .int (nI d), .int (nI vv)])).length) Slot.unset).toArray = ls at hl ⊢
  have hl : lv_has ls 7 [(0, .ref mo), (1, .int (nI a)), (2, .int (nI b)), (3, .int (nI d)), (4, .int (nI vv))] := hl
  refine lv_aload_n hx hb dX4_remove_0 rfl (lv_at hl 0 rfl) ?_
  refine lv_iload_n hx hb dX4_remove_1 rfl (lv_at hl 1 rfl) ?_
  refine lv_iload_n hx hb dX4_remove_2 rfl (lv_at hl 2 rfl) ?_
  refine lv_iload_n hx hb dX4_remove_3 rfl (lv_at hl 3 rfl) ?_
  refine lv_iload hx hb dX4_remove_4 (lv_at hl 4 rfl) ?_
  refine vp_callSi (va_Run.run (va_runV (As := [.int (nI a), .int (nI b), .int (nI d), .int (nI vv)]) (rest := []) ⟨hx, hb, hml, hown, hts⟩ (k_rchange_0 l D ct mo g pr hh rh aq ld lc nh ty t a0 a1 a2 v w R n X Y Z V E now cu a b d vv ha hb9 hd hv hno) (cwV 4 hts (gw_V (fun _ h => h) w_99 w_100 w_22 w_24 wcX4_refusalOfChange) rfl rfl rfl hvX4_refusalOfChange ⟨Nat.le_of_ble_eq_true rfl, Nat.le_of_ble_eq_true rfl⟩) (tb_prV hP hK hZ hS [0, 1, 2, 3, 4, 5, 6, 7] rfl (ci := 4) (q0 := 0) rfl rfl) rfl rfl hl.1 rfl (lv_room (Nat.le_of_ble_eq_true rfl)) dX4_remove_6 ⟨Nat.zero_le _, Nat.zero_le _⟩)) (fun r_6 hr_6 => ?_)
  obtain rfl : r_6 = nI 0 := hr_6
  refine lv_istore (lv' := [(5, .int (nI 0)), (0, .ref mo), (1, .int (nI a)), (2, .int (nI b)), (3, .int (nI d)), (4, .int (nI vv))]) hx hb dX4_remove_9 hl (by decide) rfl (fun ls hl => ?_)
  refine lv_iload hx hb dX4_remove_11 (lv_at hl 0 rfl) ?_
  refine tb_if_eq (tgt := 19) hx hb dX4_remove_13 (by decide) (by omega) (fun c13 => ?_) (fun c13 => ?_)
  · refine lv_aload_n hx hb dX4_remove_19 rfl (lv_at hl 1 rfl) ?_
    refine lv_iload_n hx hb dX4_remove_20 rfl (lv_at hl 2 rfl) ?_
    refine lv_iload_n hx hb dX4_remove_21 rfl (lv_at hl 3 rfl) ?_
    refine lv_iload_n hx hb dX4_remove_22 rfl (lv_at hl 4 rfl) ?_
    refine vp_callSi (va_Run.run (va_runV (As := [.int (nI a), .int (nI b), .int (nI d)]) (rest := []) ⟨hx, hb, hml, hown, hts⟩ (k_isThereNow l D ct mo g pr hh rh aq ld lc nh ty R pa ta ka ga nt F Qf Zf a b d hR hnt hFs hFb hQ hsm hzb hzp ha hb9 hd) (cwV 3 hts (gw_V (fun _ h => h) w_108 w_109 w_21 w_24 wcX4_isThereNow) rfl rfl rfl hvX4_isThereNow ⟨Nat.le_of_ble_eq_true rfl, Nat.le_of_ble_eq_true rfl⟩) (tb_prV hP hK hZ hS [0, 8, 9, 10, 11, 12] rfl (ci := 4) (q0 := 0) rfl rfl) rfl rfl hl.1 rfl (lv_room (Nat.le_of_ble_eq_true rfl)) dX4_remove_23 ⟨Nat.zero_le _, Nat.zero_le _⟩)) (fun r_23 hr_23 => ?_)
    obtain rfl : r_23 = bB (decide (tHas (F 0) nt (tKeyOf 0 a b d))) := hr_23
    refine tb_if_neB (tgt := 31) hx hb dX4_remove_26 (by decide) (fun c26 => ?_) (fun c26 => ?_)
    · exact absurd c26 hhas
    · refine lv_iconst (v := nI 0) hx hb dX4_remove_29 (by decide) ?_
      exact W.iret (v := nI 0) hx hb hr (fun t ht hW => ⟨_, rfl, rfl, ht⟩) (fun q h => by cases h) dX4_remove_30
  · exact absurd c13 (by decide)

set_option maxHeartbeats 4000000 in
set_option maxRecDepth 100000 in
theorem k_remove_m4 (l : Launch) (D : va_G) (ct : Nat → ClassId) (mo : Nat) (g : Nat) (pr : Nat) (hh : Nat) (rh : Nat) (aq : Nat) (ld : Nat) (lc : Nat) (nh : Nat) (ty : Nat) (t : Nat) (a0 : Nat) (a1 : Nat) (a2 : Nat) (v : Nat) (w : Nat) (R : Nat) (n : Nat) (X : Nat → Nat) (Y : Nat → Nat) (Z : Nat → Nat) (V : Nat → Nat) (E : Nat → Nat) (now : Nat) (cu : Option Nat) (pa : Nat → Nat) (ta : Nat → Nat) (ka : Nat → Nat) (ga : Nat → Nat) (nt : Nat) (F : Nat → Nat → Nat) (Qf : Nat → Nat) (Zf : Nat → Nat → Nat) (a : Nat) (b : Nat) (d : Nat) (vv : Nat) (hn : n ≤ R) (hR : R ≤ 400) (hnt : nt ≤ R) (hFs : ∀ i, i < 6 → tS (F i) nt) (hFb : ∀ i j, F i j < 2 ^ 31) (hQ : ∀ i, i < 6 → Qf i ≤ nt) (hsm : ∀ i, i < 6 → tSum (Zf i) (Qf i) = nt) (hzb : ∀ i j, Zf i j ≤ 1000) (hzp : ∀ i, i < 6 → ∀ j, j < Qf i → 0 < Zf i j) (ha : a < 1000) (hb9 : b < 1000) (hd : d < 1000) (hv : vv < 1000001) (hno : now ≤ vv) (hhas : tHas (F 0) nt (tKeyOf 0 a b d)) (hfull : R ≤ n) : Met l yX4_remove wsX4_remove ({ frames := 3, cells := 0, slots := 0, locals := 69 }) (tb_Pr D ct [.ref mo, .int (nI a), .int (nI b), .int (nI d), .int (nI vv)] [(mo, .inr (4, [.ref g, .ref pr, .ref hh, .ref rh, .ref aq, .ref ld, .int (nI lc), .ref nh, .ref ty])), (g, .inr (0, [.ref t, .ref v, .ref w, .int (nI n), .int (nI now), .int (oI cu)])), (t, .inl (ct 1, 3, .inr (.inr (.inr (.inr (tb_3 a0 a1 a2)))))), (a0, .inl (ct 0, R, .inl (aN X))), (a1, .inl (ct 0, R, .inl (aN Y))), (a2, .inl (ct 0, R, .inl (aN Z))), (v, .inl (ct 0, R, .inl (aN V))), (w, .inl (ct 0, R, .inl (aN E))), (pr, .inl (ct 3, 6, .inr (.inr (.inr (.inr (sF pa)))))), (pa 0, .inr (1, [.ref (ta 0), .ref (ga 0), .int (nI (Qf 0))])), (ta 0, .inr (3, [.ref (ka 0), .int (nI nt)])), (ka 0, .inl (ct 0, R, .inl (aN (F 0)))), (ga 0, .inl (ct 0, R, .inl (aN (Zf 0))))]) (vp_Si (fun r => r = (-4))) 0 0 (fun _ => False) := by
  refine Met.ofW (cc := cX4_remove) (maxL := 7) (ret := (some .int)) (by decide) rfl ?_
  intro p e s m args below meth c s₁ B hml hv
  obtain ⟨rfl, hP, hK, hZ⟩ := hv
  have hx := B.exec
  have hb := B.bytes
  have hr := B.returns
  have hts0 := atoms_spec (ws := wsX4_remove) B.pre
  have hts : ∀ w9 ∈ aw, w9.before ([.ref mo, .int (nI a), .int (nI b), .int (nI d), .int (nI vv)] : List Value).toArray s = true := fun w9 h9 => hts0 w9 (List.mem_cons_of_mem _ h9)
  have hown : s.vm.findClass RX4 = some m.cls := findClass_of_methodNamed B.named
  have hlocks := B.notSynchronized
  have hS : va_S (fun _ => False) s.heap s.heap [] := va_S.rf
  have hP : va_P D vwCl [(mo, .inr (4, [.ref g, .ref pr, .ref hh, .ref rh, .ref aq, .ref ld, .int (nI lc), .ref nh, .ref ty])), (g, .inr (0, [.ref t, .ref v, .ref w, .int (nI n), .int (nI now), .int (oI cu)])), (t, .inl (ct 1, 3, .inr (.inr (.inr (.inr (tb_3 a0 a1 a2)))))), (a0, .inl (ct 0, R, .inl (aN X))), (a1, .inl (ct 0, R, .inl (aN Y))), (a2, .inl (ct 0, R, .inl (aN Z))), (v, .inl (ct 0, R, .inl (aN V))), (w, .inl (ct 0, R, .inl (aN E))), (pr, .inl (ct 3, 6, .inr (.inr (.inr (.inr (sF pa)))))), (pa 0, .inr (1, [.ref (ta 0), .ref (ga 0), .int (nI (Qf 0))])), (ta 0, .inr (3, [.ref (ka 0), .int (nI nt)])), (ka 0, .inl (ct 0, R, .inl (aN (F 0)))), (ga 0, .inl (ct 0, R, .inl (aN (Zf 0))))] s.heap := hP
  have hl := lv_entry ([.ref mo, .int (nI a), .int (nI b), .int (nI d), .int (nI vv)]) (n := 7) (Nat.le_of_ble_eq_true rfl)
  rw [lg_entry_eq]
  generalize (lg_sl ([.ref mo, .int (nI a), .int (nI b), .int (nI d), .int (nI vv)]) ++ List.replicate (7 - (lg_sl ([.ref mo, .int (nI a), .int (nI b), .int (nI d), .int (nI vv)])).length) Slot.unset).toArray = ls at hl ⊢
  have hl : lv_has ls 7 [(0, .ref mo), (1, .int (nI a)), (2, .int (nI b)), (3, .int (nI d)), (4, .int (nI vv))] := hl
  refine lv_aload_n hx hb dX4_remove_0 rfl (lv_at hl 0 rfl) ?_
  refine lv_iload_n hx hb dX4_remove_1 rfl (lv_at hl 1 rfl) ?_
  refine lv_iload_n hx hb dX4_remove_2 rfl (lv_at hl 2 rfl) ?_
  refine lv_iload_n hx hb dX4_remove_3 rfl (lv_at hl 3 rfl) ?_
  refine lv_iload hx hb dX4_remove_4 (lv_at hl 4 rfl) ?_
  refine vp_callSi (va_Run.run (va_runV (As := [.int (nI a), .int (nI b), .int (nI d), .int (nI vv)]) (rest := []) ⟨hx, hb, hml, hown, hts⟩ (k_rchange_0 l D ct mo g pr hh rh aq ld lc nh ty t a0 a1 a2 v w R n X Y Z V E now cu a b d vv ha hb9 hd hv hno) (cwV 4 hts (gw_V (fun _ h => h) w_99 w_100 w_22 w_24 wcX4_refusalOfChange) rfl rfl rfl hvX4_refusalOfChange ⟨Nat.le_of_ble_eq_true rfl, Nat.le_of_ble_eq_true rfl⟩) (tb_prV hP hK hZ hS [0, 1, 2, 3, 4, 5, 6, 7] rfl (ci := 4) (q0 := 0) rfl rfl) rfl rfl hl.1 rfl (lv_room (Nat.le_of_ble_eq_true rfl)) dX4_remove_6 ⟨Nat.zero_le _, Nat.zero_le _⟩)) (fun r_6 hr_6 => ?_)
  obtain rfl : r_6 = nI 0 := hr_6
  refine lv_istore (lv' := [(5, .int (nI 0)), (0, .ref mo), (1, .int (nI a)), (2, .int (nI b)), (3, .int (nI d)), (4, .int (nI vv))]) hx hb dX4_remove_9 hl (by decide) rfl (fun ls hl => ?_)
  refine lv_iload hx hb dX4_remove_11 (lv_at hl 0 rfl) ?_
  refine tb_if_eq (tgt := 19) hx hb dX4_remove_13 (by decide) (by omega) (fun c13 => ?_) (fun c13 => ?_)
  · refine lv_aload_n hx hb dX4_remove_19 rfl (lv_at hl 1 rfl) ?_
    refine lv_iload_n hx hb dX4_remove_20 rfl (lv_at hl 2 rfl) ?_
    refine lv_iload_n hx hb dX4_remove_21 rfl (lv_at hl 3 rfl) ?_
    refine lv_iload_n hx hb dX4_remove_22 rfl (lv_at hl 4 rfl) ?_
    refine vp_callSi (va_Run.run (va_runV (As := [.int (nI a), .int (nI b), .int (nI d)]) (rest := []) ⟨hx, hb, hml, hown, hts⟩ (k_isThereNow l D ct mo g pr hh rh aq ld lc nh ty R pa ta ka ga nt F Qf Zf a b d hR hnt hFs hFb hQ hsm hzb hzp ha hb9 hd) (cwV 3 hts (gw_V (fun _ h => h) w_108 w_109 w_21 w_24 wcX4_isThereNow) rfl rfl rfl hvX4_isThereNow ⟨Nat.le_of_ble_eq_true rfl, Nat.le_of_ble_eq_true rfl⟩) (tb_prV hP hK hZ hS [0, 8, 9, 10, 11, 12] rfl (ci := 4) (q0 := 0) rfl rfl) rfl rfl hl.1 rfl (lv_room (Nat.le_of_ble_eq_true rfl)) dX4_remove_23 ⟨Nat.zero_le _, Nat.zero_le _⟩)) (fun r_23 hr_23 => ?_)
    obtain rfl : r_23 = bB (decide (tHas (F 0) nt (tKeyOf 0 a b d))) := hr_23
    refine tb_if_neB (tgt := 31) hx hb dX4_remove_26 (by decide) (fun c26 => ?_) (fun c26 => ?_)
    · refine lv_aload_n hx hb dX4_remove_31 rfl (lv_at hl 1 rfl) ?_
      refine va_get (D := D) (ci := 4) (v := .ref g) (C := RX4) (T := TX4) (N := 9) hx hb hts inX4 hown hK hP 0 rfl rfl 0 (by decide) (hts _ w_87) (fun _ h9 => h9) rfl dX4_remove_32 ?_
      refine vp_callSi (va_Run.run (va_runV (As := []) (rest := []) ⟨hx, hb, hml, hown, hts⟩ (k_Log_isFull l D ct g t a0 a1 a2 v w R n X Y Z V E now cu hn hR) (cwV 0 hts (gw_V (fun _ h => h) w_123 w_124 w_125 w_26 wcX0_isFull) rfl rfl rfl hvX0_isFull ⟨Nat.le_of_ble_eq_true rfl, Nat.le_of_ble_eq_true rfl⟩) (tb_prV hP hK hZ hS [1, 2, 3, 4, 5, 6, 7] rfl (ci := 0) (q0 := 0) rfl rfl) rfl rfl hl.1 rfl (lv_room (Nat.le_of_ble_eq_true rfl)) dX4_remove_35 ⟨Nat.zero_le _, Nat.zero_le _⟩)) (fun r_35 hr_35 => ?_)
      obtain rfl : r_35 = bB (decide (R ≤ n)) := hr_35
      refine tb_if_eqB (tgt := 44) hx hb dX4_remove_38 (by decide) (fun c38 => ?_) (fun c38 => ?_)
      · exact absurd hfull c38
      · refine lv_bipush (v := (-4)) hx hb dX4_remove_41 (by decide) ?_
        exact W.iret (v := (-4)) hx hb hr (fun t ht hW => ⟨_, rfl, rfl, ht⟩) (fun q h => by cases h) dX4_remove_43
    · exact absurd hhas c26
  · exact absurd c13 (by decide)
