set_option maxHeartbeats 4000000 in
set_option maxRecDepth 100000 in
theorem k_lead_m2 (l : Launch) (D : va_G) (ct : Nat → ClassId) (mo : Nat) (g : Nat) (pr : Nat) (hh : Nat) (rh : Nat) (aq : Nat) (ld : Nat) (lc : Nat) (nh : Nat) (ty : Nat) (x : Int32) (y : Int32) (u : Int32) (hbad : ¬ (tRng x 6 ∧ (y = -1 ∨ tRng y 1000) ∧ (u = -1 ∨ tRng u 1000))) : Met l yX4_lead wsX4_lead ({ frames := 2, cells := 0, slots := 0, locals := 42 }) (tb_Pr D ct [.ref mo, .int x, .int y, .int u] [(mo, .inr (4, [.ref g, .ref pr, .ref hh, .ref rh, .ref aq, .ref ld, .int (nI lc), .ref nh, .ref ty]))]) (vp_Si (fun r => r = (-2))) 0 0 (fun _ => False) := by
  refine Met.ofW (cc := cX4_lead) (maxL := 4) (ret := (some .int)) (by decide) rfl ?_
  intro p e s m args below meth c s₁ B hml hv
  obtain ⟨rfl, hP, hK, hZ⟩ := hv
  have hx := B.exec
  have hb := B.bytes
  have hr := B.returns
  have hts0 := atoms_spec (ws := wsX4_lead) B.pre
  have hts : ∀ w9 ∈ aw, w9.before ([.ref mo, .int x, .int y, .int u] : List Value).toArray s = true := fun w9 h9 => hts0 w9 (List.mem_cons_of_mem _ h9)
  have hown : s.vm.findClass RX4 = some m.cls := findClass_of_methodNamed B.named
  have hlocks := B.notSynchronized
  have hS : va_S (fun _ => False) s.heap s.heap [] := va_S.rf
  have hP : va_P D vwCl [(mo, .inr (4, [.ref g, .ref pr, .ref hh, .ref rh, .ref aq, .ref ld, .int (nI lc), .ref nh, .ref ty]))] s.heap := hP
  have hl := lv_entry ([.ref mo, .int x, .int y, .int u]) (n := 4) (Nat.le_of_ble_eq_true rfl)
  rw [lg_entry_eq]
  generalize (lg_sl ([.ref mo, .int x, .int y, .int u]) ++ List.replicate (4 - (lg_sl ([.ref mo, .int x, .int y, .int u])).length) Slot.unset).toArray = ls at hl ⊢
  have hl : lv_has ls 4 [(0, .ref mo), (1, .int x), (2, .int y), (3, .int u)] := hl
  refine lv_iload_n hx hb dX4_lead_0 rfl (lv_at hl 1 rfl) ?_
  refine lv_iload_n hx hb dX4_lead_1 rfl (lv_at hl 2 rfl) ?_
  refine lv_iload_n hx hb dX4_lead_2 rfl (lv_at hl 3 rfl) ?_
  refine vp_callSi (va_Run.run (va_runS (As := [.int x, .int y, .int u]) (rest := []) ⟨hx, hb, hml, hown, hts⟩ (k_isRange l D ct x y u ) (va_cwS 3 hts (gw_S (fun _ h => h) w_175 w_176 w_24 wcX4_isRange) rfl rfl rfl hvX4_isRange.2 ⟨Nat.le_of_ble_eq_true rfl, Nat.le_of_ble_eq_true rfl⟩) (tb_prS hP hK hZ hS [] rfl) rfl rfl hl.1 rfl (lv_room (Nat.le_of_ble_eq_true rfl)) dX4_lead_3 ⟨Nat.zero_le _, Nat.zero_le _⟩)) (fun r_3 hr_3 => ?_)
  obtain rfl : r_3 = bB (decide (tRng x 6 ∧ (y = -1 ∨ tRng y 1000) ∧ (u = -1 ∨ tRng u 1000))) := hr_3
  refine tb_if_neB (tgt := 12) hx hb dX4_lead_6 (by decide) (fun c6 => ?_) (fun c6 => ?_)
  · exact absurd c6 hbad
  · refine lv_bipush (v := (-2)) hx hb dX4_lead_9 (by decide) ?_
    exact W.iret (v := (-2)) hx hb hr (fun t ht hW => ⟨_, rfl, rfl, ht⟩) (fun q h => by cases h) dX4_lead_11

set_option maxHeartbeats 4000000 in
set_option maxRecDepth 100000 in
theorem k_lead_m3 (l : Launch) (D : va_G) (ct : Nat → ClassId) (mo : Nat) (g : Nat) (pr : Nat) (hh : Nat) (rh : Nat) (aq : Nat) (ld : Nat) (lc : Nat) (nh : Nat) (ty : Nat) (o : Nat) (a : Option Nat) (b : Option Nat) (ho : o < 6) (ha : ∀ j, a = some j → j < 1000) (hb9 : ∀ j, b = some j → j < 1000) (hsec : a = none ∧ ¬ b = none) : Met l yX4_lead wsX4_lead ({ frames := 2, cells := 0, slots := 0, locals := 42 }) (tb_Pr D ct [.ref mo, .int (nI o), .int (oI a), .int (oI b)] [(mo, .inr (4, [.ref g, .ref pr, .ref hh, .ref rh, .ref aq, .ref ld, .int (nI lc), .ref nh, .ref ty]))]) (vp_Si (fun r => r = (-3))) 0 0 (fun _ => False) := by
  refine Met.ofW (cc := cX4_lead) (maxL := 4) (ret := (some .int)) (by decide) rfl ?_
  intro p e s m args below meth c s₁ B hml hv
  obtain ⟨rfl, hP, hK, hZ⟩ := hv
  have hx := B.exec
  have hb := B.bytes
  have hr := B.returns
  have hts0 := atoms_spec (ws := wsX4_lead) B.pre
  have hts : ∀ w9 ∈ aw, w9.before ([.ref mo, .int (nI o), .int (oI a), .int (oI b)] : List Value).toArray s = true := fun w9 h9 => hts0 w9 (List.mem_cons_of_mem _ h9)
  have hown : s.vm.findClass RX4 = some m.cls := findClass_of_methodNamed B.named
  have hlocks := B.notSynchronized
  have hS : va_S (fun _ => False) s.heap s.heap [] := va_S.rf
  have hP : va_P D vwCl [(mo, .inr (4, [.ref g, .ref pr, .ref hh, .ref rh, .ref aq, .ref ld, .int (nI lc), .ref nh, .ref ty]))] s.heap := hP
  have hl := lv_entry ([.ref mo, .int (nI o), .int (oI a), .int (oI b)]) (n := 4) (Nat.le_of_ble_eq_true rfl)
  rw [lg_entry_eq]
  generalize (lg_sl ([.ref mo, .int (nI o), .int (oI a), .int (oI b)]) ++ List.replicate (4 - (lg_sl ([.ref mo, .int (nI o), .int (oI a), .int (oI b)])).length) Slot.unset).toArray = ls at hl ⊢
  have hl : lv_has ls 4 [(0, .ref mo), (1, .int (nI o)), (2, .int (oI a)), (3, .int (oI b))] := hl
  refine lv_iload_n hx hb dX4_lead_0 rfl (lv_at hl 1 rfl) ?_
  refine lv_iload_n hx hb dX4_lead_1 rfl (lv_at hl 2 rfl) ?_
  refine lv_iload_n hx hb dX4_lead_2 rfl (lv_at hl 3 rfl) ?_
  refine vp_callSi (va_Run.run (va_runS (As := [.int (nI o), .int (oI a), .int (oI b)]) (rest := []) ⟨hx, hb, hml, hown, hts⟩ (k_isRange l D ct (nI o) (oI a) (oI b) ) (va_cwS 3 hts (gw_S (fun _ h => h) w_175 w_176 w_24 wcX4_isRange) rfl rfl rfl hvX4_isRange.2 ⟨Nat.le_of_ble_eq_true rfl, Nat.le_of_ble_eq_true rfl⟩) (tb_prS hP hK hZ hS [] rfl) rfl rfl hl.1 rfl (lv_room (Nat.le_of_ble_eq_true rfl)) dX4_lead_3 ⟨Nat.zero_le _, Nat.zero_le _⟩)) (fun r_3 hr_3 => ?_)
  obtain rfl : r_3 = bB (decide (tRng (nI o) 6 ∧ ((oI a) = -1 ∨ tRng (oI a) 1000) ∧ ((oI b) = -1 ∨ tRng (oI b) 1000))) := hr_3
  refine tb_if_neB (tgt := 12) hx hb dX4_lead_6 (by decide) (fun c6 => ?_) (fun c6 => ?_)
  · refine lv_iload_n hx hb dX4_lead_12 rfl (lv_at hl 2 rfl) ?_
    refine lv_iload_n hx hb dX4_lead_13 rfl (lv_at hl 3 rfl) ?_
    refine vp_callSi (va_Run.run (va_runS (As := [.int (oI a), .int (oI b)]) (rest := []) ⟨hx, hb, hml, hown, hts⟩ (k_isSecondAlone l D ct (oI a) (oI b) ) (va_cwS 2 hts (gw_S (fun _ h => h) w_177 w_178 w_24 wcX4_isSecondAlone) rfl rfl rfl hvX4_isSecondAlone.2 ⟨Nat.le_of_ble_eq_true rfl, Nat.le_of_ble_eq_true rfl⟩) (tb_prS hP hK hZ hS [] rfl) rfl rfl hl.1 rfl (lv_room (Nat.le_of_ble_eq_true rfl)) dX4_lead_14 ⟨Nat.zero_le _, Nat.zero_le _⟩)) (fun r_14 hr_14 => ?_)
    obtain rfl : r_14 = bB (decide ((oI a) = -1 ∧ ¬ (oI b) = -1)) := hr_14
    refine tb_if_eqB (tgt := 23) hx hb dX4_lead_17 (by decide) (fun c17 => ?_) (fun c17 => ?_)
    · exact absurd ⟨by rw [hsec.1]; rfl, fun z => hsec.2 (oI_none hb9 z)⟩ c17
    · refine lv_bipush (v := (-3)) hx hb dX4_lead_20 (by decide) ?_
      exact W.iret (v := (-3)) hx hb hr (fun t ht hW => ⟨_, rfl, rfl, ht⟩) (fun q h => by cases h) dX4_lead_22
  · exact absurd ⟨tRng_nI ho (by decide), oI_ok ha, oI_ok hb9⟩ c6

set_option maxHeartbeats 4000000 in
set_option maxRecDepth 100000 in
theorem k_lead_m4 (l : Launch) (D : va_G) (ct : Nat → ClassId) (mo : Nat) (g : Nat) (pr : Nat) (hh : Nat) (rh : Nat) (aq : Nat) (ld : Nat) (lc : Nat) (nh : Nat) (ty : Nat) (o : Nat) (a : Option Nat) (b : Option Nat) (ho : o < 6) (ha : ∀ j, a = some j → j < 1000) (hb9 : ∀ j, b = some j → j < 1000) (hsec : ¬ (a = none ∧ ¬ b = none)) (hl4 : 4 ≤ lc) (hl5 : lc < 2 ^ 31) : Met l yX4_lead wsX4_lead ({ frames := 2, cells := 0, slots := 0, locals := 42 }) (tb_Pr D ct [.ref mo, .int (nI o), .int (oI a), .int (oI b)] [(mo, .inr (4, [.ref g, .ref pr, .ref hh, .ref rh, .ref aq, .ref ld, .int (nI lc), .ref nh, .ref ty]))]) (vp_Si (fun r => r = (-4))) 0 0 (fun _ => False) := by
  refine Met.ofW (cc := cX4_lead) (maxL := 4) (ret := (some .int)) (by decide) rfl ?_
  intro p e s m args below meth c s₁ B hml hv
  obtain ⟨rfl, hP, hK, hZ⟩ := hv
  have hx := B.exec
  have hb := B.bytes
  have hr := B.returns
  have hts0 := atoms_spec (ws := wsX4_lead) B.pre
  have hts : ∀ w9 ∈ aw, w9.before ([.ref mo, .int (nI o), .int (oI a), .int (oI b)] : List Value).toArray s = true := fun w9 h9 => hts0 w9 (List.mem_cons_of_mem _ h9)
  have hown : s.vm.findClass RX4 = some m.cls := findClass_of_methodNamed B.named
  have hlocks := B.notSynchronized
  have hS : va_S (fun _ => False) s.heap s.heap [] := va_S.rf
  have hP : va_P D vwCl [(mo, .inr (4, [.ref g, .ref pr, .ref hh, .ref rh, .ref aq, .ref ld, .int (nI lc), .ref nh, .ref ty]))] s.heap := hP
  have hl := lv_entry ([.ref mo, .int (nI o), .int (oI a), .int (oI b)]) (n := 4) (Nat.le_of_ble_eq_true rfl)
  rw [lg_entry_eq]
  generalize (lg_sl ([.ref mo, .int (nI o), .int (oI a), .int (oI b)]) ++ List.replicate (4 - (lg_sl ([.ref mo, .int (nI o), .int (oI a), .int (oI b)])).length) Slot.unset).toArray = ls at hl ⊢
  have hl : lv_has ls 4 [(0, .ref mo), (1, .int (nI o)), (2, .int (oI a)), (3, .int (oI b))] := hl
  refine lv_iload_n hx hb dX4_lead_0 rfl (lv_at hl 1 rfl) ?_
  refine lv_iload_n hx hb dX4_lead_1 rfl (lv_at hl 2 rfl) ?_
  refine lv_iload_n hx hb dX4_lead_2 rfl (lv_at hl 3 rfl) ?_
  refine vp_callSi (va_Run.run (va_runS (As := [.int (nI o), .int (oI a), .int (oI b)]) (rest := []) ⟨hx, hb, hml, hown, hts⟩ (k_isRange l D ct (nI o) (oI a) (oI b) ) (va_cwS 3 hts (gw_S (fun _ h => h) w_175 w_176 w_24 wcX4_isRange) rfl rfl rfl hvX4_isRange.2 ⟨Nat.le_of_ble_eq_true rfl, Nat.le_of_ble_eq_true rfl⟩) (tb_prS hP hK hZ hS [] rfl) rfl rfl hl.1 rfl (lv_room (Nat.le_of_ble_eq_true rfl)) dX4_lead_3 ⟨Nat.zero_le _, Nat.zero_le _⟩)) (fun r_3 hr_3 => ?_)
  obtain rfl : r_3 = bB (decide (tRng (nI o) 6 ∧ ((oI a) = -1 ∨ tRng (oI a) 1000) ∧ ((oI b) = -1 ∨ tRng (oI b) 1000))) := hr_3
  refine tb_if_neB (tgt := 12) hx hb dX4_lead_6 (by decide) (fun c6 => ?_) (fun c6 => ?_)
  · refine lv_iload_n hx hb dX4_lead_12 rfl (lv_at hl 2 rfl) ?_
    refine lv_iload_n hx hb dX4_lead_13 rfl (lv_at hl 3 rfl) ?_
    refine vp_callSi (va_Run.run (va_runS (As := [.int (oI a), .int (oI b)]) (rest := []) ⟨hx, hb, hml, hown, hts⟩ (k_isSecondAlone l D ct (oI a) (oI b) ) (va_cwS 2 hts (gw_S (fun _ h => h) w_177 w_178 w_24 wcX4_isSecondAlone) rfl rfl rfl hvX4_isSecondAlone.2 ⟨Nat.le_of_ble_eq_true rfl, Nat.le_of_ble_eq_true rfl⟩) (tb_prS hP hK hZ hS [] rfl) rfl rfl hl.1 rfl (lv_room (Nat.le_of_ble_eq_true rfl)) dX4_lead_14 ⟨Nat.zero_le _, Nat.zero_le _⟩)) (fun r_14 hr_14 => ?_)
    obtain rfl : r_14 = bB (decide ((oI a) = -1 ∧ ¬ (oI b) = -1)) := hr_14
    refine tb_if_eqB (tgt := 23) hx hb dX4_lead_17 (by decide) (fun c17 => ?_) (fun c17 => ?_)
    · refine lv_aload_n hx hb dX4_lead_23 rfl (lv_at hl 0 rfl) ?_
      refine va_get (D := D) (ci := 4) (v := .int (nI lc)) (C := RX4) (T := TX4) (N := 9) hx hb hts inX4 hown hK hP 0 rfl rfl 6 (by decide) (hts _ w_93) (fun _ h9 => h9) rfl dX4_lead_24 ?_
      refine lv_iconst (v := nI 4) hx hb dX4_lead_27 (by decide) ?_
      refine tb_icmp_lt (tgt := 34) hx hb dX4_lead_28 (by decide) (by omega) (by omega) (fun c28 => ?_) (fun c28 => ?_)
      · exfalso; omega
      · refine lv_bipush (v := (-4)) hx hb dX4_lead_31 (by decide) ?_
        exact W.iret (v := (-4)) hx hb hr (fun t ht hW => ⟨_, rfl, rfl, ht⟩) (fun q h => by cases h) dX4_lead_33
    · exact absurd ⟨oI_none ha c17.1, fun z => c17.2 (by rw [z]; rfl)⟩ hsec
  · exact absurd ⟨tRng_nI ho (by decide), oI_ok ha, oI_ok hb9⟩ c6

set_option maxHeartbeats 4000000 in
set_option maxRecDepth 100000 in
theorem k_lead_ok (l : Launch) (D : va_G) (ct : Nat → ClassId) (mo : Nat) (g : Nat) (pr : Nat) (hh : Nat) (rh : Nat) (aq : Nat) (ld : Nat) (lc : Nat) (nh : Nat) (ty : Nat) (la : Nat → Nat) (lo : Nat → Nat) (lA : Nat → Option Nat) (lB : Nat → Option Nat) (o : Nat) (a : Option Nat) (b : Option Nat) (sz : Nat) (ho : o < 6) (ha : ∀ j, a = some j → j < 1000) (hb9 : ∀ j, b = some j → j < 1000) (hsec : ¬ (a = none ∧ ¬ b = none)) (hl4 : lc < 4) : Met l yX4_lead wsX4_lead ({ frames := 2, cells := 0, slots := 0, locals := 42 }) (tb_Pw D ct [.ref mo, .int (nI o), .int (oI a), .int (oI b)] sz [(mo, .inr (4, [.ref g, .ref pr, .ref hh, .ref rh, .ref aq, .ref ld, .int (nI lc), .ref nh, .ref ty])), (ld, .inl (ct 2, 4, .inr (.inr (.inr (.inr (sF la)))))), (la 0, .inr (2, [.int (nI (lo 0)), .int (oI (lA 0)), .int (oI (lB 0))])), (la 1, .inr (2, [.int (nI (lo 1)), .int (oI (lA 1)), .int (oI (lB 1))])), (la 2, .inr (2, [.int (nI (lo 2)), .int (oI (lA 2)), .int (oI (lB 2))])), (la 3, .inr (2, [.int (nI (lo 3)), .int (oI (lA 3)), .int (oI (lB 3))]))]) (va_Qi (fun r _ => r = nI (lc + 1)) (tb_B D (va_A [(mo, .inr (4, [.ref g, .ref pr, .ref hh, .ref rh, .ref aq, .ref ld, .int (nI lc), .ref nh, .ref ty])), (ld, .inl (ct 2, 4, .inr (.inr (.inr (.inr (sF la)))))), (la 0, .inr (2, [.int (nI (lo 0)), .int (oI (lA 0)), .int (oI (lB 0))])), (la 1, .inr (2, [.int (nI (lo 1)), .int (oI (lA 1)), .int (oI (lB 1))])), (la 2, .inr (2, [.int (nI (lo 2)), .int (oI (lA 2)), .int (oI (lB 2))])), (la 3, .inr (2, [.int (nI (lo 3)), .int (oI (lA 3)), .int (oI (lB 3))]))] sz) [(mo, .inr (4, [.ref g, .ref pr, .ref hh, .ref rh, .ref aq, .ref ld, .int (nI (lc + 1)), .ref nh, .ref ty])), (ld, .inl (ct 2, 4, .inr (.inr (.inr (.inr (sF la)))))), (la 0, .inr (2, [.int (nI (va_up lo lc o 0)), .int (oI (va_up lA lc a 0)), .int (oI (va_up lB lc b 0))])), (la 1, .inr (2, [.int (nI (va_up lo lc o 1)), .int (oI (va_up lA lc a 1)), .int (oI (va_up lB lc b 1))])), (la 2, .inr (2, [.int (nI (va_up lo lc o 2)), .int (oI (va_up lA lc a 2)), .int (oI (va_up lB lc b 2))])), (la 3, .inr (2, [.int (nI (va_up lo lc o 3)), .int (oI (va_up lA lc a 3)), .int (oI (va_up lB lc b 3))]))]) (va_A [(mo, .inr (4, [.ref g, .ref pr, .ref hh, .ref rh, .ref aq, .ref ld, .int (nI lc), .ref nh, .ref ty])), (ld, .inl (ct 2, 4, .inr (.inr (.inr (.inr (sF la)))))), (la 0, .inr (2, [.int (nI (lo 0)), .int (oI (lA 0)), .int (oI (lB 0))])), (la 1, .inr (2, [.int (nI (lo 1)), .int (oI (lA 1)), .int (oI (lB 1))])), (la 2, .inr (2, [.int (nI (lo 2)), .int (oI (lA 2)), .int (oI (lB 2))])), (la 3, .inr (2, [.int (nI (lo 3)), .int (oI (lA 3)), .int (oI (lB 3))]))] sz)) 0 0 (va_A [(mo, .inr (4, [.ref g, .ref pr, .ref hh, .ref rh, .ref aq, .ref ld, .int (nI lc), .ref nh, .ref ty])), (ld, .inl (ct 2, 4, .inr (.inr (.inr (.inr (sF la)))))), (la 0, .inr (2, [.int (nI (lo 0)), .int (oI (lA 0)), .int (oI (lB 0))])), (la 1, .inr (2, [.int (nI (lo 1)), .int (oI (lA 1)), .int (oI (lB 1))])), (la 2, .inr (2, [.int (nI (lo 2)), .int (oI (lA 2)), .int (oI (lB 2))])), (la 3, .inr (2, [.int (nI (lo 3)), .int (oI (lA 3)), .int (oI (lB 3))]))] sz) := by
  refine Met.ofW (cc := cX4_lead) (maxL := 4) (ret := (some .int)) (by decide) rfl ?_
  intro p e s m args below meth c s₁ B hml hv
  obtain ⟨rfl, hsz, hP, hK, hD0, hZ⟩ := hv
  have hx := B.exec
  have hb := B.bytes
  have hr := B.returns
  have hts0 := atoms_spec (ws := wsX4_lead) B.pre
  have hts : ∀ w9 ∈ aw, w9.before ([.ref mo, .int (nI o), .int (oI a), .int (oI b)] : List Value).toArray s = true := fun w9 h9 => hts0 w9 (List.mem_cons_of_mem _ h9)
  have hown : s.vm.findClass RX4 = some m.cls := findClass_of_methodNamed B.named
  have hlocks := B.notSynchronized
  subst hsz
  have hD := hD0.self (sz := s.heap.size)
  generalize hAe : va_A [(mo, .inr (4, [.ref g, .ref pr, .ref hh, .ref rh, .ref aq, .ref ld, .int (nI lc), .ref nh, .ref ty])), (ld, .inl (ct 2, 4, .inr (.inr (.inr (.inr (sF la)))))), (la 0, .inr (2, [.int (nI (lo 0)), .int (oI (lA 0)), .int (oI (lB 0))])), (la 1, .inr (2, [.int (nI (lo 1)), .int (oI (lA 1)), .int (oI (lB 1))])), (la 2, .inr (2, [.int (nI (lo 2)), .int (oI (lA 2)), .int (oI (lB 2))])), (la 3, .inr (2, [.int (nI (lo 3)), .int (oI (lA 3)), .int (oI (lB 3))]))] s.heap.size = A at hD hZ ⊢
  have hA : ∀ q : Nat, s.heap.size ≤ q → A q := fun q h => by rw [← hAe]; exact Or.inr h
  have hS : va_S A s.heap s.heap [] := va_S.rf
  have hP : va_P D vwCl [(mo, .inr (4, [.ref g, .ref pr, .ref hh, .ref rh, .ref aq, .ref ld, .int (nI lc), .ref nh, .ref ty])), (ld, .inl (ct 2, 4, .inr (.inr (.inr (.inr (sF la)))))), (la 0, .inr (2, [.int (nI (lo 0)), .int (oI (lA 0)), .int (oI (lB 0))])), (la 1, .inr (2, [.int (nI (lo 1)), .int (oI (lA 1)), .int (oI (lB 1))])), (la 2, .inr (2, [.int (nI (lo 2)), .int (oI (lA 2)), .int (oI (lB 2))])), (la 3, .inr (2, [.int (nI (lo 3)), .int (oI (lA 3)), .int (oI (lB 3))]))] s.heap := hP
  have hl := lv_entry ([.ref mo, .int (nI o), .int (oI a), .int (oI b)]) (n := 4) (Nat.le_of_ble_eq_true rfl)
  rw [lg_entry_eq]
  generalize (lg_sl ([.ref mo, .int (nI o), .int (oI a), .int (oI b)]) ++ List.replicate (4 - (lg_sl ([.ref mo, .int (nI o), .int (oI a), .int (oI b)])).length) Slot.unset).toArray = ls at hl ⊢
  have hl : lv_has ls 4 [(0, .ref mo), (1, .int (nI o)), (2, .int (oI a)), (3, .int (oI b))] := hl
  refine lv_iload_n hx hb dX4_lead_0 rfl (lv_at hl 1 rfl) ?_
  refine lv_iload_n hx hb dX4_lead_1 rfl (lv_at hl 2 rfl) ?_
  refine lv_iload_n hx hb dX4_lead_2 rfl (lv_at hl 3 rfl) ?_
  refine vp_callSi (va_Run.run (va_runS (As := [.int (nI o), .int (oI a), .int (oI b)]) (rest := []) ⟨hx, hb, hml, hown, hts⟩ (k_isRange l D ct (nI o) (oI a) (oI b) ) (va_cwS 3 hts (gw_S (fun _ h => h) w_175 w_176 w_24 wcX4_isRange) rfl rfl rfl hvX4_isRange.2 ⟨Nat.le_of_ble_eq_true rfl, Nat.le_of_ble_eq_true rfl⟩) (tb_prS hP hK hZ hS [] rfl) rfl rfl hl.1 rfl (lv_room (Nat.le_of_ble_eq_true rfl)) dX4_lead_3 ⟨Nat.zero_le _, Nat.zero_le _⟩)) (fun r_3 hr_3 => ?_)
  obtain rfl : r_3 = bB (decide (tRng (nI o) 6 ∧ ((oI a) = -1 ∨ tRng (oI a) 1000) ∧ ((oI b) = -1 ∨ tRng (oI b) 1000))) := hr_3
  refine tb_if_neB (tgt := 12) hx hb dX4_lead_6 (by decide) (fun c6 => ?_) (fun c6 => ?_)
  · refine lv_iload_n hx hb dX4_lead_12 rfl (lv_at hl 2 rfl) ?_
    refine lv_iload_n hx hb dX4_lead_13 rfl (lv_at hl 3 rfl) ?_
    refine vp_callSi (va_Run.run (va_runS (As := [.int (oI a), .int (oI b)]) (rest := []) ⟨hx, hb, hml, hown, hts⟩ (k_isSecondAlone l D ct (oI a) (oI b) ) (va_cwS 2 hts (gw_S (fun _ h => h) w_177 w_178 w_24 wcX4_isSecondAlone) rfl rfl rfl hvX4_isSecondAlone.2 ⟨Nat.le_of_ble_eq_true rfl, Nat.le_of_ble_eq_true rfl⟩) (tb_prS hP hK hZ hS [] rfl) rfl rfl hl.1 rfl (lv_room (Nat.le_of_ble_eq_true rfl)) dX4_lead_14 ⟨Nat.zero_le _, Nat.zero_le _⟩)) (fun r_14 hr_14 => ?_)
    obtain rfl : r_14 = bB (decide ((oI a) = -1 ∧ ¬ (oI b) = -1)) := hr_14
    refine tb_if_eqB (tgt := 23) hx hb dX4_lead_17 (by decide) (fun c17 => ?_) (fun c17 => ?_)
    · refine lv_aload_n hx hb dX4_lead_23 rfl (lv_at hl 0 rfl) ?_
      refine va_get (D := D) (ci := 4) (v := .int (nI lc)) (C := RX4) (T := TX4) (N := 9) hx hb hts inX4 hown hK hP 0 rfl rfl 6 (by decide) (hts _ w_93) (fun _ h9 => h9) rfl dX4_lead_24 ?_
      refine lv_iconst (v := nI 4) hx hb dX4_lead_27 (by decide) ?_
      refine tb_icmp_lt (tgt := 34) hx hb dX4_lead_28 (by decide) (by omega) (by omega) (fun c28 => ?_) (fun c28 => ?_)
      · refine lv_aload_n hx hb dX4_lead_34 rfl (lv_at hl 0 rfl) ?_
        refine va_get (D := D) (ci := 4) (v := .ref ld) (C := RX4) (T := TX4) (N := 9) hx hb hts inX4 hown hK hP 0 rfl rfl 5 (by decide) (hts _ w_92) (fun _ h9 => h9) rfl dX4_lead_35 ?_
        refine lv_aload_n hx hb dX4_lead_38 rfl (lv_at hl 0 rfl) ?_
        refine va_get (D := D) (ci := 4) (v := .int (nI lc)) (C := RX4) (T := TX4) (N := 9) hx hb hts inX4 hown hK hP 0 rfl rfl 6 (by decide) (hts _ w_93) (fun _ h9 => h9) rfl dX4_lead_39 ?_
        obtain rfl | rfl | rfl | rfl : lc = 0 ∨ lc = 1 ∨ lc = 2 ∨ lc = 3 := by omega
        · skip
          refine tb_aald hx hb hK hP 1 2 rfl rfl rfl (b := la 0) (i := 0) (by omega) (by decide) rfl dX4_lead_42 ?_
          refine lv_iload_n hx hb dX4_lead_43 rfl (lv_at hl 1 rfl) ?_
          refine lv_iload_n hx hb dX4_lead_44 rfl (lv_at hl 2 rfl) ?_
          refine lv_iload_n hx hb dX4_lead_45 rfl (lv_at hl 3 rfl) ?_
          refine tb_callv (wr := [(mo, .inr (4, [.ref g, .ref pr, .ref hh, .ref rh, .ref aq, .ref ld, .int (nI 0), .ref nh, .ref ty])), (ld, .inl (ct 2, 4, .inr (.inr (.inr (.inr (sF la)))))), (la 1, .inr (2, [.int (nI (lo 1)), .int (oI (lA 1)), .int (oI (lB 1))])), (la 2, .inr (2, [.int (nI (lo 2)), .int (oI (lA 2)), .int (oI (lB 2))])), (la 3, .inr (2, [.int (nI (lo 3)), .int (oI (lA 3)), .int (oI (lB 3))]))]) hP hD hS hA [2] [0, 1, 3, 4, 5] rfl rfl (by decide) (by decide) (va_runV (As := [.int (nI o), .int (oI a), .int (oI b)]) (rest := []) ⟨hx, hb, hml, hown, hts⟩ (k_Range_tell l D ct (la 0) (lo 0) (oI (lA 0)) (oI (lB 0)) o (oI a) (oI b) _ ) (cwV 3 hts (gw_V (fun _ h => h) w_179 w_180 w_181 w_29 wcX2_tell) rfl rfl rfl hvX2_tell ⟨Nat.le_of_ble_eq_true rfl, Nat.le_of_ble_eq_true rfl⟩) (tb_pwV hP hD hK hZ hS hA [2] (by decide) rfl (ci := 2) (q0 := 0) rfl rfl) rfl rfl hl.1 rfl (lv_room (Nat.le_of_ble_eq_true rfl)) dX4_lead_46 ⟨Nat.zero_le _, Nat.zero_le _⟩) (fun H locs hP hD hS => ?_)
          have hP : va_P D vwCl [(mo, .inr (4, [.ref g, .ref pr, .ref hh, .ref rh, .ref aq, .ref ld, .int (nI 0), .ref nh, .ref ty])), (ld, .inl (ct 2, 4, .inr (.inr (.inr (.inr (sF la)))))), (la 1, .inr (2, [.int (nI (lo 1)), .int (oI (lA 1)), .int (oI (lB 1))])), (la 2, .inr (2, [.int (nI (lo 2)), .int (oI (lA 2)), .int (oI (lB 2))])), (la 3, .inr (2, [.int (nI (lo 3)), .int (oI (lA 3)), .int (oI (lB 3))])), ((la 0), .inr (2, [.int (nI o), .int (oI a), .int (oI b)]))] H := hP
          have hD : va_D A [(mo, .inr (4, [.ref g, .ref pr, .ref hh, .ref rh, .ref aq, .ref ld, .int (nI 0), .ref nh, .ref ty])), (ld, .inl (ct 2, 4, .inr (.inr (.inr (.inr (sF la)))))), (la 1, .inr (2, [.int (nI (lo 1)), .int (oI (lA 1)), .int (oI (lB 1))])), (la 2, .inr (2, [.int (nI (lo 2)), .int (oI (lA 2)), .int (oI (lB 2))])), (la 3, .inr (2, [.int (nI (lo 3)), .int (oI (lA 3)), .int (oI (lB 3))])), ((la 0), .inr (2, [.int (nI o), .int (oI a), .int (oI b)]))] := hD
          refine lv_aload_n hx hb dX4_lead_49 rfl (lv_at hl 0 rfl) ?_
          refine lv_dup hx hb dX4_lead_50 rfl ?_
          refine va_get (D := D) (ci := 4) (v := .int (nI 0)) (C := RX4) (T := TX4) (N := 9) hx hb hts inX4 hown hK hP 0 rfl rfl 6 (by decide) (hts _ w_93) (fun _ h9 => h9) rfl dX4_lead_51 ?_
          refine lv_iconst (v := nI 1) hx hb dX4_lead_54 (by decide) ?_
          refine tb_iadd hx hb dX4_lead_55 ?_
          refine va_put (D := D) (ci := 4) (v := .int (nI 1)) (ty := .int) (C := RX4) (T := TX4) (N := 9) hx hb hts inX4 tyX4 tyX4_ok nmX4 hown hK hP hD hS 0 rfl rfl 6 (by decide) (hts _ w_93) (fun _ h9 => h9) rfl (by decide +kernel) rfl rfl (Nat.le_of_ble_eq_true rfl) dX4_lead_56 (fun H locs hP hD hS => ?_)
          have hP : va_P D vwCl [(mo, .inr (4, [.ref g, .ref pr, .ref hh, .ref rh, .ref aq, .ref ld, .int (nI 1), .ref nh, .ref ty])), (ld, .inl (ct 2, 4, .inr (.inr (.inr (.inr (sF la)))))), (la 1, .inr (2, [.int (nI (lo 1)), .int (oI (lA 1)), .int (oI (lB 1))])), (la 2, .inr (2, [.int (nI (lo 2)), .int (oI (lA 2)), .int (oI (lB 2))])), (la 3, .inr (2, [.int (nI (lo 3)), .int (oI (lA 3)), .int (oI (lB 3))])), ((la 0), .inr (2, [.int (nI o), .int (oI a), .int (oI b)]))] H := hP
          have hD : va_D A [(mo, .inr (4, [.ref g, .ref pr, .ref hh, .ref rh, .ref aq, .ref ld, .int (nI 1), .ref nh, .ref ty])), (ld, .inl (ct 2, 4, .inr (.inr (.inr (.inr (sF la)))))), (la 1, .inr (2, [.int (nI (lo 1)), .int (oI (lA 1)), .int (oI (lB 1))])), (la 2, .inr (2, [.int (nI (lo 2)), .int (oI (lA 2)), .int (oI (lB 2))])), (la 3, .inr (2, [.int (nI (lo 3)), .int (oI (lA 3)), .int (oI (lB 3))])), ((la 0), .inr (2, [.int (nI o), .int (oI a), .int (oI b)]))] := hD
          refine lv_aload_n hx hb dX4_lead_59 rfl (lv_at hl 0 rfl) ?_
          refine va_get (D := D) (ci := 4) (v := .int (nI 1)) (C := RX4) (T := TX4) (N := 9) hx hb hts inX4 hown hK hP 0 rfl rfl 6 (by decide) (hts _ w_93) (fun _ h9 => h9) rfl dX4_lead_60 ?_
          have hP9 : va_P D vwCl [(mo, .inr (4, [.ref g, .ref pr, .ref hh, .ref rh, .ref aq, .ref ld, .int (nI 1), .ref nh, .ref ty])), (ld, .inl (ct 2, 4, .inr (.inr (.inr (.inr (sF la)))))), (la 0, .inr (2, [.int (nI o), .int (oI a), .int (oI b)])), (la 1, .inr (2, [.int (nI (lo 1)), .int (oI (lA 1)), .int (oI (lB 1))])), (la 2, .inr (2, [.int (nI (lo 2)), .int (oI (lA 2)), .int (oI (lB 2))])), (la 3, .inr (2, [.int (nI (lo 3)), .int (oI (lA 3)), .int (oI (lB 3))]))] _ := hP.sub [0, 1, 5, 2, 3, 4] rfl
          have hD9 : va_D A [(mo, .inr (4, [.ref g, .ref pr, .ref hh, .ref rh, .ref aq, .ref ld, .int (nI 1), .ref nh, .ref ty])), (ld, .inl (ct 2, 4, .inr (.inr (.inr (.inr (sF la)))))), (la 0, .inr (2, [.int (nI o), .int (oI a), .int (oI b)])), (la 1, .inr (2, [.int (nI (lo 1)), .int (oI (lA 1)), .int (oI (lB 1))])), (la 2, .inr (2, [.int (nI (lo 2)), .int (oI (lA 2)), .int (oI (lB 2))])), (la 3, .inr (2, [.int (nI (lo 3)), .int (oI (lA 3)), .int (oI (lB 3))]))] := hD.sub [0, 1, 5, 2, 3, 4] (by decide) rfl
          exact W.iret (v := nI 1) hx hb hr (fun t ht hW => ⟨⟨_, (), rfl, rfl, by rw [ht]; exact hP9, hD9⟩, hS.F ht⟩) hS.2.2 dX4_lead_63
        · skip
          refine tb_aald hx hb hK hP 1 2 rfl rfl rfl (b := la 1) (i := 1) (by omega) (by decide) rfl dX4_lead_42 ?_
          refine lv_iload_n hx hb dX4_lead_43 rfl (lv_at hl 1 rfl) ?_
          refine lv_iload_n hx hb dX4_lead_44 rfl (lv_at hl 2 rfl) ?_
          refine lv_iload_n hx hb dX4_lead_45 rfl (lv_at hl 3 rfl) ?_
          refine tb_callv (wr := [(mo, .inr (4, [.ref g, .ref pr, .ref hh, .ref rh, .ref aq, .ref ld, .int (nI 1), .ref nh, .ref ty])), (ld, .inl (ct 2, 4, .inr (.inr (.inr (.inr (sF la)))))), (la 0, .inr (2, [.int (nI (lo 0)), .int (oI (lA 0)), .int (oI (lB 0))])), (la 2, .inr (2, [.int (nI (lo 2)), .int (oI (lA 2)), .int (oI (lB 2))])), (la 3, .inr (2, [.int (nI (lo 3)), .int (oI (lA 3)), .int (oI (lB 3))]))]) hP hD hS hA [3] [0, 1, 2, 4, 5] rfl rfl (by decide) (by decide) (va_runV (As := [.int (nI o), .int (oI a), .int (oI b)]) (rest := []) ⟨hx, hb, hml, hown, hts⟩ (k_Range_tell l D ct (la 1) (lo 1) (oI (lA 1)) (oI (lB 1)) o (oI a) (oI b) _ ) (cwV 3 hts (gw_V (fun _ h => h) w_179 w_180 w_181 w_29 wcX2_tell) rfl rfl rfl hvX2_tell ⟨Nat.le_of_ble_eq_true rfl, Nat.le_of_ble_eq_true rfl⟩) (tb_pwV hP hD hK hZ hS hA [3] (by decide) rfl (ci := 2) (q0 := 0) rfl rfl) rfl rfl hl.1 rfl (lv_room (Nat.le_of_ble_eq_true rfl)) dX4_lead_46 ⟨Nat.zero_le _, Nat.zero_le _⟩) (fun H locs hP hD hS => ?_)
          have hP : va_P D vwCl [(mo, .inr (4, [.ref g, .ref pr, .ref hh, .ref rh, .ref aq, .ref ld, .int (nI 1), .ref nh, .ref ty])), (ld, .inl (ct 2, 4, .inr (.inr (.inr (.inr (sF la)))))), (la 0, .inr (2, [.int (nI (lo 0)), .int (oI (lA 0)), .int (oI (lB 0))])), (la 2, .inr (2, [.int (nI (lo 2)), .int (oI (lA 2)), .int (oI (lB 2))])), (la 3, .inr (2, [.int (nI (lo 3)), .int (oI (lA 3)), .int (oI (lB 3))])), ((la 1), .inr (2, [.int (nI o), .int (oI a), .int (oI b)]))] H := hP
          have hD : va_D A [(mo, .inr (4, [.ref g, .ref pr, .ref hh, .ref rh, .ref aq, .ref ld, .int (nI 1), .ref nh, .ref ty])), (ld, .inl (ct 2, 4, .inr (.inr (.inr (.inr (sF la)))))), (la 0, .inr (2, [.int (nI (lo 0)), .int (oI (lA 0)), .int (oI (lB 0))])), (la 2, .inr (2, [.int (nI (lo 2)), .int (oI (lA 2)), .int (oI (lB 2))])), (la 3, .inr (2, [.int (nI (lo 3)), .int (oI (lA 3)), .int (oI (lB 3))])), ((la 1), .inr (2, [.int (nI o), .int (oI a), .int (oI b)]))] := hD
          refine lv_aload_n hx hb dX4_lead_49 rfl (lv_at hl 0 rfl) ?_
          refine lv_dup hx hb dX4_lead_50 rfl ?_
          refine va_get (D := D) (ci := 4) (v := .int (nI 1)) (C := RX4) (T := TX4) (N := 9) hx hb hts inX4 hown hK hP 0 rfl rfl 6 (by decide) (hts _ w_93) (fun _ h9 => h9) rfl dX4_lead_51 ?_
          refine lv_iconst (v := nI 1) hx hb dX4_lead_54 (by decide) ?_
          refine tb_iadd hx hb dX4_lead_55 ?_
          refine va_put (D := D) (ci := 4) (v := .int (nI 2)) (ty := .int) (C := RX4) (T := TX4) (N := 9) hx hb hts inX4 tyX4 tyX4_ok nmX4 hown hK hP hD hS 0 rfl rfl 6 (by decide) (hts _ w_93) (fun _ h9 => h9) rfl (by decide +kernel) rfl rfl (Nat.le_of_ble_eq_true rfl) dX4_lead_56 (fun H locs hP hD hS => ?_)
          have hP : va_P D vwCl [(mo, .inr (4, [.ref g, .ref pr, .ref hh, .ref rh, .ref aq, .ref ld, .int (nI 2), .ref nh, .ref ty])), (ld, .inl (ct 2, 4, .inr (.inr (.inr (.inr (sF la)))))), (la 0, .inr (2, [.int (nI (lo 0)), .int (oI (lA 0)), .int (oI (lB 0))])), (la 2, .inr (2, [.int (nI (lo 2)), .int (oI (lA 2)), .int (oI (lB 2))])), (la 3, .inr (2, [.int (nI (lo 3)), .int (oI (lA 3)), .int (oI (lB 3))])), ((la 1), .inr (2, [.int (nI o), .int (oI a), .int (oI b)]))] H := hP
          have hD : va_D A [(mo, .inr (4, [.ref g, .ref pr, .ref hh, .ref rh, .ref aq, .ref ld, .int (nI 2), .ref nh, .ref ty])), (ld, .inl (ct 2, 4, .inr (.inr (.inr (.inr (sF la)))))), (la 0, .inr (2, [.int (nI (lo 0)), .int (oI (lA 0)), .int (oI (lB 0))])), (la 2, .inr (2, [.int (nI (lo 2)), .int (oI (lA 2)), .int (oI (lB 2))])), (la 3, .inr (2, [.int (nI (lo 3)), .int (oI (lA 3)), .int (oI (lB 3))])), ((la 1), .inr (2, [.int (nI o), .int (oI a), .int (oI b)]))] := hD
          refine lv_aload_n hx hb dX4_lead_59 rfl (lv_at hl 0 rfl) ?_
          refine va_get (D := D) (ci := 4) (v := .int (nI 2)) (C := RX4) (T := TX4) (N := 9) hx hb hts inX4 hown hK hP 0 rfl rfl 6 (by decide) (hts _ w_93) (fun _ h9 => h9) rfl dX4_lead_60 ?_
          have hP9 : va_P D vwCl [(mo, .inr (4, [.ref g, .ref pr, .ref hh, .ref rh, .ref aq, .ref ld, .int (nI 2), .ref nh, .ref ty])), (ld, .inl (ct 2, 4, .inr (.inr (.inr (.inr (sF la)))))), (la 0, .inr (2, [.int (nI (lo 0)), .int (oI (lA 0)), .int (oI (lB 0))])), (la 1, .inr (2, [.int (nI o), .int (oI a), .int (oI b)])), (la 2, .inr (2, [.int (nI (lo 2)), .int (oI (lA 2)), .int (oI (lB 2))])), (la 3, .inr (2, [.int (nI (lo 3)), .int (oI (lA 3)), .int (oI (lB 3))]))] _ := hP.sub [0, 1, 2, 5, 3, 4] rfl
          have hD9 : va_D A [(mo, .inr (4, [.ref g, .ref pr, .ref hh, .ref rh, .ref aq, .ref ld, .int (nI 2), .ref nh, .ref ty])), (ld, .inl (ct 2, 4, .inr (.inr (.inr (.inr (sF la)))))), (la 0, .inr (2, [.int (nI (lo 0)), .int (oI (lA 0)), .int (oI (lB 0))])), (la 1, .inr (2, [.int (nI o), .int (oI a), .int (oI b)])), (la 2, .inr (2, [.int (nI (lo 2)), .int (oI (lA 2)), .int (oI (lB 2))])), (la 3, .inr (2, [.int (nI (lo 3)), .int (oI (lA 3)), .int (oI (lB 3))]))] := hD.sub [0, 1, 2, 5, 3, 4] (by decide) rfl
          exact W.iret (v := nI 2) hx hb hr (fun t ht hW => ⟨⟨_, (), rfl, rfl, by rw [ht]; exact hP9, hD9⟩, hS.F ht⟩) hS.2.2 dX4_lead_63
        · skip
          refine tb_aald hx hb hK hP 1 2 rfl rfl rfl (b := la 2) (i := 2) (by omega) (by decide) rfl dX4_lead_42 ?_
          refine lv_iload_n hx hb dX4_lead_43 rfl (lv_at hl 1 rfl) ?_
          refine lv_iload_n hx hb dX4_lead_44 rfl (lv_at hl 2 rfl) ?_
          refine lv_iload_n hx hb dX4_lead_45 rfl (lv_at hl 3 rfl) ?_
          refine tb_callv (wr := [(mo, .inr (4, [.ref g, .ref pr, .ref hh, .ref rh, .ref aq, .ref ld, .int (nI 2), .ref nh, .ref ty])), (ld, .inl (ct 2, 4, .inr (.inr (.inr (.inr (sF la)))))), (la 0, .inr (2, [.int (nI (lo 0)), .int (oI (lA 0)), .int (oI (lB 0))])), (la 1, .inr (2, [.int (nI (lo 1)), .int (oI (lA 1)), .int (oI (lB 1))])), (la 3, .inr (2, [.int (nI (lo 3)), .int (oI (lA 3)), .int (oI (lB 3))]))]) hP hD hS hA [4] [0, 1, 2, 3, 5] rfl rfl (by decide) (by decide) (va_runV (As := [.int (nI o), .int (oI a), .int (oI b)]) (rest := []) ⟨hx, hb, hml, hown, hts⟩ (k_Range_tell l D ct (la 2) (lo 2) (oI (lA 2)) (oI (lB 2)) o (oI a) (oI b) _ ) (cwV 3 hts (gw_V (fun _ h => h) w_179 w_180 w_181 w_29 wcX2_tell) rfl rfl rfl hvX2_tell ⟨Nat.le_of_ble_eq_true rfl, Nat.le_of_ble_eq_true rfl⟩) (tb_pwV hP hD hK hZ hS hA [4] (by decide) rfl (ci := 2) (q0 := 0) rfl rfl) rfl rfl hl.1 rfl (lv_room (Nat.le_of_ble_eq_true rfl)) dX4_lead_46 ⟨Nat.zero_le _, Nat.zero_le _⟩) (fun H locs hP hD hS => ?_)
          have hP : va_P D vwCl [(mo, .inr (4, [.ref g, .ref pr, .ref hh, .ref rh, .ref aq, .ref ld, .int (nI 2), .ref nh, .ref ty])), (ld, .inl (ct 2, 4, .inr (.inr (.inr (.inr (sF la)))))), (la 0, .inr (2, [.int (nI (lo 0)), .int (oI (lA 0)), .int (oI (lB 0))])), (la 1, .inr (2, [.int (nI (lo 1)), .int (oI (lA 1)), .int (oI (lB 1))])), (la 3, .inr (2, [.int (nI (lo 3)), .int (oI (lA 3)), .int (oI (lB 3))])), ((la 2), .inr (2, [.int (nI o), .int (oI a), .int (oI b)]))] H := hP
          have hD : va_D A [(mo, .inr (4, [.ref g, .ref pr, .ref hh, .ref rh, .ref aq, .ref ld, .int (nI 2), .ref nh, .ref ty])), (ld, .inl (ct 2, 4, .inr (.inr (.inr (.inr (sF la)))))), (la 0, .inr (2, [.int (nI (lo 0)), .int (oI (lA 0)), .int (oI (lB 0))])), (la 1, .inr (2, [.int (nI (lo 1)), .int (oI (lA 1)), .int (oI (lB 1))])), (la 3, .inr (2, [.int (nI (lo 3)), .int (oI (lA 3)), .int (oI (lB 3))])), ((la 2), .inr (2, [.int (nI o), .int (oI a), .int (oI b)]))] := hD
          refine lv_aload_n hx hb dX4_lead_49 rfl (lv_at hl 0 rfl) ?_
          refine lv_dup hx hb dX4_lead_50 rfl ?_
          refine va_get (D := D) (ci := 4) (v := .int (nI 2)) (C := RX4) (T := TX4) (N := 9) hx hb hts inX4 hown hK hP 0 rfl rfl 6 (by decide) (hts _ w_93) (fun _ h9 => h9) rfl dX4_lead_51 ?_
          refine lv_iconst (v := nI 1) hx hb dX4_lead_54 (by decide) ?_
          refine tb_iadd hx hb dX4_lead_55 ?_
          refine va_put (D := D) (ci := 4) (v := .int (nI 3)) (ty := .int) (C := RX4) (T := TX4) (N := 9) hx hb hts inX4 tyX4 tyX4_ok nmX4 hown hK hP hD hS 0 rfl rfl 6 (by decide) (hts _ w_93) (fun _ h9 => h9) rfl (by decide +kernel) rfl rfl (Nat.le_of_ble_eq_true rfl) dX4_lead_56 (fun H locs hP hD hS => ?_)
          have hP : va_P D vwCl [(mo, .inr (4, [.ref g, .ref pr, .ref hh, .ref rh, .ref aq, .ref ld, .int (nI 3), .ref nh, .ref ty])), (ld, .inl (ct 2, 4, .inr (.inr (.inr (.inr (sF la)))))), (la 0, .inr (2, [.int (nI (lo 0)), .int (oI (lA 0)), .int (oI (lB 0))])), (la 1, .inr (2, [.int (nI (lo 1)), .int (oI (lA 1)), .int (oI (lB 1))])), (la 3, .inr (2, [.int (nI (lo 3)), .int (oI (lA 3)), .int (oI (lB 3))])), ((la 2), .inr (2, [.int (nI o), .int (oI a), .int (oI b)]))] H := hP
          have hD : va_D A [(mo, .inr (4, [.ref g, .ref pr, .ref hh, .ref rh, .ref aq, .ref ld, .int (nI 3), .ref nh, .ref ty])), (ld, .inl (ct 2, 4, .inr (.inr (.inr (.inr (sF la)))))), (la 0, .inr (2, [.int (nI (lo 0)), .int (oI (lA 0)), .int (oI (lB 0))])), (la 1, .inr (2, [.int (nI (lo 1)), .int (oI (lA 1)), .int (oI (lB 1))])), (la 3, .inr (2, [.int (nI (lo 3)), .int (oI (lA 3)), .int (oI (lB 3))])), ((la 2), .inr (2, [.int (nI o), .int (oI a), .int (oI b)]))] := hD
          refine lv_aload_n hx hb dX4_lead_59 rfl (lv_at hl 0 rfl) ?_
          refine va_get (D := D) (ci := 4) (v := .int (nI 3)) (C := RX4) (T := TX4) (N := 9) hx hb hts inX4 hown hK hP 0 rfl rfl 6 (by decide) (hts _ w_93) (fun _ h9 => h9) rfl dX4_lead_60 ?_
          have hP9 : va_P D vwCl [(mo, .inr (4, [.ref g, .ref pr, .ref hh, .ref rh, .ref aq, .ref ld, .int (nI 3), .ref nh, .ref ty])), (ld, .inl (ct 2, 4, .inr (.inr (.inr (.inr (sF la)))))), (la 0, .inr (2, [.int (nI (lo 0)), .int (oI (lA 0)), .int (oI (lB 0))])), (la 1, .inr (2, [.int (nI (lo 1)), .int (oI (lA 1)), .int (oI (lB 1))])), (la 2, .inr (2, [.int (nI o), .int (oI a), .int (oI b)])), (la 3, .inr (2, [.int (nI (lo 3)), .int (oI (lA 3)), .int (oI (lB 3))]))] _ := hP.sub [0, 1, 2, 3, 5, 4] rfl
          have hD9 : va_D A [(mo, .inr (4, [.ref g, .ref pr, .ref hh, .ref rh, .ref aq, .ref ld, .int (nI 3), .ref nh, .ref ty])), (ld, .inl (ct 2, 4, .inr (.inr (.inr (.inr (sF la)))))), (la 0, .inr (2, [.int (nI (lo 0)), .int (oI (lA 0)), .int (oI (lB 0))])), (la 1, .inr (2, [.int (nI (lo 1)), .int (oI (lA 1)), .int (oI (lB 1))])), (la 2, .inr (2, [.int (nI o), .int (oI a), .int (oI b)])), (la 3, .inr (2, [.int (nI (lo 3)), .int (oI (lA 3)), .int (oI (lB 3))]))] := hD.sub [0, 1, 2, 3, 5, 4] (by decide) rfl
          exact W.iret (v := nI 3) hx hb hr (fun t ht hW => ⟨⟨_, (), rfl, rfl, by rw [ht]; exact hP9, hD9⟩, hS.F ht⟩) hS.2.2 dX4_lead_63
        · skip
          refine tb_aald hx hb hK hP 1 2 rfl rfl rfl (b := la 3) (i := 3) (by omega) (by decide) rfl dX4_lead_42 ?_
          refine lv_iload_n hx hb dX4_lead_43 rfl (lv_at hl 1 rfl) ?_
          refine lv_iload_n hx hb dX4_lead_44 rfl (lv_at hl 2 rfl) ?_
          refine lv_iload_n hx hb dX4_lead_45 rfl (lv_at hl 3 rfl) ?_
          refine tb_callv (wr := [(mo, .inr (4, [.ref g, .ref pr, .ref hh, .ref rh, .ref aq, .ref ld, .int (nI 3), .ref nh, .ref ty])), (ld, .inl (ct 2, 4, .inr (.inr (.inr (.inr (sF la)))))), (la 0, .inr (2, [.int (nI (lo 0)), .int (oI (lA 0)), .int (oI (lB 0))])), (la 1, .inr (2, [.int (nI (lo 1)), .int (oI (lA 1)), .int (oI (lB 1))])), (la 2, .inr (2, [.int (nI (lo 2)), .int (oI (lA 2)), .int (oI (lB 2))]))]) hP hD hS hA [5] [0, 1, 2, 3, 4] rfl rfl (by decide) (by decide) (va_runV (As := [.int (nI o), .int (oI a), .int (oI b)]) (rest := []) ⟨hx, hb, hml, hown, hts⟩ (k_Range_tell l D ct (la 3) (lo 3) (oI (lA 3)) (oI (lB 3)) o (oI a) (oI b) _ ) (cwV 3 hts (gw_V (fun _ h => h) w_179 w_180 w_181 w_29 wcX2_tell) rfl rfl rfl hvX2_tell ⟨Nat.le_of_ble_eq_true rfl, Nat.le_of_ble_eq_true rfl⟩) (tb_pwV hP hD hK hZ hS hA [5] (by decide) rfl (ci := 2) (q0 := 0) rfl rfl) rfl rfl hl.1 rfl (lv_room (Nat.le_of_ble_eq_true rfl)) dX4_lead_46 ⟨Nat.zero_le _, Nat.zero_le _⟩) (fun H locs hP hD hS => ?_)
          have hP : va_P D vwCl [(mo, .inr (4, [.ref g, .ref pr, .ref hh, .ref rh, .ref aq, .ref ld, .int (nI 3), .ref nh, .ref ty])), (ld, .inl (ct 2, 4, .inr (.inr (.inr (.inr (sF la)))))), (la 0, .inr (2, [.int (nI (lo 0)), .int (oI (lA 0)), .int (oI (lB 0))])), (la 1, .inr (2, [.int (nI (lo 1)), .int (oI (lA 1)), .int (oI (lB 1))])), (la 2, .inr (2, [.int (nI (lo 2)), .int (oI (lA 2)), .int (oI (lB 2))])), ((la 3), .inr (2, [.int (nI o), .int (oI a), .int (oI b)]))] H := hP
          have hD : va_D A [(mo, .inr (4, [.ref g, .ref pr, .ref hh, .ref rh, .ref aq, .ref ld, .int (nI 3), .ref nh, .ref ty])), (ld, .inl (ct 2, 4, .inr (.inr (.inr (.inr (sF la)))))), (la 0, .inr (2, [.int (nI (lo 0)), .int (oI (lA 0)), .int (oI (lB 0))])), (la 1, .inr (2, [.int (nI (lo 1)), .int (oI (lA 1)), .int (oI (lB 1))])), (la 2, .inr (2, [.int (nI (lo 2)), .int (oI (lA 2)), .int (oI (lB 2))])), ((la 3), .inr (2, [.int (nI o), .int (oI a), .int (oI b)]))] := hD
          refine lv_aload_n hx hb dX4_lead_49 rfl (lv_at hl 0 rfl) ?_
          refine lv_dup hx hb dX4_lead_50 rfl ?_
          refine va_get (D := D) (ci := 4) (v := .int (nI 3)) (C := RX4) (T := TX4) (N := 9) hx hb hts inX4 hown hK hP 0 rfl rfl 6 (by decide) (hts _ w_93) (fun _ h9 => h9) rfl dX4_lead_51 ?_
          refine lv_iconst (v := nI 1) hx hb dX4_lead_54 (by decide) ?_
          refine tb_iadd hx hb dX4_lead_55 ?_
          refine va_put (D := D) (ci := 4) (v := .int (nI 4)) (ty := .int) (C := RX4) (T := TX4) (N := 9) hx hb hts inX4 tyX4 tyX4_ok nmX4 hown hK hP hD hS 0 rfl rfl 6 (by decide) (hts _ w_93) (fun _ h9 => h9) rfl (by decide +kernel) rfl rfl (Nat.le_of_ble_eq_true rfl) dX4_lead_56 (fun H locs hP hD hS => ?_)
          have hP : va_P D vwCl [(mo, .inr (4, [.ref g, .ref pr, .ref hh, .ref rh, .ref aq, .ref ld, .int (nI 4), .ref nh, .ref ty])), (ld, .inl (ct 2, 4, .inr (.inr (.inr (.inr (sF la)))))), (la 0, .inr (2, [.int (nI (lo 0)), .int (oI (lA 0)), .int (oI (lB 0))])), (la 1, .inr (2, [.int (nI (lo 1)), .int (oI (lA 1)), .int (oI (lB 1))])), (la 2, .inr (2, [.int (nI (lo 2)), .int (oI (lA 2)), .int (oI (lB 2))])), ((la 3), .inr (2, [.int (nI o), .int (oI a), .int (oI b)]))] H := hP
          have hD : va_D A [(mo, .inr (4, [.ref g, .ref pr, .ref hh, .ref rh, .ref aq, .ref ld, .int (nI 4), .ref nh, .ref ty])), (ld, .inl (ct 2, 4, .inr (.inr (.inr (.inr (sF la)))))), (la 0, .inr (2, [.int (nI (lo 0)), .int (oI (lA 0)), .int (oI (lB 0))])), (la 1, .inr (2, [.int (nI (lo 1)), .int (oI (lA 1)), .int (oI (lB 1))])), (la 2, .inr (2, [.int (nI (lo 2)), .int (oI (lA 2)), .int (oI (lB 2))])), ((la 3), .inr (2, [.int (nI o), .int (oI a), .int (oI b)]))] := hD
          refine lv_aload_n hx hb dX4_lead_59 rfl (lv_at hl 0 rfl) ?_
          refine va_get (D := D) (ci := 4) (v := .int (nI 4)) (C := RX4) (T := TX4) (N := 9) hx hb hts inX4 hown hK hP 0 rfl rfl 6 (by decide) (hts _ w_93) (fun _ h9 => h9) rfl dX4_lead_60 ?_
          have hP9 : va_P D vwCl [(mo, .inr (4, [.ref g, .ref pr, .ref hh, .ref rh, .ref aq, .ref ld, .int (nI 4), .ref nh, .ref ty])), (ld, .inl (ct 2, 4, .inr (.inr (.inr (.inr (sF la)))))), (la 0, .inr (2, [.int (nI (lo 0)), .int (oI (lA 0)), .int (oI (lB 0))])), (la 1, .inr (2, [.int (nI (lo 1)), .int (oI (lA 1)), .int (oI (lB 1))])), (la 2, .inr (2, [.int (nI (lo 2)), .int (oI (lA 2)), .int (oI (lB 2))])), (la 3, .inr (2, [.int (nI o), .int (oI a), .int (oI b)]))] _ := hP.sub [0, 1, 2, 3, 4, 5] rfl
          have hD9 : va_D A [(mo, .inr (4, [.ref g, .ref pr, .ref hh, .ref rh, .ref aq, .ref ld, .int (nI 4), .ref nh, .ref ty])), (ld, .inl (ct 2, 4, .inr (.inr (.inr (.inr (sF la)))))), (la 0, .inr (2, [.int (nI (lo 0)), .int (oI (lA 0)), .int (oI (lB 0))])), (la 1, .inr (2, [.int (nI (lo 1)), .int (oI (lA 1)), .int (oI (lB 1))])), (la 2, .inr (2, [.int (nI (lo 2)), .int (oI (lA 2)), .int (oI (lB 2))])), (la 3, .inr (2, [.int (nI o), .int (oI a), .int (oI b)]))] := hD.sub [0, 1, 2, 3, 4, 5] (by decide) rfl
          exact W.iret (v := nI 4) hx hb hr (fun t ht hW => ⟨⟨_, (), rfl, rfl, by rw [ht]; exact hP9, hD9⟩, hS.F ht⟩) hS.2.2 dX4_lead_63
      · exfalso; omega
    · exact absurd ⟨oI_none ha c17.1, fun z => c17.2 (by rw [z]; rfl)⟩ hsec
  · exact absurd ⟨tRng_nI ho (by decide), oI_ok ha, oI_ok hb9⟩ c6
