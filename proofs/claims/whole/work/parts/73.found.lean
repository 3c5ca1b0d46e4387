set_option maxHeartbeats 4000000 in
set_option maxRecDepth 100000 in
theorem k_found_none (l : Launch) (D : va_G) (ct : Nat → ClassId) (mo : Nat) (g : Nat) (pr : Nat) (hh : Nat) (rh : Nat) (aq : Nat) (ld : Nat) (lc : Nat) (nh : Nat) (ty : Nat) (R : Nat) (nk : Nat) (nn : Nat) (f : Nat → Nat) (i : Int32) (hR : R ≤ 400) (hn9 : nn ≤ R) (hi : ¬ tRng i nn) : Met l yX4_found wsX4_found ({ frames := 1, cells := 0, slots := 0, locals := 21 }) (tb_Pr D ct [.ref mo, .int i] [(mo, .inr (4, [.ref g, .ref pr, .ref hh, .ref rh, .ref aq, .ref ld, .int (nI lc), .ref nh, .ref ty])), (nh, .inr (3, [.ref nk, .int (nI nn)])), (nk, .inl (ct 0, R, .inl (aN f)))]) (vp_Si (fun r => r = (-1))) 0 0 (fun _ => False) := by
  refine Met.ofW (cc := cX4_found) (maxL := 2) (ret := (some .int)) (by decide) rfl ?_
  intro p e s m args below meth c s₁ B hml hv
  obtain ⟨rfl, hP, hK, hZ⟩ := hv
  have hx := B.exec
  have hb := B.bytes
  have hr := B.returns
  have hts0 := atoms_spec (ws := wsX4_found) B.pre
  have hts : ∀ w9 ∈ aw, w9.before ([.ref mo, .int i] : List Value).toArray s = true := fun w9 h9 => hts0 w9 (List.mem_cons_of_mem _ h9)
  have hown : s.vm.findClass RX4 = some m.cls := findClass_of_methodNamed B.named
  have hlocks := B.notSynchronized
  have hS : va_S (fun _ => False) s.heap s.heap [] := va_S.rf
  have hP : va_P D vwCl [(mo, .inr (4, [.ref g, .ref pr, .ref hh, .ref rh, .ref aq, .ref ld, .int (nI lc), .ref nh, .ref ty])), (nh, .inr (3, [.ref nk, .int (nI nn)])), (nk, .inl (ct 0, R, .inl (aN f)))] s.heap := hP
  have hl := lv_entry ([.ref mo, .int i]) (n := 2) (Nat.le_of_ble_eq_true rfl)
  rw [lg_entry_eq]
  generalize (lg_sl ([.ref mo, .int i]) ++ List.replicate (2 - (lg_sl ([.ref mo, .int i])).length) Slot.unset).toArray = ls at hl ⊢
  have hl : lv_has ls 2 [(0, .ref mo), (1, .int i)] := hl
  refine lv_aload_n hx hb dX4_found_0 rfl (lv_at hl 0 rfl) ?_
  refine va_get (D := D) (ci := 4) (v := .ref nh) (C := RX4) (T := TX4) (N := 9) hx hb hts inX4 hown hK hP 0 rfl rfl 7 (by decide) (hts _ w_94) (fun _ h9 => h9) rfl dX4_found_1 ?_
  refine lv_iload_n hx hb dX4_found_4 rfl (lv_at hl 1 rfl) ?_
  refine vp_callSi (va_Run.run (va_runV (As := [.int i]) (rest := []) ⟨hx, hb, hml, hown, hts⟩ (k_Row_keyX l D ct nh nk R nn f i hn9 hR hi) (cwV 1 hts (gw_V (fun _ h => h) w_204 w_205 w_206 w_28 wcX3_key) rfl rfl rfl hvX3_key ⟨Nat.le_of_ble_eq_true rfl, Nat.le_of_ble_eq_true rfl⟩) (tb_prV hP hK hZ hS [1, 2] rfl (ci := 3) (q0 := 0) rfl rfl) rfl rfl hl.1 rfl (lv_room (Nat.le_of_ble_eq_true rfl)) dX4_found_5 ⟨Nat.zero_le _, Nat.zero_le _⟩)) (fun r_5 hr_5 => ?_)
  obtain rfl : r_5 = (-1) := hr_5
  exact W.iret (v := (-1)) hx hb hr (fun t ht hW => ⟨_, rfl, rfl, ht⟩) (fun q h => by cases h) dX4_found_8

set_option maxHeartbeats 4000000 in
set_option maxRecDepth 100000 in
theorem k_found_ok (l : Launch) (D : va_G) (ct : Nat → ClassId) (mo : Nat) (g : Nat) (pr : Nat) (hh : Nat) (rh : Nat) (aq : Nat) (ld : Nat) (lc : Nat) (nh : Nat) (ty : Nat) (R : Nat) (nk : Nat) (nn : Nat) (f : Nat → Nat) (i : Nat) (hR : R ≤ 400) (hn9 : nn ≤ R) (hi : i < nn) : Met l yX4_found wsX4_found ({ frames := 1, cells := 0, slots := 0, locals := 21 }) (tb_Pr D ct [.ref mo, .int (nI i)] [(mo, .inr (4, [.ref g, .ref pr, .ref hh, .ref rh, .ref aq, .ref ld, .int (nI lc), .ref nh, .ref ty])), (nh, .inr (3, [.ref nk, .int (nI nn)])), (nk, .inl (ct 0, R, .inl (aN f)))]) (vp_Si (fun r => r = nI (f i))) 0 0 (fun _ => False) := by
  refine Met.ofW (cc := cX4_found) (maxL := 2) (ret := (some .int)) (by decide) rfl ?_
  intro p e s m args below meth c s₁ B hml hv
  obtain ⟨rfl, hP, hK, hZ⟩ := hv
  have hx := B.exec
  have hb := B.bytes
  have hr := B.returns
  have hts0 := atoms_spec (ws := wsX4_found) B.pre
  have hts : ∀ w9 ∈ aw, w9.before ([.ref mo, .int (nI i)] : List Value).toArray s = true := fun w9 h9 => hts0 w9 (List.mem_cons_of_mem _ h9)
  have hown : s.vm.findClass RX4 = some m.cls := findClass_of_methodNamed B.named
  have hlocks := B.notSynchronized
  have hS : va_S (fun _ => False) s.heap s.heap [] := va_S.rf
  have hP : va_P D vwCl [(mo, .inr (4, [.ref g, .ref pr, .ref hh, .ref rh, .ref aq, .ref ld, .int (nI lc), .ref nh, .ref ty])), (nh, .inr (3, [.ref nk, .int (nI nn)])), (nk, .inl (ct 0, R, .inl (aN f)))] s.heap := hP
  have hl := lv_entry ([.ref mo, .int (nI i)]) (n := 2) (Nat.le_of_ble_eq_true rfl)
  rw [lg_entry_eq]
  generalize (lg_sl ([.ref mo, .int (nI i)]) ++ List.replicate (2 - (lg_sl ([.ref mo, .int (nI i)])).length) Slot.unset).toArray = ls at hl ⊢
  have hl : lv_has ls 2 [(0, .ref mo), (1, .int (nI i))] := hl
  refine lv_aload_n hx hb dX4_found_0 rfl (lv_at hl 0 rfl) ?_
  refine va_get (D := D) (ci := 4) (v := .ref nh) (C := RX4) (T := TX4) (N := 9) hx hb hts inX4 hown hK hP 0 rfl rfl 7 (by decide) (hts _ w_94) (fun _ h9 => h9) rfl dX4_found_1 ?_
  refine lv_iload_n hx hb dX4_found_4 rfl (lv_at hl 1 rfl) ?_
  refine vp_callSi (va_Run.run (va_runV (As := [.int (nI i)]) (rest := []) ⟨hx, hb, hml, hown, hts⟩ (k_Row_keyN l D ct nh nk R nn f i hn9 hR hi) (cwV 1 hts (gw_V (fun _ h => h) w_204 w_205 w_206 w_28 wcX3_key) rfl rfl rfl hvX3_key ⟨Nat.le_of_ble_eq_true rfl, Nat.le_of_ble_eq_true rfl⟩) (tb_prV hP hK hZ hS [1, 2] rfl (ci := 3) (q0 := 0) rfl rfl) rfl rfl hl.1 rfl (lv_room (Nat.le_of_ble_eq_true rfl)) dX4_found_5 ⟨Nat.zero_le _, Nat.zero_le _⟩)) (fun r_5 hr_5 => ?_)
  obtain rfl : r_5 = nI (f i) := hr_5
  exact W.iret (v := nI (f i)) hx hb hr (fun t ht hW => ⟨_, rfl, rfl, ht⟩) (fun q h => by cases h) dX4_found_8

set_option maxHeartbeats 4000000 in
set_option maxRecDepth 100000 in
theorem k_cut_m2 (l : Launch) (D : va_G) (ct : Nat → ClassId) (mo : Nat) (g : Nat) (pr : Nat) (hh : Nat) (rh : Nat) (aq : Nat) (ld : Nat) (lc : Nat) (nh : Nat) (ty : Nat) (x : Int32) (hbad : ¬ tRng x 1000001) : Met l yX4_cut wsX4_cut ({ frames := 1, cells := 0, slots := 0, locals := 20 }) (tb_Pr D ct [.ref mo, .int x] [(mo, .inr (4, [.ref g, .ref pr, .ref hh, .ref rh, .ref aq, .ref ld, .int (nI lc), .ref nh, .ref ty]))]) (vp_Si (fun r => r = (-2))) 0 0 (fun _ => False) := by
  refine Met.ofW (cc := cX4_cut) (maxL := 2) (ret := (some .int)) (by decide) rfl ?_
  intro p e s m args below meth c s₁ B hml hv
  obtain ⟨rfl, hP, hK, hZ⟩ := hv
  have hx := B.exec
  have hb := B.bytes
  have hr := B.returns
  have hts0 := atoms_spec (ws := wsX4_cut) B.pre
  have hts : ∀ w9 ∈ aw, w9.before ([.ref mo, .int x] : List Value).toArray s = true := fun w9 h9 => hts0 w9 (List.mem_cons_of_mem _ h9)
  have hown : s.vm.findClass RX4 = some m.cls := findClass_of_methodNamed B.named
  have hlocks := B.notSynchronized
  have hS : va_S (fun _ => False) s.heap s.heap [] := va_S.rf
  have hP : va_P D vwCl [(mo, .inr (4, [.ref g, .ref pr, .ref hh, .ref rh, .ref aq, .ref ld, .int (nI lc), .ref nh, .ref ty]))] s.heap := hP
  have hl := lv_entry ([.ref mo, .int x]) (n := 2) (Nat.le_of_ble_eq_true rfl)
  rw [lg_entry_eq]
  generalize (lg_sl ([.ref mo, .int x]) ++ List.replicate (2 - (lg_sl ([.ref mo, .int x])).length) Slot.unset).toArray = ls at hl ⊢
  have hl : lv_has ls 2 [(0, .ref mo), (1, .int x)] := hl
  refine lv_iload_n hx hb dX4_cut_0 rfl (lv_at hl 1 rfl) ?_
  refine vp_callSi (va_Run.run (va_runS (As := [.int x]) (rest := []) ⟨hx, hb, hml, hown, hts⟩ (k_isVersion l D ct x ) (va_cwS 1 hts (gw_S (fun _ h => h) w_105 w_106 w_24 wcX4_isVersion) rfl rfl rfl hvX4_isVersion.2 ⟨Nat.le_of_ble_eq_true rfl, Nat.le_of_ble_eq_true rfl⟩) (tb_prS hP hK hZ hS [] rfl) rfl rfl hl.1 rfl (lv_room (Nat.le_of_ble_eq_true rfl)) dX4_cut_1 ⟨Nat.zero_le _, Nat.zero_le _⟩)) (fun r_1 hr_1 => ?_)
  obtain rfl : r_1 = bB (decide (tRng x 1000001)) := hr_1
  refine tb_if_neB (tgt := 10) hx hb dX4_cut_4 (by decide) (fun c4 => ?_) (fun c4 => ?_)
  · exact absurd c4 hbad
  · refine lv_bipush (v := (-2)) hx hb dX4_cut_7 (by decide) ?_
    exact W.iret (v := (-2)) hx hb hr (fun t ht hW => ⟨_, rfl, rfl, ht⟩) (fun q h => by cases h) dX4_cut_9

set_option maxHeartbeats 4000000 in
set_option maxRecDepth 100000 in
theorem k_cut_m3 (l : Launch) (D : va_G) (ct : Nat → ClassId) (mo : Nat) (g : Nat) (pr : Nat) (hh : Nat) (rh : Nat) (aq : Nat) (ld : Nat) (lc : Nat) (nh : Nat) (ty : Nat) (t : Nat) (a0 : Nat) (a1 : Nat) (a2 : Nat) (v : Nat) (w : Nat) (R : Nat) (n : Nat) (X : Nat → Nat) (Y : Nat → Nat) (Z : Nat → Nat) (V : Nat → Nat) (E : Nat → Nat) (now : Nat) (cu : Option Nat) (vv : Nat) (hv : vv < 1000001) (hlow : ∃ j, cu = some j ∧ vv < j) (hcb : ∀ j, cu = some j → j < 2 ^ 31) : Met l yX4_cut wsX4_cut ({ frames := 1, cells := 0, slots := 0, locals := 20 }) (tb_Pr D ct [.ref mo, .int (nI vv)] [(mo, .inr (4, [.ref g, .ref pr, .ref hh, .ref rh, .ref aq, .ref ld, .int (nI lc), .ref nh, .ref ty])), (g, .inr (0, [.ref t, .ref v, .ref w, .int (nI n), .int (nI now), .int (oI cu)])), (t, .inl (ct 1, 3, .inr (.inr (.inr (.inr (tb_3 a0 a1 a2)))))), (a0, .inl (ct 0, R, .inl (aN X))), (a1, .inl (ct 0, R, .inl (aN Y))), (a2, .inl (ct 0, R, .inl (aN Z))), (v, .inl (ct 0, R, .inl (aN V))), (w, .inl (ct 0, R, .inl (aN E)))]) (vp_Si (fun r => r = (-3))) 0 0 (fun _ => False) := by
  refine Met.ofW (cc := cX4_cut) (maxL := 2) (ret := (some .int)) (by decide) rfl ?_
  intro p e s m args below meth c s₁ B hml hv
  obtain ⟨rfl, hP, hK, hZ⟩ := hv
  have hx := B.exec
  have hb := B.bytes
  have hr := B.returns
  have hts0 := atoms_spec (ws := wsX4_cut) B.pre
  have hts : ∀ w9 ∈ aw, w9.before ([.ref mo, .int (nI vv)] : List Value).toArray s = true := fun w9 h9 => hts0 w9 (List.mem_cons_of_mem _ h9)
  have hown : s.vm.findClass RX4 = some m.cls := findClass_of_methodNamed B.named
  have hlocks := B.notSynchronized
  have hS : va_S (fun _ => False) s.heap s.heap [] := va_S.rf
  have hP : va_P D vwCl [(mo, .inr (4, [.ref g, .ref pr, .ref hh, .ref rh, .ref aq, .ref ld, .int (nI lc), .ref nh, .ref ty])), (g, .inr (0, [.ref t, .ref v, .ref w, .int (nI n), .int (nI now), .int (oI cu)])), (t, .inl (ct 1, 3, .inr (.inr (.inr (.inr (tb_3 a0 a1 a2)))))), (a0, .inl (ct 0, R, .inl (aN X))), (a1, .inl (ct 0, R, .inl (aN Y))), (a2, .inl (ct 0, R, .inl (aN Z))), (v, .inl (ct 0, R, .inl (aN V))), (w, .inl (ct 0, R, .inl (aN E)))] s.heap := hP
  have hl := lv_entry ([.ref mo, .int (nI vv)]) (n := 2) (Nat.le_of_ble_eq_true rfl)
  rw [lg_entry_eq]
  generalize (lg_sl ([.ref mo, .int (nI vv)]) ++ List.replicate (2 - (lg_sl ([.ref mo, .int (nI vv)])).length) Slot.unset).toArray = ls at hl ⊢
  have hl : lv_has ls 2 [(0, .ref mo), (1, .int (nI vv))] := hl
  refine lv_iload_n hx hb dX4_cut_0 rfl (lv_at hl 1 rfl) ?_
  refine vp_callSi (va_Run.run (va_runS (As := [.int (nI vv)]) (rest := []) ⟨hx, hb, hml, hown, hts⟩ (k_isVersion l D ct (nI vv) ) (va_cwS 1 hts (gw_S (fun _ h => h) w_105 w_106 w_24 wcX4_isVersion) rfl rfl rfl hvX4_isVersion.2 ⟨Nat.le_of_ble_eq_true rfl, Nat.le_of_ble_eq_true rfl⟩) (tb_prS hP hK hZ hS [] rfl) rfl rfl hl.1 rfl (lv_room (Nat.le_of_ble_eq_true rfl)) dX4_cut_1 ⟨Nat.zero_le _, Nat.zero_le _⟩)) (fun r_1 hr_1 => ?_)
  obtain rfl : r_1 = bB (decide (tRng (nI vv) 1000001)) := hr_1
  refine tb_if_neB (tgt := 10) hx hb dX4_cut_4 (by decide) (fun c4 => ?_) (fun c4 => ?_)
  · refine lv_iload_n hx hb dX4_cut_10 rfl (lv_at hl 1 rfl) ?_
    refine lv_aload_n hx hb dX4_cut_11 rfl (lv_at hl 0 rfl) ?_
    refine va_get (D := D) (ci := 4) (v := .ref g) (C := RX4) (T := TX4) (N := 9) hx hb hts inX4 hown hK hP 0 rfl rfl 0 (by decide) (hts _ w_87) (fun _ h9 => h9) rfl dX4_cut_12 ?_
    refine va_get (D := D) (ci := 0) (v := .int (oI cu)) (C := RX0) (T := TX0) (N := 6) hx hb hts inX0 hown hK hP 1 rfl rfl 5 (by decide) (hts _ w_57) (fun _ h9 => h9) rfl dX4_cut_15 ?_
    refine lv_icmp_ge (tgt := 24) hx hb dX4_cut_18 (by decide) (fun c18 => ?_) (fun c18 => ?_)
    · exact absurd (oI_lt hlow hcb) (Int32.not_lt.mpr c18)
    · refine lv_bipush (v := (-3)) hx hb dX4_cut_21 (by decide) ?_
      exact W.iret (v := (-3)) hx hb hr (fun t ht hW => ⟨_, rfl, rfl, ht⟩) (fun q h => by cases h) dX4_cut_23
  · exact absurd (tRng_nI hv (by decide)) c4

set_option maxHeartbeats 4000000 in
set_option maxRecDepth 100000 in
theorem k_cut_ok (l : Launch) (D : va_G) (ct : Nat → ClassId) (mo : Nat) (g : Nat) (pr : Nat) (hh : Nat) (rh : Nat) (aq : Nat) (ld : Nat) (lc : Nat) (nh : Nat) (ty : Nat) (t : Nat) (a0 : Nat) (a1 : Nat) (a2 : Nat) (v : Nat) (w : Nat) (R : Nat) (n : Nat) (X : Nat → Nat) (Y : Nat → Nat) (Z : Nat → Nat) (V : Nat → Nat) (E : Nat → Nat) (now : Nat) (cu : Option Nat) (vv : Nat) (sz : Nat) (hn : n ≤ R) (hR : R ≤ 400) (hV : ∀ j, V j < 2 ^ 31) (hE : ∀ j, E j < 2 ^ 31) (hv : vv < 1000001) (hcu : ∀ j, cu = some j → j ≤ vv) (hno : now < 2 ^ 31) : Met l yX4_cut wsX4_cut ({ frames := 2, cells := 0, slots := 0, locals := 46 }) (tb_Pw D ct [.ref mo, .int (nI vv)] sz [(mo, .inr (4, [.ref g, .ref pr, .ref hh, .ref rh, .ref aq, .ref ld, .int (nI lc), .ref nh, .ref ty])), (g, .inr (0, [.ref t, .ref v, .ref w, .int (nI n), .int (nI now), .int (oI cu)])), (t, .inl (ct 1, 3, .inr (.inr (.inr (.inr (tb_3 a0 a1 a2)))))), (a0, .inl (ct 0, R, .inl (aN X))), (a1, .inl (ct 0, R, .inl (aN Y))), (a2, .inl (ct 0, R, .inl (aN Z))), (v, .inl (ct 0, R, .inl (aN V))), (w, .inl (ct 0, R, .inl (aN E)))]) (va_Qi (fun r _ => r = nI (n - tCK E vv n)) (tb_B D (va_A [(mo, .inr (4, [.ref g, .ref pr, .ref hh, .ref rh, .ref aq, .ref ld, .int (nI lc), .ref nh, .ref ty])), (g, .inr (0, [.ref t, .ref v, .ref w, .int (nI n), .int (nI now), .int (oI cu)])), (t, .inl (ct 1, 3, .inr (.inr (.inr (.inr (tb_3 a0 a1 a2)))))), (a0, .inl (ct 0, R, .inl (aN X))), (a1, .inl (ct 0, R, .inl (aN Y))), (a2, .inl (ct 0, R, .inl (aN Z))), (v, .inl (ct 0, R, .inl (aN V))), (w, .inl (ct 0, R, .inl (aN E)))] sz) [(mo, .inr (4, [.ref g, .ref pr, .ref hh, .ref rh, .ref aq, .ref ld, .int (nI lc), .ref nh, .ref ty])), (g, .inr (0, [.ref t, .ref v, .ref w, .int (nI (tCK E vv n)), .int (nI (max now vv)), .int (oI (some vv))])), (t, .inl (ct 1, 3, .inr (.inr (.inr (.inr (tb_3 a0 a1 a2)))))), (a0, .inl (ct 0, R, .inl (aN (tCF E vv X n)))), (a1, .inl (ct 0, R, .inl (aN (tCF E vv Y n)))), (a2, .inl (ct 0, R, .inl (aN (tCF E vv Z n)))), (v, .inl (ct 0, R, .inl (aN (tCF E vv V n)))), (w, .inl (ct 0, R, .inl (aN (tCF E vv E n))))]) (va_A [(mo, .inr (4, [.ref g, .ref pr, .ref hh, .ref rh, .ref aq, .ref ld, .int (nI lc), .ref nh, .ref ty])), (g, .inr (0, [.ref t, .ref v, .ref w, .int (nI n), .int (nI now), .int (oI cu)])), (t, .inl (ct 1, 3, .inr (.inr (.inr (.inr (tb_3 a0 a1 a2)))))), (a0, .inl (ct 0, R, .inl (aN X))), (a1, .inl (ct 0, R, .inl (aN Y))), (a2, .inl (ct 0, R, .inl (aN Z))), (v, .inl (ct 0, R, .inl (aN V))), (w, .inl (ct 0, R, .inl (aN E)))] sz)) 0 0 (va_A [(mo, .inr (4, [.ref g, .ref pr, .ref hh, .ref rh, .ref aq, .ref ld, .int (nI lc), .ref nh, .ref ty])), (g, .inr (0, [.ref t, .ref v, .ref w, .int (nI n), .int (nI now), .int (oI cu)])), (t, .inl (ct 1, 3, .inr (.inr (.inr (.inr (tb_3 a0 a1 a2)))))), (a0, .inl (ct 0, R, .inl (aN X))), (a1, .inl (ct 0, R, .inl (aN Y))), (a2, .inl (ct 0, R, .inl (aN Z))), (v, .inl (ct 0, R, .inl (aN V))), (w, .inl (ct 0, R, .inl (aN E)))] sz) := by
  refine Met.ofW (cc := cX4_cut) (maxL := 2) (ret := (some .int)) (by decide) rfl ?_
  intro p e s m args below meth c s₁ B hml hv
  obtain ⟨rfl, hsz, hP, hK, hD0, hZ⟩ := hv
  have hx := B.exec
  have hb := B.bytes
  have hr := B.returns
  have hts0 := atoms_spec (ws := wsX4_cut) B.pre
  have hts : ∀ w9 ∈ aw, w9.before ([.ref mo, .int (nI vv)] : List Value).toArray s = true := fun w9 h9 => hts0 w9 (List.mem_cons_of_mem _ h9)
  have hown : s.vm.findClass RX4 = some m.cls := findClass_of_methodNamed B.named
  have hlocks := B.notSynchronized
  subst hsz
  have hD := hD0.self (sz := s.heap.size)
  generalize hAe : va_A [(mo, .inr (4, [.ref g, .ref pr, .ref hh, .ref rh, .ref aq, .ref ld, .int (nI lc), .ref nh, .ref ty])), (g, .inr (0, [.ref t, .ref v, .ref w, .int (nI n), .int (nI now), .int (oI cu)])), (t, .inl (ct 1, 3, .inr (.inr (.inr (.inr (tb_3 a0 a1 a2)))))), (a0, .inl (ct 0, R, .inl (aN X))), (a1, .inl (ct 0, R, .inl (aN Y))), (a2, .inl (ct 0, R, .inl (aN Z))), (v, .inl (ct 0, R, .inl (aN V))), (w, .inl (ct 0, R, .inl (aN E)))] s.heap.size = A at hD hZ ⊢
  have hA : ∀ q : Nat, s.heap.size ≤ q → A q := fun q h => by rw [← hAe]; exact Or.inr h
  have hS : va_S A s.heap s.heap [] := va_S.rf
  have hP : va_P D vwCl [(mo, .inr (4, [.ref g, .ref pr, .ref hh, .ref rh, .ref aq, .ref ld, .int (nI lc), .ref nh, .ref ty])), (g, .inr (0, [.ref t, .ref v, .ref w, .int (nI n), .int (nI now), .int (oI cu)])), (t, .inl (ct 1, 3, .inr (.inr (.inr (.inr (tb_3 a0 a1 a2)))))), (a0, .inl (ct 0, R, .inl (aN X))), (a1, .inl (ct 0, R, .inl (aN Y))), (a2, .inl (ct 0, R, .inl (aN Z))), (v, .inl (ct 0, R, .inl (aN V))), (w, .inl (ct 0, R, .inl (aN E)))] s.heap := hP
  have hl := lv_entry ([.ref mo, .int (nI vv)]) (n := 2) (Nat.le_of_ble_eq_true rfl)
  rw [lg_entry_eq]
  generalize (lg_sl ([.ref mo, .int (nI vv)]) ++ List.replicate (2 - (lg_sl ([.ref mo, .int (nI vv)])).length) Slot.unset).toArray = ls at hl ⊢
  have hl : lv_has ls 2 [(0, .ref mo), (1, .int (nI vv))] := hl
  refine lv_iload_n hx hb dX4_cut_0 rfl (lv_at hl 1 rfl) ?_
  refine vp_callSi (va_Run.run (va_runS (As := [.int (nI vv)]) (rest := []) ⟨hx, hb, hml, hown, hts⟩ (k_isVersion l D ct (nI vv) ) (va_cwS 1 hts (gw_S (fun _ h => h) w_105 w_106 w_24 wcX4_isVersion) rfl rfl rfl hvX4_isVersion.2 ⟨Nat.le_of_ble_eq_true rfl, Nat.le_of_ble_eq_true rfl⟩) (tb_prS hP hK hZ hS [] rfl) rfl rfl hl.1 rfl (lv_room (Nat.le_of_ble_eq_true rfl)) dX4_cut_1 ⟨Nat.zero_le _, Nat.zero_le _⟩)) (fun r_1 hr_1 => ?_)
  obtain rfl : r_1 = bB (decide (tRng (nI vv) 1000001)) := hr_1
  refine tb_if_neB (tgt := 10) hx hb dX4_cut_4 (by decide) (fun c4 => ?_) (fun c4 => ?_)
  · refine lv_iload_n hx hb dX4_cut_10 rfl (lv_at hl 1 rfl) ?_
    refine lv_aload_n hx hb dX4_cut_11 rfl (lv_at hl 0 rfl) ?_
    refine va_get (D := D) (ci := 4) (v := .ref g) (C := RX4) (T := TX4) (N := 9) hx hb hts inX4 hown hK hP 0 rfl rfl 0 (by decide) (hts _ w_87) (fun _ h9 => h9) rfl dX4_cut_12 ?_
    refine va_get (D := D) (ci := 0) (v := .int (oI cu)) (C := RX0) (T := TX0) (N := 6) hx hb hts inX0 hown hK hP 1 rfl rfl 5 (by decide) (hts _ w_57) (fun _ h9 => h9) rfl dX4_cut_15 ?_
    refine lv_icmp_ge (tgt := 24) hx hb dX4_cut_18 (by decide) (fun c18 => ?_) (fun c18 => ?_)
    · refine lv_aload_n hx hb dX4_cut_24 rfl (lv_at hl 0 rfl) ?_
      refine va_get (D := D) (ci := 4) (v := .ref g) (C := RX4) (T := TX4) (N := 9) hx hb hts inX4 hown hK hP 0 rfl rfl 0 (by decide) (hts _ w_87) (fun _ h9 => h9) rfl dX4_cut_25 ?_
      refine lv_iload_n hx hb dX4_cut_28 rfl (lv_at hl 1 rfl) ?_
      refine tb_calli (wr := [(mo, .inr (4, [.ref g, .ref pr, .ref hh, .ref rh, .ref aq, .ref ld, .int (nI lc), .ref nh, .ref ty]))]) hP hD hS hA [1, 2, 3, 4, 5, 6, 7] [0] rfl rfl (by decide) (by decide) (va_runV (As := [.int (nI vv)]) (rest := []) ⟨hx, hb, hml, hown, hts⟩ (k_Log_cutAt l D ct g t a0 a1 a2 v w R n X Y Z V E now cu vv _ hn hR hV hE (by omega) hno) (cwV 1 hts (gw_V (fun _ h => h) w_248 w_249 w_250 w_26 wcX0_cutAt) rfl rfl rfl hvX0_cutAt ⟨Nat.le_of_ble_eq_true rfl, Nat.le_of_ble_eq_true rfl⟩) (tb_pwV hP hD hK hZ hS hA [1, 2, 3, 4, 5, 6, 7] (by decide) rfl (ci := 0) (q0 := 0) rfl rfl) rfl rfl hl.1 rfl (lv_room (Nat.le_of_ble_eq_true rfl)) dX4_cut_29 ⟨Nat.zero_le _, Nat.zero_le _⟩) (fun r_29 hr_29 H locs hP hD hS => ?_)
      have hP : va_P D vwCl [(mo, .inr (4, [.ref g, .ref pr, .ref hh, .ref rh, .ref aq, .ref ld, .int (nI lc), .ref nh, .ref ty])), (g, .inr (0, [.ref t, .ref v, .ref w, .int (nI (tCK E vv n)), .int (nI (max now vv)), .int (oI (some vv))])), (t, .inl (ct 1, 3, .inr (.inr (.inr (.inr (tb_3 a0 a1 a2)))))), (a0, .inl (ct 0, R, .inl (aN (tCF E vv X n)))), (a1, .inl (ct 0, R, .inl (aN (tCF E vv Y n)))), (a2, .inl (ct 0, R, .inl (aN (tCF E vv Z n)))), (v, .inl (ct 0, R, .inl (aN (tCF E vv V n)))), (w, .inl (ct 0, R, .inl (aN (tCF E vv E n))))] H := hP
      have hD : va_D A [(mo, .inr (4, [.ref g, .ref pr, .ref hh, .ref rh, .ref aq, .ref ld, .int (nI lc), .ref nh, .ref ty])), (g, .inr (0, [.ref t, .ref v, .ref w, .int (nI (tCK E vv n)), .int (nI (max now vv)), .int (oI (some vv))])), (t, .inl (ct 1, 3, .inr (.inr (.inr (.inr (tb_3 a0 a1 a2)))))), (a0, .inl (ct 0, R, .inl (aN (tCF E vv X n)))), (a1, .inl (ct 0, R, .inl (aN (tCF E vv Y n)))), (a2, .inl (ct 0, R, .inl (aN (tCF E vv Z n)))), (v, .inl (ct 0, R, .inl (aN (tCF E vv V n)))), (w, .inl (ct 0, R, .inl (aN (tCF E vv E n))))] := hD
      obtain rfl : r_29 = nI (n - tCK E vv n) := hr_29
      have hP9 : va_P D vwCl [(mo, .inr (4, [.ref g, .ref pr, .ref hh, .ref rh, .ref aq, .ref ld, .int (nI lc), .ref nh, .ref ty])), (g, .inr (0, [.ref t, .ref v, .ref w, .int (nI (tCK E vv n)), .int (nI (max now vv)), .int (oI (some vv))])), (t, .inl (ct 1, 3, .inr (.inr (.inr (.inr (tb_3 a0 a1 a2)))))), (a0, .inl (ct 0, R, .inl (aN (tCF E vv X n)))), (a1, .inl (ct 0, R, .inl (aN (tCF E vv Y n)))), (a2, .inl (ct 0, R, .inl (aN (tCF E vv Z n)))), (v, .inl (ct 0, R, .inl (aN (tCF E vv V n)))), (w, .inl (ct 0, R, .inl (aN (tCF E vv E n))))] _ := hP.sub [0, 1, 2, 3, 4, 5, 6, 7] rfl
      have hD9 : va_D A [(mo, .inr (4, [.ref g, .ref pr, .ref hh, .ref rh, .ref aq, .ref ld, .int (nI lc), .ref nh, .ref ty])), (g, .inr (0, [.ref t, .ref v, .ref w, .int (nI (tCK E vv n)), .int (nI (max now vv)), .int (oI (some vv))])), (t, .inl (ct 1, 3, .inr (.inr (.inr (.inr (tb_3 a0 a1 a2)))))), (a0, .inl (ct 0, R, .inl (aN (tCF E vv X n)))), (a1, .inl (ct 0, R, .inl (aN (tCF E vv Y n)))), (a2, .inl (ct 0, R, .inl (aN (tCF E vv Z n)))), (v, .inl (ct 0, R, .inl (aN (tCF E vv V n)))), (w, .inl (ct 0, R, .inl (aN (tCF E vv E n))))] := hD.sub [0, 1, 2, 3, 4, 5, 6, 7] (by decide) rfl
      exact W.iret (v := nI (n - tCK E vv n)) hx hb hr (fun t ht hW => ⟨⟨_, (), rfl, rfl, by rw [ht]; exact hP9, hD9⟩, hS.F ht⟩) hS.2.2 dX4_cut_32
    · exact absurd (Int32.not_lt.mp (oI_nlt (by omega) hcu)) c18
  · exact absurd (tRng_nI hv (by decide)) c4

set_option maxHeartbeats 4000000 in
set_option maxRecDepth 100000 in
theorem k_leap_m2 (l : Launch) (D : va_G) (ct : Nat → ClassId) (mo : Nat) (g : Nat) (pr : Nat) (hh : Nat) (rh : Nat) (aq : Nat) (ld : Nat) (lc : Nat) (nh : Nat) (ty : Nat) (x : Int32) (hbad : ¬ tRng x 1000001) : Met l yX4_leap wsX4_leap ({ frames := 1, cells := 0, slots := 0, locals := 20 }) (tb_Pr D ct [.ref mo, .int x] [(mo, .inr (4, [.ref g, .ref pr, .ref hh, .ref rh, .ref aq, .ref ld, .int (nI lc), .ref nh, .ref ty]))]) (vp_Si (fun r => r = (-2))) 0 0 (fun _ => False) := by
  refine Met.ofW (cc := cX4_leap) (maxL := 3) (ret := (some .int)) (by decide) rfl ?_
  intro p e s m args below meth c s₁ B hml hv
  obtain ⟨rfl, hP, hK, hZ⟩ := hv
  have hx := B.exec
  have hb := B.bytes
  have hr := B.returns
  have hts0 := atoms_spec (ws := wsX4_leap) B.pre
  have hts : ∀ w9 ∈ aw, w9.before ([.ref mo, .int x] : List Value).toArray s = true := fun w9 h9 => hts0 w9 (List.mem_cons_of_mem _ h9)
  have hown : s.vm.findClass RX4 = some m.cls := findClass_of_methodNamed B.named
  have hlocks := B.notSynchronized
  have hS : va_S (fun _ => False) s.heap s.heap [] := va_S.rf
  have hP : va_P D vwCl [(mo, .inr (4, [.ref g, .ref pr, .ref hh, .ref rh, .ref aq, .ref ld, .int (nI lc), .ref nh, .ref ty]))] s.heap := hP
  have hl := lv_entry ([.ref mo, .int x]) (n := 3) (Nat.le_of_ble_eq_true rfl)
  rw [lg_entry_eq]
  generalize (lg_sl ([.ref mo, .int x]) ++ List.replicate (3 - (lg_sl ([.ref mo, .int x])).length) Slot.unset).toArray = ls at hl ⊢
  have hl : lv_has ls 3 [(0, .ref mo), (1, .int x)] := hl
  refine lv_iload_n hx hb dX4_leap_0 rfl (lv_at hl 1 rfl) ?_
  refine vp_callSi (va_Run.run (va_runS (As := [.int x]) (rest := []) ⟨hx, hb, hml, hown, hts⟩ (k_isVersion l D ct x ) (va_cwS 1 hts (gw_S (fun _ h => h) w_105 w_106 w_24 wcX4_isVersion) rfl rfl rfl hvX4_isVersion.2 ⟨Nat.le_of_ble_eq_true rfl, Nat.le_of_ble_eq_true rfl⟩) (tb_prS hP hK hZ hS [] rfl) rfl rfl hl.1 rfl (lv_room (Nat.le_of_ble_eq_true rfl)) dX4_leap_1 ⟨Nat.zero_le _, Nat.zero_le _⟩)) (fun r_1 hr_1 => ?_)
  obtain rfl : r_1 = bB (decide (tRng x 1000001)) := hr_1
  refine tb_if_neB (tgt := 10) hx hb dX4_leap_4 (by decide) (fun c4 => ?_) (fun c4 => ?_)
  · exact absurd c4 hbad
  · refine lv_bipush (v := (-2)) hx hb dX4_leap_7 (by decide) ?_
    exact W.iret (v := (-2)) hx hb hr (fun t ht hW => ⟨_, rfl, rfl, ht⟩) (fun q h => by cases h) dX4_leap_9

set_option maxHeartbeats 4000000 in
set_option maxRecDepth 100000 in
theorem k_leap_m3 (l : Launch) (D : va_G) (ct : Nat → ClassId) (mo : Nat) (g : Nat) (pr : Nat) (hh : Nat) (rh : Nat) (aq : Nat) (ld : Nat) (lc : Nat) (nh : Nat) (ty : Nat) (t : Nat) (a0 : Nat) (a1 : Nat) (a2 : Nat) (v : Nat) (w : Nat) (R : Nat) (n : Nat) (X : Nat → Nat) (Y : Nat → Nat) (Z : Nat → Nat) (V : Nat → Nat) (E : Nat → Nat) (now : Nat) (cu : Option Nat) (vv : Nat) (hv : vv < 1000001) (hlow : ∃ j, cu = some j ∧ vv < j) (hcb : ∀ j, cu = some j → j < 2 ^ 31) : Met l yX4_leap wsX4_leap ({ frames := 1, cells := 0, slots := 0, locals := 20 }) (tb_Pr D ct [.ref mo, .int (nI vv)] [(mo, .inr (4, [.ref g, .ref pr, .ref hh, .ref rh, .ref aq, .ref ld, .int (nI lc), .ref nh, .ref ty])), (g, .inr (0, [.ref t, .ref v, .ref w, .int (nI n), .int (nI now), .int (oI cu)])), (t, .inl (ct 1, 3, .inr (.inr (.inr (.inr (tb_3 a0 a1 a2)))))), (a0, .inl (ct 0, R, .inl (aN X))), (a1, .inl (ct 0, R, .inl (aN Y))), (a2, .inl (ct 0, R, .inl (aN Z))), (v, .inl (ct 0, R, .inl (aN V))), (w, .inl (ct 0, R, .inl (aN E)))]) (vp_Si (fun r => r = (-3))) 0 0 (fun _ => False) := by
  refine Met.ofW (cc := cX4_leap) (maxL := 3) (ret := (some .int)) (by decide) rfl ?_
  intro p e s m args below meth c s₁ B hml hv
  obtain ⟨rfl, hP, hK, hZ⟩ := hv
  have hx := B.exec
  have hb := B.bytes
  have hr := B.returns
  have hts0 := atoms_spec (ws := wsX4_leap) B.pre
  have hts : ∀ w9 ∈ aw, w9.before ([.ref mo, .int (nI vv)] : List Value).toArray s = true := fun w9 h9 => hts0 w9 (List.mem_cons_of_mem _ h9)
  have hown : s.vm.findClass RX4 = some m.cls := findClass_of_methodNamed B.named
  have hlocks := B.notSynchronized
  have hS : va_S (fun _ => False) s.heap s.heap [] := va_S.rf
  have hP : va_P D vwCl [(mo, .inr (4, [.ref g, .ref pr, .ref hh, .ref rh, .ref aq, .ref ld, .int (nI lc), .ref nh, .ref ty])), (g, .inr (0, [.ref t, .ref v, .ref w, .int (nI n), .int (nI now), .int (oI cu)])), (t, .inl (ct 1, 3, .inr (.inr (.inr (.inr (tb_3 a0 a1 a2)))))), (a0, .inl (ct 0, R, .inl (aN X))), (a1, .inl (ct 0, R, .inl (aN Y))), (a2, .inl (ct 0, R, .inl (aN Z))), (v, .inl (ct 0, R, .inl (aN V))), (w, .inl (ct 0, R, .inl (aN E)))] s.heap := hP
  have hl := lv_entry ([.ref mo, .int (nI vv)]) (n := 3) (Nat.le_of_ble_eq_true rfl)
  rw [lg_entry_eq]
  generalize (lg_sl ([.ref mo, .int (nI vv)]) ++ List.replicate (3 - (lg_sl ([.ref mo, .int (nI vv)])).length) Slot.unset).toArray = ls at hl ⊢
  have hl : lv_has ls 3 [(0, .ref mo), (1, .int (nI vv))] := hl
  refine lv_iload_n hx hb dX4_leap_0 rfl (lv_at hl 1 rfl) ?_
  refine vp_callSi (va_Run.run (va_runS (As := [.int (nI vv)]) (rest := []) ⟨hx, hb, hml, hown, hts⟩ (k_isVersion l D ct (nI vv) ) (va_cwS 1 hts (gw_S (fun _ h => h) w_105 w_106 w_24 wcX4_isVersion) rfl rfl rfl hvX4_isVersion.2 ⟨Nat.le_of_ble_eq_true rfl, Nat.le_of_ble_eq_true rfl⟩) (tb_prS hP hK hZ hS [] rfl) rfl rfl hl.1 rfl (lv_room (Nat.le_of_ble_eq_true rfl)) dX4_leap_1 ⟨Nat.zero_le _, Nat.zero_le _⟩)) (fun r_1 hr_1 => ?_)
  obtain rfl : r_1 = bB (decide (tRng (nI vv) 1000001)) := hr_1
  refine tb_if_neB (tgt := 10) hx hb dX4_leap_4 (by decide) (fun c4 => ?_) (fun c4 => ?_)
  · refine lv_iload_n hx hb dX4_leap_10 rfl (lv_at hl 1 rfl) ?_
    refine lv_aload_n hx hb dX4_leap_11 rfl (lv_at hl 0 rfl) ?_
    refine va_get (D := D) (ci := 4) (v := .ref g) (C := RX4) (T := TX4) (N := 9) hx hb hts inX4 hown hK hP 0 rfl rfl 0 (by decide) (hts _ w_87) (fun _ h9 => h9) rfl dX4_leap_12 ?_
    refine va_get (D := D) (ci := 0) (v := .int (oI cu)) (C := RX0) (T := TX0) (N := 6) hx hb hts inX0 hown hK hP 1 rfl rfl 5 (by decide) (hts _ w_57) (fun _ h9 => h9) rfl dX4_leap_15 ?_
    refine lv_icmp_ge (tgt := 24) hx hb dX4_leap_18 (by decide) (fun c18 => ?_) (fun c18 => ?_)
    · exact absurd (oI_lt hlow hcb) (Int32.not_lt.mpr c18)
    · refine lv_bipush (v := (-3)) hx hb dX4_leap_21 (by decide) ?_
      exact W.iret (v := (-3)) hx hb hr (fun t ht hW => ⟨_, rfl, rfl, ht⟩) (fun q h => by cases h) dX4_leap_23
  · exact absurd (tRng_nI hv (by decide)) c4

set_option maxHeartbeats 4000000 in
set_option maxRecDepth 100000 in
theorem k_leap_0 (l : Launch) (D : va_G) (ct : Nat → ClassId) (mo : Nat) (g : Nat) (pr : Nat) (hh : Nat) (rh : Nat) (aq : Nat) (ld : Nat) (nh : Nat) (ty : Nat) (t : Nat) (a0 : Nat) (a1 : Nat) (a2 : Nat) (v : Nat) (w : Nat) (R : Nat) (n : Nat) (X : Nat → Nat) (Y : Nat → Nat) (Z : Nat → Nat) (V : Nat → Nat) (E : Nat → Nat) (now : Nat) (cu : Option Nat) (nk : Nat) (nn : Nat) (f : Nat → Nat) (vv : Nat) (sz : Nat) (hv : vv < 1000001) (hcu : ∀ j, cu = some j → j ≤ vv) : Met l yX4_leap wsX4_leap ({ frames := 1, cells := 0, slots := 0, locals := 20 }) (tb_Pw D ct [.ref mo, .int (nI vv)] sz [(mo, .inr (4, [.ref g, .ref pr, .ref hh, .ref rh, .ref aq, .ref ld, .int (nI 0), .ref nh, .ref ty])), (g, .inr (0, [.ref t, .ref v, .ref w, .int (nI n), .int (nI now), .int (oI cu)])), (t, .inl (ct 1, 3, .inr (.inr (.inr (.inr (tb_3 a0 a1 a2)))))), (a0, .inl (ct 0, R, .inl (aN X))), (a1, .inl (ct 0, R, .inl (aN Y))), (a2, .inl (ct 0, R, .inl (aN Z))), (v, .inl (ct 0, R, .inl (aN V))), (w, .inl (ct 0, R, .inl (aN E))), (nh, .inr (3, [.ref nk, .int (nI nn)])), (nk, .inl (ct 0, R, .inl (aN f)))]) (va_Qi (fun r _ => r = nI 0) (tb_B D (va_A [(mo, .inr (4, [.ref g, .ref pr, .ref hh, .ref rh, .ref aq, .ref ld, .int (nI 0), .ref nh, .ref ty])), (g, .inr (0, [.ref t, .ref v, .ref w, .int (nI n), .int (nI now), .int (oI cu)])), (t, .inl (ct 1, 3, .inr (.inr (.inr (.inr (tb_3 a0 a1 a2)))))), (a0, .inl (ct 0, R, .inl (aN X))), (a1, .inl (ct 0, R, .inl (aN Y))), (a2, .inl (ct 0, R, .inl (aN Z))), (v, .inl (ct 0, R, .inl (aN V))), (w, .inl (ct 0, R, .inl (aN E))), (nh, .inr (3, [.ref nk, .int (nI nn)])), (nk, .inl (ct 0, R, .inl (aN f)))] sz) [(mo, .inr (4, [.ref g, .ref pr, .ref hh, .ref rh, .ref aq, .ref ld, .int (nI 0), .ref nh, .ref ty])), (g, .inr (0, [.ref t, .ref v, .ref w, .int (nI n), .int (nI now), .int (oI cu)])), (t, .inl (ct 1, 3, .inr (.inr (.inr (.inr (tb_3 a0 a1 a2)))))), (a0, .inl (ct 0, R, .inl (aN X))), (a1, .inl (ct 0, R, .inl (aN Y))), (a2, .inl (ct 0, R, .inl (aN Z))), (v, .inl (ct 0, R, .inl (aN V))), (w, .inl (ct 0, R, .inl (aN E))), (nh, .inr (3, [.ref nk, .int (nI 0)])), (nk, .inl (ct 0, R, .inl (aN f)))]) (va_A [(mo, .inr (4, [.ref g, .ref pr, .ref hh, .ref rh, .ref aq, .ref ld, .int (nI 0), .ref nh, .ref ty])), (g, .inr (0, [.ref t, .ref v, .ref w, .int (nI n), .int (nI now), .int (oI cu)])), (t, .inl (ct 1, 3, .inr (.inr (.inr (.inr (tb_3 a0 a1 a2)))))), (a0, .inl (ct 0, R, .inl (aN X))), (a1, .inl (ct 0, R, .inl (aN Y))), (a2, .inl (ct 0, R, .inl (aN Z))), (v, .inl (ct 0, R, .inl (aN V))), (w, .inl (ct 0, R, .inl (aN E))), (nh, .inr (3, [.ref nk, .int (nI nn)])), (nk, .inl (ct 0, R, .inl (aN f)))] sz)) 0 0 (va_A [(mo, .inr (4, [.ref g, .ref pr, .ref hh, .ref rh, .ref aq, .ref ld, .int (nI 0), .ref nh, .ref ty])), (g, .inr (0, [.ref t, .ref v, .ref w, .int (nI n), .int (nI now), .int (oI cu)])), (t, .inl (ct 1, 3, .inr (.inr (.inr (.inr (tb_3 a0 a1 a2)))))), (a0, .inl (ct 0, R, .inl (aN X))), (a1, .inl (ct 0, R, .inl (aN Y))), (a2, .inl (ct 0, R, .inl (aN Z))), (v, .inl (ct 0, R, .inl (aN V))), (w, .inl (ct 0, R, .inl (aN E))), (nh, .inr (3, [.ref nk, .int (nI nn)])), (nk, .inl (ct 0, R, .inl (aN f)))] sz) := by
  refine Met.ofW (cc := cX4_leap) (maxL := 3) (ret := (some .int)) (by decide) rfl ?_
  intro p e s m args below meth c s₁ B hml hv
  obtain ⟨rfl, hsz, hP, hK, hD0, hZ⟩ := hv
  have hx := B.exec
  have hb := B.bytes
  have hr := B.returns
  have hts0 := atoms_spec (ws := wsX4_leap) B.pre
  have hts : ∀ w9 ∈ aw, w9.before ([.ref mo, .int (nI vv)] : List Value).toArray s = true := fun w9 h9 => hts0 w9 (List.mem_cons_of_mem _ h9)
  have hown : s.vm.findClass RX4 = some m.cls := findClass_of_methodNamed B.named
  have hlocks := B.notSynchronized
  subst hsz
  have hD := hD0.self (sz := s.heap.size)
  generalize hAe : va_A [(mo, .inr (4, [.ref g, .ref pr, .ref hh, .ref rh, .ref aq, .ref ld, .int (nI 0), .ref nh, .ref ty])), (g, .inr (0, [.ref t, .ref v, .ref w, .int (nI n), .int (nI now), .int (oI cu)])), (t, .inl (ct 1, 3, .inr (.inr (.inr (.inr (tb_3 a0 a1 a2)))))), (a0, .inl (ct 0, R, .inl (aN X))), (a1, .inl (ct 0, R, .inl (aN Y))), (a2, .inl (ct 0, R, .inl (aN Z))), (v, .inl (ct 0, R, .inl (aN V))), (w, .inl (ct 0, R, .inl (aN E))), (nh, .inr (3, [.ref nk, .int (nI nn)])), (nk, .inl (ct 0, R, .inl (aN f)))] s.heap.size = A at hD hZ ⊢
  have hA : ∀ q : Nat, s.heap.size ≤ q → A q := fun q h => by rw [← hAe]; exact Or.inr h
  have hS : va_S A s.heap s.heap [] := va_S.rf
  have hP : va_P D vwCl [(mo, .inr (4, [.ref g, .ref pr, .ref hh, .ref rh, .ref aq, .ref ld, .int (nI 0), .ref nh, .ref ty])), (g, .inr (0, [.ref t, .ref v, .ref w, .int (nI n), .int (nI now), .int (oI cu)])), (t, .inl (ct 1, 3, .inr (.inr (.inr (.inr (tb_3 a0 a1 a2)))))), (a0, .inl (ct 0, R, .inl (aN X))), (a1, .inl (ct 0, R, .inl (aN Y))), (a2, .inl (ct 0, R, .inl (aN Z))), (v, .inl (ct 0, R, .inl (aN V))), (w, .inl (ct 0, R, .inl (aN E))), (nh, .inr (3, [.ref nk, .int (nI nn)])), (nk, .inl (ct 0, R, .inl (aN f)))] s.heap := hP
  have hl := lv_entry ([.ref mo, .int (nI vv)]) (n := 3) (Nat.le_of_ble_eq_true rfl)
  rw [lg_entry_eq]
  generalize (lg_sl ([.ref mo, .int (nI vv)]) ++ List.replicate (3 - (lg_sl ([.ref mo, .int (nI vv)])).length) Slot.unset).toArray = ls at hl ⊢
  have hl : lv_has ls 3 [(0, .ref mo), (1, .int (nI vv))] := hl
  refine lv_iload_n hx hb dX4_leap_0 rfl (lv_at hl 1 rfl) ?_
  refine vp_callSi (va_Run.run (va_runS (As := [.int (nI vv)]) (rest := []) ⟨hx, hb, hml, hown, hts⟩ (k_isVersion l D ct (nI vv) ) (va_cwS 1 hts (gw_S (fun _ h => h) w_105 w_106 w_24 wcX4_isVersion) rfl rfl rfl hvX4_isVersion.2 ⟨Nat.le_of_ble_eq_true rfl, Nat.le_of_ble_eq_true rfl⟩) (tb_prS hP hK hZ hS [] rfl) rfl rfl hl.1 rfl (lv_room (Nat.le_of_ble_eq_true rfl)) dX4_leap_1 ⟨Nat.zero_le _, Nat.zero_le _⟩)) (fun r_1 hr_1 => ?_)
  obtain rfl : r_1 = bB (decide (tRng (nI vv) 1000001)) := hr_1
  refine tb_if_neB (tgt := 10) hx hb dX4_leap_4 (by decide) (fun c4 => ?_) (fun c4 => ?_)
  · refine lv_iload_n hx hb dX4_leap_10 rfl (lv_at hl 1 rfl) ?_
    refine lv_aload_n hx hb dX4_leap_11 rfl (lv_at hl 0 rfl) ?_
    refine va_get (D := D) (ci := 4) (v := .ref g) (C := RX4) (T := TX4) (N := 9) hx hb hts inX4 hown hK hP 0 rfl rfl 0 (by decide) (hts _ w_87) (fun _ h9 => h9) rfl dX4_leap_12 ?_
    refine va_get (D := D) (ci := 0) (v := .int (oI cu)) (C := RX0) (T := TX0) (N := 6) hx hb hts inX0 hown hK hP 1 rfl rfl 5 (by decide) (hts _ w_57) (fun _ h9 => h9) rfl dX4_leap_15 ?_
    refine lv_icmp_ge (tgt := 24) hx hb dX4_leap_18 (by decide) (fun c18 => ?_) (fun c18 => ?_)
    · refine lv_aload_n hx hb dX4_leap_24 rfl (lv_at hl 0 rfl) ?_
      refine va_get (D := D) (ci := 4) (v := .ref nh) (C := RX4) (T := TX4) (N := 9) hx hb hts inX4 hown hK hP 0 rfl rfl 7 (by decide) (hts _ w_94) (fun _ h9 => h9) rfl dX4_leap_25 ?_
      refine tb_callv (wr := [(mo, .inr (4, [.ref g, .ref pr, .ref hh, .ref rh, .ref aq, .ref ld, .int (nI 0), .ref nh, .ref ty])), (g, .inr (0, [.ref t, .ref v, .ref w, .int (nI n), .int (nI now), .int (oI cu)])), (t, .inl (ct 1, 3, .inr (.inr (.inr (.inr (tb_3 a0 a1 a2)))))), (a0, .inl (ct 0, R, .inl (aN X))), (a1, .inl (ct 0, R, .inl (aN Y))), (a2, .inl (ct 0, R, .inl (aN Z))), (v, .inl (ct 0, R, .inl (aN V))), (w, .inl (ct 0, R, .inl (aN E)))]) hP hD hS hA [8, 9] [0, 1, 2, 3, 4, 5, 6, 7] rfl rfl (by decide) (by decide) (va_runV (As := []) (rest := []) ⟨hx, hb, hml, hown, hts⟩ (k_Row_empty l D ct nh nk R nn f _ ) (cwV 0 hts (gw_V (fun _ h => h) w_182 w_183 w_184 w_28 wcX3_empty) rfl rfl rfl hvX3_empty ⟨Nat.le_of_ble_eq_true rfl, Nat.le_of_ble_eq_true rfl⟩) (tb_pwV hP hD hK hZ hS hA [8, 9] (by decide) rfl (ci := 3) (q0 := 0) rfl rfl) rfl rfl hl.1 rfl (lv_room (Nat.le_of_ble_eq_true rfl)) dX4_leap_28 ⟨Nat.zero_le _, Nat.zero_le _⟩) (fun H locs hP hD hS => ?_)
      have hP : va_P D vwCl [(mo, .inr (4, [.ref g, .ref pr, .ref hh, .ref rh, .ref aq, .ref ld, .int (nI 0), .ref nh, .ref ty])), (g, .inr (0, [.ref t, .ref v, .ref w, .int (nI n), .int (nI now), .int (oI cu)])), (t, .inl (ct 1, 3, .inr (.inr (.inr (.inr (tb_3 a0 a1 a2)))))), (a0, .inl (ct 0, R, .inl (aN X))), (a1, .inl (ct 0, R, .inl (aN Y))), (a2, .inl (ct 0, R, .inl (aN Z))), (v, .inl (ct 0, R, .inl (aN V))), (w, .inl (ct 0, R, .inl (aN E))), (nh, .inr (3, [.ref nk, .int (nI 0)])), (nk, .inl (ct 0, R, .inl (aN f)))] H := hP
      have hD : va_D A [(mo, .inr (4, [.ref g, .ref pr, .ref hh, .ref rh, .ref aq, .ref ld, .int (nI 0), .ref nh, .ref ty])), (g, .inr (0, [.ref t, .ref v, .ref w, .int (nI n), .int (nI now), .int (oI cu)])), (t, .inl (ct 1, 3, .inr (.inr (.inr (.inr (tb_3 a0 a1 a2)))))), (a0, .inl (ct 0, R, .inl (aN X))), (a1, .inl (ct 0, R, .inl (aN Y))), (a2, .inl (ct 0, R, .inl (aN Z))), (v, .inl (ct 0, R, .inl (aN V))), (w, .inl (ct 0, R, .inl (aN E))), (nh, .inr (3, [.ref nk, .int (nI 0)])), (nk, .inl (ct 0, R, .inl (aN f)))] := hD
      refine lv_aload_n hx hb dX4_leap_31 rfl (lv_at hl 0 rfl) ?_
      refine va_get (D := D) (ci := 4) (v := .int (nI 0)) (C := RX4) (T := TX4) (N := 9) hx hb hts inX4 hown hK hP 0 rfl rfl 6 (by decide) (hts _ w_93) (fun _ h9 => h9) rfl dX4_leap_32 ?_
      refine tb_if_ne (tgt := 40) hx hb dX4_leap_35 (by decide) (by omega) (fun c35 => ?_) (fun c35 => ?_)
      · exact absurd c35 (by decide)
      · refine lv_iconst (v := nI 0) hx hb dX4_leap_38 (by decide) ?_
        have hP9 : va_P D vwCl [(mo, .inr (4, [.ref g, .ref pr, .ref hh, .ref rh, .ref aq, .ref ld, .int (nI 0), .ref nh, .ref ty])), (g, .inr (0, [.ref t, .ref v, .ref w, .int (nI n), .int (nI now), .int (oI cu)])), (t, .inl (ct 1, 3, .inr (.inr (.inr (.inr (tb_3 a0 a1 a2)))))), (a0, .inl (ct 0, R, .inl (aN X))), (a1, .inl (ct 0, R, .inl (aN Y))), (a2, .inl (ct 0, R, .inl (aN Z))), (v, .inl (ct 0, R, .inl (aN V))), (w, .inl (ct 0, R, .inl (aN E))), (nh, .inr (3, [.ref nk, .int (nI 0)])), (nk, .inl (ct 0, R, .inl (aN f)))] _ := hP.sub [0, 1, 2, 3, 4, 5, 6, 7, 8, 9] rfl
        have hD9 : va_D A [(mo, .inr (4, [.ref g, .ref pr, .ref hh, .ref rh, .ref aq, .ref ld, .int (nI 0), .ref nh, .ref ty])), (g, .inr (0, [.ref t, .ref v, .ref w, .int (nI n), .int (nI now), .int (oI cu)])), (t, .inl (ct 1, 3, .inr (.inr (.inr (.inr (tb_3 a0 a1 a2)))))), (a0, .inl (ct 0, R, .inl (aN X))), (a1, .inl (ct 0, R, .inl (aN Y))), (a2, .inl (ct 0, R, .inl (aN Z))), (v, .inl (ct 0, R, .inl (aN V))), (w, .inl (ct 0, R, .inl (aN E))), (nh, .inr (3, [.ref nk, .int (nI 0)])), (nk, .inl (ct 0, R, .inl (aN f)))] := hD.sub [0, 1, 2, 3, 4, 5, 6, 7, 8, 9] (by decide) rfl
        exact W.iret (v := nI 0) hx hb hr (fun t ht hW => ⟨⟨_, (), rfl, rfl, by rw [ht]; exact hP9, hD9⟩, hS.F ht⟩) hS.2.2 dX4_leap_39
    · exact absurd (Int32.not_lt.mp (oI_nlt (by omega) hcu)) c18
  · exact absurd (tRng_nI hv (by decide)) c4
