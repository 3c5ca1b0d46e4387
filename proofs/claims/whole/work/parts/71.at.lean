set_option maxHeartbeats 4000000 in
set_option maxRecDepth 100000 in
theorem k_at_m2 (l : Launch) (D : va_G) (ct : Nat → ClassId) (mo : Nat) (g : Nat) (pr : Nat) (hh : Nat) (rh : Nat) (aq : Nat) (ld : Nat) (lc : Nat) (nh : Nat) (ty : Nat) (i : Int32) (x : Int32) (hbad : ¬ tRng x 3) : Met l yX4_at wsX4_at ({ frames := 0, cells := 0, slots := 0, locals := 0 }) (tb_Pr D ct [.ref mo, .int i, .int x] [(mo, .inr (4, [.ref g, .ref pr, .ref hh, .ref rh, .ref aq, .ref ld, .int (nI lc), .ref nh, .ref ty]))]) (vp_Si (fun r => r = (-2))) 0 0 (fun _ => False) := by
  refine Met.ofW (cc := cX4_at) (maxL := 4) (ret := (some .int)) (by decide) rfl ?_
  intro p e s m args below meth c s₁ B hml hv
  obtain ⟨rfl, hP, hK, hZ⟩ := hv
  have hx := B.exec
  have hb := B.bytes
  have hr := B.returns
  have hts0 := atoms_spec (ws := wsX4_at) B.pre
  have hts : ∀ w9 ∈ aw, w9.before ([.ref mo, .int i, .int x] : List Value).toArray s = true := fun w9 h9 => hts0 w9 (List.mem_cons_of_mem _ h9)
  have hown : s.vm.findClass RX4 = some m.cls := findClass_of_methodNamed B.named
  have hlocks := B.notSynchronized
  have hS : va_S (fun _ => False) s.heap s.heap [] := va_S.rf
  have hP : va_P D vwCl [(mo, .inr (4, [.ref g, .ref pr, .ref hh, .ref rh, .ref aq, .ref ld, .int (nI lc), .ref nh, .ref ty]))] s.heap := hP
  have hl := lv_entry ([.ref mo, .int i, .int x]) (n := 4) (Nat.le_of_ble_eq_true rfl)
  rw [lg_entry_eq]
  generalize (lg_sl ([.ref mo, .int i, .int x]) ++ List.replicate (4 - (lg_sl ([.ref mo, .int i, .int x])).length) Slot.unset).toArray = ls at hl ⊢
  have hl : lv_has ls 4 [(0, .ref mo), (1, .int i), (2, .int x)] := hl
  refine lv_iload_n hx hb dX4_at_0 rfl (lv_at hl 2 rfl) ?_
  refine lv_if_lt (tgt := 9) hx hb dX4_at_1 (by decide) (fun c1 => ?_) (fun c1 => ?_)
  · refine lv_bipush (v := (-2)) hx hb dX4_at_9 (by decide) ?_
    exact W.iret (v := (-2)) hx hb hr (fun t ht hW => ⟨_, rfl, rfl, ht⟩) (fun q h => by cases h) dX4_at_11
  · refine lv_iload_n hx hb dX4_at_4 rfl (lv_at hl 2 rfl) ?_
    refine lv_iconst (v := nI 2) hx hb dX4_at_5 (by decide) ?_
    refine lv_icmp_le (tgt := 12) hx hb dX4_at_6 (by decide) (fun c6 => ?_) (fun c6 => ?_)
    · exact absurd (tRng_ofg (by decide) c1 (fun q => absurd c6 (Int32.not_le.mpr q))) hbad
    · refine lv_bipush (v := (-2)) hx hb dX4_at_9 (by decide) ?_
      exact W.iret (v := (-2)) hx hb hr (fun t ht hW => ⟨_, rfl, rfl, ht⟩) (fun q h => by cases h) dX4_at_11

set_option maxHeartbeats 4000000 in
set_option maxRecDepth 100000 in
theorem k_at_none (l : Launch) (D : va_G) (ct : Nat → ClassId) (mo : Nat) (g : Nat) (pr : Nat) (hh : Nat) (rh : Nat) (aq : Nat) (ld : Nat) (lc : Nat) (nh : Nat) (ty : Nat) (R : Nat) (kh : Nat) (cn : Nat) (f : Nat → Nat) (i : Int32) (j : Nat) (hR : R ≤ 400) (hn9 : cn ≤ R) (hj : j < 3) (hi : ¬ tRng i cn) : Met l yX4_at wsX4_at ({ frames := 1, cells := 0, slots := 0, locals := 21 }) (tb_Pr D ct [.ref mo, .int i, .int (nI j)] [(mo, .inr (4, [.ref g, .ref pr, .ref hh, .ref rh, .ref aq, .ref ld, .int (nI lc), .ref nh, .ref ty])), (hh, .inr (3, [.ref kh, .int (nI cn)])), (kh, .inl (ct 0, R, .inl (aN f)))]) (vp_Si (fun r => r = (-1))) 0 0 (fun _ => False) := by
  refine Met.ofW (cc := cX4_at) (maxL := 4) (ret := (some .int)) (by decide) rfl ?_
  intro p e s m args below meth c s₁ B hml hv
  obtain ⟨rfl, hP, hK, hZ⟩ := hv
  have hx := B.exec
  have hb := B.bytes
  have hr := B.returns
  have hts0 := atoms_spec (ws := wsX4_at) B.pre
  have hts : ∀ w9 ∈ aw, w9.before ([.ref mo, .int i, .int (nI j)] : List Value).toArray s = true := fun w9 h9 => hts0 w9 (List.mem_cons_of_mem _ h9)
  have hown : s.vm.findClass RX4 = some m.cls := findClass_of_methodNamed B.named
  have hlocks := B.notSynchronized
  have hS : va_S (fun _ => False) s.heap s.heap [] := va_S.rf
  have hP : va_P D vwCl [(mo, .inr (4, [.ref g, .ref pr, .ref hh, .ref rh, .ref aq, .ref ld, .int (nI lc), .ref nh, .ref ty])), (hh, .inr (3, [.ref kh, .int (nI cn)])), (kh, .inl (ct 0, R, .inl (aN f)))] s.heap := hP
  have hl := lv_entry ([.ref mo, .int i, .int (nI j)]) (n := 4) (Nat.le_of_ble_eq_true rfl)
  rw [lg_entry_eq]
  generalize (lg_sl ([.ref mo, .int i, .int (nI j)]) ++ List.replicate (4 - (lg_sl ([.ref mo, .int i, .int (nI j)])).length) Slot.unset).toArray = ls at hl ⊢
  have hl : lv_has ls 4 [(0, .ref mo), (1, .int i), (2, .int (nI j))] := hl
  refine lv_iload_n hx hb dX4_at_0 rfl (lv_at hl 2 rfl) ?_
  refine tb_if_lt (tgt := 9) hx hb dX4_at_1 (by decide) (by omega) ?_
  refine lv_iload_n hx hb dX4_at_4 rfl (lv_at hl 2 rfl) ?_
  refine lv_iconst (v := nI 2) hx hb dX4_at_5 (by decide) ?_
  refine tb_icmp_le (tgt := 12) hx hb dX4_at_6 (by decide) (by omega) (by omega) (fun c6 => ?_) (fun c6 => ?_)
  · refine lv_aload_n hx hb dX4_at_12 rfl (lv_at hl 0 rfl) ?_
    refine va_get (D := D) (ci := 4) (v := .ref hh) (C := RX4) (T := TX4) (N := 9) hx hb hts inX4 hown hK hP 0 rfl rfl 2 (by decide) (hts _ w_89) (fun _ h9 => h9) rfl dX4_at_13 ?_
    refine lv_iload_n hx hb dX4_at_16 rfl (lv_at hl 1 rfl) ?_
    refine vp_callSi (va_Run.run (va_runV (As := [.int i]) (rest := []) ⟨hx, hb, hml, hown, hts⟩ (k_Row_keyX l D ct hh kh R cn f i hn9 hR hi) (cwV 1 hts (gw_V (fun _ h => h) w_204 w_205 w_206 w_28 wcX3_key) rfl rfl rfl hvX3_key ⟨Nat.le_of_ble_eq_true rfl, Nat.le_of_ble_eq_true rfl⟩) (tb_prV hP hK hZ hS [1, 2] rfl (ci := 3) (q0 := 0) rfl rfl) rfl rfl hl.1 rfl (lv_room (Nat.le_of_ble_eq_true rfl)) dX4_at_17 ⟨Nat.zero_le _, Nat.zero_le _⟩)) (fun r_17 hr_17 => ?_)
    obtain rfl : r_17 = (-1) := hr_17
    refine lv_istore_n (lv' := [(3, .int (-1)), (0, .ref mo), (1, .int i), (2, .int (nI j))]) hx hb dX4_at_20 rfl hl (by decide) rfl (fun ls hl => ?_)
    refine lv_iload_n hx hb dX4_at_21 rfl (lv_at hl 0 rfl) ?_
    refine lv_iconst (v := (-1)) hx hb dX4_at_22 (by decide) ?_
    refine lv_icmp_ne (tgt := 30) hx hb dX4_at_23 (by decide) (fun c23 => ?_) (fun c23 => ?_)
    · exact absurd rfl c23
    · refine lv_iconst (v := (-1)) hx hb dX4_at_26 (by decide) ?_
      refine lv_goto (tgt := 49) hx hb dX4_at_27 (by decide) ?_
      exact W.iret (v := (-1)) hx hb hr (fun t ht hW => ⟨_, rfl, rfl, ht⟩) (fun q h => by cases h) dX4_at_49
  · exfalso; omega

set_option maxHeartbeats 4000000 in
set_option maxRecDepth 100000 in
theorem k_at_ok (l : Launch) (D : va_G) (ct : Nat → ClassId) (mo : Nat) (g : Nat) (pr : Nat) (hh : Nat) (rh : Nat) (aq : Nat) (ld : Nat) (lc : Nat) (nh : Nat) (ty : Nat) (R : Nat) (kh : Nat) (cn : Nat) (f : Nat → Nat) (o : Nat) (x0 : Int32) (y0 : Int32) (i : Nat) (j : Nat) (hR : R ≤ 400) (hn9 : cn ≤ R) (hj : j < 3) (hi : i < cn) (ho : o < 6) (hfb : ∀ j, f j < 2 ^ 31) : Met l yX4_at wsX4_at ({ frames := 1, cells := 0, slots := 0, locals := 21 }) (tb_Pr D ct [.ref mo, .int (nI i), .int (nI j)] [(mo, .inr (4, [.ref g, .ref pr, .ref hh, .ref rh, .ref aq, .ref ld, .int (nI lc), .ref nh, .ref ty])), (hh, .inr (3, [.ref kh, .int (nI cn)])), (kh, .inl (ct 0, R, .inl (aN f))), (rh, .inr (2, [.int (nI o), .int x0, .int y0]))]) (vp_Si (fun r => r = nI (tTerm (f i) (poF (o * 3 + j))))) 0 0 (fun _ => False) := by
  refine Met.ofW (cc := cX4_at) (maxL := 4) (ret := (some .int)) (by decide) rfl ?_
  intro p e s m args below meth c s₁ B hml hv
  obtain ⟨rfl, hP, hK, hZ⟩ := hv
  have hx := B.exec
  have hb := B.bytes
  have hr := B.returns
  have hts0 := atoms_spec (ws := wsX4_at) B.pre
  have hts : ∀ w9 ∈ aw, w9.before ([.ref mo, .int (nI i), .int (nI j)] : List Value).toArray s = true := fun w9 h9 => hts0 w9 (List.mem_cons_of_mem _ h9)
  have hown : s.vm.findClass RX4 = some m.cls := findClass_of_methodNamed B.named
  have hlocks := B.notSynchronized
  have hS : va_S (fun _ => False) s.heap s.heap [] := va_S.rf
  have hP : va_P D vwCl [(mo, .inr (4, [.ref g, .ref pr, .ref hh, .ref rh, .ref aq, .ref ld, .int (nI lc), .ref nh, .ref ty])), (hh, .inr (3, [.ref kh, .int (nI cn)])), (kh, .inl (ct 0, R, .inl (aN f))), (rh, .inr (2, [.int (nI o), .int x0, .int y0]))] s.heap := hP
  have hl := lv_entry ([.ref mo, .int (nI i), .int (nI j)]) (n := 4) (Nat.le_of_ble_eq_true rfl)
  rw [lg_entry_eq]
  generalize (lg_sl ([.ref mo, .int (nI i), .int (nI j)]) ++ List.replicate (4 - (lg_sl ([.ref mo, .int (nI i), .int (nI j)])).length) Slot.unset).toArray = ls at hl ⊢
  have hl : lv_has ls 4 [(0, .ref mo), (1, .int (nI i)), (2, .int (nI j))] := hl
  obtain ⟨tB, hZb, hTb⟩ := hZ.2.1
  refine lv_iload_n hx hb dX4_at_0 rfl (lv_at hl 2 rfl) ?_
  refine tb_if_lt (tgt := 9) hx hb dX4_at_1 (by decide) (by omega) ?_
  refine lv_iload_n hx hb dX4_at_4 rfl (lv_at hl 2 rfl) ?_
  refine lv_iconst (v := nI 2) hx hb dX4_at_5 (by decide) ?_
  refine tb_icmp_le (tgt := 12) hx hb dX4_at_6 (by decide) (by omega) (by omega) (fun c6 => ?_) (fun c6 => ?_)
  · refine lv_aload_n hx hb dX4_at_12 rfl (lv_at hl 0 rfl) ?_
    refine va_get (D := D) (ci := 4) (v := .ref hh) (C := RX4) (T := TX4) (N := 9) hx hb hts inX4 hown hK hP 0 rfl rfl 2 (by decide) (hts _ w_89) (fun _ h9 => h9) rfl dX4_at_13 ?_
    refine lv_iload_n hx hb dX4_at_16 rfl (lv_at hl 1 rfl) ?_
    refine vp_callSi (va_Run.run (va_runV (As := [.int (nI i)]) (rest := []) ⟨hx, hb, hml, hown, hts⟩ (k_Row_keyN l D ct hh kh R cn f i hn9 hR hi) (cwV 1 hts (gw_V (fun _ h => h) w_204 w_205 w_206 w_28 wcX3_key) rfl rfl rfl hvX3_key ⟨Nat.le_of_ble_eq_true rfl, Nat.le_of_ble_eq_true rfl⟩) (tb_prV hP hK hZ hS [1, 2] rfl (ci := 3) (q0 := 0) rfl rfl) rfl rfl hl.1 rfl (lv_room (Nat.le_of_ble_eq_true rfl)) dX4_at_17 ⟨Nat.zero_le _, Nat.zero_le _⟩)) (fun r_17 hr_17 => ?_)
    obtain rfl : r_17 = nI (f i) := hr_17
    refine lv_istore_n (lv' := [(3, .int (nI (f i))), (0, .ref mo), (1, .int (nI i)), (2, .int (nI j))]) hx hb dX4_at_20 rfl hl (by decide) rfl (fun ls hl => ?_)
    refine lv_iload_n hx hb dX4_at_21 rfl (lv_at hl 0 rfl) ?_
    refine lv_iconst (v := (-1)) hx hb dX4_at_22 (by decide) ?_
    refine lv_icmp_ne (tgt := 30) hx hb dX4_at_23 (by decide) (fun c23 => ?_) (fun c23 => ?_)
    · refine lv_iload_n hx hb dX4_at_30 rfl (lv_at hl 0 rfl) ?_
      refine va_gets hx hb hZb hS hown (hts _ w_207) (fun _ h9 => h9) dX4_at_31 ?_
      refine lv_aload_n hx hb dX4_at_34 rfl (lv_at hl 1 rfl) ?_
      refine va_get (D := D) (ci := 4) (v := .ref rh) (C := RX4) (T := TX4) (N := 9) hx hb hts inX4 hown hK hP 0 rfl rfl 3 (by decide) (hts _ w_90) (fun _ h9 => h9) rfl dX4_at_35 ?_
      refine va_get (D := D) (ci := 2) (v := .int (nI o)) (C := RX2) (T := TX2) (N := 3) hx hb hts inX2 hown hK hP 3 rfl rfl 0 (by decide) (hts _ w_84) (fun _ h9 => h9) rfl dX4_at_38 ?_
      refine lv_iconst (v := nI 3) hx hb dX4_at_41 (by decide) ?_
      refine tb_imul hx hb dX4_at_42 ?_
      refine lv_iload_n hx hb dX4_at_43 rfl (lv_at hl 3 rfl) ?_
      refine tb_iadd hx hb dX4_at_44 ?_
      refine tb_ti hx hb hTb hS (by omega) (by decide) dX4_at_45 ?_
      refine vp_callSi (va_Run.run (va_runS (As := [.int (nI (f i)), .int (nI (poF ((o * 3) + j)))]) (rest := []) ⟨hx, hb, hml, hown, hts⟩ (k_termOfKey l D ct (f i) (poF ((o * 3) + j)) (hfb _) (Nat.lt_trans (poF_lt _) (by decide))) (va_cwS 2 hts (gw_S (fun _ h => h) w_208 w_209 w_24 wcX4_termOfKey) rfl rfl rfl hvX4_termOfKey.2 ⟨Nat.le_of_ble_eq_true rfl, Nat.le_of_ble_eq_true rfl⟩) (tb_prS hP hK hZ hS [] rfl) rfl rfl hl.1 rfl (lv_room (Nat.le_of_ble_eq_true rfl)) dX4_at_46 ⟨Nat.zero_le _, Nat.zero_le _⟩)) (fun r_46 hr_46 => ?_)
      obtain rfl : r_46 = nI (tTerm (f i) (poF ((o * 3) + j))) := hr_46
      exact W.iret (v := nI (tTerm (f i) (poF ((o * 3) + j)))) hx hb hr (fun t ht hW => ⟨_, rfl, rfl, ht⟩) (fun q h => by cases h) dX4_at_49
    · exact absurd c23 (nI_nm1 (hfb _))
  · exfalso; omega

set_option maxHeartbeats 4000000 in
set_option maxRecDepth 100000 in
theorem k_seek_big (l : Launch) (D : va_G) (ct : Nat → ClassId) (mo : Nat) (g : Nat) (pr : Nat) (hh : Nat) (rh : Nat) (aq : Nat) (ld : Nat) (lc : Nat) (nh : Nat) (ty : Nat) (R : Nat) (kh : Nat) (cn : Nat) (f : Nat → Nat) (i : Int32) (hi : nI 1000 ≤ i) : Met l yX4_seek wsX4_seek ({ frames := 0, cells := 0, slots := 0, locals := 0 }) (tb_Pr D ct [.ref mo, .int i] [(mo, .inr (4, [.ref g, .ref pr, .ref hh, .ref rh, .ref aq, .ref ld, .int (nI lc), .ref nh, .ref ty])), (hh, .inr (3, [.ref kh, .int (nI cn)])), (kh, .inl (ct 0, R, .inl (aN f)))]) (vp_Si (fun r => r = nI cn)) 0 0 (fun _ => False) := by
  refine Met.ofW (cc := cX4_seek) (maxL := 2) (ret := (some .int)) (by decide) rfl ?_
  intro p e s m args below meth c s₁ B hml hv
  obtain ⟨rfl, hP, hK, hZ⟩ := hv
  have hx := B.exec
  have hb := B.bytes
  have hr := B.returns
  have hts0 := atoms_spec (ws := wsX4_seek) B.pre
  have hts : ∀ w9 ∈ aw, w9.before ([.ref mo, .int i] : List Value).toArray s = true := fun w9 h9 => hts0 w9 (List.mem_cons_of_mem _ h9)
  have hown : s.vm.findClass RX4 = some m.cls := findClass_of_methodNamed B.named
  have hlocks := B.notSynchronized
  have hS : va_S (fun _ => False) s.heap s.heap [] := va_S.rf
  have hP : va_P D vwCl [(mo, .inr (4, [.ref g, .ref pr, .ref hh, .ref rh, .ref aq, .ref ld, .int (nI lc), .ref nh, .ref ty])), (hh, .inr (3, [.ref kh, .int (nI cn)])), (kh, .inl (ct 0, R, .inl (aN f)))] s.heap := hP
  have hl := lv_entry ([.ref mo, .int i]) (n := 2) (Nat.le_of_ble_eq_true rfl)
  rw [lg_entry_eq]
  generalize (lg_sl ([.ref mo, .int i]) ++ List.replicate (2 - (lg_sl ([.ref mo, .int i])).length) Slot.unset).toArray = ls at hl ⊢
  have hl : lv_has ls 2 [(0, .ref mo), (1, .int i)] := hl
  refine lv_iload_n hx hb dX4_seek_0 rfl (lv_at hl 1 rfl) ?_
  refine lv_sipush (v := nI 1000) hx hb dX4_seek_1 (by decide) ?_
  refine lv_icmp_lt (tgt := 15) hx hb dX4_seek_4 (by decide) (fun c4 => ?_) (fun c4 => ?_)
  · exact absurd c4 (Int32.not_lt.mpr hi)
  · refine lv_aload_n hx hb dX4_seek_7 rfl (lv_at hl 0 rfl) ?_
    refine va_get (D := D) (ci := 4) (v := .ref hh) (C := RX4) (T := TX4) (N := 9) hx hb hts inX4 hown hK hP 0 rfl rfl 2 (by decide) (hts _ w_89) (fun _ h9 => h9) rfl dX4_seek_8 ?_
    refine va_get (D := D) (ci := 3) (v := .int (nI cn)) (C := RX3) (T := TX3) (N := 2) hx hb hts inX3 hown hK hP 1 rfl rfl 1 (by decide) (hts _ w_71) (fun _ h9 => h9) rfl dX4_seek_11 ?_
    exact W.iret (v := nI cn) hx hb hr (fun t ht hW => ⟨_, rfl, rfl, ht⟩) (fun q h => by cases h) dX4_seek_14

set_option maxHeartbeats 4000000 in
set_option maxRecDepth 100000 in
theorem k_seek_N (l : Launch) (D : va_G) (ct : Nat → ClassId) (mo : Nat) (g : Nat) (pr : Nat) (hh : Nat) (rh : Nat) (aq : Nat) (ld : Nat) (lc : Nat) (nh : Nat) (ty : Nat) (R : Nat) (kh : Nat) (cn : Nat) (f : Nat → Nat) (o : Nat) (a : Option Nat) (b : Option Nat) (i : Nat) (hR : R ≤ 400) (hn9 : cn ≤ R) (hs : tS f cn) (hfb : ∀ j, f j < 2 ^ 31) (ha : ∀ j, a = some j → j < 1000) (hb9 : ∀ j, b = some j → j < 1000) (hi : i < 1000) : Met l yX4_seek wsX4_seek ({ frames := 1, cells := 0, slots := 0, locals := 24 }) (tb_Pr D ct [.ref mo, .int (nI i)] [(mo, .inr (4, [.ref g, .ref pr, .ref hh, .ref rh, .ref aq, .ref ld, .int (nI lc), .ref nh, .ref ty])), (hh, .inr (3, [.ref kh, .int (nI cn)])), (kh, .inl (ct 0, R, .inl (aN f))), (rh, .inr (2, [.int (nI o), .int (oI a), .int (oI b)]))]) (vp_Si (fun r => r = nI (tCnt f (tLow a b (max i 0)) cn))) 0 0 (fun _ => False) := by
  refine Met.ofW (cc := cX4_seek) (maxL := 2) (ret := (some .int)) (by decide) rfl ?_
  intro p e s m args below meth c s₁ B hml hv
  obtain ⟨rfl, hP, hK, hZ⟩ := hv
  have hx := B.exec
  have hb := B.bytes
  have hr := B.returns
  have hts0 := atoms_spec (ws := wsX4_seek) B.pre
  have hts : ∀ w9 ∈ aw, w9.before ([.ref mo, .int (nI i)] : List Value).toArray s = true := fun w9 h9 => hts0 w9 (List.mem_cons_of_mem _ h9)
  have hown : s.vm.findClass RX4 = some m.cls := findClass_of_methodNamed B.named
  have hlocks := B.notSynchronized
  have hS : va_S (fun _ => False) s.heap s.heap [] := va_S.rf
  have hP : va_P D vwCl [(mo, .inr (4, [.ref g, .ref pr, .ref hh, .ref rh, .ref aq, .ref ld, .int (nI lc), .ref nh, .ref ty])), (hh, .inr (3, [.ref kh, .int (nI cn)])), (kh, .inl (ct 0, R, .inl (aN f))), (rh, .inr (2, [.int (nI o), .int (oI a), .int (oI b)]))] s.heap := hP
  have hl := lv_entry ([.ref mo, .int (nI i)]) (n := 2) (Nat.le_of_ble_eq_true rfl)
  rw [lg_entry_eq]
  generalize (lg_sl ([.ref mo, .int (nI i)]) ++ List.replicate (2 - (lg_sl ([.ref mo, .int (nI i)])).length) Slot.unset).toArray = ls at hl ⊢
  have hl : lv_has ls 2 [(0, .ref mo), (1, .int (nI i))] := hl
  refine lv_iload_n hx hb dX4_seek_0 rfl (lv_at hl 1 rfl) ?_
  refine lv_sipush (v := nI 1000) hx hb dX4_seek_1 (by decide) ?_
  refine tb_icmp_lt (tgt := 15) hx hb dX4_seek_4 (by decide) (by omega) (by omega) (fun c4 => ?_) (fun c4 => ?_)
  · refine lv_aload_n hx hb dX4_seek_15 rfl (lv_at hl 0 rfl) ?_
    refine va_get (D := D) (ci := 4) (v := .ref hh) (C := RX4) (T := TX4) (N := 9) hx hb hts inX4 hown hK hP 0 rfl rfl 2 (by decide) (hts _ w_89) (fun _ h9 => h9) rfl dX4_seek_16 ?_
    refine lv_aload_n hx hb dX4_seek_19 rfl (lv_at hl 0 rfl) ?_
    refine va_get (D := D) (ci := 4) (v := .ref rh) (C := RX4) (T := TX4) (N := 9) hx hb hts inX4 hown hK hP 0 rfl rfl 3 (by decide) (hts _ w_90) (fun _ h9 => h9) rfl dX4_seek_20 ?_
    refine lv_iload_n hx hb dX4_seek_23 rfl (lv_at hl 1 rfl) ?_
    refine lv_iconst (v := nI 0) hx hb dX4_seek_24 (by decide) ?_
    refine tb_mmax hx hb (by rw [hml]; exact hl.1.symm) hown (hts _ w_41) (hts _ w_42) (hts _ w_25) (hts _ wcMath_max) (Nat.le_of_ble_eq_true rfl) (Nat.le_of_ble_eq_true rfl) (Nat.zero_le _) (Nat.zero_le _) (by omega) (by omega) dX4_seek_25 ?_
    refine vp_callSi (va_Run.run (va_runV (As := [.int (nI (max i 0))]) (rest := [.ref hh]) ⟨hx, hb, hml, hown, hts⟩ (k_Range_lowestKey l D ct rh o a b (max i 0) ha hb9) (cwV 1 hts (gw_V (fun _ h => h) w_213 w_214 w_215 w_29 wcX2_lowestKey) rfl rfl rfl hvX2_lowestKey ⟨Nat.le_of_ble_eq_true rfl, Nat.le_of_ble_eq_true rfl⟩) (tb_prV hP hK hZ hS [3] rfl (ci := 2) (q0 := 0) rfl rfl) rfl rfl hl.1 rfl (lv_room (Nat.le_of_ble_eq_true rfl)) dX4_seek_28 ⟨Nat.zero_le _, Nat.zero_le _⟩)) (fun r_28 hr_28 => ?_)
    obtain rfl : r_28 = nI (tLow a b (max i 0)) := hr_28
    refine vp_callSi (va_Run.run (va_runV (As := [.int (nI (tLow a b (max i 0)))]) (rest := []) ⟨hx, hb, hml, hown, hts⟩ (k_Row_placeFor l D ct hh kh R cn f (tLow a b (max i 0)) hn9 hR hs hfb (tLow_lt ha hb9 (by omega))) (cwV 1 hts (gw_V (fun _ h => h) w_217 w_121 w_122 w_28 wcX3_placeFor) rfl rfl rfl hvX3_placeFor ⟨Nat.le_of_ble_eq_true rfl, Nat.le_of_ble_eq_true rfl⟩) (tb_prV hP hK hZ hS [1, 2] rfl (ci := 3) (q0 := 0) rfl rfl) rfl rfl hl.1 rfl (lv_room (Nat.le_of_ble_eq_true rfl)) dX4_seek_31 ⟨Nat.zero_le _, Nat.zero_le _⟩)) (fun r_31 hr_31 => ?_)
    obtain rfl : r_31 = nI (tCnt f (tLow a b (max i 0)) cn) := hr_31
    exact W.iret (v := nI (tCnt f (tLow a b (max i 0)) cn)) hx hb hr (fun t ht hW => ⟨_, rfl, rfl, ht⟩) (fun q h => by cases h) dX4_seek_34
  · exfalso; omega

set_option maxHeartbeats 4000000 in
set_option maxRecDepth 100000 in
theorem k_seek_neg (l : Launch) (D : va_G) (ct : Nat → ClassId) (mo : Nat) (g : Nat) (pr : Nat) (hh : Nat) (rh : Nat) (aq : Nat) (ld : Nat) (lc : Nat) (nh : Nat) (ty : Nat) (R : Nat) (kh : Nat) (cn : Nat) (f : Nat → Nat) (o : Nat) (a : Option Nat) (b : Option Nat) (i : Int32) (hR : R ≤ 400) (hn9 : cn ≤ R) (hs : tS f cn) (hfb : ∀ j, f j < 2 ^ 31) (ha : ∀ j, a = some j → j < 1000) (hb9 : ∀ j, b = some j → j < 1000) (hi : i < 0) : Met l yX4_seek wsX4_seek ({ frames := 1, cells := 0, slots := 0, locals := 24 }) (tb_Pr D ct [.ref mo, .int i] [(mo, .inr (4, [.ref g, .ref pr, .ref hh, .ref rh, .ref aq, .ref ld, .int (nI lc), .ref nh, .ref ty])), (hh, .inr (3, [.ref kh, .int (nI cn)])), (kh, .inl (ct 0, R, .inl (aN f))), (rh, .inr (2, [.int (nI o), .int (oI a), .int (oI b)]))]) (vp_Si (fun r => r = nI (tCnt f (tLow a b 0) cn))) 0 0 (fun _ => False) := by
  refine Met.ofW (cc := cX4_seek) (maxL := 2) (ret := (some .int)) (by decide) rfl ?_
  intro p e s m args below meth c s₁ B hml hv
  obtain ⟨rfl, hP, hK, hZ⟩ := hv
  have hx := B.exec
  have hb := B.bytes
  have hr := B.returns
  have hts0 := atoms_spec (ws := wsX4_seek) B.pre
  have hts : ∀ w9 ∈ aw, w9.before ([.ref mo, .int i] : List Value).toArray s = true := fun w9 h9 => hts0 w9 (List.mem_cons_of_mem _ h9)
  have hown : s.vm.findClass RX4 = some m.cls := findClass_of_methodNamed B.named
  have hlocks := B.notSynchronized
  have hS : va_S (fun _ => False) s.heap s.heap [] := va_S.rf
  have hP : va_P D vwCl [(mo, .inr (4, [.ref g, .ref pr, .ref hh, .ref rh, .ref aq, .ref ld, .int (nI lc), .ref nh, .ref ty])), (hh, .inr (3, [.ref kh, .int (nI cn)])), (kh, .inl (ct 0, R, .inl (aN f))), (rh, .inr (2, [.int (nI o), .int (oI a), .int (oI b)]))] s.heap := hP
  have hl := lv_entry ([.ref mo, .int i]) (n := 2) (Nat.le_of_ble_eq_true rfl)
  rw [lg_entry_eq]
  generalize (lg_sl ([.ref mo, .int i]) ++ List.replicate (2 - (lg_sl ([.ref mo, .int i])).length) Slot.unset).toArray = ls at hl ⊢
  have hl : lv_has ls 2 [(0, .ref mo), (1, .int i)] := hl
  refine lv_iload_n hx hb dX4_seek_0 rfl (lv_at hl 1 rfl) ?_
  refine lv_sipush (v := nI 1000) hx hb dX4_seek_1 (by decide) ?_
  refine lv_icmp_lt (tgt := 15) hx hb dX4_seek_4 (by decide) (fun c4 => ?_) (fun c4 => ?_)
  · refine lv_aload_n hx hb dX4_seek_15 rfl (lv_at hl 0 rfl) ?_
    refine va_get (D := D) (ci := 4) (v := .ref hh) (C := RX4) (T := TX4) (N := 9) hx hb hts inX4 hown hK hP 0 rfl rfl 2 (by decide) (hts _ w_89) (fun _ h9 => h9) rfl dX4_seek_16 ?_
    refine lv_aload_n hx hb dX4_seek_19 rfl (lv_at hl 0 rfl) ?_
    refine va_get (D := D) (ci := 4) (v := .ref rh) (C := RX4) (T := TX4) (N := 9) hx hb hts inX4 hown hK hP 0 rfl rfl 3 (by decide) (hts _ w_90) (fun _ h9 => h9) rfl dX4_seek_20 ?_
    refine lv_iload_n hx hb dX4_seek_23 rfl (lv_at hl 1 rfl) ?_
    refine lv_iconst (v := nI 0) hx hb dX4_seek_24 (by decide) ?_
    refine va_mmax hx hb (by rw [hml]; exact hl.1.symm) hown (hts _ w_41) (hts _ w_42) (hts _ w_25) (hts _ wcMath_max) (Nat.le_of_ble_eq_true rfl) (Nat.le_of_ble_eq_true rfl) (Nat.zero_le _) (Nat.zero_le _) dX4_seek_25 ?_
    rw [if_pos (show i < nI 0 from hi)]
    refine vp_callSi (va_Run.run (va_runV (As := [.int (nI 0)]) (rest := [.ref hh]) ⟨hx, hb, hml, hown, hts⟩ (k_Range_lowestKey l D ct rh o a b 0 ha hb9) (cwV 1 hts (gw_V (fun _ h => h) w_213 w_214 w_215 w_29 wcX2_lowestKey) rfl rfl rfl hvX2_lowestKey ⟨Nat.le_of_ble_eq_true rfl, Nat.le_of_ble_eq_true rfl⟩) (tb_prV hP hK hZ hS [3] rfl (ci := 2) (q0 := 0) rfl rfl) rfl rfl hl.1 rfl (lv_room (Nat.le_of_ble_eq_true rfl)) dX4_seek_28 ⟨Nat.zero_le _, Nat.zero_le _⟩)) (fun r_28 hr_28 => ?_)
    obtain rfl : r_28 = nI (tLow a b 0) := hr_28
    refine vp_callSi (va_Run.run (va_runV (As := [.int (nI (tLow a b 0))]) (rest := []) ⟨hx, hb, hml, hown, hts⟩ (k_Row_placeFor l D ct hh kh R cn f (tLow a b 0) hn9 hR hs hfb (tLow_lt ha hb9 (by omega))) (cwV 1 hts (gw_V (fun _ h => h) w_217 w_121 w_122 w_28 wcX3_placeFor) rfl rfl rfl hvX3_placeFor ⟨Nat.le_of_ble_eq_true rfl, Nat.le_of_ble_eq_true rfl⟩) (tb_prV hP hK hZ hS [1, 2] rfl (ci := 3) (q0 := 0) rfl rfl) rfl rfl hl.1 rfl (lv_room (Nat.le_of_ble_eq_true rfl)) dX4_seek_31 ⟨Nat.zero_le _, Nat.zero_le _⟩)) (fun r_31 hr_31 => ?_)
    obtain rfl : r_31 = nI (tCnt f (tLow a b 0) cn) := hr_31
    exact W.iret (v := nI (tCnt f (tLow a b 0) cn)) hx hb hr (fun t ht hW => ⟨_, rfl, rfl, ht⟩) (fun q h => by cases h) dX4_seek_34
  · exact absurd (tb_neg_lt hi) c4
