set_option maxHeartbeats 4000000 in
set_option maxRecDepth 100000 in
theorem k_PR_markN (l : Launch) (D : va_G) (ct : Nat → ClassId) (h : Nat) (t : Nat) (k : Nat) (g : Nat) (R : Nat) (n : Nat) (f : Nat → Nat) (q : Nat) (z : Nat → Nat) (i : Nat) (hn : n ≤ R) (hR : R ≤ 400) (hq : q ≤ R) (hi : q ≤ i) (hi2 : i < 2 ^ 31) (hsum : tSum z q = n) : Met l yX1_markOf wsX1_markOf ({ frames := 2, cells := 0, slots := 0, locals := 42 }) (tb_Pr D ct [.ref h, .int (nI i)] [(h, .inr (1, [.ref t, .ref g, .int (nI q)])), (t, .inr (3, [.ref k, .int (nI n)])), (k, .inl (ct 0, R, .inl (aN f))), (g, .inl (ct 0, R, .inl (aN z)))]) (vp_Si (fun r => r = nI 0)) 0 0 (fun _ => False) := by
  refine Met.ofW (cc := cX1_markOf) (maxL := 9) (ret := (some .int)) (by decide) rfl ?_
  intro p e s m args below meth c s₁ B hml hv
  obtain ⟨rfl, hP, hK, hZ⟩ := hv
  have hx := B.exec
  have hb := B.bytes
  have hr := B.returns
  have hts0 := atoms_spec (ws := wsX1_markOf) B.pre
  have hts : ∀ w9 ∈ aw, w9.before ([.ref h, .int (nI i)] : List Value).toArray s = true := fun w9 h9 => hts0 w9 (List.mem_cons_of_mem _ h9)
  have hown : s.vm.findClass RX1 = some m.cls := findClass_of_methodNamed B.named
  have hlocks := B.notSynchronized
  have hS : va_S (fun _ => False) s.heap s.heap [] := va_S.rf
  have hP : va_P D vwCl [(h, .inr (1, [.ref t, .ref g, .int (nI q)])), (t, .inr (3, [.ref k, .int (nI n)])), (k, .inl (ct 0, R, .inl (aN f))), (g, .inl (ct 0, R, .inl (aN z)))] s.heap := hP
  have hl := lv_entry ([.ref h, .int (nI i)]) (n := 9) (Nat.le_of_ble_eq_true rfl)
  rw [lg_entry_eq]
  generalize (lg_sl ([.ref h, .int (nI i)]) ++ List.replicate (9 - (lg_sl ([.ref h, .int (nI i)])).length) Slot.unset).toArray = ls at hl ⊢
  have hl : lv_has ls 9 [(0, .ref h), (1, .int (nI i))] := hl
  have hm9 : min i q = q := Nat.min_eq_right hi
  refine lv_aload_n hx hb dX1_markOf_0 rfl (lv_at hl 0 rfl) ?_
  refine lv_iload_n hx hb dX1_markOf_1 rfl (lv_at hl 1 rfl) ?_
  refine vp_callSi (va_Run.run (va_runV (As := [.int (nI i)]) (rest := []) ⟨hx, hb, hml, hown, hts⟩ (k_PR_startOf l D ct h t k g R n f q z i hn hR hq hi2) (cwV 1 hts (gw_V (fun _ h => h) w_267 w_268 w_9 w_27 wcX1_startOf) rfl rfl rfl hvX1_startOf ⟨Nat.le_of_ble_eq_true rfl, Nat.le_of_ble_eq_true rfl⟩) (tb_prV hP hK hZ hS [0, 1, 2, 3] rfl (ci := 1) (q0 := 0) rfl rfl) rfl rfl hl.1 rfl (lv_room (Nat.le_of_ble_eq_true rfl)) dX1_markOf_2 ⟨Nat.zero_le _, Nat.zero_le _⟩)) (fun r_2 hr_2 => ?_)
  obtain rfl : r_2 = nI (tSum z (min i q)) := hr_2
  rw [hm9, hsum]
  refine lv_istore_n (lv' := [(2, .int (nI n)), (0, .ref h), (1, .int (nI i))]) hx hb dX1_markOf_5 rfl hl (by decide) rfl (fun ls hl => ?_)
  refine lv_iload_n hx hb dX1_markOf_6 rfl (lv_at hl 0 rfl) ?_
  refine lv_aload_n hx hb dX1_markOf_7 rfl (lv_at hl 1 rfl) ?_
  refine lv_iload_n hx hb dX1_markOf_8 rfl (lv_at hl 2 rfl) ?_
  refine vp_callSi (va_Run.run (va_runV (As := [.int (nI i)]) (rest := [.int (nI n)]) ⟨hx, hb, hml, hown, hts⟩ (k_PR_lengthX l D ct h t k g R n f q z (nI i) hn hR hq (tRng_nIn hi hi2)) (cwV 1 hts (gw_V (fun _ h => h) w_276 w_262 w_263 w_27 wcX1_lengthOf) rfl rfl rfl hvX1_lengthOf ⟨Nat.le_of_ble_eq_true rfl, Nat.le_of_ble_eq_true rfl⟩) (tb_prV hP hK hZ hS [0, 1, 2, 3] rfl (ci := 1) (q0 := 0) rfl rfl) rfl rfl hl.1 rfl (lv_room (Nat.le_of_ble_eq_true rfl)) dX1_markOf_9 ⟨Nat.zero_le _, Nat.zero_le _⟩)) (fun r_9 hr_9 => ?_)
  obtain rfl : r_9 = nI 0 := hr_9
  refine tb_iadd hx hb dX1_markOf_12 ?_
  refine lv_istore_n (lv' := [(3, .int (nI (n + 0))), (2, .int (nI n)), (0, .ref h), (1, .int (nI i))]) hx hb dX1_markOf_13 rfl hl (by decide) rfl (fun ls hl => ?_)
  refine lv_iconst (v := nI 0) hx hb dX1_markOf_14 (by decide) ?_
  refine lv_istore (lv' := [(4, .int (nI 0)), (3, .int (nI (n + 0))), (2, .int (nI n)), (0, .ref h), (1, .int (nI i))]) hx hb dX1_markOf_15 hl (by decide) rfl (fun ls hl => ?_)
  refine lv_iload_n hx hb dX1_markOf_17 rfl (lv_at hl 2 rfl) ?_
  refine lv_istore (lv' := [(5, .int (nI n)), (4, .int (nI 0)), (3, .int (nI (n + 0))), (2, .int (nI n)), (0, .ref h), (1, .int (nI i))]) hx hb dX1_markOf_18 hl (by decide) rfl (fun ls hl => ?_)
  refine lv_iload hx hb dX1_markOf_20 (lv_at hl 0 rfl) ?_
  refine lv_iload_n hx hb dX1_markOf_22 rfl (lv_at hl 2 rfl) ?_
  refine tb_icmp_ge (tgt := 86) hx hb dX1_markOf_23 (by decide) (by omega) (by omega) (fun c23 => ?_) (fun c23 => ?_)
  · refine lv_iload hx hb dX1_markOf_86 (lv_at hl 1 rfl) ?_
    exact W.iret (v := nI 0) hx hb hr (fun t ht hW => ⟨_, rfl, rfl, ht⟩) (fun q h => by cases h) dX1_markOf_88
  · exfalso; omega

set_option maxHeartbeats 4000000 in
set_option maxRecDepth 100000 in
theorem k_PR_markM (l : Launch) (D : va_G) (ct : Nat → ClassId) (h : Nat) (t : Nat) (k : Nat) (g : Nat) (R : Nat) (n : Nat) (f : Nat → Nat) (q : Nat) (z : Nat → Nat) (i : Int32) (hn : n ≤ R) (hR : R ≤ 400) (hq : q ≤ R) (hi : i < 0) : Met l yX1_markOf wsX1_markOf ({ frames := 2, cells := 0, slots := 0, locals := 42 }) (tb_Pr D ct [.ref h, .int i] [(h, .inr (1, [.ref t, .ref g, .int (nI q)])), (t, .inr (3, [.ref k, .int (nI n)])), (k, .inl (ct 0, R, .inl (aN f))), (g, .inl (ct 0, R, .inl (aN z)))]) (vp_Si (fun r => r = nI 0)) 0 0 (fun _ => False) := by
  refine Met.ofW (cc := cX1_markOf) (maxL := 9) (ret := (some .int)) (by decide) rfl ?_
  intro p e s m args below meth c s₁ B hml hv
  obtain ⟨rfl, hP, hK, hZ⟩ := hv
  have hx := B.exec
  have hb := B.bytes
  have hr := B.returns
  have hts0 := atoms_spec (ws := wsX1_markOf) B.pre
  have hts : ∀ w9 ∈ aw, w9.before ([.ref h, .int i] : List Value).toArray s = true := fun w9 h9 => hts0 w9 (List.mem_cons_of_mem _ h9)
  have hown : s.vm.findClass RX1 = some m.cls := findClass_of_methodNamed B.named
  have hlocks := B.notSynchronized
  have hS : va_S (fun _ => False) s.heap s.heap [] := va_S.rf
  have hP : va_P D vwCl [(h, .inr (1, [.ref t, .ref g, .int (nI q)])), (t, .inr (3, [.ref k, .int (nI n)])), (k, .inl (ct 0, R, .inl (aN f))), (g, .inl (ct 0, R, .inl (aN z)))] s.heap := hP
  have hl := lv_entry ([.ref h, .int i]) (n := 9) (Nat.le_of_ble_eq_true rfl)
  rw [lg_entry_eq]
  generalize (lg_sl ([.ref h, .int i]) ++ List.replicate (9 - (lg_sl ([.ref h, .int i])).length) Slot.unset).toArray = ls at hl ⊢
  have hl : lv_has ls 9 [(0, .ref h), (1, .int i)] := hl
  refine lv_aload_n hx hb dX1_markOf_0 rfl (lv_at hl 0 rfl) ?_
  refine lv_iload_n hx hb dX1_markOf_1 rfl (lv_at hl 1 rfl) ?_
  refine vp_callSi (va_Run.run (va_runV (As := [.int i]) (rest := []) ⟨hx, hb, hml, hown, hts⟩ (k_PR_startX l D ct h t k g R n f q z i hi) (cwV 1 hts (gw_V (fun _ h => h) w_267 w_268 w_9 w_27 wcX1_startOf) rfl rfl rfl hvX1_startOf ⟨Nat.le_of_ble_eq_true rfl, Nat.le_of_ble_eq_true rfl⟩) (tb_prV hP hK hZ hS [0, 1, 2, 3] rfl (ci := 1) (q0 := 0) rfl rfl) rfl rfl hl.1 rfl (lv_room (Nat.le_of_ble_eq_true rfl)) dX1_markOf_2 ⟨Nat.zero_le _, Nat.zero_le _⟩)) (fun r_2 hr_2 => ?_)
  obtain rfl : r_2 = nI 0 := hr_2
  refine lv_istore_n (lv' := [(2, .int (nI 0)), (0, .ref h), (1, .int i)]) hx hb dX1_markOf_5 rfl hl (by decide) rfl (fun ls hl => ?_)
  refine lv_iload_n hx hb dX1_markOf_6 rfl (lv_at hl 0 rfl) ?_
  refine lv_aload_n hx hb dX1_markOf_7 rfl (lv_at hl 1 rfl) ?_
  refine lv_iload_n hx hb dX1_markOf_8 rfl (lv_at hl 2 rfl) ?_
  refine vp_callSi (va_Run.run (va_runV (As := [.int i]) (rest := [.int (nI 0)]) ⟨hx, hb, hml, hown, hts⟩ (k_PR_lengthX l D ct h t k g R n f q z i hn hR hq (tRng_neg hi)) (cwV 1 hts (gw_V (fun _ h => h) w_276 w_262 w_263 w_27 wcX1_lengthOf) rfl rfl rfl hvX1_lengthOf ⟨Nat.le_of_ble_eq_true rfl, Nat.le_of_ble_eq_true rfl⟩) (tb_prV hP hK hZ hS [0, 1, 2, 3] rfl (ci := 1) (q0 := 0) rfl rfl) rfl rfl hl.1 rfl (lv_room (Nat.le_of_ble_eq_true rfl)) dX1_markOf_9 ⟨Nat.zero_le _, Nat.zero_le _⟩)) (fun r_9 hr_9 => ?_)
  obtain rfl : r_9 = nI 0 := hr_9
  refine tb_iadd hx hb dX1_markOf_12 ?_
  refine lv_istore_n (lv' := [(3, .int (nI 0)), (2, .int (nI 0)), (0, .ref h), (1, .int i)]) hx hb dX1_markOf_13 rfl hl (by decide) rfl (fun ls hl => ?_)
  refine lv_iconst (v := nI 0) hx hb dX1_markOf_14 (by decide) ?_
  refine lv_istore (lv' := [(4, .int (nI 0)), (3, .int (nI 0)), (2, .int (nI 0)), (0, .ref h), (1, .int i)]) hx hb dX1_markOf_15 hl (by decide) rfl (fun ls hl => ?_)
  refine lv_iload_n hx hb dX1_markOf_17 rfl (lv_at hl 2 rfl) ?_
  refine lv_istore (lv' := [(5, .int (nI 0)), (4, .int (nI 0)), (3, .int (nI 0)), (2, .int (nI 0)), (0, .ref h), (1, .int i)]) hx hb dX1_markOf_18 hl (by decide) rfl (fun ls hl => ?_)
  refine lv_iload hx hb dX1_markOf_20 (lv_at hl 0 rfl) ?_
  refine lv_iload_n hx hb dX1_markOf_22 rfl (lv_at hl 2 rfl) ?_
  refine tb_icmp_ge (tgt := 86) hx hb dX1_markOf_23 (by decide) (by omega) (by omega) (fun c23 => ?_) (fun c23 => ?_)
  · refine lv_iload hx hb dX1_markOf_86 (lv_at hl 1 rfl) ?_
    exact W.iret (v := nI 0) hx hb hr (fun t ht hW => ⟨_, rfl, rfl, ht⟩) (fun q h => by cases h) dX1_markOf_88
  · exact absurd c23 (by decide)
