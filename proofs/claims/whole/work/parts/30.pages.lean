set_option maxHeartbeats 4000000 in
set_option maxRecDepth 100000 in
theorem k_PR_empty (l : Launch) (D : va_G) (ct : Nat → ClassId) (h : Nat) (t : Nat) (k : Nat) (g : Nat) (R : Nat) (n : Nat) (f : Nat → Nat) (q : Nat) (z : Nat → Nat) (sz : Nat) : Met l yX1_empty wsX1_empty ({ frames := 1, cells := 0, slots := 0, locals := 20 }) (tb_Pw D ct [.ref h] sz [(h, .inr (1, [.ref t, .ref g, .int (nI q)])), (t, .inr (3, [.ref k, .int (nI n)])), (k, .inl (ct 0, R, .inl (aN f))), (g, .inl (ct 0, R, .inl (aN z)))]) (va_Qv (fun _ => True) (tb_B D (va_A [(h, .inr (1, [.ref t, .ref g, .int (nI q)])), (t, .inr (3, [.ref k, .int (nI n)])), (k, .inl (ct 0, R, .inl (aN f))), (g, .inl (ct 0, R, .inl (aN z)))] sz) [(h, .inr (1, [.ref t, .ref g, .int (nI 0)])), (t, .inr (3, [.ref k, .int (nI 0)])), (k, .inl (ct 0, R, .inl (aN f))), (g, .inl (ct 0, R, .inl (aN z)))]) (va_A [(h, .inr (1, [.ref t, .ref g, .int (nI q)])), (t, .inr (3, [.ref k, .int (nI n)])), (k, .inl (ct 0, R, .inl (aN f))), (g, .inl (ct 0, R, .inl (aN z)))] sz)) 0 0 (va_A [(h, .inr (1, [.ref t, .ref g, .int (nI q)])), (t, .inr (3, [.ref k, .int (nI n)])), (k, .inl (ct 0, R, .inl (aN f))), (g, .inl (ct 0, R, .inl (aN z)))] sz) := by
  refine Met.ofW (cc := cX1_empty) (maxL := 1) (ret := none) (by decide) rfl ?_
  intro p e s m args below meth c s₁ B hml hv
  obtain ⟨rfl, hsz, hP, hK, hD0, hZ⟩ := hv
  have hx := B.exec
  have hb := B.bytes
  have hr := B.returns
  have hts0 := atoms_spec (ws := wsX1_empty) B.pre
  have hts : ∀ w9 ∈ aw, w9.before ([.ref h] : List Value).toArray s = true := fun w9 h9 => hts0 w9 (List.mem_cons_of_mem _ h9)
  have hown : s.vm.findClass RX1 = some m.cls := findClass_of_methodNamed B.named
  have hlocks := B.notSynchronized
  subst hsz
  have hD := hD0.self (sz := s.heap.size)
  generalize hAe : va_A [(h, .inr (1, [.ref t, .ref g, .int (nI q)])), (t, .inr (3, [.ref k, .int (nI n)])), (k, .inl (ct 0, R, .inl (aN f))), (g, .inl (ct 0, R, .inl (aN z)))] s.heap.size = A at hD hZ ⊢
  have hA : ∀ q : Nat, s.heap.size ≤ q → A q := fun q h => by rw [← hAe]; exact Or.inr h
  have hS : va_S A s.heap s.heap [] := va_S.rf
  have hP : va_P D vwCl [(h, .inr (1, [.ref t, .ref g, .int (nI q)])), (t, .inr (3, [.ref k, .int (nI n)])), (k, .inl (ct 0, R, .inl (aN f))), (g, .inl (ct 0, R, .inl (aN z)))] s.heap := hP
  have hl := lv_entry ([.ref h]) (n := 1) (Nat.le_of_ble_eq_true rfl)
  rw [lg_entry_eq]
  generalize (lg_sl ([.ref h]) ++ List.replicate (1 - (lg_sl ([.ref h])).length) Slot.unset).toArray = ls at hl ⊢
  have hl : lv_has ls 1 [(0, .ref h)] := hl
  refine lv_aload_n hx hb dX1_empty_0 rfl (lv_at hl 0 rfl) ?_
  refine va_get (D := D) (ci := 1) (v := .ref t) (C := RX1) (T := TX1) (N := 3) hx hb hts inX1 hown hK hP 0 rfl rfl 0 (by decide) (hts _ w_72) (fun _ h9 => h9) rfl dX1_empty_1 ?_
  refine tb_callv (wr := [(h, .inr (1, [.ref t, .ref g, .int (nI q)])), (g, .inl (ct 0, R, .inl (aN z)))]) hP hD hS hA [1, 2] [0, 3] rfl rfl (by decide) (by decide) (va_runV (As := []) (rest := []) ⟨hx, hb, hml, hown, hts⟩ (k_Row_empty l D ct t k R n f _ ) (cwV 0 hts (gw_V (fun _ h => h) w_290 w_183 w_184 w_28 wcX3_empty) rfl rfl rfl hvX3_empty ⟨Nat.le_of_ble_eq_true rfl, Nat.le_of_ble_eq_true rfl⟩) (tb_pwV hP hD hK hZ hS hA [1, 2] (by decide) rfl (ci := 3) (q0 := 0) rfl rfl) rfl rfl hl.1 rfl (lv_room (Nat.le_of_ble_eq_true rfl)) dX1_empty_4 ⟨Nat.zero_le _, Nat.zero_le _⟩) (fun H locs hP hD hS => ?_)
  have hP : va_P D vwCl [(h, .inr (1, [.ref t, .ref g, .int (nI q)])), (g, .inl (ct 0, R, .inl (aN z))), (t, .inr (3, [.ref k, .int (nI 0)])), (k, .inl (ct 0, R, .inl (aN f)))] H := hP
  have hD : va_D A [(h, .inr (1, [.ref t, .ref g, .int (nI q)])), (g, .inl (ct 0, R, .inl (aN z))), (t, .inr (3, [.ref k, .int (nI 0)])), (k, .inl (ct 0, R, .inl (aN f)))] := hD
  refine lv_aload_n hx hb dX1_empty_7 rfl (lv_at hl 0 rfl) ?_
  refine lv_iconst (v := nI 0) hx hb dX1_empty_8 (by decide) ?_
  refine va_put (D := D) (ci := 1) (v := .int (nI 0)) (ty := .int) (C := RX1) (T := TX1) (N := 3) hx hb hts inX1 tyX1 tyX1_ok nmX1 hown hK hP hD hS 0 rfl rfl 2 (by decide) (hts _ w_75) (fun _ h9 => h9) rfl (by decide +kernel) rfl rfl (Nat.le_of_ble_eq_true rfl) dX1_empty_9 (fun H locs hP hD hS => ?_)
  have hP : va_P D vwCl [(h, .inr (1, [.ref t, .ref g, .int (nI 0)])), (g, .inl (ct 0, R, .inl (aN z))), (t, .inr (3, [.ref k, .int (nI 0)])), (k, .inl (ct 0, R, .inl (aN f)))] H := hP
  have hD : va_D A [(h, .inr (1, [.ref t, .ref g, .int (nI 0)])), (g, .inl (ct 0, R, .inl (aN z))), (t, .inr (3, [.ref k, .int (nI 0)])), (k, .inl (ct 0, R, .inl (aN f)))] := hD
  have hP9 : va_P D vwCl [(h, .inr (1, [.ref t, .ref g, .int (nI 0)])), (t, .inr (3, [.ref k, .int (nI 0)])), (k, .inl (ct 0, R, .inl (aN f))), (g, .inl (ct 0, R, .inl (aN z)))] _ := hP.sub [0, 2, 3, 1] rfl
  have hD9 : va_D A [(h, .inr (1, [.ref t, .ref g, .int (nI 0)])), (t, .inr (3, [.ref k, .int (nI 0)])), (k, .inl (ct 0, R, .inl (aN f))), (g, .inl (ct 0, R, .inl (aN z)))] := hD.sub [0, 2, 3, 1] (by decide) rfl
  exact W.vret hx hb hr (fun t ht hW => ⟨⟨(), rfl, trivial, by rw [ht]; exact hP9, hD9⟩, hS.F ht⟩) hS.2.2 dX1_empty_12

set_option maxHeartbeats 4000000 in
set_option maxRecDepth 100000 in
theorem k_PR_hasPage (l : Launch) (D : va_G) (ct : Nat → ClassId) (h : Nat) (t : Nat) (k : Nat) (g : Nat) (R : Nat) (n : Nat) (f : Nat → Nat) (q : Nat) (z : Nat → Nat) (i : Int32) (hn : n ≤ R) (hR : R ≤ 400) (hq : q ≤ R) : Met l yX1_hasPage wsX1_hasPage ({ frames := 0, cells := 0, slots := 0, locals := 0 }) (tb_Pr D ct [.ref h, .int i] [(h, .inr (1, [.ref t, .ref g, .int (nI q)])), (t, .inr (3, [.ref k, .int (nI n)])), (k, .inl (ct 0, R, .inl (aN f))), (g, .inl (ct 0, R, .inl (aN z)))]) (vp_Si (fun r => r = bB (decide (tRng i q)))) 0 0 (fun _ => False) := by
  refine Met.ofW (cc := cX1_hasPage) (maxL := 2) (ret := (some .boolean)) (by decide) rfl ?_
  intro p e s m args below meth c s₁ B hml hv
  obtain ⟨rfl, hP, hK, hZ⟩ := hv
  have hx := B.exec
  have hb := B.bytes
  have hr := B.returns
  have hts0 := atoms_spec (ws := wsX1_hasPage) B.pre
  have hts : ∀ w9 ∈ aw, w9.before ([.ref h, .int i] : List Value).toArray s = true := fun w9 h9 => hts0 w9 (List.mem_cons_of_mem _ h9)
  have hown : s.vm.findClass RX1 = some m.cls := findClass_of_methodNamed B.named
  have hlocks := B.notSynchronized
  have hS : va_S (fun _ => False) s.heap s.heap [] := va_S.rf
  have hP : va_P D vwCl [(h, .inr (1, [.ref t, .ref g, .int (nI q)])), (t, .inr (3, [.ref k, .int (nI n)])), (k, .inl (ct 0, R, .inl (aN f))), (g, .inl (ct 0, R, .inl (aN z)))] s.heap := hP
  have hl := lv_entry ([.ref h, .int i]) (n := 2) (Nat.le_of_ble_eq_true rfl)
  rw [lg_entry_eq]
  generalize (lg_sl ([.ref h, .int i]) ++ List.replicate (2 - (lg_sl ([.ref h, .int i])).length) Slot.unset).toArray = ls at hl ⊢
  have hl : lv_has ls 2 [(0, .ref h), (1, .int i)] := hl
  refine lv_iload_n hx hb dX1_hasPage_0 rfl (lv_at hl 1 rfl) ?_
  refine lv_if_lt (tgt := 16) hx hb dX1_hasPage_1 (by decide) (fun c1 => ?_) (fun c1 => ?_)
  · refine lv_iconst (v := nI 0) hx hb dX1_hasPage_16 (by decide) ?_
    exact W.zret (v := 0) hx hb hr (by decide) (fun t ht hW => ⟨_, rfl, (by first | exact bB_t (tRng_of (by omega) c1 c9) | exact bB_f (tRng_neg c1) | exact bB_f (tRng_big (by omega) c9)), ht⟩) (fun q h => by cases h) dX1_hasPage_17
  · refine lv_iload_n hx hb dX1_hasPage_4 rfl (lv_at hl 1 rfl) ?_
    refine lv_aload_n hx hb dX1_hasPage_5 rfl (lv_at hl 0 rfl) ?_
    refine va_get (D := D) (ci := 1) (v := .int (nI q)) (C := RX1) (T := TX1) (N := 3) hx hb hts inX1 hown hK hP 0 rfl rfl 2 (by decide) (hts _ w_75) (fun _ h9 => h9) rfl dX1_hasPage_6 ?_
    refine lv_icmp_ge (tgt := 16) hx hb dX1_hasPage_9 (by decide) (fun c9 => ?_) (fun c9 => ?_)
    · refine lv_iconst (v := nI 0) hx hb dX1_hasPage_16 (by decide) ?_
      exact W.zret (v := 0) hx hb hr (by decide) (fun t ht hW => ⟨_, rfl, (by first | exact bB_t (tRng_of (by omega) c1 c9) | exact bB_f (tRng_neg c1) | exact bB_f (tRng_big (by omega) c9)), ht⟩) (fun q h => by cases h) dX1_hasPage_17
    · refine lv_iconst (v := nI 1) hx hb dX1_hasPage_12 (by decide) ?_
      refine lv_goto (tgt := 17) hx hb dX1_hasPage_13 (by decide) ?_
      exact W.zret (v := 1) hx hb hr (by decide) (fun t ht hW => ⟨_, rfl, (by first | exact bB_t (tRng_of (by omega) c1 c9) | exact bB_f (tRng_neg c1) | exact bB_f (tRng_big (by omega) c9)), ht⟩) (fun q h => by cases h) dX1_hasPage_17

set_option maxHeartbeats 4000000 in
set_option maxRecDepth 100000 in
theorem k_PR_lengthOf (l : Launch) (D : va_G) (ct : Nat → ClassId) (h : Nat) (t : Nat) (k : Nat) (g : Nat) (R : Nat) (n : Nat) (f : Nat → Nat) (q : Nat) (z : Nat → Nat) (i : Nat) (hn : n ≤ R) (hR : R ≤ 400) (hq : q ≤ R) (hi : i < q) : Met l yX1_lengthOf wsX1_lengthOf ({ frames := 1, cells := 0, slots := 0, locals := 21 }) (tb_Pr D ct [.ref h, .int (nI i)] [(h, .inr (1, [.ref t, .ref g, .int (nI q)])), (t, .inr (3, [.ref k, .int (nI n)])), (k, .inl (ct 0, R, .inl (aN f))), (g, .inl (ct 0, R, .inl (aN z)))]) (vp_Si (fun r => r = nI (z i))) 0 0 (fun _ => False) := by
  refine Met.ofW (cc := cX1_lengthOf) (maxL := 2) (ret := (some .int)) (by decide) rfl ?_
  intro p e s m args below meth c s₁ B hml hv
  obtain ⟨rfl, hP, hK, hZ⟩ := hv
  have hx := B.exec
  have hb := B.bytes
  have hr := B.returns
  have hts0 := atoms_spec (ws := wsX1_lengthOf) B.pre
  have hts : ∀ w9 ∈ aw, w9.before ([.ref h, .int (nI i)] : List Value).toArray s = true := fun w9 h9 => hts0 w9 (List.mem_cons_of_mem _ h9)
  have hown : s.vm.findClass RX1 = some m.cls := findClass_of_methodNamed B.named
  have hlocks := B.notSynchronized
  have hS : va_S (fun _ => False) s.heap s.heap [] := va_S.rf
  have hP : va_P D vwCl [(h, .inr (1, [.ref t, .ref g, .int (nI q)])), (t, .inr (3, [.ref k, .int (nI n)])), (k, .inl (ct 0, R, .inl (aN f))), (g, .inl (ct 0, R, .inl (aN z)))] s.heap := hP
  have hl := lv_entry ([.ref h, .int (nI i)]) (n := 2) (Nat.le_of_ble_eq_true rfl)
  rw [lg_entry_eq]
  generalize (lg_sl ([.ref h, .int (nI i)]) ++ List.replicate (2 - (lg_sl ([.ref h, .int (nI i)])).length) Slot.unset).toArray = ls at hl ⊢
  have hl : lv_has ls 2 [(0, .ref h), (1, .int (nI i))] := hl
  refine lv_aload_n hx hb dX1_lengthOf_0 rfl (lv_at hl 0 rfl) ?_
  refine lv_iload_n hx hb dX1_lengthOf_1 rfl (lv_at hl 1 rfl) ?_
  refine vp_callSi (va_Run.run (va_runV (As := [.int (nI i)]) (rest := []) ⟨hx, hb, hml, hown, hts⟩ (k_PR_hasPage l D ct h t k g R n f q z (nI i) hn hR hq) (cwV 1 hts (gw_V (fun _ h => h) w_148 w_149 w_150 w_27 wcX1_hasPage) rfl rfl rfl hvX1_hasPage ⟨Nat.le_of_ble_eq_true rfl, Nat.le_of_ble_eq_true rfl⟩) (tb_prV hP hK hZ hS [0, 1, 2, 3] rfl (ci := 1) (q0 := 0) rfl rfl) rfl rfl hl.1 rfl (lv_room (Nat.le_of_ble_eq_true rfl)) dX1_lengthOf_2 ⟨Nat.zero_le _, Nat.zero_le _⟩)) (fun r_2 hr_2 => ?_)
  obtain rfl : r_2 = bB (decide (tRng (nI i) q)) := hr_2
  refine tb_if_eqB (tgt := 17) hx hb dX1_lengthOf_5 (by decide) (fun c5 => ?_) (fun c5 => ?_)
  · exact absurd (tRng_nI hi (by omega)) c5
  · refine lv_aload_n hx hb dX1_lengthOf_8 rfl (lv_at hl 0 rfl) ?_
    refine va_get (D := D) (ci := 1) (v := .ref g) (C := RX1) (T := TX1) (N := 3) hx hb hts inX1 hown hK hP 0 rfl rfl 1 (by decide) (hts _ w_74) (fun _ h9 => h9) rfl dX1_lengthOf_9 ?_
    refine lv_iload_n hx hb dX1_lengthOf_12 rfl (lv_at hl 1 rfl) ?_
    refine tb_iald (v := z i) hx hb hK hP 3 0 rfl rfl (by omega) (by omega) rfl dX1_lengthOf_13 ?_
    refine lv_goto (tgt := 18) hx hb dX1_lengthOf_14 (by decide) ?_
    exact W.iret (v := nI (z i)) hx hb hr (fun t ht hW => ⟨_, rfl, rfl, ht⟩) (fun q h => by cases h) dX1_lengthOf_18

set_option maxHeartbeats 4000000 in
set_option maxRecDepth 100000 in
theorem k_PR_lengthX (l : Launch) (D : va_G) (ct : Nat → ClassId) (h : Nat) (t : Nat) (k : Nat) (g : Nat) (R : Nat) (n : Nat) (f : Nat → Nat) (q : Nat) (z : Nat → Nat) (i : Int32) (hn : n ≤ R) (hR : R ≤ 400) (hq : q ≤ R) (hi : ¬ tRng i q) : Met l yX1_lengthOf wsX1_lengthOf ({ frames := 1, cells := 0, slots := 0, locals := 21 }) (tb_Pr D ct [.ref h, .int i] [(h, .inr (1, [.ref t, .ref g, .int (nI q)])), (t, .inr (3, [.ref k, .int (nI n)])), (k, .inl (ct 0, R, .inl (aN f))), (g, .inl (ct 0, R, .inl (aN z)))]) (vp_Si (fun r => r = nI 0)) 0 0 (fun _ => False) := by
  refine Met.ofW (cc := cX1_lengthOf) (maxL := 2) (ret := (some .int)) (by decide) rfl ?_
  intro p e s m args below meth c s₁ B hml hv
  obtain ⟨rfl, hP, hK, hZ⟩ := hv
  have hx := B.exec
  have hb := B.bytes
  have hr := B.returns
  have hts0 := atoms_spec (ws := wsX1_lengthOf) B.pre
  have hts : ∀ w9 ∈ aw, w9.before ([.ref h, .int i] : List Value).toArray s = true := fun w9 h9 => hts0 w9 (List.mem_cons_of_mem _ h9)
  have hown : s.vm.findClass RX1 = some m.cls := findClass_of_methodNamed B.named
  have hlocks := B.notSynchronized
  have hS : va_S (fun _ => False) s.heap s.heap [] := va_S.rf
  have hP : va_P D vwCl [(h, .inr (1, [.ref t, .ref g, .int (nI q)])), (t, .inr (3, [.ref k, .int (nI n)])), (k, .inl (ct 0, R, .inl (aN f))), (g, .inl (ct 0, R, .inl (aN z)))] s.heap := hP
  have hl := lv_entry ([.ref h, .int i]) (n := 2) (Nat.le_of_ble_eq_true rfl)
  rw [lg_entry_eq]
  generalize (lg_sl ([.ref h, .int i]) ++ List.replicate (2 - (lg_sl ([.ref h, .int i])).length) Slot.unset).toArray = ls at hl ⊢
  have hl : lv_has ls 2 [(0, .ref h), (1, .int i)] := hl
  refine lv_aload_n hx hb dX1_lengthOf_0 rfl (lv_at hl 0 rfl) ?_
  refine lv_iload_n hx hb dX1_lengthOf_1 rfl (lv_at hl 1 rfl) ?_
  refine vp_callSi (va_Run.run (va_runV (As := [.int i]) (rest := []) ⟨hx, hb, hml, hown, hts⟩ (k_PR_hasPage l D ct h t k g R n f q z i hn hR hq) (cwV 1 hts (gw_V (fun _ h => h) w_148 w_149 w_150 w_27 wcX1_hasPage) rfl rfl rfl hvX1_hasPage ⟨Nat.le_of_ble_eq_true rfl, Nat.le_of_ble_eq_true rfl⟩) (tb_prV hP hK hZ hS [0, 1, 2, 3] rfl (ci := 1) (q0 := 0) rfl rfl) rfl rfl hl.1 rfl (lv_room (Nat.le_of_ble_eq_true rfl)) dX1_lengthOf_2 ⟨Nat.zero_le _, Nat.zero_le _⟩)) (fun r_2 hr_2 => ?_)
  obtain rfl : r_2 = bB (decide (tRng i q)) := hr_2
  refine tb_if_eqB (tgt := 17) hx hb dX1_lengthOf_5 (by decide) (fun c5 => ?_) (fun c5 => ?_)
  · refine lv_iconst (v := nI 0) hx hb dX1_lengthOf_17 (by decide) ?_
    exact W.iret (v := nI 0) hx hb hr (fun t ht hW => ⟨_, rfl, rfl, ht⟩) (fun q h => by cases h) dX1_lengthOf_18
  · exact absurd c5 hi

set_option maxHeartbeats 4000000 in
set_option maxRecDepth 100000 in
theorem k_PR_startOf (l : Launch) (D : va_G) (ct : Nat → ClassId) (h : Nat) (t : Nat) (k : Nat) (g : Nat) (R : Nat) (n : Nat) (f : Nat → Nat) (q : Nat) (z : Nat → Nat) (i : Nat) (hn : n ≤ R) (hR : R ≤ 400) (hq : q ≤ R) (hi : i < 2 ^ 31) : Met l yX1_startOf wsX1_startOf ({ frames := 0, cells := 0, slots := 0, locals := 0 }) (tb_Pr D ct [.ref h, .int (nI i)] [(h, .inr (1, [.ref t, .ref g, .int (nI q)])), (t, .inr (3, [.ref k, .int (nI n)])), (k, .inl (ct 0, R, .inl (aN f))), (g, .inl (ct 0, R, .inl (aN z)))]) (vp_Si (fun r => r = nI (tSum z (min i q)))) 0 0 (fun _ => False) := by
  refine Met.ofW (cc := cX1_startOf) (maxL := 4) (ret := (some .int)) (by decide) rfl ?_
  intro p e s m args below meth c s₁ B hml hv
  obtain ⟨rfl, hP, hK, hZ⟩ := hv
  have hx := B.exec
  have hb := B.bytes
  have hr := B.returns
  have hts0 := atoms_spec (ws := wsX1_startOf) B.pre
  have hts : ∀ w9 ∈ aw, w9.before ([.ref h, .int (nI i)] : List Value).toArray s = true := fun w9 h9 => hts0 w9 (List.mem_cons_of_mem _ h9)
  have hown : s.vm.findClass RX1 = some m.cls := findClass_of_methodNamed B.named
  have hlocks := B.notSynchronized
  have hS : va_S (fun _ => False) s.heap s.heap [] := va_S.rf
  have hP : va_P D vwCl [(h, .inr (1, [.ref t, .ref g, .int (nI q)])), (t, .inr (3, [.ref k, .int (nI n)])), (k, .inl (ct 0, R, .inl (aN f))), (g, .inl (ct 0, R, .inl (aN z)))] s.heap := hP
  have hl := lv_entry ([.ref h, .int (nI i)]) (n := 4) (Nat.le_of_ble_eq_true rfl)
  rw [lg_entry_eq]
  generalize (lg_sl ([.ref h, .int (nI i)]) ++ List.replicate (4 - (lg_sl ([.ref h, .int (nI i)])).length) Slot.unset).toArray = ls at hl ⊢
  have hl : lv_has ls 4 [(0, .ref h), (1, .int (nI i))] := hl
  refine lv_iconst (v := nI 0) hx hb dX1_startOf_0 (by decide) ?_
  refine lv_istore_n (lv' := [(2, .int (nI 0)), (0, .ref h), (1, .int (nI i))]) hx hb dX1_startOf_1 rfl hl (by decide) rfl (fun ls hl => ?_)
  refine lv_iconst (v := nI 0) hx hb dX1_startOf_2 (by decide) ?_
  refine lv_istore_n (lv' := [(3, .int (nI 0)), (2, .int (nI 0)), (0, .ref h), (1, .int (nI i))]) hx hb dX1_startOf_3 rfl hl (by decide) rfl (fun ls hl => ?_)
  have hl4 : ∀ (N9 : Nat) (j : Nat), min i q - j < N9 → (j ≤ min i q) → ∀ (ls : Array Slot), lv_has ls 4 [(0, .ref h), (1, .int (nI i)), (2, .int (nI (tSum z j))), (3, .int (nI j))] → W p l e (headSpec wsX1_startOf ({ frames := 0, cells := 0, slots := 0, locals := 0 })).room s m ([.ref h, .int (nI i)] : List Value).toArray below meth c s.heap [] 0 0 (MQ below (vp_Si (fun r => r = nI (tSum z (min i q)))) ([.ref h, .int (nI i)] : List Value).toArray s 0 0 (fun _ => False)) (F0 m 4 ls []) := by
    intro N9
    induction N9 with
    | zero => intro j h9; exact absurd h9 (Nat.not_lt_zero _)
    | succ N9 ih4 =>
      intro j h9 h1 ls hl
      refine lv_iload_n hx hb dX1_startOf_4 rfl (lv_at hl 3 rfl) ?_
      refine lv_iload_n hx hb dX1_startOf_5 rfl (lv_at hl 1 rfl) ?_
      refine tb_icmp_ge (tgt := 32) hx hb dX1_startOf_6 (by decide) (by omega) (by omega) (fun c6 => ?_) (fun c6 => ?_)
      · refine lv_iload_n hx hb dX1_startOf_32 rfl (lv_at hl 2 rfl) ?_
        exact W.iret (v := nI (tSum z j)) hx hb hr (fun t ht hW => ⟨_, rfl, (by rw [show min i q = j by omega]), ht⟩) (fun q h => by cases h) dX1_startOf_33
      · refine lv_iload_n hx hb dX1_startOf_9 rfl (lv_at hl 3 rfl) ?_
        refine lv_aload_n hx hb dX1_startOf_10 rfl (lv_at hl 0 rfl) ?_
        refine va_get (D := D) (ci := 1) (v := .int (nI q)) (C := RX1) (T := TX1) (N := 3) hx hb hts inX1 hown hK hP 0 rfl rfl 2 (by decide) (hts _ w_75) (fun _ h9 => h9) rfl dX1_startOf_11 ?_
        refine tb_icmp_ge (tgt := 32) hx hb dX1_startOf_14 (by decide) (by omega) (by omega) (fun c14 => ?_) (fun c14 => ?_)
        · refine lv_iload_n hx hb dX1_startOf_32 rfl (lv_at hl 2 rfl) ?_
          exact W.iret (v := nI (tSum z j)) hx hb hr (fun t ht hW => ⟨_, rfl, (by rw [show min i q = j by omega]), ht⟩) (fun q h => by cases h) dX1_startOf_33
        · refine lv_iload_n hx hb dX1_startOf_17 rfl (lv_at hl 2 rfl) ?_
          refine lv_aload_n hx hb dX1_startOf_18 rfl (lv_at hl 0 rfl) ?_
          refine va_get (D := D) (ci := 1) (v := .ref g) (C := RX1) (T := TX1) (N := 3) hx hb hts inX1 hown hK hP 0 rfl rfl 1 (by decide) (hts _ w_74) (fun _ h9 => h9) rfl dX1_startOf_19 ?_
          refine lv_iload_n hx hb dX1_startOf_22 rfl (lv_at hl 3 rfl) ?_
          refine tb_iald (v := z j) hx hb hK hP 3 0 rfl rfl (by omega) (by omega) rfl dX1_startOf_23 ?_
          refine tb_iadd hx hb dX1_startOf_24 ?_
          refine lv_istore_n (lv' := [(2, .int (nI ((tSum z j) + (z j)))), (0, .ref h), (1, .int (nI i)), (3, .int (nI j))]) hx hb dX1_startOf_25 rfl hl (by decide) rfl (fun ls hl => ?_)
          refine lv_iinc (v := nI (j + 1)) (lv' := [(3, .int (nI (j + 1))), (2, .int (nI ((tSum z j) + (z j)))), (0, .ref h), (1, .int (nI i))]) hx hb dX1_startOf_26 hl (k := 3) rfl (tb_inc j rfl) (by decide) rfl (fun ls hl => ?_)
          refine lv_goto (tgt := 4) hx hb dX1_startOf_29 (by decide) ?_
          exact ih4 (j + 1) (by omega) (by omega) _ (lv_sub hl [2, 3, 1, 0] rfl)
  exact hl4 _ 0 (Nat.lt_succ_self _) (by omega) _ (lv_sub hl [2, 3, 1, 0] rfl)

set_option maxHeartbeats 4000000 in
set_option maxRecDepth 100000 in
theorem k_PR_startX (l : Launch) (D : va_G) (ct : Nat → ClassId) (h : Nat) (t : Nat) (k : Nat) (g : Nat) (R : Nat) (n : Nat) (f : Nat → Nat) (q : Nat) (z : Nat → Nat) (i : Int32) (hi : i < 0) : Met l yX1_startOf wsX1_startOf ({ frames := 0, cells := 0, slots := 0, locals := 0 }) (tb_Pr D ct [.ref h, .int i] [(h, .inr (1, [.ref t, .ref g, .int (nI q)])), (t, .inr (3, [.ref k, .int (nI n)])), (k, .inl (ct 0, R, .inl (aN f))), (g, .inl (ct 0, R, .inl (aN z)))]) (vp_Si (fun r => r = nI 0)) 0 0 (fun _ => False) := by
  refine Met.ofW (cc := cX1_startOf) (maxL := 4) (ret := (some .int)) (by decide) rfl ?_
  intro p e s m args below meth c s₁ B hml hv
  obtain ⟨rfl, hP, hK, hZ⟩ := hv
  have hx := B.exec
  have hb := B.bytes
  have hr := B.returns
  have hts0 := atoms_spec (ws := wsX1_startOf) B.pre
  have hts : ∀ w9 ∈ aw, w9.before ([.ref h, .int i] : List Value).toArray s = true := fun w9 h9 => hts0 w9 (List.mem_cons_of_mem _ h9)
  have hown : s.vm.findClass RX1 = some m.cls := findClass_of_methodNamed B.named
  have hlocks := B.notSynchronized
  have hS : va_S (fun _ => False) s.heap s.heap [] := va_S.rf
  have hP : va_P D vwCl [(h, .inr (1, [.ref t, .ref g, .int (nI q)])), (t, .inr (3, [.ref k, .int (nI n)])), (k, .inl (ct 0, R, .inl (aN f))), (g, .inl (ct 0, R, .inl (aN z)))] s.heap := hP
  have hl := lv_entry ([.ref h, .int i]) (n := 4) (Nat.le_of_ble_eq_true rfl)
  rw [lg_entry_eq]
  generalize (lg_sl ([.ref h, .int i]) ++ List.replicate (4 - (lg_sl ([.ref h, .int i])).length) Slot.unset).toArray = ls at hl ⊢
  have hl : lv_has ls 4 [(0, .ref h), (1, .int i)] := hl
  refine lv_iconst (v := nI 0) hx hb dX1_startOf_0 (by decide) ?_
  refine lv_istore_n (lv' := [(2, .int (nI 0)), (0, .ref h), (1, .int i)]) hx hb dX1_startOf_1 rfl hl (by decide) rfl (fun ls hl => ?_)
  refine lv_iconst (v := nI 0) hx hb dX1_startOf_2 (by decide) ?_
  refine lv_istore_n (lv' := [(3, .int (nI 0)), (2, .int (nI 0)), (0, .ref h), (1, .int i)]) hx hb dX1_startOf_3 rfl hl (by decide) rfl (fun ls hl => ?_)
  refine lv_iload_n hx hb dX1_startOf_4 rfl (lv_at hl 0 rfl) ?_
  refine lv_iload_n hx hb dX1_startOf_5 rfl (lv_at hl 3 rfl) ?_
  refine lv_icmp_ge (tgt := 32) hx hb dX1_startOf_6 (by decide) (fun c6 => ?_) (fun c6 => ?_)
  · refine lv_iload_n hx hb dX1_startOf_32 rfl (lv_at hl 1 rfl) ?_
    exact W.iret (v := nI 0) hx hb hr (fun t ht hW => ⟨_, rfl, rfl, ht⟩) (fun q h => by cases h) dX1_startOf_33
  · exact absurd (tb_neg_le hi) c6

set_option maxHeartbeats 4000000 in
set_option maxRecDepth 100000 in
theorem k_PR_pageHolding (l : Launch) (D : va_G) (ct : Nat → ClassId) (h : Nat) (t : Nat) (k : Nat) (g : Nat) (R : Nat) (n : Nat) (f : Nat → Nat) (q : Nat) (z : Nat → Nat) (i : Nat) (hn : n ≤ R) (hR : R ≤ 400) (hq : q ≤ R) (hi : i < n) (h0 : 0 < q) (hsum : tSum z q = n) : Met l yX1_pageHolding wsX1_pageHolding ({ frames := 0, cells := 0, slots := 0, locals := 0 }) (tb_Pr D ct [.ref h, .int (nI i)] [(h, .inr (1, [.ref t, .ref g, .int (nI q)])), (t, .inr (3, [.ref k, .int (nI n)])), (k, .inl (ct 0, R, .inl (aN f))), (g, .inl (ct 0, R, .inl (aN z)))]) (vp_Si (fun r => r = nI (tPg z (i + 1) q 0))) 0 0 (fun _ => False) := by
  refine Met.ofW (cc := cX1_pageHolding) (maxL := 4) (ret := (some .int)) (by decide) rfl ?_
  intro p e s m args below meth c s₁ B hml hv
  obtain ⟨rfl, hP, hK, hZ⟩ := hv
  have hx := B.exec
  have hb := B.bytes
  have hr := B.returns
  have hts0 := atoms_spec (ws := wsX1_pageHolding) B.pre
  have hts : ∀ w9 ∈ aw, w9.before ([.ref h, .int (nI i)] : List Value).toArray s = true := fun w9 h9 => hts0 w9 (List.mem_cons_of_mem _ h9)
  have hown : s.vm.findClass RX1 = some m.cls := findClass_of_methodNamed B.named
  have hlocks := B.notSynchronized
  have hS : va_S (fun _ => False) s.heap s.heap [] := va_S.rf
  have hP : va_P D vwCl [(h, .inr (1, [.ref t, .ref g, .int (nI q)])), (t, .inr (3, [.ref k, .int (nI n)])), (k, .inl (ct 0, R, .inl (aN f))), (g, .inl (ct 0, R, .inl (aN z)))] s.heap := hP
  have hl := lv_entry ([.ref h, .int (nI i)]) (n := 4) (Nat.le_of_ble_eq_true rfl)
  rw [lg_entry_eq]
  generalize (lg_sl ([.ref h, .int (nI i)]) ++ List.replicate (4 - (lg_sl ([.ref h, .int (nI i)])).length) Slot.unset).toArray = ls at hl ⊢
  have hl : lv_has ls 4 [(0, .ref h), (1, .int (nI i))] := hl
  refine lv_iconst (v := nI 0) hx hb dX1_pageHolding_0 (by decide) ?_
  refine lv_istore_n (lv' := [(2, .int (nI 0)), (0, .ref h), (1, .int (nI i))]) hx hb dX1_pageHolding_1 rfl hl (by decide) rfl (fun ls hl => ?_)
  refine lv_iconst (v := nI 0) hx hb dX1_pageHolding_2 (by decide) ?_
  refine lv_istore_n (lv' := [(3, .int (nI 0)), (2, .int (nI 0)), (0, .ref h), (1, .int (nI i))]) hx hb dX1_pageHolding_3 rfl hl (by decide) rfl (fun ls hl => ?_)
  have hl4 : ∀ (N9 : Nat) (j : Nat), q - j < N9 → (j ≤ q) → (tPg z (i + 1) q 0 = tPg z (i + 1) (q - j) j) → ∀ (ls : Array Slot), lv_has ls 4 [(0, .ref h), (1, .int (nI i)), (2, .int (nI (tSum z j))), (3, .int (nI j))] → W p l e (headSpec wsX1_pageHolding ({ frames := 0, cells := 0, slots := 0, locals := 0 })).room s m ([.ref h, .int (nI i)] : List Value).toArray below meth c s.heap [] 0 0 (MQ below (vp_Si (fun r => r = nI (tPg z (i + 1) q 0))) ([.ref h, .int (nI i)] : List Value).toArray s 0 0 (fun _ => False)) (F0 m 4 ls []) := by
    intro N9
    induction N9 with
    | zero => intro j h9; exact absurd h9 (Nat.not_lt_zero _)
    | succ N9 ih4 =>
      intro j h9 h1 h2 ls hl
      refine lv_iload_n hx hb dX1_pageHolding_4 rfl (lv_at hl 3 rfl) ?_
      refine lv_aload_n hx hb dX1_pageHolding_5 rfl (lv_at hl 0 rfl) ?_
      refine va_get (D := D) (ci := 1) (v := .int (nI q)) (C := RX1) (T := TX1) (N := 3) hx hb hts inX1 hown hK hP 0 rfl rfl 2 (by decide) (hts _ w_75) (fun _ h9 => h9) rfl dX1_pageHolding_6 ?_
      refine tb_icmp_ge (tgt := 34) hx hb dX1_pageHolding_9 (by decide) (by omega) (by omega) (fun c9 => ?_) (fun c9 => ?_)
      · refine lv_aload_n hx hb dX1_pageHolding_34 rfl (lv_at hl 0 rfl) ?_
        refine va_get (D := D) (ci := 1) (v := .int (nI q)) (C := RX1) (T := TX1) (N := 3) hx hb hts inX1 hown hK hP 0 rfl rfl 2 (by decide) (hts _ w_75) (fun _ h9 => h9) rfl dX1_pageHolding_35 ?_
        refine lv_iconst (v := nI 1) hx hb dX1_pageHolding_38 (by decide) ?_
        refine tb_isub hx hb dX1_pageHolding_39 (by omega) ?_
        exact W.iret (v := nI (q - 1)) hx hb hr (fun t ht hW => ⟨_, rfl, (by rw [h2, show q - j = 0 by omega, tPg, show j = q by omega]), ht⟩) (fun q h => by cases h) dX1_pageHolding_40
      · refine lv_iload_n hx hb dX1_pageHolding_12 rfl (lv_at hl 2 rfl) ?_
        refine lv_aload_n hx hb dX1_pageHolding_13 rfl (lv_at hl 0 rfl) ?_
        refine va_get (D := D) (ci := 1) (v := .ref g) (C := RX1) (T := TX1) (N := 3) hx hb hts inX1 hown hK hP 0 rfl rfl 1 (by decide) (hts _ w_74) (fun _ h9 => h9) rfl dX1_pageHolding_14 ?_
        refine lv_iload_n hx hb dX1_pageHolding_17 rfl (lv_at hl 3 rfl) ?_
        refine tb_iald (v := z j) hx hb hK hP 3 0 rfl rfl (by omega) (by omega) rfl dX1_pageHolding_18 ?_
        refine tb_iadd hx hb dX1_pageHolding_19 ?_
        refine lv_istore_n (lv' := [(2, .int (nI ((tSum z j) + (z j)))), (0, .ref h), (1, .int (nI i)), (3, .int (nI j))]) hx hb dX1_pageHolding_20 rfl hl (by decide) rfl (fun ls hl => ?_)
        refine lv_iload_n hx hb dX1_pageHolding_21 rfl (lv_at hl 2 rfl) ?_
        refine lv_iload_n hx hb dX1_pageHolding_22 rfl (lv_at hl 0 rfl) ?_
        refine tb_icmp_ge (tgt := 28) hx hb dX1_pageHolding_23 (by decide) (by omega) (by have := tSum_le_of z (show j + 1 ≤ q by omega); rw [tSum] at this; omega) (fun c23 => ?_) (fun c23 => ?_)
        · refine lv_iinc (v := nI (j + 1)) (lv' := [(3, .int (nI (j + 1))), (2, .int (nI ((tSum z j) + (z j)))), (0, .ref h), (1, .int (nI i))]) hx hb dX1_pageHolding_28 hl (k := 3) rfl (tb_inc j rfl) (by decide) rfl (fun ls hl => ?_)
          refine lv_goto (tgt := 4) hx hb dX1_pageHolding_31 (by decide) ?_
          exact ih4 (j + 1) (by omega) (by omega) (h2.trans (tPg_no (by omega) (by omega))) _ (lv_sub hl [2, 3, 1, 0] rfl)
        · refine lv_iload_n hx hb dX1_pageHolding_26 rfl (lv_at hl 3 rfl) ?_
          exact W.iret (v := nI j) hx hb hr (fun t ht hW => ⟨_, rfl, (by rw [h2, tPg_yes (by omega) (by rw [tSum]; omega)]), ht⟩) (fun q h => by cases h) dX1_pageHolding_27
  exact hl4 _ 0 (Nat.lt_succ_self _) (by omega) rfl _ (lv_sub hl [2, 3, 1, 0] rfl)

set_option maxHeartbeats 4000000 in
set_option maxRecDepth 100000 in
theorem k_PR_pageHoldM (l : Launch) (D : va_G) (ct : Nat → ClassId) (h : Nat) (t : Nat) (k : Nat) (g : Nat) (R : Nat) (n : Nat) (f : Nat → Nat) (q : Nat) (z : Nat → Nat) (i : Nat) (hn : n ≤ R) (hR : R ≤ 400) (hq : q ≤ R) (hi : i ≤ n) (h0 : 0 < q) (hsum : tSum z q = n) : Met l yX1_pageHolding wsX1_pageHolding ({ frames := 0, cells := 0, slots := 0, locals := 0 }) (tb_Pr D ct [.ref h, .int (nI i - nI 1)] [(h, .inr (1, [.ref t, .ref g, .int (nI q)])), (t, .inr (3, [.ref k, .int (nI n)])), (k, .inl (ct 0, R, .inl (aN f))), (g, .inl (ct 0, R, .inl (aN z)))]) (vp_Si (fun r => r = nI (tPg z i q 0))) 0 0 (fun _ => False) := by
  refine Met.ofW (cc := cX1_pageHolding) (maxL := 4) (ret := (some .int)) (by decide) rfl ?_
  intro p e s m args below meth c s₁ B hml hv
  obtain ⟨rfl, hP, hK, hZ⟩ := hv
  have hx := B.exec
  have hb := B.bytes
  have hr := B.returns
  have hts0 := atoms_spec (ws := wsX1_pageHolding) B.pre
  have hts : ∀ w9 ∈ aw, w9.before ([.ref h, .int (nI i - nI 1)] : List Value).toArray s = true := fun w9 h9 => hts0 w9 (List.mem_cons_of_mem _ h9)
  have hown : s.vm.findClass RX1 = some m.cls := findClass_of_methodNamed B.named
  have hlocks := B.notSynchronized
  have hS : va_S (fun _ => False) s.heap s.heap [] := va_S.rf
  have hP : va_P D vwCl [(h, .inr (1, [.ref t, .ref g, .int (nI q)])), (t, .inr (3, [.ref k, .int (nI n)])), (k, .inl (ct 0, R, .inl (aN f))), (g, .inl (ct 0, R, .inl (aN z)))] s.heap := hP
  have hl := lv_entry ([.ref h, .int (nI i - nI 1)]) (n := 4) (Nat.le_of_ble_eq_true rfl)
  rw [lg_entry_eq]
  generalize (lg_sl ([.ref h, .int (nI i - nI 1)]) ++ List.replicate (4 - (lg_sl ([.ref h, .int (nI i - nI 1)])).length) Slot.unset).toArray = ls at hl ⊢
  have hl : lv_has ls 4 [(0, .ref h), (1, .int (nI i - nI 1))] := hl
  refine lv_iconst (v := nI 0) hx hb dX1_pageHolding_0 (by decide) ?_
  refine lv_istore_n (lv' := [(2, .int (nI 0)), (0, .ref h), (1, .int (nI i - nI 1))]) hx hb dX1_pageHolding_1 rfl hl (by decide) rfl (fun ls hl => ?_)
  refine lv_iconst (v := nI 0) hx hb dX1_pageHolding_2 (by decide) ?_
  refine lv_istore_n (lv' := [(3, .int (nI 0)), (2, .int (nI 0)), (0, .ref h), (1, .int (nI i - nI 1))]) hx hb dX1_pageHolding_3 rfl hl (by decide) rfl (fun ls hl => ?_)
  have hl4 : ∀ (N9 : Nat) (j : Nat), q - j < N9 → (j ≤ q) → (tPg z i q 0 = tPg z i (q - j) j) → ∀ (ls : Array Slot), lv_has ls 4 [(0, .ref h), (1, .int (nI i - nI 1)), (2, .int (nI (tSum z j))), (3, .int (nI j))] → W p l e (headSpec wsX1_pageHolding ({ frames := 0, cells := 0, slots := 0, locals := 0 })).room s m ([.ref h, .int (nI i - nI 1)] : List Value).toArray below meth c s.heap [] 0 0 (MQ below (vp_Si (fun r => r = nI (tPg z i q 0))) ([.ref h, .int (nI i - nI 1)] : List Value).toArray s 0 0 (fun _ => False)) (F0 m 4 ls []) := by
    intro N9
    induction N9 with
    | zero => intro j h9; exact absurd h9 (Nat.not_lt_zero _)
    | succ N9 ih4 =>
      intro j h9 h1 h2 ls hl
      refine lv_iload_n hx hb dX1_pageHolding_4 rfl (lv_at hl 3 rfl) ?_
      refine lv_aload_n hx hb dX1_pageHolding_5 rfl (lv_at hl 0 rfl) ?_
      refine va_get (D := D) (ci := 1) (v := .int (nI q)) (C := RX1) (T := TX1) (N := 3) hx hb hts inX1 hown hK hP 0 rfl rfl 2 (by decide) (hts _ w_75) (fun _ h9 => h9) rfl dX1_pageHolding_6 ?_
      refine tb_icmp_ge (tgt := 34) hx hb dX1_pageHolding_9 (by decide) (by omega) (by omega) (fun c9 => ?_) (fun c9 => ?_)
      · refine lv_aload_n hx hb dX1_pageHolding_34 rfl (lv_at hl 0 rfl) ?_
        refine va_get (D := D) (ci := 1) (v := .int (nI q)) (C := RX1) (T := TX1) (N := 3) hx hb hts inX1 hown hK hP 0 rfl rfl 2 (by decide) (hts _ w_75) (fun _ h9 => h9) rfl dX1_pageHolding_35 ?_
        refine lv_iconst (v := nI 1) hx hb dX1_pageHolding_38 (by decide) ?_
        refine tb_isub hx hb dX1_pageHolding_39 (by omega) ?_
        exact W.iret (v := nI (q - 1)) hx hb hr (fun t ht hW => ⟨_, rfl, (by rw [h2, show q - j = 0 by omega, tPg, show j = q by omega]), ht⟩) (fun q h => by cases h) dX1_pageHolding_40
      · refine lv_iload_n hx hb dX1_pageHolding_12 rfl (lv_at hl 2 rfl) ?_
        refine lv_aload_n hx hb dX1_pageHolding_13 rfl (lv_at hl 0 rfl) ?_
        refine va_get (D := D) (ci := 1) (v := .ref g) (C := RX1) (T := TX1) (N := 3) hx hb hts inX1 hown hK hP 0 rfl rfl 1 (by decide) (hts _ w_74) (fun _ h9 => h9) rfl dX1_pageHolding_14 ?_
        refine lv_iload_n hx hb dX1_pageHolding_17 rfl (lv_at hl 3 rfl) ?_
        refine tb_iald (v := z j) hx hb hK hP 3 0 rfl rfl (by omega) (by omega) rfl dX1_pageHolding_18 ?_
        refine tb_iadd hx hb dX1_pageHolding_19 ?_
        refine lv_istore_n (lv' := [(2, .int (nI ((tSum z j) + (z j)))), (0, .ref h), (1, .int (nI i - nI 1)), (3, .int (nI j))]) hx hb dX1_pageHolding_20 rfl hl (by decide) rfl (fun ls hl => ?_)
        refine lv_iload_n hx hb dX1_pageHolding_21 rfl (lv_at hl 2 rfl) ?_
        refine lv_iload_n hx hb dX1_pageHolding_22 rfl (lv_at hl 0 rfl) ?_
        refine lv_icmp_ge (tgt := 28) hx hb dX1_pageHolding_23 (by decide) (fun c23 => ?_) (fun c23 => ?_)
        · have c23 := (tb_pm (by omega) (by have := tSum_le_of z (show j + 1 ≤ q by omega); rw [tSum] at this; omega)).mp c23
          refine lv_iinc (v := nI (j + 1)) (lv' := [(3, .int (nI (j + 1))), (2, .int (nI ((tSum z j) + (z j)))), (0, .ref h), (1, .int (nI i - nI 1))]) hx hb dX1_pageHolding_28 hl (k := 3) rfl (tb_inc j rfl) (by decide) rfl (fun ls hl => ?_)
          refine lv_goto (tgt := 4) hx hb dX1_pageHolding_31 (by decide) ?_
          exact ih4 (j + 1) (by omega) (by omega) (h2.trans (tPg_no (by omega) (by omega))) _ (lv_sub hl [2, 3, 1, 0] rfl)
        · have c23 : ¬ (tSum z j + z j) + 1 ≤ i := fun z9 => c23 ((tb_pm (by omega) (by have := tSum_le_of z (show j + 1 ≤ q by omega); rw [tSum] at this; omega)).mpr z9)
          refine lv_iload_n hx hb dX1_pageHolding_26 rfl (lv_at hl 3 rfl) ?_
          exact W.iret (v := nI j) hx hb hr (fun t ht hW => ⟨_, rfl, (by rw [h2, tPg_yes (by omega) (by rw [tSum]; omega)]), ht⟩) (fun q h => by cases h) dX1_pageHolding_27
  exact hl4 _ 0 (Nat.lt_succ_self _) (by omega) rfl _ (lv_sub hl [2, 3, 1, 0] rfl)

set_option maxHeartbeats 4000000 in
set_option maxRecDepth 100000 in
theorem k_PR_canJoin (l : Launch) (D : va_G) (ct : Nat → ClassId) (h : Nat) (t : Nat) (k : Nat) (g : Nat) (R : Nat) (n : Nat) (f : Nat → Nat) (q : Nat) (z : Nat → Nat) (i : Nat) (hn : n ≤ R) (hR : R ≤ 400) (hq : q ≤ R) (hi : i < q) (hz : ∀ j, z j ≤ 1000) : Met l yX1_canJoin wsX1_canJoin ({ frames := 1, cells := 0, slots := 0, locals := 21 }) (tb_Pr D ct [.ref h, .int (nI i)] [(h, .inr (1, [.ref t, .ref g, .int (nI q)])), (t, .inr (3, [.ref k, .int (nI n)])), (k, .inl (ct 0, R, .inl (aN f))), (g, .inl (ct 0, R, .inl (aN z)))]) (vp_Si (fun r => r = bB (decide (tCan z q i)))) 0 0 (fun _ => False) := by
  refine Met.ofW (cc := cX1_canJoin) (maxL := 2) (ret := (some .boolean)) (by decide) rfl ?_
  intro p e s m args below meth c s₁ B hml hv
  obtain ⟨rfl, hP, hK, hZ⟩ := hv
  have hx := B.exec
  have hb := B.bytes
  have hr := B.returns
  have hts0 := atoms_spec (ws := wsX1_canJoin) B.pre
  have hts : ∀ w9 ∈ aw, w9.before ([.ref h, .int (nI i)] : List Value).toArray s = true := fun w9 h9 => hts0 w9 (List.mem_cons_of_mem _ h9)
  have hown : s.vm.findClass RX1 = some m.cls := findClass_of_methodNamed B.named
  have hlocks := B.notSynchronized
  have hS : va_S (fun _ => False) s.heap s.heap [] := va_S.rf
  have hP : va_P D vwCl [(h, .inr (1, [.ref t, .ref g, .int (nI q)])), (t, .inr (3, [.ref k, .int (nI n)])), (k, .inl (ct 0, R, .inl (aN f))), (g, .inl (ct 0, R, .inl (aN z)))] s.heap := hP
  have hl := lv_entry ([.ref h, .int (nI i)]) (n := 2) (Nat.le_of_ble_eq_true rfl)
  rw [lg_entry_eq]
  generalize (lg_sl ([.ref h, .int (nI i)]) ++ List.replicate (2 - (lg_sl ([.ref h, .int (nI i)])).length) Slot.unset).toArray = ls at hl ⊢
  have hl : lv_has ls 2 [(0, .ref h), (1, .int (nI i))] := hl
  refine lv_aload_n hx hb dX1_canJoin_0 rfl (lv_at hl 0 rfl) ?_
  refine lv_iload_n hx hb dX1_canJoin_1 rfl (lv_at hl 1 rfl) ?_
  refine vp_callSi (va_Run.run (va_runV (As := [.int (nI i)]) (rest := []) ⟨hx, hb, hml, hown, hts⟩ (k_PR_hasPage l D ct h t k g R n f q z (nI i) hn hR hq) (cwV 1 hts (gw_V (fun _ h => h) w_148 w_149 w_150 w_27 wcX1_hasPage) rfl rfl rfl hvX1_hasPage ⟨Nat.le_of_ble_eq_true rfl, Nat.le_of_ble_eq_true rfl⟩) (tb_prV hP hK hZ hS [0, 1, 2, 3] rfl (ci := 1) (q0 := 0) rfl rfl) rfl rfl hl.1 rfl (lv_room (Nat.le_of_ble_eq_true rfl)) dX1_canJoin_2 ⟨Nat.zero_le _, Nat.zero_le _⟩)) (fun r_2 hr_2 => ?_)
  obtain rfl : r_2 = bB (decide (tRng (nI i) q)) := hr_2
  refine tb_if_eqB (tgt := 42) hx hb dX1_canJoin_5 (by decide) (fun c5 => ?_) (fun c5 => ?_)
  · exact absurd (tRng_nI hi (by omega)) c5
  · refine lv_aload_n hx hb dX1_canJoin_8 rfl (lv_at hl 0 rfl) ?_
    refine lv_iload_n hx hb dX1_canJoin_9 rfl (lv_at hl 1 rfl) ?_
    refine lv_iconst (v := nI 1) hx hb dX1_canJoin_10 (by decide) ?_
    refine tb_iadd hx hb dX1_canJoin_11 ?_
    refine vp_callSi (va_Run.run (va_runV (As := [.int (nI (i + 1))]) (rest := []) ⟨hx, hb, hml, hown, hts⟩ (k_PR_hasPage l D ct h t k g R n f q z (nI (i + 1)) hn hR hq) (cwV 1 hts (gw_V (fun _ h => h) w_148 w_149 w_150 w_27 wcX1_hasPage) rfl rfl rfl hvX1_hasPage ⟨Nat.le_of_ble_eq_true rfl, Nat.le_of_ble_eq_true rfl⟩) (tb_prV hP hK hZ hS [0, 1, 2, 3] rfl (ci := 1) (q0 := 0) rfl rfl) rfl rfl hl.1 rfl (lv_room (Nat.le_of_ble_eq_true rfl)) dX1_canJoin_12 ⟨Nat.zero_le _, Nat.zero_le _⟩)) (fun r_12 hr_12 => ?_)
    obtain rfl : r_12 = bB (decide (tRng (nI (i + 1)) q)) := hr_12
    refine tb_if_eqB (tgt := 42) hx hb dX1_canJoin_15 (by decide) (fun c15 => ?_) (fun c15 => ?_)
    · have c15 : ¬ i + 1 < q := fun z9 => c15 (tRng_nI z9 (by omega))
      refine lv_iconst (v := nI 0) hx hb dX1_canJoin_42 (by decide) ?_
      exact W.zret (v := 0) hx hb hr (by decide) (fun t ht hW => ⟨_, rfl, (by first | exact bB_t ⟨c15, c35⟩ | exact bB_f (fun z9 => c15 z9.1) | exact bB_f (fun z9 => absurd z9.2 (Nat.not_le.mpr c35))), ht⟩) (fun q h => by cases h) dX1_canJoin_43
    · have c15 := tRng_lt (by omega) c15
      have hz1 := hz i
      have hz2 := hz (i + 1)
      refine lv_aload_n hx hb dX1_canJoin_18 rfl (lv_at hl 0 rfl) ?_
      refine va_get (D := D) (ci := 1) (v := .ref g) (C := RX1) (T := TX1) (N := 3) hx hb hts inX1 hown hK hP 0 rfl rfl 1 (by decide) (hts _ w_74) (fun _ h9 => h9) rfl dX1_canJoin_19 ?_
      refine lv_iload_n hx hb dX1_canJoin_22 rfl (lv_at hl 1 rfl) ?_
      refine tb_iald (v := z i) hx hb hK hP 3 0 rfl rfl (by omega) (by omega) rfl dX1_canJoin_23 ?_
      refine lv_aload_n hx hb dX1_canJoin_24 rfl (lv_at hl 0 rfl) ?_
      refine va_get (D := D) (ci := 1) (v := .ref g) (C := RX1) (T := TX1) (N := 3) hx hb hts inX1 hown hK hP 0 rfl rfl 1 (by decide) (hts _ w_74) (fun _ h9 => h9) rfl dX1_canJoin_25 ?_
      refine lv_iload_n hx hb dX1_canJoin_28 rfl (lv_at hl 1 rfl) ?_
      refine lv_iconst (v := nI 1) hx hb dX1_canJoin_29 (by decide) ?_
      refine tb_iadd hx hb dX1_canJoin_30 ?_
      refine tb_iald (v := z (i + 1)) hx hb hK hP 3 0 rfl rfl (by omega) (by omega) rfl dX1_canJoin_31 ?_
      refine tb_iadd hx hb dX1_canJoin_32 ?_
      refine lv_bipush (v := nI 10) hx hb dX1_canJoin_33 (by decide) ?_
      refine tb_icmp_gt (tgt := 42) hx hb dX1_canJoin_35 (by decide) (by omega) (by omega) (fun c35 => ?_) (fun c35 => ?_)
      · refine lv_iconst (v := nI 0) hx hb dX1_canJoin_42 (by decide) ?_
        exact W.zret (v := 0) hx hb hr (by decide) (fun t ht hW => ⟨_, rfl, (by first | exact bB_t ⟨c15, c35⟩ | exact bB_f (fun z9 => c15 z9.1) | exact bB_f (fun z9 => absurd z9.2 (Nat.not_le.mpr c35))), ht⟩) (fun q h => by cases h) dX1_canJoin_43
      · refine lv_iconst (v := nI 1) hx hb dX1_canJoin_38 (by decide) ?_
        refine lv_goto (tgt := 43) hx hb dX1_canJoin_39 (by decide) ?_
        exact W.zret (v := 1) hx hb hr (by decide) (fun t ht hW => ⟨_, rfl, (by first | exact bB_t ⟨c15, c35⟩ | exact bB_f (fun z9 => c15 z9.1) | exact bB_f (fun z9 => absurd z9.2 (Nat.not_le.mpr c35))), ht⟩) (fun q h => by cases h) dX1_canJoin_43

set_option maxHeartbeats 4000000 in
set_option maxRecDepth 100000 in
theorem k_PR_canJoinX (l : Launch) (D : va_G) (ct : Nat → ClassId) (h : Nat) (t : Nat) (k : Nat) (g : Nat) (R : Nat) (n : Nat) (f : Nat → Nat) (q : Nat) (z : Nat → Nat) (i : Int32) (hn : n ≤ R) (hR : R ≤ 400) (hq : q ≤ R) (hi : ¬ tRng i q) : Met l yX1_canJoin wsX1_canJoin ({ frames := 1, cells := 0, slots := 0, locals := 21 }) (tb_Pr D ct [.ref h, .int i] [(h, .inr (1, [.ref t, .ref g, .int (nI q)])), (t, .inr (3, [.ref k, .int (nI n)])), (k, .inl (ct 0, R, .inl (aN f))), (g, .inl (ct 0, R, .inl (aN z)))]) (vp_Si (fun r => r = nI 0)) 0 0 (fun _ => False) := by
  refine Met.ofW (cc := cX1_canJoin) (maxL := 2) (ret := (some .boolean)) (by decide) rfl ?_
  intro p e s m args below meth c s₁ B hml hv
  obtain ⟨rfl, hP, hK, hZ⟩ := hv
  have hx := B.exec
  have hb := B.bytes
  have hr := B.returns
  have hts0 := atoms_spec (ws := wsX1_canJoin) B.pre
  have hts : ∀ w9 ∈ aw, w9.before ([.ref h, .int i] : List Value).toArray s = true := fun w9 h9 => hts0 w9 (List.mem_cons_of_mem _ h9)
  have hown : s.vm.findClass RX1 = some m.cls := findClass_of_methodNamed B.named
  have hlocks := B.notSynchronized
  have hS : va_S (fun _ => False) s.heap s.heap [] := va_S.rf
  have hP : va_P D vwCl [(h, .inr (1, [.ref t, .ref g, .int (nI q)])), (t, .inr (3, [.ref k, .int (nI n)])), (k, .inl (ct 0, R, .inl (aN f))), (g, .inl (ct 0, R, .inl (aN z)))] s.heap := hP
  have hl := lv_entry ([.ref h, .int i]) (n := 2) (Nat.le_of_ble_eq_true rfl)
  rw [lg_entry_eq]
  generalize (lg_sl ([.ref h, .int i]) ++ List.replicate (2 - (lg_sl ([.ref h, .int i])).length) Slot.unset).toArray = ls at hl ⊢
  have hl : lv_has ls 2 [(0, .ref h), (1, .int i)] := hl
  refine lv_aload_n hx hb dX1_canJoin_0 rfl (lv_at hl 0 rfl) ?_
  refine lv_iload_n hx hb dX1_canJoin_1 rfl (lv_at hl 1 rfl) ?_
  refine vp_callSi (va_Run.run (va_runV (As := [.int i]) (rest := []) ⟨hx, hb, hml, hown, hts⟩ (k_PR_hasPage l D ct h t k g R n f q z i hn hR hq) (cwV 1 hts (gw_V (fun _ h => h) w_148 w_149 w_150 w_27 wcX1_hasPage) rfl rfl rfl hvX1_hasPage ⟨Nat.le_of_ble_eq_true rfl, Nat.le_of_ble_eq_true rfl⟩) (tb_prV hP hK hZ hS [0, 1, 2, 3] rfl (ci := 1) (q0 := 0) rfl rfl) rfl rfl hl.1 rfl (lv_room (Nat.le_of_ble_eq_true rfl)) dX1_canJoin_2 ⟨Nat.zero_le _, Nat.zero_le _⟩)) (fun r_2 hr_2 => ?_)
  obtain rfl : r_2 = bB (decide (tRng i q)) := hr_2
  refine tb_if_eqB (tgt := 42) hx hb dX1_canJoin_5 (by decide) (fun c5 => ?_) (fun c5 => ?_)
  · refine lv_iconst (v := nI 0) hx hb dX1_canJoin_42 (by decide) ?_
    exact W.zret (v := 0) hx hb hr (by decide) (fun t ht hW => ⟨_, rfl, rfl, ht⟩) (fun q h => by cases h) dX1_canJoin_43
  · exact absurd c5 hi

set_option maxHeartbeats 4000000 in
set_option maxRecDepth 100000 in
theorem k_PR_openPage (l : Launch) (D : va_G) (ct : Nat → ClassId) (h : Nat) (t : Nat) (k : Nat) (g : Nat) (R : Nat) (n : Nat) (f : Nat → Nat) (q : Nat) (z : Nat → Nat) (i : Nat) (v : Nat) (sz : Nat) (hn : n ≤ R) (hR : R ≤ 400) (hq : q ≤ R) (hi : i ≤ q) (hlt : q < R) : Met l yX1_openPage wsX1_openPage ({ frames := 1, cells := 0, slots := 0, locals := 36 }) (tb_Pw D ct [.ref h, .int (nI i), .int (nI v)] sz [(h, .inr (1, [.ref t, .ref g, .int (nI q)])), (t, .inr (3, [.ref k, .int (nI n)])), (k, .inl (ct 0, R, .inl (aN f))), (g, .inl (ct 0, R, .inl (aN z)))]) (va_Qv (fun _ => True) (tb_B D (va_A [(h, .inr (1, [.ref t, .ref g, .int (nI q)])), (t, .inr (3, [.ref k, .int (nI n)])), (k, .inl (ct 0, R, .inl (aN f))), (g, .inl (ct 0, R, .inl (aN z)))] sz) [(h, .inr (1, [.ref t, .ref g, .int (nI (q + 1))])), (t, .inr (3, [.ref k, .int (nI n)])), (k, .inl (ct 0, R, .inl (aN f))), (g, .inl (ct 0, R, .inl (aN (tOpen z q i v))))]) (va_A [(h, .inr (1, [.ref t, .ref g, .int (nI q)])), (t, .inr (3, [.ref k, .int (nI n)])), (k, .inl (ct 0, R, .inl (aN f))), (g, .inl (ct 0, R, .inl (aN z)))] sz)) 0 0 (va_A [(h, .inr (1, [.ref t, .ref g, .int (nI q)])), (t, .inr (3, [.ref k, .int (nI n)])), (k, .inl (ct 0, R, .inl (aN f))), (g, .inl (ct 0, R, .inl (aN z)))] sz) := by
  refine Met.ofW (cc := cX1_openPage) (maxL := 3) (ret := none) (by decide) rfl ?_
  intro p e s m args below meth c s₁ B hml hv
  obtain ⟨rfl, hsz, hP, hK, hD0, hZ⟩ := hv
  have hx := B.exec
  have hb := B.bytes
  have hr := B.returns
  have hts0 := atoms_spec (ws := wsX1_openPage) B.pre
  have hts : ∀ w9 ∈ aw, w9.before ([.ref h, .int (nI i), .int (nI v)] : List Value).toArray s = true := fun w9 h9 => hts0 w9 (List.mem_cons_of_mem _ h9)
  have hown : s.vm.findClass RX1 = some m.cls := findClass_of_methodNamed B.named
  have hlocks := B.notSynchronized
  subst hsz
  have hD := hD0.self (sz := s.heap.size)
  generalize hAe : va_A [(h, .inr (1, [.ref t, .ref g, .int (nI q)])), (t, .inr (3, [.ref k, .int (nI n)])), (k, .inl (ct 0, R, .inl (aN f))), (g, .inl (ct 0, R, .inl (aN z)))] s.heap.size = A at hD hZ ⊢
  have hA : ∀ q : Nat, s.heap.size ≤ q → A q := fun q h => by rw [← hAe]; exact Or.inr h
  have hS : va_S A s.heap s.heap [] := va_S.rf
  have hP : va_P D vwCl [(h, .inr (1, [.ref t, .ref g, .int (nI q)])), (t, .inr (3, [.ref k, .int (nI n)])), (k, .inl (ct 0, R, .inl (aN f))), (g, .inl (ct 0, R, .inl (aN z)))] s.heap := hP
  have hl := lv_entry ([.ref h, .int (nI i), .int (nI v)]) (n := 3) (Nat.le_of_ble_eq_true rfl)
  rw [lg_entry_eq]
  generalize (lg_sl ([.ref h, .int (nI i), .int (nI v)]) ++ List.replicate (3 - (lg_sl ([.ref h, .int (nI i), .int (nI v)])).length) Slot.unset).toArray = ls at hl ⊢
  have hl : lv_has ls 3 [(0, .ref h), (1, .int (nI i)), (2, .int (nI v))] := hl
  refine lv_iload_n hx hb dX1_openPage_0 rfl (lv_at hl 1 rfl) ?_
  refine tb_if_lt (tgt := 24) hx hb dX1_openPage_1 (by decide) (by omega) ?_
  refine lv_iload_n hx hb dX1_openPage_4 rfl (lv_at hl 1 rfl) ?_
  refine lv_aload_n hx hb dX1_openPage_5 rfl (lv_at hl 0 rfl) ?_
  refine va_get (D := D) (ci := 1) (v := .int (nI q)) (C := RX1) (T := TX1) (N := 3) hx hb hts inX1 hown hK hP 0 rfl rfl 2 (by decide) (hts _ w_75) (fun _ h9 => h9) rfl dX1_openPage_6 ?_
  refine tb_icmp_gt (tgt := 24) hx hb dX1_openPage_9 (by decide) (by omega) (by omega) (fun c9 => ?_) (fun c9 => ?_)
  · exfalso; omega
  · refine lv_aload_n hx hb dX1_openPage_12 rfl (lv_at hl 0 rfl) ?_
    refine va_get (D := D) (ci := 1) (v := .int (nI q)) (C := RX1) (T := TX1) (N := 3) hx hb hts inX1 hown hK hP 0 rfl rfl 2 (by decide) (hts _ w_75) (fun _ h9 => h9) rfl dX1_openPage_13 ?_
    refine lv_aload_n hx hb dX1_openPage_16 rfl (lv_at hl 0 rfl) ?_
    refine va_get (D := D) (ci := 1) (v := .ref g) (C := RX1) (T := TX1) (N := 3) hx hb hts inX1 hown hK hP 0 rfl rfl 1 (by decide) (hts _ w_74) (fun _ h9 => h9) rfl dX1_openPage_17 ?_
    refine tb_alen hx hb hK hP 3 0 rfl rfl dX1_openPage_20 ?_
    refine tb_icmp_lt (tgt := 25) hx hb dX1_openPage_21 (by decide) (by omega) (by omega) (fun c21 => ?_) (fun c21 => ?_)
    · refine lv_aload_n hx hb dX1_openPage_25 rfl (lv_at hl 0 rfl) ?_
      refine va_get (D := D) (ci := 1) (v := .ref g) (C := RX1) (T := TX1) (N := 3) hx hb hts inX1 hown hK hP 0 rfl rfl 1 (by decide) (hts _ w_74) (fun _ h9 => h9) rfl dX1_openPage_26 ?_
      refine lv_iload_n hx hb dX1_openPage_29 rfl (lv_at hl 1 rfl) ?_
      refine lv_aload_n hx hb dX1_openPage_30 rfl (lv_at hl 0 rfl) ?_
      refine va_get (D := D) (ci := 1) (v := .ref g) (C := RX1) (T := TX1) (N := 3) hx hb hts inX1 hown hK hP 0 rfl rfl 1 (by decide) (hts _ w_74) (fun _ h9 => h9) rfl dX1_openPage_31 ?_
      refine lv_iload_n hx hb dX1_openPage_34 rfl (lv_at hl 1 rfl) ?_
      refine lv_iconst (v := nI 1) hx hb dX1_openPage_35 (by decide) ?_
      refine tb_iadd hx hb dX1_openPage_36 ?_
      refine lv_aload_n hx hb dX1_openPage_37 rfl (lv_at hl 0 rfl) ?_
      refine va_get (D := D) (ci := 1) (v := .int (nI q)) (C := RX1) (T := TX1) (N := 3) hx hb hts inX1 hown hK hP 0 rfl rfl 2 (by decide) (hts _ w_75) (fun _ h9 => h9) rfl dX1_openPage_38 ?_
      refine lv_iload_n hx hb dX1_openPage_41 rfl (lv_at hl 1 rfl) ?_
      refine tb_isub hx hb dX1_openPage_42 (by omega) ?_
      refine tb_copy hx hb (by rw [hml]; exact hl.1.symm) hown (hts _ w_138) (hts _ w_140) (hts _ w_139) (hts _ w_31) hK hP hD hS 3 0 rfl rfl (by omega) (by omega) (by omega) (Nat.le_of_ble_eq_true rfl) (Nat.le_of_ble_eq_true rfl) dX1_openPage_43 (fun H locs hP hD hS => ?_)
      have hP : va_P D vwCl [(h, .inr (1, [.ref t, .ref g, .int (nI q)])), (t, .inr (3, [.ref k, .int (nI n)])), (k, .inl (ct 0, R, .inl (aN f))), (g, .inl (ct 0, R, .inl (aN (va_cpy z z i (i + 1) (q - i)))))] H := hP
      have hD : va_D A [(h, .inr (1, [.ref t, .ref g, .int (nI q)])), (t, .inr (3, [.ref k, .int (nI n)])), (k, .inl (ct 0, R, .inl (aN f))), (g, .inl (ct 0, R, .inl (aN (va_cpy z z i (i + 1) (q - i)))))] := hD
      refine lv_aload_n hx hb dX1_openPage_46 rfl (lv_at hl 0 rfl) ?_
      refine va_get (D := D) (ci := 1) (v := .ref g) (C := RX1) (T := TX1) (N := 3) hx hb hts inX1 hown hK hP 0 rfl rfl 1 (by decide) (hts _ w_74) (fun _ h9 => h9) rfl dX1_openPage_47 ?_
      refine lv_iload_n hx hb dX1_openPage_50 rfl (lv_at hl 1 rfl) ?_
      refine lv_iload_n hx hb dX1_openPage_51 rfl (lv_at hl 2 rfl) ?_
      refine tb_iast hx hb hK hP hD hS 3 0 rfl rfl (by omega) (by omega) dX1_openPage_52 (fun H locs hP hD hS => ?_)
      have hP : va_P D vwCl [(h, .inr (1, [.ref t, .ref g, .int (nI q)])), (t, .inr (3, [.ref k, .int (nI n)])), (k, .inl (ct 0, R, .inl (aN f))), (g, .inl (ct 0, R, .inl (aN (va_up (va_cpy z z i (i + 1) (q - i)) i v))))] H := hP
      have hD : va_D A [(h, .inr (1, [.ref t, .ref g, .int (nI q)])), (t, .inr (3, [.ref k, .int (nI n)])), (k, .inl (ct 0, R, .inl (aN f))), (g, .inl (ct 0, R, .inl (aN (va_up (va_cpy z z i (i + 1) (q - i)) i v))))] := hD
      refine lv_aload_n hx hb dX1_openPage_53 rfl (lv_at hl 0 rfl) ?_
      refine lv_dup hx hb dX1_openPage_54 rfl ?_
      refine va_get (D := D) (ci := 1) (v := .int (nI q)) (C := RX1) (T := TX1) (N := 3) hx hb hts inX1 hown hK hP 0 rfl rfl 2 (by decide) (hts _ w_75) (fun _ h9 => h9) rfl dX1_openPage_55 ?_
      refine lv_iconst (v := nI 1) hx hb dX1_openPage_58 (by decide) ?_
      refine tb_iadd hx hb dX1_openPage_59 ?_
      refine va_put (D := D) (ci := 1) (v := .int (nI (q + 1))) (ty := .int) (C := RX1) (T := TX1) (N := 3) hx hb hts inX1 tyX1 tyX1_ok nmX1 hown hK hP hD hS 0 rfl rfl 2 (by decide) (hts _ w_75) (fun _ h9 => h9) rfl (by decide +kernel) rfl rfl (Nat.le_of_ble_eq_true rfl) dX1_openPage_60 (fun H locs hP hD hS => ?_)
      have hP : va_P D vwCl [(h, .inr (1, [.ref t, .ref g, .int (nI (q + 1))])), (t, .inr (3, [.ref k, .int (nI n)])), (k, .inl (ct 0, R, .inl (aN f))), (g, .inl (ct 0, R, .inl (aN (va_up (va_cpy z z i (i + 1) (q - i)) i v))))] H := hP
      have hD : va_D A [(h, .inr (1, [.ref t, .ref g, .int (nI (q + 1))])), (t, .inr (3, [.ref k, .int (nI n)])), (k, .inl (ct 0, R, .inl (aN f))), (g, .inl (ct 0, R, .inl (aN (va_up (va_cpy z z i (i + 1) (q - i)) i v))))] := hD
      have hP9 : va_P D vwCl [(h, .inr (1, [.ref t, .ref g, .int (nI (q + 1))])), (t, .inr (3, [.ref k, .int (nI n)])), (k, .inl (ct 0, R, .inl (aN f))), (g, .inl (ct 0, R, .inl (aN (va_up (va_cpy z z i (i + 1) (q - i)) i v))))] _ := hP.sub [0, 1, 2, 3] rfl
      have hD9 : va_D A [(h, .inr (1, [.ref t, .ref g, .int (nI (q + 1))])), (t, .inr (3, [.ref k, .int (nI n)])), (k, .inl (ct 0, R, .inl (aN f))), (g, .inl (ct 0, R, .inl (aN (va_up (va_cpy z z i (i + 1) (q - i)) i v))))] := hD.sub [0, 1, 2, 3] (by decide) rfl
      exact W.vret hx hb hr (fun t ht hW => ⟨⟨(), rfl, trivial, by rw [ht]; exact hP9, hD9⟩, hS.F ht⟩) hS.2.2 dX1_openPage_63
    · exfalso; omega

set_option maxHeartbeats 4000000 in
set_option maxRecDepth 100000 in
theorem k_PR_dropPage (l : Launch) (D : va_G) (ct : Nat → ClassId) (h : Nat) (t : Nat) (k : Nat) (g : Nat) (R : Nat) (n : Nat) (f : Nat → Nat) (q : Nat) (z : Nat → Nat) (i : Nat) (sz : Nat) (hn : n ≤ R) (hR : R ≤ 400) (hq : q ≤ R) (hi : i < q) : Met l yX1_dropPage wsX1_dropPage ({ frames := 1, cells := 0, slots := 0, locals := 36 }) (tb_Pw D ct [.ref h, .int (nI i)] sz [(h, .inr (1, [.ref t, .ref g, .int (nI q)])), (t, .inr (3, [.ref k, .int (nI n)])), (k, .inl (ct 0, R, .inl (aN f))), (g, .inl (ct 0, R, .inl (aN z)))]) (va_Qv (fun _ => True) (tb_B D (va_A [(h, .inr (1, [.ref t, .ref g, .int (nI q)])), (t, .inr (3, [.ref k, .int (nI n)])), (k, .inl (ct 0, R, .inl (aN f))), (g, .inl (ct 0, R, .inl (aN z)))] sz) [(h, .inr (1, [.ref t, .ref g, .int (nI (q - 1))])), (t, .inr (3, [.ref k, .int (nI n)])), (k, .inl (ct 0, R, .inl (aN f))), (g, .inl (ct 0, R, .inl (aN (tDrop z q i))))]) (va_A [(h, .inr (1, [.ref t, .ref g, .int (nI q)])), (t, .inr (3, [.ref k, .int (nI n)])), (k, .inl (ct 0, R, .inl (aN f))), (g, .inl (ct 0, R, .inl (aN z)))] sz)) 0 0 (va_A [(h, .inr (1, [.ref t, .ref g, .int (nI q)])), (t, .inr (3, [.ref k, .int (nI n)])), (k, .inl (ct 0, R, .inl (aN f))), (g, .inl (ct 0, R, .inl (aN z)))] sz) := by
  refine Met.ofW (cc := cX1_dropPage) (maxL := 2) (ret := none) (by decide) rfl ?_
  intro p e s m args below meth c s₁ B hml hv
  obtain ⟨rfl, hsz, hP, hK, hD0, hZ⟩ := hv
  have hx := B.exec
  have hb := B.bytes
  have hr := B.returns
  have hts0 := atoms_spec (ws := wsX1_dropPage) B.pre
  have hts : ∀ w9 ∈ aw, w9.before ([.ref h, .int (nI i)] : List Value).toArray s = true := fun w9 h9 => hts0 w9 (List.mem_cons_of_mem _ h9)
  have hown : s.vm.findClass RX1 = some m.cls := findClass_of_methodNamed B.named
  have hlocks := B.notSynchronized
  subst hsz
  have hD := hD0.self (sz := s.heap.size)
  generalize hAe : va_A [(h, .inr (1, [.ref t, .ref g, .int (nI q)])), (t, .inr (3, [.ref k, .int (nI n)])), (k, .inl (ct 0, R, .inl (aN f))), (g, .inl (ct 0, R, .inl (aN z)))] s.heap.size = A at hD hZ ⊢
  have hA : ∀ q : Nat, s.heap.size ≤ q → A q := fun q h => by rw [← hAe]; exact Or.inr h
  have hS : va_S A s.heap s.heap [] := va_S.rf
  have hP : va_P D vwCl [(h, .inr (1, [.ref t, .ref g, .int (nI q)])), (t, .inr (3, [.ref k, .int (nI n)])), (k, .inl (ct 0, R, .inl (aN f))), (g, .inl (ct 0, R, .inl (aN z)))] s.heap := hP
  have hl := lv_entry ([.ref h, .int (nI i)]) (n := 2) (Nat.le_of_ble_eq_true rfl)
  rw [lg_entry_eq]
  generalize (lg_sl ([.ref h, .int (nI i)]) ++ List.replicate (2 - (lg_sl ([.ref h, .int (nI i)])).length) Slot.unset).toArray = ls at hl ⊢
  have hl : lv_has ls 2 [(0, .ref h), (1, .int (nI i))] := hl
  refine lv_aload_n hx hb dX1_dropPage_0 rfl (lv_at hl 0 rfl) ?_
  refine lv_iload_n hx hb dX1_dropPage_1 rfl (lv_at hl 1 rfl) ?_
  refine vp_callSi (va_Run.run (va_runV (As := [.int (nI i)]) (rest := []) ⟨hx, hb, hml, hown, hts⟩ (k_PR_hasPage l D ct h t k g R n f q z (nI i) hn hR hq) (cwV 1 hts (gw_V (fun _ h => h) w_148 w_149 w_150 w_27 wcX1_hasPage) rfl rfl rfl hvX1_hasPage ⟨Nat.le_of_ble_eq_true rfl, Nat.le_of_ble_eq_true rfl⟩) (tb_prV hP hK hZ hS [0, 1, 2, 3] rfl (ci := 1) (q0 := 0) rfl rfl) rfl rfl hl.1 rfl (lv_room (Nat.le_of_ble_eq_true rfl)) dX1_dropPage_2 ⟨Nat.zero_le _, Nat.zero_le _⟩)) (fun r_2 hr_2 => ?_)
  obtain rfl : r_2 = bB (decide (tRng (nI i) q)) := hr_2
  refine tb_if_neB (tgt := 9) hx hb dX1_dropPage_5 (by decide) (fun c5 => ?_) (fun c5 => ?_)
  · refine lv_aload_n hx hb dX1_dropPage_9 rfl (lv_at hl 0 rfl) ?_
    refine va_get (D := D) (ci := 1) (v := .ref g) (C := RX1) (T := TX1) (N := 3) hx hb hts inX1 hown hK hP 0 rfl rfl 1 (by decide) (hts _ w_74) (fun _ h9 => h9) rfl dX1_dropPage_10 ?_
    refine lv_iload_n hx hb dX1_dropPage_13 rfl (lv_at hl 1 rfl) ?_
    refine lv_iconst (v := nI 1) hx hb dX1_dropPage_14 (by decide) ?_
    refine tb_iadd hx hb dX1_dropPage_15 ?_
    refine lv_aload_n hx hb dX1_dropPage_16 rfl (lv_at hl 0 rfl) ?_
    refine va_get (D := D) (ci := 1) (v := .ref g) (C := RX1) (T := TX1) (N := 3) hx hb hts inX1 hown hK hP 0 rfl rfl 1 (by decide) (hts _ w_74) (fun _ h9 => h9) rfl dX1_dropPage_17 ?_
    refine lv_iload_n hx hb dX1_dropPage_20 rfl (lv_at hl 1 rfl) ?_
    refine lv_aload_n hx hb dX1_dropPage_21 rfl (lv_at hl 0 rfl) ?_
    refine va_get (D := D) (ci := 1) (v := .int (nI q)) (C := RX1) (T := TX1) (N := 3) hx hb hts inX1 hown hK hP 0 rfl rfl 2 (by decide) (hts _ w_75) (fun _ h9 => h9) rfl dX1_dropPage_22 ?_
    refine lv_iload_n hx hb dX1_dropPage_25 rfl (lv_at hl 1 rfl) ?_
    refine tb_isub hx hb dX1_dropPage_26 (by omega) ?_
    refine lv_iconst (v := nI 1) hx hb dX1_dropPage_27 (by decide) ?_
    refine tb_isub hx hb dX1_dropPage_28 (by omega) ?_
    refine tb_copy hx hb (by rw [hml]; exact hl.1.symm) hown (hts _ w_138) (hts _ w_140) (hts _ w_139) (hts _ w_31) hK hP hD hS 3 0 rfl rfl (by omega) (by omega) (by omega) (Nat.le_of_ble_eq_true rfl) (Nat.le_of_ble_eq_true rfl) dX1_dropPage_29 (fun H locs hP hD hS => ?_)
    have hP : va_P D vwCl [(h, .inr (1, [.ref t, .ref g, .int (nI q)])), (t, .inr (3, [.ref k, .int (nI n)])), (k, .inl (ct 0, R, .inl (aN f))), (g, .inl (ct 0, R, .inl (aN (va_cpy z z (i + 1) i ((q - i) - 1)))))] H := hP
    have hD : va_D A [(h, .inr (1, [.ref t, .ref g, .int (nI q)])), (t, .inr (3, [.ref k, .int (nI n)])), (k, .inl (ct 0, R, .inl (aN f))), (g, .inl (ct 0, R, .inl (aN (va_cpy z z (i + 1) i ((q - i) - 1)))))] := hD
    refine lv_aload_n hx hb dX1_dropPage_32 rfl (lv_at hl 0 rfl) ?_
    refine lv_dup hx hb dX1_dropPage_33 rfl ?_
    refine va_get (D := D) (ci := 1) (v := .int (nI q)) (C := RX1) (T := TX1) (N := 3) hx hb hts inX1 hown hK hP 0 rfl rfl 2 (by decide) (hts _ w_75) (fun _ h9 => h9) rfl dX1_dropPage_34 ?_
    refine lv_iconst (v := nI 1) hx hb dX1_dropPage_37 (by decide) ?_
    refine tb_isub hx hb dX1_dropPage_38 (by omega) ?_
    refine va_put (D := D) (ci := 1) (v := .int (nI (q - 1))) (ty := .int) (C := RX1) (T := TX1) (N := 3) hx hb hts inX1 tyX1 tyX1_ok nmX1 hown hK hP hD hS 0 rfl rfl 2 (by decide) (hts _ w_75) (fun _ h9 => h9) rfl (by decide +kernel) rfl rfl (Nat.le_of_ble_eq_true rfl) dX1_dropPage_39 (fun H locs hP hD hS => ?_)
    have hP : va_P D vwCl [(h, .inr (1, [.ref t, .ref g, .int (nI (q - 1))])), (t, .inr (3, [.ref k, .int (nI n)])), (k, .inl (ct 0, R, .inl (aN f))), (g, .inl (ct 0, R, .inl (aN (va_cpy z z (i + 1) i ((q - i) - 1)))))] H := hP
    have hD : va_D A [(h, .inr (1, [.ref t, .ref g, .int (nI (q - 1))])), (t, .inr (3, [.ref k, .int (nI n)])), (k, .inl (ct 0, R, .inl (aN f))), (g, .inl (ct 0, R, .inl (aN (va_cpy z z (i + 1) i ((q - i) - 1)))))] := hD
    have hP9 : va_P D vwCl [(h, .inr (1, [.ref t, .ref g, .int (nI (q - 1))])), (t, .inr (3, [.ref k, .int (nI n)])), (k, .inl (ct 0, R, .inl (aN f))), (g, .inl (ct 0, R, .inl (aN (va_cpy z z (i + 1) i ((q - i) - 1)))))] _ := hP.sub [0, 1, 2, 3] rfl
    have hD9 : va_D A [(h, .inr (1, [.ref t, .ref g, .int (nI (q - 1))])), (t, .inr (3, [.ref k, .int (nI n)])), (k, .inl (ct 0, R, .inl (aN f))), (g, .inl (ct 0, R, .inl (aN (va_cpy z z (i + 1) i ((q - i) - 1)))))] := hD.sub [0, 1, 2, 3] (by decide) rfl
    exact W.vret hx hb hr (fun t ht hW => ⟨⟨(), rfl, trivial, by rw [ht]; exact hP9, hD9⟩, hS.F ht⟩) hS.2.2 dX1_dropPage_42
  · exact absurd (tRng_nI hi (by omega)) c5

set_option maxHeartbeats 4000000 in
set_option maxRecDepth 100000 in
theorem k_PR_joinWithNext (l : Launch) (D : va_G) (ct : Nat → ClassId) (h : Nat) (t : Nat) (k : Nat) (g : Nat) (R : Nat) (n : Nat) (f : Nat → Nat) (q : Nat) (z : Nat → Nat) (i : Nat) (sz : Nat) (hn : n ≤ R) (hR : R ≤ 400) (hq : q ≤ R) (hi : i + 1 < q) : Met l yX1_joinWithNext wsX1_joinWithNext ({ frames := 2, cells := 0, slots := 0, locals := 57 }) (tb_Pw D ct [.ref h, .int (nI i)] sz [(h, .inr (1, [.ref t, .ref g, .int (nI q)])), (t, .inr (3, [.ref k, .int (nI n)])), (k, .inl (ct 0, R, .inl (aN f))), (g, .inl (ct 0, R, .inl (aN z)))]) (va_Qv (fun _ => True) (tb_B D (va_A [(h, .inr (1, [.ref t, .ref g, .int (nI q)])), (t, .inr (3, [.ref k, .int (nI n)])), (k, .inl (ct 0, R, .inl (aN f))), (g, .inl (ct 0, R, .inl (aN z)))] sz) [(h, .inr (1, [.ref t, .ref g, .int (nI (q - 1))])), (t, .inr (3, [.ref k, .int (nI n)])), (k, .inl (ct 0, R, .inl (aN f))), (g, .inl (ct 0, R, .inl (aN (tJoin z q i))))]) (va_A [(h, .inr (1, [.ref t, .ref g, .int (nI q)])), (t, .inr (3, [.ref k, .int (nI n)])), (k, .inl (ct 0, R, .inl (aN f))), (g, .inl (ct 0, R, .inl (aN z)))] sz)) 0 0 (va_A [(h, .inr (1, [.ref t, .ref g, .int (nI q)])), (t, .inr (3, [.ref k, .int (nI n)])), (k, .inl (ct 0, R, .inl (aN f))), (g, .inl (ct 0, R, .inl (aN z)))] sz) := by
  refine Met.ofW (cc := cX1_joinWithNext) (maxL := 2) (ret := none) (by decide) rfl ?_
  intro p e s m args below meth c s₁ B hml hv
  obtain ⟨rfl, hsz, hP, hK, hD0, hZ⟩ := hv
  have hx := B.exec
  have hb := B.bytes
  have hr := B.returns
  have hts0 := atoms_spec (ws := wsX1_joinWithNext) B.pre
  have hts : ∀ w9 ∈ aw, w9.before ([.ref h, .int (nI i)] : List Value).toArray s = true := fun w9 h9 => hts0 w9 (List.mem_cons_of_mem _ h9)
  have hown : s.vm.findClass RX1 = some m.cls := findClass_of_methodNamed B.named
  have hlocks := B.notSynchronized
  subst hsz
  have hD := hD0.self (sz := s.heap.size)
  generalize hAe : va_A [(h, .inr (1, [.ref t, .ref g, .int (nI q)])), (t, .inr (3, [.ref k, .int (nI n)])), (k, .inl (ct 0, R, .inl (aN f))), (g, .inl (ct 0, R, .inl (aN z)))] s.heap.size = A at hD hZ ⊢
  have hA : ∀ q : Nat, s.heap.size ≤ q → A q := fun q h => by rw [← hAe]; exact Or.inr h
  have hS : va_S A s.heap s.heap [] := va_S.rf
  have hP : va_P D vwCl [(h, .inr (1, [.ref t, .ref g, .int (nI q)])), (t, .inr (3, [.ref k, .int (nI n)])), (k, .inl (ct 0, R, .inl (aN f))), (g, .inl (ct 0, R, .inl (aN z)))] s.heap := hP
  have hl := lv_entry ([.ref h, .int (nI i)]) (n := 2) (Nat.le_of_ble_eq_true rfl)
  rw [lg_entry_eq]
  generalize (lg_sl ([.ref h, .int (nI i)]) ++ List.replicate (2 - (lg_sl ([.ref h, .int (nI i)])).length) Slot.unset).toArray = ls at hl ⊢
  have hl : lv_has ls 2 [(0, .ref h), (1, .int (nI i))] := hl
  refine lv_aload_n hx hb dX1_joinWithNext_0 rfl (lv_at hl 0 rfl) ?_
  refine va_get (D := D) (ci := 1) (v := .ref g) (C := RX1) (T := TX1) (N := 3) hx hb hts inX1 hown hK hP 0 rfl rfl 1 (by decide) (hts _ w_74) (fun _ h9 => h9) rfl dX1_joinWithNext_1 ?_
  refine lv_iload_n hx hb dX1_joinWithNext_4 rfl (lv_at hl 1 rfl) ?_
  refine lv_dup2_11 hx hb dX1_joinWithNext_5 rfl rfl ?_
  refine tb_iald (v := z i) hx hb hK hP 3 0 rfl rfl (by omega) (by omega) rfl dX1_joinWithNext_6 ?_
  refine lv_aload_n hx hb dX1_joinWithNext_7 rfl (lv_at hl 0 rfl) ?_
  refine va_get (D := D) (ci := 1) (v := .ref g) (C := RX1) (T := TX1) (N := 3) hx hb hts inX1 hown hK hP 0 rfl rfl 1 (by decide) (hts _ w_74) (fun _ h9 => h9) rfl dX1_joinWithNext_8 ?_
  refine lv_iload_n hx hb dX1_joinWithNext_11 rfl (lv_at hl 1 rfl) ?_
  refine lv_iconst (v := nI 1) hx hb dX1_joinWithNext_12 (by decide) ?_
  refine tb_iadd hx hb dX1_joinWithNext_13 ?_
  refine tb_iald (v := z (i + 1)) hx hb hK hP 3 0 rfl rfl (by omega) (by omega) rfl dX1_joinWithNext_14 ?_
  refine tb_iadd hx hb dX1_joinWithNext_15 ?_
  refine tb_iast hx hb hK hP hD hS 3 0 rfl rfl (by omega) (by omega) dX1_joinWithNext_16 (fun H locs hP hD hS => ?_)
  have hP : va_P D vwCl [(h, .inr (1, [.ref t, .ref g, .int (nI q)])), (t, .inr (3, [.ref k, .int (nI n)])), (k, .inl (ct 0, R, .inl (aN f))), (g, .inl (ct 0, R, .inl (aN (va_up z i ((z i) + (z (i + 1)))))))] H := hP
  have hD : va_D A [(h, .inr (1, [.ref t, .ref g, .int (nI q)])), (t, .inr (3, [.ref k, .int (nI n)])), (k, .inl (ct 0, R, .inl (aN f))), (g, .inl (ct 0, R, .inl (aN (va_up z i ((z i) + (z (i + 1)))))))] := hD
  refine lv_aload_n hx hb dX1_joinWithNext_17 rfl (lv_at hl 0 rfl) ?_
  refine lv_iload_n hx hb dX1_joinWithNext_18 rfl (lv_at hl 1 rfl) ?_
  refine lv_iconst (v := nI 1) hx hb dX1_joinWithNext_19 (by decide) ?_
  refine tb_iadd hx hb dX1_joinWithNext_20 ?_
  refine tb_callv (wr := []) hP hD hS hA [0, 1, 2, 3] [] rfl rfl (by decide) (by decide) (va_runV (As := [.int (nI (i + 1))]) (rest := []) ⟨hx, hb, hml, hown, hts⟩ (k_PR_dropPage l D ct h t k g R n f q (va_up z i ((z i) + (z (i + 1)))) (i + 1) _ hn hR hq hi) (cwV 1 hts (gw_V (fun _ h => h) w_166 w_167 w_16 w_27 wcX1_dropPage) rfl rfl rfl hvX1_dropPage ⟨Nat.le_of_ble_eq_true rfl, Nat.le_of_ble_eq_true rfl⟩) (tb_pwV hP hD hK hZ hS hA [0, 1, 2, 3] (by decide) rfl (ci := 1) (q0 := 0) rfl rfl) rfl rfl hl.1 rfl (lv_room (Nat.le_of_ble_eq_true rfl)) dX1_joinWithNext_21 ⟨Nat.zero_le _, Nat.zero_le _⟩) (fun H locs hP hD hS => ?_)
  have hP : va_P D vwCl [(h, .inr (1, [.ref t, .ref g, .int (nI (q - 1))])), (t, .inr (3, [.ref k, .int (nI n)])), (k, .inl (ct 0, R, .inl (aN f))), (g, .inl (ct 0, R, .inl (aN (tDrop (va_up z i ((z i) + (z (i + 1)))) q (i + 1)))))] H := hP
  have hD : va_D A [(h, .inr (1, [.ref t, .ref g, .int (nI (q - 1))])), (t, .inr (3, [.ref k, .int (nI n)])), (k, .inl (ct 0, R, .inl (aN f))), (g, .inl (ct 0, R, .inl (aN (tDrop (va_up z i ((z i) + (z (i + 1)))) q (i + 1)))))] := hD
  have hP9 : va_P D vwCl [(h, .inr (1, [.ref t, .ref g, .int (nI (q - 1))])), (t, .inr (3, [.ref k, .int (nI n)])), (k, .inl (ct 0, R, .inl (aN f))), (g, .inl (ct 0, R, .inl (aN (tDrop (va_up z i ((z i) + (z (i + 1)))) q (i + 1)))))] _ := hP.sub [0, 1, 2, 3] rfl
  have hD9 : va_D A [(h, .inr (1, [.ref t, .ref g, .int (nI (q - 1))])), (t, .inr (3, [.ref k, .int (nI n)])), (k, .inl (ct 0, R, .inl (aN f))), (g, .inl (ct 0, R, .inl (aN (tDrop (va_up z i ((z i) + (z (i + 1)))) q (i + 1)))))] := hD.sub [0, 1, 2, 3] (by decide) rfl
  exact W.vret hx hb hr (fun t ht hW => ⟨⟨(), rfl, trivial, by rw [ht]; exact hP9, hD9⟩, hS.F ht⟩) hS.2.2 dX1_joinWithNext_24
