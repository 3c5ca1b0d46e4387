set_option maxHeartbeats 4000000 in
set_option maxRecDepth 100000 in
theorem m_lead_m2 (l : Launch) (D : va_G) (ct : Nat → ClassId) (md : Nat) (R : Nat) (n : Nat) (cu : Option Nat) (nt : Nat) (cH : Nat) (oH : Nat) (fH : Nat) (lc : Nat) (fc : Nat) (my : Nat) (mt : Nat) (mv : Nat) (mc : Nat) (mk : Nat) (ms : Nat) (mp : Nat) (mi : Nat) (mlo : Nat) (mla : Nat) (mlb : Nat) (mf : Nat) (mst : Nat) (mr : Nat) (mh : Nat) (x : Int32) (y : Int32) (u : Int32) (sz : Nat) (hbad : ¬ (tRng x 6 ∧ (y = -1 ∨ tRng y 1000) ∧ (u = -1 ∨ tRng u 1000))) : Met l yX5_lead wsX5_lead ({ frames := 1, cells := 0, slots := 0, locals := 20 }) (tb_Pw D ct [.ref md, .int x, .int y, .int u] sz [(md, .inr (5, [.int (nI 0), .int (nI R), .int (nI n), .ref mt, .ref mv, .ref mc, .int (oI cu), .int (nI nt), .ref mk, .ref ms, .ref mp, .int (nI cH), .int (nI oH), .int (nI fH), .ref mi, .int (nI lc), .ref mlo, .ref mla, .ref mlb, .int (nI fc), .ref mf, .ref mst, .int (nI my), .ref mr, .ref mh]))]) (va_Qi (fun r _ => r = (-2)) (tb_B D (va_A [(md, .inr (5, [.int (nI 0), .int (nI R), .int (nI n), .ref mt, .ref mv, .ref mc, .int (oI cu), .int (nI nt), .ref mk, .ref ms, .ref mp, .int (nI cH), .int (nI oH), .int (nI fH), .ref mi, .int (nI lc), .ref mlo, .ref mla, .ref mlb, .int (nI fc), .ref mf, .ref mst, .int (nI my), .ref mr, .ref mh]))] sz) [(md, .inr (5, [.int (nI 0), .int (nI R), .int (nI n), .ref mt, .ref mv, .ref mc, .int (oI cu), .int (nI nt), .ref mk, .ref ms, .ref mp, .int (nI cH), .int (nI oH), .int (nI fH), .ref mi, .int (nI lc), .ref mlo, .ref mla, .ref mlb, .int (nI fc), .ref mf, .ref mst, .int (nI my), .ref mr, .ref mh]))]) (va_A [(md, .inr (5, [.int (nI 0), .int (nI R), .int (nI n), .ref mt, .ref mv, .ref mc, .int (oI cu), .int (nI nt), .ref mk, .ref ms, .ref mp, .int (nI cH), .int (nI oH), .int (nI fH), .ref mi, .int (nI lc), .ref mlo, .ref mla, .ref mlb, .int (nI fc), .ref mf, .ref mst, .int (nI my), .ref mr, .ref mh]))] sz)) 0 0 (va_A [(md, .inr (5, [.int (nI 0), .int (nI R), .int (nI n), .ref mt, .ref mv, .ref mc, .int (oI cu), .int (nI nt), .ref mk, .ref ms, .ref mp, .int (nI cH), .int (nI oH), .int (nI fH), .ref mi, .int (nI lc), .ref mlo, .ref mla, .ref mlb, .int (nI fc), .ref mf, .ref mst, .int (nI my), .ref mr, .ref mh]))] sz) := by
  refine Met.ofW (cc := cX5_lead) (maxL := 4) (ret := (some .int)) (by decide) rfl ?_
  intro p e s m args below meth c s₁ B hml hv
  obtain ⟨rfl, hsz, hP, hK, hD0, hZ⟩ := hv
  have hx := B.exec
  have hb := B.bytes
  have hr := B.returns
  have hts0 := atoms_spec (ws := wsX5_lead) B.pre
  have hts : ∀ w9 ∈ aw, w9.before ([.ref md, .int x, .int y, .int u] : List Value).toArray s = true := fun w9 h9 => hts0 w9 (List.mem_cons_of_mem _ h9)
  have hown : s.vm.findClass RX5 = some m.cls := findClass_of_methodNamed B.named
  have hlocks := B.notSynchronized
  subst hsz
  have hD := hD0.self (sz := s.heap.size)
  generalize hAe : va_A [(md, .inr (5, [.int (nI 0), .int (nI R), .int (nI n), .ref mt, .ref mv, .ref mc, .int (oI cu), .int (nI nt), .ref mk, .ref ms, .ref mp, .int (nI cH), .int (nI oH), .int (nI fH), .ref mi, .int (nI lc), .ref mlo, .ref mla, .ref mlb, .int (nI fc), .ref mf, .ref mst, .int (nI my), .ref mr, .ref mh]))] s.heap.size = A at hD hZ ⊢
  have hA : ∀ q : Nat, s.heap.size ≤ q → A q := fun q h => by rw [← hAe]; exact Or.inr h
  have hS : va_S A s.heap s.heap [] := va_S.rf
  have hP : va_P D vwCl [(md, .inr (5, [.int (nI 0), .int (nI R), .int (nI n), .ref mt, .ref mv, .ref mc, .int (oI cu), .int (nI nt), .ref mk, .ref ms, .ref mp, .int (nI cH), .int (nI oH), .int (nI fH), .ref mi, .int (nI lc), .ref mlo, .ref mla, .ref mlb, .int (nI fc), .ref mf, .ref mst, .int (nI my), .ref mr, .ref mh]))] s.heap := hP
  have hl := lv_entry ([.ref md, .int x, .int y, .int u]) (n := 4) (Nat.le_of_ble_eq_true rfl)
  rw [lg_entry_eq]
  generalize (lg_sl ([.ref md, .int x, .int y, .int u]) ++ List.replicate (4 - (lg_sl ([.ref md, .int x, .int y, .int u])).length) Slot.unset).toArray = ls at hl ⊢
  have hl : lv_has ls 4 [(0, .ref md), (1, .int x), (2, .int y), (3, .int u)] := hl
  refine lv_aload_n hx hb dX5_lead_0 rfl (lv_at hl 0 rfl) ?_
  refine lv_iconst (v := nI 0) hx hb dX5_lead_1 (by decide) ?_
  refine va_put (D := D) (ci := 5) (v := .int (nI 0)) (ty := .int) (C := RX5) (T := TX5) (N := 25) hx hb hts inX5 tyX5 tyX5_ok nmX5 hown hK hP hD hS 0 rfl rfl 0 (by decide) (hts _ w_298) (fun _ h9 => h9) rfl (by decide +kernel) rfl rfl (Nat.le_of_ble_eq_true rfl) dX5_lead_2 (fun H locs hP hD hS => ?_)
  have hP : va_P D vwCl [(md, .inr (5, [.int (nI 0), .int (nI R), .int (nI n), .ref mt, .ref mv, .ref mc, .int (oI cu), .int (nI nt), .ref mk, .ref ms, .ref mp, .int (nI cH), .int (nI oH), .int (nI fH), .ref mi, .int (nI lc), .ref mlo, .ref mla, .ref mlb, .int (nI fc), .ref mf, .ref mst, .int (nI my), .ref mr, .ref mh]))] H := hP
  have hD : va_D A [(md, .inr (5, [.int (nI 0), .int (nI R), .int (nI n), .ref mt, .ref mv, .ref mc, .int (oI cu), .int (nI nt), .ref mk, .ref ms, .ref mp, .int (nI cH), .int (nI oH), .int (nI fH), .ref mi, .int (nI lc), .ref mlo, .ref mla, .ref mlb, .int (nI fc), .ref mf, .ref mst, .int (nI my), .ref mr, .ref mh]))] := hD
  refine lv_iload_n hx hb dX5_lead_5 rfl (lv_at hl 1 rfl) ?_
  refine vp_callSi (va_Run.run (va_runS (As := [.int x]) (rest := []) ⟨hx, hb, hml, hown, hts⟩ (m_isOrder l D ct x ) (va_cwS 1 hts (gw_S (fun _ h => h) w_361 w_362 w_30 wcX5_isOrder) rfl rfl rfl hvX5_isOrder.2 ⟨Nat.le_of_ble_eq_true rfl, Nat.le_of_ble_eq_true rfl⟩) (tb_prS hP hK hZ hS [] rfl) rfl rfl hl.1 rfl (lv_room (Nat.le_of_ble_eq_true rfl)) dX5_lead_6 ⟨Nat.zero_le _, Nat.zero_le _⟩)) (fun r_6 hr_6 => ?_)
  obtain rfl : r_6 = bB (decide (tRng x 6)) := hr_6
  refine tb_if_eqB (tgt := 26) hx hb dX5_lead_9 (by decide) (fun c9 => ?_) (fun c9 => ?_)
  · refine lv_bipush (v := (-2)) hx hb dX5_lead_26 (by decide) ?_
    have hP9 : va_P D vwCl [(md, .inr (5, [.int (nI 0), .int (nI R), .int (nI n), .ref mt, .ref mv, .ref mc, .int (oI cu), .int (nI nt), .ref mk, .ref ms, .ref mp, .int (nI cH), .int (nI oH), .int (nI fH), .ref mi, .int (nI lc), .ref mlo, .ref mla, .ref mlb, .int (nI fc), .ref mf, .ref mst, .int (nI my), .ref mr, .ref mh]))] _ := hP.sub [0] rfl
    have hD9 : va_D A [(md, .inr (5, [.int (nI 0), .int (nI R), .int (nI n), .ref mt, .ref mv, .ref mc, .int (oI cu), .int (nI nt), .ref mk, .ref ms, .ref mp, .int (nI cH), .int (nI oH), .int (nI fH), .ref mi, .int (nI lc), .ref mlo, .ref mla, .ref mlb, .int (nI fc), .ref mf, .ref mst, .int (nI my), .ref mr, .ref mh]))] := hD.sub [0] (by decide) rfl
    exact W.iret (v := (-2)) hx hb hr (fun t ht hW => ⟨⟨_, (), rfl, rfl, by rw [ht]; exact hP9, hD9⟩, hS.F ht⟩) hS.2.2 dX5_lead_28
  · refine lv_iload_n hx hb dX5_lead_12 rfl (lv_at hl 2 rfl) ?_
    refine vp_callSi (va_Run.run (va_runS (As := [.int y]) (rest := []) ⟨hx, hb, hml, hown, hts⟩ (m_isAny l D ct y ) (va_cwS 1 hts (gw_S (fun _ h => h) w_363 w_364 w_30 wcX5_isAny) rfl rfl rfl hvX5_isAny.2 ⟨Nat.le_of_ble_eq_true rfl, Nat.le_of_ble_eq_true rfl⟩) (tb_prS hP hK hZ hS [] rfl) rfl rfl hl.1 rfl (lv_room (Nat.le_of_ble_eq_true rfl)) dX5_lead_13 ⟨Nat.zero_le _, Nat.zero_le _⟩)) (fun r_13 hr_13 => ?_)
    obtain rfl : r_13 = bB (decide (y = -1 ∨ tRng y 1000)) := hr_13
    refine tb_if_eqB (tgt := 26) hx hb dX5_lead_16 (by decide) (fun c16 => ?_) (fun c16 => ?_)
    · refine lv_bipush (v := (-2)) hx hb dX5_lead_26 (by decide) ?_
      have hP9 : va_P D vwCl [(md, .inr (5, [.int (nI 0), .int (nI R), .int (nI n), .ref mt, .ref mv, .ref mc, .int (oI cu), .int (nI nt), .ref mk, .ref ms, .ref mp, .int (nI cH), .int (nI oH), .int (nI fH), .ref mi, .int (nI lc), .ref mlo, .ref mla, .ref mlb, .int (nI fc), .ref mf, .ref mst, .int (nI my), .ref mr, .ref mh]))] _ := hP.sub [0] rfl
      have hD9 : va_D A [(md, .inr (5, [.int (nI 0), .int (nI R), .int (nI n), .ref mt, .ref mv, .ref mc, .int (oI cu), .int (nI nt), .ref mk, .ref ms, .ref mp, .int (nI cH), .int (nI oH), .int (nI fH), .ref mi, .int (nI lc), .ref mlo, .ref mla, .ref mlb, .int (nI fc), .ref mf, .ref mst, .int (nI my), .ref mr, .ref mh]))] := hD.sub [0] (by decide) rfl
      exact W.iret (v := (-2)) hx hb hr (fun t ht hW => ⟨⟨_, (), rfl, rfl, by rw [ht]; exact hP9, hD9⟩, hS.F ht⟩) hS.2.2 dX5_lead_28
    · refine lv_iload_n hx hb dX5_lead_19 rfl (lv_at hl 3 rfl) ?_
      refine vp_callSi (va_Run.run (va_runS (As := [.int u]) (rest := []) ⟨hx, hb, hml, hown, hts⟩ (m_isAny l D ct u ) (va_cwS 1 hts (gw_S (fun _ h => h) w_363 w_364 w_30 wcX5_isAny) rfl rfl rfl hvX5_isAny.2 ⟨Nat.le_of_ble_eq_true rfl, Nat.le_of_ble_eq_true rfl⟩) (tb_prS hP hK hZ hS [] rfl) rfl rfl hl.1 rfl (lv_room (Nat.le_of_ble_eq_true rfl)) dX5_lead_20 ⟨Nat.zero_le _, Nat.zero_le _⟩)) (fun r_20 hr_20 => ?_)
      obtain rfl : r_20 = bB (decide (u = -1 ∨ tRng u 1000)) := hr_20
      refine tb_if_neB (tgt := 29) hx hb dX5_lead_23 (by decide) (fun c23 => ?_) (fun c23 => ?_)
      · exact absurd ⟨c9, c16, c23⟩ hbad
      · refine lv_bipush (v := (-2)) hx hb dX5_lead_26 (by decide) ?_
        have hP9 : va_P D vwCl [(md, .inr (5, [.int (nI 0), .int (nI R), .int (nI n), .ref mt, .ref mv, .ref mc, .int (oI cu), .int (nI nt), .ref mk, .ref ms, .ref mp, .int (nI cH), .int (nI oH), .int (nI fH), .ref mi, .int (nI lc), .ref mlo, .ref mla, .ref mlb, .int (nI fc), .ref mf, .ref mst, .int (nI my), .ref mr, .ref mh]))] _ := hP.sub [0] rfl
        have hD9 : va_D A [(md, .inr (5, [.int (nI 0), .int (nI R), .int (nI n), .ref mt, .ref mv, .ref mc, .int (oI cu), .int (nI nt), .ref mk, .ref ms, .ref mp, .int (nI cH), .int (nI oH), .int (nI fH), .ref mi, .int (nI lc), .ref mlo, .ref mla, .ref mlb, .int (nI fc), .ref mf, .ref mst, .int (nI my), .ref mr, .ref mh]))] := hD.sub [0] (by decide) rfl
        exact W.iret (v := (-2)) hx hb hr (fun t ht hW => ⟨⟨_, (), rfl, rfl, by rw [ht]; exact hP9, hD9⟩, hS.F ht⟩) hS.2.2 dX5_lead_28

set_option maxHeartbeats 4000000 in
set_option maxRecDepth 100000 in
theorem m_lead_m3 (l : Launch) (D : va_G) (ct : Nat → ClassId) (md : Nat) (R : Nat) (n : Nat) (cu : Option Nat) (nt : Nat) (cH : Nat) (oH : Nat) (fH : Nat) (lc : Nat) (fc : Nat) (my : Nat) (mt : Nat) (mv : Nat) (mc : Nat) (mk : Nat) (ms : Nat) (mp : Nat) (mi : Nat) (mlo : Nat) (mla : Nat) (mlb : Nat) (mf : Nat) (mst : Nat) (mr : Nat) (mh : Nat) (o : Nat) (a : Option Nat) (b : Option Nat) (sz : Nat) (ho : o < 6) (ha : ∀ j, a = some j → j < 1000) (hb9 : ∀ j, b = some j → j < 1000) (hsec : a = none ∧ ¬ b = none) : Met l yX5_lead wsX5_lead ({ frames := 1, cells := 0, slots := 0, locals := 20 }) (tb_Pw D ct [.ref md, .int (nI o), .int (oI a), .int (oI b)] sz [(md, .inr (5, [.int (nI 0), .int (nI R), .int (nI n), .ref mt, .ref mv, .ref mc, .int (oI cu), .int (nI nt), .ref mk, .ref ms, .ref mp, .int (nI cH), .int (nI oH), .int (nI fH), .ref mi, .int (nI lc), .ref mlo, .ref mla, .ref mlb, .int (nI fc), .ref mf, .ref mst, .int (nI my), .ref mr, .ref mh]))]) (va_Qi (fun r _ => r = (-3)) (tb_B D (va_A [(md, .inr (5, [.int (nI 0), .int (nI R), .int (nI n), .ref mt, .ref mv, .ref mc, .int (oI cu), .int (nI nt), .ref mk, .ref ms, .ref mp, .int (nI cH), .int (nI oH), .int (nI fH), .ref mi, .int (nI lc), .ref mlo, .ref mla, .ref mlb, .int (nI fc), .ref mf, .ref mst, .int (nI my), .ref mr, .ref mh]))] sz) [(md, .inr (5, [.int (nI 0), .int (nI R), .int (nI n), .ref mt, .ref mv, .ref mc, .int (oI cu), .int (nI nt), .ref mk, .ref ms, .ref mp, .int (nI cH), .int (nI oH), .int (nI fH), .ref mi, .int (nI lc), .ref mlo, .ref mla, .ref mlb, .int (nI fc), .ref mf, .ref mst, .int (nI my), .ref mr, .ref mh]))]) (va_A [(md, .inr (5, [.int (nI 0), .int (nI R), .int (nI n), .ref mt, .ref mv, .ref mc, .int (oI cu), .int (nI nt), .ref mk, .ref ms, .ref mp, .int (nI cH), .int (nI oH), .int (nI fH), .ref mi, .int (nI lc), .ref mlo, .ref mla, .ref mlb, .int (nI fc), .ref mf, .ref mst, .int (nI my), .ref mr, .ref mh]))] sz)) 0 0 (va_A [(md, .inr (5, [.int (nI 0), .int (nI R), .int (nI n), .ref mt, .ref mv, .ref mc, .int (oI cu), .int (nI nt), .ref mk, .ref ms, .ref mp, .int (nI cH), .int (nI oH), .int (nI fH), .ref mi, .int (nI lc), .ref mlo, .ref mla, .ref mlb, .int (nI fc), .ref mf, .ref mst, .int (nI my), .ref mr, .ref mh]))] sz) := by
  refine Met.ofW (cc := cX5_lead) (maxL := 4) (ret := (some .int)) (by decide) rfl ?_
  intro p e s m args below meth c s₁ B hml hv
  obtain ⟨rfl, hsz, hP, hK, hD0, hZ⟩ := hv
  have hx := B.exec
  have hb := B.bytes
  have hr := B.returns
  have hts0 := atoms_spec (ws := wsX5_lead) B.pre
  have hts : ∀ w9 ∈ aw, w9.before ([.ref md, .int (nI o), .int (oI a), .int (oI b)] : List Value).toArray s = true := fun w9 h9 => hts0 w9 (List.mem_cons_of_mem _ h9)
  have hown : s.vm.findClass RX5 = some m.cls := findClass_of_methodNamed B.named
  have hlocks := B.notSynchronized
  subst hsz
  have hD := hD0.self (sz := s.heap.size)
  generalize hAe : va_A [(md, .inr (5, [.int (nI 0), .int (nI R), .int (nI n), .ref mt, .ref mv, .ref mc, .int (oI cu), .int (nI nt), .ref mk, .ref ms, .ref mp, .int (nI cH), .int (nI oH), .int (nI fH), .ref mi, .int (nI lc), .ref mlo, .ref mla, .ref mlb, .int (nI fc), .ref mf, .ref mst, .int (nI my), .ref mr, .ref mh]))] s.heap.size = A at hD hZ ⊢
  have hA : ∀ q : Nat, s.heap.size ≤ q → A q := fun q h => by rw [← hAe]; exact Or.inr h
  have hS : va_S A s.heap s.heap [] := va_S.rf
  have hP : va_P D vwCl [(md, .inr (5, [.int (nI 0), .int (nI R), .int (nI n), .ref mt, .ref mv, .ref mc, .int (oI cu), .int (nI nt), .ref mk, .ref ms, .ref mp, .int (nI cH), .int (nI oH), .int (nI fH), .ref mi, .int (nI lc), .ref mlo, .ref mla, .ref mlb, .int (nI fc), .ref mf, .ref mst, .int (nI my), .ref mr, .ref mh]))] s.heap := hP
  have hl := lv_entry ([.ref md, .int (nI o), .int (oI a), .int (oI b)]) (n := 4) (Nat.le_of_ble_eq_true rfl)
  rw [lg_entry_eq]
  generalize (lg_sl ([.ref md, .int (nI o), .int (oI a), .int (oI b)]) ++ List.replicate (4 - (lg_sl ([.ref md, .int (nI o), .int (oI a), .int (oI b)])).length) Slot.unset).toArray = ls at hl ⊢
  have hl : lv_has ls 4 [(0, .ref md), (1, .int (nI o)), (2, .int (oI a)), (3, .int (oI b))] := hl
  refine lv_aload_n hx hb dX5_lead_0 rfl (lv_at hl 0 rfl) ?_
  refine lv_iconst (v := nI 0) hx hb dX5_lead_1 (by decide) ?_
  refine va_put (D := D) (ci := 5) (v := .int (nI 0)) (ty := .int) (C := RX5) (T := TX5) (N := 25) hx hb hts inX5 tyX5 tyX5_ok nmX5 hown hK hP hD hS 0 rfl rfl 0 (by decide) (hts _ w_298) (fun _ h9 => h9) rfl (by decide +kernel) rfl rfl (Nat.le_of_ble_eq_true rfl) dX5_lead_2 (fun H locs hP hD hS => ?_)
  have hP : va_P D vwCl [(md, .inr (5, [.int (nI 0), .int (nI R), .int (nI n), .ref mt, .ref mv, .ref mc, .int (oI cu), .int (nI nt), .ref mk, .ref ms, .ref mp, .int (nI cH), .int (nI oH), .int (nI fH), .ref mi, .int (nI lc), .ref mlo, .ref mla, .ref mlb, .int (nI fc), .ref mf, .ref mst, .int (nI my), .ref mr, .ref mh]))] H := hP
  have hD : va_D A [(md, .inr (5, [.int (nI 0), .int (nI R), .int (nI n), .ref mt, .ref mv, .ref mc, .int (oI cu), .int (nI nt), .ref mk, .ref ms, .ref mp, .int (nI cH), .int (nI oH), .int (nI fH), .ref mi, .int (nI lc), .ref mlo, .ref mla, .ref mlb, .int (nI fc), .ref mf, .ref mst, .int (nI my), .ref mr, .ref mh]))] := hD
  refine lv_iload_n hx hb dX5_lead_5 rfl (lv_at hl 1 rfl) ?_
  refine vp_callSi (va_Run.run (va_runS (As := [.int (nI o)]) (rest := []) ⟨hx, hb, hml, hown, hts⟩ (m_isOrder l D ct (nI o) ) (va_cwS 1 hts (gw_S (fun _ h => h) w_361 w_362 w_30 wcX5_isOrder) rfl rfl rfl hvX5_isOrder.2 ⟨Nat.le_of_ble_eq_true rfl, Nat.le_of_ble_eq_true rfl⟩) (tb_prS hP hK hZ hS [] rfl) rfl rfl hl.1 rfl (lv_room (Nat.le_of_ble_eq_true rfl)) dX5_lead_6 ⟨Nat.zero_le _, Nat.zero_le _⟩)) (fun r_6 hr_6 => ?_)
  obtain rfl : r_6 = bB (decide (tRng (nI o) 6)) := hr_6
  refine tb_if_eqB (tgt := 26) hx hb dX5_lead_9 (by decide) (fun c9 => ?_) (fun c9 => ?_)
  · exact absurd (tRng_nI ho (by decide)) c9
  · refine lv_iload_n hx hb dX5_lead_12 rfl (lv_at hl 2 rfl) ?_
    refine vp_callSi (va_Run.run (va_runS (As := [.int (oI a)]) (rest := []) ⟨hx, hb, hml, hown, hts⟩ (m_isAny l D ct (oI a) ) (va_cwS 1 hts (gw_S (fun _ h => h) w_363 w_364 w_30 wcX5_isAny) rfl rfl rfl hvX5_isAny.2 ⟨Nat.le_of_ble_eq_true rfl, Nat.le_of_ble_eq_true rfl⟩) (tb_prS hP hK hZ hS [] rfl) rfl rfl hl.1 rfl (lv_room (Nat.le_of_ble_eq_true rfl)) dX5_lead_13 ⟨Nat.zero_le _, Nat.zero_le _⟩)) (fun r_13 hr_13 => ?_)
    obtain rfl : r_13 = bB (decide ((oI a) = -1 ∨ tRng (oI a) 1000)) := hr_13
    refine tb_if_eqB (tgt := 26) hx hb dX5_lead_16 (by decide) (fun c16 => ?_) (fun c16 => ?_)
    · exact absurd (oI_ok ha) c16
    · refine lv_iload_n hx hb dX5_lead_19 rfl (lv_at hl 3 rfl) ?_
      refine vp_callSi (va_Run.run (va_runS (As := [.int (oI b)]) (rest := []) ⟨hx, hb, hml, hown, hts⟩ (m_isAny l D ct (oI b) ) (va_cwS 1 hts (gw_S (fun _ h => h) w_363 w_364 w_30 wcX5_isAny) rfl rfl rfl hvX5_isAny.2 ⟨Nat.le_of_ble_eq_true rfl, Nat.le_of_ble_eq_true rfl⟩) (tb_prS hP hK hZ hS [] rfl) rfl rfl hl.1 rfl (lv_room (Nat.le_of_ble_eq_true rfl)) dX5_lead_20 ⟨Nat.zero_le _, Nat.zero_le _⟩)) (fun r_20 hr_20 => ?_)
      obtain rfl : r_20 = bB (decide ((oI b) = -1 ∨ tRng (oI b) 1000)) := hr_20
      refine tb_if_neB (tgt := 29) hx hb dX5_lead_23 (by decide) (fun c23 => ?_) (fun c23 => ?_)
      · refine lv_iload_n hx hb dX5_lead_29 rfl (lv_at hl 3 rfl) ?_
        refine lv_iconst (v := (-1)) hx hb dX5_lead_30 (by decide) ?_
        refine lv_icmp_eq (tgt := 42) hx hb dX5_lead_31 (by decide) (fun c31 => ?_) (fun c31 => ?_)
        · exact absurd (oI_none hb9 c31) hsec.2
        · refine lv_iload_n hx hb dX5_lead_34 rfl (lv_at hl 2 rfl) ?_
          refine lv_iconst (v := (-1)) hx hb dX5_lead_35 (by decide) ?_
          refine lv_icmp_ne (tgt := 42) hx hb dX5_lead_36 (by decide) (fun c36 => ?_) (fun c36 => ?_)
          · exact absurd (by rw [hsec.1]; rfl) c36
          · refine lv_bipush (v := (-3)) hx hb dX5_lead_39 (by decide) ?_
            have hP9 : va_P D vwCl [(md, .inr (5, [.int (nI 0), .int (nI R), .int (nI n), .ref mt, .ref mv, .ref mc, .int (oI cu), .int (nI nt), .ref mk, .ref ms, .ref mp, .int (nI cH), .int (nI oH), .int (nI fH), .ref mi, .int (nI lc), .ref mlo, .ref mla, .ref mlb, .int (nI fc), .ref mf, .ref mst, .int (nI my), .ref mr, .ref mh]))] _ := hP.sub [0] rfl
            have hD9 : va_D A [(md, .inr (5, [.int (nI 0), .int (nI R), .int (nI n), .ref mt, .ref mv, .ref mc, .int (oI cu), .int (nI nt), .ref mk, .ref ms, .ref mp, .int (nI cH), .int (nI oH), .int (nI fH), .ref mi, .int (nI lc), .ref mlo, .ref mla, .ref mlb, .int (nI fc), .ref mf, .ref mst, .int (nI my), .ref mr, .ref mh]))] := hD.sub [0] (by decide) rfl
            exact W.iret (v := (-3)) hx hb hr (fun t ht hW => ⟨⟨_, (), rfl, rfl, by rw [ht]; exact hP9, hD9⟩, hS.F ht⟩) hS.2.2 dX5_lead_41
      · exact absurd (oI_ok hb9) c23

set_option maxHeartbeats 4000000 in
set_option maxRecDepth 100000 in
theorem m_lead_m4 (l : Launch) (D : va_G) (ct : Nat → ClassId) (md : Nat) (R : Nat) (n : Nat) (cu : Option Nat) (nt : Nat) (cH : Nat) (oH : Nat) (fH : Nat) (lc : Nat) (fc : Nat) (my : Nat) (mt : Nat) (mv : Nat) (mc : Nat) (mk : Nat) (ms : Nat) (mp : Nat) (mi : Nat) (mlo : Nat) (mla : Nat) (mlb : Nat) (mf : Nat) (mst : Nat) (mr : Nat) (mh : Nat) (o : Nat) (a : Option Nat) (b : Option Nat) (sz : Nat) (ho : o < 6) (ha : ∀ j, a = some j → j < 1000) (hb9 : ∀ j, b = some j → j < 1000) (hsec : ¬ (a = none ∧ ¬ b = none)) (hl4 : lc = 4) : Met l yX5_lead wsX5_lead ({ frames := 1, cells := 0, slots := 0, locals := 20 }) (tb_Pw D ct [.ref md, .int (nI o), .int (oI a), .int (oI b)] sz [(md, .inr (5, [.int (nI 0), .int (nI R), .int (nI n), .ref mt, .ref mv, .ref mc, .int (oI cu), .int (nI nt), .ref mk, .ref ms, .ref mp, .int (nI cH), .int (nI oH), .int (nI fH), .ref mi, .int (nI lc), .ref mlo, .ref mla, .ref mlb, .int (nI fc), .ref mf, .ref mst, .int (nI my), .ref mr, .ref mh]))]) (va_Qi (fun r _ => r = (-4)) (tb_B D (va_A [(md, .inr (5, [.int (nI 0), .int (nI R), .int (nI n), .ref mt, .ref mv, .ref mc, .int (oI cu), .int (nI nt), .ref mk, .ref ms, .ref mp, .int (nI cH), .int (nI oH), .int (nI fH), .ref mi, .int (nI lc), .ref mlo, .ref mla, .ref mlb, .int (nI fc), .ref mf, .ref mst, .int (nI my), .ref mr, .ref mh]))] sz) [(md, .inr (5, [.int (nI 0), .int (nI R), .int (nI n), .ref mt, .ref mv, .ref mc, .int (oI cu), .int (nI nt), .ref mk, .ref ms, .ref mp, .int (nI cH), .int (nI oH), .int (nI fH), .ref mi, .int (nI lc), .ref mlo, .ref mla, .ref mlb, .int (nI fc), .ref mf, .ref mst, .int (nI my), .ref mr, .ref mh]))]) (va_A [(md, .inr (5, [.int (nI 0), .int (nI R), .int (nI n), .ref mt, .ref mv, .ref mc, .int (oI cu), .int (nI nt), .ref mk, .ref ms, .ref mp, .int (nI cH), .int (nI oH), .int (nI fH), .ref mi, .int (nI lc), .ref mlo, .ref mla, .ref mlb, .int (nI fc), .ref mf, .ref mst, .int (nI my), .ref mr, .ref mh]))] sz)) 0 0 (va_A [(md, .inr (5, [.int (nI 0), .int (nI R), .int (nI n), .ref mt, .ref mv, .ref mc, .int (oI cu), .int (nI nt), .ref mk, .ref ms, .ref mp, .int (nI cH), .int (nI oH), .int (nI fH), .ref mi, .int (nI lc), .ref mlo, .ref mla, .ref mlb, .int (nI fc), .ref mf, .ref mst, .int (nI my), .ref mr, .ref mh]))] sz) := by
  refine Met.ofW (cc := cX5_lead) (maxL := 4) (ret := (some .int)) (by decide) rfl ?_
  intro p e s m args below meth c s₁ B hml hv
  obtain ⟨rfl, hsz, hP, hK, hD0, hZ⟩ := hv
  have hx := B.exec
  have hb := B.bytes
  have hr := B.returns
  have hts0 := atoms_spec (ws := wsX5_lead) B.pre
  have hts : ∀ w9 ∈ aw, w9.before ([.ref md, .int (nI o), .int (oI a), .int (oI b)] : List Value).toArray s = true := fun w9 h9 => hts0 w9 (List.mem_cons_of_mem _ h9)
  have hown : s.vm.findClass RX5 = some m.cls := findClass_of_methodNamed B.named
  have hlocks := B.notSynchronized
  subst hsz
  have hD := hD0.self (sz := s.heap.size)
  generalize hAe : va_A [(md, .inr (5, [.int (nI 0), .int (nI R), .int (nI n), .ref mt, .ref mv, .ref mc, .int (oI cu), .int (nI nt), .ref mk, .ref ms, .ref mp, .int (nI cH), .int (nI oH), .int (nI fH), .ref mi, .int (nI lc), .ref mlo, .ref mla, .ref mlb, .int (nI fc), .ref mf, .ref mst, .int (nI my), .ref mr, .ref mh]))] s.heap.size = A at hD hZ ⊢
  have hA : ∀ q : Nat, s.heap.size ≤ q → A q := fun q h => by rw [← hAe]; exact Or.inr h
  have hS : va_S A s.heap s.heap [] := va_S.rf
  have hP : va_P D vwCl [(md, .inr (5, [.int (nI 0), .int (nI R), .int (nI n), .ref mt, .ref mv, .ref mc, .int (oI cu), .int (nI nt), .ref mk, .ref ms, .ref mp, .int (nI cH), .int (nI oH), .int (nI fH), .ref mi, .int (nI lc), .ref mlo, .ref mla, .ref mlb, .int (nI fc), .ref mf, .ref mst, .int (nI my), .ref mr, .ref mh]))] s.heap := hP
  have hl := lv_entry ([.ref md, .int (nI o), .int (oI a), .int (oI b)]) (n := 4) (Nat.le_of_ble_eq_true rfl)
  rw [lg_entry_eq]
  generalize (lg_sl ([.ref md, .int (nI o), .int (oI a), .int (oI b)]) ++ List.replicate (4 - (lg_sl ([.ref md, .int (nI o), .int (oI a), .int (oI b)])).length) Slot.unset).toArray = ls at hl ⊢
  have hl : lv_has ls 4 [(0, .ref md), (1, .int (nI o)), (2, .int (oI a)), (3, .int (oI b))] := hl
  refine lv_aload_n hx hb dX5_lead_0 rfl (lv_at hl 0 rfl) ?_
  refine lv_iconst (v := nI 0) hx hb dX5_lead_1 (by decide) ?_
  refine va_put (D := D) (ci := 5) (v := .int (nI 0)) (ty := .int) (C := RX5) (T := TX5) (N := 25) hx hb hts inX5 tyX5 tyX5_ok nmX5 hown hK hP hD hS 0 rfl rfl 0 (by decide) (hts _ w_298) (fun _ h9 => h9) rfl (by decide +kernel) rfl rfl (Nat.le_of_ble_eq_true rfl) dX5_lead_2 (fun H locs hP hD hS => ?_)
  have hP : va_P D vwCl [(md, .inr (5, [.int (nI 0), .int (nI R), .int (nI n), .ref mt, .ref mv, .ref mc, .int (oI cu), .int (nI nt), .ref mk, .ref ms, .ref mp, .int (nI cH), .int (nI oH), .int (nI fH), .ref mi, .int (nI lc), .ref mlo, .ref mla, .ref mlb, .int (nI fc), .ref mf, .ref mst, .int (nI my), .ref mr, .ref mh]))] H := hP
  have hD : va_D A [(md, .inr (5, [.int (nI 0), .int (nI R), .int (nI n), .ref mt, .ref mv, .ref mc, .int (oI cu), .int (nI nt), .ref mk, .ref ms, .ref mp, .int (nI cH), .int (nI oH), .int (nI fH), .ref mi, .int (nI lc), .ref mlo, .ref mla, .ref mlb, .int (nI fc), .ref mf, .ref mst, .int (nI my), .ref mr, .ref mh]))] := hD
  refine lv_iload_n hx hb dX5_lead_5 rfl (lv_at hl 1 rfl) ?_
  refine vp_callSi (va_Run.run (va_runS (As := [.int (nI o)]) (rest := []) ⟨hx, hb, hml, hown, hts⟩ (m_isOrder l D ct (nI o) ) (va_cwS 1 hts (gw_S (fun _ h => h) w_361 w_362 w_30 wcX5_isOrder) rfl rfl rfl hvX5_isOrder.2 ⟨Nat.le_of_ble_eq_true rfl, Nat.le_of_ble_eq_true rfl⟩) (tb_prS hP hK hZ hS [] rfl) rfl rfl hl.1 rfl (lv_room (Nat.le_of_ble_eq_true rfl)) dX5_lead_6 ⟨Nat.zero_le _, Nat.zero_le _⟩)) (fun r_6 hr_6 => ?_)
  obtain rfl : r_6 = bB (decide (tRng (nI o) 6)) := hr_6
  refine tb_if_eqB (tgt := 26) hx hb dX5_lead_9 (by decide) (fun c9 => ?_) (fun c9 => ?_)
  · exact absurd (tRng_nI ho (by decide)) c9
  · refine lv_iload_n hx hb dX5_lead_12 rfl (lv_at hl 2 rfl) ?_
    refine vp_callSi (va_Run.run (va_runS (As := [.int (oI a)]) (rest := []) ⟨hx, hb, hml, hown, hts⟩ (m_isAny l D ct (oI a) ) (va_cwS 1 hts (gw_S (fun _ h => h) w_363 w_364 w_30 wcX5_isAny) rfl rfl rfl hvX5_isAny.2 ⟨Nat.le_of_ble_eq_true rfl, Nat.le_of_ble_eq_true rfl⟩) (tb_prS hP hK hZ hS [] rfl) rfl rfl hl.1 rfl (lv_room (Nat.le_of_ble_eq_true rfl)) dX5_lead_13 ⟨Nat.zero_le _, Nat.zero_le _⟩)) (fun r_13 hr_13 => ?_)
    obtain rfl : r_13 = bB (decide ((oI a) = -1 ∨ tRng (oI a) 1000)) := hr_13
    refine tb_if_eqB (tgt := 26) hx hb dX5_lead_16 (by decide) (fun c16 => ?_) (fun c16 => ?_)
    · exact absurd (oI_ok ha) c16
    · refine lv_iload_n hx hb dX5_lead_19 rfl (lv_at hl 3 rfl) ?_
      refine vp_callSi (va_Run.run (va_runS (As := [.int (oI b)]) (rest := []) ⟨hx, hb, hml, hown, hts⟩ (m_isAny l D ct (oI b) ) (va_cwS 1 hts (gw_S (fun _ h => h) w_363 w_364 w_30 wcX5_isAny) rfl rfl rfl hvX5_isAny.2 ⟨Nat.le_of_ble_eq_true rfl, Nat.le_of_ble_eq_true rfl⟩) (tb_prS hP hK hZ hS [] rfl) rfl rfl hl.1 rfl (lv_room (Nat.le_of_ble_eq_true rfl)) dX5_lead_20 ⟨Nat.zero_le _, Nat.zero_le _⟩)) (fun r_20 hr_20 => ?_)
      obtain rfl : r_20 = bB (decide ((oI b) = -1 ∨ tRng (oI b) 1000)) := hr_20
      refine tb_if_neB (tgt := 29) hx hb dX5_lead_23 (by decide) (fun c23 => ?_) (fun c23 => ?_)
      · refine lv_iload_n hx hb dX5_lead_29 rfl (lv_at hl 3 rfl) ?_
        refine lv_iconst (v := (-1)) hx hb dX5_lead_30 (by decide) ?_
        refine lv_icmp_eq (tgt := 42) hx hb dX5_lead_31 (by decide) (fun c31 => ?_) (fun c31 => ?_)
        · refine lv_aload_n hx hb dX5_lead_42 rfl (lv_at hl 0 rfl) ?_
          refine va_get (D := D) (ci := 5) (v := .int (nI lc)) (C := RX5) (T := TX5) (N := 25) hx hb hts inX5 hown hK hP 0 rfl rfl 15 (by decide) (hts _ w_313) (fun _ h9 => h9) rfl dX5_lead_43 ?_
          refine lv_iconst (v := nI 4) hx hb dX5_lead_46 (by decide) ?_
          refine tb_icmp_ne (tgt := 53) hx hb dX5_lead_47 (by decide) (by omega) (by omega) (fun c47 => ?_) (fun c47 => ?_)
          · exact absurd hl4 c47
          · refine lv_bipush (v := (-4)) hx hb dX5_lead_50 (by decide) ?_
            have hP9 : va_P D vwCl [(md, .inr (5, [.int (nI 0), .int (nI R), .int (nI n), .ref mt, .ref mv, .ref mc, .int (oI cu), .int (nI nt), .ref mk, .ref ms, .ref mp, .int (nI cH), .int (nI oH), .int (nI fH), .ref mi, .int (nI lc), .ref mlo, .ref mla, .ref mlb, .int (nI fc), .ref mf, .ref mst, .int (nI my), .ref mr, .ref mh]))] _ := hP.sub [0] rfl
            have hD9 : va_D A [(md, .inr (5, [.int (nI 0), .int (nI R), .int (nI n), .ref mt, .ref mv, .ref mc, .int (oI cu), .int (nI nt), .ref mk, .ref ms, .ref mp, .int (nI cH), .int (nI oH), .int (nI fH), .ref mi, .int (nI lc), .ref mlo, .ref mla, .ref mlb, .int (nI fc), .ref mf, .ref mst, .int (nI my), .ref mr, .ref mh]))] := hD.sub [0] (by decide) rfl
            exact W.iret (v := (-4)) hx hb hr (fun t ht hW => ⟨⟨_, (), rfl, rfl, by rw [ht]; exact hP9, hD9⟩, hS.F ht⟩) hS.2.2 dX5_lead_52
        · refine lv_iload_n hx hb dX5_lead_34 rfl (lv_at hl 2 rfl) ?_
          refine lv_iconst (v := (-1)) hx hb dX5_lead_35 (by decide) ?_
          refine lv_icmp_ne (tgt := 42) hx hb dX5_lead_36 (by decide) (fun c36 => ?_) (fun c36 => ?_)
          · refine lv_aload_n hx hb dX5_lead_42 rfl (lv_at hl 0 rfl) ?_
            refine va_get (D := D) (ci := 5) (v := .int (nI lc)) (C := RX5) (T := TX5) (N := 25) hx hb hts inX5 hown hK hP 0 rfl rfl 15 (by decide) (hts _ w_313) (fun _ h9 => h9) rfl dX5_lead_43 ?_
            refine lv_iconst (v := nI 4) hx hb dX5_lead_46 (by decide) ?_
            refine tb_icmp_ne (tgt := 53) hx hb dX5_lead_47 (by decide) (by omega) (by omega) (fun c47 => ?_) (fun c47 => ?_)
            · exact absurd hl4 c47
            · refine lv_bipush (v := (-4)) hx hb dX5_lead_50 (by decide) ?_
              have hP9 : va_P D vwCl [(md, .inr (5, [.int (nI 0), .int (nI R), .int (nI n), .ref mt, .ref mv, .ref mc, .int (oI cu), .int (nI nt), .ref mk, .ref ms, .ref mp, .int (nI cH), .int (nI oH), .int (nI fH), .ref mi, .int (nI lc), .ref mlo, .ref mla, .ref mlb, .int (nI fc), .ref mf, .ref mst, .int (nI my), .ref mr, .ref mh]))] _ := hP.sub [0] rfl
              have hD9 : va_D A [(md, .inr (5, [.int (nI 0), .int (nI R), .int (nI n), .ref mt, .ref mv, .ref mc, .int (oI cu), .int (nI nt), .ref mk, .ref ms, .ref mp, .int (nI cH), .int (nI oH), .int (nI fH), .ref mi, .int (nI lc), .ref mlo, .ref mla, .ref mlb, .int (nI fc), .ref mf, .ref mst, .int (nI my), .ref mr, .ref mh]))] := hD.sub [0] (by decide) rfl
              exact W.iret (v := (-4)) hx hb hr (fun t ht hW => ⟨⟨_, (), rfl, rfl, by rw [ht]; exact hP9, hD9⟩, hS.F ht⟩) hS.2.2 dX5_lead_52
          · exact absurd ⟨oI_none ha c36, fun z => c31 (by rw [z]; rfl)⟩ hsec
      · exact absurd (oI_ok hb9) c23

set_option maxHeartbeats 4000000 in
set_option maxRecDepth 100000 in
theorem m_lead_ok (l : Launch) (D : va_G) (ct : Nat → ClassId) (md : Nat) (R : Nat) (n : Nat) (cu : Option Nat) (nt : Nat) (cH : Nat) (oH : Nat) (fH : Nat) (lc : Nat) (fc : Nat) (my : Nat) (mt : Nat) (mv : Nat) (mc : Nat) (mk : Nat) (ms : Nat) (mp : Nat) (mi : Nat) (mlo : Nat) (mla : Nat) (mlb : Nat) (mf : Nat) (mst : Nat) (mr : Nat) (mh : Nat) (lo : Nat → Nat) (lA : Nat → Option Nat) (lB : Nat → Option Nat) (o : Nat) (a : Option Nat) (b : Option Nat) (sz : Nat) (ho : o < 6) (ha : ∀ j, a = some j → j < 1000) (hb9 : ∀ j, b = some j → j < 1000) (hsec : ¬ (a = none ∧ ¬ b = none)) (hl4 : lc < 4) : Met l yX5_lead wsX5_lead ({ frames := 1, cells := 0, slots := 0, locals := 20 }) (tb_Pw D ct [.ref md, .int (nI o), .int (oI a), .int (oI b)] sz [(md, .inr (5, [.int (nI 0), .int (nI R), .int (nI n), .ref mt, .ref mv, .ref mc, .int (oI cu), .int (nI nt), .ref mk, .ref ms, .ref mp, .int (nI cH), .int (nI oH), .int (nI fH), .ref mi, .int (nI lc), .ref mlo, .ref mla, .ref mlb, .int (nI fc), .ref mf, .ref mst, .int (nI my), .ref mr, .ref mh])), (mlo, .inl (ct 0, 4, .inl (aN lo))), (mla, .inl (ct 0, 4, .inl (aO lA))), (mlb, .inl (ct 0, 4, .inl (aO lB)))]) (va_Qi (fun r _ => r = nI (lc + 1)) (tb_B D (va_A [(md, .inr (5, [.int (nI 0), .int (nI R), .int (nI n), .ref mt, .ref mv, .ref mc, .int (oI cu), .int (nI nt), .ref mk, .ref ms, .ref mp, .int (nI cH), .int (nI oH), .int (nI fH), .ref mi, .int (nI lc), .ref mlo, .ref mla, .ref mlb, .int (nI fc), .ref mf, .ref mst, .int (nI my), .ref mr, .ref mh])), (mlo, .inl (ct 0, 4, .inl (aN lo))), (mla, .inl (ct 0, 4, .inl (aO lA))), (mlb, .inl (ct 0, 4, .inl (aO lB)))] sz) [(md, .inr (5, [.int (nI 0), .int (nI R), .int (nI n), .ref mt, .ref mv, .ref mc, .int (oI cu), .int (nI nt), .ref mk, .ref ms, .ref mp, .int (nI cH), .int (nI oH), .int (nI fH), .ref mi, .int (nI (lc + 1)), .ref mlo, .ref mla, .ref mlb, .int (nI fc), .ref mf, .ref mst, .int (nI my), .ref mr, .ref mh])), (mlo, .inl (ct 0, 4, .inl (aN (va_up lo lc o)))), (mla, .inl (ct 0, 4, .inl (aO (va_up lA lc a)))), (mlb, .inl (ct 0, 4, .inl (aO (va_up lB lc b))))]) (va_A [(md, .inr (5, [.int (nI 0), .int (nI R), .int (nI n), .ref mt, .ref mv, .ref mc, .int (oI cu), .int (nI nt), .ref mk, .ref ms, .ref mp, .int (nI cH), .int (nI oH), .int (nI fH), .ref mi, .int (nI lc), .ref mlo, .ref mla, .ref mlb, .int (nI fc), .ref mf, .ref mst, .int (nI my), .ref mr, .ref mh])), (mlo, .inl (ct 0, 4, .inl (aN lo))), (mla, .inl (ct 0, 4, .inl (aO lA))), (mlb, .inl (ct 0, 4, .inl (aO lB)))] sz)) 0 0 (va_A [(md, .inr (5, [.int (nI 0), .int (nI R), .int (nI n), .ref mt, .ref mv, .ref mc, .int (oI cu), .int (nI nt), .ref mk, .ref ms, .ref mp, .int (nI cH), .int (nI oH), .int (nI fH), .ref mi, .int (nI lc), .ref mlo, .ref mla, .ref mlb, .int (nI fc), .ref mf, .ref mst, .int (nI my), .ref mr, .ref mh])), (mlo, .inl (ct 0, 4, .inl (aN lo))), (mla, .inl (ct 0, 4, .inl (aO lA))), (mlb, .inl (ct 0, 4, .inl (aO lB)))] sz) := by
  refine Met.ofW (cc := cX5_lead) (maxL := 4) (ret := (some .int)) (by decide) rfl ?_
  intro p e s m args below meth c s₁ B hml hv
  obtain ⟨rfl, hsz, hP, hK, hD0, hZ⟩ := hv
  have hx := B.exec
  have hb := B.bytes
  have hr := B.returns
  have hts0 := atoms_spec (ws := wsX5_lead) B.pre
  have hts : ∀ w9 ∈ aw, w9.before ([.ref md, .int (nI o), .int (oI a), .int (oI b)] : List Value).toArray s = true := fun w9 h9 => hts0 w9 (List.mem_cons_of_mem _ h9)
  have hown : s.vm.findClass RX5 = some m.cls := findClass_of_methodNamed B.named
  have hlocks := B.notSynchronized
  subst hsz
  have hD := hD0.self (sz := s.heap.size)
  generalize hAe : va_A [(md, .inr (5, [.int (nI 0), .int (nI R), .int (nI n), .ref mt, .ref mv, .ref mc, .int (oI cu), .int (nI nt), .ref mk, .ref ms, .ref mp, .int (nI cH), .int (nI oH), .int (nI fH), .ref mi, .int (nI lc), .ref mlo, .ref mla, .ref mlb, .int (nI fc), .ref mf, .ref mst, .int (nI my), .ref mr, .ref mh])), (mlo, .inl (ct 0, 4, .inl (aN lo))), (mla, .inl (ct 0, 4, .inl (aO lA))), (mlb, .inl (ct 0, 4, .inl (aO lB)))] s.heap.size = A at hD hZ ⊢
  have hA : ∀ q : Nat, s.heap.size ≤ q → A q := fun q h => by rw [← hAe]; exact Or.inr h
  have hS : va_S A s.heap s.heap [] := va_S.rf
  have hP : va_P D vwCl [(md, .inr (5, [.int (nI 0), .int (nI R), .int (nI n), .ref mt, .ref mv, .ref mc, .int (oI cu), .int (nI nt), .ref mk, .ref ms, .ref mp, .int (nI cH), .int (nI oH), .int (nI fH), .ref mi, .int (nI lc), .ref mlo, .ref mla, .ref mlb, .int (nI fc), .ref mf, .ref mst, .int (nI my), .ref mr, .ref mh])), (mlo, .inl (ct 0, 4, .inl (aN lo))), (mla, .inl (ct 0, 4, .inl (aO lA))), (mlb, .inl (ct 0, 4, .inl (aO lB)))] s.heap := hP
  have hl := lv_entry ([.ref md, .int (nI o), .int (oI a), .int (oI b)]) (n := 4) (Nat.le_of_ble_eq_true rfl)
  rw [lg_entry_eq]
  generalize (lg_sl ([.ref md, .int (nI o), .int (oI a), .int (oI b)]) ++ List.replicate (4 - (lg_sl ([.ref md, .int (nI o), .int (oI a), .int (oI b)])).length) Slot.unset).toArray = ls at hl ⊢
  have hl : lv_has ls 4 [(0, .ref md), (1, .int (nI o)), (2, .int (oI a)), (3, .int (oI b))] := hl
  refine lv_aload_n hx hb dX5_lead_0 rfl (lv_at hl 0 rfl) ?_
  refine lv_iconst (v := nI 0) hx hb dX5_lead_1 (by decide) ?_
  refine va_put (D := D) (ci := 5) (v := .int (nI 0)) (ty := .int) (C := RX5) (T := TX5) (N := 25) hx hb hts inX5 tyX5 tyX5_ok nmX5 hown hK hP hD hS 0 rfl rfl 0 (by decide) (hts _ w_298) (fun _ h9 => h9) rfl (by decide +kernel) rfl rfl (Nat.le_of_ble_eq_true rfl) dX5_lead_2 (fun H locs hP hD hS => ?_)
  have hP : va_P D vwCl [(md, .inr (5, [.int (nI 0), .int (nI R), .int (nI n), .ref mt, .ref mv, .ref mc, .int (oI cu), .int (nI nt), .ref mk, .ref ms, .ref mp, .int (nI cH), .int (nI oH), .int (nI fH), .ref mi, .int (nI lc), .ref mlo, .ref mla, .ref mlb, .int (nI fc), .ref mf, .ref mst, .int (nI my), .ref mr, .ref mh])), (mlo, .inl (ct 0, 4, .inl (aN lo))), (mla, .inl (ct 0, 4, .inl (aO lA))), (mlb, .inl (ct 0, 4, .inl (aO lB)))] H := hP
  have hD : va_D A [(md, .inr (5, [.int (nI 0), .int (nI R), .int (nI n), .ref mt, .ref mv, .ref mc, .int (oI cu), .int (nI nt), .ref mk, .ref ms, .ref mp, .int (nI cH), .int (nI oH), .int (nI fH), .ref mi, .int (nI lc), .ref mlo, .ref mla, .ref mlb, .int (nI fc), .ref mf, .ref mst, .int (nI my), .ref mr, .ref mh])), (mlo, .inl (ct 0, 4, .inl (aN lo))), (mla, .inl (ct 0, 4, .inl (aO lA))), (mlb, .inl (ct 0, 4, .inl (aO lB)))] := hD
  refine lv_iload_n hx hb dX5_lead_5 rfl (lv_at hl 1 rfl) ?_
  refine vp_callSi (va_Run.run (va_runS (As := [.int (nI o)]) (rest := []) ⟨hx, hb, hml, hown, hts⟩ (m_isOrder l D ct (nI o) ) (va_cwS 1 hts (gw_S (fun _ h => h) w_361 w_362 w_30 wcX5_isOrder) rfl rfl rfl hvX5_isOrder.2 ⟨Nat.le_of_ble_eq_true rfl, Nat.le_of_ble_eq_true rfl⟩) (tb_prS hP hK hZ hS [] rfl) rfl rfl hl.1 rfl (lv_room (Nat.le_of_ble_eq_true rfl)) dX5_lead_6 ⟨Nat.zero_le _, Nat.zero_le _⟩)) (fun r_6 hr_6 => ?_)
  obtain rfl : r_6 = bB (decide (tRng (nI o) 6)) := hr_6
  refine tb_if_eqB (tgt := 26) hx hb dX5_lead_9 (by decide) (fun c9 => ?_) (fun c9 => ?_)
  · exact absurd (tRng_nI ho (by decide)) c9
  · refine lv_iload_n hx hb dX5_lead_12 rfl (lv_at hl 2 rfl) ?_
    refine vp_callSi (va_Run.run (va_runS (As := [.int (oI a)]) (rest := []) ⟨hx, hb, hml, hown, hts⟩ (m_isAny l D ct (oI a) ) (va_cwS 1 hts (gw_S (fun _ h => h) w_363 w_364 w_30 wcX5_isAny) rfl rfl rfl hvX5_isAny.2 ⟨Nat.le_of_ble_eq_true rfl, Nat.le_of_ble_eq_true rfl⟩) (tb_prS hP hK hZ hS [] rfl) rfl rfl hl.1 rfl (lv_room (Nat.le_of_ble_eq_true rfl)) dX5_lead_13 ⟨Nat.zero_le _, Nat.zero_le _⟩)) (fun r_13 hr_13 => ?_)
    obtain rfl : r_13 = bB (decide ((oI a) = -1 ∨ tRng (oI a) 1000)) := hr_13
    refine tb_if_eqB (tgt := 26) hx hb dX5_lead_16 (by decide) (fun c16 => ?_) (fun c16 => ?_)
    · exact absurd (oI_ok ha) c16
    · refine lv_iload_n hx hb dX5_lead_19 rfl (lv_at hl 3 rfl) ?_
      refine vp_callSi (va_Run.run (va_runS (As := [.int (oI b)]) (rest := []) ⟨hx, hb, hml, hown, hts⟩ (m_isAny l D ct (oI b) ) (va_cwS 1 hts (gw_S (fun _ h => h) w_363 w_364 w_30 wcX5_isAny) rfl rfl rfl hvX5_isAny.2 ⟨Nat.le_of_ble_eq_true rfl, Nat.le_of_ble_eq_true rfl⟩) (tb_prS hP hK hZ hS [] rfl) rfl rfl hl.1 rfl (lv_room (Nat.le_of_ble_eq_true rfl)) dX5_lead_20 ⟨Nat.zero_le _, Nat.zero_le _⟩)) (fun r_20 hr_20 => ?_)
      obtain rfl : r_20 = bB (decide ((oI b) = -1 ∨ tRng (oI b) 1000)) := hr_20
      refine tb_if_neB (tgt := 29) hx hb dX5_lead_23 (by decide) (fun c23 => ?_) (fun c23 => ?_)
      · refine lv_iload_n hx hb dX5_lead_29 rfl (lv_at hl 3 rfl) ?_
        refine lv_iconst (v := (-1)) hx hb dX5_lead_30 (by decide) ?_
        refine lv_icmp_eq (tgt := 42) hx hb dX5_lead_31 (by decide) (fun c31 => ?_) (fun c31 => ?_)
        · refine lv_aload_n hx hb dX5_lead_42 rfl (lv_at hl 0 rfl) ?_
          refine va_get (D := D) (ci := 5) (v := .int (nI lc)) (C := RX5) (T := TX5) (N := 25) hx hb hts inX5 hown hK hP 0 rfl rfl 15 (by decide) (hts _ w_313) (fun _ h9 => h9) rfl dX5_lead_43 ?_
          refine lv_iconst (v := nI 4) hx hb dX5_lead_46 (by decide) ?_
          refine tb_icmp_ne (tgt := 53) hx hb dX5_lead_47 (by decide) (by omega) (by omega) (fun c47 => ?_) (fun c47 => ?_)
          · refine lv_aload_n hx hb dX5_lead_53 rfl (lv_at hl 0 rfl) ?_
            refine va_get (D := D) (ci := 5) (v := .ref mlo) (C := RX5) (T := TX5) (N := 25) hx hb hts inX5 hown hK hP 0 rfl rfl 16 (by decide) (hts _ w_314) (fun _ h9 => h9) rfl dX5_lead_54 ?_
            refine lv_aload_n hx hb dX5_lead_57 rfl (lv_at hl 0 rfl) ?_
            refine va_get (D := D) (ci := 5) (v := .int (nI lc)) (C := RX5) (T := TX5) (N := 25) hx hb hts inX5 hown hK hP 0 rfl rfl 15 (by decide) (hts _ w_313) (fun _ h9 => h9) rfl dX5_lead_58 ?_
            refine lv_iload_n hx hb dX5_lead_61 rfl (lv_at hl 1 rfl) ?_
            refine tb_iast hx hb hK hP hD hS 1 0 rfl rfl (by omega) (by omega) dX5_lead_62 (fun H locs hP hD hS => ?_)
            have hP : va_P D vwCl [(md, .inr (5, [.int (nI 0), .int (nI R), .int (nI n), .ref mt, .ref mv, .ref mc, .int (oI cu), .int (nI nt), .ref mk, .ref ms, .ref mp, .int (nI cH), .int (nI oH), .int (nI fH), .ref mi, .int (nI lc), .ref mlo, .ref mla, .ref mlb, .int (nI fc), .ref mf, .ref mst, .int (nI my), .ref mr, .ref mh])), (mlo, .inl (ct 0, 4, .inl (aN (va_up lo lc o)))), (mla, .inl (ct 0, 4, .inl (aO lA))), (mlb, .inl (ct 0, 4, .inl (aO lB)))] H := hP
            have hD : va_D A [(md, .inr (5, [.int (nI 0), .int (nI R), .int (nI n), .ref mt, .ref mv, .ref mc, .int (oI cu), .int (nI nt), .ref mk, .ref ms, .ref mp, .int (nI cH), .int (nI oH), .int (nI fH), .ref mi, .int (nI lc), .ref mlo, .ref mla, .ref mlb, .int (nI fc), .ref mf, .ref mst, .int (nI my), .ref mr, .ref mh])), (mlo, .inl (ct 0, 4, .inl (aN (va_up lo lc o)))), (mla, .inl (ct 0, 4, .inl (aO lA))), (mlb, .inl (ct 0, 4, .inl (aO lB)))] := hD
            refine lv_aload_n hx hb dX5_lead_63 rfl (lv_at hl 0 rfl) ?_
            refine va_get (D := D) (ci := 5) (v := .ref mla) (C := RX5) (T := TX5) (N := 25) hx hb hts inX5 hown hK hP 0 rfl rfl 17 (by decide) (hts _ w_315) (fun _ h9 => h9) rfl dX5_lead_64 ?_
            refine lv_aload_n hx hb dX5_lead_67 rfl (lv_at hl 0 rfl) ?_
            refine va_get (D := D) (ci := 5) (v := .int (nI lc)) (C := RX5) (T := TX5) (N := 25) hx hb hts inX5 hown hK hP 0 rfl rfl 15 (by decide) (hts _ w_313) (fun _ h9 => h9) rfl dX5_lead_68 ?_
            refine lv_iload_n hx hb dX5_lead_71 rfl (lv_at hl 2 rfl) ?_
            refine tb_iastO hx hb hK hP hD hS 2 0 rfl rfl a (by omega) (by omega) dX5_lead_72 (fun H locs hP hD hS => ?_)
            have hP : va_P D vwCl [(md, .inr (5, [.int (nI 0), .int (nI R), .int (nI n), .ref mt, .ref mv, .ref mc, .int (oI cu), .int (nI nt), .ref mk, .ref ms, .ref mp, .int (nI cH), .int (nI oH), .int (nI fH), .ref mi, .int (nI lc), .ref mlo, .ref mla, .ref mlb, .int (nI fc), .ref mf, .ref mst, .int (nI my), .ref mr, .ref mh])), (mlo, .inl (ct 0, 4, .inl (aN (va_up lo lc o)))), (mla, .inl (ct 0, 4, .inl (aO (va_up lA lc a)))), (mlb, .inl (ct 0, 4, .inl (aO lB)))] H := hP
            have hD : va_D A [(md, .inr (5, [.int (nI 0), .int (nI R), .int (nI n), .ref mt, .ref mv, .ref mc, .int (oI cu), .int (nI nt), .ref mk, .ref ms, .ref mp, .int (nI cH), .int (nI oH), .int (nI fH), .ref mi, .int (nI lc), .ref mlo, .ref mla, .ref mlb, .int (nI fc), .ref mf, .ref mst, .int (nI my), .ref mr, .ref mh])), (mlo, .inl (ct 0, 4, .inl (aN (va_up lo lc o)))), (mla, .inl (ct 0, 4, .inl (aO (va_up lA lc a)))), (mlb, .inl (ct 0, 4, .inl (aO lB)))] := hD
            refine lv_aload_n hx hb dX5_lead_73 rfl (lv_at hl 0 rfl) ?_
            refine va_get (D := D) (ci := 5) (v := .ref mlb) (C := RX5) (T := TX5) (N := 25) hx hb hts inX5 hown hK hP 0 rfl rfl 18 (by decide) (hts _ w_316) (fun _ h9 => h9) rfl dX5_lead_74 ?_
            refine lv_aload_n hx hb dX5_lead_77 rfl (lv_at hl 0 rfl) ?_
            refine va_get (D := D) (ci := 5) (v := .int (nI lc)) (C := RX5) (T := TX5) (N := 25) hx hb hts inX5 hown hK hP 0 rfl rfl 15 (by decide) (hts _ w_313) (fun _ h9 => h9) rfl dX5_lead_78 ?_
            refine lv_iload_n hx hb dX5_lead_81 rfl (lv_at hl 3 rfl) ?_
            refine tb_iastO hx hb hK hP hD hS 3 0 rfl rfl b (by omega) (by omega) dX5_lead_82 (fun H locs hP hD hS => ?_)
            have hP : va_P D vwCl [(md, .inr (5, [.int (nI 0), .int (nI R), .int (nI n), .ref mt, .ref mv, .ref mc, .int (oI cu), .int (nI nt), .ref mk, .ref ms, .ref mp, .int (nI cH), .int (nI oH), .int (nI fH), .ref mi, .int (nI lc), .ref mlo, .ref mla, .ref mlb, .int (nI fc), .ref mf, .ref mst, .int (nI my), .ref mr, .ref mh])), (mlo, .inl (ct 0, 4, .inl (aN (va_up lo lc o)))), (mla, .inl (ct 0, 4, .inl (aO (va_up lA lc a)))), (mlb, .inl (ct 0, 4, .inl (aO (va_up lB lc b))))] H := hP
            have hD : va_D A [(md, .inr (5, [.int (nI 0), .int (nI R), .int (nI n), .ref mt, .ref mv, .ref mc, .int (oI cu), .int (nI nt), .ref mk, .ref ms, .ref mp, .int (nI cH), .int (nI oH), .int (nI fH), .ref mi, .int (nI lc), .ref mlo, .ref mla, .ref mlb, .int (nI fc), .ref mf, .ref mst, .int (nI my), .ref mr, .ref mh])), (mlo, .inl (ct 0, 4, .inl (aN (va_up lo lc o)))), (mla, .inl (ct 0, 4, .inl (aO (va_up lA lc a)))), (mlb, .inl (ct 0, 4, .inl (aO (va_up lB lc b))))] := hD
            refine lv_aload_n hx hb dX5_lead_83 rfl (lv_at hl 0 rfl) ?_
            refine lv_dup hx hb dX5_lead_84 rfl ?_
            refine va_get (D := D) (ci := 5) (v := .int (nI lc)) (C := RX5) (T := TX5) (N := 25) hx hb hts inX5 hown hK hP 0 rfl rfl 15 (by decide) (hts _ w_313) (fun _ h9 => h9) rfl dX5_lead_85 ?_
            refine lv_iconst (v := nI 1) hx hb dX5_lead_88 (by decide) ?_
            refine tb_iadd hx hb dX5_lead_89 ?_
            refine va_put (D := D) (ci := 5) (v := .int (nI (lc + 1))) (ty := .int) (C := RX5) (T := TX5) (N := 25) hx hb hts inX5 tyX5 tyX5_ok nmX5 hown hK hP hD hS 0 rfl rfl 15 (by decide) (hts _ w_313) (fun _ h9 => h9) rfl (by decide +kernel) rfl rfl (Nat.le_of_ble_eq_true rfl) dX5_lead_90 (fun H locs hP hD hS => ?_)
            have hP : va_P D vwCl [(md, .inr (5, [.int (nI 0), .int (nI R), .int (nI n), .ref mt, .ref mv, .ref mc, .int (oI cu), .int (nI nt), .ref mk, .ref ms, .ref mp, .int (nI cH), .int (nI oH), .int (nI fH), .ref mi, .int (nI (lc + 1)), .ref mlo, .ref mla, .ref mlb, .int (nI fc), .ref mf, .ref mst, .int (nI my), .ref mr, .ref mh])), (mlo, .inl (ct 0, 4, .inl (aN (va_up lo lc o)))), (mla, .inl (ct 0, 4, .inl (aO (va_up lA lc a)))), (mlb, .inl (ct 0, 4, .inl (aO (va_up lB lc b))))] H := hP
            have hD : va_D A [(md, .inr (5, [.int (nI 0), .int (nI R), .int (nI n), .ref mt, .ref mv, .ref mc, .int (oI cu), .int (nI nt), .ref mk, .ref ms, .ref mp, .int (nI cH), .int (nI oH), .int (nI fH), .ref mi, .int (nI (lc + 1)), .ref mlo, .ref mla, .ref mlb, .int (nI fc), .ref mf, .ref mst, .int (nI my), .ref mr, .ref mh])), (mlo, .inl (ct 0, 4, .inl (aN (va_up lo lc o)))), (mla, .inl (ct 0, 4, .inl (aO (va_up lA lc a)))), (mlb, .inl (ct 0, 4, .inl (aO (va_up lB lc b))))] := hD
            refine lv_aload_n hx hb dX5_lead_93 rfl (lv_at hl 0 rfl) ?_
            refine va_get (D := D) (ci := 5) (v := .int (nI (lc + 1))) (C := RX5) (T := TX5) (N := 25) hx hb hts inX5 hown hK hP 0 rfl rfl 15 (by decide) (hts _ w_313) (fun _ h9 => h9) rfl dX5_lead_94 ?_
            have hP9 : va_P D vwCl [(md, .inr (5, [.int (nI 0), .int (nI R), .int (nI n), .ref mt, .ref mv, .ref mc, .int (oI cu), .int (nI nt), .ref mk, .ref ms, .ref mp, .int (nI cH), .int (nI oH), .int (nI fH), .ref mi, .int (nI (lc + 1)), .ref mlo, .ref mla, .ref mlb, .int (nI fc), .ref mf, .ref mst, .int (nI my), .ref mr, .ref mh])), (mlo, .inl (ct 0, 4, .inl (aN (va_up lo lc o)))), (mla, .inl (ct 0, 4, .inl (aO (va_up lA lc a)))), (mlb, .inl (ct 0, 4, .inl (aO (va_up lB lc b))))] _ := hP.sub [0, 1, 2, 3] rfl
            have hD9 : va_D A [(md, .inr (5, [.int (nI 0), .int (nI R), .int (nI n), .ref mt, .ref mv, .ref mc, .int (oI cu), .int (nI nt), .ref mk, .ref ms, .ref mp, .int (nI cH), .int (nI oH), .int (nI fH), .ref mi, .int (nI (lc + 1)), .ref mlo, .ref mla, .ref mlb, .int (nI fc), .ref mf, .ref mst, .int (nI my), .ref mr, .ref mh])), (mlo, .inl (ct 0, 4, .inl (aN (va_up lo lc o)))), (mla, .inl (ct 0, 4, .inl (aO (va_up lA lc a)))), (mlb, .inl (ct 0, 4, .inl (aO (va_up lB lc b))))] := hD.sub [0, 1, 2, 3] (by decide) rfl
            exact W.iret (v := nI (lc + 1)) hx hb hr (fun t ht hW => ⟨⟨_, (), rfl, rfl, by rw [ht]; exact hP9, hD9⟩, hS.F ht⟩) hS.2.2 dX5_lead_97
          · exfalso; omega
        · refine lv_iload_n hx hb dX5_lead_34 rfl (lv_at hl 2 rfl) ?_
          refine lv_iconst (v := (-1)) hx hb dX5_lead_35 (by decide) ?_
          refine lv_icmp_ne (tgt := 42) hx hb dX5_lead_36 (by decide) (fun c36 => ?_) (fun c36 => ?_)
          · refine lv_aload_n hx hb dX5_lead_42 rfl (lv_at hl 0 rfl) ?_
            refine va_get (D := D) (ci := 5) (v := .int (nI lc)) (C := RX5) (T := TX5) (N := 25) hx hb hts inX5 hown hK hP 0 rfl rfl 15 (by decide) (hts _ w_313) (fun _ h9 => h9) rfl dX5_lead_43 ?_
            refine lv_iconst (v := nI 4) hx hb dX5_lead_46 (by decide) ?_
            refine tb_icmp_ne (tgt := 53) hx hb dX5_lead_47 (by decide) (by omega) (by omega) (fun c47 => ?_) (fun c47 => ?_)
            · refine lv_aload_n hx hb dX5_lead_53 rfl (lv_at hl 0 rfl) ?_
              refine va_get (D := D) (ci := 5) (v := .ref mlo) (C := RX5) (T := TX5) (N := 25) hx hb hts inX5 hown hK hP 0 rfl rfl 16 (by decide) (hts _ w_314) (fun _ h9 => h9) rfl dX5_lead_54 ?_
              refine lv_aload_n hx hb dX5_lead_57 rfl (lv_at hl 0 rfl) ?_
              refine va_get (D := D) (ci := 5) (v := .int (nI lc)) (C := RX5) (T := TX5) (N := 25) hx hb hts inX5 hown hK hP 0 rfl rfl 15 (by decide) (hts _ w_313) (fun _ h9 => h9) rfl dX5_lead_58 ?_
              refine lv_iload_n hx hb dX5_lead_61 rfl (lv_at hl 1 rfl) ?_
              refine tb_iast hx hb hK hP hD hS 1 0 rfl rfl (by omega) (by omega) dX5_lead_62 (fun H locs hP hD hS => ?_)
              have hP : va_P D vwCl [(md, .inr (5, [.int (nI 0), .int (nI R), .int (nI n), .ref mt, .ref mv, .ref mc, .int (oI cu), .int (nI nt), .ref mk, .ref ms, .ref mp, .int (nI cH), .int (nI oH), .int (nI fH), .ref mi, .int (nI lc), .ref mlo, .ref mla, .ref mlb, .int (nI fc), .ref mf, .ref mst, .int (nI my), .ref mr, .ref mh])), (mlo, .inl (ct 0, 4, .inl (aN (va_up lo lc o)))), (mla, .inl (ct 0, 4, .inl (aO lA))), (mlb, .inl (ct 0, 4, .inl (aO lB)))] H := hP
              have hD : va_D A [(md, .inr (5, [.int (nI 0), .int (nI R), .int (nI n), .ref mt, .ref mv, .ref mc, .int (oI cu), .int (nI nt), .ref mk, .ref ms, .ref mp, .int (nI cH), .int (nI oH), .int (nI fH), .ref mi, .int (nI lc), .ref mlo, .ref mla, .ref mlb, .int (nI fc), .ref mf, .ref mst, .int (nI my), .ref mr, .ref mh])), (mlo, .inl (ct 0, 4, .inl (aN (va_up lo lc o)))), (mla, .inl (ct 0, 4, .inl (aO lA))), (mlb, .inl (ct 0, 4, .inl (aO lB)))] := hD
              refine lv_aload_n hx hb dX5_lead_63 rfl (lv_at hl 0 rfl) ?_
              refine va_get (D := D) (ci := 5) (v := .ref mla) (C := RX5) (T := TX5) (N := 25) hx hb hts inX5 hown hK hP 0 rfl rfl 17 (by decide) (hts _ w_315) (fun _ h9 => h9) rfl dX5_lead_64 ?_
              refine lv_aload_n hx hb dX5_lead_67 rfl (lv_at hl 0 rfl) ?_
              refine va_get (D := D) (ci := 5) (v := .int (nI lc)) (C := RX5) (T := TX5) (N := 25) hx hb hts inX5 hown hK hP 0 rfl rfl 15 (by decide) (hts _ w_313) (fun _ h9 => h9) rfl dX5_lead_68 ?_
              refine lv_iload_n hx hb dX5_lead_71 rfl (lv_at hl 2 rfl) ?_
              refine tb_iastO hx hb hK hP hD hS 2 0 rfl rfl a (by omega) (by omega) dX5_lead_72 (fun H locs hP hD hS => ?_)
              have hP : va_P D vwCl [(md, .inr (5, [.int (nI 0), .int (nI R), .int (nI n), .ref mt, .ref mv, .ref mc, .int (oI cu), .int (nI nt), .ref mk, .ref ms, .ref mp, .int (nI cH), .int (nI oH), .int (nI fH), .ref mi, .int (nI lc), .ref mlo, .ref mla, .ref mlb, .int (nI fc), .ref mf, .ref mst, .int (nI my), .ref mr, .ref mh])), (mlo, .inl (ct 0, 4, .inl (aN (va_up lo lc o)))), (mla, .inl (ct 0, 4, .inl (aO (va_up lA lc a)))), (mlb, .inl (ct 0, 4, .inl (aO lB)))] H := hP
              have hD : va_D A [(md, .inr (5, [.int (nI 0), .int (nI R), .int (nI n), .ref mt, .ref mv, .ref mc, .int (oI cu), .int (nI nt), .ref mk, .ref ms, .ref mp, .int (nI cH), .int (nI oH), .int (nI fH), .ref mi, .int (nI lc), .ref mlo, .ref mla, .ref mlb, .int (nI fc), .ref mf, .ref mst, .int (nI my), .ref mr, .ref mh])), (mlo, .inl (ct 0, 4, .inl (aN (va_up lo lc o)))), (mla, .inl (ct 0, 4, .inl (aO (va_up lA lc a)))), (mlb, .inl (ct 0, 4, .inl (aO lB)))] := hD
              refine lv_aload_n hx hb dX5_lead_73 rfl (lv_at hl 0 rfl) ?_
              refine va_get (D := D) (ci := 5) (v := .ref mlb) (C := RX5) (T := TX5) (N := 25) hx hb hts inX5 hown hK hP 0 rfl rfl 18 (by decide) (hts _ w_316) (fun _ h9 => h9) rfl dX5_lead_74 ?_
              refine lv_aload_n hx hb dX5_lead_77 rfl (lv_at hl 0 rfl) ?_
              refine va_get (D := D) (ci := 5) (v := .int (nI lc)) (C := RX5) (T := TX5) (N := 25) hx hb hts inX5 hown hK hP 0 rfl rfl 15 (by decide) (hts _ w_313) (fun _ h9 => h9) rfl dX5_lead_78 ?_
              refine lv_iload_n hx hb dX5_lead_81 rfl (lv_at hl 3 rfl) ?_
              refine tb_iastO hx hb hK hP hD hS 3 0 rfl rfl b (by omega) (by omega) dX5_lead_82 (fun H locs hP hD hS => ?_)
              have hP : va_P D vwCl [(md, .inr (5, [.int (nI 0), .int (nI R), .int (nI n), .ref mt, .ref mv, .ref mc, .int (oI cu), .int (nI nt), .ref mk, .ref ms, .ref mp, .int (nI cH), .int (nI oH), .int (nI fH), .ref mi, .int (nI lc), .ref mlo, .ref mla, .ref mlb, .int (nI fc), .ref mf, .ref mst, .int (nI my), .ref mr, .ref mh])), (mlo, .inl (ct 0, 4, .inl (aN (va_up lo lc o)))), (mla, .inl (ct 0, 4, .inl (aO (va_up lA lc a)))), (mlb, .inl (ct 0, 4, .inl (aO (va_up lB lc b))))] H := hP
              have hD : va_D A [(md, .inr (5, [.int (nI 0), .int (nI R), .int (nI n), .ref mt, .ref mv, .ref mc, .int (oI cu), .int (nI nt), .ref mk, .ref ms, .ref mp, .int (nI cH), .int (nI oH), .int (nI fH), .ref mi, .int (nI lc), .ref mlo, .ref mla, .ref mlb, .int (nI fc), .ref mf, .ref mst, .int (nI my), .ref mr, .ref mh])), (mlo, .inl (ct 0, 4, .inl (aN (va_up lo lc o)))), (mla, .inl (ct 0, 4, .inl (aO (va_up lA lc a)))), (mlb, .inl (ct 0, 4, .inl (aO (va_up lB lc b))))] := hD
              refine lv_aload_n hx hb dX5_lead_83 rfl (lv_at hl 0 rfl) ?_
              refine lv_dup hx hb dX5_lead_84 rfl ?_
              refine va_get (D := D) (ci := 5) (v := .int (nI lc)) (C := RX5) (T := TX5) (N := 25) hx hb hts inX5 hown hK hP 0 rfl rfl 15 (by decide) (hts _ w_313) (fun _ h9 => h9) rfl dX5_lead_85 ?_
              refine lv_iconst (v := nI 1) hx hb dX5_lead_88 (by decide) ?_
              refine tb_iadd hx hb dX5_lead_89 ?_
              refine va_put (D := D) (ci := 5) (v := .int (nI (lc + 1))) (ty := .int) (C := RX5) (T := TX5) (N := 25) hx hb hts inX5 tyX5 tyX5_ok nmX5 hown hK hP hD hS 0 rfl rfl 15 (by decide) (hts _ w_313) (fun _ h9 => h9) rfl (by decide +kernel) rfl rfl (Nat.le_of_ble_eq_true rfl) dX5_lead_90 (fun H locs hP hD hS => ?_)
              have hP : va_P D vwCl [(md, .inr (5, [.int (nI 0), .int (nI R), .int (nI n), .ref mt, .ref mv, .ref mc, .int (oI cu), .int (nI nt), .ref mk, .ref ms, .ref mp, .int (nI cH), .int (nI oH), .int (nI fH), .ref mi, .int (nI (lc + 1)), .ref mlo, .ref mla, .ref mlb, .int (nI fc), .ref mf, .ref mst, .int (nI my), .ref mr, .ref mh])), (mlo, .inl (ct 0, 4, .inl (aN (va_up lo lc o)))), (mla, .inl (ct 0, 4, .inl (aO (va_up lA lc a)))), (mlb, .inl (ct 0, 4, .inl (aO (va_up lB lc b))))] H := hP
              have hD : va_D A [(md, .inr (5, [.int (nI 0), .int (nI R), .int (nI n), .ref mt, .ref mv, .ref mc, .int (oI cu), .int (nI nt), .ref mk, .ref ms, .ref mp, .int (nI cH), .int (nI oH), .int (nI fH), .ref mi, .int (nI (lc + 1)), .ref mlo, .ref mla, .ref mlb, .int (nI fc), .ref mf, .ref mst, .int (nI my), .ref mr, .ref mh])), (mlo, .inl (ct 0, 4, .inl (aN (va_up lo lc o)))), (mla, .inl (ct 0, 4, .inl (aO (va_up lA lc a)))), (mlb, .inl (ct 0, 4, .inl (aO (va_up lB lc b))))] := hD
              refine lv_aload_n hx hb dX5_lead_93 rfl (lv_at hl 0 rfl) ?_
              refine va_get (D := D) (ci := 5) (v := .int (nI (lc + 1))) (C := RX5) (T := TX5) (N := 25) hx hb hts inX5 hown hK hP 0 rfl rfl 15 (by decide) (hts _ w_313) (fun _ h9 => h9) rfl dX5_lead_94 ?_
              have hP9 : va_P D vwCl [(md, .inr (5, [.int (nI 0), .int (nI R), .int (nI n), .ref mt, .ref mv, .ref mc, .int (oI cu), .int (nI nt), .ref mk, .ref ms, .ref mp, .int (nI cH), .int (nI oH), .int (nI fH), .ref mi, .int (nI (lc + 1)), .ref mlo, .ref mla, .ref mlb, .int (nI fc), .ref mf, .ref mst, .int (nI my), .ref mr, .ref mh])), (mlo, .inl (ct 0, 4, .inl (aN (va_up lo lc o)))), (mla, .inl (ct 0, 4, .inl (aO (va_up lA lc a)))), (mlb, .inl (ct 0, 4, .inl (aO (va_up lB lc b))))] _ := hP.sub [0, 1, 2, 3] rfl
              have hD9 : va_D A [(md, .inr (5, [.int (nI 0), .int (nI R), .int (nI n), .ref mt, .ref mv, .ref mc, .int (oI cu), .int (nI nt), .ref mk, .ref ms, .ref mp, .int (nI cH), .int (nI oH), .int (nI fH), .ref mi, .int (nI (lc + 1)), .ref mlo, .ref mla, .ref mlb, .int (nI fc), .ref mf, .ref mst, .int (nI my), .ref mr, .ref mh])), (mlo, .inl (ct 0, 4, .inl (aN (va_up lo lc o)))), (mla, .inl (ct 0, 4, .inl (aO (va_up lA lc a)))), (mlb, .inl (ct 0, 4, .inl (aO (va_up lB lc b))))] := hD.sub [0, 1, 2, 3] (by decide) rfl
              exact W.iret (v := nI (lc + 1)) hx hb hr (fun t ht hW => ⟨⟨_, (), rfl, rfl, by rw [ht]; exact hP9, hD9⟩, hS.F ht⟩) hS.2.2 dX5_lead_97
            · exfalso; omega
          · exact absurd ⟨oI_none ha c36, fun z => c31 (by rw [z]; rfl)⟩ hsec
      · exact absurd (oI_ok hb9) c23
