set_option maxHeartbeats 4000000 in
set_option maxRecDepth 100000 in
theorem m_seconds_m2 (l : Launch) (D : va_G) (ct : Nat → ClassId) (md : Nat) (R : Nat) (n : Nat) (cu : Option Nat) (nt : Nat) (cH : Nat) (oH : Nat) (fH : Nat) (lc : Nat) (fc : Nat) (my : Nat) (mt : Nat) (mv : Nat) (mc : Nat) (mk : Nat) (ms : Nat) (mp : Nat) (mi : Nat) (mlo : Nat) (mla : Nat) (mlb : Nat) (mf : Nat) (mst : Nat) (mr : Nat) (mh : Nat) (x : Int32) (y : Int32) (u : Int32) (sz : Nat) (hbad : ¬ (tRng x 6 ∧ tRng y 1000 ∧ tRng u 1000001)) : Met l yX5_seconds wsX5_seconds ({ frames := 1, cells := 0, slots := 0, locals := 20 }) (tb_Pw D ct [.ref md, .int x, .int y, .int u] sz [(md, .inr (5, [.int (nI 0), .int (nI R), .int (nI n), .ref mt, .ref mv, .ref mc, .int (oI cu), .int (nI nt), .ref mk, .ref ms, .ref mp, .int (nI cH), .int (nI oH), .int (nI fH), .ref mi, .int (nI lc), .ref mlo, .ref mla, .ref mlb, .int (nI fc), .ref mf, .ref mst, .int (nI my), .ref mr, .ref mh]))]) (va_Qi (fun r _ => r = (-2)) (tb_B D (va_A [(md, .inr (5, [.int (nI 0), .int (nI R), .int (nI n), .ref mt, .ref mv, .ref mc, .int (oI cu), .int (nI nt), .ref mk, .ref ms, .ref mp, .int (nI cH), .int (nI oH), .int (nI fH), .ref mi, .int (nI lc), .ref mlo, .ref mla, .ref mlb, .int (nI fc), .ref mf, .ref mst, .int (nI my), .ref mr, .ref mh]))] sz) [(md, .inr (5, [.int (nI 0), .int (nI R), .int (nI n), .ref mt, .ref mv, .ref mc, .int (oI cu), .int (nI nt), .ref mk, .ref ms, .ref mp, .int (nI cH), .int (nI oH), .int (nI fH), .ref mi, .int (nI lc), .ref mlo, .ref mla, .ref mlb, .int (nI fc), .ref mf, .ref mst, .int (nI my), .ref mr, .ref mh]))]) (va_A [(md, .inr (5, [.int (nI 0), .int (nI R), .int (nI n), .ref mt, .ref mv, .ref mc, .int (oI cu), .int (nI nt), .ref mk, .ref ms, .ref mp, .int (nI cH), .int (nI oH), .int (nI fH), .ref mi, .int (nI lc), .ref mlo, .ref mla, .ref mlb, .int (nI fc), .ref mf, .ref mst, .int (nI my), .ref mr, .ref mh]))] sz)) 0 0 (va_A [(md, .inr (5, [.int (nI 0), .int (nI R), .int (nI n), .ref mt, .ref mv, .ref mc, .int (oI cu), .int (nI nt), .ref mk, .ref ms, .ref mp, .int (nI cH), .int (nI oH), .int (nI fH), .ref mi, .int (nI lc), .ref mlo, .ref mla, .ref mlb, .int (nI fc), .ref mf, .ref mst, .int (nI my), .ref mr, .ref mh]))] sz) := by
  refine Met.ofW (cc := cX5_seconds) (maxL := 6) (ret := (some .int)) (by decide) rfl ?_
  intro p e s m args below meth c s₁ B hml hv
  obtain ⟨rfl, hsz, hP, hK, hD0, hZ⟩ := hv
  have hx := B.exec
  have hb := B.bytes
  have hr := B.returns
  have hts0 := atoms_spec (ws := wsX5_seconds) B.pre
  have hts : ∀ w9 ∈ aw, w9.before ([.ref md, .int x, .int y, .int u] : List Value).toArray s = true := fun w9 h9 => hts0 w9 (List.mem_cons_of_mem _ h9)
  have hown : s.vm.findClass RX5 = some m.cls := findClass_of_methodNamed B.named
  have hlocks := B.notSynchronized
  subst hsz
  have hD := hD0.self (sz := s.heap.size)
  generalize hAe : va_A [(md, .inr (5, [.int (nI 0), .int (nI R), .int (nI n), .ref mt, .ref mv, .ref mc, .int (oI cu), .int (nI nt), .ref mk, .ref ms, .ref mp, .int (nI cH), .int (nI oH), .int (nI fH), .ref mi, .int (nI lc), .ref mlo, .ref mla, .ref mlb, .int (nI fc), .ref mf, .ref mst, .int (nI my), .ref mr, .ref mh]))] s.heap.size = A at hD hZ ⊢
  have hA : ∀ q : Nat, s.heap.size ≤ q → A q := fun q h => by rw [← hAe]; exact Or.inr h
  have hS : va_S A s.heap s.heap [] := va_S.rf
  have hP : va_P D vwCl [(md, .inr (5, [.int (nI 0), .int (nI R), .int (nI n), .ref mt, .ref mv, .ref mc, .int (oI cu), .int (nI nt), .ref mk, .ref ms, .ref mp, .int (nI cH), .int (nI oH), .int (nI fH), .ref mi, .int (nI lc), .ref mlo, .ref mla, .ref mlb, .int (nI fc), .ref mf, .ref mst, .int (nI my), .ref mr, .ref mh]))] s.heap := hP
  have hl := lv_entry ([.ref md, .int x, .int y, .int u]) (n := 6) (Nat.le_of_ble_eq_true rfl)
  rw [lg_entry_eq]
  generalize (lg_sl ([.ref md, .int x, .int y, .int u]) ++ List.replicate (6 - (lg_sl ([.ref md, .int x, .int y, .int u])).length) Slot.unset).toArray = ls at hl ⊢
  have hl : lv_has ls 6 [(0, .ref md), (1, .int x), (2, .int y), (3, .int u)] := hl
  refine lv_aload_n hx hb dX5_seconds_0 rfl (lv_at hl 0 rfl) ?_
  refine lv_iconst (v := nI 0) hx hb dX5_seconds_1 (by decide) ?_
  refine va_put (D := D) (ci := 5) (v := .int (nI 0)) (ty := .int) (C := RX5) (T := TX5) (N := 25) hx hb hts inX5 tyX5 tyX5_ok nmX5 hown hK hP hD hS 0 rfl rfl 0 (by decide) (hts _ w_298) (fun _ h9 => h9) rfl (by decide +kernel) rfl rfl (Nat.le_of_ble_eq_true rfl) dX5_seconds_2 (fun H locs hP hD hS => ?_)
  have hP : va_P D vwCl [(md, .inr (5, [.int (nI 0), .int (nI R), .int (nI n), .ref mt, .ref mv, .ref mc, .int (oI cu), .int (nI nt), .ref mk, .ref ms, .ref mp, .int (nI cH), .int (nI oH), .int (nI fH), .ref mi, .int (nI lc), .ref mlo, .ref mla, .ref mlb, .int (nI fc), .ref mf, .ref mst, .int (nI my), .ref mr, .ref mh]))] H := hP
  have hD : va_D A [(md, .inr (5, [.int (nI 0), .int (nI R), .int (nI n), .ref mt, .ref mv, .ref mc, .int (oI cu), .int (nI nt), .ref mk, .ref ms, .ref mp, .int (nI cH), .int (nI oH), .int (nI fH), .ref mi, .int (nI lc), .ref mlo, .ref mla, .ref mlb, .int (nI fc), .ref mf, .ref mst, .int (nI my), .ref mr, .ref mh]))] := hD
  refine lv_iload_n hx hb dX5_seconds_5 rfl (lv_at hl 1 rfl) ?_
  refine vp_callSi (va_Run.run (va_runS (As := [.int x]) (rest := []) ⟨hx, hb, hml, hown, hts⟩ (m_isOrder l D ct x ) (va_cwS 1 hts (gw_S (fun _ h => h) w_361 w_362 w_30 wcX5_isOrder) rfl rfl rfl hvX5_isOrder.2 ⟨Nat.le_of_ble_eq_true rfl, Nat.le_of_ble_eq_true rfl⟩) (tb_prS hP hK hZ hS [] rfl) rfl rfl hl.1 rfl (lv_room (Nat.le_of_ble_eq_true rfl)) dX5_seconds_6 ⟨Nat.zero_le _, Nat.zero_le _⟩)) (fun r_6 hr_6 => ?_)
  obtain rfl : r_6 = bB (decide (tRng x 6)) := hr_6
  refine tb_if_eqB (tgt := 26) hx hb dX5_seconds_9 (by decide) (fun c9 => ?_) (fun c9 => ?_)
  · refine lv_bipush (v := (-2)) hx hb dX5_seconds_26 (by decide) ?_
    have hP9 : va_P D vwCl [(md, .inr (5, [.int (nI 0), .int (nI R), .int (nI n), .ref mt, .ref mv, .ref mc, .int (oI cu), .int (nI nt), .ref mk, .ref ms, .ref mp, .int (nI cH), .int (nI oH), .int (nI fH), .ref mi, .int (nI lc), .ref mlo, .ref mla, .ref mlb, .int (nI fc), .ref mf, .ref mst, .int (nI my), .ref mr, .ref mh]))] _ := hP.sub [0] rfl
    have hD9 : va_D A [(md, .inr (5, [.int (nI 0), .int (nI R), .int (nI n), .ref mt, .ref mv, .ref mc, .int (oI cu), .int (nI nt), .ref mk, .ref ms, .ref mp, .int (nI cH), .int (nI oH), .int (nI fH), .ref mi, .int (nI lc), .ref mlo, .ref mla, .ref mlb, .int (nI fc), .ref mf, .ref mst, .int (nI my), .ref mr, .ref mh]))] := hD.sub [0] (by decide) rfl
    exact W.iret (v := (-2)) hx hb hr (fun t ht hW => ⟨⟨_, (), rfl, rfl, by rw [ht]; exact hP9, hD9⟩, hS.F ht⟩) hS.2.2 dX5_seconds_28
  · refine lv_iload_n hx hb dX5_seconds_12 rfl (lv_at hl 2 rfl) ?_
    refine vp_callSi (va_Run.run (va_runS (As := [.int y]) (rest := []) ⟨hx, hb, hml, hown, hts⟩ (m_isTerm l D ct y ) (va_cwS 1 hts (gw_S (fun _ h => h) w_329 w_330 w_30 wcX5_isTerm) rfl rfl rfl hvX5_isTerm.2 ⟨Nat.le_of_ble_eq_true rfl, Nat.le_of_ble_eq_true rfl⟩) (tb_prS hP hK hZ hS [] rfl) rfl rfl hl.1 rfl (lv_room (Nat.le_of_ble_eq_true rfl)) dX5_seconds_13 ⟨Nat.zero_le _, Nat.zero_le _⟩)) (fun r_13 hr_13 => ?_)
    obtain rfl : r_13 = bB (decide (tRng y 1000)) := hr_13
    refine tb_if_eqB (tgt := 26) hx hb dX5_seconds_16 (by decide) (fun c16 => ?_) (fun c16 => ?_)
    · refine lv_bipush (v := (-2)) hx hb dX5_seconds_26 (by decide) ?_
      have hP9 : va_P D vwCl [(md, .inr (5, [.int (nI 0), .int (nI R), .int (nI n), .ref mt, .ref mv, .ref mc, .int (oI cu), .int (nI nt), .ref mk, .ref ms, .ref mp, .int (nI cH), .int (nI oH), .int (nI fH), .ref mi, .int (nI lc), .ref mlo, .ref mla, .ref mlb, .int (nI fc), .ref mf, .ref mst, .int (nI my), .ref mr, .ref mh]))] _ := hP.sub [0] rfl
      have hD9 : va_D A [(md, .inr (5, [.int (nI 0), .int (nI R), .int (nI n), .ref mt, .ref mv, .ref mc, .int (oI cu), .int (nI nt), .ref mk, .ref ms, .ref mp, .int (nI cH), .int (nI oH), .int (nI fH), .ref mi, .int (nI lc), .ref mlo, .ref mla, .ref mlb, .int (nI fc), .ref mf, .ref mst, .int (nI my), .ref mr, .ref mh]))] := hD.sub [0] (by decide) rfl
      exact W.iret (v := (-2)) hx hb hr (fun t ht hW => ⟨⟨_, (), rfl, rfl, by rw [ht]; exact hP9, hD9⟩, hS.F ht⟩) hS.2.2 dX5_seconds_28
    · refine lv_iload_n hx hb dX5_seconds_19 rfl (lv_at hl 3 rfl) ?_
      refine vp_callSi (va_Run.run (va_runS (As := [.int u]) (rest := []) ⟨hx, hb, hml, hown, hts⟩ (m_isVersion l D ct u ) (va_cwS 1 hts (gw_S (fun _ h => h) w_331 w_332 w_30 wcX5_isVersion) rfl rfl rfl hvX5_isVersion.2 ⟨Nat.le_of_ble_eq_true rfl, Nat.le_of_ble_eq_true rfl⟩) (tb_prS hP hK hZ hS [] rfl) rfl rfl hl.1 rfl (lv_room (Nat.le_of_ble_eq_true rfl)) dX5_seconds_20 ⟨Nat.zero_le _, Nat.zero_le _⟩)) (fun r_20 hr_20 => ?_)
      obtain rfl : r_20 = bB (decide (tRng u 1000001)) := hr_20
      refine tb_if_neB (tgt := 29) hx hb dX5_seconds_23 (by decide) (fun c23 => ?_) (fun c23 => ?_)
      · exact absurd ⟨c9, c16, c23⟩ hbad
      · refine lv_bipush (v := (-2)) hx hb dX5_seconds_26 (by decide) ?_
        have hP9 : va_P D vwCl [(md, .inr (5, [.int (nI 0), .int (nI R), .int (nI n), .ref mt, .ref mv, .ref mc, .int (oI cu), .int (nI nt), .ref mk, .ref ms, .ref mp, .int (nI cH), .int (nI oH), .int (nI fH), .ref mi, .int (nI lc), .ref mlo, .ref mla, .ref mlb, .int (nI fc), .ref mf, .ref mst, .int (nI my), .ref mr, .ref mh]))] _ := hP.sub [0] rfl
        have hD9 : va_D A [(md, .inr (5, [.int (nI 0), .int (nI R), .int (nI n), .ref mt, .ref mv, .ref mc, .int (oI cu), .int (nI nt), .ref mk, .ref ms, .ref mp, .int (nI cH), .int (nI oH), .int (nI fH), .ref mi, .int (nI lc), .ref mlo, .ref mla, .ref mlb, .int (nI fc), .ref mf, .ref mst, .int (nI my), .ref mr, .ref mh]))] := hD.sub [0] (by decide) rfl
        exact W.iret (v := (-2)) hx hb hr (fun t ht hW => ⟨⟨_, (), rfl, rfl, by rw [ht]; exact hP9, hD9⟩, hS.F ht⟩) hS.2.2 dX5_seconds_28

set_option maxHeartbeats 4000000 in
set_option maxRecDepth 100000 in
theorem m_seconds_m3 (l : Launch) (D : va_G) (ct : Nat → ClassId) (md : Nat) (R : Nat) (n : Nat) (cu : Option Nat) (nt : Nat) (cH : Nat) (oH : Nat) (fH : Nat) (lc : Nat) (fc : Nat) (my : Nat) (mt : Nat) (mv : Nat) (mc : Nat) (mk : Nat) (ms : Nat) (mp : Nat) (mi : Nat) (mlo : Nat) (mla : Nat) (mlb : Nat) (mf : Nat) (mst : Nat) (mr : Nat) (mh : Nat) (o : Nat) (a : Nat) (vv : Nat) (sz : Nat) (ho : o < 6) (ha : a < 1000) (hv : vv < 1000001) (hlow : ∃ j, cu = some j ∧ vv < j) (hcb : ∀ j, cu = some j → j < 2 ^ 31) : Met l yX5_seconds wsX5_seconds ({ frames := 1, cells := 0, slots := 0, locals := 20 }) (tb_Pw D ct [.ref md, .int (nI o), .int (nI a), .int (nI vv)] sz [(md, .inr (5, [.int (nI 0), .int (nI R), .int (nI n), .ref mt, .ref mv, .ref mc, .int (oI cu), .int (nI nt), .ref mk, .ref ms, .ref mp, .int (nI cH), .int (nI oH), .int (nI fH), .ref mi, .int (nI lc), .ref mlo, .ref mla, .ref mlb, .int (nI fc), .ref mf, .ref mst, .int (nI my), .ref mr, .ref mh]))]) (va_Qi (fun r _ => r = (-3)) (tb_B D (va_A [(md, .inr (5, [.int (nI 0), .int (nI R), .int (nI n), .ref mt, .ref mv, .ref mc, .int (oI cu), .int (nI nt), .ref mk, .ref ms, .ref mp, .int (nI cH), .int (nI oH), .int (nI fH), .ref mi, .int (nI lc), .ref mlo, .ref mla, .ref mlb, .int (nI fc), .ref mf, .ref mst, .int (nI my), .ref mr, .ref mh]))] sz) [(md, .inr (5, [.int (nI 0), .int (nI R), .int (nI n), .ref mt, .ref mv, .ref mc, .int (oI cu), .int (nI nt), .ref mk, .ref ms, .ref mp, .int (nI cH), .int (nI oH), .int (nI fH), .ref mi, .int (nI lc), .ref mlo, .ref mla, .ref mlb, .int (nI fc), .ref mf, .ref mst, .int (nI my), .ref mr, .ref mh]))]) (va_A [(md, .inr (5, [.int (nI 0), .int (nI R), .int (nI n), .ref mt, .ref mv, .ref mc, .int (oI cu), .int (nI nt), .ref mk, .ref ms, .ref mp, .int (nI cH), .int (nI oH), .int (nI fH), .ref mi, .int (nI lc), .ref mlo, .ref mla, .ref mlb, .int (nI fc), .ref mf, .ref mst, .int (nI my), .ref mr, .ref mh]))] sz)) 0 0 (va_A [(md, .inr (5, [.int (nI 0), .int (nI R), .int (nI n), .ref mt, .ref mv, .ref mc, .int (oI cu), .int (nI nt), .ref mk, .ref ms, .ref mp, .int (nI cH), .int (nI oH), .int (nI fH), .ref mi, .int (nI lc), .ref mlo, .ref mla, .ref mlb, .int (nI fc), .ref mf, .ref mst, .int (nI my), .ref mr, .ref mh]))] sz) := by
  refine Met.ofW (cc := cX5_seconds) (maxL := 6) (ret := (some .int)) (by decide) rfl ?_
  intro p e s m args below meth c s₁ B hml hv
  obtain ⟨rfl, hsz, hP, hK, hD0, hZ⟩ := hv
  have hx := B.exec
  have hb := B.bytes
  have hr := B.returns
  have hts0 := atoms_spec (ws := wsX5_seconds) B.pre
  have hts : ∀ w9 ∈ aw, w9.before ([.ref md, .int (nI o), .int (nI a), .int (nI vv)] : List Value).toArray s = true := fun w9 h9 => hts0 w9 (List.mem_cons_of_mem _ h9)
  have hown : s.vm.findClass RX5 = some m.cls := findClass_of_methodNamed B.named
  have hlocks := B.notSynchronized
  subst hsz
  have hD := hD0.self (sz := s.heap.size)
  generalize hAe : va_A [(md, .inr (5, [.int (nI 0), .int (nI R), .int (nI n), .ref mt, .ref mv, .ref mc, .int (oI cu), .int (nI nt), .ref mk, .ref ms, .ref mp, .int (nI cH), .int (nI oH), .int (nI fH), .ref mi, .int (nI lc), .ref mlo, .ref mla, .ref mlb, .int (nI fc), .ref mf, .ref mst, .int (nI my), .ref mr, .ref mh]))] s.heap.size = A at hD hZ ⊢
  have hA : ∀ q : Nat, s.heap.size ≤ q → A q := fun q h => by rw [← hAe]; exact Or.inr h
  have hS : va_S A s.heap s.heap [] := va_S.rf
  have hP : va_P D vwCl [(md, .inr (5, [.int (nI 0), .int (nI R), .int (nI n), .ref mt, .ref mv, .ref mc, .int (oI cu), .int (nI nt), .ref mk, .ref ms, .ref mp, .int (nI cH), .int (nI oH), .int (nI fH), .ref mi, .int (nI lc), .ref mlo, .ref mla, .ref mlb, .int (nI fc), .ref mf, .ref mst, .int (nI my), .ref mr, .ref mh]))] s.heap := hP
  have hl := lv_entry ([.ref md, .int (nI o), .int (nI a), .int (nI vv)]) (n := 6) (Nat.le_of_ble_eq_true rfl)
  rw [lg_entry_eq]
  generalize (lg_sl ([.ref md, .int (nI o), .int (nI a), .int (nI vv)]) ++ List.replicate (6 - (lg_sl ([.ref md, .int (nI o), .int (nI a), .int (nI vv)])).length) Slot.unset).toArray = ls at hl ⊢
  have hl : lv_has ls 6 [(0, .ref md), (1, .int (nI o)), (2, .int (nI a)), (3, .int (nI vv))] := hl
  refine lv_aload_n hx hb dX5_seconds_0 rfl (lv_at hl 0 rfl) ?_
  refine lv_iconst (v := nI 0) hx hb dX5_seconds_1 (by decide) ?_
  refine va_put (D := D) (ci := 5) (v := .int (nI 0)) (ty := .int) (C := RX5) (T := TX5) (N := 25) hx hb hts inX5 tyX5 tyX5_ok nmX5 hown hK hP hD hS 0 rfl rfl 0 (by decide) (hts _ w_298) (fun _ h9 => h9) rfl (by decide +kernel) rfl rfl (Nat.le_of_ble_eq_true rfl) dX5_seconds_2 (fun H locs hP hD hS => ?_)
  have hP : va_P D vwCl [(md, .inr (5, [.int (nI 0), .int (nI R), .int (nI n), .ref mt, .ref mv, .ref mc, .int (oI cu), .int (nI nt), .ref mk, .ref ms, .ref mp, .int (nI cH), .int (nI oH), .int (nI fH), .ref mi, .int (nI lc), .ref mlo, .ref mla, .ref mlb, .int (nI fc), .ref mf, .ref mst, .int (nI my), .ref mr, .ref mh]))] H := hP
  have hD : va_D A [(md, .inr (5, [.int (nI 0), .int (nI R), .int (nI n), .ref mt, .ref mv, .ref mc, .int (oI cu), .int (nI nt), .ref mk, .ref ms, .ref mp, .int (nI cH), .int (nI oH), .int (nI fH), .ref mi, .int (nI lc), .ref mlo, .ref mla, .ref mlb, .int (nI fc), .ref mf, .ref mst, .int (nI my), .ref mr, .ref mh]))] := hD
  refine lv_iload_n hx hb dX5_seconds_5 rfl (lv_at hl 1 rfl) ?_
  refine vp_callSi (va_Run.run (va_runS (As := [.int (nI o)]) (rest := []) ⟨hx, hb, hml, hown, hts⟩ (m_isOrder l D ct (nI o) ) (va_cwS 1 hts (gw_S (fun _ h => h) w_361 w_362 w_30 wcX5_isOrder) rfl rfl rfl hvX5_isOrder.2 ⟨Nat.le_of_ble_eq_true rfl, Nat.le_of_ble_eq_true rfl⟩) (tb_prS hP hK hZ hS [] rfl) rfl rfl hl.1 rfl (lv_room (Nat.le_of_ble_eq_true rfl)) dX5_seconds_6 ⟨Nat.zero_le _, Nat.zero_le _⟩)) (fun r_6 hr_6 => ?_)
  obtain rfl : r_6 = bB (decide (tRng (nI o) 6)) := hr_6
  refine tb_if_eqB (tgt := 26) hx hb dX5_seconds_9 (by decide) (fun c9 => ?_) (fun c9 => ?_)
  · exact absurd (tRng_nI ho (by decide)) c9
  · refine lv_iload_n hx hb dX5_seconds_12 rfl (lv_at hl 2 rfl) ?_
    refine vp_callSi (va_Run.run (va_runS (As := [.int (nI a)]) (rest := []) ⟨hx, hb, hml, hown, hts⟩ (m_isTerm l D ct (nI a) ) (va_cwS 1 hts (gw_S (fun _ h => h) w_329 w_330 w_30 wcX5_isTerm) rfl rfl rfl hvX5_isTerm.2 ⟨Nat.le_of_ble_eq_true rfl, Nat.le_of_ble_eq_true rfl⟩) (tb_prS hP hK hZ hS [] rfl) rfl rfl hl.1 rfl (lv_room (Nat.le_of_ble_eq_true rfl)) dX5_seconds_13 ⟨Nat.zero_le _, Nat.zero_le _⟩)) (fun r_13 hr_13 => ?_)
    obtain rfl : r_13 = bB (decide (tRng (nI a) 1000)) := hr_13
    refine tb_if_eqB (tgt := 26) hx hb dX5_seconds_16 (by decide) (fun c16 => ?_) (fun c16 => ?_)
    · exact absurd (tRng_nI ha (by decide)) c16
    · refine lv_iload_n hx hb dX5_seconds_19 rfl (lv_at hl 3 rfl) ?_
      refine vp_callSi (va_Run.run (va_runS (As := [.int (nI vv)]) (rest := []) ⟨hx, hb, hml, hown, hts⟩ (m_isVersion l D ct (nI vv) ) (va_cwS 1 hts (gw_S (fun _ h => h) w_331 w_332 w_30 wcX5_isVersion) rfl rfl rfl hvX5_isVersion.2 ⟨Nat.le_of_ble_eq_true rfl, Nat.le_of_ble_eq_true rfl⟩) (tb_prS hP hK hZ hS [] rfl) rfl rfl hl.1 rfl (lv_room (Nat.le_of_ble_eq_true rfl)) dX5_seconds_20 ⟨Nat.zero_le _, Nat.zero_le _⟩)) (fun r_20 hr_20 => ?_)
      obtain rfl : r_20 = bB (decide (tRng (nI vv) 1000001)) := hr_20
      refine tb_if_neB (tgt := 29) hx hb dX5_seconds_23 (by decide) (fun c23 => ?_) (fun c23 => ?_)
      · refine lv_iload_n hx hb dX5_seconds_29 rfl (lv_at hl 3 rfl) ?_
        refine lv_aload_n hx hb dX5_seconds_30 rfl (lv_at hl 0 rfl) ?_
        refine va_get (D := D) (ci := 5) (v := .int (oI cu)) (C := RX5) (T := TX5) (N := 25) hx hb hts inX5 hown hK hP 0 rfl rfl 6 (by decide) (hts _ w_304) (fun _ h9 => h9) rfl dX5_seconds_31 ?_
        refine lv_icmp_ge (tgt := 40) hx hb dX5_seconds_34 (by decide) (fun c34 => ?_) (fun c34 => ?_)
        · exact absurd (oI_lt hlow hcb) (Int32.not_lt.mpr c34)
        · refine lv_bipush (v := (-3)) hx hb dX5_seconds_37 (by decide) ?_
          have hP9 : va_P D vwCl [(md, .inr (5, [.int (nI 0), .int (nI R), .int (nI n), .ref mt, .ref mv, .ref mc, .int (oI cu), .int (nI nt), .ref mk, .ref ms, .ref mp, .int (nI cH), .int (nI oH), .int (nI fH), .ref mi, .int (nI lc), .ref mlo, .ref mla, .ref mlb, .int (nI fc), .ref mf, .ref mst, .int (nI my), .ref mr, .ref mh]))] _ := hP.sub [0] rfl
          have hD9 : va_D A [(md, .inr (5, [.int (nI 0), .int (nI R), .int (nI n), .ref mt, .ref mv, .ref mc, .int (oI cu), .int (nI nt), .ref mk, .ref ms, .ref mp, .int (nI cH), .int (nI oH), .int (nI fH), .ref mi, .int (nI lc), .ref mlo, .ref mla, .ref mlb, .int (nI fc), .ref mf, .ref mst, .int (nI my), .ref mr, .ref mh]))] := hD.sub [0] (by decide) rfl
          exact W.iret (v := (-3)) hx hb hr (fun t ht hW => ⟨⟨_, (), rfl, rfl, by rw [ht]; exact hP9, hD9⟩, hS.F ht⟩) hS.2.2 dX5_seconds_39
      · exact absurd (tRng_nI hv (by decide)) c23

set_option maxHeartbeats 4000000 in
set_option maxRecDepth 100000 in
theorem m_sum_m2 (l : Launch) (D : va_G) (ct : Nat → ClassId) (md : Nat) (R : Nat) (n : Nat) (cu : Option Nat) (nt : Nat) (cH : Nat) (oH : Nat) (fH : Nat) (lc : Nat) (fc : Nat) (my : Nat) (mt : Nat) (mv : Nat) (mc : Nat) (mk : Nat) (ms : Nat) (mp : Nat) (mi : Nat) (mlo : Nat) (mla : Nat) (mlb : Nat) (mf : Nat) (mst : Nat) (mr : Nat) (mh : Nat) (x : Int32) (y : Int32) (u : Int32) (sz : Nat) (hbad : ¬ (tRng x 6 ∧ tRng y 1000 ∧ tRng u 1000001)) : Met l yX5_sum wsX5_sum ({ frames := 1, cells := 0, slots := 0, locals := 20 }) (tb_Pw D ct [.ref md, .int x, .int y, .int u] sz [(md, .inr (5, [.int (nI 0), .int (nI R), .int (nI n), .ref mt, .ref mv, .ref mc, .int (oI cu), .int (nI nt), .ref mk, .ref ms, .ref mp, .int (nI cH), .int (nI oH), .int (nI fH), .ref mi, .int (nI lc), .ref mlo, .ref mla, .ref mlb, .int (nI fc), .ref mf, .ref mst, .int (nI my), .ref mr, .ref mh]))]) (va_Ql (fun r _ => r = (-2)) (tb_B D (va_A [(md, .inr (5, [.int (nI 0), .int (nI R), .int (nI n), .ref mt, .ref mv, .ref mc, .int (oI cu), .int (nI nt), .ref mk, .ref ms, .ref mp, .int (nI cH), .int (nI oH), .int (nI fH), .ref mi, .int (nI lc), .ref mlo, .ref mla, .ref mlb, .int (nI fc), .ref mf, .ref mst, .int (nI my), .ref mr, .ref mh]))] sz) [(md, .inr (5, [.int (nI 0), .int (nI R), .int (nI n), .ref mt, .ref mv, .ref mc, .int (oI cu), .int (nI nt), .ref mk, .ref ms, .ref mp, .int (nI cH), .int (nI oH), .int (nI fH), .ref mi, .int (nI lc), .ref mlo, .ref mla, .ref mlb, .int (nI fc), .ref mf, .ref mst, .int (nI my), .ref mr, .ref mh]))]) (va_A [(md, .inr (5, [.int (nI 0), .int (nI R), .int (nI n), .ref mt, .ref mv, .ref mc, .int (oI cu), .int (nI nt), .ref mk, .ref ms, .ref mp, .int (nI cH), .int (nI oH), .int (nI fH), .ref mi, .int (nI lc), .ref mlo, .ref mla, .ref mlb, .int (nI fc), .ref mf, .ref mst, .int (nI my), .ref mr, .ref mh]))] sz)) 0 0 (va_A [(md, .inr (5, [.int (nI 0), .int (nI R), .int (nI n), .ref mt, .ref mv, .ref mc, .int (oI cu), .int (nI nt), .ref mk, .ref ms, .ref mp, .int (nI cH), .int (nI oH), .int (nI fH), .ref mi, .int (nI lc), .ref mlo, .ref mla, .ref mlb, .int (nI fc), .ref mf, .ref mst, .int (nI my), .ref mr, .ref mh]))] sz) := by
  refine Met.ofW (cc := cX5_sum) (maxL := 7) (ret := (some .long)) (by decide) rfl ?_
  intro p e s m args below meth c s₁ B hml hv
  obtain ⟨rfl, hsz, hP, hK, hD0, hZ⟩ := hv
  have hx := B.exec
  have hb := B.bytes
  have hr := B.returns
  have hts0 := atoms_spec (ws := wsX5_sum) B.pre
  have hts : ∀ w9 ∈ aw, w9.before ([.ref md, .int x, .int y, .int u] : List Value).toArray s = true := fun w9 h9 => hts0 w9 (List.mem_cons_of_mem _ h9)
  have hown : s.vm.findClass RX5 = some m.cls := findClass_of_methodNamed B.named
  have hlocks := B.notSynchronized
  subst hsz
  have hD := hD0.self (sz := s.heap.size)
  generalize hAe : va_A [(md, .inr (5, [.int (nI 0), .int (nI R), .int (nI n), .ref mt, .ref mv, .ref mc, .int (oI cu), .int (nI nt), .ref mk, .ref ms, .ref mp, .int (nI cH), .int (nI oH), .int (nI fH), .ref mi, .int (nI lc), .ref mlo, .ref mla, .ref mlb, .int (nI fc), .ref mf, .ref mst, .int (nI my), .ref mr, .ref mh]))] s.heap.size = A at hD hZ ⊢
  have hA : ∀ q : Nat, s.heap.size ≤ q → A q := fun q h => by rw [← hAe]; exact Or.inr h
  have hS : va_S A s.heap s.heap [] := va_S.rf
  have hP : va_P D vwCl [(md, .inr (5, [.int (nI 0), .int (nI R), .int (nI n), .ref mt, .ref mv, .ref mc, .int (oI cu), .int (nI nt), .ref mk, .ref ms, .ref mp, .int (nI cH), .int (nI oH), .int (nI fH), .ref mi, .int (nI lc), .ref mlo, .ref mla, .ref mlb, .int (nI fc), .ref mf, .ref mst, .int (nI my), .ref mr, .ref mh]))] s.heap := hP
  have hl := lv_entry ([.ref md, .int x, .int y, .int u]) (n := 7) (Nat.le_of_ble_eq_true rfl)
  rw [lg_entry_eq]
  generalize (lg_sl ([.ref md, .int x, .int y, .int u]) ++ List.replicate (7 - (lg_sl ([.ref md, .int x, .int y, .int u])).length) Slot.unset).toArray = ls at hl ⊢
  have hl : lv_has ls 7 [(0, .ref md), (1, .int x), (2, .int y), (3, .int u)] := hl
  refine lv_aload_n hx hb dX5_sum_0 rfl (lv_at hl 0 rfl) ?_
  refine lv_iconst (v := nI 0) hx hb dX5_sum_1 (by decide) ?_
  refine va_put (D := D) (ci := 5) (v := .int (nI 0)) (ty := .int) (C := RX5) (T := TX5) (N := 25) hx hb hts inX5 tyX5 tyX5_ok nmX5 hown hK hP hD hS 0 rfl rfl 0 (by decide) (hts _ w_298) (fun _ h9 => h9) rfl (by decide +kernel) rfl rfl (Nat.le_of_ble_eq_true rfl) dX5_sum_2 (fun H locs hP hD hS => ?_)
  have hP : va_P D vwCl [(md, .inr (5, [.int (nI 0), .int (nI R), .int (nI n), .ref mt, .ref mv, .ref mc, .int (oI cu), .int (nI nt), .ref mk, .ref ms, .ref mp, .int (nI cH), .int (nI oH), .int (nI fH), .ref mi, .int (nI lc), .ref mlo, .ref mla, .ref mlb, .int (nI fc), .ref mf, .ref mst, .int (nI my), .ref mr, .ref mh]))] H := hP
  have hD : va_D A [(md, .inr (5, [.int (nI 0), .int (nI R), .int (nI n), .ref mt, .ref mv, .ref mc, .int (oI cu), .int (nI nt), .ref mk, .ref ms, .ref mp, .int (nI cH), .int (nI oH), .int (nI fH), .ref mi, .int (nI lc), .ref mlo, .ref mla, .ref mlb, .int (nI fc), .ref mf, .ref mst, .int (nI my), .ref mr, .ref mh]))] := hD
  refine lv_iload_n hx hb dX5_sum_5 rfl (lv_at hl 1 rfl) ?_
  refine vp_callSi (va_Run.run (va_runS (As := [.int x]) (rest := []) ⟨hx, hb, hml, hown, hts⟩ (m_isOrder l D ct x ) (va_cwS 1 hts (gw_S (fun _ h => h) w_361 w_362 w_30 wcX5_isOrder) rfl rfl rfl hvX5_isOrder.2 ⟨Nat.le_of_ble_eq_true rfl, Nat.le_of_ble_eq_true rfl⟩) (tb_prS hP hK hZ hS [] rfl) rfl rfl hl.1 rfl (lv_room (Nat.le_of_ble_eq_true rfl)) dX5_sum_6 ⟨Nat.zero_le _, Nat.zero_le _⟩)) (fun r_6 hr_6 => ?_)
  obtain rfl : r_6 = bB (decide (tRng x 6)) := hr_6
  refine tb_if_eqB (tgt := 26) hx hb dX5_sum_9 (by decide) (fun c9 => ?_) (fun c9 => ?_)
  · refine lv_ldc2 (v := (-2)) hx hb hown (hts _ w_383) dX5_sum_26 ?_
    have hP9 : va_P D vwCl [(md, .inr (5, [.int (nI 0), .int (nI R), .int (nI n), .ref mt, .ref mv, .ref mc, .int (oI cu), .int (nI nt), .ref mk, .ref ms, .ref mp, .int (nI cH), .int (nI oH), .int (nI fH), .ref mi, .int (nI lc), .ref mlo, .ref mla, .ref mlb, .int (nI fc), .ref mf, .ref mst, .int (nI my), .ref mr, .ref mh]))] _ := hP.sub [0] rfl
    have hD9 : va_D A [(md, .inr (5, [.int (nI 0), .int (nI R), .int (nI n), .ref mt, .ref mv, .ref mc, .int (oI cu), .int (nI nt), .ref mk, .ref ms, .ref mp, .int (nI cH), .int (nI oH), .int (nI fH), .ref mi, .int (nI lc), .ref mlo, .ref mla, .ref mlb, .int (nI fc), .ref mf, .ref mst, .int (nI my), .ref mr, .ref mh]))] := hD.sub [0] (by decide) rfl
    exact W.lret (v := (-2)) hx hb hr (fun t ht hW => ⟨⟨_, (), rfl, rfl, by rw [ht]; exact hP9, hD9⟩, hS.F ht⟩) hS.2.2 dX5_sum_29
  · refine lv_iload_n hx hb dX5_sum_12 rfl (lv_at hl 2 rfl) ?_
    refine vp_callSi (va_Run.run (va_runS (As := [.int y]) (rest := []) ⟨hx, hb, hml, hown, hts⟩ (m_isTerm l D ct y ) (va_cwS 1 hts (gw_S (fun _ h => h) w_329 w_330 w_30 wcX5_isTerm) rfl rfl rfl hvX5_isTerm.2 ⟨Nat.le_of_ble_eq_true rfl, Nat.le_of_ble_eq_true rfl⟩) (tb_prS hP hK hZ hS [] rfl) rfl rfl hl.1 rfl (lv_room (Nat.le_of_ble_eq_true rfl)) dX5_sum_13 ⟨Nat.zero_le _, Nat.zero_le _⟩)) (fun r_13 hr_13 => ?_)
    obtain rfl : r_13 = bB (decide (tRng y 1000)) := hr_13
    refine tb_if_eqB (tgt := 26) hx hb dX5_sum_16 (by decide) (fun c16 => ?_) (fun c16 => ?_)
    · refine lv_ldc2 (v := (-2)) hx hb hown (hts _ w_383) dX5_sum_26 ?_
      have hP9 : va_P D vwCl [(md, .inr (5, [.int (nI 0), .int (nI R), .int (nI n), .ref mt, .ref mv, .ref mc, .int (oI cu), .int (nI nt), .ref mk, .ref ms, .ref mp, .int (nI cH), .int (nI oH), .int (nI fH), .ref mi, .int (nI lc), .ref mlo, .ref mla, .ref mlb, .int (nI fc), .ref mf, .ref mst, .int (nI my), .ref mr, .ref mh]))] _ := hP.sub [0] rfl
      have hD9 : va_D A [(md, .inr (5, [.int (nI 0), .int (nI R), .int (nI n), .ref mt, .ref mv, .ref mc, .int (oI cu), .int (nI nt), .ref mk, .ref ms, .ref mp, .int (nI cH), .int (nI oH), .int (nI fH), .ref mi, .int (nI lc), .ref mlo, .ref mla, .ref mlb, .int (nI fc), .ref mf, .ref mst, .int (nI my), .ref mr, .ref mh]))] := hD.sub [0] (by decide) rfl
      exact W.lret (v := (-2)) hx hb hr (fun t ht hW => ⟨⟨_, (), rfl, rfl, by rw [ht]; exact hP9, hD9⟩, hS.F ht⟩) hS.2.2 dX5_sum_29
    · refine lv_iload_n hx hb dX5_sum_19 rfl (lv_at hl 3 rfl) ?_
      refine vp_callSi (va_Run.run (va_runS (As := [.int u]) (rest := []) ⟨hx, hb, hml, hown, hts⟩ (m_isVersion l D ct u ) (va_cwS 1 hts (gw_S (fun _ h => h) w_331 w_332 w_30 wcX5_isVersion) rfl rfl rfl hvX5_isVersion.2 ⟨Nat.le_of_ble_eq_true rfl, Nat.le_of_ble_eq_true rfl⟩) (tb_prS hP hK hZ hS [] rfl) rfl rfl hl.1 rfl (lv_room (Nat.le_of_ble_eq_true rfl)) dX5_sum_20 ⟨Nat.zero_le _, Nat.zero_le _⟩)) (fun r_20 hr_20 => ?_)
      obtain rfl : r_20 = bB (decide (tRng u 1000001)) := hr_20
      refine tb_if_neB (tgt := 30) hx hb dX5_sum_23 (by decide) (fun c23 => ?_) (fun c23 => ?_)
      · exact absurd ⟨c9, c16, c23⟩ hbad
      · refine lv_ldc2 (v := (-2)) hx hb hown (hts _ w_383) dX5_sum_26 ?_
        have hP9 : va_P D vwCl [(md, .inr (5, [.int (nI 0), .int (nI R), .int (nI n), .ref mt, .ref mv, .ref mc, .int (oI cu), .int (nI nt), .ref mk, .ref ms, .ref mp, .int (nI cH), .int (nI oH), .int (nI fH), .ref mi, .int (nI lc), .ref mlo, .ref mla, .ref mlb, .int (nI fc), .ref mf, .ref mst, .int (nI my), .ref mr, .ref mh]))] _ := hP.sub [0] rfl
        have hD9 : va_D A [(md, .inr (5, [.int (nI 0), .int (nI R), .int (nI n), .ref mt, .ref mv, .ref mc, .int (oI cu), .int (nI nt), .ref mk, .ref ms, .ref mp, .int (nI cH), .int (nI oH), .int (nI fH), .ref mi, .int (nI lc), .ref mlo, .ref mla, .ref mlb, .int (nI fc), .ref mf, .ref mst, .int (nI my), .ref mr, .ref mh]))] := hD.sub [0] (by decide) rfl
        exact W.lret (v := (-2)) hx hb hr (fun t ht hW => ⟨⟨_, (), rfl, rfl, by rw [ht]; exact hP9, hD9⟩, hS.F ht⟩) hS.2.2 dX5_sum_29

set_option maxHeartbeats 4000000 in
set_option maxRecDepth 100000 in
theorem m_sum_m3 (l : Launch) (D : va_G) (ct : Nat → ClassId) (md : Nat) (R : Nat) (n : Nat) (cu : Option Nat) (nt : Nat) (cH : Nat) (oH : Nat) (fH : Nat) (lc : Nat) (fc : Nat) (my : Nat) (mt : Nat) (mv : Nat) (mc : Nat) (mk : Nat) (ms : Nat) (mp : Nat) (mi : Nat) (mlo : Nat) (mla : Nat) (mlb : Nat) (mf : Nat) (mst : Nat) (mr : Nat) (mh : Nat) (o : Nat) (a : Nat) (vv : Nat) (sz : Nat) (ho : o < 6) (ha : a < 1000) (hv : vv < 1000001) (hlow : ∃ j, cu = some j ∧ vv < j) (hcb : ∀ j, cu = some j → j < 2 ^ 31) : Met l yX5_sum wsX5_sum ({ frames := 1, cells := 0, slots := 0, locals := 20 }) (tb_Pw D ct [.ref md, .int (nI o), .int (nI a), .int (nI vv)] sz [(md, .inr (5, [.int (nI 0), .int (nI R), .int (nI n), .ref mt, .ref mv, .ref mc, .int (oI cu), .int (nI nt), .ref mk, .ref ms, .ref mp, .int (nI cH), .int (nI oH), .int (nI fH), .ref mi, .int (nI lc), .ref mlo, .ref mla, .ref mlb, .int (nI fc), .ref mf, .ref mst, .int (nI my), .ref mr, .ref mh]))]) (va_Ql (fun r _ => r = (-3)) (tb_B D (va_A [(md, .inr (5, [.int (nI 0), .int (nI R), .int (nI n), .ref mt, .ref mv, .ref mc, .int (oI cu), .int (nI nt), .ref mk, .ref ms, .ref mp, .int (nI cH), .int (nI oH), .int (nI fH), .ref mi, .int (nI lc), .ref mlo, .ref mla, .ref mlb, .int (nI fc), .ref mf, .ref mst, .int (nI my), .ref mr, .ref mh]))] sz) [(md, .inr (5, [.int (nI 0), .int (nI R), .int (nI n), .ref mt, .ref mv, .ref mc, .int (oI cu), .int (nI nt), .ref mk, .ref ms, .ref mp, .int (nI cH), .int (nI oH), .int (nI fH), .ref mi, .int (nI lc), .ref mlo, .ref mla, .ref mlb, .int (nI fc), .ref mf, .ref mst, .int (nI my), .ref mr, .ref mh]))]) (va_A [(md, .inr (5, [.int (nI 0), .int (nI R), .int (nI n), .ref mt, .ref mv, .ref mc, .int (oI cu), .int (nI nt), .ref mk, .ref ms, .ref mp, .int (nI cH), .int (nI oH), .int (nI fH), .ref mi, .int (nI lc), .ref mlo, .ref mla, .ref mlb, .int (nI fc), .ref mf, .ref mst, .int (nI my), .ref mr, .ref mh]))] sz)) 0 0 (va_A [(md, .inr (5, [.int (nI 0), .int (nI R), .int (nI n), .ref mt, .ref mv, .ref mc, .int (oI cu), .int (nI nt), .ref mk, .ref ms, .ref mp, .int (nI cH), .int (nI oH), .int (nI fH), .ref mi, .int (nI lc), .ref mlo, .ref mla, .ref mlb, .int (nI fc), .ref mf, .ref mst, .int (nI my), .ref mr, .ref mh]))] sz) := by
  refine Met.ofW (cc := cX5_sum) (maxL := 7) (ret := (some .long)) (by decide) rfl ?_
  intro p e s m args below meth c s₁ B hml hv
  obtain ⟨rfl, hsz, hP, hK, hD0, hZ⟩ := hv
  have hx := B.exec
  have hb := B.bytes
  have hr := B.returns
  have hts0 := atoms_spec (ws := wsX5_sum) B.pre
  have hts : ∀ w9 ∈ aw, w9.before ([.ref md, .int (nI o), .int (nI a), .int (nI vv)] : List Value).toArray s = true := fun w9 h9 => hts0 w9 (List.mem_cons_of_mem _ h9)
  have hown : s.vm.findClass RX5 = some m.cls := findClass_of_methodNamed B.named
  have hlocks := B.notSynchronized
  subst hsz
  have hD := hD0.self (sz := s.heap.size)
  generalize hAe : va_A [(md, .inr (5, [.int (nI 0), .int (nI R), .int (nI n), .ref mt, .ref mv, .ref mc, .int (oI cu), .int (nI nt), .ref mk, .ref ms, .ref mp, .int (nI cH), .int (nI oH), .int (nI fH), .ref mi, .int (nI lc), .ref mlo, .ref mla, .ref mlb, .int (nI fc), .ref mf, .ref mst, .int (nI my), .ref mr, .ref mh]))] s.heap.size = A at hD hZ ⊢
  have hA : ∀ q : Nat, s.heap.size ≤ q → A q := fun q h => by rw [← hAe]; exact Or.inr h
  have hS : va_S A s.heap s.heap [] := va_S.rf
  have hP : va_P D vwCl [(md, .inr (5, [.int (nI 0), .int (nI R), .int (nI n), .ref mt, .ref mv, .ref mc, .int (oI cu), .int (nI nt), .ref mk, .ref ms, .ref mp, .int (nI cH), .int (nI oH), .int (nI fH), .ref mi, .int (nI lc), .ref mlo, .ref mla, .ref mlb, .int (nI fc), .ref mf, .ref mst, .int (nI my), .ref mr, .ref mh]))] s.heap := hP
  have hl := lv_entry ([.ref md, .int (nI o), .int (nI a), .int (nI vv)]) (n := 7) (Nat.le_of_ble_eq_true rfl)
  rw [lg_entry_eq]
  generalize (lg_sl ([.ref md, .int (nI o), .int (nI a), .int (nI vv)]) ++ List.replicate (7 - (lg_sl ([.ref md, .int (nI o), .int (nI a), .int (nI vv)])).length) Slot.unset).toArray = ls at hl ⊢
  have hl : lv_has ls 7 [(0, .ref md), (1, .int (nI o)), (2, .int (nI a)), (3, .int (nI vv))] := hl
  refine lv_aload_n hx hb dX5_sum_0 rfl (lv_at hl 0 rfl) ?_
  refine lv_iconst (v := nI 0) hx hb dX5_sum_1 (by decide) ?_
  refine va_put (D := D) (ci := 5) (v := .int (nI 0)) (ty := .int) (C := RX5) (T := TX5) (N := 25) hx hb hts inX5 tyX5 tyX5_ok nmX5 hown hK hP hD hS 0 rfl rfl 0 (by decide) (hts _ w_298) (fun _ h9 => h9) rfl (by decide +kernel) rfl rfl (Nat.le_of_ble_eq_true rfl) dX5_sum_2 (fun H locs hP hD hS => ?_)
  have hP : va_P D vwCl [(md, .inr (5, [.int (nI 0), .int (nI R), .int (nI n), .ref mt, .ref mv, .ref mc, .int (oI cu), .int (nI nt), .ref mk, .ref ms, .ref mp, .int (nI cH), .int (nI oH), .int (nI fH), .ref mi, .int (nI lc), .ref mlo, .ref mla, .ref mlb, .int (nI fc), .ref mf, .ref mst, .int (nI my), .ref mr, .ref mh]))] H := hP
  have hD : va_D A [(md, .inr (5, [.int (nI 0), .int (nI R), .int (nI n), .ref mt, .ref mv, .ref mc, .int (oI cu), .int (nI nt), .ref mk, .ref ms, .ref mp, .int (nI cH), .int (nI oH), .int (nI fH), .ref mi, .int (nI lc), .ref mlo, .ref mla, .ref mlb, .int (nI fc), .ref mf, .ref mst, .int (nI my), .ref mr, .ref mh]))] := hD
  refine lv_iload_n hx hb dX5_sum_5 rfl (lv_at hl 1 rfl) ?_
  refine vp_callSi (va_Run.run (va_runS (As := [.int (nI o)]) (rest := []) ⟨hx, hb, hml, hown, hts⟩ (m_isOrder l D ct (nI o) ) (va_cwS 1 hts (gw_S (fun _ h => h) w_361 w_362 w_30 wcX5_isOrder) rfl rfl rfl hvX5_isOrder.2 ⟨Nat.le_of_ble_eq_true rfl, Nat.le_of_ble_eq_true rfl⟩) (tb_prS hP hK hZ hS [] rfl) rfl rfl hl.1 rfl (lv_room (Nat.le_of_ble_eq_true rfl)) dX5_sum_6 ⟨Nat.zero_le _, Nat.zero_le _⟩)) (fun r_6 hr_6 => ?_)
  obtain rfl : r_6 = bB (decide (tRng (nI o) 6)) := hr_6
  refine tb_if_eqB (tgt := 26) hx hb dX5_sum_9 (by decide) (fun c9 => ?_) (fun c9 => ?_)
  · exact absurd (tRng_nI ho (by decide)) c9
  · refine lv_iload_n hx hb dX5_sum_12 rfl (lv_at hl 2 rfl) ?_
    refine vp_callSi (va_Run.run (va_runS (As := [.int (nI a)]) (rest := []) ⟨hx, hb, hml, hown, hts⟩ (m_isTerm l D ct (nI a) ) (va_cwS 1 hts (gw_S (fun _ h => h) w_329 w_330 w_30 wcX5_isTerm) rfl rfl rfl hvX5_isTerm.2 ⟨Nat.le_of_ble_eq_true rfl, Nat.le_of_ble_eq_true rfl⟩) (tb_prS hP hK hZ hS [] rfl) rfl rfl hl.1 rfl (lv_room (Nat.le_of_ble_eq_true rfl)) dX5_sum_13 ⟨Nat.zero_le _, Nat.zero_le _⟩)) (fun r_13 hr_13 => ?_)
    obtain rfl : r_13 = bB (decide (tRng (nI a) 1000)) := hr_13
    refine tb_if_eqB (tgt := 26) hx hb dX5_sum_16 (by decide) (fun c16 => ?_) (fun c16 => ?_)
    · exact absurd (tRng_nI ha (by decide)) c16
    · refine lv_iload_n hx hb dX5_sum_19 rfl (lv_at hl 3 rfl) ?_
      refine vp_callSi (va_Run.run (va_runS (As := [.int (nI vv)]) (rest := []) ⟨hx, hb, hml, hown, hts⟩ (m_isVersion l D ct (nI vv) ) (va_cwS 1 hts (gw_S (fun _ h => h) w_331 w_332 w_30 wcX5_isVersion) rfl rfl rfl hvX5_isVersion.2 ⟨Nat.le_of_ble_eq_true rfl, Nat.le_of_ble_eq_true rfl⟩) (tb_prS hP hK hZ hS [] rfl) rfl rfl hl.1 rfl (lv_room (Nat.le_of_ble_eq_true rfl)) dX5_sum_20 ⟨Nat.zero_le _, Nat.zero_le _⟩)) (fun r_20 hr_20 => ?_)
      obtain rfl : r_20 = bB (decide (tRng (nI vv) 1000001)) := hr_20
      refine tb_if_neB (tgt := 30) hx hb dX5_sum_23 (by decide) (fun c23 => ?_) (fun c23 => ?_)
      · refine lv_iload_n hx hb dX5_sum_30 rfl (lv_at hl 3 rfl) ?_
        refine lv_aload_n hx hb dX5_sum_31 rfl (lv_at hl 0 rfl) ?_
        refine va_get (D := D) (ci := 5) (v := .int (oI cu)) (C := RX5) (T := TX5) (N := 25) hx hb hts inX5 hown hK hP 0 rfl rfl 6 (by decide) (hts _ w_304) (fun _ h9 => h9) rfl dX5_sum_32 ?_
        refine lv_icmp_ge (tgt := 42) hx hb dX5_sum_35 (by decide) (fun c35 => ?_) (fun c35 => ?_)
        · exact absurd (oI_lt hlow hcb) (Int32.not_lt.mpr c35)
        · refine lv_ldc2 (v := (-3)) hx hb hown (hts _ w_384) dX5_sum_38 ?_
          have hP9 : va_P D vwCl [(md, .inr (5, [.int (nI 0), .int (nI R), .int (nI n), .ref mt, .ref mv, .ref mc, .int (oI cu), .int (nI nt), .ref mk, .ref ms, .ref mp, .int (nI cH), .int (nI oH), .int (nI fH), .ref mi, .int (nI lc), .ref mlo, .ref mla, .ref mlb, .int (nI fc), .ref mf, .ref mst, .int (nI my), .ref mr, .ref mh]))] _ := hP.sub [0] rfl
          have hD9 : va_D A [(md, .inr (5, [.int (nI 0), .int (nI R), .int (nI n), .ref mt, .ref mv, .ref mc, .int (oI cu), .int (nI nt), .ref mk, .ref ms, .ref mp, .int (nI cH), .int (nI oH), .int (nI fH), .ref mi, .int (nI lc), .ref mlo, .ref mla, .ref mlb, .int (nI fc), .ref mf, .ref mst, .int (nI my), .ref mr, .ref mh]))] := hD.sub [0] (by decide) rfl
          exact W.lret (v := (-3)) hx hb hr (fun t ht hW => ⟨⟨_, (), rfl, rfl, by rw [ht]; exact hP9, hD9⟩, hS.F ht⟩) hS.2.2 dX5_sum_41
      · exact absurd (tRng_nI hv (by decide)) c23

set_option maxHeartbeats 4000000 in
set_option maxRecDepth 100000 in
theorem m_seconds_ok (l : Launch) (D : va_G) (ct : Nat → ClassId) (md : Nat) (R : Nat) (n : Nat) (cu : Option Nat) (nt : Nat) (cH : Nat) (oH : Nat) (fH : Nat) (lc : Nat) (fc : Nat) (my : Nat) (mt : Nat) (mv : Nat) (mc : Nat) (mk : Nat) (ms : Nat) (mp : Nat) (mi : Nat) (mlo : Nat) (mla : Nat) (mlb : Nat) (mf : Nat) (mst : Nat) (mr : Nat) (mh : Nat) (T : Nat → Nat) (V : Nat → Nat) (C : Nat → Bool) (G9 : Nat → Nat) (o : Nat) (a : Nat) (vv : Nat) (sz : Nat) (hn : n ≤ R) (hR : R ≤ 400) (hV : ∀ j, V j < 2 ^ 31) (hT : ∀ j, T j < 1000000000) (ho : o < 6) (ha : a < 1000) (hv : vv < 1000001) (hcu : ∀ j, cu = some j → j ≤ vv) (hG : ∀ j, G9 j < 1000000000) (hdis : ∀ i j, i < n → j < n → mFp T V C n o (some a) none vv i = true → mFp T V C n o (some a) none vv j = true → mFk T o i = mFk T o j → i = j) : Met l yX5_seconds wsX5_seconds ({ frames := 3, cells := 0, slots := 0, locals := 72 }) (tb_Pw D ct [.ref md, .int (nI o), .int (nI a), .int (nI vv)] sz [(md, .inr (5, [.int (nI 0), .int (nI R), .int (nI n), .ref mt, .ref mv, .ref mc, .int (oI cu), .int (nI nt), .ref mk, .ref ms, .ref mp, .int (nI cH), .int (nI oH), .int (nI fH), .ref mi, .int (nI lc), .ref mlo, .ref mla, .ref mlb, .int (nI fc), .ref mf, .ref mst, .int (nI my), .ref mr, .ref mh])), (mt, .inl (ct 0, 400, .inl (aN T))), (mv, .inl (ct 0, 400, .inl (aN V))), (mc, .inl (ct 4, 400, .inl (aB C))), (mr, .inl (ct 0, 400, .inl (aN G9)))]) (va_Qi (fun r _ => r = nI (mSc ((mRow T V C n o (some a) none vv G9 n).2) ((mRow T V C n o (some a) none vv G9 n).1))) (tb_B D (va_A [(md, .inr (5, [.int (nI 0), .int (nI R), .int (nI n), .ref mt, .ref mv, .ref mc, .int (oI cu), .int (nI nt), .ref mk, .ref ms, .ref mp, .int (nI cH), .int (nI oH), .int (nI fH), .ref mi, .int (nI lc), .ref mlo, .ref mla, .ref mlb, .int (nI fc), .ref mf, .ref mst, .int (nI my), .ref mr, .ref mh])), (mt, .inl (ct 0, 400, .inl (aN T))), (mv, .inl (ct 0, 400, .inl (aN V))), (mc, .inl (ct 4, 400, .inl (aB C))), (mr, .inl (ct 0, 400, .inl (aN G9)))] sz) [(md, .inr (5, [.int (nI 0), .int (nI R), .int (nI n), .ref mt, .ref mv, .ref mc, .int (oI cu), .int (nI nt), .ref mk, .ref ms, .ref mp, .int (nI cH), .int (nI oH), .int (nI fH), .ref mi, .int (nI lc), .ref mlo, .ref mla, .ref mlb, .int (nI fc), .ref mf, .ref mst, .int (nI ((mRow T V C n o (some a) none vv G9 n).1)), .ref mr, .ref mh])), (mt, .inl (ct 0, 400, .inl (aN T))), (mv, .inl (ct 0, 400, .inl (aN V))), (mc, .inl (ct 4, 400, .inl (aB C))), (mr, .inl (ct 0, 400, .inl (aN ((mRow T V C n o (some a) none vv G9 n).2))))]) (va_A [(md, .inr (5, [.int (nI 0), .int (nI R), .int (nI n), .ref mt, .ref mv, .ref mc, .int (oI cu), .int (nI nt), .ref mk, .ref ms, .ref mp, .int (nI cH), .int (nI oH), .int (nI fH), .ref mi, .int (nI lc), .ref mlo, .ref mla, .ref mlb, .int (nI fc), .ref mf, .ref mst, .int (nI my), .ref mr, .ref mh])), (mt, .inl (ct 0, 400, .inl (aN T))), (mv, .inl (ct 0, 400, .inl (aN V))), (mc, .inl (ct 4, 400, .inl (aB C))), (mr, .inl (ct 0, 400, .inl (aN G9)))] sz)) 0 0 (va_A [(md, .inr (5, [.int (nI 0), .int (nI R), .int (nI n), .ref mt, .ref mv, .ref mc, .int (oI cu), .int (nI nt), .ref mk, .ref ms, .ref mp, .int (nI cH), .int (nI oH), .int (nI fH), .ref mi, .int (nI lc), .ref mlo, .ref mla, .ref mlb, .int (nI fc), .ref mf, .ref mst, .int (nI my), .ref mr, .ref mh])), (mt, .inl (ct 0, 400, .inl (aN T))), (mv, .inl (ct 0, 400, .inl (aN V))), (mc, .inl (ct 4, 400, .inl (aB C))), (mr, .inl (ct 0, 400, .inl (aN G9)))] sz) := by
  refine Met.ofW (cc := cX5_seconds) (maxL := 6) (ret := (some .int)) (by decide) rfl ?_
  intro p e s m args below meth c s₁ B hml hv
  obtain ⟨rfl, hsz, hP, hK, hD0, hZ⟩ := hv
  have hx := B.exec
  have hb := B.bytes
  have hr := B.returns
  have hts0 := atoms_spec (ws := wsX5_seconds) B.pre
  have hts : ∀ w9 ∈ aw, w9.before ([.ref md, .int (nI o), .int (nI a), .int (nI vv)] : List Value).toArray s = true := fun w9 h9 => hts0 w9 (List.mem_cons_of_mem _ h9)
  have hown : s.vm.findClass RX5 = some m.cls := findClass_of_methodNamed B.named
  have hlocks := B.notSynchronized
  subst hsz
  have hD := hD0.self (sz := s.heap.size)
  generalize hAe : va_A [(md, .inr (5, [.int (nI 0), .int (nI R), .int (nI n), .ref mt, .ref mv, .ref mc, .int (oI cu), .int (nI nt), .ref mk, .ref ms, .ref mp, .int (nI cH), .int (nI oH), .int (nI fH), .ref mi, .int (nI lc), .ref mlo, .ref mla, .ref mlb, .int (nI fc), .ref mf, .ref mst, .int (nI my), .ref mr, .ref mh])), (mt, .inl (ct 0, 400, .inl (aN T))), (mv, .inl (ct 0, 400, .inl (aN V))), (mc, .inl (ct 4, 400, .inl (aB C))), (mr, .inl (ct 0, 400, .inl (aN G9)))] s.heap.size = A at hD hZ ⊢
  have hA : ∀ q : Nat, s.heap.size ≤ q → A q := fun q h => by rw [← hAe]; exact Or.inr h
  have hS : va_S A s.heap s.heap [] := va_S.rf
  have hP : va_P D vwCl [(md, .inr (5, [.int (nI 0), .int (nI R), .int (nI n), .ref mt, .ref mv, .ref mc, .int (oI cu), .int (nI nt), .ref mk, .ref ms, .ref mp, .int (nI cH), .int (nI oH), .int (nI fH), .ref mi, .int (nI lc), .ref mlo, .ref mla, .ref mlb, .int (nI fc), .ref mf, .ref mst, .int (nI my), .ref mr, .ref mh])), (mt, .inl (ct 0, 400, .inl (aN T))), (mv, .inl (ct 0, 400, .inl (aN V))), (mc, .inl (ct 4, 400, .inl (aB C))), (mr, .inl (ct 0, 400, .inl (aN G9)))] s.heap := hP
  have hl := lv_entry ([.ref md, .int (nI o), .int (nI a), .int (nI vv)]) (n := 6) (Nat.le_of_ble_eq_true rfl)
  rw [lg_entry_eq]
  generalize (lg_sl ([.ref md, .int (nI o), .int (nI a), .int (nI vv)]) ++ List.replicate (6 - (lg_sl ([.ref md, .int (nI o), .int (nI a), .int (nI vv)])).length) Slot.unset).toArray = ls at hl ⊢
  have hl : lv_has ls 6 [(0, .ref md), (1, .int (nI o)), (2, .int (nI a)), (3, .int (nI vv))] := hl
  have hm9 := mRow_le (T := T) (V := V) (C := C) (n := n) (o := o) (a := some a) (b := none) (x := vv) (f := G9) n
  have hb9k := fun j => mRow_b (V := V) (C := C) (n := n) (o := o) (a := some a) (b := none) (x := vv) hT hG n j
  refine lv_aload_n hx hb dX5_seconds_0 rfl (lv_at hl 0 rfl) ?_
  refine lv_iconst (v := nI 0) hx hb dX5_seconds_1 (by decide) ?_
  refine va_put (D := D) (ci := 5) (v := .int (nI 0)) (ty := .int) (C := RX5) (T := TX5) (N := 25) hx hb hts inX5 tyX5 tyX5_ok nmX5 hown hK hP hD hS 0 rfl rfl 0 (by decide) (hts _ w_298) (fun _ h9 => h9) rfl (by decide +kernel) rfl rfl (Nat.le_of_ble_eq_true rfl) dX5_seconds_2 (fun H locs hP hD hS => ?_)
  have hP : va_P D vwCl [(md, .inr (5, [.int (nI 0), .int (nI R), .int (nI n), .ref mt, .ref mv, .ref mc, .int (oI cu), .int (nI nt), .ref mk, .ref ms, .ref mp, .int (nI cH), .int (nI oH), .int (nI fH), .ref mi, .int (nI lc), .ref mlo, .ref mla, .ref mlb, .int (nI fc), .ref mf, .ref mst, .int (nI my), .ref mr, .ref mh])), (mt, .inl (ct 0, 400, .inl (aN T))), (mv, .inl (ct 0, 400, .inl (aN V))), (mc, .inl (ct 4, 400, .inl (aB C))), (mr, .inl (ct 0, 400, .inl (aN G9)))] H := hP
  have hD : va_D A [(md, .inr (5, [.int (nI 0), .int (nI R), .int (nI n), .ref mt, .ref mv, .ref mc, .int (oI cu), .int (nI nt), .ref mk, .ref ms, .ref mp, .int (nI cH), .int (nI oH), .int (nI fH), .ref mi, .int (nI lc), .ref mlo, .ref mla, .ref mlb, .int (nI fc), .ref mf, .ref mst, .int (nI my), .ref mr, .ref mh])), (mt, .inl (ct 0, 400, .inl (aN T))), (mv, .inl (ct 0, 400, .inl (aN V))), (mc, .inl (ct 4, 400, .inl (aB C))), (mr, .inl (ct 0, 400, .inl (aN G9)))] := hD
  refine lv_iload_n hx hb dX5_seconds_5 rfl (lv_at hl 1 rfl) ?_
  refine vp_callSi (va_Run.run (va_runS (As := [.int (nI o)]) (rest := []) ⟨hx, hb, hml, hown, hts⟩ (m_isOrder l D ct (nI o) ) (va_cwS 1 hts (gw_S (fun _ h => h) w_361 w_362 w_30 wcX5_isOrder) rfl rfl rfl hvX5_isOrder.2 ⟨Nat.le_of_ble_eq_true rfl, Nat.le_of_ble_eq_true rfl⟩) (tb_prS hP hK hZ hS [] rfl) rfl rfl hl.1 rfl (lv_room (Nat.le_of_ble_eq_true rfl)) dX5_seconds_6 ⟨Nat.zero_le _, Nat.zero_le _⟩)) (fun r_6 hr_6 => ?_)
  obtain rfl : r_6 = bB (decide (tRng (nI o) 6)) := hr_6
  refine tb_if_eqB (tgt := 26) hx hb dX5_seconds_9 (by decide) (fun c9 => ?_) (fun c9 => ?_)
  · exact absurd (tRng_nI ho (by decide)) c9
  · refine lv_iload_n hx hb dX5_seconds_12 rfl (lv_at hl 2 rfl) ?_
    refine vp_callSi (va_Run.run (va_runS (As := [.int (nI a)]) (rest := []) ⟨hx, hb, hml, hown, hts⟩ (m_isTerm l D ct (nI a) ) (va_cwS 1 hts (gw_S (fun _ h => h) w_329 w_330 w_30 wcX5_isTerm) rfl rfl rfl hvX5_isTerm.2 ⟨Nat.le_of_ble_eq_true rfl, Nat.le_of_ble_eq_true rfl⟩) (tb_prS hP hK hZ hS [] rfl) rfl rfl hl.1 rfl (lv_room (Nat.le_of_ble_eq_true rfl)) dX5_seconds_13 ⟨Nat.zero_le _, Nat.zero_le _⟩)) (fun r_13 hr_13 => ?_)
    obtain rfl : r_13 = bB (decide (tRng (nI a) 1000)) := hr_13
    refine tb_if_eqB (tgt := 26) hx hb dX5_seconds_16 (by decide) (fun c16 => ?_) (fun c16 => ?_)
    · exact absurd (tRng_nI ha (by decide)) c16
    · refine lv_iload_n hx hb dX5_seconds_19 rfl (lv_at hl 3 rfl) ?_
      refine vp_callSi (va_Run.run (va_runS (As := [.int (nI vv)]) (rest := []) ⟨hx, hb, hml, hown, hts⟩ (m_isVersion l D ct (nI vv) ) (va_cwS 1 hts (gw_S (fun _ h => h) w_331 w_332 w_30 wcX5_isVersion) rfl rfl rfl hvX5_isVersion.2 ⟨Nat.le_of_ble_eq_true rfl, Nat.le_of_ble_eq_true rfl⟩) (tb_prS hP hK hZ hS [] rfl) rfl rfl hl.1 rfl (lv_room (Nat.le_of_ble_eq_true rfl)) dX5_seconds_20 ⟨Nat.zero_le _, Nat.zero_le _⟩)) (fun r_20 hr_20 => ?_)
      obtain rfl : r_20 = bB (decide (tRng (nI vv) 1000001)) := hr_20
      refine tb_if_neB (tgt := 29) hx hb dX5_seconds_23 (by decide) (fun c23 => ?_) (fun c23 => ?_)
      · refine lv_iload_n hx hb dX5_seconds_29 rfl (lv_at hl 3 rfl) ?_
        refine lv_aload_n hx hb dX5_seconds_30 rfl (lv_at hl 0 rfl) ?_
        refine va_get (D := D) (ci := 5) (v := .int (oI cu)) (C := RX5) (T := TX5) (N := 25) hx hb hts inX5 hown hK hP 0 rfl rfl 6 (by decide) (hts _ w_304) (fun _ h9 => h9) rfl dX5_seconds_31 ?_
        refine lv_icmp_ge (tgt := 40) hx hb dX5_seconds_34 (by decide) (fun c34 => ?_) (fun c34 => ?_)
        · refine lv_aload_n hx hb dX5_seconds_40 rfl (lv_at hl 0 rfl) ?_
          refine lv_iload_n hx hb dX5_seconds_41 rfl (lv_at hl 1 rfl) ?_
          refine lv_iload_n hx hb dX5_seconds_42 rfl (lv_at hl 2 rfl) ?_
          refine lv_iconst (v := (-1)) hx hb dX5_seconds_43 (by decide) ?_
          refine lv_iload_n hx hb dX5_seconds_44 rfl (lv_at hl 3 rfl) ?_
          refine tb_callv (wr := []) hP hD hS hA [0, 1, 2, 3, 4] [] rfl rfl (by decide) (by decide) (va_runV (As := [.int (nI o), .int (nI a), .int (-1), .int (nI vv)]) (rest := []) ⟨hx, hb, hml, hown, hts⟩ (m_find l D ct md R n cu nt cH oH fH lc fc my mt mv mc mk ms mp mi mlo mla mlb mf mst mr mh T V C G9 o (some a) none vv _ hn hR hV hT ho (fun j q => by cases q; exact ha) (fun j q => by cases q) (by omega) hG hdis) (cwV 4 hts (gw_V (fun _ h => h) w_365 w_366 w_1 w_30 wcX5_find) rfl rfl rfl hvX5_find ⟨Nat.le_of_ble_eq_true rfl, Nat.le_of_ble_eq_true rfl⟩) (tb_pwV hP hD hK hZ hS hA [0, 1, 2, 3, 4] (by decide) rfl (ci := 5) (q0 := 0) rfl rfl) rfl rfl hl.1 rfl (lv_room (Nat.le_of_ble_eq_true rfl)) dX5_seconds_45 ⟨Nat.zero_le _, Nat.zero_le _⟩) (fun H locs hP hD hS => ?_)
          have hP : va_P D vwCl [(md, .inr (5, [.int (nI 0), .int (nI R), .int (nI n), .ref mt, .ref mv, .ref mc, .int (oI cu), .int (nI nt), .ref mk, .ref ms, .ref mp, .int (nI cH), .int (nI oH), .int (nI fH), .ref mi, .int (nI lc), .ref mlo, .ref mla, .ref mlb, .int (nI fc), .ref mf, .ref mst, .int (nI ((mRow T V C n o (some a) none vv G9 n).1)), .ref mr, .ref mh])), (mt, .inl (ct 0, 400, .inl (aN T))), (mv, .inl (ct 0, 400, .inl (aN V))), (mc, .inl (ct 4, 400, .inl (aB C))), (mr, .inl (ct 0, 400, .inl (aN ((mRow T V C n o (some a) none vv G9 n).2))))] H := hP
          have hD : va_D A [(md, .inr (5, [.int (nI 0), .int (nI R), .int (nI n), .ref mt, .ref mv, .ref mc, .int (oI cu), .int (nI nt), .ref mk, .ref ms, .ref mp, .int (nI cH), .int (nI oH), .int (nI fH), .ref mi, .int (nI lc), .ref mlo, .ref mla, .ref mlb, .int (nI fc), .ref mf, .ref mst, .int (nI ((mRow T V C n o (some a) none vv G9 n).1)), .ref mr, .ref mh])), (mt, .inl (ct 0, 400, .inl (aN T))), (mv, .inl (ct 0, 400, .inl (aN V))), (mc, .inl (ct 4, 400, .inl (aB C))), (mr, .inl (ct 0, 400, .inl (aN ((mRow T V C n o (some a) none vv G9 n).2))))] := hD
          refine lv_iconst (v := nI 0) hx hb dX5_seconds_48 (by decide) ?_
          refine lv_istore (lv' := [(4, .int (nI 0)), (0, .ref md), (1, .int (nI o)), (2, .int (nI a)), (3, .int (nI vv))]) hx hb dX5_seconds_49 hl (by decide) rfl (fun ls hl => ?_)
          refine lv_iconst (v := nI 0) hx hb dX5_seconds_51 (by decide) ?_
          refine lv_istore (lv' := [(5, .int (nI 0)), (4, .int (nI 0)), (0, .ref md), (1, .int (nI o)), (2, .int (nI a)), (3, .int (nI vv))]) hx hb dX5_seconds_52 hl (by decide) rfl (fun ls hl => ?_)
          have hl54 : ∀ (N9 : Nat) (k : Nat), (mRow T V C n o (some a) none vv G9 n).1 - k < N9 → (k ≤ (mRow T V C n o (some a) none vv G9 n).1) → ∀ (H : Heap) (locs : List Loc), va_P D vwCl [(md, .inr (5, [.int (nI 0), .int (nI R), .int (nI n), .ref mt, .ref mv, .ref mc, .int (oI cu), .int (nI nt), .ref mk, .ref ms, .ref mp, .int (nI cH), .int (nI oH), .int (nI fH), .ref mi, .int (nI lc), .ref mlo, .ref mla, .ref mlb, .int (nI fc), .ref mf, .ref mst, .int (nI ((mRow T V C n o (some a) none vv G9 n).1)), .ref mr, .ref mh])), (mt, .inl (ct 0, 400, .inl (aN T))), (mv, .inl (ct 0, 400, .inl (aN V))), (mc, .inl (ct 4, 400, .inl (aB C))), (mr, .inl (ct 0, 400, .inl (aN ((mRow T V C n o (some a) none vv G9 n).2))))] H → va_D A [(md, .inr (5, [.int (nI 0), .int (nI R), .int (nI n), .ref mt, .ref mv, .ref mc, .int (oI cu), .int (nI nt), .ref mk, .ref ms, .ref mp, .int (nI cH), .int (nI oH), .int (nI fH), .ref mi, .int (nI lc), .ref mlo, .ref mla, .ref mlb, .int (nI fc), .ref mf, .ref mst, .int (nI ((mRow T V C n o (some a) none vv G9 n).1)), .ref mr, .ref mh])), (mt, .inl (ct 0, 400, .inl (aN T))), (mv, .inl (ct 0, 400, .inl (aN V))), (mc, .inl (ct 4, 400, .inl (aB C))), (mr, .inl (ct 0, 400, .inl (aN ((mRow T V C n o (some a) none vv G9 n).2))))] → va_S A s.heap H locs → ∀ (ls : Array Slot), lv_has ls 6 [(0, .ref md), (1, .int (nI o)), (2, .int (nI a)), (3, .int (nI vv)), (4, .int (nI (mSc ((mRow T V C n o (some a) none vv G9 n).2) k))), (5, .int (nI k))] → W p l e (headSpec wsX5_seconds ({ frames := 3, cells := 0, slots := 0, locals := 72 })).room s m ([.ref md, .int (nI o), .int (nI a), .int (nI vv)] : List Value).toArray below meth c H locs 0 0 (MQ below (va_Qi (fun r _ => r = nI (mSc ((mRow T V C n o (some a) none vv G9 n).2) ((mRow T V C n o (some a) none vv G9 n).1))) (tb_B D A [(md, .inr (5, [.int (nI 0), .int (nI R), .int (nI n), .ref mt, .ref mv, .ref mc, .int (oI cu), .int (nI nt), .ref mk, .ref ms, .ref mp, .int (nI cH), .int (nI oH), .int (nI fH), .ref mi, .int (nI lc), .ref mlo, .ref mla, .ref mlb, .int (nI fc), .ref mf, .ref mst, .int (nI ((mRow T V C n o (some a) none vv G9 n).1)), .ref mr, .ref mh])), (mt, .inl (ct 0, 400, .inl (aN T))), (mv, .inl (ct 0, 400, .inl (aN V))), (mc, .inl (ct 4, 400, .inl (aB C))), (mr, .inl (ct 0, 400, .inl (aN ((mRow T V C n o (some a) none vv G9 n).2))))]) A) ([.ref md, .int (nI o), .int (nI a), .int (nI vv)] : List Value).toArray s 0 0 A) (F0 m 54 ls []) := by
            intro N9
            induction N9 with
            | zero => intro k h9; exact absurd h9 (Nat.not_lt_zero _)
            | succ N9 ih54 =>
              intro k h9 h1 H locs hP hD hS ls hl
              refine lv_iload hx hb dX5_seconds_54 (lv_at hl 5 rfl) ?_
              refine lv_aload_n hx hb dX5_seconds_56 rfl (lv_at hl 0 rfl) ?_
              refine va_get (D := D) (ci := 5) (v := .int (nI ((mRow T V C n o (some a) none vv G9 n).1))) (C := RX5) (T := TX5) (N := 25) hx hb hts inX5 hown hK hP 0 rfl rfl 22 (by decide) (hts _ w_320) (fun _ h9 => h9) rfl dX5_seconds_57 ?_
              refine tb_icmp_ge (tgt := 111) hx hb dX5_seconds_60 (by decide) (by omega) (by omega) (fun c60 => ?_) (fun c60 => ?_)
              · refine lv_iload hx hb dX5_seconds_111 (lv_at hl 4 rfl) ?_
                have hP9 : va_P D vwCl [(md, .inr (5, [.int (nI 0), .int (nI R), .int (nI n), .ref mt, .ref mv, .ref mc, .int (oI cu), .int (nI nt), .ref mk, .ref ms, .ref mp, .int (nI cH), .int (nI oH), .int (nI fH), .ref mi, .int (nI lc), .ref mlo, .ref mla, .ref mlb, .int (nI fc), .ref mf, .ref mst, .int (nI ((mRow T V C n o (some a) none vv G9 n).1)), .ref mr, .ref mh])), (mt, .inl (ct 0, 400, .inl (aN T))), (mv, .inl (ct 0, 400, .inl (aN V))), (mc, .inl (ct 4, 400, .inl (aB C))), (mr, .inl (ct 0, 400, .inl (aN ((mRow T V C n o (some a) none vv G9 n).2))))] _ := hP.sub [0, 1, 2, 3, 4] rfl
                have hD9 : va_D A [(md, .inr (5, [.int (nI 0), .int (nI R), .int (nI n), .ref mt, .ref mv, .ref mc, .int (oI cu), .int (nI nt), .ref mk, .ref ms, .ref mp, .int (nI cH), .int (nI oH), .int (nI fH), .ref mi, .int (nI lc), .ref mlo, .ref mla, .ref mlb, .int (nI fc), .ref mf, .ref mst, .int (nI ((mRow T V C n o (some a) none vv G9 n).1)), .ref mr, .ref mh])), (mt, .inl (ct 0, 400, .inl (aN T))), (mv, .inl (ct 0, 400, .inl (aN V))), (mc, .inl (ct 4, 400, .inl (aB C))), (mr, .inl (ct 0, 400, .inl (aN ((mRow T V C n o (some a) none vv G9 n).2))))] := hD.sub [0, 1, 2, 3, 4] (by decide) rfl
                exact W.iret (v := nI (mSc ((mRow T V C n o (some a) none vv G9 n).2) k)) hx hb hr (fun t ht hW => ⟨⟨_, (), rfl, (by rw [show (mRow T V C n o (some a) none vv G9 n).1 = k by omega]), by rw [ht]; exact hP9, hD9⟩, hS.F ht⟩) hS.2.2 dX5_seconds_113
              · refine lv_iload hx hb dX5_seconds_63 (lv_at hl 4 rfl) ?_
                refine lv_iload hx hb dX5_seconds_65 (lv_at hl 5 rfl) ?_
                refine tb_if_eq (tgt := 97) hx hb dX5_seconds_67 (by decide) (by omega) (fun c67 => ?_) (fun c67 => ?_)
                · refine lv_iconst (v := nI 1) hx hb dX5_seconds_97 (by decide) ?_
                  refine lv_goto (tgt := 102) hx hb dX5_seconds_98 (by decide) ?_
                  refine tb_iadd hx hb dX5_seconds_102 ?_
                  refine lv_istore (lv' := [(4, .int (nI ((mSc ((mRow T V C n o (some a) none vv G9 n).2) k) + 1))), (0, .ref md), (1, .int (nI o)), (2, .int (nI a)), (3, .int (nI vv)), (5, .int (nI k))]) hx hb dX5_seconds_103 hl (by decide) rfl (fun ls hl => ?_)
                  refine lv_iinc (v := nI (k + 1)) (lv' := [(5, .int (nI (k + 1))), (4, .int (nI ((mSc ((mRow T V C n o (some a) none vv G9 n).2) k) + 1))), (0, .ref md), (1, .int (nI o)), (2, .int (nI a)), (3, .int (nI vv))]) hx hb dX5_seconds_105 hl (k := 5) rfl (tb_inc k rfl) (by decide) rfl (fun ls hl => ?_)
                  refine lv_goto (tgt := 54) hx hb dX5_seconds_108 (by decide) ?_
                  exact ih54 (k + 1) (by omega) (by omega) _ _ (by first | (rw [mSc_y (by first | exact Or.inl c67 | exact Or.inr c94)]; exact hP.sub [0, 1, 2, 3, 4] rfl) | exact hP.sub [0, 1, 2, 3, 4] rfl) (by first | (rw [mSc_y (by first | exact Or.inl c67 | exact Or.inr c94)]; exact hD.sub [0, 1, 2, 3, 4] (by decide) rfl) | exact hD.sub [0, 1, 2, 3, 4] (by decide) rfl) hS _ (by first | (rw [mSc_y (by first | exact Or.inl c67 | exact Or.inr c94)]; exact lv_sub hl [2, 3, 4, 5, 1, 0] rfl) | exact lv_sub hl [2, 3, 4, 5, 1, 0] rfl)
                · refine lv_aload_n hx hb dX5_seconds_70 rfl (lv_at hl 0 rfl) ?_
                  refine va_get (D := D) (ci := 5) (v := .ref mr) (C := RX5) (T := TX5) (N := 25) hx hb hts inX5 hown hK hP 0 rfl rfl 23 (by decide) (hts _ w_321) (fun _ h9 => h9) rfl dX5_seconds_71 ?_
                  refine lv_iload hx hb dX5_seconds_74 (lv_at hl 5 rfl) ?_
                  refine tb_iald (v := ((mRow T V C n o (some a) none vv G9 n).2) k) hx hb hK hP 4 0 rfl rfl (by omega) (by omega) rfl dX5_seconds_76 ?_
                  refine lv_iconst (v := nI 1) hx hb dX5_seconds_77 (by decide) ?_
                  refine vp_callSi (va_Run.run (va_runS (As := [.int (nI (((mRow T V C n o (some a) none vv G9 n).2) k)), .int (nI 1)]) (rest := [.int (nI (mSc ((mRow T V C n o (some a) none vv G9 n).2) k))]) ⟨hx, hb, hml, hown, hts⟩ (m_digits l D ct (((mRow T V C n o (some a) none vv G9 n).2) k) 1 (Nat.lt_trans (hb9k _) (by decide)) (by decide)) (va_cwS 2 hts (gw_S (fun _ h => h) w_342 w_343 w_30 wcX5_digits) rfl rfl rfl hvX5_digits.2 ⟨Nat.le_of_ble_eq_true rfl, Nat.le_of_ble_eq_true rfl⟩) (tb_prS hP hK hZ hS [] rfl) rfl rfl hl.1 rfl (lv_room (Nat.le_of_ble_eq_true rfl)) dX5_seconds_78 ⟨Nat.zero_le _, Nat.zero_le _⟩)) (fun r_78 hr_78 => ?_)
                  obtain rfl : r_78 = nI (tTerm (((mRow T V C n o (some a) none vv G9 n).2) k) 1) := hr_78
                  refine lv_aload_n hx hb dX5_seconds_81 rfl (lv_at hl 0 rfl) ?_
                  refine va_get (D := D) (ci := 5) (v := .ref mr) (C := RX5) (T := TX5) (N := 25) hx hb hts inX5 hown hK hP 0 rfl rfl 23 (by decide) (hts _ w_321) (fun _ h9 => h9) rfl dX5_seconds_82 ?_
                  refine lv_iload hx hb dX5_seconds_85 (lv_at hl 5 rfl) ?_
                  refine lv_iconst (v := nI 1) hx hb dX5_seconds_87 (by decide) ?_
                  refine tb_isub hx hb dX5_seconds_88 (by omega) ?_
                  refine tb_iald (v := ((mRow T V C n o (some a) none vv G9 n).2) (k - 1)) hx hb hK hP 4 0 rfl rfl (by omega) (by omega) rfl dX5_seconds_89 ?_
                  refine lv_iconst (v := nI 1) hx hb dX5_seconds_90 (by decide) ?_
                  refine vp_callSi (va_Run.run (va_runS (As := [.int (nI (((mRow T V C n o (some a) none vv G9 n).2) (k - 1))), .int (nI 1)]) (rest := [.int (nI (tTerm (((mRow T V C n o (some a) none vv G9 n).2) k) 1)), .int (nI (mSc ((mRow T V C n o (some a) none vv G9 n).2) k))]) ⟨hx, hb, hml, hown, hts⟩ (m_digits l D ct (((mRow T V C n o (some a) none vv G9 n).2) (k - 1)) 1 (Nat.lt_trans (hb9k _) (by decide)) (by decide)) (va_cwS 2 hts (gw_S (fun _ h => h) w_342 w_343 w_30 wcX5_digits) rfl rfl rfl hvX5_digits.2 ⟨Nat.le_of_ble_eq_true rfl, Nat.le_of_ble_eq_true rfl⟩) (tb_prS hP hK hZ hS [] rfl) rfl rfl hl.1 rfl (lv_room (Nat.le_of_ble_eq_true rfl)) dX5_seconds_91 ⟨Nat.zero_le _, Nat.zero_le _⟩)) (fun r_91 hr_91 => ?_)
                  obtain rfl : r_91 = nI (tTerm (((mRow T V C n o (some a) none vv G9 n).2) (k - 1)) 1) := hr_91
                  refine tb_icmp_eq (tgt := 101) hx hb dX5_seconds_94 (by decide) (Nat.lt_trans (tTerm_lt (hb9k _) 1) (by decide)) (Nat.lt_trans (tTerm_lt (hb9k _) 1) (by decide)) (fun c94 => ?_) (fun c94 => ?_)
                  · refine lv_iconst (v := nI 0) hx hb dX5_seconds_101 (by decide) ?_
                    refine tb_iadd hx hb dX5_seconds_102 ?_
                    refine lv_istore (lv' := [(4, .int (nI ((mSc ((mRow T V C n o (some a) none vv G9 n).2) k) + 0))), (0, .ref md), (1, .int (nI o)), (2, .int (nI a)), (3, .int (nI vv)), (5, .int (nI k))]) hx hb dX5_seconds_103 hl (by decide) rfl (fun ls hl => ?_)
                    refine lv_iinc (v := nI (k + 1)) (lv' := [(5, .int (nI (k + 1))), (4, .int (nI ((mSc ((mRow T V C n o (some a) none vv G9 n).2) k) + 0))), (0, .ref md), (1, .int (nI o)), (2, .int (nI a)), (3, .int (nI vv))]) hx hb dX5_seconds_105 hl (k := 5) rfl (tb_inc k rfl) (by decide) rfl (fun ls hl => ?_)
                    refine lv_goto (tgt := 54) hx hb dX5_seconds_108 (by decide) ?_
                    exact ih54 (k + 1) (by omega) (by omega) _ _ (by first | (rw [mSc_n (fun q => q.elim (fun z9 => absurd z9 (by omega)) (fun z9 => z9 c94))]; exact hP.sub [0, 1, 2, 3, 4] rfl) | exact hP.sub [0, 1, 2, 3, 4] rfl) (by first | (rw [mSc_n (fun q => q.elim (fun z9 => absurd z9 (by omega)) (fun z9 => z9 c94))]; exact hD.sub [0, 1, 2, 3, 4] (by decide) rfl) | exact hD.sub [0, 1, 2, 3, 4] (by decide) rfl) hS _ (by first | (rw [mSc_n (fun q => q.elim (fun z9 => absurd z9 (by omega)) (fun z9 => z9 c94))]; exact lv_sub hl [2, 3, 4, 5, 1, 0] rfl) | exact lv_sub hl [2, 3, 4, 5, 1, 0] rfl)
                  · refine lv_iconst (v := nI 1) hx hb dX5_seconds_97 (by decide) ?_
                    refine lv_goto (tgt := 102) hx hb dX5_seconds_98 (by decide) ?_
                    refine tb_iadd hx hb dX5_seconds_102 ?_
                    refine lv_istore (lv' := [(4, .int (nI ((mSc ((mRow T V C n o (some a) none vv G9 n).2) k) + 1))), (0, .ref md), (1, .int (nI o)), (2, .int (nI a)), (3, .int (nI vv)), (5, .int (nI k))]) hx hb dX5_seconds_103 hl (by decide) rfl (fun ls hl => ?_)
                    refine lv_iinc (v := nI (k + 1)) (lv' := [(5, .int (nI (k + 1))), (4, .int (nI ((mSc ((mRow T V C n o (some a) none vv G9 n).2) k) + 1))), (0, .ref md), (1, .int (nI o)), (2, .int (nI a)), (3, .int (nI vv))]) hx hb dX5_seconds_105 hl (k := 5) rfl (tb_inc k rfl) (by decide) rfl (fun ls hl => ?_)
                    refine lv_goto (tgt := 54) hx hb dX5_seconds_108 (by decide) ?_
                    exact ih54 (k + 1) (by omega) (by omega) _ _ (by first | (rw [mSc_y (by first | exact Or.inl c67 | exact Or.inr c94)]; exact hP.sub [0, 1, 2, 3, 4] rfl) | exact hP.sub [0, 1, 2, 3, 4] rfl) (by first | (rw [mSc_y (by first | exact Or.inl c67 | exact Or.inr c94)]; exact hD.sub [0, 1, 2, 3, 4] (by decide) rfl) | exact hD.sub [0, 1, 2, 3, 4] (by decide) rfl) hS _ (by first | (rw [mSc_y (by first | exact Or.inl c67 | exact Or.inr c94)]; exact lv_sub hl [2, 3, 4, 5, 1, 0] rfl) | exact lv_sub hl [2, 3, 4, 5, 1, 0] rfl)
          exact hl54 _ 0 (Nat.lt_succ_self _) (by omega) _ _ (hP.sub [0, 1, 2, 3, 4] rfl) (hD.sub [0, 1, 2, 3, 4] (by decide) rfl) hS _ (lv_sub hl [2, 3, 4, 5, 1, 0] rfl)
        · exact absurd (Int32.not_lt.mp (oI_nlt (by omega) hcu)) c34
      · exact absurd (tRng_nI hv (by decide)) c23

set_option maxHeartbeats 4000000 in
set_option maxRecDepth 100000 in
theorem m_sum_ok (l : Launch) (D : va_G) (ct : Nat → ClassId) (md : Nat) (R : Nat) (n : Nat) (cu : Option Nat) (nt : Nat) (cH : Nat) (oH : Nat) (fH : Nat) (lc : Nat) (fc : Nat) (my : Nat) (mt : Nat) (mv : Nat) (mc : Nat) (mk : Nat) (ms : Nat) (mp : Nat) (mi : Nat) (mlo : Nat) (mla : Nat) (mlb : Nat) (mf : Nat) (mst : Nat) (mr : Nat) (mh : Nat) (T : Nat → Nat) (V : Nat → Nat) (C : Nat → Bool) (G9 : Nat → Nat) (o : Nat) (a : Nat) (vv : Nat) (sz : Nat) (hn : n ≤ R) (hR : R ≤ 400) (hV : ∀ j, V j < 2 ^ 31) (hT : ∀ j, T j < 1000000000) (ho : o < 6) (ha : a < 1000) (hv : vv < 1000001) (hcu : ∀ j, cu = some j → j ≤ vv) (hG : ∀ j, G9 j < 1000000000) (hdis : ∀ i j, i < n → j < n → mFp T V C n o (some a) none vv i = true → mFp T V C n o (some a) none vv j = true → mFk T o i = mFk T o j → i = j) : Met l yX5_sum wsX5_sum ({ frames := 3, cells := 0, slots := 0, locals := 72 }) (tb_Pw D ct [.ref md, .int (nI o), .int (nI a), .int (nI vv)] sz [(md, .inr (5, [.int (nI 0), .int (nI R), .int (nI n), .ref mt, .ref mv, .ref mc, .int (oI cu), .int (nI nt), .ref mk, .ref ms, .ref mp, .int (nI cH), .int (nI oH), .int (nI fH), .ref mi, .int (nI lc), .ref mlo, .ref mla, .ref mlb, .int (nI fc), .ref mf, .ref mst, .int (nI my), .ref mr, .ref mh])), (mt, .inl (ct 0, 400, .inl (aN T))), (mv, .inl (ct 0, 400, .inl (aN V))), (mc, .inl (ct 4, 400, .inl (aB C))), (mr, .inl (ct 0, 400, .inl (aN G9)))]) (va_Ql (fun r _ => r = lN (tSum (fun j => tTerm ((mRow T V C n o (some a) none vv G9 n).2 j) 2) ((mRow T V C n o (some a) none vv G9 n).1))) (tb_B D (va_A [(md, .inr (5, [.int (nI 0), .int (nI R), .int (nI n), .ref mt, .ref mv, .ref mc, .int (oI cu), .int (nI nt), .ref mk, .ref ms, .ref mp, .int (nI cH), .int (nI oH), .int (nI fH), .ref mi, .int (nI lc), .ref mlo, .ref mla, .ref mlb, .int (nI fc), .ref mf, .ref mst, .int (nI my), .ref mr, .ref mh])), (mt, .inl (ct 0, 400, .inl (aN T))), (mv, .inl (ct 0, 400, .inl (aN V))), (mc, .inl (ct 4, 400, .inl (aB C))), (mr, .inl (ct 0, 400, .inl (aN G9)))] sz) [(md, .inr (5, [.int (nI 0), .int (nI R), .int (nI n), .ref mt, .ref mv, .ref mc, .int (oI cu), .int (nI nt), .ref mk, .ref ms, .ref mp, .int (nI cH), .int (nI oH), .int (nI fH), .ref mi, .int (nI lc), .ref mlo, .ref mla, .ref mlb, .int (nI fc), .ref mf, .ref mst, .int (nI ((mRow T V C n o (some a) none vv G9 n).1)), .ref mr, .ref mh])), (mt, .inl (ct 0, 400, .inl (aN T))), (mv, .inl (ct 0, 400, .inl (aN V))), (mc, .inl (ct 4, 400, .inl (aB C))), (mr, .inl (ct 0, 400, .inl (aN ((mRow T V C n o (some a) none vv G9 n).2))))]) (va_A [(md, .inr (5, [.int (nI 0), .int (nI R), .int (nI n), .ref mt, .ref mv, .ref mc, .int (oI cu), .int (nI nt), .ref mk, .ref ms, .ref mp, .int (nI cH), .int (nI oH), .int (nI fH), .ref mi, .int (nI lc), .ref mlo, .ref mla, .ref mlb, .int (nI fc), .ref mf, .ref mst, .int (nI my), .ref mr, .ref mh])), (mt, .inl (ct 0, 400, .inl (aN T))), (mv, .inl (ct 0, 400, .inl (aN V))), (mc, .inl (ct 4, 400, .inl (aB C))), (mr, .inl (ct 0, 400, .inl (aN G9)))] sz)) 0 0 (va_A [(md, .inr (5, [.int (nI 0), .int (nI R), .int (nI n), .ref mt, .ref mv, .ref mc, .int (oI cu), .int (nI nt), .ref mk, .ref ms, .ref mp, .int (nI cH), .int (nI oH), .int (nI fH), .ref mi, .int (nI lc), .ref mlo, .ref mla, .ref mlb, .int (nI fc), .ref mf, .ref mst, .int (nI my), .ref mr, .ref mh])), (mt, .inl (ct 0, 400, .inl (aN T))), (mv, .inl (ct 0, 400, .inl (aN V))), (mc, .inl (ct 4, 400, .inl (aB C))), (mr, .inl (ct 0, 400, .inl (aN G9)))] sz) := by
  refine Met.ofW (cc := cX5_sum) (maxL := 7) (ret := (some .long)) (by decide) rfl ?_
  intro p e s m args below meth c s₁ B hml hv
  obtain ⟨rfl, hsz, hP, hK, hD0, hZ⟩ := hv
  have hx := B.exec
  have hb := B.bytes
  have hr := B.returns
  have hts0 := atoms_spec (ws := wsX5_sum) B.pre
  have hts : ∀ w9 ∈ aw, w9.before ([.ref md, .int (nI o), .int (nI a), .int (nI vv)] : List Value).toArray s = true := fun w9 h9 => hts0 w9 (List.mem_cons_of_mem _ h9)
  have hown : s.vm.findClass RX5 = some m.cls := findClass_of_methodNamed B.named
  have hlocks := B.notSynchronized
  subst hsz
  have hD := hD0.self (sz := s.heap.size)
  generalize hAe : va_A [(md, .inr (5, [.int (nI 0), .int (nI R), .int (nI n), .ref mt, .ref mv, .ref mc, .int (oI cu), .int (nI nt), .ref mk, .ref ms, .ref mp, .int (nI cH), .int (nI oH), .int (nI fH), .ref mi, .int (nI lc), .ref mlo, .ref mla, .ref mlb, .int (nI fc), .ref mf, .ref mst, .int (nI my), .ref mr, .ref mh])), (mt, .inl (ct 0, 400, .inl (aN T))), (mv, .inl (ct 0, 400, .inl (aN V))), (mc, .inl (ct 4, 400, .inl (aB C))), (mr, .inl (ct 0, 400, .inl (aN G9)))] s.heap.size = A at hD hZ ⊢
  have hA : ∀ q : Nat, s.heap.size ≤ q → A q := fun q h => by rw [← hAe]; exact Or.inr h
  have hS : va_S A s.heap s.heap [] := va_S.rf
  have hP : va_P D vwCl [(md, .inr (5, [.int (nI 0), .int (nI R), .int (nI n), .ref mt, .ref mv, .ref mc, .int (oI cu), .int (nI nt), .ref mk, .ref ms, .ref mp, .int (nI cH), .int (nI oH), .int (nI fH), .ref mi, .int (nI lc), .ref mlo, .ref mla, .ref mlb, .int (nI fc), .ref mf, .ref mst, .int (nI my), .ref mr, .ref mh])), (mt, .inl (ct 0, 400, .inl (aN T))), (mv, .inl (ct 0, 400, .inl (aN V))), (mc, .inl (ct 4, 400, .inl (aB C))), (mr, .inl (ct 0, 400, .inl (aN G9)))] s.heap := hP
  have hl := lv_entry ([.ref md, .int (nI o), .int (nI a), .int (nI vv)]) (n := 7) (Nat.le_of_ble_eq_true rfl)
  rw [lg_entry_eq]
  generalize (lg_sl ([.ref md, .int (nI o), .int (nI a), .int (nI vv)]) ++ List.replicate (7 - (lg_sl ([.ref md, .int (nI o), .int (nI a), .int (nI vv)])).length) Slot.unset).toArray = ls at hl ⊢
  have hl : lv_has ls 7 [(0, .ref md), (1, .int (nI o)), (2, .int (nI a)), (3, .int (nI vv))] := hl
  have hm9 := mRow_le (T := T) (V := V) (C := C) (n := n) (o := o) (a := some a) (b := none) (x := vv) (f := G9) n
  have hb9k := fun j => mRow_b (V := V) (C := C) (n := n) (o := o) (a := some a) (b := none) (x := vv) hT hG n j
  refine lv_aload_n hx hb dX5_sum_0 rfl (lv_at hl 0 rfl) ?_
  refine lv_iconst (v := nI 0) hx hb dX5_sum_1 (by decide) ?_
  refine va_put (D := D) (ci := 5) (v := .int (nI 0)) (ty := .int) (C := RX5) (T := TX5) (N := 25) hx hb hts inX5 tyX5 tyX5_ok nmX5 hown hK hP hD hS 0 rfl rfl 0 (by decide) (hts _ w_298) (fun _ h9 => h9) rfl (by decide +kernel) rfl rfl (Nat.le_of_ble_eq_true rfl) dX5_sum_2 (fun H locs hP hD hS => ?_)
  have hP : va_P D vwCl [(md, .inr (5, [.int (nI 0), .int (nI R), .int (nI n), .ref mt, .ref mv, .ref mc, .int (oI cu), .int (nI nt), .ref mk, .ref ms, .ref mp, .int (nI cH), .int (nI oH), .int (nI fH), .ref mi, .int (nI lc), .ref mlo, .ref mla, .ref mlb, .int (nI fc), .ref mf, .ref mst, .int (nI my), .ref mr, .ref mh])), (mt, .inl (ct 0, 400, .inl (aN T))), (mv, .inl (ct 0, 400, .inl (aN V))), (mc, .inl (ct 4, 400, .inl (aB C))), (mr, .inl (ct 0, 400, .inl (aN G9)))] H := hP
  have hD : va_D A [(md, .inr (5, [.int (nI 0), .int (nI R), .int (nI n), .ref mt, .ref mv, .ref mc, .int (oI cu), .int (nI nt), .ref mk, .ref ms, .ref mp, .int (nI cH), .int (nI oH), .int (nI fH), .ref mi, .int (nI lc), .ref mlo, .ref mla, .ref mlb, .int (nI fc), .ref mf, .ref mst, .int (nI my), .ref mr, .ref mh])), (mt, .inl (ct 0, 400, .inl (aN T))), (mv, .inl (ct 0, 400, .inl (aN V))), (mc, .inl (ct 4, 400, .inl (aB C))), (mr, .inl (ct 0, 400, .inl (aN G9)))] := hD
  refine lv_iload_n hx hb dX5_sum_5 rfl (lv_at hl 1 rfl) ?_
  refine vp_callSi (va_Run.run (va_runS (As := [.int (nI o)]) (rest := []) ⟨hx, hb, hml, hown, hts⟩ (m_isOrder l D ct (nI o) ) (va_cwS 1 hts (gw_S (fun _ h => h) w_361 w_362 w_30 wcX5_isOrder) rfl rfl rfl hvX5_isOrder.2 ⟨Nat.le_of_ble_eq_true rfl, Nat.le_of_ble_eq_true rfl⟩) (tb_prS hP hK hZ hS [] rfl) rfl rfl hl.1 rfl (lv_room (Nat.le_of_ble_eq_true rfl)) dX5_sum_6 ⟨Nat.zero_le _, Nat.zero_le _⟩)) (fun r_6 hr_6 => ?_)
  obtain rfl : r_6 = bB (decide (tRng (nI o) 6)) := hr_6
  refine tb_if_eqB (tgt := 26) hx hb dX5_sum_9 (by decide) (fun c9 => ?_) (fun c9 => ?_)
  · exact absurd (tRng_nI ho (by decide)) c9
  · refine lv_iload_n hx hb dX5_sum_12 rfl (lv_at hl 2 rfl) ?_
    refine vp_callSi (va_Run.run (va_runS (As := [.int (nI a)]) (rest := []) ⟨hx, hb, hml, hown, hts⟩ (m_isTerm l D ct (nI a) ) (va_cwS 1 hts (gw_S (fun _ h => h) w_329 w_330 w_30 wcX5_isTerm) rfl rfl rfl hvX5_isTerm.2 ⟨Nat.le_of_ble_eq_true rfl, Nat.le_of_ble_eq_true rfl⟩) (tb_prS hP hK hZ hS [] rfl) rfl rfl hl.1 rfl (lv_room (Nat.le_of_ble_eq_true rfl)) dX5_sum_13 ⟨Nat.zero_le _, Nat.zero_le _⟩)) (fun r_13 hr_13 => ?_)
    obtain rfl : r_13 = bB (decide (tRng (nI a) 1000)) := hr_13
    refine tb_if_eqB (tgt := 26) hx hb dX5_sum_16 (by decide) (fun c16 => ?_) (fun c16 => ?_)
    · exact absurd (tRng_nI ha (by decide)) c16
    · refine lv_iload_n hx hb dX5_sum_19 rfl (lv_at hl 3 rfl) ?_
      refine vp_callSi (va_Run.run (va_runS (As := [.int (nI vv)]) (rest := []) ⟨hx, hb, hml, hown, hts⟩ (m_isVersion l D ct (nI vv) ) (va_cwS 1 hts (gw_S (fun _ h => h) w_331 w_332 w_30 wcX5_isVersion) rfl rfl rfl hvX5_isVersion.2 ⟨Nat.le_of_ble_eq_true rfl, Nat.le_of_ble_eq_true rfl⟩) (tb_prS hP hK hZ hS [] rfl) rfl rfl hl.1 rfl (lv_room (Nat.le_of_ble_eq_true rfl)) dX5_sum_20 ⟨Nat.zero_le _, Nat.zero_le _⟩)) (fun r_20 hr_20 => ?_)
      obtain rfl : r_20 = bB (decide (tRng (nI vv) 1000001)) := hr_20
      refine tb_if_neB (tgt := 30) hx hb dX5_sum_23 (by decide) (fun c23 => ?_) (fun c23 => ?_)
      · refine lv_iload_n hx hb dX5_sum_30 rfl (lv_at hl 3 rfl) ?_
        refine lv_aload_n hx hb dX5_sum_31 rfl (lv_at hl 0 rfl) ?_
        refine va_get (D := D) (ci := 5) (v := .int (oI cu)) (C := RX5) (T := TX5) (N := 25) hx hb hts inX5 hown hK hP 0 rfl rfl 6 (by decide) (hts _ w_304) (fun _ h9 => h9) rfl dX5_sum_32 ?_
        refine lv_icmp_ge (tgt := 42) hx hb dX5_sum_35 (by decide) (fun c35 => ?_) (fun c35 => ?_)
        · refine lv_aload_n hx hb dX5_sum_42 rfl (lv_at hl 0 rfl) ?_
          refine lv_iload_n hx hb dX5_sum_43 rfl (lv_at hl 1 rfl) ?_
          refine lv_iload_n hx hb dX5_sum_44 rfl (lv_at hl 2 rfl) ?_
          refine lv_iconst (v := (-1)) hx hb dX5_sum_45 (by decide) ?_
          refine lv_iload_n hx hb dX5_sum_46 rfl (lv_at hl 3 rfl) ?_
          refine tb_callv (wr := []) hP hD hS hA [0, 1, 2, 3, 4] [] rfl rfl (by decide) (by decide) (va_runV (As := [.int (nI o), .int (nI a), .int (-1), .int (nI vv)]) (rest := []) ⟨hx, hb, hml, hown, hts⟩ (m_find l D ct md R n cu nt cH oH fH lc fc my mt mv mc mk ms mp mi mlo mla mlb mf mst mr mh T V C G9 o (some a) none vv _ hn hR hV hT ho (fun j q => by cases q; exact ha) (fun j q => by cases q) (by omega) hG hdis) (cwV 4 hts (gw_V (fun _ h => h) w_365 w_366 w_1 w_30 wcX5_find) rfl rfl rfl hvX5_find ⟨Nat.le_of_ble_eq_true rfl, Nat.le_of_ble_eq_true rfl⟩) (tb_pwV hP hD hK hZ hS hA [0, 1, 2, 3, 4] (by decide) rfl (ci := 5) (q0 := 0) rfl rfl) rfl rfl hl.1 rfl (lv_room (Nat.le_of_ble_eq_true rfl)) dX5_sum_47 ⟨Nat.zero_le _, Nat.zero_le _⟩) (fun H locs hP hD hS => ?_)
          have hP : va_P D vwCl [(md, .inr (5, [.int (nI 0), .int (nI R), .int (nI n), .ref mt, .ref mv, .ref mc, .int (oI cu), .int (nI nt), .ref mk, .ref ms, .ref mp, .int (nI cH), .int (nI oH), .int (nI fH), .ref mi, .int (nI lc), .ref mlo, .ref mla, .ref mlb, .int (nI fc), .ref mf, .ref mst, .int (nI ((mRow T V C n o (some a) none vv G9 n).1)), .ref mr, .ref mh])), (mt, .inl (ct 0, 400, .inl (aN T))), (mv, .inl (ct 0, 400, .inl (aN V))), (mc, .inl (ct 4, 400, .inl (aB C))), (mr, .inl (ct 0, 400, .inl (aN ((mRow T V C n o (some a) none vv G9 n).2))))] H := hP
          have hD : va_D A [(md, .inr (5, [.int (nI 0), .int (nI R), .int (nI n), .ref mt, .ref mv, .ref mc, .int (oI cu), .int (nI nt), .ref mk, .ref ms, .ref mp, .int (nI cH), .int (nI oH), .int (nI fH), .ref mi, .int (nI lc), .ref mlo, .ref mla, .ref mlb, .int (nI fc), .ref mf, .ref mst, .int (nI ((mRow T V C n o (some a) none vv G9 n).1)), .ref mr, .ref mh])), (mt, .inl (ct 0, 400, .inl (aN T))), (mv, .inl (ct 0, 400, .inl (aN V))), (mc, .inl (ct 4, 400, .inl (aB C))), (mr, .inl (ct 0, 400, .inl (aN ((mRow T V C n o (some a) none vv G9 n).2))))] := hD
          refine lv_lconst (v := lN 0) hx hb dX5_sum_50 (by decide) ?_
          refine lv_lstore (lv' := [(4, .long (lN 0)), (0, .ref md), (1, .int (nI o)), (2, .int (nI a)), (3, .int (nI vv))]) hx hb dX5_sum_51 hl (by decide) rfl (fun ls hl => ?_)
          refine lv_iconst (v := nI 0) hx hb dX5_sum_53 (by decide) ?_
          refine lv_istore (lv' := [(6, .int (nI 0)), (4, .long (lN 0)), (0, .ref md), (1, .int (nI o)), (2, .int (nI a)), (3, .int (nI vv))]) hx hb dX5_sum_54 hl (by decide) rfl (fun ls hl => ?_)
          have hl56 : ∀ (N9 : Nat) (k : Nat), (mRow T V C n o (some a) none vv G9 n).1 - k < N9 → (k ≤ (mRow T V C n o (some a) none vv G9 n).1) → ∀ (H : Heap) (locs : List Loc), va_P D vwCl [(md, .inr (5, [.int (nI 0), .int (nI R), .int (nI n), .ref mt, .ref mv, .ref mc, .int (oI cu), .int (nI nt), .ref mk, .ref ms, .ref mp, .int (nI cH), .int (nI oH), .int (nI fH), .ref mi, .int (nI lc), .ref mlo, .ref mla, .ref mlb, .int (nI fc), .ref mf, .ref mst, .int (nI ((mRow T V C n o (some a) none vv G9 n).1)), .ref mr, .ref mh])), (mt, .inl (ct 0, 400, .inl (aN T))), (mv, .inl (ct 0, 400, .inl (aN V))), (mc, .inl (ct 4, 400, .inl (aB C))), (mr, .inl (ct 0, 400, .inl (aN ((mRow T V C n o (some a) none vv G9 n).2))))] H → va_D A [(md, .inr (5, [.int (nI 0), .int (nI R), .int (nI n), .ref mt, .ref mv, .ref mc, .int (oI cu), .int (nI nt), .ref mk, .ref ms, .ref mp, .int (nI cH), .int (nI oH), .int (nI fH), .ref mi, .int (nI lc), .ref mlo, .ref mla, .ref mlb, .int (nI fc), .ref mf, .ref mst, .int (nI ((mRow T V C n o (some a) none vv G9 n).1)), .ref mr, .ref mh])), (mt, .inl (ct 0, 400, .inl (aN T))), (mv, .inl (ct 0, 400, .inl (aN V))), (mc, .inl (ct 4, 400, .inl (aB C))), (mr, .inl (ct 0, 400, .inl (aN ((mRow T V C n o (some a) none vv G9 n).2))))] → va_S A s.heap H locs → ∀ (ls : Array Slot), lv_has ls 7 [(0, .ref md), (1, .int (nI o)), (2, .int (nI a)), (3, .int (nI vv)), (4, .long (lN (tSum (fun j => tTerm ((mRow T V C n o (some a) none vv G9 n).2 j) 2) k))), (6, .int (nI k))] → W p l e (headSpec wsX5_sum ({ frames := 3, cells := 0, slots := 0, locals := 72 })).room s m ([.ref md, .int (nI o), .int (nI a), .int (nI vv)] : List Value).toArray below meth c H locs 0 0 (MQ below (va_Ql (fun r _ => r = lN (tSum (fun j => tTerm ((mRow T V C n o (some a) none vv G9 n).2 j) 2) ((mRow T V C n o (some a) none vv G9 n).1))) (tb_B D A [(md, .inr (5, [.int (nI 0), .int (nI R), .int (nI n), .ref mt, .ref mv, .ref mc, .int (oI cu), .int (nI nt), .ref mk, .ref ms, .ref mp, .int (nI cH), .int (nI oH), .int (nI fH), .ref mi, .int (nI lc), .ref mlo, .ref mla, .ref mlb, .int (nI fc), .ref mf, .ref mst, .int (nI ((mRow T V C n o (some a) none vv G9 n).1)), .ref mr, .ref mh])), (mt, .inl (ct 0, 400, .inl (aN T))), (mv, .inl (ct 0, 400, .inl (aN V))), (mc, .inl (ct 4, 400, .inl (aB C))), (mr, .inl (ct 0, 400, .inl (aN ((mRow T V C n o (some a) none vv G9 n).2))))]) A) ([.ref md, .int (nI o), .int (nI a), .int (nI vv)] : List Value).toArray s 0 0 A) (F0 m 56 ls []) := by
            intro N9
            induction N9 with
            | zero => intro k h9; exact absurd h9 (Nat.not_lt_zero _)
            | succ N9 ih56 =>
              intro k h9 h1 H locs hP hD hS ls hl
              refine lv_iload hx hb dX5_sum_56 (lv_at hl 5 rfl) ?_
              refine lv_aload_n hx hb dX5_sum_58 rfl (lv_at hl 0 rfl) ?_
              refine va_get (D := D) (ci := 5) (v := .int (nI ((mRow T V C n o (some a) none vv G9 n).1))) (C := RX5) (T := TX5) (N := 25) hx hb hts inX5 hown hK hP 0 rfl rfl 22 (by decide) (hts _ w_320) (fun _ h9 => h9) rfl dX5_sum_59 ?_
              refine tb_icmp_ge (tgt := 88) hx hb dX5_sum_62 (by decide) (by omega) (by omega) (fun c62 => ?_) (fun c62 => ?_)
              · refine lv_lload hx hb dX5_sum_88 (lv_at hl 4 rfl) ?_
                have hP9 : va_P D vwCl [(md, .inr (5, [.int (nI 0), .int (nI R), .int (nI n), .ref mt, .ref mv, .ref mc, .int (oI cu), .int (nI nt), .ref mk, .ref ms, .ref mp, .int (nI cH), .int (nI oH), .int (nI fH), .ref mi, .int (nI lc), .ref mlo, .ref mla, .ref mlb, .int (nI fc), .ref mf, .ref mst, .int (nI ((mRow T V C n o (some a) none vv G9 n).1)), .ref mr, .ref mh])), (mt, .inl (ct 0, 400, .inl (aN T))), (mv, .inl (ct 0, 400, .inl (aN V))), (mc, .inl (ct 4, 400, .inl (aB C))), (mr, .inl (ct 0, 400, .inl (aN ((mRow T V C n o (some a) none vv G9 n).2))))] _ := hP.sub [0, 1, 2, 3, 4] rfl
                have hD9 : va_D A [(md, .inr (5, [.int (nI 0), .int (nI R), .int (nI n), .ref mt, .ref mv, .ref mc, .int (oI cu), .int (nI nt), .ref mk, .ref ms, .ref mp, .int (nI cH), .int (nI oH), .int (nI fH), .ref mi, .int (nI lc), .ref mlo, .ref mla, .ref mlb, .int (nI fc), .ref mf, .ref mst, .int (nI ((mRow T V C n o (some a) none vv G9 n).1)), .ref mr, .ref mh])), (mt, .inl (ct 0, 400, .inl (aN T))), (mv, .inl (ct 0, 400, .inl (aN V))), (mc, .inl (ct 4, 400, .inl (aB C))), (mr, .inl (ct 0, 400, .inl (aN ((mRow T V C n o (some a) none vv G9 n).2))))] := hD.sub [0, 1, 2, 3, 4] (by decide) rfl
                exact W.lret (v := lN (tSum (fun j => tTerm ((mRow T V C n o (some a) none vv G9 n).2 j) 2) k)) hx hb hr (fun t ht hW => ⟨⟨_, (), rfl, (by rw [show (mRow T V C n o (some a) none vv G9 n).1 = k by omega]), by rw [ht]; exact hP9, hD9⟩, hS.F ht⟩) hS.2.2 dX5_sum_90
              · refine lv_lload hx hb dX5_sum_65 (lv_at hl 4 rfl) ?_
                refine lv_aload_n hx hb dX5_sum_67 rfl (lv_at hl 0 rfl) ?_
                refine va_get (D := D) (ci := 5) (v := .ref mr) (C := RX5) (T := TX5) (N := 25) hx hb hts inX5 hown hK hP 0 rfl rfl 23 (by decide) (hts _ w_321) (fun _ h9 => h9) rfl dX5_sum_68 ?_
                refine lv_iload hx hb dX5_sum_71 (lv_at hl 5 rfl) ?_
                refine tb_iald (v := ((mRow T V C n o (some a) none vv G9 n).2) k) hx hb hK hP 4 0 rfl rfl (by omega) (by omega) rfl dX5_sum_73 ?_
                refine lv_iconst (v := nI 2) hx hb dX5_sum_74 (by decide) ?_
                refine vp_callSi (va_Run.run (va_runS (As := [.int (nI (((mRow T V C n o (some a) none vv G9 n).2) k)), .int (nI 2)]) (rest := [.long (lN (tSum (fun j => tTerm ((mRow T V C n o (some a) none vv G9 n).2 j) 2) k))]) ⟨hx, hb, hml, hown, hts⟩ (m_digits l D ct (((mRow T V C n o (some a) none vv G9 n).2) k) 2 (Nat.lt_trans (hb9k _) (by decide)) (by decide)) (va_cwS 2 hts (gw_S (fun _ h => h) w_342 w_343 w_30 wcX5_digits) rfl rfl rfl hvX5_digits.2 ⟨Nat.le_of_ble_eq_true rfl, Nat.le_of_ble_eq_true rfl⟩) (tb_prS hP hK hZ hS [] rfl) rfl rfl hl.1 rfl (lv_room (Nat.le_of_ble_eq_true rfl)) dX5_sum_75 ⟨Nat.zero_le _, Nat.zero_le _⟩)) (fun r_75 hr_75 => ?_)
                obtain rfl : r_75 = nI (tTerm (((mRow T V C n o (some a) none vv G9 n).2) k) 2) := hr_75
                refine lv_i2l (v := lN (tTerm (((mRow T V C n o (some a) none vv G9 n).2) k) 2)) hx hb dX5_sum_78 (nI_l (Nat.lt_trans (tTerm_lt (hb9k _) 2) (by decide))) ?_
                refine tb_ladd hx hb dX5_sum_79 ?_
                refine lv_lstore (lv' := [(4, .long (lN (tSum (fun j => tTerm ((mRow T V C n o (some a) none vv G9 n).2 j) 2) k + (tTerm (((mRow T V C n o (some a) none vv G9 n).2) k) 2)))), (0, .ref md), (1, .int (nI o)), (2, .int (nI a)), (3, .int (nI vv)), (6, .int (nI k))]) hx hb dX5_sum_80 hl (by decide) rfl (fun ls hl => ?_)
                refine lv_iinc (v := nI (k + 1)) (lv' := [(6, .int (nI (k + 1))), (4, .long (lN (tSum (fun j => tTerm ((mRow T V C n o (some a) none vv G9 n).2 j) 2) k + (tTerm (((mRow T V C n o (some a) none vv G9 n).2) k) 2)))), (0, .ref md), (1, .int (nI o)), (2, .int (nI a)), (3, .int (nI vv))]) hx hb dX5_sum_82 hl (k := 5) rfl (tb_inc k rfl) (by decide) rfl (fun ls hl => ?_)
                refine lv_goto (tgt := 56) hx hb dX5_sum_85 (by decide) ?_
                exact ih56 (k + 1) (by omega) (by omega) _ _ (hP.sub [0, 1, 2, 3, 4] rfl) (hD.sub [0, 1, 2, 3, 4] (by decide) rfl) hS _ (lv_sub hl [2, 3, 4, 5, 1, 0] rfl)
          exact hl56 _ 0 (Nat.lt_succ_self _) (by omega) _ _ (hP.sub [0, 1, 2, 3, 4] rfl) (hD.sub [0, 1, 2, 3, 4] (by decide) rfl) hS _ (lv_sub hl [2, 3, 4, 5, 1, 0] rfl)
        · exact absurd (Int32.not_lt.mp (oI_nlt (by omega) hcu)) c35
      · exact absurd (tRng_nI hv (by decide)) c23
