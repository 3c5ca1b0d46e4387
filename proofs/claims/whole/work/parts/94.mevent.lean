set_option maxHeartbeats 4000000 in
set_option maxRecDepth 100000 in
theorem m_event_m2 (l : Launch) (D : va_G) (ct : Nat → ClassId) (md : Nat) (R : Nat) (n : Nat) (cu : Option Nat) (nt : Nat) (cH : Nat) (oH : Nat) (fH : Nat) (lc : Nat) (fc : Nat) (my : Nat) (mt : Nat) (mv : Nat) (mc : Nat) (mk : Nat) (ms : Nat) (mp : Nat) (mi : Nat) (mlo : Nat) (mla : Nat) (mlb : Nat) (mf : Nat) (mst : Nat) (mr : Nat) (mh : Nat) (x : Int32) (y : Int32) (u : Int32) (vv : Int32) (y9 : Nat) (sz : Nat) (hbad : ¬ ((tRng x 1000 ∧ tRng y 1000 ∧ tRng u 1000) ∧ tRng vv 1000001)) : Met l yX5_event wsX5_event ({ frames := 1, cells := 0, slots := 0, locals := 20 }) (tb_Pw D ct [.ref md, .int x, .int y, .int u, .int vv, .int (nI y9)] sz [(md, .inr (5, [.int (nI 0), .int (nI R), .int (nI n), .ref mt, .ref mv, .ref mc, .int (oI cu), .int (nI nt), .ref mk, .ref ms, .ref mp, .int (nI cH), .int (nI oH), .int (nI fH), .ref mi, .int (nI lc), .ref mlo, .ref mla, .ref mlb, .int (nI fc), .ref mf, .ref mst, .int (nI my), .ref mr, .ref mh]))]) (va_Qi (fun r _ => r = (-2)) (tb_B D (va_A [(md, .inr (5, [.int (nI 0), .int (nI R), .int (nI n), .ref mt, .ref mv, .ref mc, .int (oI cu), .int (nI nt), .ref mk, .ref ms, .ref mp, .int (nI cH), .int (nI oH), .int (nI fH), .ref mi, .int (nI lc), .ref mlo, .ref mla, .ref mlb, .int (nI fc), .ref mf, .ref mst, .int (nI my), .ref mr, .ref mh]))] sz) [(md, .inr (5, [.int (nI 0), .int (nI R), .int (nI n), .ref mt, .ref mv, .ref mc, .int (oI cu), .int (nI nt), .ref mk, .ref ms, .ref mp, .int (nI cH), .int (nI oH), .int (nI fH), .ref mi, .int (nI lc), .ref mlo, .ref mla, .ref mlb, .int (nI fc), .ref mf, .ref mst, .int (nI my), .ref mr, .ref mh]))]) (va_A [(md, .inr (5, [.int (nI 0), .int (nI R), .int (nI n), .ref mt, .ref mv, .ref mc, .int (oI cu), .int (nI nt), .ref mk, .ref ms, .ref mp, .int (nI cH), .int (nI oH), .int (nI fH), .ref mi, .int (nI lc), .ref mlo, .ref mla, .ref mlb, .int (nI fc), .ref mf, .ref mst, .int (nI my), .ref mr, .ref mh]))] sz)) 0 0 (va_A [(md, .inr (5, [.int (nI 0), .int (nI R), .int (nI n), .ref mt, .ref mv, .ref mc, .int (oI cu), .int (nI nt), .ref mk, .ref ms, .ref mp, .int (nI cH), .int (nI oH), .int (nI fH), .ref mi, .int (nI lc), .ref mlo, .ref mla, .ref mlb, .int (nI fc), .ref mf, .ref mst, .int (nI my), .ref mr, .ref mh]))] sz) := by
  refine Met.ofW (cc := cX5_event) (maxL := 8) (ret := (some .int)) (by decide) rfl ?_
  intro p e s m args below meth c s₁ B hml hv
  obtain ⟨rfl, hsz, hP, hK, hD0, hZ⟩ := hv
  have hx := B.exec
  have hb := B.bytes
  have hr := B.returns
  have hts0 := atoms_spec (ws := wsX5_event) B.pre
  have hts : ∀ w9 ∈ aw, w9.before ([.ref md, .int x, .int y, .int u, .int vv, .int (nI y9)] : List Value).toArray s = true := fun w9 h9 => hts0 w9 (List.mem_cons_of_mem _ h9)
  have hown : s.vm.findClass RX5 = some m.cls := findClass_of_methodNamed B.named
  have hlocks := B.notSynchronized
  subst hsz
  have hD := hD0.self (sz := s.heap.size)
  generalize hAe : va_A [(md, .inr (5, [.int (nI 0), .int (nI R), .int (nI n), .ref mt, .ref mv, .ref mc, .int (oI cu), .int (nI nt), .ref mk, .ref ms, .ref mp, .int (nI cH), .int (nI oH), .int (nI fH), .ref mi, .int (nI lc), .ref mlo, .ref mla, .ref mlb, .int (nI fc), .ref mf, .ref mst, .int (nI my), .ref mr, .ref mh]))] s.heap.size = A at hD hZ ⊢
  have hA : ∀ q : Nat, s.heap.size ≤ q → A q := fun q h => by rw [← hAe]; exact Or.inr h
  have hS : va_S A s.heap s.heap [] := va_S.rf
  have hP : va_P D vwCl [(md, .inr (5, [.int (nI 0), .int (nI R), .int (nI n), .ref mt, .ref mv, .ref mc, .int (oI cu), .int (nI nt), .ref mk, .ref ms, .ref mp, .int (nI cH), .int (nI oH), .int (nI fH), .ref mi, .int (nI lc), .ref mlo, .ref mla, .ref mlb, .int (nI fc), .ref mf, .ref mst, .int (nI my), .ref mr, .ref mh]))] s.heap := hP
  have hl := lv_entry ([.ref md, .int x, .int y, .int u, .int vv, .int (nI y9)]) (n := 8) (Nat.le_of_ble_eq_true rfl)
  rw [lg_entry_eq]
  generalize (lg_sl ([.ref md, .int x, .int y, .int u, .int vv, .int (nI y9)]) ++ List.replicate (8 - (lg_sl ([.ref md, .int x, .int y, .int u, .int vv, .int (nI y9)])).length) Slot.unset).toArray = ls at hl ⊢
  have hl : lv_has ls 8 [(0, .ref md), (1, .int x), (2, .int y), (3, .int u), (4, .int vv), (5, .int (nI y9))] := hl
  refine lv_aload_n hx hb dX5_event_0 rfl (lv_at hl 0 rfl) ?_
  refine lv_iconst (v := nI 0) hx hb dX5_event_1 (by decide) ?_
  refine va_put (D := D) (ci := 5) (v := .int (nI 0)) (ty := .int) (C := RX5) (T := TX5) (N := 25) hx hb hts inX5 tyX5 tyX5_ok nmX5 hown hK hP hD hS 0 rfl rfl 0 (by decide) (hts _ w_298) (fun _ h9 => h9) rfl (by decide +kernel) rfl rfl (Nat.le_of_ble_eq_true rfl) dX5_event_2 (fun H locs hP hD hS => ?_)
  have hP : va_P D vwCl [(md, .inr (5, [.int (nI 0), .int (nI R), .int (nI n), .ref mt, .ref mv, .ref mc, .int (oI cu), .int (nI nt), .ref mk, .ref ms, .ref mp, .int (nI cH), .int (nI oH), .int (nI fH), .ref mi, .int (nI lc), .ref mlo, .ref mla, .ref mlb, .int (nI fc), .ref mf, .ref mst, .int (nI my), .ref mr, .ref mh]))] H := hP
  have hD : va_D A [(md, .inr (5, [.int (nI 0), .int (nI R), .int (nI n), .ref mt, .ref mv, .ref mc, .int (oI cu), .int (nI nt), .ref mk, .ref ms, .ref mp, .int (nI cH), .int (nI oH), .int (nI fH), .ref mi, .int (nI lc), .ref mlo, .ref mla, .ref mlb, .int (nI fc), .ref mf, .ref mst, .int (nI my), .ref mr, .ref mh]))] := hD
  refine lv_iload_n hx hb dX5_event_5 rfl (lv_at hl 1 rfl) ?_
  refine vp_callSi (va_Run.run (va_runS (As := [.int x]) (rest := []) ⟨hx, hb, hml, hown, hts⟩ (m_isTerm l D ct x ) (va_cwS 1 hts (gw_S (fun _ h => h) w_329 w_330 w_30 wcX5_isTerm) rfl rfl rfl hvX5_isTerm.2 ⟨Nat.le_of_ble_eq_true rfl, Nat.le_of_ble_eq_true rfl⟩) (tb_prS hP hK hZ hS [] rfl) rfl rfl hl.1 rfl (lv_room (Nat.le_of_ble_eq_true rfl)) dX5_event_6 ⟨Nat.zero_le _, Nat.zero_le _⟩)) (fun r_6 hr_6 => ?_)
  obtain rfl : r_6 = bB (decide (tRng x 1000)) := hr_6
  refine tb_if_eqB (tgt := 34) hx hb dX5_event_9 (by decide) (fun c9 => ?_) (fun c9 => ?_)
  · refine lv_bipush (v := (-2)) hx hb dX5_event_34 (by decide) ?_
    have hP9 : va_P D vwCl [(md, .inr (5, [.int (nI 0), .int (nI R), .int (nI n), .ref mt, .ref mv, .ref mc, .int (oI cu), .int (nI nt), .ref mk, .ref ms, .ref mp, .int (nI cH), .int (nI oH), .int (nI fH), .ref mi, .int (nI lc), .ref mlo, .ref mla, .ref mlb, .int (nI fc), .ref mf, .ref mst, .int (nI my), .ref mr, .ref mh]))] _ := hP.sub [0] rfl
    have hD9 : va_D A [(md, .inr (5, [.int (nI 0), .int (nI R), .int (nI n), .ref mt, .ref mv, .ref mc, .int (oI cu), .int (nI nt), .ref mk, .ref ms, .ref mp, .int (nI cH), .int (nI oH), .int (nI fH), .ref mi, .int (nI lc), .ref mlo, .ref mla, .ref mlb, .int (nI fc), .ref mf, .ref mst, .int (nI my), .ref mr, .ref mh]))] := hD.sub [0] (by decide) rfl
    exact W.iret (v := (-2)) hx hb hr (fun t ht hW => ⟨⟨_, (), rfl, rfl, by rw [ht]; exact hP9, hD9⟩, hS.F ht⟩) hS.2.2 dX5_event_36
  · refine lv_iload_n hx hb dX5_event_12 rfl (lv_at hl 2 rfl) ?_
    refine vp_callSi (va_Run.run (va_runS (As := [.int y]) (rest := []) ⟨hx, hb, hml, hown, hts⟩ (m_isTerm l D ct y ) (va_cwS 1 hts (gw_S (fun _ h => h) w_329 w_330 w_30 wcX5_isTerm) rfl rfl rfl hvX5_isTerm.2 ⟨Nat.le_of_ble_eq_true rfl, Nat.le_of_ble_eq_true rfl⟩) (tb_prS hP hK hZ hS [] rfl) rfl rfl hl.1 rfl (lv_room (Nat.le_of_ble_eq_true rfl)) dX5_event_13 ⟨Nat.zero_le _, Nat.zero_le _⟩)) (fun r_13 hr_13 => ?_)
    obtain rfl : r_13 = bB (decide (tRng y 1000)) := hr_13
    refine tb_if_eqB (tgt := 34) hx hb dX5_event_16 (by decide) (fun c16 => ?_) (fun c16 => ?_)
    · refine lv_bipush (v := (-2)) hx hb dX5_event_34 (by decide) ?_
      have hP9 : va_P D vwCl [(md, .inr (5, [.int (nI 0), .int (nI R), .int (nI n), .ref mt, .ref mv, .ref mc, .int (oI cu), .int (nI nt), .ref mk, .ref ms, .ref mp, .int (nI cH), .int (nI oH), .int (nI fH), .ref mi, .int (nI lc), .ref mlo, .ref mla, .ref mlb, .int (nI fc), .ref mf, .ref mst, .int (nI my), .ref mr, .ref mh]))] _ := hP.sub [0] rfl
      have hD9 : va_D A [(md, .inr (5, [.int (nI 0), .int (nI R), .int (nI n), .ref mt, .ref mv, .ref mc, .int (oI cu), .int (nI nt), .ref mk, .ref ms, .ref mp, .int (nI cH), .int (nI oH), .int (nI fH), .ref mi, .int (nI lc), .ref mlo, .ref mla, .ref mlb, .int (nI fc), .ref mf, .ref mst, .int (nI my), .ref mr, .ref mh]))] := hD.sub [0] (by decide) rfl
      exact W.iret (v := (-2)) hx hb hr (fun t ht hW => ⟨⟨_, (), rfl, rfl, by rw [ht]; exact hP9, hD9⟩, hS.F ht⟩) hS.2.2 dX5_event_36
    · refine lv_iload_n hx hb dX5_event_19 rfl (lv_at hl 3 rfl) ?_
      refine vp_callSi (va_Run.run (va_runS (As := [.int u]) (rest := []) ⟨hx, hb, hml, hown, hts⟩ (m_isTerm l D ct u ) (va_cwS 1 hts (gw_S (fun _ h => h) w_329 w_330 w_30 wcX5_isTerm) rfl rfl rfl hvX5_isTerm.2 ⟨Nat.le_of_ble_eq_true rfl, Nat.le_of_ble_eq_true rfl⟩) (tb_prS hP hK hZ hS [] rfl) rfl rfl hl.1 rfl (lv_room (Nat.le_of_ble_eq_true rfl)) dX5_event_20 ⟨Nat.zero_le _, Nat.zero_le _⟩)) (fun r_20 hr_20 => ?_)
      obtain rfl : r_20 = bB (decide (tRng u 1000)) := hr_20
      refine tb_if_eqB (tgt := 34) hx hb dX5_event_23 (by decide) (fun c23 => ?_) (fun c23 => ?_)
      · refine lv_bipush (v := (-2)) hx hb dX5_event_34 (by decide) ?_
        have hP9 : va_P D vwCl [(md, .inr (5, [.int (nI 0), .int (nI R), .int (nI n), .ref mt, .ref mv, .ref mc, .int (oI cu), .int (nI nt), .ref mk, .ref ms, .ref mp, .int (nI cH), .int (nI oH), .int (nI fH), .ref mi, .int (nI lc), .ref mlo, .ref mla, .ref mlb, .int (nI fc), .ref mf, .ref mst, .int (nI my), .ref mr, .ref mh]))] _ := hP.sub [0] rfl
        have hD9 : va_D A [(md, .inr (5, [.int (nI 0), .int (nI R), .int (nI n), .ref mt, .ref mv, .ref mc, .int (oI cu), .int (nI nt), .ref mk, .ref ms, .ref mp, .int (nI cH), .int (nI oH), .int (nI fH), .ref mi, .int (nI lc), .ref mlo, .ref mla, .ref mlb, .int (nI fc), .ref mf, .ref mst, .int (nI my), .ref mr, .ref mh]))] := hD.sub [0] (by decide) rfl
        exact W.iret (v := (-2)) hx hb hr (fun t ht hW => ⟨⟨_, (), rfl, rfl, by rw [ht]; exact hP9, hD9⟩, hS.F ht⟩) hS.2.2 dX5_event_36
      · refine lv_iload hx hb dX5_event_26 (lv_at hl 4 rfl) ?_
        refine vp_callSi (va_Run.run (va_runS (As := [.int vv]) (rest := []) ⟨hx, hb, hml, hown, hts⟩ (m_isVersion l D ct vv ) (va_cwS 1 hts (gw_S (fun _ h => h) w_331 w_332 w_30 wcX5_isVersion) rfl rfl rfl hvX5_isVersion.2 ⟨Nat.le_of_ble_eq_true rfl, Nat.le_of_ble_eq_true rfl⟩) (tb_prS hP hK hZ hS [] rfl) rfl rfl hl.1 rfl (lv_room (Nat.le_of_ble_eq_true rfl)) dX5_event_28 ⟨Nat.zero_le _, Nat.zero_le _⟩)) (fun r_28 hr_28 => ?_)
        obtain rfl : r_28 = bB (decide (tRng vv 1000001)) := hr_28
        refine tb_if_neB (tgt := 37) hx hb dX5_event_31 (by decide) (fun c31 => ?_) (fun c31 => ?_)
        · exact absurd ⟨⟨c9, c16, c23⟩, c31⟩ hbad
        · refine lv_bipush (v := (-2)) hx hb dX5_event_34 (by decide) ?_
          have hP9 : va_P D vwCl [(md, .inr (5, [.int (nI 0), .int (nI R), .int (nI n), .ref mt, .ref mv, .ref mc, .int (oI cu), .int (nI nt), .ref mk, .ref ms, .ref mp, .int (nI cH), .int (nI oH), .int (nI fH), .ref mi, .int (nI lc), .ref mlo, .ref mla, .ref mlb, .int (nI fc), .ref mf, .ref mst, .int (nI my), .ref mr, .ref mh]))] _ := hP.sub [0] rfl
          have hD9 : va_D A [(md, .inr (5, [.int (nI 0), .int (nI R), .int (nI n), .ref mt, .ref mv, .ref mc, .int (oI cu), .int (nI nt), .ref mk, .ref ms, .ref mp, .int (nI cH), .int (nI oH), .int (nI fH), .ref mi, .int (nI lc), .ref mlo, .ref mla, .ref mlb, .int (nI fc), .ref mf, .ref mst, .int (nI my), .ref mr, .ref mh]))] := hD.sub [0] (by decide) rfl
          exact W.iret (v := (-2)) hx hb hr (fun t ht hW => ⟨⟨_, (), rfl, rfl, by rw [ht]; exact hP9, hD9⟩, hS.F ht⟩) hS.2.2 dX5_event_36

set_option maxHeartbeats 4000000 in
set_option maxRecDepth 100000 in
theorem m_event_m3 (l : Launch) (D : va_G) (ct : Nat → ClassId) (md : Nat) (R : Nat) (n : Nat) (cu : Option Nat) (nt : Nat) (cH : Nat) (oH : Nat) (fH : Nat) (lc : Nat) (fc : Nat) (my : Nat) (mt : Nat) (mv : Nat) (mc : Nat) (mk : Nat) (ms : Nat) (mp : Nat) (mi : Nat) (mlo : Nat) (mla : Nat) (mlb : Nat) (mf : Nat) (mst : Nat) (mr : Nat) (mh : Nat) (V : Nat → Nat) (a : Nat) (b : Nat) (d : Nat) (vv : Nat) (y9 : Nat) (sz : Nat) (hn : n ≤ R) (hR : R ≤ 400) (hV : ∀ j, V j < 2 ^ 31) (hcb : ∀ j, cu = some j → j < 2 ^ 31) (ha : a < 1000) (hb9 : b < 1000) (hd : d < 1000) (hv : vv < 1000001) (hlow : vv < mNow V n cu) : Met l yX5_event wsX5_event ({ frames := 1, cells := 0, slots := 0, locals := 21 }) (tb_Pw D ct [.ref md, .int (nI a), .int (nI b), .int (nI d), .int (nI vv), .int (nI y9)] sz [(md, .inr (5, [.int (nI 0), .int (nI R), .int (nI n), .ref mt, .ref mv, .ref mc, .int (oI cu), .int (nI nt), .ref mk, .ref ms, .ref mp, .int (nI cH), .int (nI oH), .int (nI fH), .ref mi, .int (nI lc), .ref mlo, .ref mla, .ref mlb, .int (nI fc), .ref mf, .ref mst, .int (nI my), .ref mr, .ref mh])), (mv, .inl (ct 0, 400, .inl (aN V)))]) (va_Qi (fun r _ => r = (-3)) (tb_B D (va_A [(md, .inr (5, [.int (nI 0), .int (nI R), .int (nI n), .ref mt, .ref mv, .ref mc, .int (oI cu), .int (nI nt), .ref mk, .ref ms, .ref mp, .int (nI cH), .int (nI oH), .int (nI fH), .ref mi, .int (nI lc), .ref mlo, .ref mla, .ref mlb, .int (nI fc), .ref mf, .ref mst, .int (nI my), .ref mr, .ref mh])), (mv, .inl (ct 0, 400, .inl (aN V)))] sz) [(md, .inr (5, [.int (nI 0), .int (nI R), .int (nI n), .ref mt, .ref mv, .ref mc, .int (oI cu), .int (nI nt), .ref mk, .ref ms, .ref mp, .int (nI cH), .int (nI oH), .int (nI fH), .ref mi, .int (nI lc), .ref mlo, .ref mla, .ref mlb, .int (nI fc), .ref mf, .ref mst, .int (nI my), .ref mr, .ref mh])), (mv, .inl (ct 0, 400, .inl (aN V)))]) (va_A [(md, .inr (5, [.int (nI 0), .int (nI R), .int (nI n), .ref mt, .ref mv, .ref mc, .int (oI cu), .int (nI nt), .ref mk, .ref ms, .ref mp, .int (nI cH), .int (nI oH), .int (nI fH), .ref mi, .int (nI lc), .ref mlo, .ref mla, .ref mlb, .int (nI fc), .ref mf, .ref mst, .int (nI my), .ref mr, .ref mh])), (mv, .inl (ct 0, 400, .inl (aN V)))] sz)) 0 0 (va_A [(md, .inr (5, [.int (nI 0), .int (nI R), .int (nI n), .ref mt, .ref mv, .ref mc, .int (oI cu), .int (nI nt), .ref mk, .ref ms, .ref mp, .int (nI cH), .int (nI oH), .int (nI fH), .ref mi, .int (nI lc), .ref mlo, .ref mla, .ref mlb, .int (nI fc), .ref mf, .ref mst, .int (nI my), .ref mr, .ref mh])), (mv, .inl (ct 0, 400, .inl (aN V)))] sz) := by
  refine Met.ofW (cc := cX5_event) (maxL := 8) (ret := (some .int)) (by decide) rfl ?_
  intro p e s m args below meth c s₁ B hml hv
  obtain ⟨rfl, hsz, hP, hK, hD0, hZ⟩ := hv
  have hx := B.exec
  have hb := B.bytes
  have hr := B.returns
  have hts0 := atoms_spec (ws := wsX5_event) B.pre
  have hts : ∀ w9 ∈ aw, w9.before ([.ref md, .int (nI a), .int (nI b), .int (nI d), .int (nI vv), .int (nI y9)] : List Value).toArray s = true := fun w9 h9 => hts0 w9 (List.mem_cons_of_mem _ h9)
  have hown : s.vm.findClass RX5 = some m.cls := findClass_of_methodNamed B.named
  have hlocks := B.notSynchronized
  subst hsz
  have hD := hD0.self (sz := s.heap.size)
  generalize hAe : va_A [(md, .inr (5, [.int (nI 0), .int (nI R), .int (nI n), .ref mt, .ref mv, .ref mc, .int (oI cu), .int (nI nt), .ref mk, .ref ms, .ref mp, .int (nI cH), .int (nI oH), .int (nI fH), .ref mi, .int (nI lc), .ref mlo, .ref mla, .ref mlb, .int (nI fc), .ref mf, .ref mst, .int (nI my), .ref mr, .ref mh])), (mv, .inl (ct 0, 400, .inl (aN V)))] s.heap.size = A at hD hZ ⊢
  have hA : ∀ q : Nat, s.heap.size ≤ q → A q := fun q h => by rw [← hAe]; exact Or.inr h
  have hS : va_S A s.heap s.heap [] := va_S.rf
  have hP : va_P D vwCl [(md, .inr (5, [.int (nI 0), .int (nI R), .int (nI n), .ref mt, .ref mv, .ref mc, .int (oI cu), .int (nI nt), .ref mk, .ref ms, .ref mp, .int (nI cH), .int (nI oH), .int (nI fH), .ref mi, .int (nI lc), .ref mlo, .ref mla, .ref mlb, .int (nI fc), .ref mf, .ref mst, .int (nI my), .ref mr, .ref mh])), (mv, .inl (ct 0, 400, .inl (aN V)))] s.heap := hP
  have hl := lv_entry ([.ref md, .int (nI a), .int (nI b), .int (nI d), .int (nI vv), .int (nI y9)]) (n := 8) (Nat.le_of_ble_eq_true rfl)
  rw [lg_entry_eq]
  generalize (lg_sl ([.ref md, .int (nI a), .int (nI b), .int (nI d), .int (nI vv), .int (nI y9)]) ++ List.replicate (8 - (lg_sl ([.ref md, .int (nI a), .int (nI b), .int (nI d), .int (nI vv), .int (nI y9)])).length) Slot.unset).toArray = ls at hl ⊢
  have hl : lv_has ls 8 [(0, .ref md), (1, .int (nI a)), (2, .int (nI b)), (3, .int (nI d)), (4, .int (nI vv)), (5, .int (nI y9))] := hl
  refine lv_aload_n hx hb dX5_event_0 rfl (lv_at hl 0 rfl) ?_
  refine lv_iconst (v := nI 0) hx hb dX5_event_1 (by decide) ?_
  refine va_put (D := D) (ci := 5) (v := .int (nI 0)) (ty := .int) (C := RX5) (T := TX5) (N := 25) hx hb hts inX5 tyX5 tyX5_ok nmX5 hown hK hP hD hS 0 rfl rfl 0 (by decide) (hts _ w_298) (fun _ h9 => h9) rfl (by decide +kernel) rfl rfl (Nat.le_of_ble_eq_true rfl) dX5_event_2 (fun H locs hP hD hS => ?_)
  have hP : va_P D vwCl [(md, .inr (5, [.int (nI 0), .int (nI R), .int (nI n), .ref mt, .ref mv, .ref mc, .int (oI cu), .int (nI nt), .ref mk, .ref ms, .ref mp, .int (nI cH), .int (nI oH), .int (nI fH), .ref mi, .int (nI lc), .ref mlo, .ref mla, .ref mlb, .int (nI fc), .ref mf, .ref mst, .int (nI my), .ref mr, .ref mh])), (mv, .inl (ct 0, 400, .inl (aN V)))] H := hP
  have hD : va_D A [(md, .inr (5, [.int (nI 0), .int (nI R), .int (nI n), .ref mt, .ref mv, .ref mc, .int (oI cu), .int (nI nt), .ref mk, .ref ms, .ref mp, .int (nI cH), .int (nI oH), .int (nI fH), .ref mi, .int (nI lc), .ref mlo, .ref mla, .ref mlb, .int (nI fc), .ref mf, .ref mst, .int (nI my), .ref mr, .ref mh])), (mv, .inl (ct 0, 400, .inl (aN V)))] := hD
  refine lv_iload_n hx hb dX5_event_5 rfl (lv_at hl 1 rfl) ?_
  refine vp_callSi (va_Run.run (va_runS (As := [.int (nI a)]) (rest := []) ⟨hx, hb, hml, hown, hts⟩ (m_isTerm l D ct (nI a) ) (va_cwS 1 hts (gw_S (fun _ h => h) w_329 w_330 w_30 wcX5_isTerm) rfl rfl rfl hvX5_isTerm.2 ⟨Nat.le_of_ble_eq_true rfl, Nat.le_of_ble_eq_true rfl⟩) (tb_prS hP hK hZ hS [] rfl) rfl rfl hl.1 rfl (lv_room (Nat.le_of_ble_eq_true rfl)) dX5_event_6 ⟨Nat.zero_le _, Nat.zero_le _⟩)) (fun r_6 hr_6 => ?_)
  obtain rfl : r_6 = bB (decide (tRng (nI a) 1000)) := hr_6
  refine tb_if_eqB (tgt := 34) hx hb dX5_event_9 (by decide) (fun c9 => ?_) (fun c9 => ?_)
  · exact absurd (tRng_nI ha (by decide)) c9
  · refine lv_iload_n hx hb dX5_event_12 rfl (lv_at hl 2 rfl) ?_
    refine vp_callSi (va_Run.run (va_runS (As := [.int (nI b)]) (rest := []) ⟨hx, hb, hml, hown, hts⟩ (m_isTerm l D ct (nI b) ) (va_cwS 1 hts (gw_S (fun _ h => h) w_329 w_330 w_30 wcX5_isTerm) rfl rfl rfl hvX5_isTerm.2 ⟨Nat.le_of_ble_eq_true rfl, Nat.le_of_ble_eq_true rfl⟩) (tb_prS hP hK hZ hS [] rfl) rfl rfl hl.1 rfl (lv_room (Nat.le_of_ble_eq_true rfl)) dX5_event_13 ⟨Nat.zero_le _, Nat.zero_le _⟩)) (fun r_13 hr_13 => ?_)
    obtain rfl : r_13 = bB (decide (tRng (nI b) 1000)) := hr_13
    refine tb_if_eqB (tgt := 34) hx hb dX5_event_16 (by decide) (fun c16 => ?_) (fun c16 => ?_)
    · exact absurd (tRng_nI hb9 (by decide)) c16
    · refine lv_iload_n hx hb dX5_event_19 rfl (lv_at hl 3 rfl) ?_
      refine vp_callSi (va_Run.run (va_runS (As := [.int (nI d)]) (rest := []) ⟨hx, hb, hml, hown, hts⟩ (m_isTerm l D ct (nI d) ) (va_cwS 1 hts (gw_S (fun _ h => h) w_329 w_330 w_30 wcX5_isTerm) rfl rfl rfl hvX5_isTerm.2 ⟨Nat.le_of_ble_eq_true rfl, Nat.le_of_ble_eq_true rfl⟩) (tb_prS hP hK hZ hS [] rfl) rfl rfl hl.1 rfl (lv_room (Nat.le_of_ble_eq_true rfl)) dX5_event_20 ⟨Nat.zero_le _, Nat.zero_le _⟩)) (fun r_20 hr_20 => ?_)
      obtain rfl : r_20 = bB (decide (tRng (nI d) 1000)) := hr_20
      refine tb_if_eqB (tgt := 34) hx hb dX5_event_23 (by decide) (fun c23 => ?_) (fun c23 => ?_)
      · exact absurd (tRng_nI hd (by decide)) c23
      · refine lv_iload hx hb dX5_event_26 (lv_at hl 4 rfl) ?_
        refine vp_callSi (va_Run.run (va_runS (As := [.int (nI vv)]) (rest := []) ⟨hx, hb, hml, hown, hts⟩ (m_isVersion l D ct (nI vv) ) (va_cwS 1 hts (gw_S (fun _ h => h) w_331 w_332 w_30 wcX5_isVersion) rfl rfl rfl hvX5_isVersion.2 ⟨Nat.le_of_ble_eq_true rfl, Nat.le_of_ble_eq_true rfl⟩) (tb_prS hP hK hZ hS [] rfl) rfl rfl hl.1 rfl (lv_room (Nat.le_of_ble_eq_true rfl)) dX5_event_28 ⟨Nat.zero_le _, Nat.zero_le _⟩)) (fun r_28 hr_28 => ?_)
        obtain rfl : r_28 = bB (decide (tRng (nI vv) 1000001)) := hr_28
        refine tb_if_neB (tgt := 37) hx hb dX5_event_31 (by decide) (fun c31 => ?_) (fun c31 => ?_)
        · refine lv_iload hx hb dX5_event_37 (lv_at hl 4 rfl) ?_
          refine lv_aload_n hx hb dX5_event_39 rfl (lv_at hl 0 rfl) ?_
          refine vp_callSi (va_Run.run (va_runV (As := []) (rest := [.int (nI vv)]) ⟨hx, hb, hml, hown, hts⟩ (m_now l D ct md R n cu nt cH oH fH lc fc my mt mv mc mk ms mp mi mlo mla mlb mf mst mr mh V hn hR hV hcb) (cwV 0 hts (gw_V (fun _ h => h) w_334 w_335 w_7 w_30 wcX5_now) rfl rfl rfl hvX5_now ⟨Nat.le_of_ble_eq_true rfl, Nat.le_of_ble_eq_true rfl⟩) (tb_prV hP hK hZ hS [0, 1] rfl (ci := 5) (q0 := 0) rfl rfl) rfl rfl hl.1 rfl (lv_room (Nat.le_of_ble_eq_true rfl)) dX5_event_40 ⟨Nat.zero_le _, Nat.zero_le _⟩)) (fun r_40 hr_40 => ?_)
          obtain rfl : r_40 = nI (mNow V n cu) := hr_40
          refine tb_icmp_ge (tgt := 49) hx hb dX5_event_43 (by decide) (by omega) (mNow_b2 hV hcb) (fun c43 => ?_) (fun c43 => ?_)
          · exfalso; omega
          · refine lv_bipush (v := (-3)) hx hb dX5_event_46 (by decide) ?_
            have hP9 : va_P D vwCl [(md, .inr (5, [.int (nI 0), .int (nI R), .int (nI n), .ref mt, .ref mv, .ref mc, .int (oI cu), .int (nI nt), .ref mk, .ref ms, .ref mp, .int (nI cH), .int (nI oH), .int (nI fH), .ref mi, .int (nI lc), .ref mlo, .ref mla, .ref mlb, .int (nI fc), .ref mf, .ref mst, .int (nI my), .ref mr, .ref mh])), (mv, .inl (ct 0, 400, .inl (aN V)))] _ := hP.sub [0, 1] rfl
            have hD9 : va_D A [(md, .inr (5, [.int (nI 0), .int (nI R), .int (nI n), .ref mt, .ref mv, .ref mc, .int (oI cu), .int (nI nt), .ref mk, .ref ms, .ref mp, .int (nI cH), .int (nI oH), .int (nI fH), .ref mi, .int (nI lc), .ref mlo, .ref mla, .ref mlb, .int (nI fc), .ref mf, .ref mst, .int (nI my), .ref mr, .ref mh])), (mv, .inl (ct 0, 400, .inl (aN V)))] := hD.sub [0, 1] (by decide) rfl
            exact W.iret (v := (-3)) hx hb hr (fun t ht hW => ⟨⟨_, (), rfl, rfl, by rw [ht]; exact hP9, hD9⟩, hS.F ht⟩) hS.2.2 dX5_event_48
        · exact absurd (tRng_nI hv (by decide)) c31

set_option maxHeartbeats 4000000 in
set_option maxRecDepth 100000 in
theorem m_ev_add_0 (l : Launch) (D : va_G) (ct : Nat → ClassId) (md : Nat) (R : Nat) (n : Nat) (cu : Option Nat) (nt : Nat) (cH : Nat) (oH : Nat) (fH : Nat) (lc : Nat) (fc : Nat) (my : Nat) (mt : Nat) (mv : Nat) (mc : Nat) (mk : Nat) (ms : Nat) (mp : Nat) (mi : Nat) (mlo : Nat) (mla : Nat) (mlb : Nat) (mf : Nat) (mst : Nat) (mr : Nat) (mh : Nat) (T : Nat → Nat) (V : Nat → Nat) (C : Nat → Bool) (a : Nat) (b : Nat) (d : Nat) (vv : Nat) (sz : Nat) (hn : n ≤ R) (hR : R ≤ 400) (hV : ∀ j, V j < 2 ^ 31) (hT : ∀ j, T j < 1000000000) (hcb : ∀ j, cu = some j → j < 2 ^ 31) (ha : a < 1000) (hb9 : b < 1000) (hd : d < 1000) (hv : vv < 1000001) (hlow : mNow V n cu ≤ vv) (hth : mTh T C (a * 1000000 + b * 1000 + d) n = true) : Met l yX5_event wsX5_event ({ frames := 1, cells := 0, slots := 0, locals := 23 }) (tb_Pw D ct [.ref md, .int (nI a), .int (nI b), .int (nI d), .int (nI vv), .int (nI 1)] sz [(md, .inr (5, [.int (nI 0), .int (nI R), .int (nI n), .ref mt, .ref mv, .ref mc, .int (oI cu), .int (nI nt), .ref mk, .ref ms, .ref mp, .int (nI cH), .int (nI oH), .int (nI fH), .ref mi, .int (nI lc), .ref mlo, .ref mla, .ref mlb, .int (nI fc), .ref mf, .ref mst, .int (nI my), .ref mr, .ref mh])), (mt, .inl (ct 0, 400, .inl (aN T))), (mv, .inl (ct 0, 400, .inl (aN V))), (mc, .inl (ct 4, 400, .inl (aB C)))]) (va_Qi (fun r _ => r = nI 0) (tb_B D (va_A [(md, .inr (5, [.int (nI 0), .int (nI R), .int (nI n), .ref mt, .ref mv, .ref mc, .int (oI cu), .int (nI nt), .ref mk, .ref ms, .ref mp, .int (nI cH), .int (nI oH), .int (nI fH), .ref mi, .int (nI lc), .ref mlo, .ref mla, .ref mlb, .int (nI fc), .ref mf, .ref mst, .int (nI my), .ref mr, .ref mh])), (mt, .inl (ct 0, 400, .inl (aN T))), (mv, .inl (ct 0, 400, .inl (aN V))), (mc, .inl (ct 4, 400, .inl (aB C)))] sz) [(md, .inr (5, [.int (nI 0), .int (nI R), .int (nI n), .ref mt, .ref mv, .ref mc, .int (oI cu), .int (nI nt), .ref mk, .ref ms, .ref mp, .int (nI cH), .int (nI oH), .int (nI fH), .ref mi, .int (nI lc), .ref mlo, .ref mla, .ref mlb, .int (nI fc), .ref mf, .ref mst, .int (nI my), .ref mr, .ref mh])), (mt, .inl (ct 0, 400, .inl (aN T))), (mv, .inl (ct 0, 400, .inl (aN V))), (mc, .inl (ct 4, 400, .inl (aB C)))]) (va_A [(md, .inr (5, [.int (nI 0), .int (nI R), .int (nI n), .ref mt, .ref mv, .ref mc, .int (oI cu), .int (nI nt), .ref mk, .ref ms, .ref mp, .int (nI cH), .int (nI oH), .int (nI fH), .ref mi, .int (nI lc), .ref mlo, .ref mla, .ref mlb, .int (nI fc), .ref mf, .ref mst, .int (nI my), .ref mr, .ref mh])), (mt, .inl (ct 0, 400, .inl (aN T))), (mv, .inl (ct 0, 400, .inl (aN V))), (mc, .inl (ct 4, 400, .inl (aB C)))] sz)) 0 0 (va_A [(md, .inr (5, [.int (nI 0), .int (nI R), .int (nI n), .ref mt, .ref mv, .ref mc, .int (oI cu), .int (nI nt), .ref mk, .ref ms, .ref mp, .int (nI cH), .int (nI oH), .int (nI fH), .ref mi, .int (nI lc), .ref mlo, .ref mla, .ref mlb, .int (nI fc), .ref mf, .ref mst, .int (nI my), .ref mr, .ref mh])), (mt, .inl (ct 0, 400, .inl (aN T))), (mv, .inl (ct 0, 400, .inl (aN V))), (mc, .inl (ct 4, 400, .inl (aB C)))] sz) := by
  refine Met.ofW (cc := cX5_event) (maxL := 8) (ret := (some .int)) (by decide) rfl ?_
  intro p e s m args below meth c s₁ B hml hv
  obtain ⟨rfl, hsz, hP, hK, hD0, hZ⟩ := hv
  have hx := B.exec
  have hb := B.bytes
  have hr := B.returns
  have hts0 := atoms_spec (ws := wsX5_event) B.pre
  have hts : ∀ w9 ∈ aw, w9.before ([.ref md, .int (nI a), .int (nI b), .int (nI d), .int (nI vv), .int (nI 1)] : List Value).toArray s = true := fun w9 h9 => hts0 w9 (List.mem_cons_of_mem _ h9)
  have hown : s.vm.findClass RX5 = some m.cls := findClass_of_methodNamed B.named
  have hlocks := B.notSynchronized
  subst hsz
  have hD := hD0.self (sz := s.heap.size)
  generalize hAe : va_A [(md, .inr (5, [.int (nI 0), .int (nI R), .int (nI n), .ref mt, .ref mv, .ref mc, .int (oI cu), .int (nI nt), .ref mk, .ref ms, .ref mp, .int (nI cH), .int (nI oH), .int (nI fH), .ref mi, .int (nI lc), .ref mlo, .ref mla, .ref mlb, .int (nI fc), .ref mf, .ref mst, .int (nI my), .ref mr, .ref mh])), (mt, .inl (ct 0, 400, .inl (aN T))), (mv, .inl (ct 0, 400, .inl (aN V))), (mc, .inl (ct 4, 400, .inl (aB C)))] s.heap.size = A at hD hZ ⊢
  have hA : ∀ q : Nat, s.heap.size ≤ q → A q := fun q h => by rw [← hAe]; exact Or.inr h
  have hS : va_S A s.heap s.heap [] := va_S.rf
  have hP : va_P D vwCl [(md, .inr (5, [.int (nI 0), .int (nI R), .int (nI n), .ref mt, .ref mv, .ref mc, .int (oI cu), .int (nI nt), .ref mk, .ref ms, .ref mp, .int (nI cH), .int (nI oH), .int (nI fH), .ref mi, .int (nI lc), .ref mlo, .ref mla, .ref mlb, .int (nI fc), .ref mf, .ref mst, .int (nI my), .ref mr, .ref mh])), (mt, .inl (ct 0, 400, .inl (aN T))), (mv, .inl (ct 0, 400, .inl (aN V))), (mc, .inl (ct 4, 400, .inl (aB C)))] s.heap := hP
  have hl := lv_entry ([.ref md, .int (nI a), .int (nI b), .int (nI d), .int (nI vv), .int (nI 1)]) (n := 8) (Nat.le_of_ble_eq_true rfl)
  rw [lg_entry_eq]
  generalize (lg_sl ([.ref md, .int (nI a), .int (nI b), .int (nI d), .int (nI vv), .int (nI 1)]) ++ List.replicate (8 - (lg_sl ([.ref md, .int (nI a), .int (nI b), .int (nI d), .int (nI vv), .int (nI 1)])).length) Slot.unset).toArray = ls at hl ⊢
  have hl : lv_has ls 8 [(0, .ref md), (1, .int (nI a)), (2, .int (nI b)), (3, .int (nI d)), (4, .int (nI vv)), (5, .int (nI 1))] := hl
  refine lv_aload_n hx hb dX5_event_0 rfl (lv_at hl 0 rfl) ?_
  refine lv_iconst (v := nI 0) hx hb dX5_event_1 (by decide) ?_
  refine va_put (D := D) (ci := 5) (v := .int (nI 0)) (ty := .int) (C := RX5) (T := TX5) (N := 25) hx hb hts inX5 tyX5 tyX5_ok nmX5 hown hK hP hD hS 0 rfl rfl 0 (by decide) (hts _ w_298) (fun _ h9 => h9) rfl (by decide +kernel) rfl rfl (Nat.le_of_ble_eq_true rfl) dX5_event_2 (fun H locs hP hD hS => ?_)
  have hP : va_P D vwCl [(md, .inr (5, [.int (nI 0), .int (nI R), .int (nI n), .ref mt, .ref mv, .ref mc, .int (oI cu), .int (nI nt), .ref mk, .ref ms, .ref mp, .int (nI cH), .int (nI oH), .int (nI fH), .ref mi, .int (nI lc), .ref mlo, .ref mla, .ref mlb, .int (nI fc), .ref mf, .ref mst, .int (nI my), .ref mr, .ref mh])), (mt, .inl (ct 0, 400, .inl (aN T))), (mv, .inl (ct 0, 400, .inl (aN V))), (mc, .inl (ct 4, 400, .inl (aB C)))] H := hP
  have hD : va_D A [(md, .inr (5, [.int (nI 0), .int (nI R), .int (nI n), .ref mt, .ref mv, .ref mc, .int (oI cu), .int (nI nt), .ref mk, .ref ms, .ref mp, .int (nI cH), .int (nI oH), .int (nI fH), .ref mi, .int (nI lc), .ref mlo, .ref mla, .ref mlb, .int (nI fc), .ref mf, .ref mst, .int (nI my), .ref mr, .ref mh])), (mt, .inl (ct 0, 400, .inl (aN T))), (mv, .inl (ct 0, 400, .inl (aN V))), (mc, .inl (ct 4, 400, .inl (aB C)))] := hD
  refine lv_iload_n hx hb dX5_event_5 rfl (lv_at hl 1 rfl) ?_
  refine vp_callSi (va_Run.run (va_runS (As := [.int (nI a)]) (rest := []) ⟨hx, hb, hml, hown, hts⟩ (m_isTerm l D ct (nI a) ) (va_cwS 1 hts (gw_S (fun _ h => h) w_329 w_330 w_30 wcX5_isTerm) rfl rfl rfl hvX5_isTerm.2 ⟨Nat.le_of_ble_eq_true rfl, Nat.le_of_ble_eq_true rfl⟩) (tb_prS hP hK hZ hS [] rfl) rfl rfl hl.1 rfl (lv_room (Nat.le_of_ble_eq_true rfl)) dX5_event_6 ⟨Nat.zero_le _, Nat.zero_le _⟩)) (fun r_6 hr_6 => ?_)
  obtain rfl : r_6 = bB (decide (tRng (nI a) 1000)) := hr_6
  refine tb_if_eqB (tgt := 34) hx hb dX5_event_9 (by decide) (fun c9 => ?_) (fun c9 => ?_)
  · exact absurd (tRng_nI ha (by decide)) c9
  · refine lv_iload_n hx hb dX5_event_12 rfl (lv_at hl 2 rfl) ?_
    refine vp_callSi (va_Run.run (va_runS (As := [.int (nI b)]) (rest := []) ⟨hx, hb, hml, hown, hts⟩ (m_isTerm l D ct (nI b) ) (va_cwS 1 hts (gw_S (fun _ h => h) w_329 w_330 w_30 wcX5_isTerm) rfl rfl rfl hvX5_isTerm.2 ⟨Nat.le_of_ble_eq_true rfl, Nat.le_of_ble_eq_true rfl⟩) (tb_prS hP hK hZ hS [] rfl) rfl rfl hl.1 rfl (lv_room (Nat.le_of_ble_eq_true rfl)) dX5_event_13 ⟨Nat.zero_le _, Nat.zero_le _⟩)) (fun r_13 hr_13 => ?_)
    obtain rfl : r_13 = bB (decide (tRng (nI b) 1000)) := hr_13
    refine tb_if_eqB (tgt := 34) hx hb dX5_event_16 (by decide) (fun c16 => ?_) (fun c16 => ?_)
    · exact absurd (tRng_nI hb9 (by decide)) c16
    · refine lv_iload_n hx hb dX5_event_19 rfl (lv_at hl 3 rfl) ?_
      refine vp_callSi (va_Run.run (va_runS (As := [.int (nI d)]) (rest := []) ⟨hx, hb, hml, hown, hts⟩ (m_isTerm l D ct (nI d) ) (va_cwS 1 hts (gw_S (fun _ h => h) w_329 w_330 w_30 wcX5_isTerm) rfl rfl rfl hvX5_isTerm.2 ⟨Nat.le_of_ble_eq_true rfl, Nat.le_of_ble_eq_true rfl⟩) (tb_prS hP hK hZ hS [] rfl) rfl rfl hl.1 rfl (lv_room (Nat.le_of_ble_eq_true rfl)) dX5_event_20 ⟨Nat.zero_le _, Nat.zero_le _⟩)) (fun r_20 hr_20 => ?_)
      obtain rfl : r_20 = bB (decide (tRng (nI d) 1000)) := hr_20
      refine tb_if_eqB (tgt := 34) hx hb dX5_event_23 (by decide) (fun c23 => ?_) (fun c23 => ?_)
      · exact absurd (tRng_nI hd (by decide)) c23
      · refine lv_iload hx hb dX5_event_26 (lv_at hl 4 rfl) ?_
        refine vp_callSi (va_Run.run (va_runS (As := [.int (nI vv)]) (rest := []) ⟨hx, hb, hml, hown, hts⟩ (m_isVersion l D ct (nI vv) ) (va_cwS 1 hts (gw_S (fun _ h => h) w_331 w_332 w_30 wcX5_isVersion) rfl rfl rfl hvX5_isVersion.2 ⟨Nat.le_of_ble_eq_true rfl, Nat.le_of_ble_eq_true rfl⟩) (tb_prS hP hK hZ hS [] rfl) rfl rfl hl.1 rfl (lv_room (Nat.le_of_ble_eq_true rfl)) dX5_event_28 ⟨Nat.zero_le _, Nat.zero_le _⟩)) (fun r_28 hr_28 => ?_)
        obtain rfl : r_28 = bB (decide (tRng (nI vv) 1000001)) := hr_28
        refine tb_if_neB (tgt := 37) hx hb dX5_event_31 (by decide) (fun c31 => ?_) (fun c31 => ?_)
        · refine lv_iload hx hb dX5_event_37 (lv_at hl 4 rfl) ?_
          refine lv_aload_n hx hb dX5_event_39 rfl (lv_at hl 0 rfl) ?_
          refine vp_callSi (va_Run.run (va_runV (As := []) (rest := [.int (nI vv)]) ⟨hx, hb, hml, hown, hts⟩ (m_now l D ct md R n cu nt cH oH fH lc fc my mt mv mc mk ms mp mi mlo mla mlb mf mst mr mh V hn hR hV hcb) (cwV 0 hts (gw_V (fun _ h => h) w_334 w_335 w_7 w_30 wcX5_now) rfl rfl rfl hvX5_now ⟨Nat.le_of_ble_eq_true rfl, Nat.le_of_ble_eq_true rfl⟩) (tb_prV hP hK hZ hS [0, 2] rfl (ci := 5) (q0 := 0) rfl rfl) rfl rfl hl.1 rfl (lv_room (Nat.le_of_ble_eq_true rfl)) dX5_event_40 ⟨Nat.zero_le _, Nat.zero_le _⟩)) (fun r_40 hr_40 => ?_)
          obtain rfl : r_40 = nI (mNow V n cu) := hr_40
          refine tb_icmp_ge (tgt := 49) hx hb dX5_event_43 (by decide) (by omega) (mNow_b2 hV hcb) (fun c43 => ?_) (fun c43 => ?_)
          · refine lv_iload_n hx hb dX5_event_49 rfl (lv_at hl 1 rfl) ?_
            refine lv_ldc (v := nI 1000000) hx hb hown (hts _ w_333) dX5_event_50 ?_
            refine tb_imul hx hb dX5_event_52 ?_
            refine lv_iload_n hx hb dX5_event_53 rfl (lv_at hl 2 rfl) ?_
            refine lv_sipush (v := nI 1000) hx hb dX5_event_54 (by decide) ?_
            refine tb_imul hx hb dX5_event_57 ?_
            refine tb_iadd hx hb dX5_event_58 ?_
            refine lv_iload_n hx hb dX5_event_59 rfl (lv_at hl 3 rfl) ?_
            refine tb_iadd hx hb dX5_event_60 ?_
            refine lv_istore (lv' := [(6, .int (nI (((a * 1000000) + (b * 1000)) + d))), (0, .ref md), (1, .int (nI a)), (2, .int (nI b)), (3, .int (nI d)), (4, .int (nI vv)), (5, .int (nI 1))]) hx hb dX5_event_61 hl (by decide) rfl (fun ls hl => ?_)
            refine lv_aload_n hx hb dX5_event_63 rfl (lv_at hl 1 rfl) ?_
            refine lv_iload hx hb dX5_event_64 (lv_at hl 0 rfl) ?_
            refine vp_callSi (va_Run.run (va_runV (As := [.int (nI (((a * 1000000) + (b * 1000)) + d))]) (rest := []) ⟨hx, hb, hml, hown, hts⟩ (m_isThere l D ct md R n cu nt cH oH fH lc fc my mt mv mc mk ms mp mi mlo mla mlb mf mst mr mh T C (((a * 1000000) + (b * 1000)) + d) hn hR hT (by omega)) (cwV 1 hts (gw_V (fun _ h => h) w_336 w_337 w_6 w_30 wcX5_isThere) rfl rfl rfl hvX5_isThere ⟨Nat.le_of_ble_eq_true rfl, Nat.le_of_ble_eq_true rfl⟩) (tb_prV hP hK hZ hS [0, 1, 3] rfl (ci := 5) (q0 := 0) rfl rfl) rfl rfl hl.1 rfl (lv_room (Nat.le_of_ble_eq_true rfl)) dX5_event_66 ⟨Nat.zero_le _, Nat.zero_le _⟩)) (fun r_66 hr_66 => ?_)
            obtain rfl : r_66 = bB (mTh T C (((a * 1000000) + (b * 1000)) + d) n) := hr_66
            refine lv_iload hx hb dX5_event_69 (lv_at hl 6 rfl) ?_
            refine lv_icmp_ne (tgt := 76) hx hb dX5_event_71 (by decide) (fun c71 => ?_) (fun c71 => ?_)
            · exact absurd (by rw [hth]; rfl) c71
            · refine lv_iconst (v := nI 0) hx hb dX5_event_74 (by decide) ?_
              have hP9 : va_P D vwCl [(md, .inr (5, [.int (nI 0), .int (nI R), .int (nI n), .ref mt, .ref mv, .ref mc, .int (oI cu), .int (nI nt), .ref mk, .ref ms, .ref mp, .int (nI cH), .int (nI oH), .int (nI fH), .ref mi, .int (nI lc), .ref mlo, .ref mla, .ref mlb, .int (nI fc), .ref mf, .ref mst, .int (nI my), .ref mr, .ref mh])), (mt, .inl (ct 0, 400, .inl (aN T))), (mv, .inl (ct 0, 400, .inl (aN V))), (mc, .inl (ct 4, 400, .inl (aB C)))] _ := hP.sub [0, 1, 2, 3] rfl
              have hD9 : va_D A [(md, .inr (5, [.int (nI 0), .int (nI R), .int (nI n), .ref mt, .ref mv, .ref mc, .int (oI cu), .int (nI nt), .ref mk, .ref ms, .ref mp, .int (nI cH), .int (nI oH), .int (nI fH), .ref mi, .int (nI lc), .ref mlo, .ref mla, .ref mlb, .int (nI fc), .ref mf, .ref mst, .int (nI my), .ref mr, .ref mh])), (mt, .inl (ct 0, 400, .inl (aN T))), (mv, .inl (ct 0, 400, .inl (aN V))), (mc, .inl (ct 4, 400, .inl (aB C)))] := hD.sub [0, 1, 2, 3] (by decide) rfl
              exact W.iret (v := nI 0) hx hb hr (fun t ht hW => ⟨⟨_, (), rfl, rfl, by rw [ht]; exact hP9, hD9⟩, hS.F ht⟩) hS.2.2 dX5_event_75
          · exfalso; omega
        · exact absurd (tRng_nI hv (by decide)) c31

set_option maxHeartbeats 4000000 in
set_option maxRecDepth 100000 in
theorem m_ev_add_m4 (l : Launch) (D : va_G) (ct : Nat → ClassId) (md : Nat) (R : Nat) (n : Nat) (cu : Option Nat) (nt : Nat) (cH : Nat) (oH : Nat) (fH : Nat) (lc : Nat) (fc : Nat) (my : Nat) (mt : Nat) (mv : Nat) (mc : Nat) (mk : Nat) (ms : Nat) (mp : Nat) (mi : Nat) (mlo : Nat) (mla : Nat) (mlb : Nat) (mf : Nat) (mst : Nat) (mr : Nat) (mh : Nat) (T : Nat → Nat) (V : Nat → Nat) (C : Nat → Bool) (a : Nat) (b : Nat) (d : Nat) (vv : Nat) (sz : Nat) (hn : n ≤ R) (hR : R ≤ 400) (hV : ∀ j, V j < 2 ^ 31) (hT : ∀ j, T j < 1000000000) (hcb : ∀ j, cu = some j → j < 2 ^ 31) (ha : a < 1000) (hb9 : b < 1000) (hd : d < 1000) (hv : vv < 1000001) (hlow : mNow V n cu ≤ vv) (hth : mTh T C (a * 1000000 + b * 1000 + d) n = false) (hfull : n = R) : Met l yX5_event wsX5_event ({ frames := 1, cells := 0, slots := 0, locals := 23 }) (tb_Pw D ct [.ref md, .int (nI a), .int (nI b), .int (nI d), .int (nI vv), .int (nI 1)] sz [(md, .inr (5, [.int (nI 0), .int (nI R), .int (nI n), .ref mt, .ref mv, .ref mc, .int (oI cu), .int (nI nt), .ref mk, .ref ms, .ref mp, .int (nI cH), .int (nI oH), .int (nI fH), .ref mi, .int (nI lc), .ref mlo, .ref mla, .ref mlb, .int (nI fc), .ref mf, .ref mst, .int (nI my), .ref mr, .ref mh])), (mt, .inl (ct 0, 400, .inl (aN T))), (mv, .inl (ct 0, 400, .inl (aN V))), (mc, .inl (ct 4, 400, .inl (aB C)))]) (va_Qi (fun r _ => r = (-4)) (tb_B D (va_A [(md, .inr (5, [.int (nI 0), .int (nI R), .int (nI n), .ref mt, .ref mv, .ref mc, .int (oI cu), .int (nI nt), .ref mk, .ref ms, .ref mp, .int (nI cH), .int (nI oH), .int (nI fH), .ref mi, .int (nI lc), .ref mlo, .ref mla, .ref mlb, .int (nI fc), .ref mf, .ref mst, .int (nI my), .ref mr, .ref mh])), (mt, .inl (ct 0, 400, .inl (aN T))), (mv, .inl (ct 0, 400, .inl (aN V))), (mc, .inl (ct 4, 400, .inl (aB C)))] sz) [(md, .inr (5, [.int (nI 0), .int (nI R), .int (nI n), .ref mt, .ref mv, .ref mc, .int (oI cu), .int (nI nt), .ref mk, .ref ms, .ref mp, .int (nI cH), .int (nI oH), .int (nI fH), .ref mi, .int (nI lc), .ref mlo, .ref mla, .ref mlb, .int (nI fc), .ref mf, .ref mst, .int (nI my), .ref mr, .ref mh])), (mt, .inl (ct 0, 400, .inl (aN T))), (mv, .inl (ct 0, 400, .inl (aN V))), (mc, .inl (ct 4, 400, .inl (aB C)))]) (va_A [(md, .inr (5, [.int (nI 0), .int (nI R), .int (nI n), .ref mt, .ref mv, .ref mc, .int (oI cu), .int (nI nt), .ref mk, .ref ms, .ref mp, .int (nI cH), .int (nI oH), .int (nI fH), .ref mi, .int (nI lc), .ref mlo, .ref mla, .ref mlb, .int (nI fc), .ref mf, .ref mst, .int (nI my), .ref mr, .ref mh])), (mt, .inl (ct 0, 400, .inl (aN T))), (mv, .inl (ct 0, 400, .inl (aN V))), (mc, .inl (ct 4, 400, .inl (aB C)))] sz)) 0 0 (va_A [(md, .inr (5, [.int (nI 0), .int (nI R), .int (nI n), .ref mt, .ref mv, .ref mc, .int (oI cu), .int (nI nt), .ref mk, .ref ms, .ref mp, .int (nI cH), .int (nI oH), .int (nI fH), .ref mi, .int (nI lc), .ref mlo, .ref mla, .ref mlb, .int (nI fc), .ref mf, .ref mst, .int (nI my), .ref mr, .ref mh])), (mt, .inl (ct 0, 400, .inl (aN T))), (mv, .inl (ct 0, 400, .inl (aN V))), (mc, .inl (ct 4, 400, .inl (aB C)))] sz) := by
  refine Met.ofW (cc := cX5_event) (maxL := 8) (ret := (some .int)) (by decide) rfl ?_
  intro p e s m args below meth c s₁ B hml hv
  obtain ⟨rfl, hsz, hP, hK, hD0, hZ⟩ := hv
  have hx := B.exec
  have hb := B.bytes
  have hr := B.returns
  have hts0 := atoms_spec (ws := wsX5_event) B.pre
  have hts : ∀ w9 ∈ aw, w9.before ([.ref md, .int (nI a), .int (nI b), .int (nI d), .int (nI vv), .int (nI 1)] : List Value).toArray s = true := fun w9 h9 => hts0 w9 (List.mem_cons_of_mem _ h9)
  have hown : s.vm.findClass RX5 = some m.cls := findClass_of_methodNamed B.named
  have hlocks := B.notSynchronized
  subst hsz
  have hD := hD0.self (sz := s.heap.size)
  generalize hAe : va_A [(md, .inr (5, [.int (nI 0), .int (nI R), .int (nI n), .ref mt, .ref mv, .ref mc, .int (oI cu), .int (nI nt), .ref mk, .ref ms, .ref mp, .int (nI cH), .int (nI oH), .int (nI fH), .ref mi, .int (nI lc), .ref mlo, .ref mla, .ref mlb, .int (nI fc), .ref mf, .ref mst, .int (nI my), .ref mr, .ref mh])), (mt, .inl (ct 0, 400, .inl (aN T))), (mv, .inl (ct 0, 400, .inl (aN V))), (mc, .inl (ct 4, 400, .inl (aB C)))] s.heap.size = A at hD hZ ⊢
  have hA : ∀ q : Nat, s.heap.size ≤ q → A q := fun q h => by rw [← hAe]; exact Or.inr h
  have hS : va_S A s.heap s.heap [] := va_S.rf
  have hP : va_P D vwCl [(md, .inr (5, [.int (nI 0), .int (nI R), .int (nI n), .ref mt, .ref mv, .ref mc, .int (oI cu), .int (nI nt), .ref mk, .ref ms, .ref mp, .int (nI cH), .int (nI oH), .int (nI fH), .ref mi, .int (nI lc), .ref mlo, .ref mla, .ref mlb, .int (nI fc), .ref mf, .ref mst, .int (nI my), .ref mr, .ref mh])), (mt, .inl (ct 0, 400, .inl (aN T))), (mv, .inl (ct 0, 400, .inl (aN V))), (mc, .inl (ct 4, 400, .inl (aB C)))] s.heap := hP
  have hl := lv_entry ([.ref md, .int (nI a), .int (nI b), .int (nI d), .int (nI vv), .int (nI 1)]) (n := 8) (Nat.le_of_ble_eq_true rfl)
  rw [lg_entry_eq]
  generalize (lg_sl ([.ref md, .int (nI a), .int (nI b), .int (nI d), .int (nI vv), .int (nI 1)]) ++ List.replicate (8 - (lg_sl ([.ref md, .int (nI a), .int (nI b), .int (nI d), .int (nI vv), .int (nI 1)])).length) Slot.unset).toArray = ls at hl ⊢
  have hl : lv_has ls 8 [(0, .ref md), (1, .int (nI a)), (2, .int (nI b)), (3, .int (nI d)), (4, .int (nI vv)), (5, .int (nI 1))] := hl
  refine lv_aload_n hx hb dX5_event_0 rfl (lv_at hl 0 rfl) ?_
  refine lv_iconst (v := nI 0) hx hb dX5_event_1 (by decide) ?_
  refine va_put (D := D) (ci := 5) (v := .int (nI 0)) (ty := .int) (C := RX5) (T := TX5) (N := 25) hx hb hts inX5 tyX5 tyX5_ok nmX5 hown hK hP hD hS 0 rfl rfl 0 (by decide) (hts _ w_298) (fun _ h9 => h9) rfl (by decide +kernel) rfl rfl (Nat.le_of_ble_eq_true rfl) dX5_event_2 (fun H locs hP hD hS => ?_)
  have hP : va_P D vwCl [(md, .inr (5, [.int (nI 0), .int (nI R), .int (nI n), .ref mt, .ref mv, .ref mc, .int (oI cu), .int (nI nt), .ref mk, .ref ms, .ref mp, .int (nI cH), .int (nI oH), .int (nI fH), .ref mi, .int (nI lc), .ref mlo, .ref mla, .ref mlb, .int (nI fc), .ref mf, .ref mst, .int (nI my), .ref mr, .ref mh])), (mt, .inl (ct 0, 400, .inl (aN T))), (mv, .inl (ct 0, 400, .inl (aN V))), (mc, .inl (ct 4, 400, .inl (aB C)))] H := hP
  have hD : va_D A [(md, .inr (5, [.int (nI 0), .int (nI R), .int (nI n), .ref mt, .ref mv, .ref mc, .int (oI cu), .int (nI nt), .ref mk, .ref ms, .ref mp, .int (nI cH), .int (nI oH), .int (nI fH), .ref mi, .int (nI lc), .ref mlo, .ref mla, .ref mlb, .int (nI fc), .ref mf, .ref mst, .int (nI my), .ref mr, .ref mh])), (mt, .inl (ct 0, 400, .inl (aN T))), (mv, .inl (ct 0, 400, .inl (aN V))), (mc, .inl (ct 4, 400, .inl (aB C)))] := hD
  refine lv_iload_n hx hb dX5_event_5 rfl (lv_at hl 1 rfl) ?_
  refine vp_callSi (va_Run.run (va_runS (As := [.int (nI a)]) (rest := []) ⟨hx, hb, hml, hown, hts⟩ (m_isTerm l D ct (nI a) ) (va_cwS 1 hts (gw_S (fun _ h => h) w_329 w_330 w_30 wcX5_isTerm) rfl rfl rfl hvX5_isTerm.2 ⟨Nat.le_of_ble_eq_true rfl, Nat.le_of_ble_eq_true rfl⟩) (tb_prS hP hK hZ hS [] rfl) rfl rfl hl.1 rfl (lv_room (Nat.le_of_ble_eq_true rfl)) dX5_event_6 ⟨Nat.zero_le _, Nat.zero_le _⟩)) (fun r_6 hr_6 => ?_)
  obtain rfl : r_6 = bB (decide (tRng (nI a) 1000)) := hr_6
  refine tb_if_eqB (tgt := 34) hx hb dX5_event_9 (by decide) (fun c9 => ?_) (fun c9 => ?_)
  · exact absurd (tRng_nI ha (by decide)) c9
  · refine lv_iload_n hx hb dX5_event_12 rfl (lv_at hl 2 rfl) ?_
    refine vp_callSi (va_Run.run (va_runS (As := [.int (nI b)]) (rest := []) ⟨hx, hb, hml, hown, hts⟩ (m_isTerm l D ct (nI b) ) (va_cwS 1 hts (gw_S (fun _ h => h) w_329 w_330 w_30 wcX5_isTerm) rfl rfl rfl hvX5_isTerm.2 ⟨Nat.le_of_ble_eq_true rfl, Nat.le_of_ble_eq_true rfl⟩) (tb_prS hP hK hZ hS [] rfl) rfl rfl hl.1 rfl (lv_room (Nat.le_of_ble_eq_true rfl)) dX5_event_13 ⟨Nat.zero_le _, Nat.zero_le _⟩)) (fun r_13 hr_13 => ?_)
    obtain rfl : r_13 = bB (decide (tRng (nI b) 1000)) := hr_13
    refine tb_if_eqB (tgt := 34) hx hb dX5_event_16 (by decide) (fun c16 => ?_) (fun c16 => ?_)
    · exact absurd (tRng_nI hb9 (by decide)) c16
    · refine lv_iload_n hx hb dX5_event_19 rfl (lv_at hl 3 rfl) ?_
      refine vp_callSi (va_Run.run (va_runS (As := [.int (nI d)]) (rest := []) ⟨hx, hb, hml, hown, hts⟩ (m_isTerm l D ct (nI d) ) (va_cwS 1 hts (gw_S (fun _ h => h) w_329 w_330 w_30 wcX5_isTerm) rfl rfl rfl hvX5_isTerm.2 ⟨Nat.le_of_ble_eq_true rfl, Nat.le_of_ble_eq_true rfl⟩) (tb_prS hP hK hZ hS [] rfl) rfl rfl hl.1 rfl (lv_room (Nat.le_of_ble_eq_true rfl)) dX5_event_20 ⟨Nat.zero_le _, Nat.zero_le _⟩)) (fun r_20 hr_20 => ?_)
      obtain rfl : r_20 = bB (decide (tRng (nI d) 1000)) := hr_20
      refine tb_if_eqB (tgt := 34) hx hb dX5_event_23 (by decide) (fun c23 => ?_) (fun c23 => ?_)
      · exact absurd (tRng_nI hd (by decide)) c23
      · refine lv_iload hx hb dX5_event_26 (lv_at hl 4 rfl) ?_
        refine vp_callSi (va_Run.run (va_runS (As := [.int (nI vv)]) (rest := []) ⟨hx, hb, hml, hown, hts⟩ (m_isVersion l D ct (nI vv) ) (va_cwS 1 hts (gw_S (fun _ h => h) w_331 w_332 w_30 wcX5_isVersion) rfl rfl rfl hvX5_isVersion.2 ⟨Nat.le_of_ble_eq_true rfl, Nat.le_of_ble_eq_true rfl⟩) (tb_prS hP hK hZ hS [] rfl) rfl rfl hl.1 rfl (lv_room (Nat.le_of_ble_eq_true rfl)) dX5_event_28 ⟨Nat.zero_le _, Nat.zero_le _⟩)) (fun r_28 hr_28 => ?_)
        obtain rfl : r_28 = bB (decide (tRng (nI vv) 1000001)) := hr_28
        refine tb_if_neB (tgt := 37) hx hb dX5_event_31 (by decide) (fun c31 => ?_) (fun c31 => ?_)
        · refine lv_iload hx hb dX5_event_37 (lv_at hl 4 rfl) ?_
          refine lv_aload_n hx hb dX5_event_39 rfl (lv_at hl 0 rfl) ?_
          refine vp_callSi (va_Run.run (va_runV (As := []) (rest := [.int (nI vv)]) ⟨hx, hb, hml, hown, hts⟩ (m_now l D ct md R n cu nt cH oH fH lc fc my mt mv mc mk ms mp mi mlo mla mlb mf mst mr mh V hn hR hV hcb) (cwV 0 hts (gw_V (fun _ h => h) w_334 w_335 w_7 w_30 wcX5_now) rfl rfl rfl hvX5_now ⟨Nat.le_of_ble_eq_true rfl, Nat.le_of_ble_eq_true rfl⟩) (tb_prV hP hK hZ hS [0, 2] rfl (ci := 5) (q0 := 0) rfl rfl) rfl rfl hl.1 rfl (lv_room (Nat.le_of_ble_eq_true rfl)) dX5_event_40 ⟨Nat.zero_le _, Nat.zero_le _⟩)) (fun r_40 hr_40 => ?_)
          obtain rfl : r_40 = nI (mNow V n cu) := hr_40
          refine tb_icmp_ge (tgt := 49) hx hb dX5_event_43 (by decide) (by omega) (mNow_b2 hV hcb) (fun c43 => ?_) (fun c43 => ?_)
          · refine lv_iload_n hx hb dX5_event_49 rfl (lv_at hl 1 rfl) ?_
            refine lv_ldc (v := nI 1000000) hx hb hown (hts _ w_333) dX5_event_50 ?_
            refine tb_imul hx hb dX5_event_52 ?_
            refine lv_iload_n hx hb dX5_event_53 rfl (lv_at hl 2 rfl) ?_
            refine lv_sipush (v := nI 1000) hx hb dX5_event_54 (by decide) ?_
            refine tb_imul hx hb dX5_event_57 ?_
            refine tb_iadd hx hb dX5_event_58 ?_
            refine lv_iload_n hx hb dX5_event_59 rfl (lv_at hl 3 rfl) ?_
            refine tb_iadd hx hb dX5_event_60 ?_
            refine lv_istore (lv' := [(6, .int (nI (((a * 1000000) + (b * 1000)) + d))), (0, .ref md), (1, .int (nI a)), (2, .int (nI b)), (3, .int (nI d)), (4, .int (nI vv)), (5, .int (nI 1))]) hx hb dX5_event_61 hl (by decide) rfl (fun ls hl => ?_)
            refine lv_aload_n hx hb dX5_event_63 rfl (lv_at hl 1 rfl) ?_
            refine lv_iload hx hb dX5_event_64 (lv_at hl 0 rfl) ?_
            refine vp_callSi (va_Run.run (va_runV (As := [.int (nI (((a * 1000000) + (b * 1000)) + d))]) (rest := []) ⟨hx, hb, hml, hown, hts⟩ (m_isThere l D ct md R n cu nt cH oH fH lc fc my mt mv mc mk ms mp mi mlo mla mlb mf mst mr mh T C (((a * 1000000) + (b * 1000)) + d) hn hR hT (by omega)) (cwV 1 hts (gw_V (fun _ h => h) w_336 w_337 w_6 w_30 wcX5_isThere) rfl rfl rfl hvX5_isThere ⟨Nat.le_of_ble_eq_true rfl, Nat.le_of_ble_eq_true rfl⟩) (tb_prV hP hK hZ hS [0, 1, 3] rfl (ci := 5) (q0 := 0) rfl rfl) rfl rfl hl.1 rfl (lv_room (Nat.le_of_ble_eq_true rfl)) dX5_event_66 ⟨Nat.zero_le _, Nat.zero_le _⟩)) (fun r_66 hr_66 => ?_)
            obtain rfl : r_66 = bB (mTh T C (((a * 1000000) + (b * 1000)) + d) n) := hr_66
            refine lv_iload hx hb dX5_event_69 (lv_at hl 6 rfl) ?_
            refine lv_icmp_ne (tgt := 76) hx hb dX5_event_71 (by decide) (fun c71 => ?_) (fun c71 => ?_)
            · refine lv_aload_n hx hb dX5_event_76 rfl (lv_at hl 1 rfl) ?_
              refine va_get (D := D) (ci := 5) (v := .int (nI n)) (C := RX5) (T := TX5) (N := 25) hx hb hts inX5 hown hK hP 0 rfl rfl 2 (by decide) (hts _ w_300) (fun _ h9 => h9) rfl dX5_event_77 ?_
              refine lv_aload_n hx hb dX5_event_80 rfl (lv_at hl 1 rfl) ?_
              refine va_get (D := D) (ci := 5) (v := .int (nI R)) (C := RX5) (T := TX5) (N := 25) hx hb hts inX5 hown hK hP 0 rfl rfl 1 (by decide) (hts _ w_299) (fun _ h9 => h9) rfl dX5_event_81 ?_
              refine tb_icmp_ne (tgt := 90) hx hb dX5_event_84 (by decide) (by omega) (by omega) (fun c84 => ?_) (fun c84 => ?_)
              · exact absurd hfull c84
              · refine lv_bipush (v := (-4)) hx hb dX5_event_87 (by decide) ?_
                have hP9 : va_P D vwCl [(md, .inr (5, [.int (nI 0), .int (nI R), .int (nI n), .ref mt, .ref mv, .ref mc, .int (oI cu), .int (nI nt), .ref mk, .ref ms, .ref mp, .int (nI cH), .int (nI oH), .int (nI fH), .ref mi, .int (nI lc), .ref mlo, .ref mla, .ref mlb, .int (nI fc), .ref mf, .ref mst, .int (nI my), .ref mr, .ref mh])), (mt, .inl (ct 0, 400, .inl (aN T))), (mv, .inl (ct 0, 400, .inl (aN V))), (mc, .inl (ct 4, 400, .inl (aB C)))] _ := hP.sub [0, 1, 2, 3] rfl
                have hD9 : va_D A [(md, .inr (5, [.int (nI 0), .int (nI R), .int (nI n), .ref mt, .ref mv, .ref mc, .int (oI cu), .int (nI nt), .ref mk, .ref ms, .ref mp, .int (nI cH), .int (nI oH), .int (nI fH), .ref mi, .int (nI lc), .ref mlo, .ref mla, .ref mlb, .int (nI fc), .ref mf, .ref mst, .int (nI my), .ref mr, .ref mh])), (mt, .inl (ct 0, 400, .inl (aN T))), (mv, .inl (ct 0, 400, .inl (aN V))), (mc, .inl (ct 4, 400, .inl (aB C)))] := hD.sub [0, 1, 2, 3] (by decide) rfl
                exact W.iret (v := (-4)) hx hb hr (fun t ht hW => ⟨⟨_, (), rfl, rfl, by rw [ht]; exact hP9, hD9⟩, hS.F ht⟩) hS.2.2 dX5_event_89
            · exact absurd c71 (by rw [hth]; decide)
          · exfalso; omega
        · exact absurd (tRng_nI hv (by decide)) c31

set_option maxHeartbeats 4000000 in
set_option maxRecDepth 100000 in
theorem m_ev_remove_0 (l : Launch) (D : va_G) (ct : Nat → ClassId) (md : Nat) (R : Nat) (n : Nat) (cu : Option Nat) (nt : Nat) (cH : Nat) (oH : Nat) (fH : Nat) (lc : Nat) (fc : Nat) (my : Nat) (mt : Nat) (mv : Nat) (mc : Nat) (mk : Nat) (ms : Nat) (mp : Nat) (mi : Nat) (mlo : Nat) (mla : Nat) (mlb : Nat) (mf : Nat) (mst : Nat) (mr : Nat) (mh : Nat) (T : Nat → Nat) (V : Nat → Nat) (C : Nat → Bool) (a : Nat) (b : Nat) (d : Nat) (vv : Nat) (sz : Nat) (hn : n ≤ R) (hR : R ≤ 400) (hV : ∀ j, V j < 2 ^ 31) (hT : ∀ j, T j < 1000000000) (hcb : ∀ j, cu = some j → j < 2 ^ 31) (ha : a < 1000) (hb9 : b < 1000) (hd : d < 1000) (hv : vv < 1000001) (hlow : mNow V n cu ≤ vv) (hth : mTh T C (a * 1000000 + b * 1000 + d) n = false) : Met l yX5_event wsX5_event ({ frames := 1, cells := 0, slots := 0, locals := 23 }) (tb_Pw D ct [.ref md, .int (nI a), .int (nI b), .int (nI d), .int (nI vv), .int (nI 0)] sz [(md, .inr (5, [.int (nI 0), .int (nI R), .int (nI n), .ref mt, .ref mv, .ref mc, .int (oI cu), .int (nI nt), .ref mk, .ref ms, .ref mp, .int (nI cH), .int (nI oH), .int (nI fH), .ref mi, .int (nI lc), .ref mlo, .ref mla, .ref mlb, .int (nI fc), .ref mf, .ref mst, .int (nI my), .ref mr, .ref mh])), (mt, .inl (ct 0, 400, .inl (aN T))), (mv, .inl (ct 0, 400, .inl (aN V))), (mc, .inl (ct 4, 400, .inl (aB C)))]) (va_Qi (fun r _ => r = nI 0) (tb_B D (va_A [(md, .inr (5, [.int (nI 0), .int (nI R), .int (nI n), .ref mt, .ref mv, .ref mc, .int (oI cu), .int (nI nt), .ref mk, .ref ms, .ref mp, .int (nI cH), .int (nI oH), .int (nI fH), .ref mi, .int (nI lc), .ref mlo, .ref mla, .ref mlb, .int (nI fc), .ref mf, .ref mst, .int (nI my), .ref mr, .ref mh])), (mt, .inl (ct 0, 400, .inl (aN T))), (mv, .inl (ct 0, 400, .inl (aN V))), (mc, .inl (ct 4, 400, .inl (aB C)))] sz) [(md, .inr (5, [.int (nI 0), .int (nI R), .int (nI n), .ref mt, .ref mv, .ref mc, .int (oI cu), .int (nI nt), .ref mk, .ref ms, .ref mp, .int (nI cH), .int (nI oH), .int (nI fH), .ref mi, .int (nI lc), .ref mlo, .ref mla, .ref mlb, .int (nI fc), .ref mf, .ref mst, .int (nI my), .ref mr, .ref mh])), (mt, .inl (ct 0, 400, .inl (aN T))), (mv, .inl (ct 0, 400, .inl (aN V))), (mc, .inl (ct 4, 400, .inl (aB C)))]) (va_A [(md, .inr (5, [.int (nI 0), .int (nI R), .int (nI n), .ref mt, .ref mv, .ref mc, .int (oI cu), .int (nI nt), .ref mk, .ref ms, .ref mp, .int (nI cH), .int (nI oH), .int (nI fH), .ref mi, .int (nI lc), .ref mlo, .ref mla, .ref mlb, .int (nI fc), .ref mf, .ref mst, .int (nI my), .ref mr, .ref mh])), (mt, .inl (ct 0, 400, .inl (aN T))), (mv, .inl (ct 0, 400, .inl (aN V))), (mc, .inl (ct 4, 400, .inl (aB C)))] sz)) 0 0 (va_A [(md, .inr (5, [.int (nI 0), .int (nI R), .int (nI n), .ref mt, .ref mv, .ref mc, .int (oI cu), .int (nI nt), .ref mk, .ref ms, .ref mp, .int (nI cH), .int (nI oH), .int (nI fH), .ref mi, .int (nI lc), .ref mlo, .ref mla, .ref mlb, .int (nI fc), .ref mf, .ref mst, .int (nI my), .ref mr, .ref mh])), (mt, .inl (ct 0, 400, .inl (aN T))), (mv, .inl (ct 0, 400, .inl (aN V))), (mc, .inl (ct 4, 400, .inl (aB C)))] sz) := by
  refine Met.ofW (cc := cX5_event) (maxL := 8) (ret := (some .int)) (by decide) rfl ?_
  intro p e s m args below meth c s₁ B hml hv
  obtain ⟨rfl, hsz, hP, hK, hD0, hZ⟩ := hv
  have hx := B.exec
  have hb := B.bytes
  have hr := B.returns
  have hts0 := atoms_spec (ws := wsX5_event) B.pre
  have hts : ∀ w9 ∈ aw, w9.before ([.ref md, .int (nI a), .int (nI b), .int (nI d), .int (nI vv), .int (nI 0)] : List Value).toArray s = true := fun w9 h9 => hts0 w9 (List.mem_cons_of_mem _ h9)
  have hown : s.vm.findClass RX5 = some m.cls := findClass_of_methodNamed B.named
  have hlocks := B.notSynchronized
  subst hsz
  have hD := hD0.self (sz := s.heap.size)
  generalize hAe : va_A [(md, .inr (5, [.int (nI 0), .int (nI R), .int (nI n), .ref mt, .ref mv, .ref mc, .int (oI cu), .int (nI nt), .ref mk, .ref ms, .ref mp, .int (nI cH), .int (nI oH), .int (nI fH), .ref mi, .int (nI lc), .ref mlo, .ref mla, .ref mlb, .int (nI fc), .ref mf, .ref mst, .int (nI my), .ref mr, .ref mh])), (mt, .inl (ct 0, 400, .inl (aN T))), (mv, .inl (ct 0, 400, .inl (aN V))), (mc, .inl (ct 4, 400, .inl (aB C)))] s.heap.size = A at hD hZ ⊢
  have hA : ∀ q : Nat, s.heap.size ≤ q → A q := fun q h => by rw [← hAe]; exact Or.inr h
  have hS : va_S A s.heap s.heap [] := va_S.rf
  have hP : va_P D vwCl [(md, .inr (5, [.int (nI 0), .int (nI R), .int (nI n), .ref mt, .ref mv, .ref mc, .int (oI cu), .int (nI nt), .ref mk, .ref ms, .ref mp, .int (nI cH), .int (nI oH), .int (nI fH), .ref mi, .int (nI lc), .ref mlo, .ref mla, .ref mlb, .int (nI fc), .ref mf, .ref mst, .int (nI my), .ref mr, .ref mh])), (mt, .inl (ct 0, 400, .inl (aN T))), (mv, .inl (ct 0, 400, .inl (aN V))), (mc, .inl (ct 4, 400, .inl (aB C)))] s.heap := hP
  have hl := lv_entry ([.ref md, .int (nI a), .int (nI b), .int (nI d), .int (nI vv), .int (nI 0)]) (n := 8) (Nat.le_of_ble_eq_true rfl)
  rw [lg_entry_eq]
  generalize (lg_sl ([.ref md, .int (nI a), .int (nI b), .int (nI d), .int (nI vv), .int (nI 0)]) ++ List.replicate (8 - (lg_sl ([.ref md, .int (nI a), .int (nI b), .int (nI d), .int (nI vv), .int (nI 0)])).length) Slot.unset).toArray = ls at hl ⊢
  have hl : lv_has ls 8 [(0, .ref md), (1, .int (nI a)), (2, .int (nI b)), (3, .int (nI d)), (4, .int (nI vv)), (5, .int (nI 0))] := hl
  refine lv_aload_n hx hb dX5_event_0 rfl (lv_at hl 0 rfl) ?_
  refine lv_iconst (v := nI 0) hx hb dX5_event_1 (by decide) ?_
  refine va_put (D := D) (ci := 5) (v := .int (nI 0)) (ty := .int) (C := RX5) (T := TX5) (N := 25) hx hb hts inX5 tyX5 tyX5_ok nmX5 hown hK hP hD hS 0 rfl rfl 0 (by decide) (hts _ w_298) (fun _ h9 => h9) rfl (by decide +kernel) rfl rfl (Nat.le_of_ble_eq_true rfl) dX5_event_2 (fun H locs hP hD hS => ?_)
  have hP : va_P D vwCl [(md, .inr (5, [.int (nI 0), .int (nI R), .int (nI n), .ref mt, .ref mv, .ref mc, .int (oI cu), .int (nI nt), .ref mk, .ref ms, .ref mp, .int (nI cH), .int (nI oH), .int (nI fH), .ref mi, .int (nI lc), .ref mlo, .ref mla, .ref mlb, .int (nI fc), .ref mf, .ref mst, .int (nI my), .ref mr, .ref mh])), (mt, .inl (ct 0, 400, .inl (aN T))), (mv, .inl (ct 0, 400, .inl (aN V))), (mc, .inl (ct 4, 400, .inl (aB C)))] H := hP
  have hD : va_D A [(md, .inr (5, [.int (nI 0), .int (nI R), .int (nI n), .ref mt, .ref mv, .ref mc, .int (oI cu), .int (nI nt), .ref mk, .ref ms, .ref mp, .int (nI cH), .int (nI oH), .int (nI fH), .ref mi, .int (nI lc), .ref mlo, .ref mla, .ref mlb, .int (nI fc), .ref mf, .ref mst, .int (nI my), .ref mr, .ref mh])), (mt, .inl (ct 0, 400, .inl (aN T))), (mv, .inl (ct 0, 400, .inl (aN V))), (mc, .inl (ct 4, 400, .inl (aB C)))] := hD
  refine lv_iload_n hx hb dX5_event_5 rfl (lv_at hl 1 rfl) ?_
  refine vp_callSi (va_Run.run (va_runS (As := [.int (nI a)]) (rest := []) ⟨hx, hb, hml, hown, hts⟩ (m_isTerm l D ct (nI a) ) (va_cwS 1 hts (gw_S (fun _ h => h) w_329 w_330 w_30 wcX5_isTerm) rfl rfl rfl hvX5_isTerm.2 ⟨Nat.le_of_ble_eq_true rfl, Nat.le_of_ble_eq_true rfl⟩) (tb_prS hP hK hZ hS [] rfl) rfl rfl hl.1 rfl (lv_room (Nat.le_of_ble_eq_true rfl)) dX5_event_6 ⟨Nat.zero_le _, Nat.zero_le _⟩)) (fun r_6 hr_6 => ?_)
  obtain rfl : r_6 = bB (decide (tRng (nI a) 1000)) := hr_6
  refine tb_if_eqB (tgt := 34) hx hb dX5_event_9 (by decide) (fun c9 => ?_) (fun c9 => ?_)
  · exact absurd (tRng_nI ha (by decide)) c9
  · refine lv_iload_n hx hb dX5_event_12 rfl (lv_at hl 2 rfl) ?_
    refine vp_callSi (va_Run.run (va_runS (As := [.int (nI b)]) (rest := []) ⟨hx, hb, hml, hown, hts⟩ (m_isTerm l D ct (nI b) ) (va_cwS 1 hts (gw_S (fun _ h => h) w_329 w_330 w_30 wcX5_isTerm) rfl rfl rfl hvX5_isTerm.2 ⟨Nat.le_of_ble_eq_true rfl, Nat.le_of_ble_eq_true rfl⟩) (tb_prS hP hK hZ hS [] rfl) rfl rfl hl.1 rfl (lv_room (Nat.le_of_ble_eq_true rfl)) dX5_event_13 ⟨Nat.zero_le _, Nat.zero_le _⟩)) (fun r_13 hr_13 => ?_)
    obtain rfl : r_13 = bB (decide (tRng (nI b) 1000)) := hr_13
    refine tb_if_eqB (tgt := 34) hx hb dX5_event_16 (by decide) (fun c16 => ?_) (fun c16 => ?_)
    · exact absurd (tRng_nI hb9 (by decide)) c16
    · refine lv_iload_n hx hb dX5_event_19 rfl (lv_at hl 3 rfl) ?_
      refine vp_callSi (va_Run.run (va_runS (As := [.int (nI d)]) (rest := []) ⟨hx, hb, hml, hown, hts⟩ (m_isTerm l D ct (nI d) ) (va_cwS 1 hts (gw_S (fun _ h => h) w_329 w_330 w_30 wcX5_isTerm) rfl rfl rfl hvX5_isTerm.2 ⟨Nat.le_of_ble_eq_true rfl, Nat.le_of_ble_eq_true rfl⟩) (tb_prS hP hK hZ hS [] rfl) rfl rfl hl.1 rfl (lv_room (Nat.le_of_ble_eq_true rfl)) dX5_event_20 ⟨Nat.zero_le _, Nat.zero_le _⟩)) (fun r_20 hr_20 => ?_)
      obtain rfl : r_20 = bB (decide (tRng (nI d) 1000)) := hr_20
      refine tb_if_eqB (tgt := 34) hx hb dX5_event_23 (by decide) (fun c23 => ?_) (fun c23 => ?_)
      · exact absurd (tRng_nI hd (by decide)) c23
      · refine lv_iload hx hb dX5_event_26 (lv_at hl 4 rfl) ?_
        refine vp_callSi (va_Run.run (va_runS (As := [.int (nI vv)]) (rest := []) ⟨hx, hb, hml, hown, hts⟩ (m_isVersion l D ct (nI vv) ) (va_cwS 1 hts (gw_S (fun _ h => h) w_331 w_332 w_30 wcX5_isVersion) rfl rfl rfl hvX5_isVersion.2 ⟨Nat.le_of_ble_eq_true rfl, Nat.le_of_ble_eq_true rfl⟩) (tb_prS hP hK hZ hS [] rfl) rfl rfl hl.1 rfl (lv_room (Nat.le_of_ble_eq_true rfl)) dX5_event_28 ⟨Nat.zero_le _, Nat.zero_le _⟩)) (fun r_28 hr_28 => ?_)
        obtain rfl : r_28 = bB (decide (tRng (nI vv) 1000001)) := hr_28
        refine tb_if_neB (tgt := 37) hx hb dX5_event_31 (by decide) (fun c31 => ?_) (fun c31 => ?_)
        · refine lv_iload hx hb dX5_event_37 (lv_at hl 4 rfl) ?_
          refine lv_aload_n hx hb dX5_event_39 rfl (lv_at hl 0 rfl) ?_
          refine vp_callSi (va_Run.run (va_runV (As := []) (rest := [.int (nI vv)]) ⟨hx, hb, hml, hown, hts⟩ (m_now l D ct md R n cu nt cH oH fH lc fc my mt mv mc mk ms mp mi mlo mla mlb mf mst mr mh V hn hR hV hcb) (cwV 0 hts (gw_V (fun _ h => h) w_334 w_335 w_7 w_30 wcX5_now) rfl rfl rfl hvX5_now ⟨Nat.le_of_ble_eq_true rfl, Nat.le_of_ble_eq_true rfl⟩) (tb_prV hP hK hZ hS [0, 2] rfl (ci := 5) (q0 := 0) rfl rfl) rfl rfl hl.1 rfl (lv_room (Nat.le_of_ble_eq_true rfl)) dX5_event_40 ⟨Nat.zero_le _, Nat.zero_le _⟩)) (fun r_40 hr_40 => ?_)
          obtain rfl : r_40 = nI (mNow V n cu) := hr_40
          refine tb_icmp_ge (tgt := 49) hx hb dX5_event_43 (by decide) (by omega) (mNow_b2 hV hcb) (fun c43 => ?_) (fun c43 => ?_)
          · refine lv_iload_n hx hb dX5_event_49 rfl (lv_at hl 1 rfl) ?_
            refine lv_ldc (v := nI 1000000) hx hb hown (hts _ w_333) dX5_event_50 ?_
            refine tb_imul hx hb dX5_event_52 ?_
            refine lv_iload_n hx hb dX5_event_53 rfl (lv_at hl 2 rfl) ?_
            refine lv_sipush (v := nI 1000) hx hb dX5_event_54 (by decide) ?_
            refine tb_imul hx hb dX5_event_57 ?_
            refine tb_iadd hx hb dX5_event_58 ?_
            refine lv_iload_n hx hb dX5_event_59 rfl (lv_at hl 3 rfl) ?_
            refine tb_iadd hx hb dX5_event_60 ?_
            refine lv_istore (lv' := [(6, .int (nI (((a * 1000000) + (b * 1000)) + d))), (0, .ref md), (1, .int (nI a)), (2, .int (nI b)), (3, .int (nI d)), (4, .int (nI vv)), (5, .int (nI 0))]) hx hb dX5_event_61 hl (by decide) rfl (fun ls hl => ?_)
            refine lv_aload_n hx hb dX5_event_63 rfl (lv_at hl 1 rfl) ?_
            refine lv_iload hx hb dX5_event_64 (lv_at hl 0 rfl) ?_
            refine vp_callSi (va_Run.run (va_runV (As := [.int (nI (((a * 1000000) + (b * 1000)) + d))]) (rest := []) ⟨hx, hb, hml, hown, hts⟩ (m_isThere l D ct md R n cu nt cH oH fH lc fc my mt mv mc mk ms mp mi mlo mla mlb mf mst mr mh T C (((a * 1000000) + (b * 1000)) + d) hn hR hT (by omega)) (cwV 1 hts (gw_V (fun _ h => h) w_336 w_337 w_6 w_30 wcX5_isThere) rfl rfl rfl hvX5_isThere ⟨Nat.le_of_ble_eq_true rfl, Nat.le_of_ble_eq_true rfl⟩) (tb_prV hP hK hZ hS [0, 1, 3] rfl (ci := 5) (q0 := 0) rfl rfl) rfl rfl hl.1 rfl (lv_room (Nat.le_of_ble_eq_true rfl)) dX5_event_66 ⟨Nat.zero_le _, Nat.zero_le _⟩)) (fun r_66 hr_66 => ?_)
            obtain rfl : r_66 = bB (mTh T C (((a * 1000000) + (b * 1000)) + d) n) := hr_66
            refine lv_iload hx hb dX5_event_69 (lv_at hl 6 rfl) ?_
            refine lv_icmp_ne (tgt := 76) hx hb dX5_event_71 (by decide) (fun c71 => ?_) (fun c71 => ?_)
            · exact absurd (by rw [hth]; rfl) c71
            · refine lv_iconst (v := nI 0) hx hb dX5_event_74 (by decide) ?_
              have hP9 : va_P D vwCl [(md, .inr (5, [.int (nI 0), .int (nI R), .int (nI n), .ref mt, .ref mv, .ref mc, .int (oI cu), .int (nI nt), .ref mk, .ref ms, .ref mp, .int (nI cH), .int (nI oH), .int (nI fH), .ref mi, .int (nI lc), .ref mlo, .ref mla, .ref mlb, .int (nI fc), .ref mf, .ref mst, .int (nI my), .ref mr, .ref mh])), (mt, .inl (ct 0, 400, .inl (aN T))), (mv, .inl (ct 0, 400, .inl (aN V))), (mc, .inl (ct 4, 400, .inl (aB C)))] _ := hP.sub [0, 1, 2, 3] rfl
              have hD9 : va_D A [(md, .inr (5, [.int (nI 0), .int (nI R), .int (nI n), .ref mt, .ref mv, .ref mc, .int (oI cu), .int (nI nt), .ref mk, .ref ms, .ref mp, .int (nI cH), .int (nI oH), .int (nI fH), .ref mi, .int (nI lc), .ref mlo, .ref mla, .ref mlb, .int (nI fc), .ref mf, .ref mst, .int (nI my), .ref mr, .ref mh])), (mt, .inl (ct 0, 400, .inl (aN T))), (mv, .inl (ct 0, 400, .inl (aN V))), (mc, .inl (ct 4, 400, .inl (aB C)))] := hD.sub [0, 1, 2, 3] (by decide) rfl
              exact W.iret (v := nI 0) hx hb hr (fun t ht hW => ⟨⟨_, (), rfl, rfl, by rw [ht]; exact hP9, hD9⟩, hS.F ht⟩) hS.2.2 dX5_event_75
          · exfalso; omega
        · exact absurd (tRng_nI hv (by decide)) c31

set_option maxHeartbeats 4000000 in
set_option maxRecDepth 100000 in
theorem m_ev_remove_m4 (l : Launch) (D : va_G) (ct : Nat → ClassId) (md : Nat) (R : Nat) (n : Nat) (cu : Option Nat) (nt : Nat) (cH : Nat) (oH : Nat) (fH : Nat) (lc : Nat) (fc : Nat) (my : Nat) (mt : Nat) (mv : Nat) (mc : Nat) (mk : Nat) (ms : Nat) (mp : Nat) (mi : Nat) (mlo : Nat) (mla : Nat) (mlb : Nat) (mf : Nat) (mst : Nat) (mr : Nat) (mh : Nat) (T : Nat → Nat) (V : Nat → Nat) (C : Nat → Bool) (a : Nat) (b : Nat) (d : Nat) (vv : Nat) (sz : Nat) (hn : n ≤ R) (hR : R ≤ 400) (hV : ∀ j, V j < 2 ^ 31) (hT : ∀ j, T j < 1000000000) (hcb : ∀ j, cu = some j → j < 2 ^ 31) (ha : a < 1000) (hb9 : b < 1000) (hd : d < 1000) (hv : vv < 1000001) (hlow : mNow V n cu ≤ vv) (hth : mTh T C (a * 1000000 + b * 1000 + d) n = true) (hfull : n = R) : Met l yX5_event wsX5_event ({ frames := 1, cells := 0, slots := 0, locals := 23 }) (tb_Pw D ct [.ref md, .int (nI a), .int (nI b), .int (nI d), .int (nI vv), .int (nI 0)] sz [(md, .inr (5, [.int (nI 0), .int (nI R), .int (nI n), .ref mt, .ref mv, .ref mc, .int (oI cu), .int (nI nt), .ref mk, .ref ms, .ref mp, .int (nI cH), .int (nI oH), .int (nI fH), .ref mi, .int (nI lc), .ref mlo, .ref mla, .ref mlb, .int (nI fc), .ref mf, .ref mst, .int (nI my), .ref mr, .ref mh])), (mt, .inl (ct 0, 400, .inl (aN T))), (mv, .inl (ct 0, 400, .inl (aN V))), (mc, .inl (ct 4, 400, .inl (aB C)))]) (va_Qi (fun r _ => r = (-4)) (tb_B D (va_A [(md, .inr (5, [.int (nI 0), .int (nI R), .int (nI n), .ref mt, .ref mv, .ref mc, .int (oI cu), .int (nI nt), .ref mk, .ref ms, .ref mp, .int (nI cH), .int (nI oH), .int (nI fH), .ref mi, .int (nI lc), .ref mlo, .ref mla, .ref mlb, .int (nI fc), .ref mf, .ref mst, .int (nI my), .ref mr, .ref mh])), (mt, .inl (ct 0, 400, .inl (aN T))), (mv, .inl (ct 0, 400, .inl (aN V))), (mc, .inl (ct 4, 400, .inl (aB C)))] sz) [(md, .inr (5, [.int (nI 0), .int (nI R), .int (nI n), .ref mt, .ref mv, .ref mc, .int (oI cu), .int (nI nt), .ref mk, .ref ms, .ref mp, .int (nI cH), .int (nI oH), .int (nI fH), .ref mi, .int (nI lc), .ref mlo, .ref mla, .ref mlb, .int (nI fc), .ref mf, .ref mst, .int (nI my), .ref mr, .ref mh])), (mt, .inl (ct 0, 400, .inl (aN T))), (mv, .inl (ct 0, 400, .inl (aN V))), (mc, .inl (ct 4, 400, .inl (aB C)))]) (va_A [(md, .inr (5, [.int (nI 0), .int (nI R), .int (nI n), .ref mt, .ref mv, .ref mc, .int (oI cu), .int (nI nt), .ref mk, .ref ms, .ref mp, .int (nI cH), .int (nI oH), .int (nI fH), .ref mi, .int (nI lc), .ref mlo, .ref mla, .ref mlb, .int (nI fc), .ref mf, .ref mst, .int (nI my), .ref mr, .ref mh])), (mt, .inl (ct 0, 400, .inl (aN T))), (mv, .inl (ct 0, 400, .inl (aN V))), (mc, .inl (ct 4, 400, .inl (aB C)))] sz)) 0 0 (va_A [(md, .inr (5, [.int (nI 0), .int (nI R), .int (nI n), .ref mt, .ref mv, .ref mc, .int (oI cu), .int (nI nt), .ref mk, .ref ms, .ref mp, .int (nI cH), .int (nI oH), .int (nI fH), .ref mi, .int (nI lc), .ref mlo, .ref mla, .ref mlb, .int (nI fc), .ref mf, .ref mst, .int (nI my), .ref mr, .ref mh])), (mt, .inl (ct 0, 400, .inl (aN T))), (mv, .inl (ct 0, 400, .inl (aN V))), (mc, .inl (ct 4, 400, .inl (aB C)))] sz) := by
  refine Met.ofW (cc := cX5_event) (maxL := 8) (ret := (some .int)) (by decide) rfl ?_
  intro p e s m args below meth c s₁ B hml hv
  obtain ⟨rfl, hsz, hP, hK, hD0, hZ⟩ := hv
  have hx := B.exec
  have hb := B.bytes
  have hr := B.returns
  have hts0 := atoms_spec (ws := wsX5_event) B.pre
  have hts : ∀ w9 ∈ aw, w9.before ([.ref md, .int (nI a), .int (nI b), .int (nI d), .int (nI vv), .int (nI 0)] : List Value).toArray s = true := fun w9 h9 => hts0 w9 (List.mem_cons_of_mem _ h9)
  have hown : s.vm.findClass RX5 = some m.cls := findClass_of_methodNamed B.named
  have hlocks := B.notSynchronized
  subst hsz
  have hD := hD0.self (sz := s.heap.size)
  generalize hAe : va_A [(md, .inr (5, [.int (nI 0), .int (nI R), .int (nI n), .ref mt, .ref mv, .ref mc, .int (oI cu), .int (nI nt), .ref mk, .ref ms, .ref mp, .int (nI cH), .int (nI oH), .int (nI fH), .ref mi, .int (nI lc), .ref mlo, .ref mla, .ref mlb, .int (nI fc), .ref mf, .ref mst, .int (nI my), .ref mr, .ref mh])), (mt, .inl (ct 0, 400, .inl (aN T))), (mv, .inl (ct 0, 400, .inl (aN V))), (mc, .inl (ct 4, 400, .inl (aB C)))] s.heap.size = A at hD hZ ⊢
  have hA : ∀ q : Nat, s.heap.size ≤ q → A q := fun q h => by rw [← hAe]; exact Or.inr h
  have hS : va_S A s.heap s.heap [] := va_S.rf
  have hP : va_P D vwCl [(md, .inr (5, [.int (nI 0), .int (nI R), .int (nI n), .ref mt, .ref mv, .ref mc, .int (oI cu), .int (nI nt), .ref mk, .ref ms, .ref mp, .int (nI cH), .int (nI oH), .int (nI fH), .ref mi, .int (nI lc), .ref mlo, .ref mla, .ref mlb, .int (nI fc), .ref mf, .ref mst, .int (nI my), .ref mr, .ref mh])), (mt, .inl (ct 0, 400, .inl (aN T))), (mv, .inl (ct 0, 400, .inl (aN V))), (mc, .inl (ct 4, 400, .inl (aB C)))] s.heap := hP
  have hl := lv_entry ([.ref md, .int (nI a), .int (nI b), .int (nI d), .int (nI vv), .int (nI 0)]) (n := 8) (Nat.le_of_ble_eq_true rfl)
  rw [lg_entry_eq]
  generalize (lg_sl ([.ref md, .int (nI a), .int (nI b), .int (nI d), .int (nI vv), .int (nI 0)]) ++ List.replicate (8 - (lg_sl ([.ref md, .int (nI a), .int (nI b), .int (nI d), .int (nI vv), .int (nI 0)])).length) Slot.unset).toArray = ls at hl ⊢
  have hl : lv_has ls 8 [(0, .ref md), (1, .int (nI a)), (2, .int (nI b)), (3, .int (nI d)), (4, .int (nI vv)), (5, .int (nI 0))] := hl
  refine lv_aload_n hx hb dX5_event_0 rfl (lv_at hl 0 rfl) ?_
  refine lv_iconst (v := nI 0) hx hb dX5_event_1 (by decide) ?_
  refine va_put (D := D) (ci := 5) (v := .int (nI 0)) (ty := .int) (C := RX5) (T := TX5) (N := 25) hx hb hts inX5 tyX5 tyX5_ok nmX5 hown hK hP hD hS 0 rfl rfl 0 (by decide) (hts _ w_298) (fun _ h9 => h9) rfl (by decide +kernel) rfl rfl (Nat.le_of_ble_eq_true rfl) dX5_event_2 (fun H locs hP hD hS => ?_)
  have hP : va_P D vwCl [(md, .inr (5, [.int (nI 0), .int (nI R), .int (nI n), .ref mt, .ref mv, .ref mc, .int (oI cu), .int (nI nt), .ref mk, .ref ms, .ref mp, .int (nI cH), .int (nI oH), .int (nI fH), .ref mi, .int (nI lc), .ref mlo, .ref mla, .ref mlb, .int (nI fc), .ref mf, .ref mst, .int (nI my), .ref mr, .ref mh])), (mt, .inl (ct 0, 400, .inl (aN T))), (mv, .inl (ct 0, 400, .inl (aN V))), (mc, .inl (ct 4, 400, .inl (aB C)))] H := hP
  have hD : va_D A [(md, .inr (5, [.int (nI 0), .int (nI R), .int (nI n), .ref mt, .ref mv, .ref mc, .int (oI cu), .int (nI nt), .ref mk, .ref ms, .ref mp, .int (nI cH), .int (nI oH), .int (nI fH), .ref mi, .int (nI lc), .ref mlo, .ref mla, .ref mlb, .int (nI fc), .ref mf, .ref mst, .int (nI my), .ref mr, .ref mh])), (mt, .inl (ct 0, 400, .inl (aN T))), (mv, .inl (ct 0, 400, .inl (aN V))), (mc, .inl (ct 4, 400, .inl (aB C)))] := hD
  refine lv_iload_n hx hb dX5_event_5 rfl (lv_at hl 1 rfl) ?_
  refine vp_callSi (va_Run.run (va_runS (As := [.int (nI a)]) (rest := []) ⟨hx, hb, hml, hown, hts⟩ (m_isTerm l D ct (nI a) ) (va_cwS 1 hts (gw_S (fun _ h => h) w_329 w_330 w_30 wcX5_isTerm) rfl rfl rfl hvX5_isTerm.2 ⟨Nat.le_of_ble_eq_true rfl, Nat.le_of_ble_eq_true rfl⟩) (tb_prS hP hK hZ hS [] rfl) rfl rfl hl.1 rfl (lv_room (Nat.le_of_ble_eq_true rfl)) dX5_event_6 ⟨Nat.zero_le _, Nat.zero_le _⟩)) (fun r_6 hr_6 => ?_)
  obtain rfl : r_6 = bB (decide (tRng (nI a) 1000)) := hr_6
  refine tb_if_eqB (tgt := 34) hx hb dX5_event_9 (by decide) (fun c9 => ?_) (fun c9 => ?_)
  · exact absurd (tRng_nI ha (by decide)) c9
  · refine lv_iload_n hx hb dX5_event_12 rfl (lv_at hl 2 rfl) ?_
    refine vp_callSi (va_Run.run (va_runS (As := [.int (nI b)]) (rest := []) ⟨hx, hb, hml, hown, hts⟩ (m_isTerm l D ct (nI b) ) (va_cwS 1 hts (gw_S (fun _ h => h) w_329 w_330 w_30 wcX5_isTerm) rfl rfl rfl hvX5_isTerm.2 ⟨Nat.le_of_ble_eq_true rfl, Nat.le_of_ble_eq_true rfl⟩) (tb_prS hP hK hZ hS [] rfl) rfl rfl hl.1 rfl (lv_room (Nat.le_of_ble_eq_true rfl)) dX5_event_13 ⟨Nat.zero_le _, Nat.zero_le _⟩)) (fun r_13 hr_13 => ?_)
    obtain rfl : r_13 = bB (decide (tRng (nI b) 1000)) := hr_13
    refine tb_if_eqB (tgt := 34) hx hb dX5_event_16 (by decide) (fun c16 => ?_) (fun c16 => ?_)
    · exact absurd (tRng_nI hb9 (by decide)) c16
    · refine lv_iload_n hx hb dX5_event_19 rfl (lv_at hl 3 rfl) ?_
      refine vp_callSi (va_Run.run (va_runS (As := [.int (nI d)]) (rest := []) ⟨hx, hb, hml, hown, hts⟩ (m_isTerm l D ct (nI d) ) (va_cwS 1 hts (gw_S (fun _ h => h) w_329 w_330 w_30 wcX5_isTerm) rfl rfl rfl hvX5_isTerm.2 ⟨Nat.le_of_ble_eq_true rfl, Nat.le_of_ble_eq_true rfl⟩) (tb_prS hP hK hZ hS [] rfl) rfl rfl hl.1 rfl (lv_room (Nat.le_of_ble_eq_true rfl)) dX5_event_20 ⟨Nat.zero_le _, Nat.zero_le _⟩)) (fun r_20 hr_20 => ?_)
      obtain rfl : r_20 = bB (decide (tRng (nI d) 1000)) := hr_20
      refine tb_if_eqB (tgt := 34) hx hb dX5_event_23 (by decide) (fun c23 => ?_) (fun c23 => ?_)
      · exact absurd (tRng_nI hd (by decide)) c23
      · refine lv_iload hx hb dX5_event_26 (lv_at hl 4 rfl) ?_
        refine vp_callSi (va_Run.run (va_runS (As := [.int (nI vv)]) (rest := []) ⟨hx, hb, hml, hown, hts⟩ (m_isVersion l D ct (nI vv) ) (va_cwS 1 hts (gw_S (fun _ h => h) w_331 w_332 w_30 wcX5_isVersion) rfl rfl rfl hvX5_isVersion.2 ⟨Nat.le_of_ble_eq_true rfl, Nat.le_of_ble_eq_true rfl⟩) (tb_prS hP hK hZ hS [] rfl) rfl rfl hl.1 rfl (lv_room (Nat.le_of_ble_eq_true rfl)) dX5_event_28 ⟨Nat.zero_le _, Nat.zero_le _⟩)) (fun r_28 hr_28 => ?_)
        obtain rfl : r_28 = bB (decide (tRng (nI vv) 1000001)) := hr_28
        refine tb_if_neB (tgt := 37) hx hb dX5_event_31 (by decide) (fun c31 => ?_) (fun c31 => ?_)
        · refine lv_iload hx hb dX5_event_37 (lv_at hl 4 rfl) ?_
          refine lv_aload_n hx hb dX5_event_39 rfl (lv_at hl 0 rfl) ?_
          refine vp_callSi (va_Run.run (va_runV (As := []) (rest := [.int (nI vv)]) ⟨hx, hb, hml, hown, hts⟩ (m_now l D ct md R n cu nt cH oH fH lc fc my mt mv mc mk ms mp mi mlo mla mlb mf mst mr mh V hn hR hV hcb) (cwV 0 hts (gw_V (fun _ h => h) w_334 w_335 w_7 w_30 wcX5_now) rfl rfl rfl hvX5_now ⟨Nat.le_of_ble_eq_true rfl, Nat.le_of_ble_eq_true rfl⟩) (tb_prV hP hK hZ hS [0, 2] rfl (ci := 5) (q0 := 0) rfl rfl) rfl rfl hl.1 rfl (lv_room (Nat.le_of_ble_eq_true rfl)) dX5_event_40 ⟨Nat.zero_le _, Nat.zero_le _⟩)) (fun r_40 hr_40 => ?_)
          obtain rfl : r_40 = nI (mNow V n cu) := hr_40
          refine tb_icmp_ge (tgt := 49) hx hb dX5_event_43 (by decide) (by omega) (mNow_b2 hV hcb) (fun c43 => ?_) (fun c43 => ?_)
          · refine lv_iload_n hx hb dX5_event_49 rfl (lv_at hl 1 rfl) ?_
            refine lv_ldc (v := nI 1000000) hx hb hown (hts _ w_333) dX5_event_50 ?_
            refine tb_imul hx hb dX5_event_52 ?_
            refine lv_iload_n hx hb dX5_event_53 rfl (lv_at hl 2 rfl) ?_
            refine lv_sipush (v := nI 1000) hx hb dX5_event_54 (by decide) ?_
            refine tb_imul hx hb dX5_event_57 ?_
            refine tb_iadd hx hb dX5_event_58 ?_
            refine lv_iload_n hx hb dX5_event_59 rfl (lv_at hl 3 rfl) ?_
            refine tb_iadd hx hb dX5_event_60 ?_
            refine lv_istore (lv' := [(6, .int (nI (((a * 1000000) + (b * 1000)) + d))), (0, .ref md), (1, .int (nI a)), (2, .int (nI b)), (3, .int (nI d)), (4, .int (nI vv)), (5, .int (nI 0))]) hx hb dX5_event_61 hl (by decide) rfl (fun ls hl => ?_)
            refine lv_aload_n hx hb dX5_event_63 rfl (lv_at hl 1 rfl) ?_
            refine lv_iload hx hb dX5_event_64 (lv_at hl 0 rfl) ?_
            refine vp_callSi (va_Run.run (va_runV (As := [.int (nI (((a * 1000000) + (b * 1000)) + d))]) (rest := []) ⟨hx, hb, hml, hown, hts⟩ (m_isThere l D ct md R n cu nt cH oH fH lc fc my mt mv mc mk ms mp mi mlo mla mlb mf mst mr mh T C (((a * 1000000) + (b * 1000)) + d) hn hR hT (by omega)) (cwV 1 hts (gw_V (fun _ h => h) w_336 w_337 w_6 w_30 wcX5_isThere) rfl rfl rfl hvX5_isThere ⟨Nat.le_of_ble_eq_true rfl, Nat.le_of_ble_eq_true rfl⟩) (tb_prV hP hK hZ hS [0, 1, 3] rfl (ci := 5) (q0 := 0) rfl rfl) rfl rfl hl.1 rfl (lv_room (Nat.le_of_ble_eq_true rfl)) dX5_event_66 ⟨Nat.zero_le _, Nat.zero_le _⟩)) (fun r_66 hr_66 => ?_)
            obtain rfl : r_66 = bB (mTh T C (((a * 1000000) + (b * 1000)) + d) n) := hr_66
            refine lv_iload hx hb dX5_event_69 (lv_at hl 6 rfl) ?_
            refine lv_icmp_ne (tgt := 76) hx hb dX5_event_71 (by decide) (fun c71 => ?_) (fun c71 => ?_)
            · refine lv_aload_n hx hb dX5_event_76 rfl (lv_at hl 1 rfl) ?_
              refine va_get (D := D) (ci := 5) (v := .int (nI n)) (C := RX5) (T := TX5) (N := 25) hx hb hts inX5 hown hK hP 0 rfl rfl 2 (by decide) (hts _ w_300) (fun _ h9 => h9) rfl dX5_event_77 ?_
              refine lv_aload_n hx hb dX5_event_80 rfl (lv_at hl 1 rfl) ?_
              refine va_get (D := D) (ci := 5) (v := .int (nI R)) (C := RX5) (T := TX5) (N := 25) hx hb hts inX5 hown hK hP 0 rfl rfl 1 (by decide) (hts _ w_299) (fun _ h9 => h9) rfl dX5_event_81 ?_
              refine tb_icmp_ne (tgt := 90) hx hb dX5_event_84 (by decide) (by omega) (by omega) (fun c84 => ?_) (fun c84 => ?_)
              · exact absurd hfull c84
              · refine lv_bipush (v := (-4)) hx hb dX5_event_87 (by decide) ?_
                have hP9 : va_P D vwCl [(md, .inr (5, [.int (nI 0), .int (nI R), .int (nI n), .ref mt, .ref mv, .ref mc, .int (oI cu), .int (nI nt), .ref mk, .ref ms, .ref mp, .int (nI cH), .int (nI oH), .int (nI fH), .ref mi, .int (nI lc), .ref mlo, .ref mla, .ref mlb, .int (nI fc), .ref mf, .ref mst, .int (nI my), .ref mr, .ref mh])), (mt, .inl (ct 0, 400, .inl (aN T))), (mv, .inl (ct 0, 400, .inl (aN V))), (mc, .inl (ct 4, 400, .inl (aB C)))] _ := hP.sub [0, 1, 2, 3] rfl
                have hD9 : va_D A [(md, .inr (5, [.int (nI 0), .int (nI R), .int (nI n), .ref mt, .ref mv, .ref mc, .int (oI cu), .int (nI nt), .ref mk, .ref ms, .ref mp, .int (nI cH), .int (nI oH), .int (nI fH), .ref mi, .int (nI lc), .ref mlo, .ref mla, .ref mlb, .int (nI fc), .ref mf, .ref mst, .int (nI my), .ref mr, .ref mh])), (mt, .inl (ct 0, 400, .inl (aN T))), (mv, .inl (ct 0, 400, .inl (aN V))), (mc, .inl (ct 4, 400, .inl (aB C)))] := hD.sub [0, 1, 2, 3] (by decide) rfl
                exact W.iret (v := (-4)) hx hb hr (fun t ht hW => ⟨⟨_, (), rfl, rfl, by rw [ht]; exact hP9, hD9⟩, hS.F ht⟩) hS.2.2 dX5_event_89
            · exact absurd c71 (by rw [hth]; decide)
          · exfalso; omega
        · exact absurd (tRng_nI hv (by decide)) c31
