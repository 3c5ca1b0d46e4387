set_option maxHeartbeats 4000000 in
set_option maxRecDepth 100000 in
theorem m_pages_m2 (l : Launch) (D : va_G) (ct : Nat → ClassId) (md : Nat) (R : Nat) (n : Nat) (cu : Option Nat) (nt : Nat) (cH : Nat) (oH : Nat) (fH : Nat) (lc : Nat) (fc : Nat) (my : Nat) (mt : Nat) (mv : Nat) (mc : Nat) (mk : Nat) (ms : Nat) (mp : Nat) (mi : Nat) (mlo : Nat) (mla : Nat) (mlb : Nat) (mf : Nat) (mst : Nat) (mr : Nat) (mh : Nat) (x : Int32) (sz : Nat) (hbad : ¬ tRng x 6) : Met l yX5_pages wsX5_pages ({ frames := 1, cells := 0, slots := 0, locals := 20 }) (tb_Pw D ct [.ref md, .int x] sz [(md, .inr (5, [.int (nI 0), .int (nI R), .int (nI n), .ref mt, .ref mv, .ref mc, .int (oI cu), .int (nI nt), .ref mk, .ref ms, .ref mp, .int (nI cH), .int (nI oH), .int (nI fH), .ref mi, .int (nI lc), .ref mlo, .ref mla, .ref mlb, .int (nI fc), .ref mf, .ref mst, .int (nI my), .ref mr, .ref mh]))]) (va_Qi (fun r _ => r = (-2)) (tb_B D (va_A [(md, .inr (5, [.int (nI 0), .int (nI R), .int (nI n), .ref mt, .ref mv, .ref mc, .int (oI cu), .int (nI nt), .ref mk, .ref ms, .ref mp, .int (nI cH), .int (nI oH), .int (nI fH), .ref mi, .int (nI lc), .ref mlo, .ref mla, .ref mlb, .int (nI fc), .ref mf, .ref mst, .int (nI my), .ref mr, .ref mh]))] sz) [(md, .inr (5, [.int (nI 0), .int (nI R), .int (nI n), .ref mt, .ref mv, .ref mc, .int (oI cu), .int (nI nt), .ref mk, .ref ms, .ref mp, .int (nI cH), .int (nI oH), .int (nI fH), .ref mi, .int (nI lc), .ref mlo, .ref mla, .ref mlb, .int (nI fc), .ref mf, .ref mst, .int (nI my), .ref mr, .ref mh]))]) (va_A [(md, .inr (5, [.int (nI 0), .int (nI R), .int (nI n), .ref mt, .ref mv, .ref mc, .int (oI cu), .int (nI nt), .ref mk, .ref ms, .ref mp, .int (nI cH), .int (nI oH), .int (nI fH), .ref mi, .int (nI lc), .ref mlo, .ref mla, .ref mlb, .int (nI fc), .ref mf, .ref mst, .int (nI my), .ref mr, .ref mh]))] sz)) 0 0 (va_A [(md, .inr (5, [.int (nI 0), .int (nI R), .int (nI n), .ref mt, .ref mv, .ref mc, .int (oI cu), .int (nI nt), .ref mk, .ref ms, .ref mp, .int (nI cH), .int (nI oH), .int (nI fH), .ref mi, .int (nI lc), .ref mlo, .ref mla, .ref mlb, .int (nI fc), .ref mf, .ref mst, .int (nI my), .ref mr, .ref mh]))] sz) := by
  refine Met.ofW (cc := cX5_pages) (maxL := 2) (ret := (some .int)) (by decide) rfl ?_
  intro p e s m args below meth c s₁ B hml hv
  obtain ⟨rfl, hsz, hP, hK, hD0, hZ⟩ := hv
  have hx := B.exec
  have hb := B.bytes
  have hr := B.returns
  have hts0 := atoms_spec (ws := wsX5_pages) B.pre
  have hts : ∀ w9 ∈ aw, w9.before ([.ref md, .int x] : List Value).toArray s = true := fun w9 h9 => hts0 w9 (List.mem_cons_of_mem _ h9)
  have hown : s.vm.findClass RX5 = some m.cls := findClass_of_methodNamed B.named
  have hlocks := B.notSynchronized
  subst hsz
  have hD := hD0.self (sz := s.heap.size)
  generalize hAe : va_A [(md, .inr (5, [.int (nI 0), .int (nI R), .int (nI n), .ref mt, .ref mv, .ref mc, .int (oI cu), .int (nI nt), .ref mk, .ref ms, .ref mp, .int (nI cH), .int (nI oH), .int (nI fH), .ref mi, .int (nI lc), .ref mlo, .ref mla, .ref mlb, .int (nI fc), .ref mf, .ref mst, .int (nI my), .ref mr, .ref mh]))] s.heap.size = A at hD hZ ⊢
  have hA : ∀ q : Nat, s.heap.size ≤ q → A q := fun q h => by rw [← hAe]; exact Or.inr h
  have hS : va_S A s.heap s.heap [] := va_S.rf
  have hP : va_P D vwCl [(md, .inr (5, [.int (nI 0), .int (nI R), .int (nI n), .ref mt, .ref mv, .ref mc, .int (oI cu), .int (nI nt), .ref mk, .ref ms, .ref mp, .int (nI cH), .int (nI oH), .int (nI fH), .ref mi, .int (nI lc), .ref mlo, .ref mla, .ref mlb, .int (nI fc), .ref mf, .ref mst, .int (nI my), .ref mr, .ref mh]))] s.heap := hP
  have hl := lv_entry ([.ref md, .int x]) (n := 2) (Nat.le_of_ble_eq_true rfl)
  rw [lg_entry_eq]
  generalize (lg_sl ([.ref md, .int x]) ++ List.replicate (2 - (lg_sl ([.ref md, .int x])).length) Slot.unset).toArray = ls at hl ⊢
  have hl : lv_has ls 2 [(0, .ref md), (1, .int x)] := hl
  refine lv_aload_n hx hb dX5_pages_0 rfl (lv_at hl 0 rfl) ?_
  refine lv_iconst (v := nI 0) hx hb dX5_pages_1 (by decide) ?_
  refine va_put (D := D) (ci := 5) (v := .int (nI 0)) (ty := .int) (C := RX5) (T := TX5) (N := 25) hx hb hts inX5 tyX5 tyX5_ok nmX5 hown hK hP hD hS 0 rfl rfl 0 (by decide) (hts _ w_298) (fun _ h9 => h9) rfl (by decide +kernel) rfl rfl (Nat.le_of_ble_eq_true rfl) dX5_pages_2 (fun H locs hP hD hS => ?_)
  have hP : va_P D vwCl [(md, .inr (5, [.int (nI 0), .int (nI R), .int (nI n), .ref mt, .ref mv, .ref mc, .int (oI cu), .int (nI nt), .ref mk, .ref ms, .ref mp, .int (nI cH), .int (nI oH), .int (nI fH), .ref mi, .int (nI lc), .ref mlo, .ref mla, .ref mlb, .int (nI fc), .ref mf, .ref mst, .int (nI my), .ref mr, .ref mh]))] H := hP
  have hD : va_D A [(md, .inr (5, [.int (nI 0), .int (nI R), .int (nI n), .ref mt, .ref mv, .ref mc, .int (oI cu), .int (nI nt), .ref mk, .ref ms, .ref mp, .int (nI cH), .int (nI oH), .int (nI fH), .ref mi, .int (nI lc), .ref mlo, .ref mla, .ref mlb, .int (nI fc), .ref mf, .ref mst, .int (nI my), .ref mr, .ref mh]))] := hD
  refine lv_iload_n hx hb dX5_pages_5 rfl (lv_at hl 1 rfl) ?_
  refine vp_callSi (va_Run.run (va_runS (As := [.int x]) (rest := []) ⟨hx, hb, hml, hown, hts⟩ (m_isOrder l D ct x ) (va_cwS 1 hts (gw_S (fun _ h => h) w_361 w_362 w_30 wcX5_isOrder) rfl rfl rfl hvX5_isOrder.2 ⟨Nat.le_of_ble_eq_true rfl, Nat.le_of_ble_eq_true rfl⟩) (tb_prS hP hK hZ hS [] rfl) rfl rfl hl.1 rfl (lv_room (Nat.le_of_ble_eq_true rfl)) dX5_pages_6 ⟨Nat.zero_le _, Nat.zero_le _⟩)) (fun r_6 hr_6 => ?_)
  obtain rfl : r_6 = bB (decide (tRng x 6)) := hr_6
  refine tb_if_eqB (tgt := 21) hx hb dX5_pages_9 (by decide) (fun c9 => ?_) (fun c9 => ?_)
  · refine lv_bipush (v := (-2)) hx hb dX5_pages_21 (by decide) ?_
    have hP9 : va_P D vwCl [(md, .inr (5, [.int (nI 0), .int (nI R), .int (nI n), .ref mt, .ref mv, .ref mc, .int (oI cu), .int (nI nt), .ref mk, .ref ms, .ref mp, .int (nI cH), .int (nI oH), .int (nI fH), .ref mi, .int (nI lc), .ref mlo, .ref mla, .ref mlb, .int (nI fc), .ref mf, .ref mst, .int (nI my), .ref mr, .ref mh]))] _ := hP.sub [0] rfl
    have hD9 : va_D A [(md, .inr (5, [.int (nI 0), .int (nI R), .int (nI n), .ref mt, .ref mv, .ref mc, .int (oI cu), .int (nI nt), .ref mk, .ref ms, .ref mp, .int (nI cH), .int (nI oH), .int (nI fH), .ref mi, .int (nI lc), .ref mlo, .ref mla, .ref mlb, .int (nI fc), .ref mf, .ref mst, .int (nI my), .ref mr, .ref mh]))] := hD.sub [0] (by decide) rfl
    exact W.iret (v := (-2)) hx hb hr (fun t ht hW => ⟨⟨_, (), rfl, rfl, by rw [ht]; exact hP9, hD9⟩, hS.F ht⟩) hS.2.2 dX5_pages_23
  · exact absurd c9 hbad

set_option maxHeartbeats 4000000 in
set_option maxRecDepth 100000 in
theorem m_pages_ok (l : Launch) (D : va_G) (ct : Nat → ClassId) (md : Nat) (R : Nat) (n : Nat) (cu : Option Nat) (nt : Nat) (cH : Nat) (oH : Nat) (fH : Nat) (lc : Nat) (fc : Nat) (my : Nat) (mt : Nat) (mv : Nat) (mc : Nat) (mk : Nat) (ms : Nat) (mp : Nat) (mi : Nat) (mlo : Nat) (mla : Nat) (mlb : Nat) (mf : Nat) (mst : Nat) (mr : Nat) (mh : Nat) (P : Nat → Nat) (o : Nat) (sz : Nat) (ho : o < 6) : Met l yX5_pages wsX5_pages ({ frames := 1, cells := 0, slots := 0, locals := 20 }) (tb_Pw D ct [.ref md, .int (nI o)] sz [(md, .inr (5, [.int (nI 0), .int (nI R), .int (nI n), .ref mt, .ref mv, .ref mc, .int (oI cu), .int (nI nt), .ref mk, .ref ms, .ref mp, .int (nI cH), .int (nI oH), .int (nI fH), .ref mi, .int (nI lc), .ref mlo, .ref mla, .ref mlb, .int (nI fc), .ref mf, .ref mst, .int (nI my), .ref mr, .ref mh])), (mp, .inl (ct 0, 6, .inl (aN P)))]) (va_Qi (fun r _ => r = nI (P o)) (tb_B D (va_A [(md, .inr (5, [.int (nI 0), .int (nI R), .int (nI n), .ref mt, .ref mv, .ref mc, .int (oI cu), .int (nI nt), .ref mk, .ref ms, .ref mp, .int (nI cH), .int (nI oH), .int (nI fH), .ref mi, .int (nI lc), .ref mlo, .ref mla, .ref mlb, .int (nI fc), .ref mf, .ref mst, .int (nI my), .ref mr, .ref mh])), (mp, .inl (ct 0, 6, .inl (aN P)))] sz) [(md, .inr (5, [.int (nI 0), .int (nI R), .int (nI n), .ref mt, .ref mv, .ref mc, .int (oI cu), .int (nI nt), .ref mk, .ref ms, .ref mp, .int (nI cH), .int (nI oH), .int (nI fH), .ref mi, .int (nI lc), .ref mlo, .ref mla, .ref mlb, .int (nI fc), .ref mf, .ref mst, .int (nI my), .ref mr, .ref mh])), (mp, .inl (ct 0, 6, .inl (aN P)))]) (va_A [(md, .inr (5, [.int (nI 0), .int (nI R), .int (nI n), .ref mt, .ref mv, .ref mc, .int (oI cu), .int (nI nt), .ref mk, .ref ms, .ref mp, .int (nI cH), .int (nI oH), .int (nI fH), .ref mi, .int (nI lc), .ref mlo, .ref mla, .ref mlb, .int (nI fc), .ref mf, .ref mst, .int (nI my), .ref mr, .ref mh])), (mp, .inl (ct 0, 6, .inl (aN P)))] sz)) 0 0 (va_A [(md, .inr (5, [.int (nI 0), .int (nI R), .int (nI n), .ref mt, .ref mv, .ref mc, .int (oI cu), .int (nI nt), .ref mk, .ref ms, .ref mp, .int (nI cH), .int (nI oH), .int (nI fH), .ref mi, .int (nI lc), .ref mlo, .ref mla, .ref mlb, .int (nI fc), .ref mf, .ref mst, .int (nI my), .ref mr, .ref mh])), (mp, .inl (ct 0, 6, .inl (aN P)))] sz) := by
  refine Met.ofW (cc := cX5_pages) (maxL := 2) (ret := (some .int)) (by decide) rfl ?_
  intro p e s m args below meth c s₁ B hml hv
  obtain ⟨rfl, hsz, hP, hK, hD0, hZ⟩ := hv
  have hx := B.exec
  have hb := B.bytes
  have hr := B.returns
  have hts0 := atoms_spec (ws := wsX5_pages) B.pre
  have hts : ∀ w9 ∈ aw, w9.before ([.ref md, .int (nI o)] : List Value).toArray s = true := fun w9 h9 => hts0 w9 (List.mem_cons_of_mem _ h9)
  have hown : s.vm.findClass RX5 = some m.cls := findClass_of_methodNamed B.named
  have hlocks := B.notSynchronized
  subst hsz
  have hD := hD0.self (sz := s.heap.size)
  generalize hAe : va_A [(md, .inr (5, [.int (nI 0), .int (nI R), .int (nI n), .ref mt, .ref mv, .ref mc, .int (oI cu), .int (nI nt), .ref mk, .ref ms, .ref mp, .int (nI cH), .int (nI oH), .int (nI fH), .ref mi, .int (nI lc), .ref mlo, .ref mla, .ref mlb, .int (nI fc), .ref mf, .ref mst, .int (nI my), .ref mr, .ref mh])), (mp, .inl (ct 0, 6, .inl (aN P)))] s.heap.size = A at hD hZ ⊢
  have hA : ∀ q : Nat, s.heap.size ≤ q → A q := fun q h => by rw [← hAe]; exact Or.inr h
  have hS : va_S A s.heap s.heap [] := va_S.rf
  have hP : va_P D vwCl [(md, .inr (5, [.int (nI 0), .int (nI R), .int (nI n), .ref mt, .ref mv, .ref mc, .int (oI cu), .int (nI nt), .ref mk, .ref ms, .ref mp, .int (nI cH), .int (nI oH), .int (nI fH), .ref mi, .int (nI lc), .ref mlo, .ref mla, .ref mlb, .int (nI fc), .ref mf, .ref mst, .int (nI my), .ref mr, .ref mh])), (mp, .inl (ct 0, 6, .inl (aN P)))] s.heap := hP
  have hl := lv_entry ([.ref md, .int (nI o)]) (n := 2) (Nat.le_of_ble_eq_true rfl)
  rw [lg_entry_eq]
  generalize (lg_sl ([.ref md, .int (nI o)]) ++ List.replicate (2 - (lg_sl ([.ref md, .int (nI o)])).length) Slot.unset).toArray = ls at hl ⊢
  have hl : lv_has ls 2 [(0, .ref md), (1, .int (nI o))] := hl
  refine lv_aload_n hx hb dX5_pages_0 rfl (lv_at hl 0 rfl) ?_
  refine lv_iconst (v := nI 0) hx hb dX5_pages_1 (by decide) ?_
  refine va_put (D := D) (ci := 5) (v := .int (nI 0)) (ty := .int) (C := RX5) (T := TX5) (N := 25) hx hb hts inX5 tyX5 tyX5_ok nmX5 hown hK hP hD hS 0 rfl rfl 0 (by decide) (hts _ w_298) (fun _ h9 => h9) rfl (by decide +kernel) rfl rfl (Nat.le_of_ble_eq_true rfl) dX5_pages_2 (fun H locs hP hD hS => ?_)
  have hP : va_P D vwCl [(md, .inr (5, [.int (nI 0), .int (nI R), .int (nI n), .ref mt, .ref mv, .ref mc, .int (oI cu), .int (nI nt), .ref mk, .ref ms, .ref mp, .int (nI cH), .int (nI oH), .int (nI fH), .ref mi, .int (nI lc), .ref mlo, .ref mla, .ref mlb, .int (nI fc), .ref mf, .ref mst, .int (nI my), .ref mr, .ref mh])), (mp, .inl (ct 0, 6, .inl (aN P)))] H := hP
  have hD : va_D A [(md, .inr (5, [.int (nI 0), .int (nI R), .int (nI n), .ref mt, .ref mv, .ref mc, .int (oI cu), .int (nI nt), .ref mk, .ref ms, .ref mp, .int (nI cH), .int (nI oH), .int (nI fH), .ref mi, .int (nI lc), .ref mlo, .ref mla, .ref mlb, .int (nI fc), .ref mf, .ref mst, .int (nI my), .ref mr, .ref mh])), (mp, .inl (ct 0, 6, .inl (aN P)))] := hD
  refine lv_iload_n hx hb dX5_pages_5 rfl (lv_at hl 1 rfl) ?_
  refine vp_callSi (va_Run.run (va_runS (As := [.int (nI o)]) (rest := []) ⟨hx, hb, hml, hown, hts⟩ (m_isOrder l D ct (nI o) ) (va_cwS 1 hts (gw_S (fun _ h => h) w_361 w_362 w_30 wcX5_isOrder) rfl rfl rfl hvX5_isOrder.2 ⟨Nat.le_of_ble_eq_true rfl, Nat.le_of_ble_eq_true rfl⟩) (tb_prS hP hK hZ hS [] rfl) rfl rfl hl.1 rfl (lv_room (Nat.le_of_ble_eq_true rfl)) dX5_pages_6 ⟨Nat.zero_le _, Nat.zero_le _⟩)) (fun r_6 hr_6 => ?_)
  obtain rfl : r_6 = bB (decide (tRng (nI o) 6)) := hr_6
  refine tb_if_eqB (tgt := 21) hx hb dX5_pages_9 (by decide) (fun c9 => ?_) (fun c9 => ?_)
  · exact absurd (tRng_nI ho (by decide)) c9
  · refine lv_aload_n hx hb dX5_pages_12 rfl (lv_at hl 0 rfl) ?_
    refine va_get (D := D) (ci := 5) (v := .ref mp) (C := RX5) (T := TX5) (N := 25) hx hb hts inX5 hown hK hP 0 rfl rfl 10 (by decide) (hts _ w_308) (fun _ h9 => h9) rfl dX5_pages_13 ?_
    refine lv_iload_n hx hb dX5_pages_16 rfl (lv_at hl 1 rfl) ?_
    refine tb_iald (v := P o) hx hb hK hP 1 0 rfl rfl (by omega) (by omega) rfl dX5_pages_17 ?_
    refine lv_goto (tgt := 23) hx hb dX5_pages_18 (by decide) ?_
    have hP9 : va_P D vwCl [(md, .inr (5, [.int (nI 0), .int (nI R), .int (nI n), .ref mt, .ref mv, .ref mc, .int (oI cu), .int (nI nt), .ref mk, .ref ms, .ref mp, .int (nI cH), .int (nI oH), .int (nI fH), .ref mi, .int (nI lc), .ref mlo, .ref mla, .ref mlb, .int (nI fc), .ref mf, .ref mst, .int (nI my), .ref mr, .ref mh])), (mp, .inl (ct 0, 6, .inl (aN P)))] _ := hP.sub [0, 1] rfl
    have hD9 : va_D A [(md, .inr (5, [.int (nI 0), .int (nI R), .int (nI n), .ref mt, .ref mv, .ref mc, .int (oI cu), .int (nI nt), .ref mk, .ref ms, .ref mp, .int (nI cH), .int (nI oH), .int (nI fH), .ref mi, .int (nI lc), .ref mlo, .ref mla, .ref mlb, .int (nI fc), .ref mf, .ref mst, .int (nI my), .ref mr, .ref mh])), (mp, .inl (ct 0, 6, .inl (aN P)))] := hD.sub [0, 1] (by decide) rfl
    exact W.iret (v := nI (P o)) hx hb hr (fun t ht hW => ⟨⟨_, (), rfl, rfl, by rw [ht]; exact hP9, hD9⟩, hS.F ht⟩) hS.2.2 dX5_pages_23

set_option maxHeartbeats 4000000 in
set_option maxRecDepth 100000 in
theorem m_begin (l : Launch) (D : va_G) (ct : Nat → ClassId) (md : Nat) (R : Nat) (n : Nat) (cu : Option Nat) (nt : Nat) (cH : Nat) (oH : Nat) (fH : Nat) (lc : Nat) (fc : Nat) (my : Nat) (mt : Nat) (mv : Nat) (mc : Nat) (mk : Nat) (ms : Nat) (mp : Nat) (mi : Nat) (mlo : Nat) (mla : Nat) (mlb : Nat) (mf : Nat) (mst : Nat) (mr : Nat) (mh : Nat) (S : Nat → Nat) (o : Nat) (j : Nat) (ho : o < 6) (hj4 : j ≤ 400) : Met l yX5_begin wsX5_begin ({ frames := 0, cells := 0, slots := 0, locals := 0 }) (tb_Pr D ct [.ref md, .int (nI o), .int (nI j)] [(md, .inr (5, [.int (nI 0), .int (nI R), .int (nI n), .ref mt, .ref mv, .ref mc, .int (oI cu), .int (nI nt), .ref mk, .ref ms, .ref mp, .int (nI cH), .int (nI oH), .int (nI fH), .ref mi, .int (nI lc), .ref mlo, .ref mla, .ref mlb, .int (nI fc), .ref mf, .ref mst, .int (nI my), .ref mr, .ref mh])), (ms, .inl (ct 0, 2400, .inl (aN S)))]) (vp_Si (fun r => r = nI (400 * o + tSum (fun j => S (400 * o + j)) j))) 0 0 (fun _ => False) := by
  refine Met.ofW (cc := cX5_begin) (maxL := 5) (ret := (some .int)) (by decide) rfl ?_
  intro p e s m args below meth c s₁ B hml hv
  obtain ⟨rfl, hP, hK, hZ⟩ := hv
  have hx := B.exec
  have hb := B.bytes
  have hr := B.returns
  have hts0 := atoms_spec (ws := wsX5_begin) B.pre
  have hts : ∀ w9 ∈ aw, w9.before ([.ref md, .int (nI o), .int (nI j)] : List Value).toArray s = true := fun w9 h9 => hts0 w9 (List.mem_cons_of_mem _ h9)
  have hown : s.vm.findClass RX5 = some m.cls := findClass_of_methodNamed B.named
  have hlocks := B.notSynchronized
  have hS : va_S (fun _ => False) s.heap s.heap [] := va_S.rf
  have hP : va_P D vwCl [(md, .inr (5, [.int (nI 0), .int (nI R), .int (nI n), .ref mt, .ref mv, .ref mc, .int (oI cu), .int (nI nt), .ref mk, .ref ms, .ref mp, .int (nI cH), .int (nI oH), .int (nI fH), .ref mi, .int (nI lc), .ref mlo, .ref mla, .ref mlb, .int (nI fc), .ref mf, .ref mst, .int (nI my), .ref mr, .ref mh])), (ms, .inl (ct 0, 2400, .inl (aN S)))] s.heap := hP
  have hl := lv_entry ([.ref md, .int (nI o), .int (nI j)]) (n := 5) (Nat.le_of_ble_eq_true rfl)
  rw [lg_entry_eq]
  generalize (lg_sl ([.ref md, .int (nI o), .int (nI j)]) ++ List.replicate (5 - (lg_sl ([.ref md, .int (nI o), .int (nI j)])).length) Slot.unset).toArray = ls at hl ⊢
  have hl : lv_has ls 5 [(0, .ref md), (1, .int (nI o)), (2, .int (nI j))] := hl
  refine lv_sipush (v := nI 400) hx hb dX5_begin_0 (by decide) ?_
  refine lv_iload_n hx hb dX5_begin_3 rfl (lv_at hl 1 rfl) ?_
  refine tb_imul hx hb dX5_begin_4 ?_
  refine lv_istore_n (lv' := [(3, .int (nI (400 * o))), (0, .ref md), (1, .int (nI o)), (2, .int (nI j))]) hx hb dX5_begin_5 rfl hl (by decide) rfl (fun ls hl => ?_)
  refine lv_iconst (v := nI 0) hx hb dX5_begin_6 (by decide) ?_
  refine lv_istore (lv' := [(4, .int (nI 0)), (3, .int (nI (400 * o))), (0, .ref md), (1, .int (nI o)), (2, .int (nI j))]) hx hb dX5_begin_7 hl (by decide) rfl (fun ls hl => ?_)
  have hl9 : ∀ (N9 : Nat) (k : Nat), j - k < N9 → (k ≤ j) → ∀ (ls : Array Slot), lv_has ls 5 [(0, .ref md), (1, .int (nI o)), (2, .int (nI j)), (3, .int (nI (400 * o + tSum (fun j => S (400 * o + j)) k))), (4, .int (nI k))] → W p l e (headSpec wsX5_begin ({ frames := 0, cells := 0, slots := 0, locals := 0 })).room s m ([.ref md, .int (nI o), .int (nI j)] : List Value).toArray below meth c s.heap [] 0 0 (MQ below (vp_Si (fun r => r = nI (400 * o + tSum (fun j => S (400 * o + j)) j))) ([.ref md, .int (nI o), .int (nI j)] : List Value).toArray s 0 0 (fun _ => False)) (F0 m 9 ls []) := by
    intro N9
    induction N9 with
    | zero => intro k h9; exact absurd h9 (Nat.not_lt_zero _)
    | succ N9 ih9 =>
      intro k h9 h1 ls hl
      refine lv_iload hx hb dX5_begin_9 (lv_at hl 4 rfl) ?_
      refine lv_iload_n hx hb dX5_begin_11 rfl (lv_at hl 2 rfl) ?_
      refine tb_icmp_ge (tgt := 37) hx hb dX5_begin_12 (by decide) (by omega) (by omega) (fun c12 => ?_) (fun c12 => ?_)
      · refine lv_iload_n hx hb dX5_begin_37 rfl (lv_at hl 3 rfl) ?_
        exact W.iret (v := nI (400 * o + tSum (fun j => S (400 * o + j)) k)) hx hb hr (fun t ht hW => ⟨_, rfl, (by rw [show j = k by omega]), ht⟩) (fun q h => by cases h) dX5_begin_38
      · refine lv_iload_n hx hb dX5_begin_15 rfl (lv_at hl 3 rfl) ?_
        refine lv_aload_n hx hb dX5_begin_16 rfl (lv_at hl 0 rfl) ?_
        refine va_get (D := D) (ci := 5) (v := .ref ms) (C := RX5) (T := TX5) (N := 25) hx hb hts inX5 hown hK hP 0 rfl rfl 9 (by decide) (hts _ w_307) (fun _ h9 => h9) rfl dX5_begin_17 ?_
        refine lv_sipush (v := nI 400) hx hb dX5_begin_20 (by decide) ?_
        refine lv_iload_n hx hb dX5_begin_23 rfl (lv_at hl 1 rfl) ?_
        refine tb_imul hx hb dX5_begin_24 ?_
        refine lv_iload hx hb dX5_begin_25 (lv_at hl 4 rfl) ?_
        refine tb_iadd hx hb dX5_begin_27 ?_
        refine tb_iald (v := S ((400 * o) + k)) hx hb hK hP 1 0 rfl rfl (by omega) (by omega) rfl dX5_begin_28 ?_
        refine tb_iadd hx hb dX5_begin_29 ?_
        refine lv_istore_n (lv' := [(3, .int (nI ((400 * o + tSum (fun j => S (400 * o + j)) k) + (S ((400 * o) + k))))), (0, .ref md), (1, .int (nI o)), (2, .int (nI j)), (4, .int (nI k))]) hx hb dX5_begin_30 rfl hl (by decide) rfl (fun ls hl => ?_)
        refine lv_iinc (v := nI (k + 1)) (lv' := [(4, .int (nI (k + 1))), (3, .int (nI ((400 * o + tSum (fun j => S (400 * o + j)) k) + (S ((400 * o) + k))))), (0, .ref md), (1, .int (nI o)), (2, .int (nI j))]) hx hb dX5_begin_31 hl (k := 4) rfl (tb_inc k rfl) (by decide) rfl (fun ls hl => ?_)
        refine lv_goto (tgt := 9) hx hb dX5_begin_34 (by decide) ?_
        exact ih9 (k + 1) (by omega) (by omega) _ (by first | (rw [mBg]; exact lv_sub hl [2, 3, 4, 1, 0] rfl) | exact lv_sub hl [2, 3, 4, 1, 0] rfl)
  exact hl9 _ 0 (Nat.lt_succ_self _) (by omega) _ (lv_sub hl [2, 3, 4, 1, 0] rfl)

set_option maxHeartbeats 4000000 in
set_option maxRecDepth 100000 in
theorem m_page_m2 (l : Launch) (D : va_G) (ct : Nat → ClassId) (md : Nat) (R : Nat) (n : Nat) (cu : Option Nat) (nt : Nat) (cH : Nat) (oH : Nat) (fH : Nat) (lc : Nat) (fc : Nat) (my : Nat) (mt : Nat) (mv : Nat) (mc : Nat) (mk : Nat) (ms : Nat) (mp : Nat) (mi : Nat) (mlo : Nat) (mla : Nat) (mlb : Nat) (mf : Nat) (mst : Nat) (mr : Nat) (mh : Nat) (x : Int32) (y : Int32) (u : Int32) (sz : Nat) (hbad : ¬ (tRng x 6 ∧ tRng u 4)) : Met l yX5_page wsX5_page ({ frames := 1, cells := 0, slots := 0, locals := 20 }) (tb_Pw D ct [.ref md, .int x, .int y, .int u] sz [(md, .inr (5, [.int (nI 0), .int (nI R), .int (nI n), .ref mt, .ref mv, .ref mc, .int (oI cu), .int (nI nt), .ref mk, .ref ms, .ref mp, .int (nI cH), .int (nI oH), .int (nI fH), .ref mi, .int (nI lc), .ref mlo, .ref mla, .ref mlb, .int (nI fc), .ref mf, .ref mst, .int (nI my), .ref mr, .ref mh]))]) (va_Qi (fun r _ => r = (-2)) (tb_B D (va_A [(md, .inr (5, [.int (nI 0), .int (nI R), .int (nI n), .ref mt, .ref mv, .ref mc, .int (oI cu), .int (nI nt), .ref mk, .ref ms, .ref mp, .int (nI cH), .int (nI oH), .int (nI fH), .ref mi, .int (nI lc), .ref mlo, .ref mla, .ref mlb, .int (nI fc), .ref mf, .ref mst, .int (nI my), .ref mr, .ref mh]))] sz) [(md, .inr (5, [.int (nI 0), .int (nI R), .int (nI n), .ref mt, .ref mv, .ref mc, .int (oI cu), .int (nI nt), .ref mk, .ref ms, .ref mp, .int (nI cH), .int (nI oH), .int (nI fH), .ref mi, .int (nI lc), .ref mlo, .ref mla, .ref mlb, .int (nI fc), .ref mf, .ref mst, .int (nI my), .ref mr, .ref mh]))]) (va_A [(md, .inr (5, [.int (nI 0), .int (nI R), .int (nI n), .ref mt, .ref mv, .ref mc, .int (oI cu), .int (nI nt), .ref mk, .ref ms, .ref mp, .int (nI cH), .int (nI oH), .int (nI fH), .ref mi, .int (nI lc), .ref mlo, .ref mla, .ref mlb, .int (nI fc), .ref mf, .ref mst, .int (nI my), .ref mr, .ref mh]))] sz)) 0 0 (va_A [(md, .inr (5, [.int (nI 0), .int (nI R), .int (nI n), .ref mt, .ref mv, .ref mc, .int (oI cu), .int (nI nt), .ref mk, .ref ms, .ref mp, .int (nI cH), .int (nI oH), .int (nI fH), .ref mi, .int (nI lc), .ref mlo, .ref mla, .ref mlb, .int (nI fc), .ref mf, .ref mst, .int (nI my), .ref mr, .ref mh]))] sz) := by
  refine Met.ofW (cc := cX5_page) (maxL := 4) (ret := (some .int)) (by decide) rfl ?_
  intro p e s m args below meth c s₁ B hml hv
  obtain ⟨rfl, hsz, hP, hK, hD0, hZ⟩ := hv
  have hx := B.exec
  have hb := B.bytes
  have hr := B.returns
  have hts0 := atoms_spec (ws := wsX5_page) B.pre
  have hts : ∀ w9 ∈ aw, w9.before ([.ref md, .int x, .int y, .int u] : List Value).toArray s = true := fun w9 h9 => hts0 w9 (List.mem_cons_of_mem _ h9)
  have hown : s.vm.findClass RX5 = some m.cls := findClass_of_methodNamed B.named
  have hlocks := B.notSynchronized
  subst hsz
  have hD := hD0.self (sz := s.heap.size)
  generalize hAe : va_A [(md, .inr (5, [.int (nI 0), .int (nI R), .int (nI n), .ref mt, .ref mv, .ref mc, .int (oI cu), .int (nI nt), .ref mk, .ref ms, .ref mp, .int (nI cH), .int (nI oH), .int (nI fH), .ref mi, .int (nI lc), .ref mlo, .ref mla, .ref mlb, .int (nI fc), .ref mf, .ref mst, .int (nI my), .ref mr, .ref mh]))] s.heap.size = A at hD hZ ⊢
  have hA : ∀ q : Nat, s.heap.size ≤ q → A q := fun q h => by rw [← hAe]; exact Or.inr h
  have hS : va_S A s.heap s.heap [] := va_S.rf
  have hP : va_P D vwCl [(md, .inr (5, [.int (nI 0), .int (nI R), .int (nI n), .ref mt, .ref mv, .ref mc, .int (oI cu), .int (nI nt), .ref mk, .ref ms, .ref mp, .int (nI cH), .int (nI oH), .int (nI fH), .ref mi, .int (nI lc), .ref mlo, .ref mla, .ref mlb, .int (nI fc), .ref mf, .ref mst, .int (nI my), .ref mr, .ref mh]))] s.heap := hP
  have hl := lv_entry ([.ref md, .int x, .int y, .int u]) (n := 4) (Nat.le_of_ble_eq_true rfl)
  rw [lg_entry_eq]
  generalize (lg_sl ([.ref md, .int x, .int y, .int u]) ++ List.replicate (4 - (lg_sl ([.ref md, .int x, .int y, .int u])).length) Slot.unset).toArray = ls at hl ⊢
  have hl : lv_has ls 4 [(0, .ref md), (1, .int x), (2, .int y), (3, .int u)] := hl
  refine lv_aload_n hx hb dX5_page_0 rfl (lv_at hl 0 rfl) ?_
  refine lv_iconst (v := nI 0) hx hb dX5_page_1 (by decide) ?_
  refine va_put (D := D) (ci := 5) (v := .int (nI 0)) (ty := .int) (C := RX5) (T := TX5) (N := 25) hx hb hts inX5 tyX5 tyX5_ok nmX5 hown hK hP hD hS 0 rfl rfl 0 (by decide) (hts _ w_298) (fun _ h9 => h9) rfl (by decide +kernel) rfl rfl (Nat.le_of_ble_eq_true rfl) dX5_page_2 (fun H locs hP hD hS => ?_)
  have hP : va_P D vwCl [(md, .inr (5, [.int (nI 0), .int (nI R), .int (nI n), .ref mt, .ref mv, .ref mc, .int (oI cu), .int (nI nt), .ref mk, .ref ms, .ref mp, .int (nI cH), .int (nI oH), .int (nI fH), .ref mi, .int (nI lc), .ref mlo, .ref mla, .ref mlb, .int (nI fc), .ref mf, .ref mst, .int (nI my), .ref mr, .ref mh]))] H := hP
  have hD : va_D A [(md, .inr (5, [.int (nI 0), .int (nI R), .int (nI n), .ref mt, .ref mv, .ref mc, .int (oI cu), .int (nI nt), .ref mk, .ref ms, .ref mp, .int (nI cH), .int (nI oH), .int (nI fH), .ref mi, .int (nI lc), .ref mlo, .ref mla, .ref mlb, .int (nI fc), .ref mf, .ref mst, .int (nI my), .ref mr, .ref mh]))] := hD
  refine lv_iload_n hx hb dX5_page_5 rfl (lv_at hl 1 rfl) ?_
  refine vp_callSi (va_Run.run (va_runS (As := [.int x]) (rest := []) ⟨hx, hb, hml, hown, hts⟩ (m_isOrder l D ct x ) (va_cwS 1 hts (gw_S (fun _ h => h) w_361 w_362 w_30 wcX5_isOrder) rfl rfl rfl hvX5_isOrder.2 ⟨Nat.le_of_ble_eq_true rfl, Nat.le_of_ble_eq_true rfl⟩) (tb_prS hP hK hZ hS [] rfl) rfl rfl hl.1 rfl (lv_room (Nat.le_of_ble_eq_true rfl)) dX5_page_6 ⟨Nat.zero_le _, Nat.zero_le _⟩)) (fun r_6 hr_6 => ?_)
  obtain rfl : r_6 = bB (decide (tRng x 6)) := hr_6
  refine tb_if_eqB (tgt := 21) hx hb dX5_page_9 (by decide) (fun c9 => ?_) (fun c9 => ?_)
  · refine lv_bipush (v := (-2)) hx hb dX5_page_21 (by decide) ?_
    have hP9 : va_P D vwCl [(md, .inr (5, [.int (nI 0), .int (nI R), .int (nI n), .ref mt, .ref mv, .ref mc, .int (oI cu), .int (nI nt), .ref mk, .ref ms, .ref mp, .int (nI cH), .int (nI oH), .int (nI fH), .ref mi, .int (nI lc), .ref mlo, .ref mla, .ref mlb, .int (nI fc), .ref mf, .ref mst, .int (nI my), .ref mr, .ref mh]))] _ := hP.sub [0] rfl
    have hD9 : va_D A [(md, .inr (5, [.int (nI 0), .int (nI R), .int (nI n), .ref mt, .ref mv, .ref mc, .int (oI cu), .int (nI nt), .ref mk, .ref ms, .ref mp, .int (nI cH), .int (nI oH), .int (nI fH), .ref mi, .int (nI lc), .ref mlo, .ref mla, .ref mlb, .int (nI fc), .ref mf, .ref mst, .int (nI my), .ref mr, .ref mh]))] := hD.sub [0] (by decide) rfl
    exact W.iret (v := (-2)) hx hb hr (fun t ht hW => ⟨⟨_, (), rfl, rfl, by rw [ht]; exact hP9, hD9⟩, hS.F ht⟩) hS.2.2 dX5_page_23
  · refine lv_iload_n hx hb dX5_page_12 rfl (lv_at hl 3 rfl) ?_
    refine lv_if_lt (tgt := 21) hx hb dX5_page_13 (by decide) (fun c13 => ?_) (fun c13 => ?_)
    · refine lv_bipush (v := (-2)) hx hb dX5_page_21 (by decide) ?_
      have hP9 : va_P D vwCl [(md, .inr (5, [.int (nI 0), .int (nI R), .int (nI n), .ref mt, .ref mv, .ref mc, .int (oI cu), .int (nI nt), .ref mk, .ref ms, .ref mp, .int (nI cH), .int (nI oH), .int (nI fH), .ref mi, .int (nI lc), .ref mlo, .ref mla, .ref mlb, .int (nI fc), .ref mf, .ref mst, .int (nI my), .ref mr, .ref mh]))] _ := hP.sub [0] rfl
      have hD9 : va_D A [(md, .inr (5, [.int (nI 0), .int (nI R), .int (nI n), .ref mt, .ref mv, .ref mc, .int (oI cu), .int (nI nt), .ref mk, .ref ms, .ref mp, .int (nI cH), .int (nI oH), .int (nI fH), .ref mi, .int (nI lc), .ref mlo, .ref mla, .ref mlb, .int (nI fc), .ref mf, .ref mst, .int (nI my), .ref mr, .ref mh]))] := hD.sub [0] (by decide) rfl
      exact W.iret (v := (-2)) hx hb hr (fun t ht hW => ⟨⟨_, (), rfl, rfl, by rw [ht]; exact hP9, hD9⟩, hS.F ht⟩) hS.2.2 dX5_page_23
    · refine lv_iload_n hx hb dX5_page_16 rfl (lv_at hl 3 rfl) ?_
      refine lv_iconst (v := nI 3) hx hb dX5_page_17 (by decide) ?_
      refine lv_icmp_le (tgt := 24) hx hb dX5_page_18 (by decide) (fun c18 => ?_) (fun c18 => ?_)
      · exact absurd ⟨c9, tRng_ofg (by decide) c13 (Int32.not_lt.mpr c18)⟩ hbad
      · refine lv_bipush (v := (-2)) hx hb dX5_page_21 (by decide) ?_
        have hP9 : va_P D vwCl [(md, .inr (5, [.int (nI 0), .int (nI R), .int (nI n), .ref mt, .ref mv, .ref mc, .int (oI cu), .int (nI nt), .ref mk, .ref ms, .ref mp, .int (nI cH), .int (nI oH), .int (nI fH), .ref mi, .int (nI lc), .ref mlo, .ref mla, .ref mlb, .int (nI fc), .ref mf, .ref mst, .int (nI my), .ref mr, .ref mh]))] _ := hP.sub [0] rfl
        have hD9 : va_D A [(md, .inr (5, [.int (nI 0), .int (nI R), .int (nI n), .ref mt, .ref mv, .ref mc, .int (oI cu), .int (nI nt), .ref mk, .ref ms, .ref mp, .int (nI cH), .int (nI oH), .int (nI fH), .ref mi, .int (nI lc), .ref mlo, .ref mla, .ref mlb, .int (nI fc), .ref mf, .ref mst, .int (nI my), .ref mr, .ref mh]))] := hD.sub [0] (by decide) rfl
        exact W.iret (v := (-2)) hx hb hr (fun t ht hW => ⟨⟨_, (), rfl, rfl, by rw [ht]; exact hP9, hD9⟩, hS.F ht⟩) hS.2.2 dX5_page_23

set_option maxHeartbeats 4000000 in
set_option maxRecDepth 100000 in
theorem m_page_none (l : Launch) (D : va_G) (ct : Nat → ClassId) (md : Nat) (R : Nat) (n : Nat) (cu : Option Nat) (nt : Nat) (cH : Nat) (oH : Nat) (fH : Nat) (lc : Nat) (fc : Nat) (my : Nat) (mt : Nat) (mv : Nat) (mc : Nat) (mk : Nat) (ms : Nat) (mp : Nat) (mi : Nat) (mlo : Nat) (mla : Nat) (mlb : Nat) (mf : Nat) (mst : Nat) (mr : Nat) (mh : Nat) (P : Nat → Nat) (o : Nat) (y : Int32) (j : Nat) (sz : Nat) (ho : o < 6) (hPo : P o ≤ 400) (hj : j < 4) (hy : ¬ tRng y (P o)) : Met l yX5_page wsX5_page ({ frames := 1, cells := 0, slots := 0, locals := 20 }) (tb_Pw D ct [.ref md, .int (nI o), .int y, .int (nI j)] sz [(md, .inr (5, [.int (nI 0), .int (nI R), .int (nI n), .ref mt, .ref mv, .ref mc, .int (oI cu), .int (nI nt), .ref mk, .ref ms, .ref mp, .int (nI cH), .int (nI oH), .int (nI fH), .ref mi, .int (nI lc), .ref mlo, .ref mla, .ref mlb, .int (nI fc), .ref mf, .ref mst, .int (nI my), .ref mr, .ref mh])), (mp, .inl (ct 0, 6, .inl (aN P)))]) (va_Qi (fun r _ => r = (-1)) (tb_B D (va_A [(md, .inr (5, [.int (nI 0), .int (nI R), .int (nI n), .ref mt, .ref mv, .ref mc, .int (oI cu), .int (nI nt), .ref mk, .ref ms, .ref mp, .int (nI cH), .int (nI oH), .int (nI fH), .ref mi, .int (nI lc), .ref mlo, .ref mla, .ref mlb, .int (nI fc), .ref mf, .ref mst, .int (nI my), .ref mr, .ref mh])), (mp, .inl (ct 0, 6, .inl (aN P)))] sz) [(md, .inr (5, [.int (nI 0), .int (nI R), .int (nI n), .ref mt, .ref mv, .ref mc, .int (oI cu), .int (nI nt), .ref mk, .ref ms, .ref mp, .int (nI cH), .int (nI oH), .int (nI fH), .ref mi, .int (nI lc), .ref mlo, .ref mla, .ref mlb, .int (nI fc), .ref mf, .ref mst, .int (nI my), .ref mr, .ref mh])), (mp, .inl (ct 0, 6, .inl (aN P)))]) (va_A [(md, .inr (5, [.int (nI 0), .int (nI R), .int (nI n), .ref mt, .ref mv, .ref mc, .int (oI cu), .int (nI nt), .ref mk, .ref ms, .ref mp, .int (nI cH), .int (nI oH), .int (nI fH), .ref mi, .int (nI lc), .ref mlo, .ref mla, .ref mlb, .int (nI fc), .ref mf, .ref mst, .int (nI my), .ref mr, .ref mh])), (mp, .inl (ct 0, 6, .inl (aN P)))] sz)) 0 0 (va_A [(md, .inr (5, [.int (nI 0), .int (nI R), .int (nI n), .ref mt, .ref mv, .ref mc, .int (oI cu), .int (nI nt), .ref mk, .ref ms, .ref mp, .int (nI cH), .int (nI oH), .int (nI fH), .ref mi, .int (nI lc), .ref mlo, .ref mla, .ref mlb, .int (nI fc), .ref mf, .ref mst, .int (nI my), .ref mr, .ref mh])), (mp, .inl (ct 0, 6, .inl (aN P)))] sz) := by
  refine Met.ofW (cc := cX5_page) (maxL := 4) (ret := (some .int)) (by decide) rfl ?_
  intro p e s m args below meth c s₁ B hml hv
  obtain ⟨rfl, hsz, hP, hK, hD0, hZ⟩ := hv
  have hx := B.exec
  have hb := B.bytes
  have hr := B.returns
  have hts0 := atoms_spec (ws := wsX5_page) B.pre
  have hts : ∀ w9 ∈ aw, w9.before ([.ref md, .int (nI o), .int y, .int (nI j)] : List Value).toArray s = true := fun w9 h9 => hts0 w9 (List.mem_cons_of_mem _ h9)
  have hown : s.vm.findClass RX5 = some m.cls := findClass_of_methodNamed B.named
  have hlocks := B.notSynchronized
  subst hsz
  have hD := hD0.self (sz := s.heap.size)
  generalize hAe : va_A [(md, .inr (5, [.int (nI 0), .int (nI R), .int (nI n), .ref mt, .ref mv, .ref mc, .int (oI cu), .int (nI nt), .ref mk, .ref ms, .ref mp, .int (nI cH), .int (nI oH), .int (nI fH), .ref mi, .int (nI lc), .ref mlo, .ref mla, .ref mlb, .int (nI fc), .ref mf, .ref mst, .int (nI my), .ref mr, .ref mh])), (mp, .inl (ct 0, 6, .inl (aN P)))] s.heap.size = A at hD hZ ⊢
  have hA : ∀ q : Nat, s.heap.size ≤ q → A q := fun q h => by rw [← hAe]; exact Or.inr h
  have hS : va_S A s.heap s.heap [] := va_S.rf
  have hP : va_P D vwCl [(md, .inr (5, [.int (nI 0), .int (nI R), .int (nI n), .ref mt, .ref mv, .ref mc, .int (oI cu), .int (nI nt), .ref mk, .ref ms, .ref mp, .int (nI cH), .int (nI oH), .int (nI fH), .ref mi, .int (nI lc), .ref mlo, .ref mla, .ref mlb, .int (nI fc), .ref mf, .ref mst, .int (nI my), .ref mr, .ref mh])), (mp, .inl (ct 0, 6, .inl (aN P)))] s.heap := hP
  have hl := lv_entry ([.ref md, .int (nI o), .int y, .int (nI j)]) (n := 4) (Nat.le_of_ble_eq_true rfl)
  rw [lg_entry_eq]
  generalize (lg_sl ([.ref md, .int (nI o), .int y, .int (nI j)]) ++ List.replicate (4 - (lg_sl ([.ref md, .int (nI o), .int y, .int (nI j)])).length) Slot.unset).toArray = ls at hl ⊢
  have hl : lv_has ls 4 [(0, .ref md), (1, .int (nI o)), (2, .int y), (3, .int (nI j))] := hl
  refine lv_aload_n hx hb dX5_page_0 rfl (lv_at hl 0 rfl) ?_
  refine lv_iconst (v := nI 0) hx hb dX5_page_1 (by decide) ?_
  refine va_put (D := D) (ci := 5) (v := .int (nI 0)) (ty := .int) (C := RX5) (T := TX5) (N := 25) hx hb hts inX5 tyX5 tyX5_ok nmX5 hown hK hP hD hS 0 rfl rfl 0 (by decide) (hts _ w_298) (fun _ h9 => h9) rfl (by decide +kernel) rfl rfl (Nat.le_of_ble_eq_true rfl) dX5_page_2 (fun H locs hP hD hS => ?_)
  have hP : va_P D vwCl [(md, .inr (5, [.int (nI 0), .int (nI R), .int (nI n), .ref mt, .ref mv, .ref mc, .int (oI cu), .int (nI nt), .ref mk, .ref ms, .ref mp, .int (nI cH), .int (nI oH), .int (nI fH), .ref mi, .int (nI lc), .ref mlo, .ref mla, .ref mlb, .int (nI fc), .ref mf, .ref mst, .int (nI my), .ref mr, .ref mh])), (mp, .inl (ct 0, 6, .inl (aN P)))] H := hP
  have hD : va_D A [(md, .inr (5, [.int (nI 0), .int (nI R), .int (nI n), .ref mt, .ref mv, .ref mc, .int (oI cu), .int (nI nt), .ref mk, .ref ms, .ref mp, .int (nI cH), .int (nI oH), .int (nI fH), .ref mi, .int (nI lc), .ref mlo, .ref mla, .ref mlb, .int (nI fc), .ref mf, .ref mst, .int (nI my), .ref mr, .ref mh])), (mp, .inl (ct 0, 6, .inl (aN P)))] := hD
  refine lv_iload_n hx hb dX5_page_5 rfl (lv_at hl 1 rfl) ?_
  refine vp_callSi (va_Run.run (va_runS (As := [.int (nI o)]) (rest := []) ⟨hx, hb, hml, hown, hts⟩ (m_isOrder l D ct (nI o) ) (va_cwS 1 hts (gw_S (fun _ h => h) w_361 w_362 w_30 wcX5_isOrder) rfl rfl rfl hvX5_isOrder.2 ⟨Nat.le_of_ble_eq_true rfl, Nat.le_of_ble_eq_true rfl⟩) (tb_prS hP hK hZ hS [] rfl) rfl rfl hl.1 rfl (lv_room (Nat.le_of_ble_eq_true rfl)) dX5_page_6 ⟨Nat.zero_le _, Nat.zero_le _⟩)) (fun r_6 hr_6 => ?_)
  obtain rfl : r_6 = bB (decide (tRng (nI o) 6)) := hr_6
  refine tb_if_eqB (tgt := 21) hx hb dX5_page_9 (by decide) (fun c9 => ?_) (fun c9 => ?_)
  · exact absurd (tRng_nI ho (by decide)) c9
  · refine lv_iload_n hx hb dX5_page_12 rfl (lv_at hl 3 rfl) ?_
    refine tb_if_lt (tgt := 21) hx hb dX5_page_13 (by decide) (by omega) ?_
    refine lv_iload_n hx hb dX5_page_16 rfl (lv_at hl 3 rfl) ?_
    refine lv_iconst (v := nI 3) hx hb dX5_page_17 (by decide) ?_
    refine tb_icmp_le (tgt := 24) hx hb dX5_page_18 (by decide) (by omega) (by omega) (fun c18 => ?_) (fun c18 => ?_)
    · refine lv_iload_n hx hb dX5_page_24 rfl (lv_at hl 2 rfl) ?_
      refine lv_if_lt (tgt := 38) hx hb dX5_page_25 (by decide) (fun c25 => ?_) (fun c25 => ?_)
      · refine lv_iconst (v := (-1)) hx hb dX5_page_38 (by decide) ?_
        have hP9 : va_P D vwCl [(md, .inr (5, [.int (nI 0), .int (nI R), .int (nI n), .ref mt, .ref mv, .ref mc, .int (oI cu), .int (nI nt), .ref mk, .ref ms, .ref mp, .int (nI cH), .int (nI oH), .int (nI fH), .ref mi, .int (nI lc), .ref mlo, .ref mla, .ref mlb, .int (nI fc), .ref mf, .ref mst, .int (nI my), .ref mr, .ref mh])), (mp, .inl (ct 0, 6, .inl (aN P)))] _ := hP.sub [0, 1] rfl
        have hD9 : va_D A [(md, .inr (5, [.int (nI 0), .int (nI R), .int (nI n), .ref mt, .ref mv, .ref mc, .int (oI cu), .int (nI nt), .ref mk, .ref ms, .ref mp, .int (nI cH), .int (nI oH), .int (nI fH), .ref mi, .int (nI lc), .ref mlo, .ref mla, .ref mlb, .int (nI fc), .ref mf, .ref mst, .int (nI my), .ref mr, .ref mh])), (mp, .inl (ct 0, 6, .inl (aN P)))] := hD.sub [0, 1] (by decide) rfl
        exact W.iret (v := (-1)) hx hb hr (fun t ht hW => ⟨⟨_, (), rfl, rfl, by rw [ht]; exact hP9, hD9⟩, hS.F ht⟩) hS.2.2 dX5_page_39
      · refine lv_iload_n hx hb dX5_page_28 rfl (lv_at hl 2 rfl) ?_
        refine lv_aload_n hx hb dX5_page_29 rfl (lv_at hl 0 rfl) ?_
        refine va_get (D := D) (ci := 5) (v := .ref mp) (C := RX5) (T := TX5) (N := 25) hx hb hts inX5 hown hK hP 0 rfl rfl 10 (by decide) (hts _ w_308) (fun _ h9 => h9) rfl dX5_page_30 ?_
        refine lv_iload_n hx hb dX5_page_33 rfl (lv_at hl 1 rfl) ?_
        refine tb_iald (v := P o) hx hb hK hP 1 0 rfl rfl (by omega) (by omega) rfl dX5_page_34 ?_
        refine lv_icmp_lt (tgt := 40) hx hb dX5_page_35 (by decide) (fun c35 => ?_) (fun c35 => ?_)
        · exact absurd (tRng_of (by omega) c25 (Int32.not_le.mpr c35)) hy
        · refine lv_iconst (v := (-1)) hx hb dX5_page_38 (by decide) ?_
          have hP9 : va_P D vwCl [(md, .inr (5, [.int (nI 0), .int (nI R), .int (nI n), .ref mt, .ref mv, .ref mc, .int (oI cu), .int (nI nt), .ref mk, .ref ms, .ref mp, .int (nI cH), .int (nI oH), .int (nI fH), .ref mi, .int (nI lc), .ref mlo, .ref mla, .ref mlb, .int (nI fc), .ref mf, .ref mst, .int (nI my), .ref mr, .ref mh])), (mp, .inl (ct 0, 6, .inl (aN P)))] _ := hP.sub [0, 1] rfl
          have hD9 : va_D A [(md, .inr (5, [.int (nI 0), .int (nI R), .int (nI n), .ref mt, .ref mv, .ref mc, .int (oI cu), .int (nI nt), .ref mk, .ref ms, .ref mp, .int (nI cH), .int (nI oH), .int (nI fH), .ref mi, .int (nI lc), .ref mlo, .ref mla, .ref mlb, .int (nI fc), .ref mf, .ref mst, .int (nI my), .ref mr, .ref mh])), (mp, .inl (ct 0, 6, .inl (aN P)))] := hD.sub [0, 1] (by decide) rfl
          exact W.iret (v := (-1)) hx hb hr (fun t ht hW => ⟨⟨_, (), rfl, rfl, by rw [ht]; exact hP9, hD9⟩, hS.F ht⟩) hS.2.2 dX5_page_39
    · exfalso; omega

set_option maxHeartbeats 4000000 in
set_option maxRecDepth 100000 in
theorem m_page_len (l : Launch) (D : va_G) (ct : Nat → ClassId) (md : Nat) (R : Nat) (n : Nat) (cu : Option Nat) (nt : Nat) (cH : Nat) (oH : Nat) (fH : Nat) (lc : Nat) (fc : Nat) (my : Nat) (mt : Nat) (mv : Nat) (mc : Nat) (mk : Nat) (ms : Nat) (mp : Nat) (mi : Nat) (mlo : Nat) (mla : Nat) (mlb : Nat) (mf : Nat) (mst : Nat) (mr : Nat) (mh : Nat) (S : Nat → Nat) (P : Nat → Nat) (o : Nat) (i : Nat) (sz : Nat) (ho : o < 6) (hPo : P o ≤ 400) (hk : i < P o) : Met l yX5_page wsX5_page ({ frames := 1, cells := 0, slots := 0, locals := 20 }) (tb_Pw D ct [.ref md, .int (nI o), .int (nI i), .int (nI 0)] sz [(md, .inr (5, [.int (nI 0), .int (nI R), .int (nI n), .ref mt, .ref mv, .ref mc, .int (oI cu), .int (nI nt), .ref mk, .ref ms, .ref mp, .int (nI cH), .int (nI oH), .int (nI fH), .ref mi, .int (nI lc), .ref mlo, .ref mla, .ref mlb, .int (nI fc), .ref mf, .ref mst, .int (nI my), .ref mr, .ref mh])), (ms, .inl (ct 0, 2400, .inl (aN S))), (mp, .inl (ct 0, 6, .inl (aN P)))]) (va_Qi (fun r _ => r = nI (S (400 * o + i))) (tb_B D (va_A [(md, .inr (5, [.int (nI 0), .int (nI R), .int (nI n), .ref mt, .ref mv, .ref mc, .int (oI cu), .int (nI nt), .ref mk, .ref ms, .ref mp, .int (nI cH), .int (nI oH), .int (nI fH), .ref mi, .int (nI lc), .ref mlo, .ref mla, .ref mlb, .int (nI fc), .ref mf, .ref mst, .int (nI my), .ref mr, .ref mh])), (ms, .inl (ct 0, 2400, .inl (aN S))), (mp, .inl (ct 0, 6, .inl (aN P)))] sz) [(md, .inr (5, [.int (nI 0), .int (nI R), .int (nI n), .ref mt, .ref mv, .ref mc, .int (oI cu), .int (nI nt), .ref mk, .ref ms, .ref mp, .int (nI cH), .int (nI oH), .int (nI fH), .ref mi, .int (nI lc), .ref mlo, .ref mla, .ref mlb, .int (nI fc), .ref mf, .ref mst, .int (nI my), .ref mr, .ref mh])), (ms, .inl (ct 0, 2400, .inl (aN S))), (mp, .inl (ct 0, 6, .inl (aN P)))]) (va_A [(md, .inr (5, [.int (nI 0), .int (nI R), .int (nI n), .ref mt, .ref mv, .ref mc, .int (oI cu), .int (nI nt), .ref mk, .ref ms, .ref mp, .int (nI cH), .int (nI oH), .int (nI fH), .ref mi, .int (nI lc), .ref mlo, .ref mla, .ref mlb, .int (nI fc), .ref mf, .ref mst, .int (nI my), .ref mr, .ref mh])), (ms, .inl (ct 0, 2400, .inl (aN S))), (mp, .inl (ct 0, 6, .inl (aN P)))] sz)) 0 0 (va_A [(md, .inr (5, [.int (nI 0), .int (nI R), .int (nI n), .ref mt, .ref mv, .ref mc, .int (oI cu), .int (nI nt), .ref mk, .ref ms, .ref mp, .int (nI cH), .int (nI oH), .int (nI fH), .ref mi, .int (nI lc), .ref mlo, .ref mla, .ref mlb, .int (nI fc), .ref mf, .ref mst, .int (nI my), .ref mr, .ref mh])), (ms, .inl (ct 0, 2400, .inl (aN S))), (mp, .inl (ct 0, 6, .inl (aN P)))] sz) := by
  refine Met.ofW (cc := cX5_page) (maxL := 4) (ret := (some .int)) (by decide) rfl ?_
  intro p e s m args below meth c s₁ B hml hv
  obtain ⟨rfl, hsz, hP, hK, hD0, hZ⟩ := hv
  have hx := B.exec
  have hb := B.bytes
  have hr := B.returns
  have hts0 := atoms_spec (ws := wsX5_page) B.pre
  have hts : ∀ w9 ∈ aw, w9.before ([.ref md, .int (nI o), .int (nI i), .int (nI 0)] : List Value).toArray s = true := fun w9 h9 => hts0 w9 (List.mem_cons_of_mem _ h9)
  have hown : s.vm.findClass RX5 = some m.cls := findClass_of_methodNamed B.named
  have hlocks := B.notSynchronized
  subst hsz
  have hD := hD0.self (sz := s.heap.size)
  generalize hAe : va_A [(md, .inr (5, [.int (nI 0), .int (nI R), .int (nI n), .ref mt, .ref mv, .ref mc, .int (oI cu), .int (nI nt), .ref mk, .ref ms, .ref mp, .int (nI cH), .int (nI oH), .int (nI fH), .ref mi, .int (nI lc), .ref mlo, .ref mla, .ref mlb, .int (nI fc), .ref mf, .ref mst, .int (nI my), .ref mr, .ref mh])), (ms, .inl (ct 0, 2400, .inl (aN S))), (mp, .inl (ct 0, 6, .inl (aN P)))] s.heap.size = A at hD hZ ⊢
  have hA : ∀ q : Nat, s.heap.size ≤ q → A q := fun q h => by rw [← hAe]; exact Or.inr h
  have hS : va_S A s.heap s.heap [] := va_S.rf
  have hP : va_P D vwCl [(md, .inr (5, [.int (nI 0), .int (nI R), .int (nI n), .ref mt, .ref mv, .ref mc, .int (oI cu), .int (nI nt), .ref mk, .ref ms, .ref mp, .int (nI cH), .int (nI oH), .int (nI fH), .ref mi, .int (nI lc), .ref mlo, .ref mla, .ref mlb, .int (nI fc), .ref mf, .ref mst, .int (nI my), .ref mr, .ref mh])), (ms, .inl (ct 0, 2400, .inl (aN S))), (mp, .inl (ct 0, 6, .inl (aN P)))] s.heap := hP
  have hl := lv_entry ([.ref md, .int (nI o), .int (nI i), .int (nI 0)]) (n := 4) (Nat.le_of_ble_eq_true rfl)
  rw [lg_entry_eq]
  generalize (lg_sl ([.ref md, .int (nI o), .int (nI i), .int (nI 0)]) ++ List.replicate (4 - (lg_sl ([.ref md, .int (nI o), .int (nI i), .int (nI 0)])).length) Slot.unset).toArray = ls at hl ⊢
  have hl : lv_has ls 4 [(0, .ref md), (1, .int (nI o)), (2, .int (nI i)), (3, .int (nI 0))] := hl
  refine lv_aload_n hx hb dX5_page_0 rfl (lv_at hl 0 rfl) ?_
  refine lv_iconst (v := nI 0) hx hb dX5_page_1 (by decide) ?_
  refine va_put (D := D) (ci := 5) (v := .int (nI 0)) (ty := .int) (C := RX5) (T := TX5) (N := 25) hx hb hts inX5 tyX5 tyX5_ok nmX5 hown hK hP hD hS 0 rfl rfl 0 (by decide) (hts _ w_298) (fun _ h9 => h9) rfl (by decide +kernel) rfl rfl (Nat.le_of_ble_eq_true rfl) dX5_page_2 (fun H locs hP hD hS => ?_)
  have hP : va_P D vwCl [(md, .inr (5, [.int (nI 0), .int (nI R), .int (nI n), .ref mt, .ref mv, .ref mc, .int (oI cu), .int (nI nt), .ref mk, .ref ms, .ref mp, .int (nI cH), .int (nI oH), .int (nI fH), .ref mi, .int (nI lc), .ref mlo, .ref mla, .ref mlb, .int (nI fc), .ref mf, .ref mst, .int (nI my), .ref mr, .ref mh])), (ms, .inl (ct 0, 2400, .inl (aN S))), (mp, .inl (ct 0, 6, .inl (aN P)))] H := hP
  have hD : va_D A [(md, .inr (5, [.int (nI 0), .int (nI R), .int (nI n), .ref mt, .ref mv, .ref mc, .int (oI cu), .int (nI nt), .ref mk, .ref ms, .ref mp, .int (nI cH), .int (nI oH), .int (nI fH), .ref mi, .int (nI lc), .ref mlo, .ref mla, .ref mlb, .int (nI fc), .ref mf, .ref mst, .int (nI my), .ref mr, .ref mh])), (ms, .inl (ct 0, 2400, .inl (aN S))), (mp, .inl (ct 0, 6, .inl (aN P)))] := hD
  refine lv_iload_n hx hb dX5_page_5 rfl (lv_at hl 1 rfl) ?_
  refine vp_callSi (va_Run.run (va_runS (As := [.int (nI o)]) (rest := []) ⟨hx, hb, hml, hown, hts⟩ (m_isOrder l D ct (nI o) ) (va_cwS 1 hts (gw_S (fun _ h => h) w_361 w_362 w_30 wcX5_isOrder) rfl rfl rfl hvX5_isOrder.2 ⟨Nat.le_of_ble_eq_true rfl, Nat.le_of_ble_eq_true rfl⟩) (tb_prS hP hK hZ hS [] rfl) rfl rfl hl.1 rfl (lv_room (Nat.le_of_ble_eq_true rfl)) dX5_page_6 ⟨Nat.zero_le _, Nat.zero_le _⟩)) (fun r_6 hr_6 => ?_)
  obtain rfl : r_6 = bB (decide (tRng (nI o) 6)) := hr_6
  refine tb_if_eqB (tgt := 21) hx hb dX5_page_9 (by decide) (fun c9 => ?_) (fun c9 => ?_)
  · exact absurd (tRng_nI ho (by decide)) c9
  · refine lv_iload_n hx hb dX5_page_12 rfl (lv_at hl 3 rfl) ?_
    refine tb_if_lt (tgt := 21) hx hb dX5_page_13 (by decide) (by omega) ?_
    refine lv_iload_n hx hb dX5_page_16 rfl (lv_at hl 3 rfl) ?_
    refine lv_iconst (v := nI 3) hx hb dX5_page_17 (by decide) ?_
    refine tb_icmp_le (tgt := 24) hx hb dX5_page_18 (by decide) (by omega) (by omega) (fun c18 => ?_) (fun c18 => ?_)
    · refine lv_iload_n hx hb dX5_page_24 rfl (lv_at hl 2 rfl) ?_
      refine tb_if_lt (tgt := 38) hx hb dX5_page_25 (by decide) (by omega) ?_
      refine lv_iload_n hx hb dX5_page_28 rfl (lv_at hl 2 rfl) ?_
      refine lv_aload_n hx hb dX5_page_29 rfl (lv_at hl 0 rfl) ?_
      refine va_get (D := D) (ci := 5) (v := .ref mp) (C := RX5) (T := TX5) (N := 25) hx hb hts inX5 hown hK hP 0 rfl rfl 10 (by decide) (hts _ w_308) (fun _ h9 => h9) rfl dX5_page_30 ?_
      refine lv_iload_n hx hb dX5_page_33 rfl (lv_at hl 1 rfl) ?_
      refine tb_iald (v := P o) hx hb hK hP 2 0 rfl rfl (by omega) (by omega) rfl dX5_page_34 ?_
      refine tb_icmp_lt (tgt := 40) hx hb dX5_page_35 (by decide) (by omega) (by omega) (fun c35 => ?_) (fun c35 => ?_)
      · refine lv_iload_n hx hb dX5_page_40 rfl (lv_at hl 3 rfl) ?_
        refine tb_if_ne (tgt := 59) hx hb dX5_page_41 (by decide) (by omega) (fun c41 => ?_) (fun c41 => ?_)
        · exact absurd c41 (by decide)
        · refine lv_aload_n hx hb dX5_page_44 rfl (lv_at hl 0 rfl) ?_
          refine va_get (D := D) (ci := 5) (v := .ref ms) (C := RX5) (T := TX5) (N := 25) hx hb hts inX5 hown hK hP 0 rfl rfl 9 (by decide) (hts _ w_307) (fun _ h9 => h9) rfl dX5_page_45 ?_
          refine lv_sipush (v := nI 400) hx hb dX5_page_48 (by decide) ?_
          refine lv_iload_n hx hb dX5_page_51 rfl (lv_at hl 1 rfl) ?_
          refine tb_imul hx hb dX5_page_52 ?_
          refine lv_iload_n hx hb dX5_page_53 rfl (lv_at hl 2 rfl) ?_
          refine tb_iadd hx hb dX5_page_54 ?_
          refine tb_iald (v := S ((400 * o) + i)) hx hb hK hP 1 0 rfl rfl (by omega) (by omega) rfl dX5_page_55 ?_
          refine lv_goto (tgt := 76) hx hb dX5_page_56 (by decide) ?_
          have hP9 : va_P D vwCl [(md, .inr (5, [.int (nI 0), .int (nI R), .int (nI n), .ref mt, .ref mv, .ref mc, .int (oI cu), .int (nI nt), .ref mk, .ref ms, .ref mp, .int (nI cH), .int (nI oH), .int (nI fH), .ref mi, .int (nI lc), .ref mlo, .ref mla, .ref mlb, .int (nI fc), .ref mf, .ref mst, .int (nI my), .ref mr, .ref mh])), (ms, .inl (ct 0, 2400, .inl (aN S))), (mp, .inl (ct 0, 6, .inl (aN P)))] _ := hP.sub [0, 1, 2] rfl
          have hD9 : va_D A [(md, .inr (5, [.int (nI 0), .int (nI R), .int (nI n), .ref mt, .ref mv, .ref mc, .int (oI cu), .int (nI nt), .ref mk, .ref ms, .ref mp, .int (nI cH), .int (nI oH), .int (nI fH), .ref mi, .int (nI lc), .ref mlo, .ref mla, .ref mlb, .int (nI fc), .ref mf, .ref mst, .int (nI my), .ref mr, .ref mh])), (ms, .inl (ct 0, 2400, .inl (aN S))), (mp, .inl (ct 0, 6, .inl (aN P)))] := hD.sub [0, 1, 2] (by decide) rfl
          exact W.iret (v := nI (S ((400 * o) + i))) hx hb hr (fun t ht hW => ⟨⟨_, (), rfl, rfl, by rw [ht]; exact hP9, hD9⟩, hS.F ht⟩) hS.2.2 dX5_page_76
      · exfalso; omega
    · exfalso; omega

set_option maxHeartbeats 4000000 in
set_option maxRecDepth 100000 in
theorem m_page_term (l : Launch) (D : va_G) (ct : Nat → ClassId) (md : Nat) (R : Nat) (n : Nat) (cu : Option Nat) (nt : Nat) (cH : Nat) (oH : Nat) (fH : Nat) (lc : Nat) (fc : Nat) (my : Nat) (mt : Nat) (mv : Nat) (mc : Nat) (mk : Nat) (ms : Nat) (mp : Nat) (mi : Nat) (mlo : Nat) (mla : Nat) (mlb : Nat) (mf : Nat) (mst : Nat) (mr : Nat) (mh : Nat) (K : Nat → Nat) (S : Nat → Nat) (P : Nat → Nat) (o : Nat) (i : Nat) (j : Nat) (sz : Nat) (ho : o < 6) (hPo : P o ≤ 400) (hsum : tSum (fun j => S (400 * o + j)) (P o) = nt) (hnt : nt ≤ 400) (hk : i < P o) (hj : 0 < j) (hj2 : j < 4) (hKb : ∀ j, K j < 2 ^ 31) (hpos : 0 < S (400 * o + i)) : Met l yX5_page wsX5_page ({ frames := 1, cells := 0, slots := 0, locals := 24 }) (tb_Pw D ct [.ref md, .int (nI o), .int (nI i), .int (nI j)] sz [(md, .inr (5, [.int (nI 0), .int (nI R), .int (nI n), .ref mt, .ref mv, .ref mc, .int (oI cu), .int (nI nt), .ref mk, .ref ms, .ref mp, .int (nI cH), .int (nI oH), .int (nI fH), .ref mi, .int (nI lc), .ref mlo, .ref mla, .ref mlb, .int (nI fc), .ref mf, .ref mst, .int (nI my), .ref mr, .ref mh])), (mk, .inl (ct 0, 2400, .inl (aN K))), (ms, .inl (ct 0, 2400, .inl (aN S))), (mp, .inl (ct 0, 6, .inl (aN P)))]) (va_Qi (fun r _ => r = nI (tTerm (K (400 * o + tSum (fun j => S (400 * o + j)) i)) (j - 1))) (tb_B D (va_A [(md, .inr (5, [.int (nI 0), .int (nI R), .int (nI n), .ref mt, .ref mv, .ref mc, .int (oI cu), .int (nI nt), .ref mk, .ref ms, .ref mp, .int (nI cH), .int (nI oH), .int (nI fH), .ref mi, .int (nI lc), .ref mlo, .ref mla, .ref mlb, .int (nI fc), .ref mf, .ref mst, .int (nI my), .ref mr, .ref mh])), (mk, .inl (ct 0, 2400, .inl (aN K))), (ms, .inl (ct 0, 2400, .inl (aN S))), (mp, .inl (ct 0, 6, .inl (aN P)))] sz) [(md, .inr (5, [.int (nI 0), .int (nI R), .int (nI n), .ref mt, .ref mv, .ref mc, .int (oI cu), .int (nI nt), .ref mk, .ref ms, .ref mp, .int (nI cH), .int (nI oH), .int (nI fH), .ref mi, .int (nI lc), .ref mlo, .ref mla, .ref mlb, .int (nI fc), .ref mf, .ref mst, .int (nI my), .ref mr, .ref mh])), (mk, .inl (ct 0, 2400, .inl (aN K))), (ms, .inl (ct 0, 2400, .inl (aN S))), (mp, .inl (ct 0, 6, .inl (aN P)))]) (va_A [(md, .inr (5, [.int (nI 0), .int (nI R), .int (nI n), .ref mt, .ref mv, .ref mc, .int (oI cu), .int (nI nt), .ref mk, .ref ms, .ref mp, .int (nI cH), .int (nI oH), .int (nI fH), .ref mi, .int (nI lc), .ref mlo, .ref mla, .ref mlb, .int (nI fc), .ref mf, .ref mst, .int (nI my), .ref mr, .ref mh])), (mk, .inl (ct 0, 2400, .inl (aN K))), (ms, .inl (ct 0, 2400, .inl (aN S))), (mp, .inl (ct 0, 6, .inl (aN P)))] sz)) 0 0 (va_A [(md, .inr (5, [.int (nI 0), .int (nI R), .int (nI n), .ref mt, .ref mv, .ref mc, .int (oI cu), .int (nI nt), .ref mk, .ref ms, .ref mp, .int (nI cH), .int (nI oH), .int (nI fH), .ref mi, .int (nI lc), .ref mlo, .ref mla, .ref mlb, .int (nI fc), .ref mf, .ref mst, .int (nI my), .ref mr, .ref mh])), (mk, .inl (ct 0, 2400, .inl (aN K))), (ms, .inl (ct 0, 2400, .inl (aN S))), (mp, .inl (ct 0, 6, .inl (aN P)))] sz) := by
  refine Met.ofW (cc := cX5_page) (maxL := 4) (ret := (some .int)) (by decide) rfl ?_
  intro p e s m args below meth c s₁ B hml hv
  obtain ⟨rfl, hsz, hP, hK, hD0, hZ⟩ := hv
  have hx := B.exec
  have hb := B.bytes
  have hr := B.returns
  have hts0 := atoms_spec (ws := wsX5_page) B.pre
  have hts : ∀ w9 ∈ aw, w9.before ([.ref md, .int (nI o), .int (nI i), .int (nI j)] : List Value).toArray s = true := fun w9 h9 => hts0 w9 (List.mem_cons_of_mem _ h9)
  have hown : s.vm.findClass RX5 = some m.cls := findClass_of_methodNamed B.named
  have hlocks := B.notSynchronized
  subst hsz
  have hD := hD0.self (sz := s.heap.size)
  generalize hAe : va_A [(md, .inr (5, [.int (nI 0), .int (nI R), .int (nI n), .ref mt, .ref mv, .ref mc, .int (oI cu), .int (nI nt), .ref mk, .ref ms, .ref mp, .int (nI cH), .int (nI oH), .int (nI fH), .ref mi, .int (nI lc), .ref mlo, .ref mla, .ref mlb, .int (nI fc), .ref mf, .ref mst, .int (nI my), .ref mr, .ref mh])), (mk, .inl (ct 0, 2400, .inl (aN K))), (ms, .inl (ct 0, 2400, .inl (aN S))), (mp, .inl (ct 0, 6, .inl (aN P)))] s.heap.size = A at hD hZ ⊢
  have hA : ∀ q : Nat, s.heap.size ≤ q → A q := fun q h => by rw [← hAe]; exact Or.inr h
  have hS : va_S A s.heap s.heap [] := va_S.rf
  have hP : va_P D vwCl [(md, .inr (5, [.int (nI 0), .int (nI R), .int (nI n), .ref mt, .ref mv, .ref mc, .int (oI cu), .int (nI nt), .ref mk, .ref ms, .ref mp, .int (nI cH), .int (nI oH), .int (nI fH), .ref mi, .int (nI lc), .ref mlo, .ref mla, .ref mlb, .int (nI fc), .ref mf, .ref mst, .int (nI my), .ref mr, .ref mh])), (mk, .inl (ct 0, 2400, .inl (aN K))), (ms, .inl (ct 0, 2400, .inl (aN S))), (mp, .inl (ct 0, 6, .inl (aN P)))] s.heap := hP
  have hl := lv_entry ([.ref md, .int (nI o), .int (nI i), .int (nI j)]) (n := 4) (Nat.le_of_ble_eq_true rfl)
  rw [lg_entry_eq]
  generalize (lg_sl ([.ref md, .int (nI o), .int (nI i), .int (nI j)]) ++ List.replicate (4 - (lg_sl ([.ref md, .int (nI o), .int (nI i), .int (nI j)])).length) Slot.unset).toArray = ls at hl ⊢
  have hl : lv_has ls 4 [(0, .ref md), (1, .int (nI o)), (2, .int (nI i)), (3, .int (nI j))] := hl
  have hl9 := tSum_le_of (fun j => S (400 * o + j)) (show i + 1 ≤ P o by omega)
  rw [hsum, tSum] at hl9
  try dsimp only at hl9
  refine lv_aload_n hx hb dX5_page_0 rfl (lv_at hl 0 rfl) ?_
  refine lv_iconst (v := nI 0) hx hb dX5_page_1 (by decide) ?_
  refine va_put (D := D) (ci := 5) (v := .int (nI 0)) (ty := .int) (C := RX5) (T := TX5) (N := 25) hx hb hts inX5 tyX5 tyX5_ok nmX5 hown hK hP hD hS 0 rfl rfl 0 (by decide) (hts _ w_298) (fun _ h9 => h9) rfl (by decide +kernel) rfl rfl (Nat.le_of_ble_eq_true rfl) dX5_page_2 (fun H locs hP hD hS => ?_)
  have hP : va_P D vwCl [(md, .inr (5, [.int (nI 0), .int (nI R), .int (nI n), .ref mt, .ref mv, .ref mc, .int (oI cu), .int (nI nt), .ref mk, .ref ms, .ref mp, .int (nI cH), .int (nI oH), .int (nI fH), .ref mi, .int (nI lc), .ref mlo, .ref mla, .ref mlb, .int (nI fc), .ref mf, .ref mst, .int (nI my), .ref mr, .ref mh])), (mk, .inl (ct 0, 2400, .inl (aN K))), (ms, .inl (ct 0, 2400, .inl (aN S))), (mp, .inl (ct 0, 6, .inl (aN P)))] H := hP
  have hD : va_D A [(md, .inr (5, [.int (nI 0), .int (nI R), .int (nI n), .ref mt, .ref mv, .ref mc, .int (oI cu), .int (nI nt), .ref mk, .ref ms, .ref mp, .int (nI cH), .int (nI oH), .int (nI fH), .ref mi, .int (nI lc), .ref mlo, .ref mla, .ref mlb, .int (nI fc), .ref mf, .ref mst, .int (nI my), .ref mr, .ref mh])), (mk, .inl (ct 0, 2400, .inl (aN K))), (ms, .inl (ct 0, 2400, .inl (aN S))), (mp, .inl (ct 0, 6, .inl (aN P)))] := hD
  refine lv_iload_n hx hb dX5_page_5 rfl (lv_at hl 1 rfl) ?_
  refine vp_callSi (va_Run.run (va_runS (As := [.int (nI o)]) (rest := []) ⟨hx, hb, hml, hown, hts⟩ (m_isOrder l D ct (nI o) ) (va_cwS 1 hts (gw_S (fun _ h => h) w_361 w_362 w_30 wcX5_isOrder) rfl rfl rfl hvX5_isOrder.2 ⟨Nat.le_of_ble_eq_true rfl, Nat.le_of_ble_eq_true rfl⟩) (tb_prS hP hK hZ hS [] rfl) rfl rfl hl.1 rfl (lv_room (Nat.le_of_ble_eq_true rfl)) dX5_page_6 ⟨Nat.zero_le _, Nat.zero_le _⟩)) (fun r_6 hr_6 => ?_)
  obtain rfl : r_6 = bB (decide (tRng (nI o) 6)) := hr_6
  refine tb_if_eqB (tgt := 21) hx hb dX5_page_9 (by decide) (fun c9 => ?_) (fun c9 => ?_)
  · exact absurd (tRng_nI ho (by decide)) c9
  · refine lv_iload_n hx hb dX5_page_12 rfl (lv_at hl 3 rfl) ?_
    refine tb_if_lt (tgt := 21) hx hb dX5_page_13 (by decide) (by omega) ?_
    refine lv_iload_n hx hb dX5_page_16 rfl (lv_at hl 3 rfl) ?_
    refine lv_iconst (v := nI 3) hx hb dX5_page_17 (by decide) ?_
    refine tb_icmp_le (tgt := 24) hx hb dX5_page_18 (by decide) (by omega) (by omega) (fun c18 => ?_) (fun c18 => ?_)
    · refine lv_iload_n hx hb dX5_page_24 rfl (lv_at hl 2 rfl) ?_
      refine tb_if_lt (tgt := 38) hx hb dX5_page_25 (by decide) (by omega) ?_
      refine lv_iload_n hx hb dX5_page_28 rfl (lv_at hl 2 rfl) ?_
      refine lv_aload_n hx hb dX5_page_29 rfl (lv_at hl 0 rfl) ?_
      refine va_get (D := D) (ci := 5) (v := .ref mp) (C := RX5) (T := TX5) (N := 25) hx hb hts inX5 hown hK hP 0 rfl rfl 10 (by decide) (hts _ w_308) (fun _ h9 => h9) rfl dX5_page_30 ?_
      refine lv_iload_n hx hb dX5_page_33 rfl (lv_at hl 1 rfl) ?_
      refine tb_iald (v := P o) hx hb hK hP 3 0 rfl rfl (by omega) (by omega) rfl dX5_page_34 ?_
      refine tb_icmp_lt (tgt := 40) hx hb dX5_page_35 (by decide) (by omega) (by omega) (fun c35 => ?_) (fun c35 => ?_)
      · refine lv_iload_n hx hb dX5_page_40 rfl (lv_at hl 3 rfl) ?_
        refine tb_if_ne (tgt := 59) hx hb dX5_page_41 (by decide) (by omega) (fun c41 => ?_) (fun c41 => ?_)
        · refine lv_aload_n hx hb dX5_page_59 rfl (lv_at hl 0 rfl) ?_
          refine va_get (D := D) (ci := 5) (v := .ref mk) (C := RX5) (T := TX5) (N := 25) hx hb hts inX5 hown hK hP 0 rfl rfl 8 (by decide) (hts _ w_306) (fun _ h9 => h9) rfl dX5_page_60 ?_
          refine lv_aload_n hx hb dX5_page_63 rfl (lv_at hl 0 rfl) ?_
          refine lv_iload_n hx hb dX5_page_64 rfl (lv_at hl 1 rfl) ?_
          refine lv_iload_n hx hb dX5_page_65 rfl (lv_at hl 2 rfl) ?_
          refine vp_callSi (va_Run.run (va_runV (As := [.int (nI o), .int (nI i)]) (rest := [.ref mk]) ⟨hx, hb, hml, hown, hts⟩ (m_begin l D ct md R n cu nt cH oH fH lc fc my mt mv mc mk ms mp mi mlo mla mlb mf mst mr mh S o i ho (by omega)) (cwV 2 hts (gw_V (fun _ h => h) w_400 w_401 w_0 w_30 wcX5_begin) rfl rfl rfl hvX5_begin ⟨Nat.le_of_ble_eq_true rfl, Nat.le_of_ble_eq_true rfl⟩) (tb_prV hP hK hZ hS [0, 2] rfl (ci := 5) (q0 := 0) rfl rfl) rfl rfl hl.1 rfl (lv_room (Nat.le_of_ble_eq_true rfl)) dX5_page_66 ⟨Nat.zero_le _, Nat.zero_le _⟩)) (fun r_66 hr_66 => ?_)
          obtain rfl : r_66 = nI (400 * o + tSum (fun i => S (400 * o + i)) i) := hr_66
          refine tb_iald (v := K (400 * o + tSum (fun i => S (400 * o + i)) i)) hx hb hK hP 1 0 rfl rfl (by omega) (by omega) rfl dX5_page_69 ?_
          refine lv_iload_n hx hb dX5_page_70 rfl (lv_at hl 3 rfl) ?_
          refine lv_iconst (v := nI 1) hx hb dX5_page_71 (by decide) ?_
          refine tb_isub hx hb dX5_page_72 (by omega) ?_
          refine vp_callSi (va_Run.run (va_runS (As := [.int (nI (K (400 * o + tSum (fun i => S (400 * o + i)) i))), .int (nI (j - 1))]) (rest := []) ⟨hx, hb, hml, hown, hts⟩ (m_digits l D ct (K (400 * o + tSum (fun i => S (400 * o + i)) i)) (j - 1) (hKb _) (by omega)) (va_cwS 2 hts (gw_S (fun _ h => h) w_342 w_343 w_30 wcX5_digits) rfl rfl rfl hvX5_digits.2 ⟨Nat.le_of_ble_eq_true rfl, Nat.le_of_ble_eq_true rfl⟩) (tb_prS hP hK hZ hS [] rfl) rfl rfl hl.1 rfl (lv_room (Nat.le_of_ble_eq_true rfl)) dX5_page_73 ⟨Nat.zero_le _, Nat.zero_le _⟩)) (fun r_73 hr_73 => ?_)
          obtain rfl : r_73 = nI (tTerm (K (400 * o + tSum (fun i => S (400 * o + i)) i)) (j - 1)) := hr_73
          have hP9 : va_P D vwCl [(md, .inr (5, [.int (nI 0), .int (nI R), .int (nI n), .ref mt, .ref mv, .ref mc, .int (oI cu), .int (nI nt), .ref mk, .ref ms, .ref mp, .int (nI cH), .int (nI oH), .int (nI fH), .ref mi, .int (nI lc), .ref mlo, .ref mla, .ref mlb, .int (nI fc), .ref mf, .ref mst, .int (nI my), .ref mr, .ref mh])), (mk, .inl (ct 0, 2400, .inl (aN K))), (ms, .inl (ct 0, 2400, .inl (aN S))), (mp, .inl (ct 0, 6, .inl (aN P)))] _ := hP.sub [0, 1, 2, 3] rfl
          have hD9 : va_D A [(md, .inr (5, [.int (nI 0), .int (nI R), .int (nI n), .ref mt, .ref mv, .ref mc, .int (oI cu), .int (nI nt), .ref mk, .ref ms, .ref mp, .int (nI cH), .int (nI oH), .int (nI fH), .ref mi, .int (nI lc), .ref mlo, .ref mla, .ref mlb, .int (nI fc), .ref mf, .ref mst, .int (nI my), .ref mr, .ref mh])), (mk, .inl (ct 0, 2400, .inl (aN K))), (ms, .inl (ct 0, 2400, .inl (aN S))), (mp, .inl (ct 0, 6, .inl (aN P)))] := hD.sub [0, 1, 2, 3] (by decide) rfl
          exact W.iret (v := nI (tTerm (K (400 * o + tSum (fun i => S (400 * o + i)) i)) (j - 1))) hx hb hr (fun t ht hW => ⟨⟨_, (), rfl, rfl, by rw [ht]; exact hP9, hD9⟩, hS.F ht⟩) hS.2.2 dX5_page_76
        · exfalso; omega
      · exfalso; omega
    · exfalso; omega

set_option maxHeartbeats 4000000 in
set_option maxRecDepth 100000 in
theorem m_mark_bad (l : Launch) (D : va_G) (ct : Nat → ClassId) (md : Nat) (R : Nat) (n : Nat) (cu : Option Nat) (nt : Nat) (cH : Nat) (oH : Nat) (fH : Nat) (lc : Nat) (fc : Nat) (my : Nat) (mt : Nat) (mv : Nat) (mc : Nat) (mk : Nat) (ms : Nat) (mp : Nat) (mi : Nat) (mlo : Nat) (mla : Nat) (mlb : Nat) (mf : Nat) (mst : Nat) (mr : Nat) (mh : Nat) (x : Int32) (y : Int32) (sz : Nat) (hbad : ¬ tRng x 6) : Met l yX5_mark wsX5_mark ({ frames := 1, cells := 0, slots := 0, locals := 20 }) (tb_Pw D ct [.ref md, .int x, .int y] sz [(md, .inr (5, [.int (nI 0), .int (nI R), .int (nI n), .ref mt, .ref mv, .ref mc, .int (oI cu), .int (nI nt), .ref mk, .ref ms, .ref mp, .int (nI cH), .int (nI oH), .int (nI fH), .ref mi, .int (nI lc), .ref mlo, .ref mla, .ref mlb, .int (nI fc), .ref mf, .ref mst, .int (nI my), .ref mr, .ref mh]))]) (va_Qi (fun r _ => r = nI 0) (tb_B D (va_A [(md, .inr (5, [.int (nI 0), .int (nI R), .int (nI n), .ref mt, .ref mv, .ref mc, .int (oI cu), .int (nI nt), .ref mk, .ref ms, .ref mp, .int (nI cH), .int (nI oH), .int (nI fH), .ref mi, .int (nI lc), .ref mlo, .ref mla, .ref mlb, .int (nI fc), .ref mf, .ref mst, .int (nI my), .ref mr, .ref mh]))] sz) [(md, .inr (5, [.int (nI 0), .int (nI R), .int (nI n), .ref mt, .ref mv, .ref mc, .int (oI cu), .int (nI nt), .ref mk, .ref ms, .ref mp, .int (nI cH), .int (nI oH), .int (nI fH), .ref mi, .int (nI lc), .ref mlo, .ref mla, .ref mlb, .int (nI fc), .ref mf, .ref mst, .int (nI my), .ref mr, .ref mh]))]) (va_A [(md, .inr (5, [.int (nI 0), .int (nI R), .int (nI n), .ref mt, .ref mv, .ref mc, .int (oI cu), .int (nI nt), .ref mk, .ref ms, .ref mp, .int (nI cH), .int (nI oH), .int (nI fH), .ref mi, .int (nI lc), .ref mlo, .ref mla, .ref mlb, .int (nI fc), .ref mf, .ref mst, .int (nI my), .ref mr, .ref mh]))] sz)) 0 0 (va_A [(md, .inr (5, [.int (nI 0), .int (nI R), .int (nI n), .ref mt, .ref mv, .ref mc, .int (oI cu), .int (nI nt), .ref mk, .ref ms, .ref mp, .int (nI cH), .int (nI oH), .int (nI fH), .ref mi, .int (nI lc), .ref mlo, .ref mla, .ref mlb, .int (nI fc), .ref mf, .ref mst, .int (nI my), .ref mr, .ref mh]))] sz) := by
  refine Met.ofW (cc := cX5_mark) (maxL := 8) (ret := (some .int)) (by decide) rfl ?_
  intro p e s m args below meth c s₁ B hml hv
  obtain ⟨rfl, hsz, hP, hK, hD0, hZ⟩ := hv
  have hx := B.exec
  have hb := B.bytes
  have hr := B.returns
  have hts0 := atoms_spec (ws := wsX5_mark) B.pre
  have hts : ∀ w9 ∈ aw, w9.before ([.ref md, .int x, .int y] : List Value).toArray s = true := fun w9 h9 => hts0 w9 (List.mem_cons_of_mem _ h9)
  have hown : s.vm.findClass RX5 = some m.cls := findClass_of_methodNamed B.named
  have hlocks := B.notSynchronized
  subst hsz
  have hD := hD0.self (sz := s.heap.size)
  generalize hAe : va_A [(md, .inr (5, [.int (nI 0), .int (nI R), .int (nI n), .ref mt, .ref mv, .ref mc, .int (oI cu), .int (nI nt), .ref mk, .ref ms, .ref mp, .int (nI cH), .int (nI oH), .int (nI fH), .ref mi, .int (nI lc), .ref mlo, .ref mla, .ref mlb, .int (nI fc), .ref mf, .ref mst, .int (nI my), .ref mr, .ref mh]))] s.heap.size = A at hD hZ ⊢
  have hA : ∀ q : Nat, s.heap.size ≤ q → A q := fun q h => by rw [← hAe]; exact Or.inr h
  have hS : va_S A s.heap s.heap [] := va_S.rf
  have hP : va_P D vwCl [(md, .inr (5, [.int (nI 0), .int (nI R), .int (nI n), .ref mt, .ref mv, .ref mc, .int (oI cu), .int (nI nt), .ref mk, .ref ms, .ref mp, .int (nI cH), .int (nI oH), .int (nI fH), .ref mi, .int (nI lc), .ref mlo, .ref mla, .ref mlb, .int (nI fc), .ref mf, .ref mst, .int (nI my), .ref mr, .ref mh]))] s.heap := hP
  have hl := lv_entry ([.ref md, .int x, .int y]) (n := 8) (Nat.le_of_ble_eq_true rfl)
  rw [lg_entry_eq]
  generalize (lg_sl ([.ref md, .int x, .int y]) ++ List.replicate (8 - (lg_sl ([.ref md, .int x, .int y])).length) Slot.unset).toArray = ls at hl ⊢
  have hl : lv_has ls 8 [(0, .ref md), (1, .int x), (2, .int y)] := hl
  refine lv_aload_n hx hb dX5_mark_0 rfl (lv_at hl 0 rfl) ?_
  refine lv_iconst (v := nI 0) hx hb dX5_mark_1 (by decide) ?_
  refine va_put (D := D) (ci := 5) (v := .int (nI 0)) (ty := .int) (C := RX5) (T := TX5) (N := 25) hx hb hts inX5 tyX5 tyX5_ok nmX5 hown hK hP hD hS 0 rfl rfl 0 (by decide) (hts _ w_298) (fun _ h9 => h9) rfl (by decide +kernel) rfl rfl (Nat.le_of_ble_eq_true rfl) dX5_mark_2 (fun H locs hP hD hS => ?_)
  have hP : va_P D vwCl [(md, .inr (5, [.int (nI 0), .int (nI R), .int (nI n), .ref mt, .ref mv, .ref mc, .int (oI cu), .int (nI nt), .ref mk, .ref ms, .ref mp, .int (nI cH), .int (nI oH), .int (nI fH), .ref mi, .int (nI lc), .ref mlo, .ref mla, .ref mlb, .int (nI fc), .ref mf, .ref mst, .int (nI my), .ref mr, .ref mh]))] H := hP
  have hD : va_D A [(md, .inr (5, [.int (nI 0), .int (nI R), .int (nI n), .ref mt, .ref mv, .ref mc, .int (oI cu), .int (nI nt), .ref mk, .ref ms, .ref mp, .int (nI cH), .int (nI oH), .int (nI fH), .ref mi, .int (nI lc), .ref mlo, .ref mla, .ref mlb, .int (nI fc), .ref mf, .ref mst, .int (nI my), .ref mr, .ref mh]))] := hD
  refine lv_iload_n hx hb dX5_mark_5 rfl (lv_at hl 1 rfl) ?_
  refine vp_callSi (va_Run.run (va_runS (As := [.int x]) (rest := []) ⟨hx, hb, hml, hown, hts⟩ (m_isOrder l D ct x ) (va_cwS 1 hts (gw_S (fun _ h => h) w_361 w_362 w_30 wcX5_isOrder) rfl rfl rfl hvX5_isOrder.2 ⟨Nat.le_of_ble_eq_true rfl, Nat.le_of_ble_eq_true rfl⟩) (tb_prS hP hK hZ hS [] rfl) rfl rfl hl.1 rfl (lv_room (Nat.le_of_ble_eq_true rfl)) dX5_mark_6 ⟨Nat.zero_le _, Nat.zero_le _⟩)) (fun r_6 hr_6 => ?_)
  obtain rfl : r_6 = bB (decide (tRng x 6)) := hr_6
  refine tb_if_eqB (tgt := 26) hx hb dX5_mark_9 (by decide) (fun c9 => ?_) (fun c9 => ?_)
  · refine lv_iconst (v := nI 0) hx hb dX5_mark_26 (by decide) ?_
    have hP9 : va_P D vwCl [(md, .inr (5, [.int (nI 0), .int (nI R), .int (nI n), .ref mt, .ref mv, .ref mc, .int (oI cu), .int (nI nt), .ref mk, .ref ms, .ref mp, .int (nI cH), .int (nI oH), .int (nI fH), .ref mi, .int (nI lc), .ref mlo, .ref mla, .ref mlb, .int (nI fc), .ref mf, .ref mst, .int (nI my), .ref mr, .ref mh]))] _ := hP.sub [0] rfl
    have hD9 : va_D A [(md, .inr (5, [.int (nI 0), .int (nI R), .int (nI n), .ref mt, .ref mv, .ref mc, .int (oI cu), .int (nI nt), .ref mk, .ref ms, .ref mp, .int (nI cH), .int (nI oH), .int (nI fH), .ref mi, .int (nI lc), .ref mlo, .ref mla, .ref mlb, .int (nI fc), .ref mf, .ref mst, .int (nI my), .ref mr, .ref mh]))] := hD.sub [0] (by decide) rfl
    exact W.iret (v := nI 0) hx hb hr (fun t ht hW => ⟨⟨_, (), rfl, rfl, by rw [ht]; exact hP9, hD9⟩, hS.F ht⟩) hS.2.2 dX5_mark_27
  · exact absurd c9 hbad

set_option maxHeartbeats 4000000 in
set_option maxRecDepth 100000 in
theorem m_mark_none (l : Launch) (D : va_G) (ct : Nat → ClassId) (md : Nat) (R : Nat) (n : Nat) (cu : Option Nat) (nt : Nat) (cH : Nat) (oH : Nat) (fH : Nat) (lc : Nat) (fc : Nat) (my : Nat) (mt : Nat) (mv : Nat) (mc : Nat) (mk : Nat) (ms : Nat) (mp : Nat) (mi : Nat) (mlo : Nat) (mla : Nat) (mlb : Nat) (mf : Nat) (mst : Nat) (mr : Nat) (mh : Nat) (P : Nat → Nat) (o : Nat) (y : Int32) (sz : Nat) (ho : o < 6) (hPo : P o ≤ 400) (hy : ¬ tRng y (P o)) : Met l yX5_mark wsX5_mark ({ frames := 1, cells := 0, slots := 0, locals := 20 }) (tb_Pw D ct [.ref md, .int (nI o), .int y] sz [(md, .inr (5, [.int (nI 0), .int (nI R), .int (nI n), .ref mt, .ref mv, .ref mc, .int (oI cu), .int (nI nt), .ref mk, .ref ms, .ref mp, .int (nI cH), .int (nI oH), .int (nI fH), .ref mi, .int (nI lc), .ref mlo, .ref mla, .ref mlb, .int (nI fc), .ref mf, .ref mst, .int (nI my), .ref mr, .ref mh])), (mp, .inl (ct 0, 6, .inl (aN P)))]) (va_Qi (fun r _ => r = nI 0) (tb_B D (va_A [(md, .inr (5, [.int (nI 0), .int (nI R), .int (nI n), .ref mt, .ref mv, .ref mc, .int (oI cu), .int (nI nt), .ref mk, .ref ms, .ref mp, .int (nI cH), .int (nI oH), .int (nI fH), .ref mi, .int (nI lc), .ref mlo, .ref mla, .ref mlb, .int (nI fc), .ref mf, .ref mst, .int (nI my), .ref mr, .ref mh])), (mp, .inl (ct 0, 6, .inl (aN P)))] sz) [(md, .inr (5, [.int (nI 0), .int (nI R), .int (nI n), .ref mt, .ref mv, .ref mc, .int (oI cu), .int (nI nt), .ref mk, .ref ms, .ref mp, .int (nI cH), .int (nI oH), .int (nI fH), .ref mi, .int (nI lc), .ref mlo, .ref mla, .ref mlb, .int (nI fc), .ref mf, .ref mst, .int (nI my), .ref mr, .ref mh])), (mp, .inl (ct 0, 6, .inl (aN P)))]) (va_A [(md, .inr (5, [.int (nI 0), .int (nI R), .int (nI n), .ref mt, .ref mv, .ref mc, .int (oI cu), .int (nI nt), .ref mk, .ref ms, .ref mp, .int (nI cH), .int (nI oH), .int (nI fH), .ref mi, .int (nI lc), .ref mlo, .ref mla, .ref mlb, .int (nI fc), .ref mf, .ref mst, .int (nI my), .ref mr, .ref mh])), (mp, .inl (ct 0, 6, .inl (aN P)))] sz)) 0 0 (va_A [(md, .inr (5, [.int (nI 0), .int (nI R), .int (nI n), .ref mt, .ref mv, .ref mc, .int (oI cu), .int (nI nt), .ref mk, .ref ms, .ref mp, .int (nI cH), .int (nI oH), .int (nI fH), .ref mi, .int (nI lc), .ref mlo, .ref mla, .ref mlb, .int (nI fc), .ref mf, .ref mst, .int (nI my), .ref mr, .ref mh])), (mp, .inl (ct 0, 6, .inl (aN P)))] sz) := by
  refine Met.ofW (cc := cX5_mark) (maxL := 8) (ret := (some .int)) (by decide) rfl ?_
  intro p e s m args below meth c s₁ B hml hv
  obtain ⟨rfl, hsz, hP, hK, hD0, hZ⟩ := hv
  have hx := B.exec
  have hb := B.bytes
  have hr := B.returns
  have hts0 := atoms_spec (ws := wsX5_mark) B.pre
  have hts : ∀ w9 ∈ aw, w9.before ([.ref md, .int (nI o), .int y] : List Value).toArray s = true := fun w9 h9 => hts0 w9 (List.mem_cons_of_mem _ h9)
  have hown : s.vm.findClass RX5 = some m.cls := findClass_of_methodNamed B.named
  have hlocks := B.notSynchronized
  subst hsz
  have hD := hD0.self (sz := s.heap.size)
  generalize hAe : va_A [(md, .inr (5, [.int (nI 0), .int (nI R), .int (nI n), .ref mt, .ref mv, .ref mc, .int (oI cu), .int (nI nt), .ref mk, .ref ms, .ref mp, .int (nI cH), .int (nI oH), .int (nI fH), .ref mi, .int (nI lc), .ref mlo, .ref mla, .ref mlb, .int (nI fc), .ref mf, .ref mst, .int (nI my), .ref mr, .ref mh])), (mp, .inl (ct 0, 6, .inl (aN P)))] s.heap.size = A at hD hZ ⊢
  have hA : ∀ q : Nat, s.heap.size ≤ q → A q := fun q h => by rw [← hAe]; exact Or.inr h
  have hS : va_S A s.heap s.heap [] := va_S.rf
  have hP : va_P D vwCl [(md, .inr (5, [.int (nI 0), .int (nI R), .int (nI n), .ref mt, .ref mv, .ref mc, .int (oI cu), .int (nI nt), .ref mk, .ref ms, .ref mp, .int (nI cH), .int (nI oH), .int (nI fH), .ref mi, .int (nI lc), .ref mlo, .ref mla, .ref mlb, .int (nI fc), .ref mf, .ref mst, .int (nI my), .ref mr, .ref mh])), (mp, .inl (ct 0, 6, .inl (aN P)))] s.heap := hP
  have hl := lv_entry ([.ref md, .int (nI o), .int y]) (n := 8) (Nat.le_of_ble_eq_true rfl)
  rw [lg_entry_eq]
  generalize (lg_sl ([.ref md, .int (nI o), .int y]) ++ List.replicate (8 - (lg_sl ([.ref md, .int (nI o), .int y])).length) Slot.unset).toArray = ls at hl ⊢
  have hl : lv_has ls 8 [(0, .ref md), (1, .int (nI o)), (2, .int y)] := hl
  refine lv_aload_n hx hb dX5_mark_0 rfl (lv_at hl 0 rfl) ?_
  refine lv_iconst (v := nI 0) hx hb dX5_mark_1 (by decide) ?_
  refine va_put (D := D) (ci := 5) (v := .int (nI 0)) (ty := .int) (C := RX5) (T := TX5) (N := 25) hx hb hts inX5 tyX5 tyX5_ok nmX5 hown hK hP hD hS 0 rfl rfl 0 (by decide) (hts _ w_298) (fun _ h9 => h9) rfl (by decide +kernel) rfl rfl (Nat.le_of_ble_eq_true rfl) dX5_mark_2 (fun H locs hP hD hS => ?_)
  have hP : va_P D vwCl [(md, .inr (5, [.int (nI 0), .int (nI R), .int (nI n), .ref mt, .ref mv, .ref mc, .int (oI cu), .int (nI nt), .ref mk, .ref ms, .ref mp, .int (nI cH), .int (nI oH), .int (nI fH), .ref mi, .int (nI lc), .ref mlo, .ref mla, .ref mlb, .int (nI fc), .ref mf, .ref mst, .int (nI my), .ref mr, .ref mh])), (mp, .inl (ct 0, 6, .inl (aN P)))] H := hP
  have hD : va_D A [(md, .inr (5, [.int (nI 0), .int (nI R), .int (nI n), .ref mt, .ref mv, .ref mc, .int (oI cu), .int (nI nt), .ref mk, .ref ms, .ref mp, .int (nI cH), .int (nI oH), .int (nI fH), .ref mi, .int (nI lc), .ref mlo, .ref mla, .ref mlb, .int (nI fc), .ref mf, .ref mst, .int (nI my), .ref mr, .ref mh])), (mp, .inl (ct 0, 6, .inl (aN P)))] := hD
  refine lv_iload_n hx hb dX5_mark_5 rfl (lv_at hl 1 rfl) ?_
  refine vp_callSi (va_Run.run (va_runS (As := [.int (nI o)]) (rest := []) ⟨hx, hb, hml, hown, hts⟩ (m_isOrder l D ct (nI o) ) (va_cwS 1 hts (gw_S (fun _ h => h) w_361 w_362 w_30 wcX5_isOrder) rfl rfl rfl hvX5_isOrder.2 ⟨Nat.le_of_ble_eq_true rfl, Nat.le_of_ble_eq_true rfl⟩) (tb_prS hP hK hZ hS [] rfl) rfl rfl hl.1 rfl (lv_room (Nat.le_of_ble_eq_true rfl)) dX5_mark_6 ⟨Nat.zero_le _, Nat.zero_le _⟩)) (fun r_6 hr_6 => ?_)
  obtain rfl : r_6 = bB (decide (tRng (nI o) 6)) := hr_6
  refine tb_if_eqB (tgt := 26) hx hb dX5_mark_9 (by decide) (fun c9 => ?_) (fun c9 => ?_)
  · exact absurd (tRng_nI ho (by decide)) c9
  · refine lv_iload_n hx hb dX5_mark_12 rfl (lv_at hl 2 rfl) ?_
    refine lv_if_lt (tgt := 26) hx hb dX5_mark_13 (by decide) (fun c13 => ?_) (fun c13 => ?_)
    · refine lv_iconst (v := nI 0) hx hb dX5_mark_26 (by decide) ?_
      have hP9 : va_P D vwCl [(md, .inr (5, [.int (nI 0), .int (nI R), .int (nI n), .ref mt, .ref mv, .ref mc, .int (oI cu), .int (nI nt), .ref mk, .ref ms, .ref mp, .int (nI cH), .int (nI oH), .int (nI fH), .ref mi, .int (nI lc), .ref mlo, .ref mla, .ref mlb, .int (nI fc), .ref mf, .ref mst, .int (nI my), .ref mr, .ref mh])), (mp, .inl (ct 0, 6, .inl (aN P)))] _ := hP.sub [0, 1] rfl
      have hD9 : va_D A [(md, .inr (5, [.int (nI 0), .int (nI R), .int (nI n), .ref mt, .ref mv, .ref mc, .int (oI cu), .int (nI nt), .ref mk, .ref ms, .ref mp, .int (nI cH), .int (nI oH), .int (nI fH), .ref mi, .int (nI lc), .ref mlo, .ref mla, .ref mlb, .int (nI fc), .ref mf, .ref mst, .int (nI my), .ref mr, .ref mh])), (mp, .inl (ct 0, 6, .inl (aN P)))] := hD.sub [0, 1] (by decide) rfl
      exact W.iret (v := nI 0) hx hb hr (fun t ht hW => ⟨⟨_, (), rfl, rfl, by rw [ht]; exact hP9, hD9⟩, hS.F ht⟩) hS.2.2 dX5_mark_27
    · refine lv_iload_n hx hb dX5_mark_16 rfl (lv_at hl 2 rfl) ?_
      refine lv_aload_n hx hb dX5_mark_17 rfl (lv_at hl 0 rfl) ?_
      refine va_get (D := D) (ci := 5) (v := .ref mp) (C := RX5) (T := TX5) (N := 25) hx hb hts inX5 hown hK hP 0 rfl rfl 10 (by decide) (hts _ w_308) (fun _ h9 => h9) rfl dX5_mark_18 ?_
      refine lv_iload_n hx hb dX5_mark_21 rfl (lv_at hl 1 rfl) ?_
      refine tb_iald (v := P o) hx hb hK hP 1 0 rfl rfl (by omega) (by omega) rfl dX5_mark_22 ?_
      refine lv_icmp_lt (tgt := 28) hx hb dX5_mark_23 (by decide) (fun c23 => ?_) (fun c23 => ?_)
      · exact absurd (tRng_of (by omega) c13 (Int32.not_le.mpr c23)) hy
      · refine lv_iconst (v := nI 0) hx hb dX5_mark_26 (by decide) ?_
        have hP9 : va_P D vwCl [(md, .inr (5, [.int (nI 0), .int (nI R), .int (nI n), .ref mt, .ref mv, .ref mc, .int (oI cu), .int (nI nt), .ref mk, .ref ms, .ref mp, .int (nI cH), .int (nI oH), .int (nI fH), .ref mi, .int (nI lc), .ref mlo, .ref mla, .ref mlb, .int (nI fc), .ref mf, .ref mst, .int (nI my), .ref mr, .ref mh])), (mp, .inl (ct 0, 6, .inl (aN P)))] _ := hP.sub [0, 1] rfl
        have hD9 : va_D A [(md, .inr (5, [.int (nI 0), .int (nI R), .int (nI n), .ref mt, .ref mv, .ref mc, .int (oI cu), .int (nI nt), .ref mk, .ref ms, .ref mp, .int (nI cH), .int (nI oH), .int (nI fH), .ref mi, .int (nI lc), .ref mlo, .ref mla, .ref mlb, .int (nI fc), .ref mf, .ref mst, .int (nI my), .ref mr, .ref mh])), (mp, .inl (ct 0, 6, .inl (aN P)))] := hD.sub [0, 1] (by decide) rfl
        exact W.iret (v := nI 0) hx hb hr (fun t ht hW => ⟨⟨_, (), rfl, rfl, by rw [ht]; exact hP9, hD9⟩, hS.F ht⟩) hS.2.2 dX5_mark_27

set_option maxHeartbeats 4000000 in
set_option maxRecDepth 100000 in
theorem m_mark_ok (l : Launch) (D : va_G) (ct : Nat → ClassId) (md : Nat) (R : Nat) (n : Nat) (cu : Option Nat) (nt : Nat) (cH : Nat) (oH : Nat) (fH : Nat) (lc : Nat) (fc : Nat) (my : Nat) (mt : Nat) (mv : Nat) (mc : Nat) (mk : Nat) (ms : Nat) (mp : Nat) (mi : Nat) (mlo : Nat) (mla : Nat) (mlb : Nat) (mf : Nat) (mst : Nat) (mr : Nat) (mh : Nat) (K : Nat → Nat) (S : Nat → Nat) (P : Nat → Nat) (o : Nat) (i : Nat) (sz : Nat) (ho : o < 6) (hPo : P o ≤ 400) (hsum : tSum (fun j => S (400 * o + j)) (P o) = nt) (hnt : nt ≤ 400) (hk : i < P o) (hKb : ∀ j, K j < 2 ^ 31) : Met l yX5_mark wsX5_mark ({ frames := 1, cells := 0, slots := 0, locals := 24 }) (tb_Pw D ct [.ref md, .int (nI o), .int (nI i)] sz [(md, .inr (5, [.int (nI 0), .int (nI R), .int (nI n), .ref mt, .ref mv, .ref mc, .int (oI cu), .int (nI nt), .ref mk, .ref ms, .ref mp, .int (nI cH), .int (nI oH), .int (nI fH), .ref mi, .int (nI lc), .ref mlo, .ref mla, .ref mlb, .int (nI fc), .ref mf, .ref mst, .int (nI my), .ref mr, .ref mh])), (mk, .inl (ct 0, 2400, .inl (aN K))), (ms, .inl (ct 0, 2400, .inl (aN S))), (mp, .inl (ct 0, 6, .inl (aN P)))]) (va_Qi (fun r _ => r = tMk K (400 * o + tSum (fun j => S (400 * o + j)) i) (S (400 * o + i))) (tb_B D (va_A [(md, .inr (5, [.int (nI 0), .int (nI R), .int (nI n), .ref mt, .ref mv, .ref mc, .int (oI cu), .int (nI nt), .ref mk, .ref ms, .ref mp, .int (nI cH), .int (nI oH), .int (nI fH), .ref mi, .int (nI lc), .ref mlo, .ref mla, .ref mlb, .int (nI fc), .ref mf, .ref mst, .int (nI my), .ref mr, .ref mh])), (mk, .inl (ct 0, 2400, .inl (aN K))), (ms, .inl (ct 0, 2400, .inl (aN S))), (mp, .inl (ct 0, 6, .inl (aN P)))] sz) [(md, .inr (5, [.int (nI 0), .int (nI R), .int (nI n), .ref mt, .ref mv, .ref mc, .int (oI cu), .int (nI nt), .ref mk, .ref ms, .ref mp, .int (nI cH), .int (nI oH), .int (nI fH), .ref mi, .int (nI lc), .ref mlo, .ref mla, .ref mlb, .int (nI fc), .ref mf, .ref mst, .int (nI my), .ref mr, .ref mh])), (mk, .inl (ct 0, 2400, .inl (aN K))), (ms, .inl (ct 0, 2400, .inl (aN S))), (mp, .inl (ct 0, 6, .inl (aN P)))]) (va_A [(md, .inr (5, [.int (nI 0), .int (nI R), .int (nI n), .ref mt, .ref mv, .ref mc, .int (oI cu), .int (nI nt), .ref mk, .ref ms, .ref mp, .int (nI cH), .int (nI oH), .int (nI fH), .ref mi, .int (nI lc), .ref mlo, .ref mla, .ref mlb, .int (nI fc), .ref mf, .ref mst, .int (nI my), .ref mr, .ref mh])), (mk, .inl (ct 0, 2400, .inl (aN K))), (ms, .inl (ct 0, 2400, .inl (aN S))), (mp, .inl (ct 0, 6, .inl (aN P)))] sz)) 0 0 (va_A [(md, .inr (5, [.int (nI 0), .int (nI R), .int (nI n), .ref mt, .ref mv, .ref mc, .int (oI cu), .int (nI nt), .ref mk, .ref ms, .ref mp, .int (nI cH), .int (nI oH), .int (nI fH), .ref mi, .int (nI lc), .ref mlo, .ref mla, .ref mlb, .int (nI fc), .ref mf, .ref mst, .int (nI my), .ref mr, .ref mh])), (mk, .inl (ct 0, 2400, .inl (aN K))), (ms, .inl (ct 0, 2400, .inl (aN S))), (mp, .inl (ct 0, 6, .inl (aN P)))] sz) := by
  refine Met.ofW (cc := cX5_mark) (maxL := 8) (ret := (some .int)) (by decide) rfl ?_
  intro p e s m args below meth c s₁ B hml hv
  obtain ⟨rfl, hsz, hP, hK, hD0, hZ⟩ := hv
  have hx := B.exec
  have hb := B.bytes
  have hr := B.returns
  have hts0 := atoms_spec (ws := wsX5_mark) B.pre
  have hts : ∀ w9 ∈ aw, w9.before ([.ref md, .int (nI o), .int (nI i)] : List Value).toArray s = true := fun w9 h9 => hts0 w9 (List.mem_cons_of_mem _ h9)
  have hown : s.vm.findClass RX5 = some m.cls := findClass_of_methodNamed B.named
  have hlocks := B.notSynchronized
  subst hsz
  have hD := hD0.self (sz := s.heap.size)
  generalize hAe : va_A [(md, .inr (5, [.int (nI 0), .int (nI R), .int (nI n), .ref mt, .ref mv, .ref mc, .int (oI cu), .int (nI nt), .ref mk, .ref ms, .ref mp, .int (nI cH), .int (nI oH), .int (nI fH), .ref mi, .int (nI lc), .ref mlo, .ref mla, .ref mlb, .int (nI fc), .ref mf, .ref mst, .int (nI my), .ref mr, .ref mh])), (mk, .inl (ct 0, 2400, .inl (aN K))), (ms, .inl (ct 0, 2400, .inl (aN S))), (mp, .inl (ct 0, 6, .inl (aN P)))] s.heap.size = A at hD hZ ⊢
  have hA : ∀ q : Nat, s.heap.size ≤ q → A q := fun q h => by rw [← hAe]; exact Or.inr h
  have hS : va_S A s.heap s.heap [] := va_S.rf
  have hP : va_P D vwCl [(md, .inr (5, [.int (nI 0), .int (nI R), .int (nI n), .ref mt, .ref mv, .ref mc, .int (oI cu), .int (nI nt), .ref mk, .ref ms, .ref mp, .int (nI cH), .int (nI oH), .int (nI fH), .ref mi, .int (nI lc), .ref mlo, .ref mla, .ref mlb, .int (nI fc), .ref mf, .ref mst, .int (nI my), .ref mr, .ref mh])), (mk, .inl (ct 0, 2400, .inl (aN K))), (ms, .inl (ct 0, 2400, .inl (aN S))), (mp, .inl (ct 0, 6, .inl (aN P)))] s.heap := hP
  have hl := lv_entry ([.ref md, .int (nI o), .int (nI i)]) (n := 8) (Nat.le_of_ble_eq_true rfl)
  rw [lg_entry_eq]
  generalize (lg_sl ([.ref md, .int (nI o), .int (nI i)]) ++ List.replicate (8 - (lg_sl ([.ref md, .int (nI o), .int (nI i)])).length) Slot.unset).toArray = ls at hl ⊢
  have hl : lv_has ls 8 [(0, .ref md), (1, .int (nI o)), (2, .int (nI i))] := hl
  have hl9 := tSum_le_of (fun j => S (400 * o + j)) (show i + 1 ≤ P o by omega)
  rw [hsum, tSum] at hl9
  try dsimp only at hl9
  refine lv_aload_n hx hb dX5_mark_0 rfl (lv_at hl 0 rfl) ?_
  refine lv_iconst (v := nI 0) hx hb dX5_mark_1 (by decide) ?_
  refine va_put (D := D) (ci := 5) (v := .int (nI 0)) (ty := .int) (C := RX5) (T := TX5) (N := 25) hx hb hts inX5 tyX5 tyX5_ok nmX5 hown hK hP hD hS 0 rfl rfl 0 (by decide) (hts _ w_298) (fun _ h9 => h9) rfl (by decide +kernel) rfl rfl (Nat.le_of_ble_eq_true rfl) dX5_mark_2 (fun H locs hP hD hS => ?_)
  have hP : va_P D vwCl [(md, .inr (5, [.int (nI 0), .int (nI R), .int (nI n), .ref mt, .ref mv, .ref mc, .int (oI cu), .int (nI nt), .ref mk, .ref ms, .ref mp, .int (nI cH), .int (nI oH), .int (nI fH), .ref mi, .int (nI lc), .ref mlo, .ref mla, .ref mlb, .int (nI fc), .ref mf, .ref mst, .int (nI my), .ref mr, .ref mh])), (mk, .inl (ct 0, 2400, .inl (aN K))), (ms, .inl (ct 0, 2400, .inl (aN S))), (mp, .inl (ct 0, 6, .inl (aN P)))] H := hP
  have hD : va_D A [(md, .inr (5, [.int (nI 0), .int (nI R), .int (nI n), .ref mt, .ref mv, .ref mc, .int (oI cu), .int (nI nt), .ref mk, .ref ms, .ref mp, .int (nI cH), .int (nI oH), .int (nI fH), .ref mi, .int (nI lc), .ref mlo, .ref mla, .ref mlb, .int (nI fc), .ref mf, .ref mst, .int (nI my), .ref mr, .ref mh])), (mk, .inl (ct 0, 2400, .inl (aN K))), (ms, .inl (ct 0, 2400, .inl (aN S))), (mp, .inl (ct 0, 6, .inl (aN P)))] := hD
  refine lv_iload_n hx hb dX5_mark_5 rfl (lv_at hl 1 rfl) ?_
  refine vp_callSi (va_Run.run (va_runS (As := [.int (nI o)]) (rest := []) ⟨hx, hb, hml, hown, hts⟩ (m_isOrder l D ct (nI o) ) (va_cwS 1 hts (gw_S (fun _ h => h) w_361 w_362 w_30 wcX5_isOrder) rfl rfl rfl hvX5_isOrder.2 ⟨Nat.le_of_ble_eq_true rfl, Nat.le_of_ble_eq_true rfl⟩) (tb_prS hP hK hZ hS [] rfl) rfl rfl hl.1 rfl (lv_room (Nat.le_of_ble_eq_true rfl)) dX5_mark_6 ⟨Nat.zero_le _, Nat.zero_le _⟩)) (fun r_6 hr_6 => ?_)
  obtain rfl : r_6 = bB (decide (tRng (nI o) 6)) := hr_6
  refine tb_if_eqB (tgt := 26) hx hb dX5_mark_9 (by decide) (fun c9 => ?_) (fun c9 => ?_)
  · exact absurd (tRng_nI ho (by decide)) c9
  · refine lv_iload_n hx hb dX5_mark_12 rfl (lv_at hl 2 rfl) ?_
    refine tb_if_lt (tgt := 26) hx hb dX5_mark_13 (by decide) (by omega) ?_
    refine lv_iload_n hx hb dX5_mark_16 rfl (lv_at hl 2 rfl) ?_
    refine lv_aload_n hx hb dX5_mark_17 rfl (lv_at hl 0 rfl) ?_
    refine va_get (D := D) (ci := 5) (v := .ref mp) (C := RX5) (T := TX5) (N := 25) hx hb hts inX5 hown hK hP 0 rfl rfl 10 (by decide) (hts _ w_308) (fun _ h9 => h9) rfl dX5_mark_18 ?_
    refine lv_iload_n hx hb dX5_mark_21 rfl (lv_at hl 1 rfl) ?_
    refine tb_iald (v := P o) hx hb hK hP 3 0 rfl rfl (by omega) (by omega) rfl dX5_mark_22 ?_
    refine tb_icmp_lt (tgt := 28) hx hb dX5_mark_23 (by decide) (by omega) (by omega) (fun c23 => ?_) (fun c23 => ?_)
    · refine lv_aload_n hx hb dX5_mark_28 rfl (lv_at hl 0 rfl) ?_
      refine lv_iload_n hx hb dX5_mark_29 rfl (lv_at hl 1 rfl) ?_
      refine lv_iload_n hx hb dX5_mark_30 rfl (lv_at hl 2 rfl) ?_
      refine vp_callSi (va_Run.run (va_runV (As := [.int (nI o), .int (nI i)]) (rest := []) ⟨hx, hb, hml, hown, hts⟩ (m_begin l D ct md R n cu nt cH oH fH lc fc my mt mv mc mk ms mp mi mlo mla mlb mf mst mr mh S o i ho (by omega)) (cwV 2 hts (gw_V (fun _ h => h) w_400 w_401 w_0 w_30 wcX5_begin) rfl rfl rfl hvX5_begin ⟨Nat.le_of_ble_eq_true rfl, Nat.le_of_ble_eq_true rfl⟩) (tb_prV hP hK hZ hS [0, 2] rfl (ci := 5) (q0 := 0) rfl rfl) rfl rfl hl.1 rfl (lv_room (Nat.le_of_ble_eq_true rfl)) dX5_mark_31 ⟨Nat.zero_le _, Nat.zero_le _⟩)) (fun r_31 hr_31 => ?_)
      obtain rfl : r_31 = nI (400 * o + tSum (fun i => S (400 * o + i)) i) := hr_31
      refine lv_istore_n (lv' := [(3, .int (nI (400 * o + tSum (fun i => S (400 * o + i)) i))), (0, .ref md), (1, .int (nI o)), (2, .int (nI i))]) hx hb dX5_mark_34 rfl hl (by decide) rfl (fun ls hl => ?_)
      refine lv_iconst (v := nI 0) hx hb dX5_mark_35 (by decide) ?_
      refine lv_istore (lv' := [(4, .int (nI 0)), (3, .int (nI (400 * o + tSum (fun i => S (400 * o + i)) i))), (0, .ref md), (1, .int (nI o)), (2, .int (nI i))]) hx hb dX5_mark_36 hl (by decide) rfl (fun ls hl => ?_)
      refine lv_iload_n hx hb dX5_mark_38 rfl (lv_at hl 1 rfl) ?_
      refine lv_istore (lv' := [(5, .int (nI (400 * o + tSum (fun i => S (400 * o + i)) i))), (4, .int (nI 0)), (3, .int (nI (400 * o + tSum (fun i => S (400 * o + i)) i))), (0, .ref md), (1, .int (nI o)), (2, .int (nI i))]) hx hb dX5_mark_39 hl (by decide) rfl (fun ls hl => ?_)
      have hl41 : ∀ (N9 : Nat) (k : Nat), S (400 * o + i) - k < N9 → (k ≤ S (400 * o + i)) → ∀ (H : Heap) (locs : List Loc), va_P D vwCl [(md, .inr (5, [.int (nI 0), .int (nI R), .int (nI n), .ref mt, .ref mv, .ref mc, .int (oI cu), .int (nI nt), .ref mk, .ref ms, .ref mp, .int (nI cH), .int (nI oH), .int (nI fH), .ref mi, .int (nI lc), .ref mlo, .ref mla, .ref mlb, .int (nI fc), .ref mf, .ref mst, .int (nI my), .ref mr, .ref mh])), (mk, .inl (ct 0, 2400, .inl (aN K))), (ms, .inl (ct 0, 2400, .inl (aN S))), (mp, .inl (ct 0, 6, .inl (aN P)))] H → va_D A [(md, .inr (5, [.int (nI 0), .int (nI R), .int (nI n), .ref mt, .ref mv, .ref mc, .int (oI cu), .int (nI nt), .ref mk, .ref ms, .ref mp, .int (nI cH), .int (nI oH), .int (nI fH), .ref mi, .int (nI lc), .ref mlo, .ref mla, .ref mlb, .int (nI fc), .ref mf, .ref mst, .int (nI my), .ref mr, .ref mh])), (mk, .inl (ct 0, 2400, .inl (aN K))), (ms, .inl (ct 0, 2400, .inl (aN S))), (mp, .inl (ct 0, 6, .inl (aN P)))] → va_S A s.heap H locs → ∀ (ls : Array Slot), lv_has ls 8 [(0, .ref md), (1, .int (nI o)), (2, .int (nI i)), (3, .int (nI (400 * o + tSum (fun j => S (400 * o + j)) i))), (4, .int (tMk K (400 * o + tSum (fun j => S (400 * o + j)) i) k)), (5, .int (nI (400 * o + tSum (fun j => S (400 * o + j)) i + k)))] → W p l e (headSpec wsX5_mark ({ frames := 1, cells := 0, slots := 0, locals := 24 })).room s m ([.ref md, .int (nI o), .int (nI i)] : List Value).toArray below meth c H locs 0 0 (MQ below (va_Qi (fun r _ => r = tMk K (400 * o + tSum (fun j => S (400 * o + j)) i) (S (400 * o + i))) (tb_B D A [(md, .inr (5, [.int (nI 0), .int (nI R), .int (nI n), .ref mt, .ref mv, .ref mc, .int (oI cu), .int (nI nt), .ref mk, .ref ms, .ref mp, .int (nI cH), .int (nI oH), .int (nI fH), .ref mi, .int (nI lc), .ref mlo, .ref mla, .ref mlb, .int (nI fc), .ref mf, .ref mst, .int (nI my), .ref mr, .ref mh])), (mk, .inl (ct 0, 2400, .inl (aN K))), (ms, .inl (ct 0, 2400, .inl (aN S))), (mp, .inl (ct 0, 6, .inl (aN P)))]) A) ([.ref md, .int (nI o), .int (nI i)] : List Value).toArray s 0 0 A) (F0 m 41 ls []) := by
        intro N9
        induction N9 with
        | zero => intro k h9; exact absurd h9 (Nat.not_lt_zero _)
        | succ N9 ih41 =>
          intro k h9 h1 H locs hP hD hS ls hl
          refine lv_iload hx hb dX5_mark_41 (lv_at hl 5 rfl) ?_
          refine lv_iload_n hx hb dX5_mark_43 rfl (lv_at hl 3 rfl) ?_
          refine lv_aload_n hx hb dX5_mark_44 rfl (lv_at hl 0 rfl) ?_
          refine va_get (D := D) (ci := 5) (v := .ref ms) (C := RX5) (T := TX5) (N := 25) hx hb hts inX5 hown hK hP 0 rfl rfl 9 (by decide) (hts _ w_307) (fun _ h9 => h9) rfl dX5_mark_45 ?_
          refine lv_sipush (v := nI 400) hx hb dX5_mark_48 (by decide) ?_
          refine lv_iload_n hx hb dX5_mark_51 rfl (lv_at hl 1 rfl) ?_
          refine tb_imul hx hb dX5_mark_52 ?_
          refine lv_iload_n hx hb dX5_mark_53 rfl (lv_at hl 2 rfl) ?_
          refine tb_iadd hx hb dX5_mark_54 ?_
          refine tb_iald (v := S ((400 * o) + i)) hx hb hK hP 2 0 rfl rfl (by omega) (by omega) rfl dX5_mark_55 ?_
          refine tb_iadd hx hb dX5_mark_56 ?_
          refine tb_icmp_ge (tgt := 114) hx hb dX5_mark_57 (by decide) (by omega) (by omega) (fun c57 => ?_) (fun c57 => ?_)
          · refine lv_iload hx hb dX5_mark_114 (lv_at hl 4 rfl) ?_
            have hP9 : va_P D vwCl [(md, .inr (5, [.int (nI 0), .int (nI R), .int (nI n), .ref mt, .ref mv, .ref mc, .int (oI cu), .int (nI nt), .ref mk, .ref ms, .ref mp, .int (nI cH), .int (nI oH), .int (nI fH), .ref mi, .int (nI lc), .ref mlo, .ref mla, .ref mlb, .int (nI fc), .ref mf, .ref mst, .int (nI my), .ref mr, .ref mh])), (mk, .inl (ct 0, 2400, .inl (aN K))), (ms, .inl (ct 0, 2400, .inl (aN S))), (mp, .inl (ct 0, 6, .inl (aN P)))] _ := hP.sub [0, 1, 2, 3] rfl
            have hD9 : va_D A [(md, .inr (5, [.int (nI 0), .int (nI R), .int (nI n), .ref mt, .ref mv, .ref mc, .int (oI cu), .int (nI nt), .ref mk, .ref ms, .ref mp, .int (nI cH), .int (nI oH), .int (nI fH), .ref mi, .int (nI lc), .ref mlo, .ref mla, .ref mlb, .int (nI fc), .ref mf, .ref mst, .int (nI my), .ref mr, .ref mh])), (mk, .inl (ct 0, 2400, .inl (aN K))), (ms, .inl (ct 0, 2400, .inl (aN S))), (mp, .inl (ct 0, 6, .inl (aN P)))] := hD.sub [0, 1, 2, 3] (by decide) rfl
            exact W.iret (v := tMk K (400 * o + tSum (fun j => S (400 * o + j)) i) k) hx hb hr (fun t ht hW => ⟨⟨_, (), rfl, (by rw [show S (400 * o + i) = k by omega]), by rw [ht]; exact hP9, hD9⟩, hS.F ht⟩) hS.2.2 dX5_mark_116
          · refine lv_iconst (v := nI 0) hx hb dX5_mark_60 (by decide) ?_
            refine lv_istore (lv' := [(6, .int (nI 0)), (0, .ref md), (1, .int (nI o)), (2, .int (nI i)), (3, .int (nI (400 * o + tSum (fun j => S (400 * o + j)) i))), (4, .int (tMk K (400 * o + tSum (fun j => S (400 * o + j)) i) k)), (5, .int (nI (400 * o + tSum (fun j => S (400 * o + j)) i + k)))]) hx hb dX5_mark_61 hl (by decide) rfl (fun ls hl => ?_)
            refine lv_iload hx hb dX5_mark_63 (lv_at hl 0 rfl) ?_
            refine lv_iconst (v := nI 3) hx hb dX5_mark_65 (by decide) ?_
            refine tb_icmp_ge (tgt := 108) hx hb dX5_mark_66 (by decide) (by omega) (by omega) (fun c66 => ?_) (fun c66 => ?_)
            · exact absurd c66 (by decide)
            · refine lv_iload hx hb dX5_mark_69 (lv_at hl 5 rfl) ?_
              refine lv_aload_n hx hb dX5_mark_71 rfl (lv_at hl 1 rfl) ?_
              refine va_get (D := D) (ci := 5) (v := .ref mk) (C := RX5) (T := TX5) (N := 25) hx hb hts inX5 hown hK hP 0 rfl rfl 8 (by decide) (hts _ w_306) (fun _ h9 => h9) rfl dX5_mark_72 ?_
              refine lv_iload hx hb dX5_mark_75 (lv_at hl 6 rfl) ?_
              refine tb_iald (v := K (400 * o + tSum (fun j => S (400 * o + j)) i + k)) hx hb hK hP 1 0 rfl rfl (by omega) (by omega) rfl dX5_mark_77 ?_
              refine lv_iload hx hb dX5_mark_78 (lv_at hl 0 rfl) ?_
              refine vp_callSi (va_Run.run (va_runS (As := [.int (nI (K (400 * o + tSum (fun j => S (400 * o + j)) i + k))), .int (nI 0)]) (rest := [.int (tMk K (400 * o + tSum (fun j => S (400 * o + j)) i) k)]) ⟨hx, hb, hml, hown, hts⟩ (m_digits l D ct (K (400 * o + tSum (fun j => S (400 * o + j)) i + k)) 0 (hKb _) (by decide)) (va_cwS 2 hts (gw_S (fun _ h => h) w_342 w_343 w_30 wcX5_digits) rfl rfl rfl hvX5_digits.2 ⟨Nat.le_of_ble_eq_true rfl, Nat.le_of_ble_eq_true rfl⟩) (tb_prS hP hK hZ hS [] rfl) rfl rfl hl.1 rfl (lv_room (Nat.le_of_ble_eq_true rfl)) dX5_mark_80 ⟨Nat.zero_le _, Nat.zero_le _⟩)) (fun r_80 hr_80 => ?_)
              obtain rfl : r_80 = nI (tTerm (K (400 * o + tSum (fun j => S (400 * o + j)) i + k)) 0) := hr_80
              refine lv_ixor hx hb dX5_mark_83 ?_
              refine lv_istore (lv' := [(7, .int ((tMk K (400 * o + tSum (fun j => S (400 * o + j)) i) k) ^^^ (nI (tTerm (K (400 * o + tSum (fun j => S (400 * o + j)) i + k)) 0)))), (6, .int (nI 0)), (0, .ref md), (1, .int (nI o)), (2, .int (nI i)), (3, .int (nI (400 * o + tSum (fun j => S (400 * o + j)) i))), (4, .int (tMk K (400 * o + tSum (fun j => S (400 * o + j)) i) k)), (5, .int (nI (400 * o + tSum (fun j => S (400 * o + j)) i + k)))]) hx hb dX5_mark_84 hl (by decide) rfl (fun ls hl => ?_)
              refine lv_iload hx hb dX5_mark_86 (lv_at hl 0 rfl) ?_
              refine lv_bipush (v := nI 11) hx hb dX5_mark_88 (by decide) ?_
              refine lv_ishl hx hb dX5_mark_90 ?_
              refine lv_iload hx hb dX5_mark_91 (lv_at hl 0 rfl) ?_
              refine lv_bipush (v := nI 21) hx hb dX5_mark_93 (by decide) ?_
              refine lv_iushr (v := (((tMk K (400 * o + tSum (fun j => S (400 * o + j)) i) k) ^^^ (nI (tTerm (K (400 * o + tSum (fun j => S (400 * o + j)) i + k)) 0))).toUInt32 >>> ((nI 21).toUInt32 &&& Int32.toUInt32 31)).toInt32) hx hb dX5_mark_95 rfl ?_
              refine lv_ior hx hb dX5_mark_96 ?_
              refine lv_ldc (v := (-2048144777)) hx hb hown (hts _ w_405) dX5_mark_97 ?_
              refine lv_imul hx hb dX5_mark_99 ?_
              refine lv_istore (lv' := [(4, .int (((((tMk K (400 * o + tSum (fun j => S (400 * o + j)) i) k) ^^^ (nI (tTerm (K (400 * o + tSum (fun j => S (400 * o + j)) i + k)) 0))) <<< ((nI 11) &&& 31)) ||| ((((tMk K (400 * o + tSum (fun j => S (400 * o + j)) i) k) ^^^ (nI (tTerm (K (400 * o + tSum (fun j => S (400 * o + j)) i + k)) 0))).toUInt32 >>> ((nI 21).toUInt32 &&& Int32.toUInt32 31)).toInt32)) * (-2048144777))), (7, .int ((tMk K (400 * o + tSum (fun j => S (400 * o + j)) i) k) ^^^ (nI (tTerm (K (400 * o + tSum (fun j => S (400 * o + j)) i + k)) 0)))), (6, .int (nI 0)), (0, .ref md), (1, .int (nI o)), (2, .int (nI i)), (3, .int (nI (400 * o + tSum (fun j => S (400 * o + j)) i))), (5, .int (nI (400 * o + tSum (fun j => S (400 * o + j)) i + k)))]) hx hb dX5_mark_100 hl (by decide) rfl (fun ls hl => ?_)
              have hl : lv_has ls 8 [(4, .int (tMix (tMk K (400 * o + tSum (fun j => S (400 * o + j)) i) k) (tTerm (K (400 * o + tSum (fun j => S (400 * o + j)) i + k)) 0))), (6, .int (nI 0)), (0, .ref md), (1, .int (nI o)), (2, .int (nI i)), (3, .int (nI (400 * o + tSum (fun j => S (400 * o + j)) i))), (5, .int (nI (400 * o + tSum (fun j => S (400 * o + j)) i + k)))] := lv_sub hl [0, 2, 3, 4, 5, 6, 7] rfl
              refine lv_iinc (v := nI 1) (lv' := [(6, .int (nI 1)), (4, .int (tMix (tMk K (400 * o + tSum (fun j => S (400 * o + j)) i) k) (tTerm (K (400 * o + tSum (fun j => S (400 * o + j)) i + k)) 0))), (0, .ref md), (1, .int (nI o)), (2, .int (nI i)), (3, .int (nI (400 * o + tSum (fun j => S (400 * o + j)) i))), (5, .int (nI (400 * o + tSum (fun j => S (400 * o + j)) i + k)))]) hx hb dX5_mark_102 hl (k := 1) rfl (by decide) (by decide) rfl (fun ls hl => ?_)
              refine lv_goto (tgt := 63) hx hb dX5_mark_105 (by decide) ?_
              refine lv_iload hx hb dX5_mark_63 (lv_at hl 0 rfl) ?_
              refine lv_iconst (v := nI 3) hx hb dX5_mark_65 (by decide) ?_
              refine tb_icmp_ge (tgt := 108) hx hb dX5_mark_66 (by decide) (by omega) (by omega) (fun c66 => ?_) (fun c66 => ?_)
              · exact absurd c66 (by decide)
              · refine lv_iload hx hb dX5_mark_69 (lv_at hl 1 rfl) ?_
                refine lv_aload_n hx hb dX5_mark_71 rfl (lv_at hl 2 rfl) ?_
                refine va_get (D := D) (ci := 5) (v := .ref mk) (C := RX5) (T := TX5) (N := 25) hx hb hts inX5 hown hK hP 0 rfl rfl 8 (by decide) (hts _ w_306) (fun _ h9 => h9) rfl dX5_mark_72 ?_
                refine lv_iload hx hb dX5_mark_75 (lv_at hl 6 rfl) ?_
                refine tb_iald (v := K (400 * o + tSum (fun j => S (400 * o + j)) i + k)) hx hb hK hP 1 0 rfl rfl (by omega) (by omega) rfl dX5_mark_77 ?_
                refine lv_iload hx hb dX5_mark_78 (lv_at hl 0 rfl) ?_
                refine vp_callSi (va_Run.run (va_runS (As := [.int (nI (K (400 * o + tSum (fun j => S (400 * o + j)) i + k))), .int (nI 1)]) (rest := [.int (tMix (tMk K (400 * o + tSum (fun j => S (400 * o + j)) i) k) (tTerm (K (400 * o + tSum (fun j => S (400 * o + j)) i + k)) 0))]) ⟨hx, hb, hml, hown, hts⟩ (m_digits l D ct (K (400 * o + tSum (fun j => S (400 * o + j)) i + k)) 1 (hKb _) (by decide)) (va_cwS 2 hts (gw_S (fun _ h => h) w_342 w_343 w_30 wcX5_digits) rfl rfl rfl hvX5_digits.2 ⟨Nat.le_of_ble_eq_true rfl, Nat.le_of_ble_eq_true rfl⟩) (tb_prS hP hK hZ hS [] rfl) rfl rfl hl.1 rfl (lv_room (Nat.le_of_ble_eq_true rfl)) dX5_mark_80 ⟨Nat.zero_le _, Nat.zero_le _⟩)) (fun r_80 hr_80 => ?_)
                obtain rfl : r_80 = nI (tTerm (K (400 * o + tSum (fun j => S (400 * o + j)) i + k)) 1) := hr_80
                refine lv_ixor hx hb dX5_mark_83 ?_
                refine lv_istore (lv' := [(7, .int ((tMix (tMk K (400 * o + tSum (fun j => S (400 * o + j)) i) k) (tTerm (K (400 * o + tSum (fun j => S (400 * o + j)) i + k)) 0)) ^^^ (nI (tTerm (K (400 * o + tSum (fun j => S (400 * o + j)) i + k)) 1)))), (6, .int (nI 1)), (4, .int (tMix (tMk K (400 * o + tSum (fun j => S (400 * o + j)) i) k) (tTerm (K (400 * o + tSum (fun j => S (400 * o + j)) i + k)) 0))), (0, .ref md), (1, .int (nI o)), (2, .int (nI i)), (3, .int (nI (400 * o + tSum (fun j => S (400 * o + j)) i))), (5, .int (nI (400 * o + tSum (fun j => S (400 * o + j)) i + k)))]) hx hb dX5_mark_84 hl (by decide) rfl (fun ls hl => ?_)
                refine lv_iload hx hb dX5_mark_86 (lv_at hl 0 rfl) ?_
                refine lv_bipush (v := nI 11) hx hb dX5_mark_88 (by decide) ?_
                refine lv_ishl hx hb dX5_mark_90 ?_
                refine lv_iload hx hb dX5_mark_91 (lv_at hl 0 rfl) ?_
                refine lv_bipush (v := nI 21) hx hb dX5_mark_93 (by decide) ?_
                refine lv_iushr (v := (((tMix (tMk K (400 * o + tSum (fun j => S (400 * o + j)) i) k) (tTerm (K (400 * o + tSum (fun j => S (400 * o + j)) i + k)) 0)) ^^^ (nI (tTerm (K (400 * o + tSum (fun j => S (400 * o + j)) i + k)) 1))).toUInt32 >>> ((nI 21).toUInt32 &&& Int32.toUInt32 31)).toInt32) hx hb dX5_mark_95 rfl ?_
                refine lv_ior hx hb dX5_mark_96 ?_
                refine lv_ldc (v := (-2048144777)) hx hb hown (hts _ w_405) dX5_mark_97 ?_
                refine lv_imul hx hb dX5_mark_99 ?_
                refine lv_istore (lv' := [(4, .int (((((tMix (tMk K (400 * o + tSum (fun j => S (400 * o + j)) i) k) (tTerm (K (400 * o + tSum (fun j => S (400 * o + j)) i + k)) 0)) ^^^ (nI (tTerm (K (400 * o + tSum (fun j => S (400 * o + j)) i + k)) 1))) <<< ((nI 11) &&& 31)) ||| ((((tMix (tMk K (400 * o + tSum (fun j => S (400 * o + j)) i) k) (tTerm (K (400 * o + tSum (fun j => S (400 * o + j)) i + k)) 0)) ^^^ (nI (tTerm (K (400 * o + tSum (fun j => S (400 * o + j)) i + k)) 1))).toUInt32 >>> ((nI 21).toUInt32 &&& Int32.toUInt32 31)).toInt32)) * (-2048144777))), (7, .int ((tMix (tMk K (400 * o + tSum (fun j => S (400 * o + j)) i) k) (tTerm (K (400 * o + tSum (fun j => S (400 * o + j)) i + k)) 0)) ^^^ (nI (tTerm (K (400 * o + tSum (fun j => S (400 * o + j)) i + k)) 1)))), (6, .int (nI 1)), (0, .ref md), (1, .int (nI o)), (2, .int (nI i)), (3, .int (nI (400 * o + tSum (fun j => S (400 * o + j)) i))), (5, .int (nI (400 * o + tSum (fun j => S (400 * o + j)) i + k)))]) hx hb dX5_mark_100 hl (by decide) rfl (fun ls hl => ?_)
                have hl : lv_has ls 8 [(4, .int (tMix (tMix (tMk K (400 * o + tSum (fun j => S (400 * o + j)) i) k) (tTerm (K (400 * o + tSum (fun j => S (400 * o + j)) i + k)) 0)) (tTerm (K (400 * o + tSum (fun j => S (400 * o + j)) i + k)) 1))), (6, .int (nI 1)), (0, .ref md), (1, .int (nI o)), (2, .int (nI i)), (3, .int (nI (400 * o + tSum (fun j => S (400 * o + j)) i))), (5, .int (nI (400 * o + tSum (fun j => S (400 * o + j)) i + k)))] := lv_sub hl [0, 2, 3, 4, 5, 6, 7] rfl
                refine lv_iinc (v := nI 2) (lv' := [(6, .int (nI 2)), (4, .int (tMix (tMix (tMk K (400 * o + tSum (fun j => S (400 * o + j)) i) k) (tTerm (K (400 * o + tSum (fun j => S (400 * o + j)) i + k)) 0)) (tTerm (K (400 * o + tSum (fun j => S (400 * o + j)) i + k)) 1))), (0, .ref md), (1, .int (nI o)), (2, .int (nI i)), (3, .int (nI (400 * o + tSum (fun j => S (400 * o + j)) i))), (5, .int (nI (400 * o + tSum (fun j => S (400 * o + j)) i + k)))]) hx hb dX5_mark_102 hl (k := 1) rfl (by decide) (by decide) rfl (fun ls hl => ?_)
                refine lv_goto (tgt := 63) hx hb dX5_mark_105 (by decide) ?_
                refine lv_iload hx hb dX5_mark_63 (lv_at hl 0 rfl) ?_
                refine lv_iconst (v := nI 3) hx hb dX5_mark_65 (by decide) ?_
                refine tb_icmp_ge (tgt := 108) hx hb dX5_mark_66 (by decide) (by omega) (by omega) (fun c66 => ?_) (fun c66 => ?_)
                · exact absurd c66 (by decide)
                · refine lv_iload hx hb dX5_mark_69 (lv_at hl 1 rfl) ?_
                  refine lv_aload_n hx hb dX5_mark_71 rfl (lv_at hl 2 rfl) ?_
                  refine va_get (D := D) (ci := 5) (v := .ref mk) (C := RX5) (T := TX5) (N := 25) hx hb hts inX5 hown hK hP 0 rfl rfl 8 (by decide) (hts _ w_306) (fun _ h9 => h9) rfl dX5_mark_72 ?_
                  refine lv_iload hx hb dX5_mark_75 (lv_at hl 6 rfl) ?_
                  refine tb_iald (v := K (400 * o + tSum (fun j => S (400 * o + j)) i + k)) hx hb hK hP 1 0 rfl rfl (by omega) (by omega) rfl dX5_mark_77 ?_
                  refine lv_iload hx hb dX5_mark_78 (lv_at hl 0 rfl) ?_
                  refine vp_callSi (va_Run.run (va_runS (As := [.int (nI (K (400 * o + tSum (fun j => S (400 * o + j)) i + k))), .int (nI 2)]) (rest := [.int (tMix (tMix (tMk K (400 * o + tSum (fun j => S (400 * o + j)) i) k) (tTerm (K (400 * o + tSum (fun j => S (400 * o + j)) i + k)) 0)) (tTerm (K (400 * o + tSum (fun j => S (400 * o + j)) i + k)) 1))]) ⟨hx, hb, hml, hown, hts⟩ (m_digits l D ct (K (400 * o + tSum (fun j => S (400 * o + j)) i + k)) 2 (hKb _) (by decide)) (va_cwS 2 hts (gw_S (fun _ h => h) w_342 w_343 w_30 wcX5_digits) rfl rfl rfl hvX5_digits.2 ⟨Nat.le_of_ble_eq_true rfl, Nat.le_of_ble_eq_true rfl⟩) (tb_prS hP hK hZ hS [] rfl) rfl rfl hl.1 rfl (lv_room (Nat.le_of_ble_eq_true rfl)) dX5_mark_80 ⟨Nat.zero_le _, Nat.zero_le _⟩)) (fun r_80 hr_80 => ?_)
                  obtain rfl : r_80 = nI (tTerm (K (400 * o + tSum (fun j => S (400 * o + j)) i + k)) 2) := hr_80
                  refine lv_ixor hx hb dX5_mark_83 ?_
                  refine lv_istore (lv' := [(7, .int ((tMix (tMix (tMk K (400 * o + tSum (fun j => S (400 * o + j)) i) k) (tTerm (K (400 * o + tSum (fun j => S (400 * o + j)) i + k)) 0)) (tTerm (K (400 * o + tSum (fun j => S (400 * o + j)) i + k)) 1)) ^^^ (nI (tTerm (K (400 * o + tSum (fun j => S (400 * o + j)) i + k)) 2)))), (6, .int (nI 2)), (4, .int (tMix (tMix (tMk K (400 * o + tSum (fun j => S (400 * o + j)) i) k) (tTerm (K (400 * o + tSum (fun j => S (400 * o + j)) i + k)) 0)) (tTerm (K (400 * o + tSum (fun j => S (400 * o + j)) i + k)) 1))), (0, .ref md), (1, .int (nI o)), (2, .int (nI i)), (3, .int (nI (400 * o + tSum (fun j => S (400 * o + j)) i))), (5, .int (nI (400 * o + tSum (fun j => S (400 * o + j)) i + k)))]) hx hb dX5_mark_84 hl (by decide) rfl (fun ls hl => ?_)
                  refine lv_iload hx hb dX5_mark_86 (lv_at hl 0 rfl) ?_
                  refine lv_bipush (v := nI 11) hx hb dX5_mark_88 (by decide) ?_
                  refine lv_ishl hx hb dX5_mark_90 ?_
                  refine lv_iload hx hb dX5_mark_91 (lv_at hl 0 rfl) ?_
                  refine lv_bipush (v := nI 21) hx hb dX5_mark_93 (by decide) ?_
                  refine lv_iushr (v := (((tMix (tMix (tMk K (400 * o + tSum (fun j => S (400 * o + j)) i) k) (tTerm (K (400 * o + tSum (fun j => S (400 * o + j)) i + k)) 0)) (tTerm (K (400 * o + tSum (fun j => S (400 * o + j)) i + k)) 1)) ^^^ (nI (tTerm (K (400 * o + tSum (fun j => S (400 * o + j)) i + k)) 2))).toUInt32 >>> ((nI 21).toUInt32 &&& Int32.toUInt32 31)).toInt32) hx hb dX5_mark_95 rfl ?_
                  refine lv_ior hx hb dX5_mark_96 ?_
                  refine lv_ldc (v := (-2048144777)) hx hb hown (hts _ w_405) dX5_mark_97 ?_
                  refine lv_imul hx hb dX5_mark_99 ?_
                  refine lv_istore (lv' := [(4, .int (((((tMix (tMix (tMk K (400 * o + tSum (fun j => S (400 * o + j)) i) k) (tTerm (K (400 * o + tSum (fun j => S (400 * o + j)) i + k)) 0)) (tTerm (K (400 * o + tSum (fun j => S (400 * o + j)) i + k)) 1)) ^^^ (nI (tTerm (K (400 * o + tSum (fun j => S (400 * o + j)) i + k)) 2))) <<< ((nI 11) &&& 31)) ||| ((((tMix (tMix (tMk K (400 * o + tSum (fun j => S (400 * o + j)) i) k) (tTerm (K (400 * o + tSum (fun j => S (400 * o + j)) i + k)) 0)) (tTerm (K (400 * o + tSum (fun j => S (400 * o + j)) i + k)) 1)) ^^^ (nI (tTerm (K (400 * o + tSum (fun j => S (400 * o + j)) i + k)) 2))).toUInt32 >>> ((nI 21).toUInt32 &&& Int32.toUInt32 31)).toInt32)) * (-2048144777))), (7, .int ((tMix (tMix (tMk K (400 * o + tSum (fun j => S (400 * o + j)) i) k) (tTerm (K (400 * o + tSum (fun j => S (400 * o + j)) i + k)) 0)) (tTerm (K (400 * o + tSum (fun j => S (400 * o + j)) i + k)) 1)) ^^^ (nI (tTerm (K (400 * o + tSum (fun j => S (400 * o + j)) i + k)) 2)))), (6, .int (nI 2)), (0, .ref md), (1, .int (nI o)), (2, .int (nI i)), (3, .int (nI (400 * o + tSum (fun j => S (400 * o + j)) i))), (5, .int (nI (400 * o + tSum (fun j => S (400 * o + j)) i + k)))]) hx hb dX5_mark_100 hl (by decide) rfl (fun ls hl => ?_)
                  have hl : lv_has ls 8 [(4, .int (tMix (tMix (tMix (tMk K (400 * o + tSum (fun j => S (400 * o + j)) i) k) (tTerm (K (400 * o + tSum (fun j => S (400 * o + j)) i + k)) 0)) (tTerm (K (400 * o + tSum (fun j => S (400 * o + j)) i + k)) 1)) (tTerm (K (400 * o + tSum (fun j => S (400 * o + j)) i + k)) 2))), (6, .int (nI 2)), (0, .ref md), (1, .int (nI o)), (2, .int (nI i)), (3, .int (nI (400 * o + tSum (fun j => S (400 * o + j)) i))), (5, .int (nI (400 * o + tSum (fun j => S (400 * o + j)) i + k)))] := lv_sub hl [0, 2, 3, 4, 5, 6, 7] rfl
                  refine lv_iinc (v := nI 3) (lv' := [(6, .int (nI 3)), (4, .int (tMix (tMix (tMix (tMk K (400 * o + tSum (fun j => S (400 * o + j)) i) k) (tTerm (K (400 * o + tSum (fun j => S (400 * o + j)) i + k)) 0)) (tTerm (K (400 * o + tSum (fun j => S (400 * o + j)) i + k)) 1)) (tTerm (K (400 * o + tSum (fun j => S (400 * o + j)) i + k)) 2))), (0, .ref md), (1, .int (nI o)), (2, .int (nI i)), (3, .int (nI (400 * o + tSum (fun j => S (400 * o + j)) i))), (5, .int (nI (400 * o + tSum (fun j => S (400 * o + j)) i + k)))]) hx hb dX5_mark_102 hl (k := 1) rfl (by decide) (by decide) rfl (fun ls hl => ?_)
                  refine lv_goto (tgt := 63) hx hb dX5_mark_105 (by decide) ?_
                  refine lv_iload hx hb dX5_mark_63 (lv_at hl 0 rfl) ?_
                  refine lv_iconst (v := nI 3) hx hb dX5_mark_65 (by decide) ?_
                  refine tb_icmp_ge (tgt := 108) hx hb dX5_mark_66 (by decide) (by omega) (by omega) (fun c66 => ?_) (fun c66 => ?_)
                  · refine lv_iinc (v := nI ((400 * o + tSum (fun j => S (400 * o + j)) i + k) + 1)) (lv' := [(5, .int (nI ((400 * o + tSum (fun j => S (400 * o + j)) i + k) + 1))), (6, .int (nI 3)), (4, .int (tMix (tMix (tMix (tMk K (400 * o + tSum (fun j => S (400 * o + j)) i) k) (tTerm (K (400 * o + tSum (fun j => S (400 * o + j)) i + k)) 0)) (tTerm (K (400 * o + tSum (fun j => S (400 * o + j)) i + k)) 1)) (tTerm (K (400 * o + tSum (fun j => S (400 * o + j)) i + k)) 2))), (0, .ref md), (1, .int (nI o)), (2, .int (nI i)), (3, .int (nI (400 * o + tSum (fun j => S (400 * o + j)) i)))]) hx hb dX5_mark_108 hl (k := 6) rfl (tb_inc (400 * o + tSum (fun j => S (400 * o + j)) i + k) rfl) (by decide) rfl (fun ls hl => ?_)
                    refine lv_goto (tgt := 41) hx hb dX5_mark_111 (by decide) ?_
                    exact ih41 (k + 1) (by omega) (by omega) _ _ (hP.sub [0, 1, 2, 3] rfl) (hD.sub [0, 1, 2, 3] (by decide) rfl) hS _ (lv_sub hl [3, 4, 5, 6, 2, 0] rfl)
                  · exact absurd c66 (by decide)
      exact hl41 _ 0 (Nat.lt_succ_self _) (by omega) _ _ (hP.sub [0, 1, 2, 3] rfl) (hD.sub [0, 1, 2, 3] (by decide) rfl) hS _ (lv_sub hl [3, 4, 5, 2, 1, 0] rfl)
    · exfalso; omega
