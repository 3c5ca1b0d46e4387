set_option maxHeartbeats 4000000 in
set_option maxRecDepth 100000 in
theorem m_now (l : Launch) (D : va_G) (ct : Nat → ClassId) (md : Nat) (R : Nat) (n : Nat) (cu : Option Nat) (nt : Nat) (cH : Nat) (oH : Nat) (fH : Nat) (lc : Nat) (fc : Nat) (my : Nat) (mt : Nat) (mv : Nat) (mc : Nat) (mk : Nat) (ms : Nat) (mp : Nat) (mi : Nat) (mlo : Nat) (mla : Nat) (mlb : Nat) (mf : Nat) (mst : Nat) (mr : Nat) (mh : Nat) (V : Nat → Nat) (hn : n ≤ R) (hR : R ≤ 400) (hV : ∀ j, V j < 2 ^ 31) (hcb : ∀ j, cu = some j → j < 2 ^ 31) : Met l yX5_now wsX5_now ({ frames := 0, cells := 0, slots := 0, locals := 0 }) (tb_Pr D ct [.ref md] [(md, .inr (5, [.int (nI 0), .int (nI R), .int (nI n), .ref mt, .ref mv, .ref mc, .int (oI cu), .int (nI nt), .ref mk, .ref ms, .ref mp, .int (nI cH), .int (nI oH), .int (nI fH), .ref mi, .int (nI lc), .ref mlo, .ref mla, .ref mlb, .int (nI fc), .ref mf, .ref mst, .int (nI my), .ref mr, .ref mh])), (mv, .inl (ct 0, 400, .inl (aN V)))]) (vp_Si (fun r => r = nI (mNow V n cu))) 0 0 (fun _ => False) := by
  rcases cu with _ | cu
  · show Met l yX5_now wsX5_now ({ frames := 0, cells := 0, slots := 0, locals := 0 }) (tb_Pr D ct [.ref md] [(md, .inr (5, [.int (nI 0), .int (nI R), .int (nI n), .ref mt, .ref mv, .ref mc, .int (-1), .int (nI nt), .ref mk, .ref ms, .ref mp, .int (nI cH), .int (nI oH), .int (nI fH), .ref mi, .int (nI lc), .ref mlo, .ref mla, .ref mlb, .int (nI fc), .ref mf, .ref mst, .int (nI my), .ref mr, .ref mh])), (mv, .inl (ct 0, 400, .inl (aN V)))]) (vp_Si (fun r => r = nI (mNow V n none))) 0 0 (fun _ => False)
    refine Met.ofW (cc := cX5_now) (maxL := 2) (ret := (some .int)) (by decide) rfl ?_
    intro p e s m args below meth c s₁ B hml hv
    obtain ⟨rfl, hP, hK, hZ⟩ := hv
    have hx := B.exec
    have hb := B.bytes
    have hr := B.returns
    have hts0 := atoms_spec (ws := wsX5_now) B.pre
    have hts : ∀ w9 ∈ aw, w9.before ([.ref md] : List Value).toArray s = true := fun w9 h9 => hts0 w9 (List.mem_cons_of_mem _ h9)
    have hown : s.vm.findClass RX5 = some m.cls := findClass_of_methodNamed B.named
    have hlocks := B.notSynchronized
    have hS : va_S (fun _ => False) s.heap s.heap [] := va_S.rf
    have hP : va_P D vwCl [(md, .inr (5, [.int (nI 0), .int (nI R), .int (nI n), .ref mt, .ref mv, .ref mc, .int (-1), .int (nI nt), .ref mk, .ref ms, .ref mp, .int (nI cH), .int (nI oH), .int (nI fH), .ref mi, .int (nI lc), .ref mlo, .ref mla, .ref mlb, .int (nI fc), .ref mf, .ref mst, .int (nI my), .ref mr, .ref mh])), (mv, .inl (ct 0, 400, .inl (aN V)))] s.heap := hP
    have hl := lv_entry ([.ref md]) (n := 2) (Nat.le_of_ble_eq_true rfl)
    rw [lg_entry_eq]
    generalize (lg_sl ([.ref md]) ++ List.replicate (2 - (lg_sl ([.ref md])).length) Slot.unset).toArray = ls at hl ⊢
    have hl : lv_has ls 2 [(0, .ref md)] := hl
    have hv9 := hV (n - 1)
    refine lv_aload_n hx hb dX5_now_0 rfl (lv_at hl 0 rfl) ?_
    refine va_get (D := D) (ci := 5) (v := .int (nI n)) (C := RX5) (T := TX5) (N := 25) hx hb hts inX5 hown hK hP 0 rfl rfl 2 (by decide) (hts _ w_300) (fun _ h9 => h9) rfl dX5_now_1 ?_
    refine tb_if_ne (tgt := 11) hx hb dX5_now_4 (by decide) (by omega) (fun c4 => ?_) (fun c4 => ?_)
    · refine lv_aload_n hx hb dX5_now_11 rfl (lv_at hl 0 rfl) ?_
      refine va_get (D := D) (ci := 5) (v := .ref mv) (C := RX5) (T := TX5) (N := 25) hx hb hts inX5 hown hK hP 0 rfl rfl 4 (by decide) (hts _ w_302) (fun _ h9 => h9) rfl dX5_now_12 ?_
      refine lv_aload_n hx hb dX5_now_15 rfl (lv_at hl 0 rfl) ?_
      refine va_get (D := D) (ci := 5) (v := .int (nI n)) (C := RX5) (T := TX5) (N := 25) hx hb hts inX5 hown hK hP 0 rfl rfl 2 (by decide) (hts _ w_300) (fun _ h9 => h9) rfl dX5_now_16 ?_
      refine lv_iconst (v := nI 1) hx hb dX5_now_19 (by decide) ?_
      refine tb_isub hx hb dX5_now_20 (by omega) ?_
      refine tb_iald (v := V (n - 1)) hx hb hK hP 1 0 rfl rfl (by omega) (by omega) rfl dX5_now_21 ?_
      refine lv_istore_n (lv' := [(1, .int (nI (V (n - 1)))), (0, .ref md)]) hx hb dX5_now_22 rfl hl (by decide) rfl (fun ls hl => ?_)
      refine lv_iload_n hx hb dX5_now_23 rfl (lv_at hl 0 rfl) ?_
      refine lv_aload_n hx hb dX5_now_24 rfl (lv_at hl 1 rfl) ?_
      refine va_get (D := D) (ci := 5) (v := .int (-1)) (C := RX5) (T := TX5) (N := 25) hx hb hts inX5 hown hK hP 0 rfl rfl 6 (by decide) (hts _ w_304) (fun _ h9 => h9) rfl dX5_now_25 ?_
      refine lv_icmp_ge (tgt := 38) hx hb dX5_now_28 (by decide) (fun c28 => ?_) (fun c28 => ?_)
      · refine lv_iload_n hx hb dX5_now_38 rfl (lv_at hl 0 rfl) ?_
        exact W.iret (v := nI (V (n - 1))) hx hb hr (fun t ht hW => ⟨_, rfl, (by first | exact (mNow_a c4 c28) | exact (mNow_b c4 c28) | exact (mNow_c c4 c28) | exact (mNow_d c4 c28) | exact (mNow_0 c4) | exact (mNow_1 c4)), ht⟩) (fun q h => by cases h) dX5_now_39
      · exact absurd (nI_gem (by first | exact hV _ | decide)) c28
    · refine lv_iconst (v := nI 0) hx hb dX5_now_7 (by decide) ?_
      refine lv_goto (tgt := 22) hx hb dX5_now_8 (by decide) ?_
      refine lv_istore_n (lv' := [(1, .int (nI 0)), (0, .ref md)]) hx hb dX5_now_22 rfl hl (by decide) rfl (fun ls hl => ?_)
      refine lv_iload_n hx hb dX5_now_23 rfl (lv_at hl 0 rfl) ?_
      refine lv_aload_n hx hb dX5_now_24 rfl (lv_at hl 1 rfl) ?_
      refine va_get (D := D) (ci := 5) (v := .int (-1)) (C := RX5) (T := TX5) (N := 25) hx hb hts inX5 hown hK hP 0 rfl rfl 6 (by decide) (hts _ w_304) (fun _ h9 => h9) rfl dX5_now_25 ?_
      refine lv_icmp_ge (tgt := 38) hx hb dX5_now_28 (by decide) (fun c28 => ?_) (fun c28 => ?_)
      · refine lv_iload_n hx hb dX5_now_38 rfl (lv_at hl 0 rfl) ?_
        exact W.iret (v := nI 0) hx hb hr (fun t ht hW => ⟨_, rfl, (by first | exact (mNow_a c4 c28) | exact (mNow_b c4 c28) | exact (mNow_c c4 c28) | exact (mNow_d c4 c28) | exact (mNow_0 c4) | exact (mNow_1 c4)), ht⟩) (fun q h => by cases h) dX5_now_39
      · exact absurd (nI_gem (by first | exact hV _ | decide)) c28
  · show Met l yX5_now wsX5_now ({ frames := 0, cells := 0, slots := 0, locals := 0 }) (tb_Pr D ct [.ref md] [(md, .inr (5, [.int (nI 0), .int (nI R), .int (nI n), .ref mt, .ref mv, .ref mc, .int (nI cu), .int (nI nt), .ref mk, .ref ms, .ref mp, .int (nI cH), .int (nI oH), .int (nI fH), .ref mi, .int (nI lc), .ref mlo, .ref mla, .ref mlb, .int (nI fc), .ref mf, .ref mst, .int (nI my), .ref mr, .ref mh])), (mv, .inl (ct 0, 400, .inl (aN V)))]) (vp_Si (fun r => r = nI (mNow V n (some cu)))) 0 0 (fun _ => False)
    refine Met.ofW (cc := cX5_now) (maxL := 2) (ret := (some .int)) (by decide) rfl ?_
    intro p e s m args below meth c s₁ B hml hv
    obtain ⟨rfl, hP, hK, hZ⟩ := hv
    have hx := B.exec
    have hb := B.bytes
    have hr := B.returns
    have hts0 := atoms_spec (ws := wsX5_now) B.pre
    have hts : ∀ w9 ∈ aw, w9.before ([.ref md] : List Value).toArray s = true := fun w9 h9 => hts0 w9 (List.mem_cons_of_mem _ h9)
    have hown : s.vm.findClass RX5 = some m.cls := findClass_of_methodNamed B.named
    have hlocks := B.notSynchronized
    have hS : va_S (fun _ => False) s.heap s.heap [] := va_S.rf
    have hP : va_P D vwCl [(md, .inr (5, [.int (nI 0), .int (nI R), .int (nI n), .ref mt, .ref mv, .ref mc, .int (nI cu), .int (nI nt), .ref mk, .ref ms, .ref mp, .int (nI cH), .int (nI oH), .int (nI fH), .ref mi, .int (nI lc), .ref mlo, .ref mla, .ref mlb, .int (nI fc), .ref mf, .ref mst, .int (nI my), .ref mr, .ref mh])), (mv, .inl (ct 0, 400, .inl (aN V)))] s.heap := hP
    have hl := lv_entry ([.ref md]) (n := 2) (Nat.le_of_ble_eq_true rfl)
    rw [lg_entry_eq]
    generalize (lg_sl ([.ref md]) ++ List.replicate (2 - (lg_sl ([.ref md])).length) Slot.unset).toArray = ls at hl ⊢
    have hl : lv_has ls 2 [(0, .ref md)] := hl
    have hv9 := hV (n - 1)
    have hc9 := hcb cu rfl
    refine lv_aload_n hx hb dX5_now_0 rfl (lv_at hl 0 rfl) ?_
    refine va_get (D := D) (ci := 5) (v := .int (nI n)) (C := RX5) (T := TX5) (N := 25) hx hb hts inX5 hown hK hP 0 rfl rfl 2 (by decide) (hts _ w_300) (fun _ h9 => h9) rfl dX5_now_1 ?_
    refine tb_if_ne (tgt := 11) hx hb dX5_now_4 (by decide) (by omega) (fun c4 => ?_) (fun c4 => ?_)
    · refine lv_aload_n hx hb dX5_now_11 rfl (lv_at hl 0 rfl) ?_
      refine va_get (D := D) (ci := 5) (v := .ref mv) (C := RX5) (T := TX5) (N := 25) hx hb hts inX5 hown hK hP 0 rfl rfl 4 (by decide) (hts _ w_302) (fun _ h9 => h9) rfl dX5_now_12 ?_
      refine lv_aload_n hx hb dX5_now_15 rfl (lv_at hl 0 rfl) ?_
      refine va_get (D := D) (ci := 5) (v := .int (nI n)) (C := RX5) (T := TX5) (N := 25) hx hb hts inX5 hown hK hP 0 rfl rfl 2 (by decide) (hts _ w_300) (fun _ h9 => h9) rfl dX5_now_16 ?_
      refine lv_iconst (v := nI 1) hx hb dX5_now_19 (by decide) ?_
      refine tb_isub hx hb dX5_now_20 (by omega) ?_
      refine tb_iald (v := V (n - 1)) hx hb hK hP 1 0 rfl rfl (by omega) (by omega) rfl dX5_now_21 ?_
      refine lv_istore_n (lv' := [(1, .int (nI (V (n - 1)))), (0, .ref md)]) hx hb dX5_now_22 rfl hl (by decide) rfl (fun ls hl => ?_)
      refine lv_iload_n hx hb dX5_now_23 rfl (lv_at hl 0 rfl) ?_
      refine lv_aload_n hx hb dX5_now_24 rfl (lv_at hl 1 rfl) ?_
      refine va_get (D := D) (ci := 5) (v := .int (nI cu)) (C := RX5) (T := TX5) (N := 25) hx hb hts inX5 hown hK hP 0 rfl rfl 6 (by decide) (hts _ w_304) (fun _ h9 => h9) rfl dX5_now_25 ?_
      refine tb_icmp_ge (tgt := 38) hx hb dX5_now_28 (by decide) (by first | exact hV _ | omega) (by omega) (fun c28 => ?_) (fun c28 => ?_)
      · refine lv_iload_n hx hb dX5_now_38 rfl (lv_at hl 0 rfl) ?_
        exact W.iret (v := nI (V (n - 1))) hx hb hr (fun t ht hW => ⟨_, rfl, (by first | exact (mNow_a c4 c28) | exact (mNow_b c4 c28) | exact (mNow_c c4 c28) | exact (mNow_d c4 c28) | exact (mNow_0 c4) | exact (mNow_1 c4)), ht⟩) (fun q h => by cases h) dX5_now_39
      · refine lv_aload_n hx hb dX5_now_31 rfl (lv_at hl 1 rfl) ?_
        refine va_get (D := D) (ci := 5) (v := .int (nI cu)) (C := RX5) (T := TX5) (N := 25) hx hb hts inX5 hown hK hP 0 rfl rfl 6 (by decide) (hts _ w_304) (fun _ h9 => h9) rfl dX5_now_32 ?_
        refine lv_goto (tgt := 39) hx hb dX5_now_35 (by decide) ?_
        exact W.iret (v := nI cu) hx hb hr (fun t ht hW => ⟨_, rfl, (by first | exact (mNow_a c4 c28) | exact (mNow_b c4 c28) | exact (mNow_c c4 c28) | exact (mNow_d c4 c28) | exact (mNow_0 c4) | exact (mNow_1 c4)), ht⟩) (fun q h => by cases h) dX5_now_39
    · refine lv_iconst (v := nI 0) hx hb dX5_now_7 (by decide) ?_
      refine lv_goto (tgt := 22) hx hb dX5_now_8 (by decide) ?_
      refine lv_istore_n (lv' := [(1, .int (nI 0)), (0, .ref md)]) hx hb dX5_now_22 rfl hl (by decide) rfl (fun ls hl => ?_)
      refine lv_iload_n hx hb dX5_now_23 rfl (lv_at hl 0 rfl) ?_
      refine lv_aload_n hx hb dX5_now_24 rfl (lv_at hl 1 rfl) ?_
      refine va_get (D := D) (ci := 5) (v := .int (nI cu)) (C := RX5) (T := TX5) (N := 25) hx hb hts inX5 hown hK hP 0 rfl rfl 6 (by decide) (hts _ w_304) (fun _ h9 => h9) rfl dX5_now_25 ?_
      refine tb_icmp_ge (tgt := 38) hx hb dX5_now_28 (by decide) (by first | exact hV _ | omega) (by omega) (fun c28 => ?_) (fun c28 => ?_)
      · refine lv_iload_n hx hb dX5_now_38 rfl (lv_at hl 0 rfl) ?_
        exact W.iret (v := nI 0) hx hb hr (fun t ht hW => ⟨_, rfl, (by first | exact (mNow_a c4 c28) | exact (mNow_b c4 c28) | exact (mNow_c c4 c28) | exact (mNow_d c4 c28) | exact (mNow_0 c4) | exact (mNow_1 c4)), ht⟩) (fun q h => by cases h) dX5_now_39
      · refine lv_aload_n hx hb dX5_now_31 rfl (lv_at hl 1 rfl) ?_
        refine va_get (D := D) (ci := 5) (v := .int (nI cu)) (C := RX5) (T := TX5) (N := 25) hx hb hts inX5 hown hK hP 0 rfl rfl 6 (by decide) (hts _ w_304) (fun _ h9 => h9) rfl dX5_now_32 ?_
        refine lv_goto (tgt := 39) hx hb dX5_now_35 (by decide) ?_
        exact W.iret (v := nI cu) hx hb hr (fun t ht hW => ⟨_, rfl, (by first | exact (mNow_a c4 c28) | exact (mNow_b c4 c28) | exact (mNow_c c4 c28) | exact (mNow_d c4 c28) | exact (mNow_0 c4) | exact (mNow_1 c4)), ht⟩) (fun q h => by cases h) dX5_now_39

set_option maxHeartbeats 4000000 in
set_option maxRecDepth 100000 in
theorem m_isLatest (l : Launch) (D : va_G) (ct : Nat → ClassId) (md : Nat) (R : Nat) (n : Nat) (cu : Option Nat) (nt : Nat) (cH : Nat) (oH : Nat) (fH : Nat) (lc : Nat) (fc : Nat) (my : Nat) (mt : Nat) (mv : Nat) (mc : Nat) (mk : Nat) (ms : Nat) (mp : Nat) (mi : Nat) (mlo : Nat) (mla : Nat) (mlb : Nat) (mf : Nat) (mst : Nat) (mr : Nat) (mh : Nat) (T : Nat → Nat) (V : Nat → Nat) (i : Nat) (x : Nat) (hn : n ≤ R) (hR : R ≤ 400) (hV : ∀ j, V j < 2 ^ 31) (hT : ∀ j, T j < 1000000000) (hi : i < n) (hx9 : x < 2 ^ 31) : Met l yX5_isLatest wsX5_isLatest ({ frames := 0, cells := 0, slots := 0, locals := 0 }) (tb_Pr D ct [.ref md, .int (nI i), .int (nI x)] [(md, .inr (5, [.int (nI 0), .int (nI R), .int (nI n), .ref mt, .ref mv, .ref mc, .int (oI cu), .int (nI nt), .ref mk, .ref ms, .ref mp, .int (nI cH), .int (nI oH), .int (nI fH), .ref mi, .int (nI lc), .ref mlo, .ref mla, .ref mlb, .int (nI fc), .ref mf, .ref mst, .int (nI my), .ref mr, .ref mh])), (mt, .inl (ct 0, 400, .inl (aN T))), (mv, .inl (ct 0, 400, .inl (aN V)))]) (vp_Si (fun r => r = bB (decide (mLat T V n i x)))) 0 0 (fun _ => False) := by
  refine Met.ofW (cc := cX5_isLatest) (maxL := 5) (ret := (some .boolean)) (by decide) rfl ?_
  intro p e s m args below meth c s₁ B hml hv
  obtain ⟨rfl, hP, hK, hZ⟩ := hv
  have hx := B.exec
  have hb := B.bytes
  have hr := B.returns
  have hts0 := atoms_spec (ws := wsX5_isLatest) B.pre
  have hts : ∀ w9 ∈ aw, w9.before ([.ref md, .int (nI i), .int (nI x)] : List Value).toArray s = true := fun w9 h9 => hts0 w9 (List.mem_cons_of_mem _ h9)
  have hown : s.vm.findClass RX5 = some m.cls := findClass_of_methodNamed B.named
  have hlocks := B.notSynchronized
  have hS : va_S (fun _ => False) s.heap s.heap [] := va_S.rf
  have hP : va_P D vwCl [(md, .inr (5, [.int (nI 0), .int (nI R), .int (nI n), .ref mt, .ref mv, .ref mc, .int (oI cu), .int (nI nt), .ref mk, .ref ms, .ref mp, .int (nI cH), .int (nI oH), .int (nI fH), .ref mi, .int (nI lc), .ref mlo, .ref mla, .ref mlb, .int (nI fc), .ref mf, .ref mst, .int (nI my), .ref mr, .ref mh])), (mt, .inl (ct 0, 400, .inl (aN T))), (mv, .inl (ct 0, 400, .inl (aN V)))] s.heap := hP
  have hl := lv_entry ([.ref md, .int (nI i), .int (nI x)]) (n := 5) (Nat.le_of_ble_eq_true rfl)
  rw [lg_entry_eq]
  generalize (lg_sl ([.ref md, .int (nI i), .int (nI x)]) ++ List.replicate (5 - (lg_sl ([.ref md, .int (nI i), .int (nI x)])).length) Slot.unset).toArray = ls at hl ⊢
  have hl : lv_has ls 5 [(0, .ref md), (1, .int (nI i)), (2, .int (nI x))] := hl
  refine lv_aload_n hx hb dX5_isLatest_0 rfl (lv_at hl 0 rfl) ?_
  refine va_get (D := D) (ci := 5) (v := .ref mv) (C := RX5) (T := TX5) (N := 25) hx hb hts inX5 hown hK hP 0 rfl rfl 4 (by decide) (hts _ w_302) (fun _ h9 => h9) rfl dX5_isLatest_1 ?_
  refine lv_iload_n hx hb dX5_isLatest_4 rfl (lv_at hl 1 rfl) ?_
  refine tb_iald (v := V i) hx hb hK hP 2 0 rfl rfl (by omega) (by omega) rfl dX5_isLatest_5 ?_
  refine lv_iload_n hx hb dX5_isLatest_6 rfl (lv_at hl 2 rfl) ?_
  refine tb_icmp_gt (tgt := 14) hx hb dX5_isLatest_7 (by decide) (hV _) hx9 (fun c7 => ?_) (fun c7 => ?_)
  · refine lv_iconst (v := nI 0) hx hb dX5_isLatest_14 (by decide) ?_
    refine lv_istore_n (lv' := [(3, .int (nI 0)), (0, .ref md), (1, .int (nI i)), (2, .int (nI x))]) hx hb dX5_isLatest_15 rfl hl (by decide) rfl (fun ls hl => ?_)
    refine lv_iload_n hx hb dX5_isLatest_16 rfl (lv_at hl 2 rfl) ?_
    refine lv_iconst (v := nI 1) hx hb dX5_isLatest_17 (by decide) ?_
    refine tb_iadd hx hb dX5_isLatest_18 ?_
    refine lv_istore (lv' := [(4, .int (nI (i + 1))), (3, .int (nI 0)), (0, .ref md), (1, .int (nI i)), (2, .int (nI x))]) hx hb dX5_isLatest_19 hl (by decide) rfl (fun ls hl => ?_)
    have hl21 : ∀ (N9 : Nat) (k : Nat), n - k < N9 → (i < k) → (k ≤ n) → ∀ (ls : Array Slot), lv_has ls 5 [(0, .ref md), (1, .int (nI i)), (2, .int (nI x)), (3, .int (bB (decide (mLat T V k i x)))), (4, .int (nI k))] → W p l e (headSpec wsX5_isLatest ({ frames := 0, cells := 0, slots := 0, locals := 0 })).room s m ([.ref md, .int (nI i), .int (nI x)] : List Value).toArray below meth c s.heap [] 0 0 (MQ below (vp_Si (fun r => r = bB (decide (mLat T V n i x)))) ([.ref md, .int (nI i), .int (nI x)] : List Value).toArray s 0 0 (fun _ => False)) (F0 m 21 ls []) := by
      intro N9
      induction N9 with
      | zero => intro k h9; exact absurd h9 (Nat.not_lt_zero _)
      | succ N9 ih21 =>
        intro k h9 h1 h2 ls hl
        refine lv_iload hx hb dX5_isLatest_21 (lv_at hl 4 rfl) ?_
        refine lv_aload_n hx hb dX5_isLatest_23 rfl (lv_at hl 0 rfl) ?_
        refine va_get (D := D) (ci := 5) (v := .int (nI n)) (C := RX5) (T := TX5) (N := 25) hx hb hts inX5 hown hK hP 0 rfl rfl 2 (by decide) (hts _ w_300) (fun _ h9 => h9) rfl dX5_isLatest_24 ?_
        refine tb_icmp_ge (tgt := 73) hx hb dX5_isLatest_27 (by decide) (by omega) (by omega) (fun c27 => ?_) (fun c27 => ?_)
        · refine lv_iload_n hx hb dX5_isLatest_73 rfl (lv_at hl 3 rfl) ?_
          exact W.zret (v := bB (decide (mLat T V k i x))) hx hb hr (tb_nar _) (fun t ht hW => ⟨_, rfl, (by first | (rw [show n = k by omega]) | (exact congrArg bB (decide_eq_decide.mpr ⟨fun q => absurd q c31, fun q => absurd (mLat_le (by omega) q) c31⟩))), ht⟩) (fun q h => by cases h) dX5_isLatest_74
        · refine lv_iload_n hx hb dX5_isLatest_30 rfl (lv_at hl 3 rfl) ?_
          refine tb_if_eqB (tgt := 73) hx hb dX5_isLatest_31 (by decide) (fun c31 => ?_) (fun c31 => ?_)
          · refine lv_iload_n hx hb dX5_isLatest_73 rfl (lv_at hl 3 rfl) ?_
            exact W.zret (v := bB (decide (mLat T V k i x))) hx hb hr (tb_nar _) (fun t ht hW => ⟨_, rfl, (by first | (rw [show n = k by omega]) | (exact congrArg bB (decide_eq_decide.mpr ⟨fun q => absurd q c31, fun q => absurd (mLat_le (by omega) q) c31⟩))), ht⟩) (fun q h => by cases h) dX5_isLatest_74
          · refine lv_aload_n hx hb dX5_isLatest_34 rfl (lv_at hl 0 rfl) ?_
            refine va_get (D := D) (ci := 5) (v := .ref mt) (C := RX5) (T := TX5) (N := 25) hx hb hts inX5 hown hK hP 0 rfl rfl 3 (by decide) (hts _ w_301) (fun _ h9 => h9) rfl dX5_isLatest_35 ?_
            refine lv_iload hx hb dX5_isLatest_38 (lv_at hl 4 rfl) ?_
            refine tb_iald (v := T k) hx hb hK hP 1 0 rfl rfl (by omega) (by omega) rfl dX5_isLatest_40 ?_
            refine lv_aload_n hx hb dX5_isLatest_41 rfl (lv_at hl 0 rfl) ?_
            refine va_get (D := D) (ci := 5) (v := .ref mt) (C := RX5) (T := TX5) (N := 25) hx hb hts inX5 hown hK hP 0 rfl rfl 3 (by decide) (hts _ w_301) (fun _ h9 => h9) rfl dX5_isLatest_42 ?_
            refine lv_iload_n hx hb dX5_isLatest_45 rfl (lv_at hl 1 rfl) ?_
            refine tb_iald (v := T i) hx hb hK hP 1 0 rfl rfl (by omega) (by omega) rfl dX5_isLatest_46 ?_
            refine tb_icmp_ne (tgt := 61) hx hb dX5_isLatest_47 (by decide) (Nat.lt_trans (hT _) (by decide)) (Nat.lt_trans (hT _) (by decide)) (fun c47 => ?_) (fun c47 => ?_)
            · refine lv_iconst (v := nI 1) hx hb dX5_isLatest_61 (by decide) ?_
              refine lv_goto (tgt := 66) hx hb dX5_isLatest_62 (by decide) ?_
              refine lv_istore_n (lv' := [(3, .int (nI 1)), (0, .ref md), (1, .int (nI i)), (2, .int (nI x)), (4, .int (nI k))]) hx hb dX5_isLatest_66 rfl hl (by decide) rfl (fun ls hl => ?_)
              refine lv_iinc (v := nI (k + 1)) (lv' := [(4, .int (nI (k + 1))), (3, .int (nI 1)), (0, .ref md), (1, .int (nI i)), (2, .int (nI x))]) hx hb dX5_isLatest_67 hl (k := 4) rfl (tb_inc k rfl) (by decide) rfl (fun ls hl => ?_)
              refine lv_goto (tgt := 21) hx hb dX5_isLatest_70 (by decide) ?_
              have e9 : bB (decide (mLat T V (k + 1) i x)) = nI 1 := (bB_t (mLat_s c31 (by first | exact fun q => c47 q.1 | exact fun q => absurd q.2 (Nat.not_le.mpr c58)))).symm
              exact ih21 (k + 1) (by omega) (by omega) (by omega) _ (by first | (rw [e9]; exact lv_sub hl [2, 3, 4, 1, 0] rfl) | exact lv_sub hl [2, 3, 4, 1, 0] rfl)
            · refine lv_aload_n hx hb dX5_isLatest_50 rfl (lv_at hl 0 rfl) ?_
              refine va_get (D := D) (ci := 5) (v := .ref mv) (C := RX5) (T := TX5) (N := 25) hx hb hts inX5 hown hK hP 0 rfl rfl 4 (by decide) (hts _ w_302) (fun _ h9 => h9) rfl dX5_isLatest_51 ?_
              refine lv_iload hx hb dX5_isLatest_54 (lv_at hl 4 rfl) ?_
              refine tb_iald (v := V k) hx hb hK hP 2 0 rfl rfl (by omega) (by omega) rfl dX5_isLatest_56 ?_
              refine lv_iload_n hx hb dX5_isLatest_57 rfl (lv_at hl 2 rfl) ?_
              refine tb_icmp_le (tgt := 65) hx hb dX5_isLatest_58 (by decide) (hV _) hx9 (fun c58 => ?_) (fun c58 => ?_)
              · refine lv_iconst (v := nI 0) hx hb dX5_isLatest_65 (by decide) ?_
                refine lv_istore_n (lv' := [(3, .int (nI 0)), (0, .ref md), (1, .int (nI i)), (2, .int (nI x)), (4, .int (nI k))]) hx hb dX5_isLatest_66 rfl hl (by decide) rfl (fun ls hl => ?_)
                refine lv_iinc (v := nI (k + 1)) (lv' := [(4, .int (nI (k + 1))), (3, .int (nI 0)), (0, .ref md), (1, .int (nI i)), (2, .int (nI x))]) hx hb dX5_isLatest_67 hl (k := 4) rfl (tb_inc k rfl) (by decide) rfl (fun ls hl => ?_)
                refine lv_goto (tgt := 21) hx hb dX5_isLatest_70 (by decide) ?_
                have e9 : bB (decide (mLat T V (k + 1) i x)) = nI 0 := (bB_f (fun q => q.2 k (by omega) h1 ⟨c47, c58⟩)).symm
                exact ih21 (k + 1) (by omega) (by omega) (by omega) _ (by first | (rw [e9]; exact lv_sub hl [2, 3, 4, 1, 0] rfl) | exact lv_sub hl [2, 3, 4, 1, 0] rfl)
              · refine lv_iconst (v := nI 1) hx hb dX5_isLatest_61 (by decide) ?_
                refine lv_goto (tgt := 66) hx hb dX5_isLatest_62 (by decide) ?_
                refine lv_istore_n (lv' := [(3, .int (nI 1)), (0, .ref md), (1, .int (nI i)), (2, .int (nI x)), (4, .int (nI k))]) hx hb dX5_isLatest_66 rfl hl (by decide) rfl (fun ls hl => ?_)
                refine lv_iinc (v := nI (k + 1)) (lv' := [(4, .int (nI (k + 1))), (3, .int (nI 1)), (0, .ref md), (1, .int (nI i)), (2, .int (nI x))]) hx hb dX5_isLatest_67 hl (k := 4) rfl (tb_inc k rfl) (by decide) rfl (fun ls hl => ?_)
                refine lv_goto (tgt := 21) hx hb dX5_isLatest_70 (by decide) ?_
                have e9 : bB (decide (mLat T V (k + 1) i x)) = nI 1 := (bB_t (mLat_s c31 (by first | exact fun q => c47 q.1 | exact fun q => absurd q.2 (Nat.not_le.mpr c58)))).symm
                exact ih21 (k + 1) (by omega) (by omega) (by omega) _ (by first | (rw [e9]; exact lv_sub hl [2, 3, 4, 1, 0] rfl) | exact lv_sub hl [2, 3, 4, 1, 0] rfl)
    have e9 : bB (decide (mLat T V (i + 1) i x)) = nI 0 := (bB_f (fun q => absurd q.1 (Nat.not_le.mpr c7))).symm
    exact hl21 _ (i + 1) (Nat.lt_succ_self _) (by omega) (by omega) _ (by first | (rw [e9]; exact lv_sub hl [2, 3, 4, 1, 0] rfl) | exact lv_sub hl [2, 3, 4, 1, 0] rfl)
  · refine lv_iconst (v := nI 1) hx hb dX5_isLatest_10 (by decide) ?_
    refine lv_goto (tgt := 15) hx hb dX5_isLatest_11 (by decide) ?_
    refine lv_istore_n (lv' := [(3, .int (nI 1)), (0, .ref md), (1, .int (nI i)), (2, .int (nI x))]) hx hb dX5_isLatest_15 rfl hl (by decide) rfl (fun ls hl => ?_)
    refine lv_iload_n hx hb dX5_isLatest_16 rfl (lv_at hl 2 rfl) ?_
    refine lv_iconst (v := nI 1) hx hb dX5_isLatest_17 (by decide) ?_
    refine tb_iadd hx hb dX5_isLatest_18 ?_
    refine lv_istore (lv' := [(4, .int (nI (i + 1))), (3, .int (nI 1)), (0, .ref md), (1, .int (nI i)), (2, .int (nI x))]) hx hb dX5_isLatest_19 hl (by decide) rfl (fun ls hl => ?_)
    have hl21 : ∀ (N9 : Nat) (k : Nat), n - k < N9 → (i < k) → (k ≤ n) → ∀ (ls : Array Slot), lv_has ls 5 [(0, .ref md), (1, .int (nI i)), (2, .int (nI x)), (3, .int (bB (decide (mLat T V k i x)))), (4, .int (nI k))] → W p l e (headSpec wsX5_isLatest ({ frames := 0, cells := 0, slots := 0, locals := 0 })).room s m ([.ref md, .int (nI i), .int (nI x)] : List Value).toArray below meth c s.heap [] 0 0 (MQ below (vp_Si (fun r => r = bB (decide (mLat T V n i x)))) ([.ref md, .int (nI i), .int (nI x)] : List Value).toArray s 0 0 (fun _ => False)) (F0 m 21 ls []) := by
      intro N9
      induction N9 with
      | zero => intro k h9; exact absurd h9 (Nat.not_lt_zero _)
      | succ N9 ih21 =>
        intro k h9 h1 h2 ls hl
        refine lv_iload hx hb dX5_isLatest_21 (lv_at hl 4 rfl) ?_
        refine lv_aload_n hx hb dX5_isLatest_23 rfl (lv_at hl 0 rfl) ?_
        refine va_get (D := D) (ci := 5) (v := .int (nI n)) (C := RX5) (T := TX5) (N := 25) hx hb hts inX5 hown hK hP 0 rfl rfl 2 (by decide) (hts _ w_300) (fun _ h9 => h9) rfl dX5_isLatest_24 ?_
        refine tb_icmp_ge (tgt := 73) hx hb dX5_isLatest_27 (by decide) (by omega) (by omega) (fun c27 => ?_) (fun c27 => ?_)
        · refine lv_iload_n hx hb dX5_isLatest_73 rfl (lv_at hl 3 rfl) ?_
          exact W.zret (v := bB (decide (mLat T V k i x))) hx hb hr (tb_nar _) (fun t ht hW => ⟨_, rfl, (by first | (rw [show n = k by omega]) | (exact congrArg bB (decide_eq_decide.mpr ⟨fun q => absurd q c31, fun q => absurd (mLat_le (by omega) q) c31⟩))), ht⟩) (fun q h => by cases h) dX5_isLatest_74
        · refine lv_iload_n hx hb dX5_isLatest_30 rfl (lv_at hl 3 rfl) ?_
          refine tb_if_eqB (tgt := 73) hx hb dX5_isLatest_31 (by decide) (fun c31 => ?_) (fun c31 => ?_)
          · refine lv_iload_n hx hb dX5_isLatest_73 rfl (lv_at hl 3 rfl) ?_
            exact W.zret (v := bB (decide (mLat T V k i x))) hx hb hr (tb_nar _) (fun t ht hW => ⟨_, rfl, (by first | (rw [show n = k by omega]) | (exact congrArg bB (decide_eq_decide.mpr ⟨fun q => absurd q c31, fun q => absurd (mLat_le (by omega) q) c31⟩))), ht⟩) (fun q h => by cases h) dX5_isLatest_74
          · refine lv_aload_n hx hb dX5_isLatest_34 rfl (lv_at hl 0 rfl) ?_
            refine va_get (D := D) (ci := 5) (v := .ref mt) (C := RX5) (T := TX5) (N := 25) hx hb hts inX5 hown hK hP 0 rfl rfl 3 (by decide) (hts _ w_301) (fun _ h9 => h9) rfl dX5_isLatest_35 ?_
            refine lv_iload hx hb dX5_isLatest_38 (lv_at hl 4 rfl) ?_
            refine tb_iald (v := T k) hx hb hK hP 1 0 rfl rfl (by omega) (by omega) rfl dX5_isLatest_40 ?_
            refine lv_aload_n hx hb dX5_isLatest_41 rfl (lv_at hl 0 rfl) ?_
            refine va_get (D := D) (ci := 5) (v := .ref mt) (C := RX5) (T := TX5) (N := 25) hx hb hts inX5 hown hK hP 0 rfl rfl 3 (by decide) (hts _ w_301) (fun _ h9 => h9) rfl dX5_isLatest_42 ?_
            refine lv_iload_n hx hb dX5_isLatest_45 rfl (lv_at hl 1 rfl) ?_
            refine tb_iald (v := T i) hx hb hK hP 1 0 rfl rfl (by omega) (by omega) rfl dX5_isLatest_46 ?_
            refine tb_icmp_ne (tgt := 61) hx hb dX5_isLatest_47 (by decide) (Nat.lt_trans (hT _) (by decide)) (Nat.lt_trans (hT _) (by decide)) (fun c47 => ?_) (fun c47 => ?_)
            · refine lv_iconst (v := nI 1) hx hb dX5_isLatest_61 (by decide) ?_
              refine lv_goto (tgt := 66) hx hb dX5_isLatest_62 (by decide) ?_
              refine lv_istore_n (lv' := [(3, .int (nI 1)), (0, .ref md), (1, .int (nI i)), (2, .int (nI x)), (4, .int (nI k))]) hx hb dX5_isLatest_66 rfl hl (by decide) rfl (fun ls hl => ?_)
              refine lv_iinc (v := nI (k + 1)) (lv' := [(4, .int (nI (k + 1))), (3, .int (nI 1)), (0, .ref md), (1, .int (nI i)), (2, .int (nI x))]) hx hb dX5_isLatest_67 hl (k := 4) rfl (tb_inc k rfl) (by decide) rfl (fun ls hl => ?_)
              refine lv_goto (tgt := 21) hx hb dX5_isLatest_70 (by decide) ?_
              have e9 : bB (decide (mLat T V (k + 1) i x)) = nI 1 := (bB_t (mLat_s c31 (by first | exact fun q => c47 q.1 | exact fun q => absurd q.2 (Nat.not_le.mpr c58)))).symm
              exact ih21 (k + 1) (by omega) (by omega) (by omega) _ (by first | (rw [e9]; exact lv_sub hl [2, 3, 4, 1, 0] rfl) | exact lv_sub hl [2, 3, 4, 1, 0] rfl)
            · refine lv_aload_n hx hb dX5_isLatest_50 rfl (lv_at hl 0 rfl) ?_
              refine va_get (D := D) (ci := 5) (v := .ref mv) (C := RX5) (T := TX5) (N := 25) hx hb hts inX5 hown hK hP 0 rfl rfl 4 (by decide) (hts _ w_302) (fun _ h9 => h9) rfl dX5_isLatest_51 ?_
              refine lv_iload hx hb dX5_isLatest_54 (lv_at hl 4 rfl) ?_
              refine tb_iald (v := V k) hx hb hK hP 2 0 rfl rfl (by omega) (by omega) rfl dX5_isLatest_56 ?_
              refine lv_iload_n hx hb dX5_isLatest_57 rfl (lv_at hl 2 rfl) ?_
              refine tb_icmp_le (tgt := 65) hx hb dX5_isLatest_58 (by decide) (hV _) hx9 (fun c58 => ?_) (fun c58 => ?_)
              · refine lv_iconst (v := nI 0) hx hb dX5_isLatest_65 (by decide) ?_
                refine lv_istore_n (lv' := [(3, .int (nI 0)), (0, .ref md), (1, .int (nI i)), (2, .int (nI x)), (4, .int (nI k))]) hx hb dX5_isLatest_66 rfl hl (by decide) rfl (fun ls hl => ?_)
                refine lv_iinc (v := nI (k + 1)) (lv' := [(4, .int (nI (k + 1))), (3, .int (nI 0)), (0, .ref md), (1, .int (nI i)), (2, .int (nI x))]) hx hb dX5_isLatest_67 hl (k := 4) rfl (tb_inc k rfl) (by decide) rfl (fun ls hl => ?_)
                refine lv_goto (tgt := 21) hx hb dX5_isLatest_70 (by decide) ?_
                have e9 : bB (decide (mLat T V (k + 1) i x)) = nI 0 := (bB_f (fun q => q.2 k (by omega) h1 ⟨c47, c58⟩)).symm
                exact ih21 (k + 1) (by omega) (by omega) (by omega) _ (by first | (rw [e9]; exact lv_sub hl [2, 3, 4, 1, 0] rfl) | exact lv_sub hl [2, 3, 4, 1, 0] rfl)
              · refine lv_iconst (v := nI 1) hx hb dX5_isLatest_61 (by decide) ?_
                refine lv_goto (tgt := 66) hx hb dX5_isLatest_62 (by decide) ?_
                refine lv_istore_n (lv' := [(3, .int (nI 1)), (0, .ref md), (1, .int (nI i)), (2, .int (nI x)), (4, .int (nI k))]) hx hb dX5_isLatest_66 rfl hl (by decide) rfl (fun ls hl => ?_)
                refine lv_iinc (v := nI (k + 1)) (lv' := [(4, .int (nI (k + 1))), (3, .int (nI 1)), (0, .ref md), (1, .int (nI i)), (2, .int (nI x))]) hx hb dX5_isLatest_67 hl (k := 4) rfl (tb_inc k rfl) (by decide) rfl (fun ls hl => ?_)
                refine lv_goto (tgt := 21) hx hb dX5_isLatest_70 (by decide) ?_
                have e9 : bB (decide (mLat T V (k + 1) i x)) = nI 1 := (bB_t (mLat_s c31 (by first | exact fun q => c47 q.1 | exact fun q => absurd q.2 (Nat.not_le.mpr c58)))).symm
                exact ih21 (k + 1) (by omega) (by omega) (by omega) _ (by first | (rw [e9]; exact lv_sub hl [2, 3, 4, 1, 0] rfl) | exact lv_sub hl [2, 3, 4, 1, 0] rfl)
    have e9 : bB (decide (mLat T V (i + 1) i x)) = nI 1 := (bB_t ⟨c7, fun k h1 h2 => absurd h1 (by omega)⟩).symm
    exact hl21 _ (i + 1) (Nat.lt_succ_self _) (by omega) (by omega) _ (by first | (rw [e9]; exact lv_sub hl [2, 3, 4, 1, 0] rfl) | exact lv_sub hl [2, 3, 4, 1, 0] rfl)

set_option maxHeartbeats 4000000 in
set_option maxRecDepth 100000 in
theorem m_isThere (l : Launch) (D : va_G) (ct : Nat → ClassId) (md : Nat) (R : Nat) (n : Nat) (cu : Option Nat) (nt : Nat) (cH : Nat) (oH : Nat) (fH : Nat) (lc : Nat) (fc : Nat) (my : Nat) (mt : Nat) (mv : Nat) (mc : Nat) (mk : Nat) (ms : Nat) (mp : Nat) (mi : Nat) (mlo : Nat) (mla : Nat) (mlb : Nat) (mf : Nat) (mst : Nat) (mr : Nat) (mh : Nat) (T : Nat → Nat) (C : Nat → Bool) (t : Nat) (hn : n ≤ R) (hR : R ≤ 400) (hT : ∀ j, T j < 1000000000) (ht : t < 2 ^ 31) : Met l yX5_isThere wsX5_isThere ({ frames := 0, cells := 0, slots := 0, locals := 0 }) (tb_Pr D ct [.ref md, .int (nI t)] [(md, .inr (5, [.int (nI 0), .int (nI R), .int (nI n), .ref mt, .ref mv, .ref mc, .int (oI cu), .int (nI nt), .ref mk, .ref ms, .ref mp, .int (nI cH), .int (nI oH), .int (nI fH), .ref mi, .int (nI lc), .ref mlo, .ref mla, .ref mlb, .int (nI fc), .ref mf, .ref mst, .int (nI my), .ref mr, .ref mh])), (mt, .inl (ct 0, 400, .inl (aN T))), (mc, .inl (ct 4, 400, .inl (aB C)))]) (vp_Si (fun r => r = bB (mTh T C t n))) 0 0 (fun _ => False) := by
  refine Met.ofW (cc := cX5_isThere) (maxL := 4) (ret := (some .boolean)) (by decide) rfl ?_
  intro p e s m args below meth c s₁ B hml hv
  obtain ⟨rfl, hP, hK, hZ⟩ := hv
  have hx := B.exec
  have hb := B.bytes
  have hr := B.returns
  have hts0 := atoms_spec (ws := wsX5_isThere) B.pre
  have hts : ∀ w9 ∈ aw, w9.before ([.ref md, .int (nI t)] : List Value).toArray s = true := fun w9 h9 => hts0 w9 (List.mem_cons_of_mem _ h9)
  have hown : s.vm.findClass RX5 = some m.cls := findClass_of_methodNamed B.named
  have hlocks := B.notSynchronized
  have hS : va_S (fun _ => False) s.heap s.heap [] := va_S.rf
  have hP : va_P D vwCl [(md, .inr (5, [.int (nI 0), .int (nI R), .int (nI n), .ref mt, .ref mv, .ref mc, .int (oI cu), .int (nI nt), .ref mk, .ref ms, .ref mp, .int (nI cH), .int (nI oH), .int (nI fH), .ref mi, .int (nI lc), .ref mlo, .ref mla, .ref mlb, .int (nI fc), .ref mf, .ref mst, .int (nI my), .ref mr, .ref mh])), (mt, .inl (ct 0, 400, .inl (aN T))), (mc, .inl (ct 4, 400, .inl (aB C)))] s.heap := hP
  have hl := lv_entry ([.ref md, .int (nI t)]) (n := 4) (Nat.le_of_ble_eq_true rfl)
  rw [lg_entry_eq]
  generalize (lg_sl ([.ref md, .int (nI t)]) ++ List.replicate (4 - (lg_sl ([.ref md, .int (nI t)])).length) Slot.unset).toArray = ls at hl ⊢
  have hl : lv_has ls 4 [(0, .ref md), (1, .int (nI t))] := hl
  refine lv_iconst (v := nI 0) hx hb dX5_isThere_0 (by decide) ?_
  refine lv_istore_n (lv' := [(2, .int (nI 0)), (0, .ref md), (1, .int (nI t))]) hx hb dX5_isThere_1 rfl hl (by decide) rfl (fun ls hl => ?_)
  refine lv_iconst (v := nI 0) hx hb dX5_isThere_2 (by decide) ?_
  refine lv_istore_n (lv' := [(3, .int (nI 0)), (2, .int (nI 0)), (0, .ref md), (1, .int (nI t))]) hx hb dX5_isThere_3 rfl hl (by decide) rfl (fun ls hl => ?_)
  have hl4 : ∀ (N9 : Nat) (i : Nat), n - i < N9 → (i ≤ n) → ∀ (ls : Array Slot), lv_has ls 4 [(0, .ref md), (1, .int (nI t)), (2, .int (bB (mTh T C t i))), (3, .int (nI i))] → W p l e (headSpec wsX5_isThere ({ frames := 0, cells := 0, slots := 0, locals := 0 })).room s m ([.ref md, .int (nI t)] : List Value).toArray below meth c s.heap [] 0 0 (MQ below (vp_Si (fun r => r = bB (mTh T C t n))) ([.ref md, .int (nI t)] : List Value).toArray s 0 0 (fun _ => False)) (F0 m 4 ls []) := by
    intro N9
    induction N9 with
    | zero => intro i h9; exact absurd h9 (Nat.not_lt_zero _)
    | succ N9 ih4 =>
      intro i h9 h1 ls hl
      refine lv_iload_n hx hb dX5_isThere_4 rfl (lv_at hl 3 rfl) ?_
      refine lv_aload_n hx hb dX5_isThere_5 rfl (lv_at hl 0 rfl) ?_
      refine va_get (D := D) (ci := 5) (v := .int (nI n)) (C := RX5) (T := TX5) (N := 25) hx hb hts inX5 hown hK hP 0 rfl rfl 2 (by decide) (hts _ w_300) (fun _ h9 => h9) rfl dX5_isThere_6 ?_
      refine tb_icmp_ge (tgt := 39) hx hb dX5_isThere_9 (by decide) (by omega) (by omega) (fun c9 => ?_) (fun c9 => ?_)
      · refine lv_iload_n hx hb dX5_isThere_39 rfl (lv_at hl 2 rfl) ?_
        exact W.zret (v := bB (mTh T C t i)) hx hb hr (tb_nar _) (fun t ht hW => ⟨_, rfl, (by rw [show n = i by omega]), ht⟩) (fun q h => by cases h) dX5_isThere_40
      · refine lv_aload_n hx hb dX5_isThere_12 rfl (lv_at hl 0 rfl) ?_
        refine va_get (D := D) (ci := 5) (v := .ref mt) (C := RX5) (T := TX5) (N := 25) hx hb hts inX5 hown hK hP 0 rfl rfl 3 (by decide) (hts _ w_301) (fun _ h9 => h9) rfl dX5_isThere_13 ?_
        refine lv_iload_n hx hb dX5_isThere_16 rfl (lv_at hl 3 rfl) ?_
        refine tb_iald (v := T i) hx hb hK hP 1 0 rfl rfl (by omega) (by omega) rfl dX5_isThere_17 ?_
        refine lv_iload_n hx hb dX5_isThere_18 rfl (lv_at hl 1 rfl) ?_
        refine tb_icmp_ne (tgt := 31) hx hb dX5_isThere_19 (by decide) (Nat.lt_trans (hT _) (by decide)) ht (fun c19 => ?_) (fun c19 => ?_)
        · refine lv_iload_n hx hb dX5_isThere_31 rfl (lv_at hl 2 rfl) ?_
          refine lv_istore_n (lv' := [(2, .int (bB (mTh T C t i))), (0, .ref md), (1, .int (nI t)), (3, .int (nI i))]) hx hb dX5_isThere_32 rfl hl (by decide) rfl (fun ls hl => ?_)
          refine lv_iinc (v := nI (i + 1)) (lv' := [(3, .int (nI (i + 1))), (2, .int (bB (mTh T C t i))), (0, .ref md), (1, .int (nI t))]) hx hb dX5_isThere_33 hl (k := 3) rfl (tb_inc i rfl) (by decide) rfl (fun ls hl => ?_)
          refine lv_goto (tgt := 4) hx hb dX5_isThere_36 (by decide) ?_
          exact ih4 (i + 1) (by omega) (by omega) _ (by first | (rw [mTh_no c19]; exact lv_sub hl [2, 3, 1, 0] rfl) | exact lv_sub hl [2, 3, 1, 0] rfl)
        · refine lv_aload_n hx hb dX5_isThere_22 rfl (lv_at hl 0 rfl) ?_
          refine va_get (D := D) (ci := 5) (v := .ref mc) (C := RX5) (T := TX5) (N := 25) hx hb hts inX5 hown hK hP 0 rfl rfl 5 (by decide) (hts _ w_303) (fun _ h9 => h9) rfl dX5_isThere_23 ?_
          refine lv_iload_n hx hb dX5_isThere_26 rfl (lv_at hl 3 rfl) ?_
          refine tb_zald (v := C i) hx hb hK hP 2 4 rfl rfl (by omega) (by omega) rfl dX5_isThere_27 ?_
          refine lv_goto (tgt := 32) hx hb dX5_isThere_28 (by decide) ?_
          refine lv_istore_n (lv' := [(2, .int (bB (C i))), (0, .ref md), (1, .int (nI t)), (3, .int (nI i))]) hx hb dX5_isThere_32 rfl hl (by decide) rfl (fun ls hl => ?_)
          refine lv_iinc (v := nI (i + 1)) (lv' := [(3, .int (nI (i + 1))), (2, .int (bB (C i))), (0, .ref md), (1, .int (nI t))]) hx hb dX5_isThere_33 hl (k := 3) rfl (tb_inc i rfl) (by decide) rfl (fun ls hl => ?_)
          refine lv_goto (tgt := 4) hx hb dX5_isThere_36 (by decide) ?_
          exact ih4 (i + 1) (by omega) (by omega) _ (by first | (rw [mTh_yes c19]; exact lv_sub hl [2, 3, 1, 0] rfl) | exact lv_sub hl [2, 3, 1, 0] rfl)
  exact hl4 _ 0 (Nat.lt_succ_self _) (by omega) _ (lv_sub hl [2, 3, 1, 0] rfl)
