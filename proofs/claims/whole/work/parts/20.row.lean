set_option maxHeartbeats 4000000 in
set_option maxRecDepth 100000 in
theorem k_Row_empty (l : Launch) (D : va_G) (ct : Nat → ClassId) (h : Nat) (k : Nat) (R : Nat) (n : Nat) (f : Nat → Nat) (sz : Nat) : Met l yX3_empty wsX3_empty ({ frames := 0, cells := 0, slots := 0, locals := 0 }) (tb_Pw D ct [.ref h] sz [(h, .inr (3, [.ref k, .int (nI n)])), (k, .inl (ct 0, R, .inl (aN f)))]) (va_Qv (fun _ => True) (tb_B D (va_A [(h, .inr (3, [.ref k, .int (nI n)])), (k, .inl (ct 0, R, .inl (aN f)))] sz) [(h, .inr (3, [.ref k, .int (nI 0)])), (k, .inl (ct 0, R, .inl (aN f)))]) (va_A [(h, .inr (3, [.ref k, .int (nI n)])), (k, .inl (ct 0, R, .inl (aN f)))] sz)) 0 0 (va_A [(h, .inr (3, [.ref k, .int (nI n)])), (k, .inl (ct 0, R, .inl (aN f)))] sz) := by
  refine Met.ofW (cc := cX3_empty) (maxL := 1) (ret := none) (by decide) rfl ?_
  intro p e s m args below meth c s₁ B hml hv
  obtain ⟨rfl, hsz, hP, hK, hD0, hZ⟩ := hv
  have hx := B.exec
  have hb := B.bytes
  have hr := B.returns
  have hts0 := atoms_spec (ws := wsX3_empty) B.pre
  have hts : ∀ w9 ∈ aw, w9.before ([.ref h] : List Value).toArray s = true := fun w9 h9 => hts0 w9 (List.mem_cons_of_mem _ h9)
  have hown : s.vm.findClass RX3 = some m.cls := findClass_of_methodNamed B.named
  have hlocks := B.notSynchronized
  subst hsz
  have hD := hD0.self (sz := s.heap.size)
  generalize hAe : va_A [(h, .inr (3, [.ref k, .int (nI n)])), (k, .inl (ct 0, R, .inl (aN f)))] s.heap.size = A at hD hZ ⊢
  have hA : ∀ q : Nat, s.heap.size ≤ q → A q := fun q h => by rw [← hAe]; exact Or.inr h
  have hS : va_S A s.heap s.heap [] := va_S.rf
  have hP : va_P D vwCl [(h, .inr (3, [.ref k, .int (nI n)])), (k, .inl (ct 0, R, .inl (aN f)))] s.heap := hP
  have hl := lv_entry ([.ref h]) (n := 1) (Nat.le_of_ble_eq_true rfl)
  rw [lg_entry_eq]
  generalize (lg_sl ([.ref h]) ++ List.replicate (1 - (lg_sl ([.ref h])).length) Slot.unset).toArray = ls at hl ⊢
  have hl : lv_has ls 1 [(0, .ref h)] := hl
  refine lv_aload_n hx hb dX3_empty_0 rfl (lv_at hl 0 rfl) ?_
  refine lv_iconst (v := nI 0) hx hb dX3_empty_1 (by decide) ?_
  refine va_put (D := D) (ci := 3) (v := .int (nI 0)) (ty := .int) (C := RX3) (T := TX3) (N := 2) hx hb hts inX3 tyX3 tyX3_ok nmX3 hown hK hP hD hS 0 rfl rfl 1 (by decide) (hts _ w_70) (fun _ h9 => h9) rfl (by decide +kernel) rfl rfl (Nat.le_of_ble_eq_true rfl) dX3_empty_2 (fun H locs hP hD hS => ?_)
  have hP : va_P D vwCl [(h, .inr (3, [.ref k, .int (nI 0)])), (k, .inl (ct 0, R, .inl (aN f)))] H := hP
  have hD : va_D A [(h, .inr (3, [.ref k, .int (nI 0)])), (k, .inl (ct 0, R, .inl (aN f)))] := hD
  have hP9 : va_P D vwCl [(h, .inr (3, [.ref k, .int (nI 0)])), (k, .inl (ct 0, R, .inl (aN f)))] _ := hP.sub [0, 1] rfl
  have hD9 : va_D A [(h, .inr (3, [.ref k, .int (nI 0)])), (k, .inl (ct 0, R, .inl (aN f)))] := hD.sub [0, 1] (by decide) rfl
  exact W.vret hx hb hr (fun t ht hW => ⟨⟨(), rfl, trivial, by rw [ht]; exact hP9, hD9⟩, hS.F ht⟩) hS.2.2 dX3_empty_5

set_option maxHeartbeats 4000000 in
set_option maxRecDepth 100000 in
theorem k_Row_keyN (l : Launch) (D : va_G) (ct : Nat → ClassId) (h : Nat) (k : Nat) (R : Nat) (n : Nat) (f : Nat → Nat) (i : Nat) (hn : n ≤ R) (hR : R ≤ 400) (hi : i < n) : Met l yX3_key wsX3_key ({ frames := 0, cells := 0, slots := 0, locals := 0 }) (tb_Pr D ct [.ref h, .int (nI i)] [(h, .inr (3, [.ref k, .int (nI n)])), (k, .inl (ct 0, R, .inl (aN f)))]) (vp_Si (fun r => r = nI (f i))) 0 0 (fun _ => False) := by
  refine Met.ofW (cc := cX3_key) (maxL := 2) (ret := (some .int)) (by decide) rfl ?_
  intro p e s m args below meth c s₁ B hml hv
  obtain ⟨rfl, hP, hK, hZ⟩ := hv
  have hx := B.exec
  have hb := B.bytes
  have hr := B.returns
  have hts0 := atoms_spec (ws := wsX3_key) B.pre
  have hts : ∀ w9 ∈ aw, w9.before ([.ref h, .int (nI i)] : List Value).toArray s = true := fun w9 h9 => hts0 w9 (List.mem_cons_of_mem _ h9)
  have hown : s.vm.findClass RX3 = some m.cls := findClass_of_methodNamed B.named
  have hlocks := B.notSynchronized
  have hS : va_S (fun _ => False) s.heap s.heap [] := va_S.rf
  have hP : va_P D vwCl [(h, .inr (3, [.ref k, .int (nI n)])), (k, .inl (ct 0, R, .inl (aN f)))] s.heap := hP
  have hl := lv_entry ([.ref h, .int (nI i)]) (n := 2) (Nat.le_of_ble_eq_true rfl)
  rw [lg_entry_eq]
  generalize (lg_sl ([.ref h, .int (nI i)]) ++ List.replicate (2 - (lg_sl ([.ref h, .int (nI i)])).length) Slot.unset).toArray = ls at hl ⊢
  have hl : lv_has ls 2 [(0, .ref h), (1, .int (nI i))] := hl
  refine lv_iload_n hx hb dX3_key_0 rfl (lv_at hl 1 rfl) ?_
  refine tb_if_lt (tgt := 21) hx hb dX3_key_1 (by decide) (by omega) ?_
  refine lv_iload_n hx hb dX3_key_4 rfl (lv_at hl 1 rfl) ?_
  refine lv_aload_n hx hb dX3_key_5 rfl (lv_at hl 0 rfl) ?_
  refine va_get (D := D) (ci := 3) (v := .int (nI n)) (C := RX3) (T := TX3) (N := 2) hx hb hts inX3 hown hK hP 0 rfl rfl 1 (by decide) (hts _ w_70) (fun _ h9 => h9) rfl dX3_key_6 ?_
  refine tb_icmp_ge (tgt := 21) hx hb dX3_key_9 (by decide) (by omega) (by omega) (fun c9 => ?_) (fun c9 => ?_)
  · exfalso; omega
  · refine lv_aload_n hx hb dX3_key_12 rfl (lv_at hl 0 rfl) ?_
    refine va_get (D := D) (ci := 3) (v := .ref k) (C := RX3) (T := TX3) (N := 2) hx hb hts inX3 hown hK hP 0 rfl rfl 0 (by decide) (hts _ w_69) (fun _ h9 => h9) rfl dX3_key_13 ?_
    refine lv_iload_n hx hb dX3_key_16 rfl (lv_at hl 1 rfl) ?_
    refine tb_iald (v := f i) hx hb hK hP 1 0 rfl rfl (by omega) (by omega) rfl dX3_key_17 ?_
    refine lv_goto (tgt := 22) hx hb dX3_key_18 (by decide) ?_
    exact W.iret (v := nI (f i)) hx hb hr (fun t ht hW => ⟨_, rfl, rfl, ht⟩) (fun q h => by cases h) dX3_key_22

set_option maxHeartbeats 4000000 in
set_option maxRecDepth 100000 in
theorem k_Row_keyX (l : Launch) (D : va_G) (ct : Nat → ClassId) (h : Nat) (k : Nat) (R : Nat) (n : Nat) (f : Nat → Nat) (i : Int32) (hn : n ≤ R) (hR : R ≤ 400) (hi : ¬ tRng i n) : Met l yX3_key wsX3_key ({ frames := 0, cells := 0, slots := 0, locals := 0 }) (tb_Pr D ct [.ref h, .int i] [(h, .inr (3, [.ref k, .int (nI n)])), (k, .inl (ct 0, R, .inl (aN f)))]) (vp_Si (fun r => r = (-1))) 0 0 (fun _ => False) := by
  refine Met.ofW (cc := cX3_key) (maxL := 2) (ret := (some .int)) (by decide) rfl ?_
  intro p e s m args below meth c s₁ B hml hv
  obtain ⟨rfl, hP, hK, hZ⟩ := hv
  have hx := B.exec
  have hb := B.bytes
  have hr := B.returns
  have hts0 := atoms_spec (ws := wsX3_key) B.pre
  have hts : ∀ w9 ∈ aw, w9.before ([.ref h, .int i] : List Value).toArray s = true := fun w9 h9 => hts0 w9 (List.mem_cons_of_mem _ h9)
  have hown : s.vm.findClass RX3 = some m.cls := findClass_of_methodNamed B.named
  have hlocks := B.notSynchronized
  have hS : va_S (fun _ => False) s.heap s.heap [] := va_S.rf
  have hP : va_P D vwCl [(h, .inr (3, [.ref k, .int (nI n)])), (k, .inl (ct 0, R, .inl (aN f)))] s.heap := hP
  have hl := lv_entry ([.ref h, .int i]) (n := 2) (Nat.le_of_ble_eq_true rfl)
  rw [lg_entry_eq]
  generalize (lg_sl ([.ref h, .int i]) ++ List.replicate (2 - (lg_sl ([.ref h, .int i])).length) Slot.unset).toArray = ls at hl ⊢
  have hl : lv_has ls 2 [(0, .ref h), (1, .int i)] := hl
  refine lv_iload_n hx hb dX3_key_0 rfl (lv_at hl 1 rfl) ?_
  refine lv_if_lt (tgt := 21) hx hb dX3_key_1 (by decide) (fun c1 => ?_) (fun c1 => ?_)
  · refine lv_iconst (v := (-1)) hx hb dX3_key_21 (by decide) ?_
    exact W.iret (v := (-1)) hx hb hr (fun t ht hW => ⟨_, rfl, rfl, ht⟩) (fun q h => by cases h) dX3_key_22
  · refine lv_iload_n hx hb dX3_key_4 rfl (lv_at hl 1 rfl) ?_
    refine lv_aload_n hx hb dX3_key_5 rfl (lv_at hl 0 rfl) ?_
    refine va_get (D := D) (ci := 3) (v := .int (nI n)) (C := RX3) (T := TX3) (N := 2) hx hb hts inX3 hown hK hP 0 rfl rfl 1 (by decide) (hts _ w_70) (fun _ h9 => h9) rfl dX3_key_6 ?_
    refine lv_icmp_ge (tgt := 21) hx hb dX3_key_9 (by decide) (fun c9 => ?_) (fun c9 => ?_)
    · refine lv_iconst (v := (-1)) hx hb dX3_key_21 (by decide) ?_
      exact W.iret (v := (-1)) hx hb hr (fun t ht hW => ⟨_, rfl, rfl, ht⟩) (fun q h => by cases h) dX3_key_22
    · exact absurd (tRng_of (by omega) c1 c9) hi

set_option maxHeartbeats 4000000 in
set_option maxRecDepth 100000 in
theorem k_Row_placeFor (l : Launch) (D : va_G) (ct : Nat → ClassId) (h : Nat) (k : Nat) (R : Nat) (n : Nat) (f : Nat → Nat) (x : Nat) (hn : n ≤ R) (hR : R ≤ 400) (hs : tS f n) (hf : ∀ j, f j < 2 ^ 31) (hx9 : x < 2 ^ 31) : Met l yX3_placeFor wsX3_placeFor ({ frames := 0, cells := 0, slots := 0, locals := 0 }) (tb_Pr D ct [.ref h, .int (nI x)] [(h, .inr (3, [.ref k, .int (nI n)])), (k, .inl (ct 0, R, .inl (aN f)))]) (vp_Si (fun r => r = nI (tCnt f x n))) 0 0 (fun _ => False) := by
  refine Met.ofW (cc := cX3_placeFor) (maxL := 5) (ret := (some .int)) (by decide) rfl ?_
  intro p e s m args below meth c s₁ B hml hv
  obtain ⟨rfl, hP, hK, hZ⟩ := hv
  have hx := B.exec
  have hb := B.bytes
  have hr := B.returns
  have hts0 := atoms_spec (ws := wsX3_placeFor) B.pre
  have hts : ∀ w9 ∈ aw, w9.before ([.ref h, .int (nI x)] : List Value).toArray s = true := fun w9 h9 => hts0 w9 (List.mem_cons_of_mem _ h9)
  have hown : s.vm.findClass RX3 = some m.cls := findClass_of_methodNamed B.named
  have hlocks := B.notSynchronized
  have hS : va_S (fun _ => False) s.heap s.heap [] := va_S.rf
  have hP : va_P D vwCl [(h, .inr (3, [.ref k, .int (nI n)])), (k, .inl (ct 0, R, .inl (aN f)))] s.heap := hP
  have hl := lv_entry ([.ref h, .int (nI x)]) (n := 5) (Nat.le_of_ble_eq_true rfl)
  rw [lg_entry_eq]
  generalize (lg_sl ([.ref h, .int (nI x)]) ++ List.replicate (5 - (lg_sl ([.ref h, .int (nI x)])).length) Slot.unset).toArray = ls at hl ⊢
  have hl : lv_has ls 5 [(0, .ref h), (1, .int (nI x))] := hl
  refine lv_iconst (v := nI 0) hx hb dX3_placeFor_0 (by decide) ?_
  refine lv_istore_n (lv' := [(2, .int (nI 0)), (0, .ref h), (1, .int (nI x))]) hx hb dX3_placeFor_1 rfl hl (by decide) rfl (fun ls hl => ?_)
  refine lv_aload_n hx hb dX3_placeFor_2 rfl (lv_at hl 1 rfl) ?_
  refine va_get (D := D) (ci := 3) (v := .int (nI n)) (C := RX3) (T := TX3) (N := 2) hx hb hts inX3 hown hK hP 0 rfl rfl 1 (by decide) (hts _ w_70) (fun _ h9 => h9) rfl dX3_placeFor_3 ?_
  refine lv_istore_n (lv' := [(3, .int (nI n)), (2, .int (nI 0)), (0, .ref h), (1, .int (nI x))]) hx hb dX3_placeFor_6 rfl hl (by decide) rfl (fun ls hl => ?_)
  have hl7 : ∀ (N9 : Nat) (lo : Nat) (hi : Nat), hi - lo < N9 → (lo ≤ hi) → (hi ≤ n) → (∀ j, j < lo → f j < x) → (∀ j, hi ≤ j → j < n → x ≤ f j) → ∀ (ls : Array Slot), lv_has ls 5 [(0, .ref h), (1, .int (nI x)), (2, .int (nI lo)), (3, .int (nI hi))] → W p l e (headSpec wsX3_placeFor ({ frames := 0, cells := 0, slots := 0, locals := 0 })).room s m ([.ref h, .int (nI x)] : List Value).toArray below meth c s.heap [] 0 0 (MQ below (vp_Si (fun r => r = nI (tCnt f x n))) ([.ref h, .int (nI x)] : List Value).toArray s 0 0 (fun _ => False)) (F0 m 7 ls []) := by
    intro N9
    induction N9 with
    | zero => intro lo hi h9; exact absurd h9 (Nat.not_lt_zero _)
    | succ N9 ih7 =>
      intro lo hi h9 h1 h2 h3 h4 ls hl
      refine lv_iload_n hx hb dX3_placeFor_7 rfl (lv_at hl 2 rfl) ?_
      refine lv_iload_n hx hb dX3_placeFor_8 rfl (lv_at hl 3 rfl) ?_
      refine tb_icmp_ge (tgt := 44) hx hb dX3_placeFor_9 (by decide) (by omega) (by omega) (fun c9 => ?_) (fun c9 => ?_)
      · refine lv_iload_n hx hb dX3_placeFor_44 rfl (lv_at hl 2 rfl) ?_
        exact W.iret (v := nI lo) hx hb hr (fun t ht hW => ⟨_, rfl, (by rw [tCnt_of (k := lo) (by omega) h3 (fun j q1 q2 => h4 j (by omega) q2)]), ht⟩) (fun q h => by cases h) dX3_placeFor_45
      · refine lv_iload_n hx hb dX3_placeFor_12 rfl (lv_at hl 2 rfl) ?_
        refine lv_iload_n hx hb dX3_placeFor_13 rfl (lv_at hl 3 rfl) ?_
        refine tb_iadd hx hb dX3_placeFor_14 ?_
        refine lv_iconst (v := nI 1) hx hb dX3_placeFor_15 (by decide) ?_
        refine tb_half hx hb dX3_placeFor_16 (by omega) ?_
        refine lv_istore (lv' := [(4, .int (nI ((lo + hi) / 2))), (0, .ref h), (1, .int (nI x)), (2, .int (nI lo)), (3, .int (nI hi))]) hx hb dX3_placeFor_17 hl (by decide) rfl (fun ls hl => ?_)
        refine lv_aload_n hx hb dX3_placeFor_19 rfl (lv_at hl 1 rfl) ?_
        refine va_get (D := D) (ci := 3) (v := .ref k) (C := RX3) (T := TX3) (N := 2) hx hb hts inX3 hown hK hP 0 rfl rfl 0 (by decide) (hts _ w_69) (fun _ h9 => h9) rfl dX3_placeFor_20 ?_
        refine lv_iload hx hb dX3_placeFor_23 (lv_at hl 0 rfl) ?_
        refine tb_iald (v := f ((lo + hi) / 2)) hx hb hK hP 1 0 rfl rfl (by omega) (by omega) rfl dX3_placeFor_25 ?_
        refine lv_iload_n hx hb dX3_placeFor_26 rfl (lv_at hl 2 rfl) ?_
        refine tb_icmp_ge (tgt := 38) hx hb dX3_placeFor_27 (by decide) (hf _) hx9 (fun c27 => ?_) (fun c27 => ?_)
        · refine lv_iload hx hb dX3_placeFor_38 (lv_at hl 0 rfl) ?_
          refine lv_istore_n (lv' := [(3, .int (nI ((lo + hi) / 2))), (4, .int (nI ((lo + hi) / 2))), (0, .ref h), (1, .int (nI x)), (2, .int (nI lo))]) hx hb dX3_placeFor_40 rfl hl (by decide) rfl (fun ls hl => ?_)
          refine lv_goto (tgt := 7) hx hb dX3_placeFor_41 (by decide) ?_
          exact ih7 lo ((lo + hi) / 2) (by omega) (by omega) (by omega) h3 (fun j q1 q2 => Nat.le_trans c27 (tS_le hs q1 q2)) _ (lv_sub hl [2, 3, 4, 0] rfl)
        · refine lv_iload hx hb dX3_placeFor_30 (lv_at hl 0 rfl) ?_
          refine lv_iconst (v := nI 1) hx hb dX3_placeFor_32 (by decide) ?_
          refine tb_iadd hx hb dX3_placeFor_33 ?_
          refine lv_istore_n (lv' := [(2, .int (nI (((lo + hi) / 2) + 1))), (4, .int (nI ((lo + hi) / 2))), (0, .ref h), (1, .int (nI x)), (3, .int (nI hi))]) hx hb dX3_placeFor_34 rfl hl (by decide) rfl (fun ls hl => ?_)
          refine lv_goto (tgt := 41) hx hb dX3_placeFor_35 (by decide) ?_
          refine lv_goto (tgt := 7) hx hb dX3_placeFor_41 (by decide) ?_
          exact ih7 (((lo + hi) / 2) + 1) hi (by omega) (by omega) (by omega) (fun j h => Nat.lt_of_le_of_lt (tS_le hs (by omega) (by omega)) c27) h4 _ (lv_sub hl [2, 3, 0, 4] rfl)
  exact hl7 _ 0 n (Nat.lt_succ_self _) (by omega) (by omega) (fun j h => absurd h (Nat.not_lt_zero _)) (fun j h1 h2 => absurd h2 (by omega)) _ (lv_sub hl [2, 3, 1, 0] rfl)

set_option maxHeartbeats 4000000 in
set_option maxRecDepth 100000 in
theorem k_Row_has (l : Launch) (D : va_G) (ct : Nat → ClassId) (h : Nat) (k : Nat) (R : Nat) (n : Nat) (f : Nat → Nat) (x : Nat) (hn : n ≤ R) (hR : R ≤ 400) (hs : tS f n) (hf : ∀ j, f j < 2 ^ 31) (hx9 : x < 2 ^ 31) : Met l yX3_has wsX3_has ({ frames := 1, cells := 0, slots := 0, locals := 24 }) (tb_Pr D ct [.ref h, .int (nI x)] [(h, .inr (3, [.ref k, .int (nI n)])), (k, .inl (ct 0, R, .inl (aN f)))]) (vp_Si (fun r => r = bB (decide (tHas f n x)))) 0 0 (fun _ => False) := by
  refine Met.ofW (cc := cX3_has) (maxL := 3) (ret := (some .boolean)) (by decide) rfl ?_
  intro p e s m args below meth c s₁ B hml hv
  obtain ⟨rfl, hP, hK, hZ⟩ := hv
  have hx := B.exec
  have hb := B.bytes
  have hr := B.returns
  have hts0 := atoms_spec (ws := wsX3_has) B.pre
  have hts : ∀ w9 ∈ aw, w9.before ([.ref h, .int (nI x)] : List Value).toArray s = true := fun w9 h9 => hts0 w9 (List.mem_cons_of_mem _ h9)
  have hown : s.vm.findClass RX3 = some m.cls := findClass_of_methodNamed B.named
  have hlocks := B.notSynchronized
  have hS : va_S (fun _ => False) s.heap s.heap [] := va_S.rf
  have hP : va_P D vwCl [(h, .inr (3, [.ref k, .int (nI n)])), (k, .inl (ct 0, R, .inl (aN f)))] s.heap := hP
  have hl := lv_entry ([.ref h, .int (nI x)]) (n := 3) (Nat.le_of_ble_eq_true rfl)
  rw [lg_entry_eq]
  generalize (lg_sl ([.ref h, .int (nI x)]) ++ List.replicate (3 - (lg_sl ([.ref h, .int (nI x)])).length) Slot.unset).toArray = ls at hl ⊢
  have hl : lv_has ls 3 [(0, .ref h), (1, .int (nI x))] := hl
  have hk9 := tCnt_le f x n
  refine lv_aload_n hx hb dX3_has_0 rfl (lv_at hl 0 rfl) ?_
  refine lv_iload_n hx hb dX3_has_1 rfl (lv_at hl 1 rfl) ?_
  refine vp_callSi (va_Run.run (va_runV (As := [.int (nI x)]) (rest := []) ⟨hx, hb, hml, hown, hts⟩ (k_Row_placeFor l D ct h k R n f x hn hR hs hf hx9) (cwV 1 hts (gw_V (fun _ h => h) w_120 w_121 w_122 w_28 wcX3_placeFor) rfl rfl rfl hvX3_placeFor ⟨Nat.le_of_ble_eq_true rfl, Nat.le_of_ble_eq_true rfl⟩) (tb_prV hP hK hZ hS [0, 1] rfl (ci := 3) (q0 := 0) rfl rfl) rfl rfl hl.1 rfl (lv_room (Nat.le_of_ble_eq_true rfl)) dX3_has_2 ⟨Nat.zero_le _, Nat.zero_le _⟩)) (fun r_2 hr_2 => ?_)
  obtain rfl : r_2 = nI (tCnt f x n) := hr_2
  refine lv_istore_n (lv' := [(2, .int (nI (tCnt f x n))), (0, .ref h), (1, .int (nI x))]) hx hb dX3_has_5 rfl hl (by decide) rfl (fun ls hl => ?_)
  refine lv_iload_n hx hb dX3_has_6 rfl (lv_at hl 0 rfl) ?_
  refine lv_aload_n hx hb dX3_has_7 rfl (lv_at hl 1 rfl) ?_
  refine va_get (D := D) (ci := 3) (v := .int (nI n)) (C := RX3) (T := TX3) (N := 2) hx hb hts inX3 hown hK hP 0 rfl rfl 1 (by decide) (hts _ w_70) (fun _ h9 => h9) rfl dX3_has_8 ?_
  refine tb_icmp_ge (tgt := 28) hx hb dX3_has_11 (by decide) (by omega) (by omega) (fun c11 => ?_) (fun c11 => ?_)
  · refine lv_iconst (v := nI 0) hx hb dX3_has_28 (by decide) ?_
    exact W.zret (v := 0) hx hb hr (by decide) (fun t ht hW => ⟨_, rfl, (by first | exact bB_t ⟨c11, c21⟩ | exact bB_f (fun q => c21 q.2) | exact bB_f (fun q => absurd q.1 (Nat.not_lt.mpr c11))), ht⟩) (fun q h => by cases h) dX3_has_29
  · refine lv_aload_n hx hb dX3_has_14 rfl (lv_at hl 1 rfl) ?_
    refine va_get (D := D) (ci := 3) (v := .ref k) (C := RX3) (T := TX3) (N := 2) hx hb hts inX3 hown hK hP 0 rfl rfl 0 (by decide) (hts _ w_69) (fun _ h9 => h9) rfl dX3_has_15 ?_
    refine lv_iload_n hx hb dX3_has_18 rfl (lv_at hl 0 rfl) ?_
    refine tb_iald (v := f (tCnt f x n)) hx hb hK hP 1 0 rfl rfl (by omega) (by omega) rfl dX3_has_19 ?_
    refine lv_iload_n hx hb dX3_has_20 rfl (lv_at hl 2 rfl) ?_
    refine tb_icmp_ne (tgt := 28) hx hb dX3_has_21 (by decide) (hf _) hx9 (fun c21 => ?_) (fun c21 => ?_)
    · refine lv_iconst (v := nI 0) hx hb dX3_has_28 (by decide) ?_
      exact W.zret (v := 0) hx hb hr (by decide) (fun t ht hW => ⟨_, rfl, (by first | exact bB_t ⟨c11, c21⟩ | exact bB_f (fun q => c21 q.2) | exact bB_f (fun q => absurd q.1 (Nat.not_lt.mpr c11))), ht⟩) (fun q h => by cases h) dX3_has_29
    · refine lv_iconst (v := nI 1) hx hb dX3_has_24 (by decide) ?_
      refine lv_goto (tgt := 29) hx hb dX3_has_25 (by decide) ?_
      exact W.zret (v := 1) hx hb hr (by decide) (fun t ht hW => ⟨_, rfl, (by first | exact bB_t ⟨c11, c21⟩ | exact bB_f (fun q => c21 q.2) | exact bB_f (fun q => absurd q.1 (Nat.not_lt.mpr c11))), ht⟩) (fun q h => by cases h) dX3_has_29

set_option maxHeartbeats 4000000 in
set_option maxRecDepth 100000 in
theorem k_Row_putIn (l : Launch) (D : va_G) (ct : Nat → ClassId) (h : Nat) (k : Nat) (R : Nat) (n : Nat) (f : Nat → Nat) (x : Nat) (sz : Nat) (hn : n ≤ R) (hR : R ≤ 400) (hs : tS f n) (hf : ∀ j, f j < 2 ^ 31) (hx9 : x < 2 ^ 31) (hlt : n < R) : Met l yX3_putIn wsX3_putIn ({ frames := 1, cells := 0, slots := 0, locals := 36 }) (tb_Pw D ct [.ref h, .int (nI x)] sz [(h, .inr (3, [.ref k, .int (nI n)])), (k, .inl (ct 0, R, .inl (aN f)))]) (va_Qv (fun _ => True) (tb_B D (va_A [(h, .inr (3, [.ref k, .int (nI n)])), (k, .inl (ct 0, R, .inl (aN f)))] sz) [(h, .inr (3, [.ref k, .int (nI (n + 1))])), (k, .inl (ct 0, R, .inl (aN (tPut f n x))))]) (va_A [(h, .inr (3, [.ref k, .int (nI n)])), (k, .inl (ct 0, R, .inl (aN f)))] sz)) 0 0 (va_A [(h, .inr (3, [.ref k, .int (nI n)])), (k, .inl (ct 0, R, .inl (aN f)))] sz) := by
  refine Met.ofW (cc := cX3_putIn) (maxL := 3) (ret := none) (by decide) rfl ?_
  intro p e s m args below meth c s₁ B hml hv
  obtain ⟨rfl, hsz, hP, hK, hD0, hZ⟩ := hv
  have hx := B.exec
  have hb := B.bytes
  have hr := B.returns
  have hts0 := atoms_spec (ws := wsX3_putIn) B.pre
  have hts : ∀ w9 ∈ aw, w9.before ([.ref h, .int (nI x)] : List Value).toArray s = true := fun w9 h9 => hts0 w9 (List.mem_cons_of_mem _ h9)
  have hown : s.vm.findClass RX3 = some m.cls := findClass_of_methodNamed B.named
  have hlocks := B.notSynchronized
  subst hsz
  have hD := hD0.self (sz := s.heap.size)
  generalize hAe : va_A [(h, .inr (3, [.ref k, .int (nI n)])), (k, .inl (ct 0, R, .inl (aN f)))] s.heap.size = A at hD hZ ⊢
  have hA : ∀ q : Nat, s.heap.size ≤ q → A q := fun q h => by rw [← hAe]; exact Or.inr h
  have hS : va_S A s.heap s.heap [] := va_S.rf
  have hP : va_P D vwCl [(h, .inr (3, [.ref k, .int (nI n)])), (k, .inl (ct 0, R, .inl (aN f)))] s.heap := hP
  have hl := lv_entry ([.ref h, .int (nI x)]) (n := 3) (Nat.le_of_ble_eq_true rfl)
  rw [lg_entry_eq]
  generalize (lg_sl ([.ref h, .int (nI x)]) ++ List.replicate (3 - (lg_sl ([.ref h, .int (nI x)])).length) Slot.unset).toArray = ls at hl ⊢
  have hl : lv_has ls 3 [(0, .ref h), (1, .int (nI x))] := hl
  have hk9 := tCnt_le f x n
  refine lv_aload_n hx hb dX3_putIn_0 rfl (lv_at hl 0 rfl) ?_
  refine va_get (D := D) (ci := 3) (v := .int (nI n)) (C := RX3) (T := TX3) (N := 2) hx hb hts inX3 hown hK hP 0 rfl rfl 1 (by decide) (hts _ w_70) (fun _ h9 => h9) rfl dX3_putIn_1 ?_
  refine lv_aload_n hx hb dX3_putIn_4 rfl (lv_at hl 0 rfl) ?_
  refine va_get (D := D) (ci := 3) (v := .ref k) (C := RX3) (T := TX3) (N := 2) hx hb hts inX3 hown hK hP 0 rfl rfl 0 (by decide) (hts _ w_69) (fun _ h9 => h9) rfl dX3_putIn_5 ?_
  refine tb_alen hx hb hK hP 1 0 rfl rfl dX3_putIn_8 ?_
  refine tb_icmp_lt (tgt := 13) hx hb dX3_putIn_9 (by decide) (by omega) (by omega) (fun c9 => ?_) (fun c9 => ?_)
  · refine lv_aload_n hx hb dX3_putIn_13 rfl (lv_at hl 0 rfl) ?_
    refine lv_iload_n hx hb dX3_putIn_14 rfl (lv_at hl 1 rfl) ?_
    refine vp_callSi (va_Run.run (va_runV (As := [.int (nI x)]) (rest := []) ⟨hx, hb, hml, hown, hts⟩ (k_Row_placeFor l D ct h k R n f x hn hR hs hf hx9) (cwV 1 hts (gw_V (fun _ h => h) w_120 w_121 w_122 w_28 wcX3_placeFor) rfl rfl rfl hvX3_placeFor ⟨Nat.le_of_ble_eq_true rfl, Nat.le_of_ble_eq_true rfl⟩) (tb_prV hP hK hZ hS [0, 1] rfl (ci := 3) (q0 := 0) rfl rfl) rfl rfl hl.1 rfl (lv_room (Nat.le_of_ble_eq_true rfl)) dX3_putIn_15 ⟨Nat.zero_le _, Nat.zero_le _⟩)) (fun r_15 hr_15 => ?_)
    obtain rfl : r_15 = nI (tCnt f x n) := hr_15
    refine lv_istore_n (lv' := [(2, .int (nI (tCnt f x n))), (0, .ref h), (1, .int (nI x))]) hx hb dX3_putIn_18 rfl hl (by decide) rfl (fun ls hl => ?_)
    refine lv_aload_n hx hb dX3_putIn_19 rfl (lv_at hl 1 rfl) ?_
    refine va_get (D := D) (ci := 3) (v := .ref k) (C := RX3) (T := TX3) (N := 2) hx hb hts inX3 hown hK hP 0 rfl rfl 0 (by decide) (hts _ w_69) (fun _ h9 => h9) rfl dX3_putIn_20 ?_
    refine lv_iload_n hx hb dX3_putIn_23 rfl (lv_at hl 0 rfl) ?_
    refine lv_aload_n hx hb dX3_putIn_24 rfl (lv_at hl 1 rfl) ?_
    refine va_get (D := D) (ci := 3) (v := .ref k) (C := RX3) (T := TX3) (N := 2) hx hb hts inX3 hown hK hP 0 rfl rfl 0 (by decide) (hts _ w_69) (fun _ h9 => h9) rfl dX3_putIn_25 ?_
    refine lv_iload_n hx hb dX3_putIn_28 rfl (lv_at hl 0 rfl) ?_
    refine lv_iconst (v := nI 1) hx hb dX3_putIn_29 (by decide) ?_
    refine tb_iadd hx hb dX3_putIn_30 ?_
    refine lv_aload_n hx hb dX3_putIn_31 rfl (lv_at hl 1 rfl) ?_
    refine va_get (D := D) (ci := 3) (v := .int (nI n)) (C := RX3) (T := TX3) (N := 2) hx hb hts inX3 hown hK hP 0 rfl rfl 1 (by decide) (hts _ w_70) (fun _ h9 => h9) rfl dX3_putIn_32 ?_
    refine lv_iload_n hx hb dX3_putIn_35 rfl (lv_at hl 0 rfl) ?_
    refine tb_isub hx hb dX3_putIn_36 (by omega) ?_
    refine tb_copy hx hb (by rw [hml]; exact hl.1.symm) hown (hts _ w_147) (hts _ w_140) (hts _ w_139) (hts _ w_31) hK hP hD hS 1 0 rfl rfl (by omega) (by omega) (by omega) (Nat.le_of_ble_eq_true rfl) (Nat.le_of_ble_eq_true rfl) dX3_putIn_37 (fun H locs hP hD hS => ?_)
    have hP : va_P D vwCl [(h, .inr (3, [.ref k, .int (nI n)])), (k, .inl (ct 0, R, .inl (aN (va_cpy f f (tCnt f x n) ((tCnt f x n) + 1) (n - (tCnt f x n))))))] H := hP
    have hD : va_D A [(h, .inr (3, [.ref k, .int (nI n)])), (k, .inl (ct 0, R, .inl (aN (va_cpy f f (tCnt f x n) ((tCnt f x n) + 1) (n - (tCnt f x n))))))] := hD
    refine lv_aload_n hx hb dX3_putIn_40 rfl (lv_at hl 1 rfl) ?_
    refine va_get (D := D) (ci := 3) (v := .ref k) (C := RX3) (T := TX3) (N := 2) hx hb hts inX3 hown hK hP 0 rfl rfl 0 (by decide) (hts _ w_69) (fun _ h9 => h9) rfl dX3_putIn_41 ?_
    refine lv_iload_n hx hb dX3_putIn_44 rfl (lv_at hl 0 rfl) ?_
    refine lv_iload_n hx hb dX3_putIn_45 rfl (lv_at hl 2 rfl) ?_
    refine tb_iast hx hb hK hP hD hS 1 0 rfl rfl (by omega) (by omega) dX3_putIn_46 (fun H locs hP hD hS => ?_)
    have hP : va_P D vwCl [(h, .inr (3, [.ref k, .int (nI n)])), (k, .inl (ct 0, R, .inl (aN (va_up (va_cpy f f (tCnt f x n) ((tCnt f x n) + 1) (n - (tCnt f x n))) (tCnt f x n) x))))] H := hP
    have hD : va_D A [(h, .inr (3, [.ref k, .int (nI n)])), (k, .inl (ct 0, R, .inl (aN (va_up (va_cpy f f (tCnt f x n) ((tCnt f x n) + 1) (n - (tCnt f x n))) (tCnt f x n) x))))] := hD
    refine lv_aload_n hx hb dX3_putIn_47 rfl (lv_at hl 1 rfl) ?_
    refine lv_dup hx hb dX3_putIn_48 rfl ?_
    refine va_get (D := D) (ci := 3) (v := .int (nI n)) (C := RX3) (T := TX3) (N := 2) hx hb hts inX3 hown hK hP 0 rfl rfl 1 (by decide) (hts _ w_70) (fun _ h9 => h9) rfl dX3_putIn_49 ?_
    refine lv_iconst (v := nI 1) hx hb dX3_putIn_52 (by decide) ?_
    refine tb_iadd hx hb dX3_putIn_53 ?_
    refine va_put (D := D) (ci := 3) (v := .int (nI (n + 1))) (ty := .int) (C := RX3) (T := TX3) (N := 2) hx hb hts inX3 tyX3 tyX3_ok nmX3 hown hK hP hD hS 0 rfl rfl 1 (by decide) (hts _ w_70) (fun _ h9 => h9) rfl (by decide +kernel) rfl rfl (Nat.le_of_ble_eq_true rfl) dX3_putIn_54 (fun H locs hP hD hS => ?_)
    have hP : va_P D vwCl [(h, .inr (3, [.ref k, .int (nI (n + 1))])), (k, .inl (ct 0, R, .inl (aN (va_up (va_cpy f f (tCnt f x n) ((tCnt f x n) + 1) (n - (tCnt f x n))) (tCnt f x n) x))))] H := hP
    have hD : va_D A [(h, .inr (3, [.ref k, .int (nI (n + 1))])), (k, .inl (ct 0, R, .inl (aN (va_up (va_cpy f f (tCnt f x n) ((tCnt f x n) + 1) (n - (tCnt f x n))) (tCnt f x n) x))))] := hD
    have hP9 : va_P D vwCl [(h, .inr (3, [.ref k, .int (nI (n + 1))])), (k, .inl (ct 0, R, .inl (aN (va_up (va_cpy f f (tCnt f x n) ((tCnt f x n) + 1) (n - (tCnt f x n))) (tCnt f x n) x))))] _ := hP.sub [0, 1] rfl
    have hD9 : va_D A [(h, .inr (3, [.ref k, .int (nI (n + 1))])), (k, .inl (ct 0, R, .inl (aN (va_up (va_cpy f f (tCnt f x n) ((tCnt f x n) + 1) (n - (tCnt f x n))) (tCnt f x n) x))))] := hD.sub [0, 1] (by decide) rfl
    exact W.vret hx hb hr (fun t ht hW => ⟨⟨(), rfl, trivial, by rw [ht]; exact hP9, hD9⟩, hS.F ht⟩) hS.2.2 dX3_putIn_57
  · exfalso; omega

set_option maxHeartbeats 4000000 in
set_option maxRecDepth 100000 in
theorem k_Row_putInF (l : Launch) (D : va_G) (ct : Nat → ClassId) (h : Nat) (k : Nat) (R : Nat) (n : Nat) (f : Nat → Nat) (x : Nat) (sz : Nat) (hn : n ≤ R) (hR : R ≤ 400) (hlt : n = R) : Met l yX3_putIn wsX3_putIn ({ frames := 0, cells := 0, slots := 0, locals := 0 }) (tb_Pw D ct [.ref h, .int (nI x)] sz [(h, .inr (3, [.ref k, .int (nI n)])), (k, .inl (ct 0, R, .inl (aN f)))]) (va_Qv (fun _ => True) (tb_B D (va_A [(h, .inr (3, [.ref k, .int (nI n)])), (k, .inl (ct 0, R, .inl (aN f)))] sz) [(h, .inr (3, [.ref k, .int (nI n)])), (k, .inl (ct 0, R, .inl (aN f)))]) (va_A [(h, .inr (3, [.ref k, .int (nI n)])), (k, .inl (ct 0, R, .inl (aN f)))] sz)) 0 0 (va_A [(h, .inr (3, [.ref k, .int (nI n)])), (k, .inl (ct 0, R, .inl (aN f)))] sz) := by
  refine Met.ofW (cc := cX3_putIn) (maxL := 3) (ret := none) (by decide) rfl ?_
  intro p e s m args below meth c s₁ B hml hv
  obtain ⟨rfl, hsz, hP, hK, hD0, hZ⟩ := hv
  have hx := B.exec
  have hb := B.bytes
  have hr := B.returns
  have hts0 := atoms_spec (ws := wsX3_putIn) B.pre
  have hts : ∀ w9 ∈ aw, w9.before ([.ref h, .int (nI x)] : List Value).toArray s = true := fun w9 h9 => hts0 w9 (List.mem_cons_of_mem _ h9)
  have hown : s.vm.findClass RX3 = some m.cls := findClass_of_methodNamed B.named
  have hlocks := B.notSynchronized
  subst hsz
  have hD := hD0.self (sz := s.heap.size)
  generalize hAe : va_A [(h, .inr (3, [.ref k, .int (nI n)])), (k, .inl (ct 0, R, .inl (aN f)))] s.heap.size = A at hD hZ ⊢
  have hA : ∀ q : Nat, s.heap.size ≤ q → A q := fun q h => by rw [← hAe]; exact Or.inr h
  have hS : va_S A s.heap s.heap [] := va_S.rf
  have hP : va_P D vwCl [(h, .inr (3, [.ref k, .int (nI n)])), (k, .inl (ct 0, R, .inl (aN f)))] s.heap := hP
  have hl := lv_entry ([.ref h, .int (nI x)]) (n := 3) (Nat.le_of_ble_eq_true rfl)
  rw [lg_entry_eq]
  generalize (lg_sl ([.ref h, .int (nI x)]) ++ List.replicate (3 - (lg_sl ([.ref h, .int (nI x)])).length) Slot.unset).toArray = ls at hl ⊢
  have hl : lv_has ls 3 [(0, .ref h), (1, .int (nI x))] := hl
  refine lv_aload_n hx hb dX3_putIn_0 rfl (lv_at hl 0 rfl) ?_
  refine va_get (D := D) (ci := 3) (v := .int (nI n)) (C := RX3) (T := TX3) (N := 2) hx hb hts inX3 hown hK hP 0 rfl rfl 1 (by decide) (hts _ w_70) (fun _ h9 => h9) rfl dX3_putIn_1 ?_
  refine lv_aload_n hx hb dX3_putIn_4 rfl (lv_at hl 0 rfl) ?_
  refine va_get (D := D) (ci := 3) (v := .ref k) (C := RX3) (T := TX3) (N := 2) hx hb hts inX3 hown hK hP 0 rfl rfl 0 (by decide) (hts _ w_69) (fun _ h9 => h9) rfl dX3_putIn_5 ?_
  refine tb_alen hx hb hK hP 1 0 rfl rfl dX3_putIn_8 ?_
  refine tb_icmp_lt (tgt := 13) hx hb dX3_putIn_9 (by decide) (by omega) (by omega) (fun c9 => ?_) (fun c9 => ?_)
  · exfalso; omega
  · have hP9 : va_P D vwCl [(h, .inr (3, [.ref k, .int (nI n)])), (k, .inl (ct 0, R, .inl (aN f)))] _ := hP.sub [0, 1] rfl
    have hD9 : va_D A [(h, .inr (3, [.ref k, .int (nI n)])), (k, .inl (ct 0, R, .inl (aN f)))] := hD.sub [0, 1] (by decide) rfl
    exact W.vret hx hb hr (fun t ht hW => ⟨⟨(), rfl, trivial, by rw [ht]; exact hP9, hD9⟩, hS.F ht⟩) hS.2.2 dX3_putIn_12

set_option maxHeartbeats 4000000 in
set_option maxRecDepth 100000 in
theorem k_Row_takeOutAt (l : Launch) (D : va_G) (ct : Nat → ClassId) (h : Nat) (k : Nat) (R : Nat) (n : Nat) (f : Nat → Nat) (i : Nat) (sz : Nat) (hn : n ≤ R) (hR : R ≤ 400) (hi : i < n) : Met l yX3_takeOutAt wsX3_takeOutAt ({ frames := 1, cells := 0, slots := 0, locals := 36 }) (tb_Pw D ct [.ref h, .int (nI i)] sz [(h, .inr (3, [.ref k, .int (nI n)])), (k, .inl (ct 0, R, .inl (aN f)))]) (va_Qv (fun _ => True) (tb_B D (va_A [(h, .inr (3, [.ref k, .int (nI n)])), (k, .inl (ct 0, R, .inl (aN f)))] sz) [(h, .inr (3, [.ref k, .int (nI (n - 1))])), (k, .inl (ct 0, R, .inl (aN (tTake f n i))))]) (va_A [(h, .inr (3, [.ref k, .int (nI n)])), (k, .inl (ct 0, R, .inl (aN f)))] sz)) 0 0 (va_A [(h, .inr (3, [.ref k, .int (nI n)])), (k, .inl (ct 0, R, .inl (aN f)))] sz) := by
  refine Met.ofW (cc := cX3_takeOutAt) (maxL := 2) (ret := none) (by decide) rfl ?_
  intro p e s m args below meth c s₁ B hml hv
  obtain ⟨rfl, hsz, hP, hK, hD0, hZ⟩ := hv
  have hx := B.exec
  have hb := B.bytes
  have hr := B.returns
  have hts0 := atoms_spec (ws := wsX3_takeOutAt) B.pre
  have hts : ∀ w9 ∈ aw, w9.before ([.ref h, .int (nI i)] : List Value).toArray s = true := fun w9 h9 => hts0 w9 (List.mem_cons_of_mem _ h9)
  have hown : s.vm.findClass RX3 = some m.cls := findClass_of_methodNamed B.named
  have hlocks := B.notSynchronized
  subst hsz
  have hD := hD0.self (sz := s.heap.size)
  generalize hAe : va_A [(h, .inr (3, [.ref k, .int (nI n)])), (k, .inl (ct 0, R, .inl (aN f)))] s.heap.size = A at hD hZ ⊢
  have hA : ∀ q : Nat, s.heap.size ≤ q → A q := fun q h => by rw [← hAe]; exact Or.inr h
  have hS : va_S A s.heap s.heap [] := va_S.rf
  have hP : va_P D vwCl [(h, .inr (3, [.ref k, .int (nI n)])), (k, .inl (ct 0, R, .inl (aN f)))] s.heap := hP
  have hl := lv_entry ([.ref h, .int (nI i)]) (n := 2) (Nat.le_of_ble_eq_true rfl)
  rw [lg_entry_eq]
  generalize (lg_sl ([.ref h, .int (nI i)]) ++ List.replicate (2 - (lg_sl ([.ref h, .int (nI i)])).length) Slot.unset).toArray = ls at hl ⊢
  have hl : lv_has ls 2 [(0, .ref h), (1, .int (nI i))] := hl
  refine lv_iload_n hx hb dX3_takeOutAt_0 rfl (lv_at hl 1 rfl) ?_
  refine tb_if_lt (tgt := 12) hx hb dX3_takeOutAt_1 (by decide) (by omega) ?_
  refine lv_iload_n hx hb dX3_takeOutAt_4 rfl (lv_at hl 1 rfl) ?_
  refine lv_aload_n hx hb dX3_takeOutAt_5 rfl (lv_at hl 0 rfl) ?_
  refine va_get (D := D) (ci := 3) (v := .int (nI n)) (C := RX3) (T := TX3) (N := 2) hx hb hts inX3 hown hK hP 0 rfl rfl 1 (by decide) (hts _ w_70) (fun _ h9 => h9) rfl dX3_takeOutAt_6 ?_
  refine tb_icmp_lt (tgt := 13) hx hb dX3_takeOutAt_9 (by decide) (by omega) (by omega) (fun c9 => ?_) (fun c9 => ?_)
  · refine lv_aload_n hx hb dX3_takeOutAt_13 rfl (lv_at hl 0 rfl) ?_
    refine va_get (D := D) (ci := 3) (v := .ref k) (C := RX3) (T := TX3) (N := 2) hx hb hts inX3 hown hK hP 0 rfl rfl 0 (by decide) (hts _ w_69) (fun _ h9 => h9) rfl dX3_takeOutAt_14 ?_
    refine lv_iload_n hx hb dX3_takeOutAt_17 rfl (lv_at hl 1 rfl) ?_
    refine lv_iconst (v := nI 1) hx hb dX3_takeOutAt_18 (by decide) ?_
    refine tb_iadd hx hb dX3_takeOutAt_19 ?_
    refine lv_aload_n hx hb dX3_takeOutAt_20 rfl (lv_at hl 0 rfl) ?_
    refine va_get (D := D) (ci := 3) (v := .ref k) (C := RX3) (T := TX3) (N := 2) hx hb hts inX3 hown hK hP 0 rfl rfl 0 (by decide) (hts _ w_69) (fun _ h9 => h9) rfl dX3_takeOutAt_21 ?_
    refine lv_iload_n hx hb dX3_takeOutAt_24 rfl (lv_at hl 1 rfl) ?_
    refine lv_aload_n hx hb dX3_takeOutAt_25 rfl (lv_at hl 0 rfl) ?_
    refine va_get (D := D) (ci := 3) (v := .int (nI n)) (C := RX3) (T := TX3) (N := 2) hx hb hts inX3 hown hK hP 0 rfl rfl 1 (by decide) (hts _ w_70) (fun _ h9 => h9) rfl dX3_takeOutAt_26 ?_
    refine lv_iload_n hx hb dX3_takeOutAt_29 rfl (lv_at hl 1 rfl) ?_
    refine tb_isub hx hb dX3_takeOutAt_30 (by omega) ?_
    refine lv_iconst (v := nI 1) hx hb dX3_takeOutAt_31 (by decide) ?_
    refine tb_isub hx hb dX3_takeOutAt_32 (by omega) ?_
    refine tb_copy hx hb (by rw [hml]; exact hl.1.symm) hown (hts _ w_147) (hts _ w_140) (hts _ w_139) (hts _ w_31) hK hP hD hS 1 0 rfl rfl (by omega) (by omega) (by omega) (Nat.le_of_ble_eq_true rfl) (Nat.le_of_ble_eq_true rfl) dX3_takeOutAt_33 (fun H locs hP hD hS => ?_)
    have hP : va_P D vwCl [(h, .inr (3, [.ref k, .int (nI n)])), (k, .inl (ct 0, R, .inl (aN (va_cpy f f (i + 1) i ((n - i) - 1)))))] H := hP
    have hD : va_D A [(h, .inr (3, [.ref k, .int (nI n)])), (k, .inl (ct 0, R, .inl (aN (va_cpy f f (i + 1) i ((n - i) - 1)))))] := hD
    refine lv_aload_n hx hb dX3_takeOutAt_36 rfl (lv_at hl 0 rfl) ?_
    refine lv_dup hx hb dX3_takeOutAt_37 rfl ?_
    refine va_get (D := D) (ci := 3) (v := .int (nI n)) (C := RX3) (T := TX3) (N := 2) hx hb hts inX3 hown hK hP 0 rfl rfl 1 (by decide) (hts _ w_70) (fun _ h9 => h9) rfl dX3_takeOutAt_38 ?_
    refine lv_iconst (v := nI 1) hx hb dX3_takeOutAt_41 (by decide) ?_
    refine tb_isub hx hb dX3_takeOutAt_42 (by omega) ?_
    refine va_put (D := D) (ci := 3) (v := .int (nI (n - 1))) (ty := .int) (C := RX3) (T := TX3) (N := 2) hx hb hts inX3 tyX3 tyX3_ok nmX3 hown hK hP hD hS 0 rfl rfl 1 (by decide) (hts _ w_70) (fun _ h9 => h9) rfl (by decide +kernel) rfl rfl (Nat.le_of_ble_eq_true rfl) dX3_takeOutAt_43 (fun H locs hP hD hS => ?_)
    have hP : va_P D vwCl [(h, .inr (3, [.ref k, .int (nI (n - 1))])), (k, .inl (ct 0, R, .inl (aN (va_cpy f f (i + 1) i ((n - i) - 1)))))] H := hP
    have hD : va_D A [(h, .inr (3, [.ref k, .int (nI (n - 1))])), (k, .inl (ct 0, R, .inl (aN (va_cpy f f (i + 1) i ((n - i) - 1)))))] := hD
    have hP9 : va_P D vwCl [(h, .inr (3, [.ref k, .int (nI (n - 1))])), (k, .inl (ct 0, R, .inl (aN (va_cpy f f (i + 1) i ((n - i) - 1)))))] _ := hP.sub [0, 1] rfl
    have hD9 : va_D A [(h, .inr (3, [.ref k, .int (nI (n - 1))])), (k, .inl (ct 0, R, .inl (aN (va_cpy f f (i + 1) i ((n - i) - 1)))))] := hD.sub [0, 1] (by decide) rfl
    exact W.vret hx hb hr (fun t ht hW => ⟨⟨(), rfl, trivial, by rw [ht]; exact hP9, hD9⟩, hS.F ht⟩) hS.2.2 dX3_takeOutAt_46
  · exfalso; omega
