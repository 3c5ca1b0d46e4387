set_option maxHeartbeats 4000000 in
set_option maxRecDepth 100000 in
theorem k_fill (l : Launch) (D : va_G) (ct : Nat → ClassId) (ty : Nat) (R : Nat) (T : Nat → Nat) (u : Nat) (sz : Nat) (hR : R ≤ 1000) : Met l yJ7_fill wsJ7_fill ({ frames := 0, cells := 0, slots := 0, locals := 0 }) (tb_Pw D ct [.ref ty, .int (nI u)] sz [(ty, .inl (ct 0, R, .inl (aN T)))]) (va_Qv (fun _ => True) (tb_B D (va_A [(ty, .inl (ct 0, R, .inl (aN T)))] sz) [(ty, .inl (ct 0, R, .inl (aN (tFl T u R))))]) (va_A [(ty, .inl (ct 0, R, .inl (aN T)))] sz)) 0 0 (va_A [(ty, .inl (ct 0, R, .inl (aN T)))] sz) := by
  refine Met.ofW (cc := cJ7_fill) (maxL := 4) (ret := none) (by decide) rfl ?_
  intro p e s m args below meth c s₁ B hml hv
  obtain ⟨rfl, hsz, hP, hK, hD0, hZ⟩ := hv
  have hx := B.exec
  have hb := B.bytes
  have hr := B.returns
  have hts0 := atoms_spec (ws := wsJ7_fill) B.pre
  have hts : ∀ w9 ∈ aw, w9.before ([.ref ty, .int (nI u)] : List Value).toArray s = true := fun w9 h9 => hts0 w9 (List.mem_cons_of_mem _ h9)
  have hown : s.vm.findClass RJ7 = some m.cls := findClass_of_methodNamed B.named
  have hlocks := B.notSynchronized
  subst hsz
  have hD := hD0.self (sz := s.heap.size)
  generalize hAe : va_A [(ty, .inl (ct 0, R, .inl (aN T)))] s.heap.size = A at hD hZ ⊢
  have hA : ∀ q : Nat, s.heap.size ≤ q → A q := fun q h => by rw [← hAe]; exact Or.inr h
  have hS : va_S A s.heap s.heap [] := va_S.rf
  have hP : va_P D vwCl [(ty, .inl (ct 0, R, .inl (aN T)))] s.heap := hP
  have hl := lv_entry ([.ref ty, .int (nI u)]) (n := 4) (Nat.le_of_ble_eq_true rfl)
  rw [lg_entry_eq]
  generalize (lg_sl ([.ref ty, .int (nI u)]) ++ List.replicate (4 - (lg_sl ([.ref ty, .int (nI u)])).length) Slot.unset).toArray = ls at hl ⊢
  have hl : lv_has ls 4 [(0, .ref ty), (1, .int (nI u))] := hl
  refine lv_iconst (v := nI 0) hx hb dJ7_fill_0 (by decide) ?_
  refine lv_istore_n (lv' := [(2, .int (nI 0)), (0, .ref ty), (1, .int (nI u))]) hx hb dJ7_fill_1 rfl hl (by decide) rfl (fun ls hl => ?_)
  refine lv_aload_n hx hb dJ7_fill_2 rfl (lv_at hl 1 rfl) ?_
  refine tb_alen hx hb hK hP 0 0 rfl rfl dJ7_fill_3 ?_
  refine lv_istore_n (lv' := [(3, .int (nI R)), (2, .int (nI 0)), (0, .ref ty), (1, .int (nI u))]) hx hb dJ7_fill_4 rfl hl (by decide) rfl (fun ls hl => ?_)
  have hl5 : ∀ (N9 : Nat) (i : Nat), R - i < N9 → (i ≤ R) → ∀ (H : Heap) (locs : List Loc), va_P D vwCl [(ty, .inl (ct 0, R, .inl (aN (tFl T u i))))] H → va_D A [(ty, .inl (ct 0, R, .inl (aN (tFl T u i))))] → va_S A s.heap H locs → ∀ (ls : Array Slot), lv_has ls 4 [(0, .ref ty), (1, .int (nI u)), (2, .int (nI i)), (3, .int (nI R))] → W p l e (headSpec wsJ7_fill ({ frames := 0, cells := 0, slots := 0, locals := 0 })).room s m ([.ref ty, .int (nI u)] : List Value).toArray below meth c H locs 0 0 (MQ below (va_Qv (fun _ => True) (tb_B D A [(ty, .inl (ct 0, R, .inl (aN (tFl T u R))))]) A) ([.ref ty, .int (nI u)] : List Value).toArray s 0 0 A) (F0 m 5 ls []) := by
    intro N9
    induction N9 with
    | zero => intro i h9; exact absurd h9 (Nat.not_lt_zero _)
    | succ N9 ih5 =>
      intro i h9 h1 H locs hP hD hS ls hl
      refine lv_iload_n hx hb dJ7_fill_5 rfl (lv_at hl 2 rfl) ?_
      refine lv_iload_n hx hb dJ7_fill_6 rfl (lv_at hl 3 rfl) ?_
      refine tb_icmp_ge (tgt := 20) hx hb dJ7_fill_7 (by decide) (by omega) (by omega) (fun c7 => ?_) (fun c7 => ?_)
      · have e9 : R = i := by omega
        subst e9
        have hP9 : va_P D vwCl [(ty, .inl (ct 0, R, .inl (aN (tFl T u R))))] _ := hP.sub [0] rfl
        have hD9 : va_D A [(ty, .inl (ct 0, R, .inl (aN (tFl T u R))))] := hD.sub [0] (by decide) rfl
        exact W.vret hx hb hr (fun t ht hW => ⟨⟨(), rfl, trivial, by rw [ht]; exact hP9, hD9⟩, hS.F ht⟩) hS.2.2 dJ7_fill_20
      · refine lv_aload_n hx hb dJ7_fill_10 rfl (lv_at hl 0 rfl) ?_
        refine lv_iload_n hx hb dJ7_fill_11 rfl (lv_at hl 2 rfl) ?_
        refine lv_iload_n hx hb dJ7_fill_12 rfl (lv_at hl 1 rfl) ?_
        refine tb_iast hx hb hK hP hD hS 0 0 rfl rfl (by omega) (by omega) dJ7_fill_13 (fun H locs hP hD hS => ?_)
        have hP : va_P D vwCl [(ty, .inl (ct 0, R, .inl (aN (va_up (tFl T u i) i u))))] H := hP
        have hD : va_D A [(ty, .inl (ct 0, R, .inl (aN (va_up (tFl T u i) i u))))] := hD
        refine lv_iinc (v := nI (i + 1)) (lv' := [(2, .int (nI (i + 1))), (0, .ref ty), (1, .int (nI u)), (3, .int (nI R))]) hx hb dJ7_fill_14 hl (k := 2) rfl (tb_inc i rfl) (by decide) rfl (fun ls hl => ?_)
        refine lv_goto (tgt := 5) hx hb dJ7_fill_17 (by decide) ?_
        exact ih5 (i + 1) (by omega) (by omega) _ _ (hP.sub [0] rfl) (hD.sub [0] (by decide) rfl) hS _ (lv_sub hl [1, 2, 0, 3] rfl)
  exact hl5 _ 0 (Nat.lt_succ_self _) (by omega) _ _ (hP.sub [0] rfl) (hD.sub [0] (by decide) rfl) hS _ (lv_sub hl [2, 3, 1, 0] rfl)
