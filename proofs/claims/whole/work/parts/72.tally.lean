set_option maxHeartbeats 4000000 in
set_option maxRecDepth 100000 in
theorem k_tally (l : Launch) (D : va_G) (ct : Nat → ClassId) (mo : Nat) (g : Nat) (pr : Nat) (hh : Nat) (rh : Nat) (aq : Nat) (ld : Nat) (lc : Nat) (nh : Nat) (ty : Nat) (t : Nat) (a0 : Nat) (a1 : Nat) (a2 : Nat) (v : Nat) (w : Nat) (R : Nat) (n : Nat) (X : Nat → Nat) (Y : Nat → Nat) (Z : Nat → Nat) (V : Nat → Nat) (E : Nat → Nat) (now : Nat) (cu : Option Nat) (r : Nat) (o : Nat) (a : Option Nat) (b : Option Nat) (T : Nat → Nat) (u : Nat) (vv : Nat) (sz : Nat) (hn : n ≤ R) (hR : R ≤ 400) (hV : ∀ j, V j < 2 ^ 31) (hE : ∀ j, E j < 2 ^ 31) (hX : ∀ j, X j < 1000) (hY : ∀ j, Y j < 1000) (hW : ∀ j, Z j < 1000) (ho : o < 6) (ha : ∀ j, a = some j → j < 1000) (hb9 : ∀ j, b = some j → j < 1000) (hv : vv < 1000001) (hT : ∀ j, T j < 2 ^ 31) (hu : u < 1000) : Met l yX4_tallyFreeTerms wsX4_tallyFreeTerms ({ frames := 3, cells := 0, slots := 0, locals := 66 }) (tb_Pw D ct [.ref mo, .ref r, .int (nI u), .int (nI vv)] sz [(mo, .inr (4, [.ref g, .ref pr, .ref hh, .ref rh, .ref aq, .ref ld, .int (nI lc), .ref nh, .ref ty])), (g, .inr (0, [.ref t, .ref v, .ref w, .int (nI n), .int (nI now), .int (oI cu)])), (t, .inl (ct 1, 3, .inr (.inr (.inr (.inr (tb_3 a0 a1 a2)))))), (a0, .inl (ct 0, R, .inl (aN X))), (a1, .inl (ct 0, R, .inl (aN Y))), (a2, .inl (ct 0, R, .inl (aN Z))), (v, .inl (ct 0, R, .inl (aN V))), (w, .inl (ct 0, R, .inl (aN E))), (r, .inr (2, [.int (nI o), .int (oI a), .int (oI b)])), (ty, .inl (ct 0, 1000, .inl (aN T)))]) (va_Qv (fun _ => True) (tb_B D (va_A [(mo, .inr (4, [.ref g, .ref pr, .ref hh, .ref rh, .ref aq, .ref ld, .int (nI lc), .ref nh, .ref ty])), (g, .inr (0, [.ref t, .ref v, .ref w, .int (nI n), .int (nI now), .int (oI cu)])), (t, .inl (ct 1, 3, .inr (.inr (.inr (.inr (tb_3 a0 a1 a2)))))), (a0, .inl (ct 0, R, .inl (aN X))), (a1, .inl (ct 0, R, .inl (aN Y))), (a2, .inl (ct 0, R, .inl (aN Z))), (v, .inl (ct 0, R, .inl (aN V))), (w, .inl (ct 0, R, .inl (aN E))), (r, .inr (2, [.int (nI o), .int (oI a), .int (oI b)])), (ty, .inl (ct 0, 1000, .inl (aN T)))] sz) [(mo, .inr (4, [.ref g, .ref pr, .ref hh, .ref rh, .ref aq, .ref ld, .int (nI lc), .ref nh, .ref ty])), (g, .inr (0, [.ref t, .ref v, .ref w, .int (nI n), .int (nI now), .int (oI cu)])), (t, .inl (ct 1, 3, .inr (.inr (.inr (.inr (tb_3 a0 a1 a2)))))), (a0, .inl (ct 0, R, .inl (aN X))), (a1, .inl (ct 0, R, .inl (aN Y))), (a2, .inl (ct 0, R, .inl (aN Z))), (v, .inl (ct 0, R, .inl (aN V))), (w, .inl (ct 0, R, .inl (aN E))), (r, .inr (2, [.int (nI o), .int (oI a), .int (oI b)])), (ty, .inl (ct 0, 1000, .inl (aN (tTa (fun i => decide (tTh V E vv i ∧ tCov a b (tPick (taF (o * 3 + 0)) (X i) (Y i) (Z i)) (tPick (taF (o * 3 + 1)) (X i) (Y i) (Z i)))) (fun i => tPick (taF (o * 3 + tFree a b)) (X i) (Y i) (Z i)) u T n))))]) (va_A [(mo, .inr (4, [.ref g, .ref pr, .ref hh, .ref rh, .ref aq, .ref ld, .int (nI lc), .ref nh, .ref ty])), (g, .inr (0, [.ref t, .ref v, .ref w, .int (nI n), .int (nI now), .int (oI cu)])), (t, .inl (ct 1, 3, .inr (.inr (.inr (.inr (tb_3 a0 a1 a2)))))), (a0, .inl (ct 0, R, .inl (aN X))), (a1, .inl (ct 0, R, .inl (aN Y))), (a2, .inl (ct 0, R, .inl (aN Z))), (v, .inl (ct 0, R, .inl (aN V))), (w, .inl (ct 0, R, .inl (aN E))), (r, .inr (2, [.int (nI o), .int (oI a), .int (oI b)])), (ty, .inl (ct 0, 1000, .inl (aN T)))] sz)) 0 0 (va_A [(mo, .inr (4, [.ref g, .ref pr, .ref hh, .ref rh, .ref aq, .ref ld, .int (nI lc), .ref nh, .ref ty])), (g, .inr (0, [.ref t, .ref v, .ref w, .int (nI n), .int (nI now), .int (oI cu)])), (t, .inl (ct 1, 3, .inr (.inr (.inr (.inr (tb_3 a0 a1 a2)))))), (a0, .inl (ct 0, R, .inl (aN X))), (a1, .inl (ct 0, R, .inl (aN Y))), (a2, .inl (ct 0, R, .inl (aN Z))), (v, .inl (ct 0, R, .inl (aN V))), (w, .inl (ct 0, R, .inl (aN E))), (r, .inr (2, [.int (nI o), .int (oI a), .int (oI b)])), (ty, .inl (ct 0, 1000, .inl (aN T)))] sz) := by
  refine Met.ofW (cc := cX4_tallyFreeTerms) (maxL := 7) (ret := none) (by decide) rfl ?_
  intro p e s m args below meth c s₁ B hml hv
  obtain ⟨rfl, hsz, hP, hK, hD0, hZ⟩ := hv
  have hx := B.exec
  have hb := B.bytes
  have hr := B.returns
  have hts0 := atoms_spec (ws := wsX4_tallyFreeTerms) B.pre
  have hts : ∀ w9 ∈ aw, w9.before ([.ref mo, .ref r, .int (nI u), .int (nI vv)] : List Value).toArray s = true := fun w9 h9 => hts0 w9 (List.mem_cons_of_mem _ h9)
  have hown : s.vm.findClass RX4 = some m.cls := findClass_of_methodNamed B.named
  have hlocks := B.notSynchronized
  subst hsz
  have hD := hD0.self (sz := s.heap.size)
  generalize hAe : va_A [(mo, .inr (4, [.ref g, .ref pr, .ref hh, .ref rh, .ref aq, .ref ld, .int (nI lc), .ref nh, .ref ty])), (g, .inr (0, [.ref t, .ref v, .ref w, .int (nI n), .int (nI now), .int (oI cu)])), (t, .inl (ct 1, 3, .inr (.inr (.inr (.inr (tb_3 a0 a1 a2)))))), (a0, .inl (ct 0, R, .inl (aN X))), (a1, .inl (ct 0, R, .inl (aN Y))), (a2, .inl (ct 0, R, .inl (aN Z))), (v, .inl (ct 0, R, .inl (aN V))), (w, .inl (ct 0, R, .inl (aN E))), (r, .inr (2, [.int (nI o), .int (oI a), .int (oI b)])), (ty, .inl (ct 0, 1000, .inl (aN T)))] s.heap.size = A at hD hZ ⊢
  have hA : ∀ q : Nat, s.heap.size ≤ q → A q := fun q h => by rw [← hAe]; exact Or.inr h
  have hS : va_S A s.heap s.heap [] := va_S.rf
  have hP : va_P D vwCl [(mo, .inr (4, [.ref g, .ref pr, .ref hh, .ref rh, .ref aq, .ref ld, .int (nI lc), .ref nh, .ref ty])), (g, .inr (0, [.ref t, .ref v, .ref w, .int (nI n), .int (nI now), .int (oI cu)])), (t, .inl (ct 1, 3, .inr (.inr (.inr (.inr (tb_3 a0 a1 a2)))))), (a0, .inl (ct 0, R, .inl (aN X))), (a1, .inl (ct 0, R, .inl (aN Y))), (a2, .inl (ct 0, R, .inl (aN Z))), (v, .inl (ct 0, R, .inl (aN V))), (w, .inl (ct 0, R, .inl (aN E))), (r, .inr (2, [.int (nI o), .int (oI a), .int (oI b)])), (ty, .inl (ct 0, 1000, .inl (aN T)))] s.heap := hP
  have hl := lv_entry ([.ref mo, .ref r, .int (nI u), .int (nI vv)]) (n := 7) (Nat.le_of_ble_eq_true rfl)
  rw [lg_entry_eq]
  generalize (lg_sl ([.ref mo, .ref r, .int (nI u), .int (nI vv)]) ++ List.replicate (7 - (lg_sl ([.ref mo, .ref r, .int (nI u), .int (nI vv)])).length) Slot.unset).toArray = ls at hl ⊢
  have hl : lv_has ls 7 [(0, .ref mo), (1, .ref r), (2, .int (nI u)), (3, .int (nI vv))] := hl
  have hfr := tFree_lt a b
  refine lv_aload_n hx hb dX4_tallyFreeTerms_0 rfl (lv_at hl 1 rfl) ?_
  refine vp_callSi (va_Run.run (va_runV (As := []) (rest := []) ⟨hx, hb, hml, hown, hts⟩ (k_Range_freePlace l D ct r o a b ha hb9) (cwV 0 hts (gw_V (fun _ h => h) w_227 w_228 w_229 w_29 wcX2_freePlace) rfl rfl rfl hvX2_freePlace ⟨Nat.le_of_ble_eq_true rfl, Nat.le_of_ble_eq_true rfl⟩) (tb_prV hP hK hZ hS [8] rfl (ci := 2) (q0 := 0) rfl rfl) rfl rfl hl.1 rfl (lv_room (Nat.le_of_ble_eq_true rfl)) dX4_tallyFreeTerms_1 ⟨Nat.zero_le _, Nat.zero_le _⟩)) (fun r_1 hr_1 => ?_)
  obtain rfl : r_1 = nI (tFree a b) := hr_1
  refine lv_istore (lv' := [(4, .int (nI (tFree a b))), (0, .ref mo), (1, .ref r), (2, .int (nI u)), (3, .int (nI vv))]) hx hb dX4_tallyFreeTerms_4 hl (by decide) rfl (fun ls hl => ?_)
  refine lv_iconst (v := nI 0) hx hb dX4_tallyFreeTerms_6 (by decide) ?_
  refine lv_istore (lv' := [(5, .int (nI 0)), (4, .int (nI (tFree a b))), (0, .ref mo), (1, .ref r), (2, .int (nI u)), (3, .int (nI vv))]) hx hb dX4_tallyFreeTerms_7 hl (by decide) rfl (fun ls hl => ?_)
  have hl9 : ∀ (N9 : Nat) (i : Nat), n - i < N9 → (i ≤ n) → ∀ (H : Heap) (locs : List Loc), va_P D vwCl [(mo, .inr (4, [.ref g, .ref pr, .ref hh, .ref rh, .ref aq, .ref ld, .int (nI lc), .ref nh, .ref ty])), (g, .inr (0, [.ref t, .ref v, .ref w, .int (nI n), .int (nI now), .int (oI cu)])), (t, .inl (ct 1, 3, .inr (.inr (.inr (.inr (tb_3 a0 a1 a2)))))), (a0, .inl (ct 0, R, .inl (aN X))), (a1, .inl (ct 0, R, .inl (aN Y))), (a2, .inl (ct 0, R, .inl (aN Z))), (v, .inl (ct 0, R, .inl (aN V))), (w, .inl (ct 0, R, .inl (aN E))), (r, .inr (2, [.int (nI o), .int (oI a), .int (oI b)])), (ty, .inl (ct 0, 1000, .inl (aN (tTa (fun i => decide (tTh V E vv i ∧ tCov a b (tPick (taF (o * 3 + 0)) (X i) (Y i) (Z i)) (tPick (taF (o * 3 + 1)) (X i) (Y i) (Z i)))) (fun i => tPick (taF (o * 3 + tFree a b)) (X i) (Y i) (Z i)) u T i))))] H → va_D A [(mo, .inr (4, [.ref g, .ref pr, .ref hh, .ref rh, .ref aq, .ref ld, .int (nI lc), .ref nh, .ref ty])), (g, .inr (0, [.ref t, .ref v, .ref w, .int (nI n), .int (nI now), .int (oI cu)])), (t, .inl (ct 1, 3, .inr (.inr (.inr (.inr (tb_3 a0 a1 a2)))))), (a0, .inl (ct 0, R, .inl (aN X))), (a1, .inl (ct 0, R, .inl (aN Y))), (a2, .inl (ct 0, R, .inl (aN Z))), (v, .inl (ct 0, R, .inl (aN V))), (w, .inl (ct 0, R, .inl (aN E))), (r, .inr (2, [.int (nI o), .int (oI a), .int (oI b)])), (ty, .inl (ct 0, 1000, .inl (aN (tTa (fun i => decide (tTh V E vv i ∧ tCov a b (tPick (taF (o * 3 + 0)) (X i) (Y i) (Z i)) (tPick (taF (o * 3 + 1)) (X i) (Y i) (Z i)))) (fun i => tPick (taF (o * 3 + tFree a b)) (X i) (Y i) (Z i)) u T i))))] → va_S A s.heap H locs → ∀ (ls : Array Slot), lv_has ls 7 [(0, .ref mo), (1, .ref r), (2, .int (nI u)), (3, .int (nI vv)), (4, .int (nI (tFree a b))), (5, .int (nI i))] → W p l e (headSpec wsX4_tallyFreeTerms ({ frames := 3, cells := 0, slots := 0, locals := 66 })).room s m ([.ref mo, .ref r, .int (nI u), .int (nI vv)] : List Value).toArray below meth c H locs 0 0 (MQ below (va_Qv (fun _ => True) (tb_B D A [(mo, .inr (4, [.ref g, .ref pr, .ref hh, .ref rh, .ref aq, .ref ld, .int (nI lc), .ref nh, .ref ty])), (g, .inr (0, [.ref t, .ref v, .ref w, .int (nI n), .int (nI now), .int (oI cu)])), (t, .inl (ct 1, 3, .inr (.inr (.inr (.inr (tb_3 a0 a1 a2)))))), (a0, .inl (ct 0, R, .inl (aN X))), (a1, .inl (ct 0, R, .inl (aN Y))), (a2, .inl (ct 0, R, .inl (aN Z))), (v, .inl (ct 0, R, .inl (aN V))), (w, .inl (ct 0, R, .inl (aN E))), (r, .inr (2, [.int (nI o), .int (oI a), .int (oI b)])), (ty, .inl (ct 0, 1000, .inl (aN (tTa (fun i => decide (tTh V E vv i ∧ tCov a b (tPick (taF (o * 3 + 0)) (X i) (Y i) (Z i)) (tPick (taF (o * 3 + 1)) (X i) (Y i) (Z i)))) (fun i => tPick (taF (o * 3 + tFree a b)) (X i) (Y i) (Z i)) u T n))))]) A) ([.ref mo, .ref r, .int (nI u), .int (nI vv)] : List Value).toArray s 0 0 A) (F0 m 9 ls []) := by
    intro N9
    induction N9 with
    | zero => intro i h9; exact absurd h9 (Nat.not_lt_zero _)
    | succ N9 ih9 =>
      intro i h9 h1 H locs hP hD hS ls hl
      refine lv_iload hx hb dX4_tallyFreeTerms_9 (lv_at hl 5 rfl) ?_
      refine lv_aload_n hx hb dX4_tallyFreeTerms_11 rfl (lv_at hl 0 rfl) ?_
      refine va_get (D := D) (ci := 4) (v := .ref g) (C := RX4) (T := TX4) (N := 9) hx hb hts inX4 hown hK hP 0 rfl rfl 0 (by decide) (hts _ w_87) (fun _ h9 => h9) rfl dX4_tallyFreeTerms_12 ?_
      refine va_get (D := D) (ci := 0) (v := .int (nI n)) (C := RX0) (T := TX0) (N := 6) hx hb hts inX0 hown hK hP 1 rfl rfl 3 (by decide) (hts _ w_53) (fun _ h9 => h9) rfl dX4_tallyFreeTerms_15 ?_
      refine tb_icmp_ge (tgt := 99) hx hb dX4_tallyFreeTerms_18 (by decide) (by omega) (by omega) (fun c18 => ?_) (fun c18 => ?_)
      · have e9 : n = i := by omega
        subst e9
        have hP9 : va_P D vwCl [(mo, .inr (4, [.ref g, .ref pr, .ref hh, .ref rh, .ref aq, .ref ld, .int (nI lc), .ref nh, .ref ty])), (g, .inr (0, [.ref t, .ref v, .ref w, .int (nI n), .int (nI now), .int (oI cu)])), (t, .inl (ct 1, 3, .inr (.inr (.inr (.inr (tb_3 a0 a1 a2)))))), (a0, .inl (ct 0, R, .inl (aN X))), (a1, .inl (ct 0, R, .inl (aN Y))), (a2, .inl (ct 0, R, .inl (aN Z))), (v, .inl (ct 0, R, .inl (aN V))), (w, .inl (ct 0, R, .inl (aN E))), (r, .inr (2, [.int (nI o), .int (oI a), .int (oI b)])), (ty, .inl (ct 0, 1000, .inl (aN (tTa (fun n => decide (tTh V E vv n ∧ tCov a b (tPick (taF (o * 3 + 0)) (X n) (Y n) (Z n)) (tPick (taF (o * 3 + 1)) (X n) (Y n) (Z n)))) (fun n => tPick (taF (o * 3 + tFree a b)) (X n) (Y n) (Z n)) u T n))))] _ := hP.sub [0, 1, 2, 3, 4, 5, 6, 7, 8, 9] rfl
        have hD9 : va_D A [(mo, .inr (4, [.ref g, .ref pr, .ref hh, .ref rh, .ref aq, .ref ld, .int (nI lc), .ref nh, .ref ty])), (g, .inr (0, [.ref t, .ref v, .ref w, .int (nI n), .int (nI now), .int (oI cu)])), (t, .inl (ct 1, 3, .inr (.inr (.inr (.inr (tb_3 a0 a1 a2)))))), (a0, .inl (ct 0, R, .inl (aN X))), (a1, .inl (ct 0, R, .inl (aN Y))), (a2, .inl (ct 0, R, .inl (aN Z))), (v, .inl (ct 0, R, .inl (aN V))), (w, .inl (ct 0, R, .inl (aN E))), (r, .inr (2, [.int (nI o), .int (oI a), .int (oI b)])), (ty, .inl (ct 0, 1000, .inl (aN (tTa (fun n => decide (tTh V E vv n ∧ tCov a b (tPick (taF (o * 3 + 0)) (X n) (Y n) (Z n)) (tPick (taF (o * 3 + 1)) (X n) (Y n) (Z n)))) (fun n => tPick (taF (o * 3 + tFree a b)) (X n) (Y n) (Z n)) u T n))))] := hD.sub [0, 1, 2, 3, 4, 5, 6, 7, 8, 9] (by decide) rfl
        exact W.vret hx hb hr (fun t ht hW => ⟨⟨(), rfl, trivial, by rw [ht]; exact hP9, hD9⟩, hS.F ht⟩) hS.2.2 dX4_tallyFreeTerms_99
      · have ht9 := tTa_b (fun i => decide (tTh V E vv i ∧ tCov a b (tPick (taF (o * 3 + 0)) (X i) (Y i) (Z i)) (tPick (taF (o * 3 + 1)) (X i) (Y i) (Z i)))) (fun i => tPick (taF (o * 3 + tFree a b)) (X i) (Y i) (Z i)) u hT hu i
        have hm9 : (fun i => tPick (taF (o * 3 + tFree a b)) (X i) (Y i) (Z i)) i < 1000 := tPick_lt _ (hX i) (hY i) (hW i)
        dsimp only at hm9
        refine lv_aload_n hx hb dX4_tallyFreeTerms_21 rfl (lv_at hl 0 rfl) ?_
        refine va_get (D := D) (ci := 4) (v := .ref g) (C := RX4) (T := TX4) (N := 9) hx hb hts inX4 hown hK hP 0 rfl rfl 0 (by decide) (hts _ w_87) (fun _ h9 => h9) rfl dX4_tallyFreeTerms_22 ?_
        refine lv_iload hx hb dX4_tallyFreeTerms_25 (lv_at hl 5 rfl) ?_
        refine lv_iload_n hx hb dX4_tallyFreeTerms_27 rfl (lv_at hl 3 rfl) ?_
        refine vp_callSi (va_Run.run (va_runV (As := [.int (nI i), .int (nI vv)]) (rest := []) ⟨hx, hb, hml, hown, hts⟩ (k_Log_isThere l D ct g t a0 a1 a2 v w R n X Y Z V E now cu i vv hn hR (by omega) hV hE (by omega)) (cwV 2 hts (gw_V (fun _ h => h) w_185 w_186 w_187 w_26 wcX0_isThere) rfl rfl rfl hvX0_isThere ⟨Nat.le_of_ble_eq_true rfl, Nat.le_of_ble_eq_true rfl⟩) (tb_prV hP hK hZ hS [1, 2, 3, 4, 5, 6, 7] rfl (ci := 0) (q0 := 0) rfl rfl) rfl rfl hl.1 rfl (lv_room (Nat.le_of_ble_eq_true rfl)) dX4_tallyFreeTerms_28 ⟨Nat.zero_le _, Nat.zero_le _⟩)) (fun r_28 hr_28 => ?_)
        obtain rfl : r_28 = bB (decide (V i ≤ vv ∧ vv < E i)) := hr_28
        refine tb_if_eqB (tgt := 93) hx hb dX4_tallyFreeTerms_31 (by decide) (fun c31 => ?_) (fun c31 => ?_)
        · refine lv_iinc (v := nI (i + 1)) (lv' := [(5, .int (nI (i + 1))), (0, .ref mo), (1, .ref r), (2, .int (nI u)), (3, .int (nI vv)), (4, .int (nI (tFree a b)))]) hx hb dX4_tallyFreeTerms_93 hl (k := 5) rfl (tb_inc i rfl) (by decide) rfl (fun ls hl => ?_)
          refine lv_goto (tgt := 9) hx hb dX4_tallyFreeTerms_96 (by decide) ?_
          exact ih9 (i + 1) (by omega) (by omega) _ _ (by first | (rw [tTa_no (p := (fun i => decide (tTh V E vv i ∧ tCov a b (tPick (taF (o * 3 + 0)) (X i) (Y i) (Z i)) (tPick (taF (o * 3 + 1)) (X i) (Y i) (Z i))))) (t := (fun i => tPick (taF (o * 3 + tFree a b)) (X i) (Y i) (Z i))) (by first | exact Or.inl (decide_eq_false (fun q => c31 q.1)) | exact Or.inl (decide_eq_false (fun q => c44 q.2)) | exact Or.inr c80)]; exact hP.sub [0, 1, 2, 3, 4, 5, 6, 7, 8, 9] rfl) | exact hP.sub [0, 1, 2, 3, 4, 5, 6, 7, 8, 9] rfl) (by first | (rw [tTa_no (p := (fun i => decide (tTh V E vv i ∧ tCov a b (tPick (taF (o * 3 + 0)) (X i) (Y i) (Z i)) (tPick (taF (o * 3 + 1)) (X i) (Y i) (Z i))))) (t := (fun i => tPick (taF (o * 3 + tFree a b)) (X i) (Y i) (Z i))) (by first | exact Or.inl (decide_eq_false (fun q => c31 q.1)) | exact Or.inl (decide_eq_false (fun q => c44 q.2)) | exact Or.inr c80)]; exact hD.sub [0, 1, 2, 3, 4, 5, 6, 7, 8, 9] (by decide) rfl) | exact hD.sub [0, 1, 2, 3, 4, 5, 6, 7, 8, 9] (by decide) rfl) hS _ (by first | (rw [tTa_no (p := (fun i => decide (tTh V E vv i ∧ tCov a b (tPick (taF (o * 3 + 0)) (X i) (Y i) (Z i)) (tPick (taF (o * 3 + 1)) (X i) (Y i) (Z i))))) (t := (fun i => tPick (taF (o * 3 + tFree a b)) (X i) (Y i) (Z i))) (by first | exact Or.inl (decide_eq_false (fun q => c31 q.1)) | exact Or.inl (decide_eq_false (fun q => c44 q.2)) | exact Or.inr c80)]; exact lv_sub hl [1, 2, 3, 4, 5, 0] rfl) | exact lv_sub hl [1, 2, 3, 4, 5, 0] rfl)
        · refine lv_aload_n hx hb dX4_tallyFreeTerms_34 rfl (lv_at hl 1 rfl) ?_
          refine lv_aload_n hx hb dX4_tallyFreeTerms_35 rfl (lv_at hl 0 rfl) ?_
          refine va_get (D := D) (ci := 4) (v := .ref g) (C := RX4) (T := TX4) (N := 9) hx hb hts inX4 hown hK hP 0 rfl rfl 0 (by decide) (hts _ w_87) (fun _ h9 => h9) rfl dX4_tallyFreeTerms_36 ?_
          refine lv_iload hx hb dX4_tallyFreeTerms_39 (lv_at hl 5 rfl) ?_
          refine vp_callSi (va_Run.run (va_runV (As := [.ref g, .int (nI i)]) (rest := []) ⟨hx, hb, hml, hown, hts⟩ (k_Range_covers l D ct r o a b g t a0 a1 a2 v w R n X Y Z V E now cu i ha hb9 hn hR (by omega) hX hY hW ho) (cwV 2 hts (gw_V (fun _ h => h) w_191 w_192 w_193 w_29 wcX2_covers) rfl rfl rfl hvX2_covers ⟨Nat.le_of_ble_eq_true rfl, Nat.le_of_ble_eq_true rfl⟩) (tb_prV hP hK hZ hS [8, 1, 2, 3, 4, 5, 6, 7] rfl (ci := 2) (q0 := 0) rfl rfl) rfl rfl hl.1 rfl (lv_room (Nat.le_of_ble_eq_true rfl)) dX4_tallyFreeTerms_41 ⟨Nat.zero_le _, Nat.zero_le _⟩)) (fun r_41 hr_41 => ?_)
          obtain rfl : r_41 = bB (decide (tCov a b (tPick (taF (o * 3 + 0)) (X i) (Y i) (Z i)) (tPick (taF (o * 3 + 1)) (X i) (Y i) (Z i)))) := hr_41
          refine tb_if_eqB (tgt := 93) hx hb dX4_tallyFreeTerms_44 (by decide) (fun c44 => ?_) (fun c44 => ?_)
          · refine lv_iinc (v := nI (i + 1)) (lv' := [(5, .int (nI (i + 1))), (0, .ref mo), (1, .ref r), (2, .int (nI u)), (3, .int (nI vv)), (4, .int (nI (tFree a b)))]) hx hb dX4_tallyFreeTerms_93 hl (k := 5) rfl (tb_inc i rfl) (by decide) rfl (fun ls hl => ?_)
            refine lv_goto (tgt := 9) hx hb dX4_tallyFreeTerms_96 (by decide) ?_
            exact ih9 (i + 1) (by omega) (by omega) _ _ (by first | (rw [tTa_no (p := (fun i => decide (tTh V E vv i ∧ tCov a b (tPick (taF (o * 3 + 0)) (X i) (Y i) (Z i)) (tPick (taF (o * 3 + 1)) (X i) (Y i) (Z i))))) (t := (fun i => tPick (taF (o * 3 + tFree a b)) (X i) (Y i) (Z i))) (by first | exact Or.inl (decide_eq_false (fun q => c31 q.1)) | exact Or.inl (decide_eq_false (fun q => c44 q.2)) | exact Or.inr c80)]; exact hP.sub [0, 1, 2, 3, 4, 5, 6, 7, 8, 9] rfl) | exact hP.sub [0, 1, 2, 3, 4, 5, 6, 7, 8, 9] rfl) (by first | (rw [tTa_no (p := (fun i => decide (tTh V E vv i ∧ tCov a b (tPick (taF (o * 3 + 0)) (X i) (Y i) (Z i)) (tPick (taF (o * 3 + 1)) (X i) (Y i) (Z i))))) (t := (fun i => tPick (taF (o * 3 + tFree a b)) (X i) (Y i) (Z i))) (by first | exact Or.inl (decide_eq_false (fun q => c31 q.1)) | exact Or.inl (decide_eq_false (fun q => c44 q.2)) | exact Or.inr c80)]; exact hD.sub [0, 1, 2, 3, 4, 5, 6, 7, 8, 9] (by decide) rfl) | exact hD.sub [0, 1, 2, 3, 4, 5, 6, 7, 8, 9] (by decide) rfl) hS _ (by first | (rw [tTa_no (p := (fun i => decide (tTh V E vv i ∧ tCov a b (tPick (taF (o * 3 + 0)) (X i) (Y i) (Z i)) (tPick (taF (o * 3 + 1)) (X i) (Y i) (Z i))))) (t := (fun i => tPick (taF (o * 3 + tFree a b)) (X i) (Y i) (Z i))) (by first | exact Or.inl (decide_eq_false (fun q => c31 q.1)) | exact Or.inl (decide_eq_false (fun q => c44 q.2)) | exact Or.inr c80)]; exact lv_sub hl [1, 2, 3, 4, 5, 0] rfl) | exact lv_sub hl [1, 2, 3, 4, 5, 0] rfl)
          · refine lv_aload_n hx hb dX4_tallyFreeTerms_47 rfl (lv_at hl 0 rfl) ?_
            refine va_get (D := D) (ci := 4) (v := .ref g) (C := RX4) (T := TX4) (N := 9) hx hb hts inX4 hown hK hP 0 rfl rfl 0 (by decide) (hts _ w_87) (fun _ h9 => h9) rfl dX4_tallyFreeTerms_48 ?_
            refine lv_aload_n hx hb dX4_tallyFreeTerms_51 rfl (lv_at hl 1 rfl) ?_
            refine va_get (D := D) (ci := 2) (v := .int (nI o)) (C := RX2) (T := TX2) (N := 3) hx hb hts inX2 hown hK hP 8 rfl rfl 0 (by decide) (hts _ w_84) (fun _ h9 => h9) rfl dX4_tallyFreeTerms_52 ?_
            refine lv_iload hx hb dX4_tallyFreeTerms_55 (lv_at hl 4 rfl) ?_
            refine lv_iload hx hb dX4_tallyFreeTerms_57 (lv_at hl 5 rfl) ?_
            refine vp_callSi (va_Run.run (va_runV (As := [.int (nI o), .int (nI (tFree a b)), .int (nI i)]) (rest := []) ⟨hx, hb, hml, hown, hts⟩ (k_Log_termAt l D ct g t a0 a1 a2 v w R n X Y Z V E now cu o (tFree a b) i hn hR (by omega) ho (by omega)) (cwV 3 hts (gw_V (fun _ h => h) w_230 w_195 w_196 w_26 wcX0_termAt) rfl rfl rfl hvX0_termAt ⟨Nat.le_of_ble_eq_true rfl, Nat.le_of_ble_eq_true rfl⟩) (tb_prV hP hK hZ hS [1, 2, 3, 4, 5, 6, 7] rfl (ci := 0) (q0 := 0) rfl rfl) rfl rfl hl.1 rfl (lv_room (Nat.le_of_ble_eq_true rfl)) dX4_tallyFreeTerms_59 ⟨Nat.zero_le _, Nat.zero_le _⟩)) (fun r_59 hr_59 => ?_)
            obtain rfl : r_59 = nI (tPick (taF (o * 3 + (tFree a b))) (X i) (Y i) (Z i)) := hr_59
            refine lv_istore (lv' := [(6, .int (nI (tPick (taF (o * 3 + (tFree a b))) (X i) (Y i) (Z i)))), (0, .ref mo), (1, .ref r), (2, .int (nI u)), (3, .int (nI vv)), (4, .int (nI (tFree a b))), (5, .int (nI i))]) hx hb dX4_tallyFreeTerms_62 hl (by decide) rfl (fun ls hl => ?_)
            refine lv_iload hx hb dX4_tallyFreeTerms_64 (lv_at hl 0 rfl) ?_
            refine vp_callSi (va_Run.run (va_runS (As := [.int (nI (tPick (taF (o * 3 + (tFree a b))) (X i) (Y i) (Z i)))]) (rest := []) ⟨hx, hb, hml, hown, hts⟩ (k_isTerm l D ct (nI (tPick (taF (o * 3 + (tFree a b))) (X i) (Y i) (Z i))) ) (va_cwS 1 hts (gw_S (fun _ h => h) w_103 w_104 w_24 wcX4_isTerm) rfl rfl rfl hvX4_isTerm.2 ⟨Nat.le_of_ble_eq_true rfl, Nat.le_of_ble_eq_true rfl⟩) (tb_prS hP hK hZ hS [] rfl) rfl rfl hl.1 rfl (lv_room (Nat.le_of_ble_eq_true rfl)) dX4_tallyFreeTerms_66 ⟨Nat.zero_le _, Nat.zero_le _⟩)) (fun r_66 hr_66 => ?_)
            obtain rfl : r_66 = bB (decide (tRng (nI (tPick (taF (o * 3 + (tFree a b))) (X i) (Y i) (Z i))) 1000)) := hr_66
            refine tb_if_eqB (tgt := 93) hx hb dX4_tallyFreeTerms_69 (by decide) (fun c69 => ?_) (fun c69 => ?_)
            · exact absurd (tRng_nI hm9 (by decide)) c69
            · refine lv_aload_n hx hb dX4_tallyFreeTerms_72 rfl (lv_at hl 1 rfl) ?_
              refine va_get (D := D) (ci := 4) (v := .ref ty) (C := RX4) (T := TX4) (N := 9) hx hb hts inX4 hown hK hP 0 rfl rfl 8 (by decide) (hts _ w_95) (fun _ h9 => h9) rfl dX4_tallyFreeTerms_73 ?_
              refine lv_iload hx hb dX4_tallyFreeTerms_76 (lv_at hl 0 rfl) ?_
              refine tb_iald (v := (tTa (fun i => decide (tTh V E vv i ∧ tCov a b (tPick (taF (o * 3 + 0)) (X i) (Y i) (Z i)) (tPick (taF (o * 3 + 1)) (X i) (Y i) (Z i)))) (fun i => tPick (taF (o * 3 + tFree a b)) (X i) (Y i) (Z i)) u T i) (tPick (taF (o * 3 + (tFree a b))) (X i) (Y i) (Z i))) hx hb hK hP 9 0 rfl rfl (by omega) (by omega) rfl dX4_tallyFreeTerms_78 ?_
              refine lv_iload_n hx hb dX4_tallyFreeTerms_79 rfl (lv_at hl 3 rfl) ?_
              refine tb_icmp_ne (tgt := 93) hx hb dX4_tallyFreeTerms_80 (by decide) (ht9 _) (by omega) (fun c80 => ?_) (fun c80 => ?_)
              · refine lv_iinc (v := nI (i + 1)) (lv' := [(5, .int (nI (i + 1))), (6, .int (nI (tPick (taF (o * 3 + (tFree a b))) (X i) (Y i) (Z i)))), (0, .ref mo), (1, .ref r), (2, .int (nI u)), (3, .int (nI vv)), (4, .int (nI (tFree a b)))]) hx hb dX4_tallyFreeTerms_93 hl (k := 6) rfl (tb_inc i rfl) (by decide) rfl (fun ls hl => ?_)
                refine lv_goto (tgt := 9) hx hb dX4_tallyFreeTerms_96 (by decide) ?_
                exact ih9 (i + 1) (by omega) (by omega) _ _ (by first | (rw [tTa_no (p := (fun i => decide (tTh V E vv i ∧ tCov a b (tPick (taF (o * 3 + 0)) (X i) (Y i) (Z i)) (tPick (taF (o * 3 + 1)) (X i) (Y i) (Z i))))) (t := (fun i => tPick (taF (o * 3 + tFree a b)) (X i) (Y i) (Z i))) (by first | exact Or.inl (decide_eq_false (fun q => c31 q.1)) | exact Or.inl (decide_eq_false (fun q => c44 q.2)) | exact Or.inr c80)]; exact hP.sub [0, 1, 2, 3, 4, 5, 6, 7, 8, 9] rfl) | exact hP.sub [0, 1, 2, 3, 4, 5, 6, 7, 8, 9] rfl) (by first | (rw [tTa_no (p := (fun i => decide (tTh V E vv i ∧ tCov a b (tPick (taF (o * 3 + 0)) (X i) (Y i) (Z i)) (tPick (taF (o * 3 + 1)) (X i) (Y i) (Z i))))) (t := (fun i => tPick (taF (o * 3 + tFree a b)) (X i) (Y i) (Z i))) (by first | exact Or.inl (decide_eq_false (fun q => c31 q.1)) | exact Or.inl (decide_eq_false (fun q => c44 q.2)) | exact Or.inr c80)]; exact hD.sub [0, 1, 2, 3, 4, 5, 6, 7, 8, 9] (by decide) rfl) | exact hD.sub [0, 1, 2, 3, 4, 5, 6, 7, 8, 9] (by decide) rfl) hS _ (by first | (rw [tTa_no (p := (fun i => decide (tTh V E vv i ∧ tCov a b (tPick (taF (o * 3 + 0)) (X i) (Y i) (Z i)) (tPick (taF (o * 3 + 1)) (X i) (Y i) (Z i))))) (t := (fun i => tPick (taF (o * 3 + tFree a b)) (X i) (Y i) (Z i))) (by first | exact Or.inl (decide_eq_false (fun q => c31 q.1)) | exact Or.inl (decide_eq_false (fun q => c44 q.2)) | exact Or.inr c80)]; exact lv_sub hl [2, 3, 4, 5, 6, 0] rfl) | exact lv_sub hl [2, 3, 4, 5, 6, 0] rfl)
              · refine lv_aload_n hx hb dX4_tallyFreeTerms_83 rfl (lv_at hl 1 rfl) ?_
                refine va_get (D := D) (ci := 4) (v := .ref ty) (C := RX4) (T := TX4) (N := 9) hx hb hts inX4 hown hK hP 0 rfl rfl 8 (by decide) (hts _ w_95) (fun _ h9 => h9) rfl dX4_tallyFreeTerms_84 ?_
                refine lv_iload hx hb dX4_tallyFreeTerms_87 (lv_at hl 0 rfl) ?_
                refine lv_iload_n hx hb dX4_tallyFreeTerms_89 rfl (lv_at hl 3 rfl) ?_
                refine lv_iconst (v := nI 1) hx hb dX4_tallyFreeTerms_90 (by decide) ?_
                refine tb_iadd hx hb dX4_tallyFreeTerms_91 ?_
                refine tb_iast hx hb hK hP hD hS 9 0 rfl rfl (by omega) (by omega) dX4_tallyFreeTerms_92 (fun H locs hP hD hS => ?_)
                have hP : va_P D vwCl [(mo, .inr (4, [.ref g, .ref pr, .ref hh, .ref rh, .ref aq, .ref ld, .int (nI lc), .ref nh, .ref ty])), (g, .inr (0, [.ref t, .ref v, .ref w, .int (nI n), .int (nI now), .int (oI cu)])), (t, .inl (ct 1, 3, .inr (.inr (.inr (.inr (tb_3 a0 a1 a2)))))), (a0, .inl (ct 0, R, .inl (aN X))), (a1, .inl (ct 0, R, .inl (aN Y))), (a2, .inl (ct 0, R, .inl (aN Z))), (v, .inl (ct 0, R, .inl (aN V))), (w, .inl (ct 0, R, .inl (aN E))), (r, .inr (2, [.int (nI o), .int (oI a), .int (oI b)])), (ty, .inl (ct 0, 1000, .inl (aN (va_up (tTa (fun i => decide (tTh V E vv i ∧ tCov a b (tPick (taF (o * 3 + 0)) (X i) (Y i) (Z i)) (tPick (taF (o * 3 + 1)) (X i) (Y i) (Z i)))) (fun i => tPick (taF (o * 3 + tFree a b)) (X i) (Y i) (Z i)) u T i) (tPick (taF (o * 3 + (tFree a b))) (X i) (Y i) (Z i)) (u + 1)))))] H := hP
                have hD : va_D A [(mo, .inr (4, [.ref g, .ref pr, .ref hh, .ref rh, .ref aq, .ref ld, .int (nI lc), .ref nh, .ref ty])), (g, .inr (0, [.ref t, .ref v, .ref w, .int (nI n), .int (nI now), .int (oI cu)])), (t, .inl (ct 1, 3, .inr (.inr (.inr (.inr (tb_3 a0 a1 a2)))))), (a0, .inl (ct 0, R, .inl (aN X))), (a1, .inl (ct 0, R, .inl (aN Y))), (a2, .inl (ct 0, R, .inl (aN Z))), (v, .inl (ct 0, R, .inl (aN V))), (w, .inl (ct 0, R, .inl (aN E))), (r, .inr (2, [.int (nI o), .int (oI a), .int (oI b)])), (ty, .inl (ct 0, 1000, .inl (aN (va_up (tTa (fun i => decide (tTh V E vv i ∧ tCov a b (tPick (taF (o * 3 + 0)) (X i) (Y i) (Z i)) (tPick (taF (o * 3 + 1)) (X i) (Y i) (Z i)))) (fun i => tPick (taF (o * 3 + tFree a b)) (X i) (Y i) (Z i)) u T i) (tPick (taF (o * 3 + (tFree a b))) (X i) (Y i) (Z i)) (u + 1)))))] := hD
                refine lv_iinc (v := nI (i + 1)) (lv' := [(5, .int (nI (i + 1))), (6, .int (nI (tPick (taF (o * 3 + (tFree a b))) (X i) (Y i) (Z i)))), (0, .ref mo), (1, .ref r), (2, .int (nI u)), (3, .int (nI vv)), (4, .int (nI (tFree a b)))]) hx hb dX4_tallyFreeTerms_93 hl (k := 6) rfl (tb_inc i rfl) (by decide) rfl (fun ls hl => ?_)
                refine lv_goto (tgt := 9) hx hb dX4_tallyFreeTerms_96 (by decide) ?_
                exact ih9 (i + 1) (by omega) (by omega) _ _ (by first | (rw [tTa_yes (p := (fun i => decide (tTh V E vv i ∧ tCov a b (tPick (taF (o * 3 + 0)) (X i) (Y i) (Z i)) (tPick (taF (o * 3 + 1)) (X i) (Y i) (Z i))))) (t := (fun i => tPick (taF (o * 3 + tFree a b)) (X i) (Y i) (Z i))) (decide_eq_true ⟨c31, c44⟩) c80]; exact hP.sub [0, 1, 2, 3, 4, 5, 6, 7, 8, 9] rfl) | exact hP.sub [0, 1, 2, 3, 4, 5, 6, 7, 8, 9] rfl) (by first | (rw [tTa_yes (p := (fun i => decide (tTh V E vv i ∧ tCov a b (tPick (taF (o * 3 + 0)) (X i) (Y i) (Z i)) (tPick (taF (o * 3 + 1)) (X i) (Y i) (Z i))))) (t := (fun i => tPick (taF (o * 3 + tFree a b)) (X i) (Y i) (Z i))) (decide_eq_true ⟨c31, c44⟩) c80]; exact hD.sub [0, 1, 2, 3, 4, 5, 6, 7, 8, 9] (by decide) rfl) | exact hD.sub [0, 1, 2, 3, 4, 5, 6, 7, 8, 9] (by decide) rfl) hS _ (by first | (rw [tTa_yes (p := (fun i => decide (tTh V E vv i ∧ tCov a b (tPick (taF (o * 3 + 0)) (X i) (Y i) (Z i)) (tPick (taF (o * 3 + 1)) (X i) (Y i) (Z i))))) (t := (fun i => tPick (taF (o * 3 + tFree a b)) (X i) (Y i) (Z i))) (decide_eq_true ⟨c31, c44⟩) c80]; exact lv_sub hl [2, 3, 4, 5, 6, 0] rfl) | exact lv_sub hl [2, 3, 4, 5, 6, 0] rfl)
  exact hl9 _ 0 (Nat.lt_succ_self _) (by omega) _ _ (hP.sub [0, 1, 2, 3, 4, 5, 6, 7, 8, 9] rfl) (hD.sub [0, 1, 2, 3, 4, 5, 6, 7, 8, 9] (by decide) rfl) hS _ (lv_sub hl [2, 3, 4, 5, 1, 0] rfl)

set_option maxHeartbeats 4000000 in
set_option maxRecDepth 100000 in
theorem k_countTallied (l : Launch) (D : va_G) (ct : Nat → ClassId) (mo : Nat) (g : Nat) (pr : Nat) (hh : Nat) (rh : Nat) (aq : Nat) (ld : Nat) (lc : Nat) (nh : Nat) (ty : Nat) (T : Nat → Nat) (u : Nat) (hT : ∀ j, T j < 2 ^ 31) (hu : u < 1000) : Met l yX4_countTallied wsX4_countTallied ({ frames := 0, cells := 0, slots := 0, locals := 0 }) (tb_Pr D ct [.ref mo, .int (nI u)] [(mo, .inr (4, [.ref g, .ref pr, .ref hh, .ref rh, .ref aq, .ref ld, .int (nI lc), .ref nh, .ref ty])), (ty, .inl (ct 0, 1000, .inl (aN T)))]) (vp_Si (fun r => r = nI (tCn T u 1000))) 0 0 (fun _ => False) := by
  refine Met.ofW (cc := cX4_countTallied) (maxL := 4) (ret := (some .int)) (by decide) rfl ?_
  intro p e s m args below meth c s₁ B hml hv
  obtain ⟨rfl, hP, hK, hZ⟩ := hv
  have hx := B.exec
  have hb := B.bytes
  have hr := B.returns
  have hts0 := atoms_spec (ws := wsX4_countTallied) B.pre
  have hts : ∀ w9 ∈ aw, w9.before ([.ref mo, .int (nI u)] : List Value).toArray s = true := fun w9 h9 => hts0 w9 (List.mem_cons_of_mem _ h9)
  have hown : s.vm.findClass RX4 = some m.cls := findClass_of_methodNamed B.named
  have hlocks := B.notSynchronized
  have hS : va_S (fun _ => False) s.heap s.heap [] := va_S.rf
  have hP : va_P D vwCl [(mo, .inr (4, [.ref g, .ref pr, .ref hh, .ref rh, .ref aq, .ref ld, .int (nI lc), .ref nh, .ref ty])), (ty, .inl (ct 0, 1000, .inl (aN T)))] s.heap := hP
  have hl := lv_entry ([.ref mo, .int (nI u)]) (n := 4) (Nat.le_of_ble_eq_true rfl)
  rw [lg_entry_eq]
  generalize (lg_sl ([.ref mo, .int (nI u)]) ++ List.replicate (4 - (lg_sl ([.ref mo, .int (nI u)])).length) Slot.unset).toArray = ls at hl ⊢
  have hl : lv_has ls 4 [(0, .ref mo), (1, .int (nI u))] := hl
  refine lv_iconst (v := nI 0) hx hb dX4_countTallied_0 (by decide) ?_
  refine lv_istore_n (lv' := [(2, .int (nI 0)), (0, .ref mo), (1, .int (nI u))]) hx hb dX4_countTallied_1 rfl hl (by decide) rfl (fun ls hl => ?_)
  refine lv_iconst (v := nI 0) hx hb dX4_countTallied_2 (by decide) ?_
  refine lv_istore_n (lv' := [(3, .int (nI 0)), (2, .int (nI 0)), (0, .ref mo), (1, .int (nI u))]) hx hb dX4_countTallied_3 rfl hl (by decide) rfl (fun ls hl => ?_)
  have hl4 : ∀ (N9 : Nat) (i : Nat), 1000 - i < N9 → (i ≤ 1000) → ∀ (ls : Array Slot), lv_has ls 4 [(0, .ref mo), (1, .int (nI u)), (2, .int (nI (tCn T u i))), (3, .int (nI i))] → W p l e (headSpec wsX4_countTallied ({ frames := 0, cells := 0, slots := 0, locals := 0 })).room s m ([.ref mo, .int (nI u)] : List Value).toArray below meth c s.heap [] 0 0 (MQ below (vp_Si (fun r => r = nI (tCn T u 1000))) ([.ref mo, .int (nI u)] : List Value).toArray s 0 0 (fun _ => False)) (F0 m 4 ls []) := by
    intro N9
    induction N9 with
    | zero => intro i h9; exact absurd h9 (Nat.not_lt_zero _)
    | succ N9 ih4 =>
      intro i h9 h1 ls hl
      refine lv_iload_n hx hb dX4_countTallied_4 rfl (lv_at hl 3 rfl) ?_
      refine lv_sipush (v := nI 1000) hx hb dX4_countTallied_5 (by decide) ?_
      refine tb_icmp_ge (tgt := 30) hx hb dX4_countTallied_8 (by decide) (by omega) (by omega) (fun c8 => ?_) (fun c8 => ?_)
      · refine lv_iload_n hx hb dX4_countTallied_30 rfl (lv_at hl 2 rfl) ?_
        exact W.iret (v := nI (tCn T u i)) hx hb hr (fun t ht hW => ⟨_, rfl, (by rw [show (1000 : Nat) = i by omega]), ht⟩) (fun q h => by cases h) dX4_countTallied_31
      · refine lv_aload_n hx hb dX4_countTallied_11 rfl (lv_at hl 0 rfl) ?_
        refine va_get (D := D) (ci := 4) (v := .ref ty) (C := RX4) (T := TX4) (N := 9) hx hb hts inX4 hown hK hP 0 rfl rfl 8 (by decide) (hts _ w_95) (fun _ h9 => h9) rfl dX4_countTallied_12 ?_
        refine lv_iload_n hx hb dX4_countTallied_15 rfl (lv_at hl 3 rfl) ?_
        refine tb_iald (v := T i) hx hb hK hP 1 0 rfl rfl (by omega) (by omega) rfl dX4_countTallied_16 ?_
        refine lv_iload_n hx hb dX4_countTallied_17 rfl (lv_at hl 1 rfl) ?_
        refine tb_icmp_ne (tgt := 24) hx hb dX4_countTallied_18 (by decide) (hT _) (by omega) (fun c18 => ?_) (fun c18 => ?_)
        · refine lv_iinc (v := nI (i + 1)) (lv' := [(3, .int (nI (i + 1))), (0, .ref mo), (1, .int (nI u)), (2, .int (nI (tCn T u i)))]) hx hb dX4_countTallied_24 hl (k := 3) rfl (tb_inc i rfl) (by decide) rfl (fun ls hl => ?_)
          refine lv_goto (tgt := 4) hx hb dX4_countTallied_27 (by decide) ?_
          exact ih4 (i + 1) (by omega) (by omega) _ (by first | (rw [tCn_no c18]; exact lv_sub hl [1, 2, 3, 0] rfl) | exact lv_sub hl [1, 2, 3, 0] rfl)
        · refine lv_iinc (v := nI ((tCn T u i) + 1)) (lv' := [(2, .int (nI ((tCn T u i) + 1))), (0, .ref mo), (1, .int (nI u)), (3, .int (nI i))]) hx hb dX4_countTallied_21 hl (k := 2) rfl (tb_inc (tCn T u i) rfl) (by decide) rfl (fun ls hl => ?_)
          refine lv_iinc (v := nI (i + 1)) (lv' := [(3, .int (nI (i + 1))), (2, .int (nI ((tCn T u i) + 1))), (0, .ref mo), (1, .int (nI u))]) hx hb dX4_countTallied_24 hl (k := 3) rfl (tb_inc i rfl) (by decide) rfl (fun ls hl => ?_)
          refine lv_goto (tgt := 4) hx hb dX4_countTallied_27 (by decide) ?_
          exact ih4 (i + 1) (by omega) (by omega) _ (by first | (rw [tCn_yes c18]; exact lv_sub hl [2, 3, 1, 0] rfl) | exact lv_sub hl [2, 3, 1, 0] rfl)
  exact hl4 _ 0 (Nat.lt_succ_self _) (by omega) _ (lv_sub hl [2, 3, 1, 0] rfl)

set_option maxHeartbeats 4000000 in
set_option maxRecDepth 100000 in
theorem k_refuse_0 (l : Launch) (D : va_G) (ct : Nat → ClassId) (mo : Nat) (g : Nat) (pr : Nat) (hh : Nat) (rh : Nat) (aq : Nat) (ld : Nat) (lc : Nat) (nh : Nat) (ty : Nat) (t : Nat) (a0 : Nat) (a1 : Nat) (a2 : Nat) (v : Nat) (w : Nat) (R : Nat) (n : Nat) (X : Nat → Nat) (Y : Nat → Nat) (Z : Nat → Nat) (V : Nat → Nat) (E : Nat → Nat) (now : Nat) (cu : Option Nat) (o : Nat) (a : Nat) (vv : Nat) (ho : o < 6) (ha : a < 1000) (hv : vv < 1000001) (hcu : ∀ j, cu = some j → j ≤ vv) : Met l yX4_refusalOfFirst wsX4_refusalOfFirst ({ frames := 1, cells := 0, slots := 0, locals := 20 }) (tb_Pr D ct [.ref mo, .int (nI o), .int (nI a), .int (nI vv)] [(mo, .inr (4, [.ref g, .ref pr, .ref hh, .ref rh, .ref aq, .ref ld, .int (nI lc), .ref nh, .ref ty])), (g, .inr (0, [.ref t, .ref v, .ref w, .int (nI n), .int (nI now), .int (oI cu)])), (t, .inl (ct 1, 3, .inr (.inr (.inr (.inr (tb_3 a0 a1 a2)))))), (a0, .inl (ct 0, R, .inl (aN X))), (a1, .inl (ct 0, R, .inl (aN Y))), (a2, .inl (ct 0, R, .inl (aN Z))), (v, .inl (ct 0, R, .inl (aN V))), (w, .inl (ct 0, R, .inl (aN E)))]) (vp_Si (fun r => r = nI 0)) 0 0 (fun _ => False) := by
  refine Met.ofW (cc := cX4_refusalOfFirst) (maxL := 4) (ret := (some .int)) (by decide) rfl ?_
  intro p e s m args below meth c s₁ B hml hv
  obtain ⟨rfl, hP, hK, hZ⟩ := hv
  have hx := B.exec
  have hb := B.bytes
  have hr := B.returns
  have hts0 := atoms_spec (ws := wsX4_refusalOfFirst) B.pre
  have hts : ∀ w9 ∈ aw, w9.before ([.ref mo, .int (nI o), .int (nI a), .int (nI vv)] : List Value).toArray s = true := fun w9 h9 => hts0 w9 (List.mem_cons_of_mem _ h9)
  have hown : s.vm.findClass RX4 = some m.cls := findClass_of_methodNamed B.named
  have hlocks := B.notSynchronized
  have hS : va_S (fun _ => False) s.heap s.heap [] := va_S.rf
  have hP : va_P D vwCl [(mo, .inr (4, [.ref g, .ref pr, .ref hh, .ref rh, .ref aq, .ref ld, .int (nI lc), .ref nh, .ref ty])), (g, .inr (0, [.ref t, .ref v, .ref w, .int (nI n), .int (nI now), .int (oI cu)])), (t, .inl (ct 1, 3, .inr (.inr (.inr (.inr (tb_3 a0 a1 a2)))))), (a0, .inl (ct 0, R, .inl (aN X))), (a1, .inl (ct 0, R, .inl (aN Y))), (a2, .inl (ct 0, R, .inl (aN Z))), (v, .inl (ct 0, R, .inl (aN V))), (w, .inl (ct 0, R, .inl (aN E)))] s.heap := hP
  have hl := lv_entry ([.ref mo, .int (nI o), .int (nI a), .int (nI vv)]) (n := 4) (Nat.le_of_ble_eq_true rfl)
  rw [lg_entry_eq]
  generalize (lg_sl ([.ref mo, .int (nI o), .int (nI a), .int (nI vv)]) ++ List.replicate (4 - (lg_sl ([.ref mo, .int (nI o), .int (nI a), .int (nI vv)])).length) Slot.unset).toArray = ls at hl ⊢
  have hl : lv_has ls 4 [(0, .ref mo), (1, .int (nI o)), (2, .int (nI a)), (3, .int (nI vv))] := hl
  refine lv_iload_n hx hb dX4_refusalOfFirst_0 rfl (lv_at hl 1 rfl) ?_
  refine vp_callSi (va_Run.run (va_runS (As := [.int (nI o)]) (rest := []) ⟨hx, hb, hml, hown, hts⟩ (k_isOrder l D ct (nI o) ) (va_cwS 1 hts (gw_S (fun _ h => h) w_112 w_113 w_24 wcX4_isOrder) rfl rfl rfl hvX4_isOrder.2 ⟨Nat.le_of_ble_eq_true rfl, Nat.le_of_ble_eq_true rfl⟩) (tb_prS hP hK hZ hS [] rfl) rfl rfl hl.1 rfl (lv_room (Nat.le_of_ble_eq_true rfl)) dX4_refusalOfFirst_1 ⟨Nat.zero_le _, Nat.zero_le _⟩)) (fun r_1 hr_1 => ?_)
  obtain rfl : r_1 = bB (decide (tRng (nI o) 6)) := hr_1
  refine tb_if_eqB (tgt := 21) hx hb dX4_refusalOfFirst_4 (by decide) (fun c4 => ?_) (fun c4 => ?_)
  · exact absurd (tRng_nI ho (by decide)) c4
  · refine lv_iload_n hx hb dX4_refusalOfFirst_7 rfl (lv_at hl 2 rfl) ?_
    refine vp_callSi (va_Run.run (va_runS (As := [.int (nI a)]) (rest := []) ⟨hx, hb, hml, hown, hts⟩ (k_isTerm l D ct (nI a) ) (va_cwS 1 hts (gw_S (fun _ h => h) w_103 w_104 w_24 wcX4_isTerm) rfl rfl rfl hvX4_isTerm.2 ⟨Nat.le_of_ble_eq_true rfl, Nat.le_of_ble_eq_true rfl⟩) (tb_prS hP hK hZ hS [] rfl) rfl rfl hl.1 rfl (lv_room (Nat.le_of_ble_eq_true rfl)) dX4_refusalOfFirst_8 ⟨Nat.zero_le _, Nat.zero_le _⟩)) (fun r_8 hr_8 => ?_)
    obtain rfl : r_8 = bB (decide (tRng (nI a) 1000)) := hr_8
    refine tb_if_eqB (tgt := 21) hx hb dX4_refusalOfFirst_11 (by decide) (fun c11 => ?_) (fun c11 => ?_)
    · exact absurd (tRng_nI ha (by decide)) c11
    · refine lv_iload_n hx hb dX4_refusalOfFirst_14 rfl (lv_at hl 3 rfl) ?_
      refine vp_callSi (va_Run.run (va_runS (As := [.int (nI vv)]) (rest := []) ⟨hx, hb, hml, hown, hts⟩ (k_isVersion l D ct (nI vv) ) (va_cwS 1 hts (gw_S (fun _ h => h) w_105 w_106 w_24 wcX4_isVersion) rfl rfl rfl hvX4_isVersion.2 ⟨Nat.le_of_ble_eq_true rfl, Nat.le_of_ble_eq_true rfl⟩) (tb_prS hP hK hZ hS [] rfl) rfl rfl hl.1 rfl (lv_room (Nat.le_of_ble_eq_true rfl)) dX4_refusalOfFirst_15 ⟨Nat.zero_le _, Nat.zero_le _⟩)) (fun r_15 hr_15 => ?_)
      obtain rfl : r_15 = bB (decide (tRng (nI vv) 1000001)) := hr_15
      refine tb_if_neB (tgt := 24) hx hb dX4_refusalOfFirst_18 (by decide) (fun c18 => ?_) (fun c18 => ?_)
      · refine lv_iload_n hx hb dX4_refusalOfFirst_24 rfl (lv_at hl 3 rfl) ?_
        refine lv_aload_n hx hb dX4_refusalOfFirst_25 rfl (lv_at hl 0 rfl) ?_
        refine va_get (D := D) (ci := 4) (v := .ref g) (C := RX4) (T := TX4) (N := 9) hx hb hts inX4 hown hK hP 0 rfl rfl 0 (by decide) (hts _ w_87) (fun _ h9 => h9) rfl dX4_refusalOfFirst_26 ?_
        refine va_get (D := D) (ci := 0) (v := .int (oI cu)) (C := RX0) (T := TX0) (N := 6) hx hb hts inX0 hown hK hP 1 rfl rfl 5 (by decide) (hts _ w_57) (fun _ h9 => h9) rfl dX4_refusalOfFirst_29 ?_
        refine lv_icmp_ge (tgt := 40) hx hb dX4_refusalOfFirst_32 (by decide) (fun c32 => ?_) (fun c32 => ?_)
        · refine lv_iconst (v := nI 0) hx hb dX4_refusalOfFirst_40 (by decide) ?_
          exact W.iret (v := nI 0) hx hb hr (fun t ht hW => ⟨_, rfl, rfl, ht⟩) (fun q h => by cases h) dX4_refusalOfFirst_41
        · exact absurd (Int32.not_lt.mp (oI_nlt (by omega) hcu)) c32
      · exact absurd (tRng_nI hv (by decide)) c18

set_option maxHeartbeats 4000000 in
set_option maxRecDepth 100000 in
theorem k_refuse_m3 (l : Launch) (D : va_G) (ct : Nat → ClassId) (mo : Nat) (g : Nat) (pr : Nat) (hh : Nat) (rh : Nat) (aq : Nat) (ld : Nat) (lc : Nat) (nh : Nat) (ty : Nat) (t : Nat) (a0 : Nat) (a1 : Nat) (a2 : Nat) (v : Nat) (w : Nat) (R : Nat) (n : Nat) (X : Nat → Nat) (Y : Nat → Nat) (Z : Nat → Nat) (V : Nat → Nat) (E : Nat → Nat) (now : Nat) (cu : Option Nat) (o : Nat) (a : Nat) (vv : Nat) (ho : o < 6) (ha : a < 1000) (hv : vv < 1000001) (hlow : ∃ j, cu = some j ∧ vv < j) (hcb : ∀ j, cu = some j → j < 2 ^ 31) : Met l yX4_refusalOfFirst wsX4_refusalOfFirst ({ frames := 1, cells := 0, slots := 0, locals := 20 }) (tb_Pr D ct [.ref mo, .int (nI o), .int (nI a), .int (nI vv)] [(mo, .inr (4, [.ref g, .ref pr, .ref hh, .ref rh, .ref aq, .ref ld, .int (nI lc), .ref nh, .ref ty])), (g, .inr (0, [.ref t, .ref v, .ref w, .int (nI n), .int (nI now), .int (oI cu)])), (t, .inl (ct 1, 3, .inr (.inr (.inr (.inr (tb_3 a0 a1 a2)))))), (a0, .inl (ct 0, R, .inl (aN X))), (a1, .inl (ct 0, R, .inl (aN Y))), (a2, .inl (ct 0, R, .inl (aN Z))), (v, .inl (ct 0, R, .inl (aN V))), (w, .inl (ct 0, R, .inl (aN E)))]) (vp_Si (fun r => r = (-3))) 0 0 (fun _ => False) := by
  refine Met.ofW (cc := cX4_refusalOfFirst) (maxL := 4) (ret := (some .int)) (by decide) rfl ?_
  intro p e s m args below meth c s₁ B hml hv
  obtain ⟨rfl, hP, hK, hZ⟩ := hv
  have hx := B.exec
  have hb := B.bytes
  have hr := B.returns
  have hts0 := atoms_spec (ws := wsX4_refusalOfFirst) B.pre
  have hts : ∀ w9 ∈ aw, w9.before ([.ref mo, .int (nI o), .int (nI a), .int (nI vv)] : List Value).toArray s = true := fun w9 h9 => hts0 w9 (List.mem_cons_of_mem _ h9)
  have hown : s.vm.findClass RX4 = some m.cls := findClass_of_methodNamed B.named
  have hlocks := B.notSynchronized
  have hS : va_S (fun _ => False) s.heap s.heap [] := va_S.rf
  have hP : va_P D vwCl [(mo, .inr (4, [.ref g, .ref pr, .ref hh, .ref rh, .ref aq, .ref ld, .int (nI lc), .ref nh, .ref ty])), (g, .inr (0, [.ref t, .ref v, .ref w, .int (nI n), .int (nI now), .int (oI cu)])), (t, .inl (ct 1, 3, .inr (.inr (.inr (.inr (tb_3 a0 a1 a2)))))), (a0, .inl (ct 0, R, .inl (aN X))), (a1, .inl (ct 0, R, .inl (aN Y))), (a2, .inl (ct 0, R, .inl (aN Z))), (v, .inl (ct 0, R, .inl (aN V))), (w, .inl (ct 0, R, .inl (aN E)))] s.heap := hP
  have hl := lv_entry ([.ref mo, .int (nI o), .int (nI a), .int (nI vv)]) (n := 4) (Nat.le_of_ble_eq_true rfl)
  rw [lg_entry_eq]
  generalize (lg_sl ([.ref mo, .int (nI o), .int (nI a), .int (nI vv)]) ++ List.replicate (4 - (lg_sl ([.ref mo, .int (nI o), .int (nI a), .int (nI vv)])).length) Slot.unset).toArray = ls at hl ⊢
  have hl : lv_has ls 4 [(0, .ref mo), (1, .int (nI o)), (2, .int (nI a)), (3, .int (nI vv))] := hl
  refine lv_iload_n hx hb dX4_refusalOfFirst_0 rfl (lv_at hl 1 rfl) ?_
  refine vp_callSi (va_Run.run (va_runS (As := [.int (nI o)]) (rest := []) ⟨hx, hb, hml, hown, hts⟩ (k_isOrder l D ct (nI o) ) (va_cwS 1 hts (gw_S (fun _ h => h) w_112 w_113 w_24 wcX4_isOrder) rfl rfl rfl hvX4_isOrder.2 ⟨Nat.le_of_ble_eq_true rfl, Nat.le_of_ble_eq_true rfl⟩) (tb_prS hP hK hZ hS [] rfl) rfl rfl hl.1 rfl (lv_room (Nat.le_of_ble_eq_true rfl)) dX4_refusalOfFirst_1 ⟨Nat.zero_le _, Nat.zero_le _⟩)) (fun r_1 hr_1 => ?_)
  obtain rfl : r_1 = bB (decide (tRng (nI o) 6)) := hr_1
  refine tb_if_eqB (tgt := 21) hx hb dX4_refusalOfFirst_4 (by decide) (fun c4 => ?_) (fun c4 => ?_)
  · exact absurd (tRng_nI ho (by decide)) c4
  · refine lv_iload_n hx hb dX4_refusalOfFirst_7 rfl (lv_at hl 2 rfl) ?_
    refine vp_callSi (va_Run.run (va_runS (As := [.int (nI a)]) (rest := []) ⟨hx, hb, hml, hown, hts⟩ (k_isTerm l D ct (nI a) ) (va_cwS 1 hts (gw_S (fun _ h => h) w_103 w_104 w_24 wcX4_isTerm) rfl rfl rfl hvX4_isTerm.2 ⟨Nat.le_of_ble_eq_true rfl, Nat.le_of_ble_eq_true rfl⟩) (tb_prS hP hK hZ hS [] rfl) rfl rfl hl.1 rfl (lv_room (Nat.le_of_ble_eq_true rfl)) dX4_refusalOfFirst_8 ⟨Nat.zero_le _, Nat.zero_le _⟩)) (fun r_8 hr_8 => ?_)
    obtain rfl : r_8 = bB (decide (tRng (nI a) 1000)) := hr_8
    refine tb_if_eqB (tgt := 21) hx hb dX4_refusalOfFirst_11 (by decide) (fun c11 => ?_) (fun c11 => ?_)
    · exact absurd (tRng_nI ha (by decide)) c11
    · refine lv_iload_n hx hb dX4_refusalOfFirst_14 rfl (lv_at hl 3 rfl) ?_
      refine vp_callSi (va_Run.run (va_runS (As := [.int (nI vv)]) (rest := []) ⟨hx, hb, hml, hown, hts⟩ (k_isVersion l D ct (nI vv) ) (va_cwS 1 hts (gw_S (fun _ h => h) w_105 w_106 w_24 wcX4_isVersion) rfl rfl rfl hvX4_isVersion.2 ⟨Nat.le_of_ble_eq_true rfl, Nat.le_of_ble_eq_true rfl⟩) (tb_prS hP hK hZ hS [] rfl) rfl rfl hl.1 rfl (lv_room (Nat.le_of_ble_eq_true rfl)) dX4_refusalOfFirst_15 ⟨Nat.zero_le _, Nat.zero_le _⟩)) (fun r_15 hr_15 => ?_)
      obtain rfl : r_15 = bB (decide (tRng (nI vv) 1000001)) := hr_15
      refine tb_if_neB (tgt := 24) hx hb dX4_refusalOfFirst_18 (by decide) (fun c18 => ?_) (fun c18 => ?_)
      · refine lv_iload_n hx hb dX4_refusalOfFirst_24 rfl (lv_at hl 3 rfl) ?_
        refine lv_aload_n hx hb dX4_refusalOfFirst_25 rfl (lv_at hl 0 rfl) ?_
        refine va_get (D := D) (ci := 4) (v := .ref g) (C := RX4) (T := TX4) (N := 9) hx hb hts inX4 hown hK hP 0 rfl rfl 0 (by decide) (hts _ w_87) (fun _ h9 => h9) rfl dX4_refusalOfFirst_26 ?_
        refine va_get (D := D) (ci := 0) (v := .int (oI cu)) (C := RX0) (T := TX0) (N := 6) hx hb hts inX0 hown hK hP 1 rfl rfl 5 (by decide) (hts _ w_57) (fun _ h9 => h9) rfl dX4_refusalOfFirst_29 ?_
        refine lv_icmp_ge (tgt := 40) hx hb dX4_refusalOfFirst_32 (by decide) (fun c32 => ?_) (fun c32 => ?_)
        · exact absurd (oI_lt hlow hcb) (Int32.not_lt.mpr c32)
        · refine lv_bipush (v := (-3)) hx hb dX4_refusalOfFirst_35 (by decide) ?_
          refine lv_goto (tgt := 41) hx hb dX4_refusalOfFirst_37 (by decide) ?_
          exact W.iret (v := (-3)) hx hb hr (fun t ht hW => ⟨_, rfl, rfl, ht⟩) (fun q h => by cases h) dX4_refusalOfFirst_41
      · exact absurd (tRng_nI hv (by decide)) c18

set_option maxHeartbeats 4000000 in
set_option maxRecDepth 100000 in
theorem k_refuse_m2 (l : Launch) (D : va_G) (ct : Nat → ClassId) (mo : Nat) (g : Nat) (pr : Nat) (hh : Nat) (rh : Nat) (aq : Nat) (ld : Nat) (lc : Nat) (nh : Nat) (ty : Nat) (x : Int32) (y : Int32) (u : Int32) (hbad : ¬ (tRng x 6 ∧ tRng y 1000 ∧ tRng u 1000001)) : Met l yX4_refusalOfFirst wsX4_refusalOfFirst ({ frames := 1, cells := 0, slots := 0, locals := 20 }) (tb_Pr D ct [.ref mo, .int x, .int y, .int u] [(mo, .inr (4, [.ref g, .ref pr, .ref hh, .ref rh, .ref aq, .ref ld, .int (nI lc), .ref nh, .ref ty]))]) (vp_Si (fun r => r = (-2))) 0 0 (fun _ => False) := by
  refine Met.ofW (cc := cX4_refusalOfFirst) (maxL := 4) (ret := (some .int)) (by decide) rfl ?_
  intro p e s m args below meth c s₁ B hml hv
  obtain ⟨rfl, hP, hK, hZ⟩ := hv
  have hx := B.exec
  have hb := B.bytes
  have hr := B.returns
  have hts0 := atoms_spec (ws := wsX4_refusalOfFirst) B.pre
  have hts : ∀ w9 ∈ aw, w9.before ([.ref mo, .int x, .int y, .int u] : List Value).toArray s = true := fun w9 h9 => hts0 w9 (List.mem_cons_of_mem _ h9)
  have hown : s.vm.findClass RX4 = some m.cls := findClass_of_methodNamed B.named
  have hlocks := B.notSynchronized
  have hS : va_S (fun _ => False) s.heap s.heap [] := va_S.rf
  have hP : va_P D vwCl [(mo, .inr (4, [.ref g, .ref pr, .ref hh, .ref rh, .ref aq, .ref ld, .int (nI lc), .ref nh, .ref ty]))] s.heap := hP
  have hl := lv_entry ([.ref mo, .int x, .int y, .int u]) (n := 4) (Nat.le_of_ble_eq_true rfl)
  rw [lg_entry_eq]
  generalize (lg_sl ([.ref mo, .int x, .int y, .int u]) ++ List.replicate (4 - (lg_sl ([.ref mo, .int x, .int y, .int u])).length) Slot.unset).toArray = ls at hl ⊢
  have hl : lv_has ls 4 [(0, .ref mo), (1, .int x), (2, .int y), (3, .int u)] := hl
  refine lv_iload_n hx hb dX4_refusalOfFirst_0 rfl (lv_at hl 1 rfl) ?_
  refine vp_callSi (va_Run.run (va_runS (As := [.int x]) (rest := []) ⟨hx, hb, hml, hown, hts⟩ (k_isOrder l D ct x ) (va_cwS 1 hts (gw_S (fun _ h => h) w_112 w_113 w_24 wcX4_isOrder) rfl rfl rfl hvX4_isOrder.2 ⟨Nat.le_of_ble_eq_true rfl, Nat.le_of_ble_eq_true rfl⟩) (tb_prS hP hK hZ hS [] rfl) rfl rfl hl.1 rfl (lv_room (Nat.le_of_ble_eq_true rfl)) dX4_refusalOfFirst_1 ⟨Nat.zero_le _, Nat.zero_le _⟩)) (fun r_1 hr_1 => ?_)
  obtain rfl : r_1 = bB (decide (tRng x 6)) := hr_1
  refine tb_if_eqB (tgt := 21) hx hb dX4_refusalOfFirst_4 (by decide) (fun c4 => ?_) (fun c4 => ?_)
  · refine lv_bipush (v := (-2)) hx hb dX4_refusalOfFirst_21 (by decide) ?_
    exact W.iret (v := (-2)) hx hb hr (fun t ht hW => ⟨_, rfl, rfl, ht⟩) (fun q h => by cases h) dX4_refusalOfFirst_23
  · refine lv_iload_n hx hb dX4_refusalOfFirst_7 rfl (lv_at hl 2 rfl) ?_
    refine vp_callSi (va_Run.run (va_runS (As := [.int y]) (rest := []) ⟨hx, hb, hml, hown, hts⟩ (k_isTerm l D ct y ) (va_cwS 1 hts (gw_S (fun _ h => h) w_103 w_104 w_24 wcX4_isTerm) rfl rfl rfl hvX4_isTerm.2 ⟨Nat.le_of_ble_eq_true rfl, Nat.le_of_ble_eq_true rfl⟩) (tb_prS hP hK hZ hS [] rfl) rfl rfl hl.1 rfl (lv_room (Nat.le_of_ble_eq_true rfl)) dX4_refusalOfFirst_8 ⟨Nat.zero_le _, Nat.zero_le _⟩)) (fun r_8 hr_8 => ?_)
    obtain rfl : r_8 = bB (decide (tRng y 1000)) := hr_8
    refine tb_if_eqB (tgt := 21) hx hb dX4_refusalOfFirst_11 (by decide) (fun c11 => ?_) (fun c11 => ?_)
    · refine lv_bipush (v := (-2)) hx hb dX4_refusalOfFirst_21 (by decide) ?_
      exact W.iret (v := (-2)) hx hb hr (fun t ht hW => ⟨_, rfl, rfl, ht⟩) (fun q h => by cases h) dX4_refusalOfFirst_23
    · refine lv_iload_n hx hb dX4_refusalOfFirst_14 rfl (lv_at hl 3 rfl) ?_
      refine vp_callSi (va_Run.run (va_runS (As := [.int u]) (rest := []) ⟨hx, hb, hml, hown, hts⟩ (k_isVersion l D ct u ) (va_cwS 1 hts (gw_S (fun _ h => h) w_105 w_106 w_24 wcX4_isVersion) rfl rfl rfl hvX4_isVersion.2 ⟨Nat.le_of_ble_eq_true rfl, Nat.le_of_ble_eq_true rfl⟩) (tb_prS hP hK hZ hS [] rfl) rfl rfl hl.1 rfl (lv_room (Nat.le_of_ble_eq_true rfl)) dX4_refusalOfFirst_15 ⟨Nat.zero_le _, Nat.zero_le _⟩)) (fun r_15 hr_15 => ?_)
      obtain rfl : r_15 = bB (decide (tRng u 1000001)) := hr_15
      refine tb_if_neB (tgt := 24) hx hb dX4_refusalOfFirst_18 (by decide) (fun c18 => ?_) (fun c18 => ?_)
      · exact absurd ⟨c4, c11, c18⟩ hbad
      · refine lv_bipush (v := (-2)) hx hb dX4_refusalOfFirst_21 (by decide) ?_
        exact W.iret (v := (-2)) hx hb hr (fun t ht hW => ⟨_, rfl, rfl, ht⟩) (fun q h => by cases h) dX4_refusalOfFirst_23

set_option maxHeartbeats 4000000 in
set_option maxRecDepth 100000 in
theorem k_seconds_m2 (l : Launch) (D : va_G) (ct : Nat → ClassId) (mo : Nat) (g : Nat) (pr : Nat) (hh : Nat) (rh : Nat) (aq : Nat) (ld : Nat) (lc : Nat) (nh : Nat) (ty : Nat) (x : Int32) (y : Int32) (u : Int32) (hbad : ¬ (tRng x 6 ∧ tRng y 1000 ∧ tRng u 1000001)) : Met l yX4_seconds wsX4_seconds ({ frames := 2, cells := 0, slots := 0, locals := 43 }) (tb_Pr D ct [.ref mo, .int x, .int y, .int u] [(mo, .inr (4, [.ref g, .ref pr, .ref hh, .ref rh, .ref aq, .ref ld, .int (nI lc), .ref nh, .ref ty]))]) (vp_Si (fun r => r = (-2))) 0 0 (fun _ => False) := by
  refine Met.ofW (cc := cX4_seconds) (maxL := 5) (ret := (some .int)) (by decide) rfl ?_
  intro p e s m args below meth c s₁ B hml hv
  obtain ⟨rfl, hP, hK, hZ⟩ := hv
  have hx := B.exec
  have hb := B.bytes
  have hr := B.returns
  have hts0 := atoms_spec (ws := wsX4_seconds) B.pre
  have hts : ∀ w9 ∈ aw, w9.before ([.ref mo, .int x, .int y, .int u] : List Value).toArray s = true := fun w9 h9 => hts0 w9 (List.mem_cons_of_mem _ h9)
  have hown : s.vm.findClass RX4 = some m.cls := findClass_of_methodNamed B.named
  have hlocks := B.notSynchronized
  have hS : va_S (fun _ => False) s.heap s.heap [] := va_S.rf
  have hP : va_P D vwCl [(mo, .inr (4, [.ref g, .ref pr, .ref hh, .ref rh, .ref aq, .ref ld, .int (nI lc), .ref nh, .ref ty]))] s.heap := hP
  have hl := lv_entry ([.ref mo, .int x, .int y, .int u]) (n := 5) (Nat.le_of_ble_eq_true rfl)
  rw [lg_entry_eq]
  generalize (lg_sl ([.ref mo, .int x, .int y, .int u]) ++ List.replicate (5 - (lg_sl ([.ref mo, .int x, .int y, .int u])).length) Slot.unset).toArray = ls at hl ⊢
  have hl : lv_has ls 5 [(0, .ref mo), (1, .int x), (2, .int y), (3, .int u)] := hl
  refine lv_aload_n hx hb dX4_seconds_0 rfl (lv_at hl 0 rfl) ?_
  refine lv_iload_n hx hb dX4_seconds_1 rfl (lv_at hl 1 rfl) ?_
  refine lv_iload_n hx hb dX4_seconds_2 rfl (lv_at hl 2 rfl) ?_
  refine lv_iload_n hx hb dX4_seconds_3 rfl (lv_at hl 3 rfl) ?_
  refine vp_callSi (va_Run.run (va_runV (As := [.int x, .int y, .int u]) (rest := []) ⟨hx, hb, hml, hown, hts⟩ (k_refuse_m2 l D ct mo g pr hh rh aq ld lc nh ty x y u hbad) (cwV 3 hts (gw_V (fun _ h => h) w_221 w_222 w_13 w_24 wcX4_refusalOfFirst) rfl rfl rfl hvX4_refusalOfFirst ⟨Nat.le_of_ble_eq_true rfl, Nat.le_of_ble_eq_true rfl⟩) (tb_prV hP hK hZ hS [0] rfl (ci := 4) (q0 := 0) rfl rfl) rfl rfl hl.1 rfl (lv_room (Nat.le_of_ble_eq_true rfl)) dX4_seconds_4 ⟨Nat.zero_le _, Nat.zero_le _⟩)) (fun r_4 hr_4 => ?_)
  obtain rfl : r_4 = (-2) := hr_4
  refine lv_istore (lv' := [(4, .int (-2)), (0, .ref mo), (1, .int x), (2, .int y), (3, .int u)]) hx hb dX4_seconds_7 hl (by decide) rfl (fun ls hl => ?_)
  refine lv_iload hx hb dX4_seconds_9 (lv_at hl 0 rfl) ?_
  refine lv_if_eq (tgt := 17) hx hb dX4_seconds_11 (by decide) (fun c11 => ?_) (fun c11 => ?_)
  · exact absurd c11 (by decide)
  · refine lv_iload hx hb dX4_seconds_14 (lv_at hl 0 rfl) ?_
    exact W.iret (v := (-2)) hx hb hr (fun t ht hW => ⟨_, rfl, rfl, ht⟩) (fun q h => by cases h) dX4_seconds_16

set_option maxHeartbeats 4000000 in
set_option maxRecDepth 100000 in
theorem k_seconds_m3 (l : Launch) (D : va_G) (ct : Nat → ClassId) (mo : Nat) (g : Nat) (pr : Nat) (hh : Nat) (rh : Nat) (aq : Nat) (ld : Nat) (lc : Nat) (nh : Nat) (ty : Nat) (t : Nat) (a0 : Nat) (a1 : Nat) (a2 : Nat) (v : Nat) (w : Nat) (R : Nat) (n : Nat) (X : Nat → Nat) (Y : Nat → Nat) (Z : Nat → Nat) (V : Nat → Nat) (E : Nat → Nat) (now : Nat) (cu : Option Nat) (o : Nat) (a : Nat) (vv : Nat) (ho : o < 6) (ha : a < 1000) (hv : vv < 1000001) (hlow : ∃ j, cu = some j ∧ vv < j) (hcb : ∀ j, cu = some j → j < 2 ^ 31) : Met l yX4_seconds wsX4_seconds ({ frames := 2, cells := 0, slots := 0, locals := 43 }) (tb_Pr D ct [.ref mo, .int (nI o), .int (nI a), .int (nI vv)] [(mo, .inr (4, [.ref g, .ref pr, .ref hh, .ref rh, .ref aq, .ref ld, .int (nI lc), .ref nh, .ref ty])), (g, .inr (0, [.ref t, .ref v, .ref w, .int (nI n), .int (nI now), .int (oI cu)])), (t, .inl (ct 1, 3, .inr (.inr (.inr (.inr (tb_3 a0 a1 a2)))))), (a0, .inl (ct 0, R, .inl (aN X))), (a1, .inl (ct 0, R, .inl (aN Y))), (a2, .inl (ct 0, R, .inl (aN Z))), (v, .inl (ct 0, R, .inl (aN V))), (w, .inl (ct 0, R, .inl (aN E)))]) (vp_Si (fun r => r = (-3))) 0 0 (fun _ => False) := by
  refine Met.ofW (cc := cX4_seconds) (maxL := 5) (ret := (some .int)) (by decide) rfl ?_
  intro p e s m args below meth c s₁ B hml hv
  obtain ⟨rfl, hP, hK, hZ⟩ := hv
  have hx := B.exec
  have hb := B.bytes
  have hr := B.returns
  have hts0 := atoms_spec (ws := wsX4_seconds) B.pre
  have hts : ∀ w9 ∈ aw, w9.before ([.ref mo, .int (nI o), .int (nI a), .int (nI vv)] : List Value).toArray s = true := fun w9 h9 => hts0 w9 (List.mem_cons_of_mem _ h9)
  have hown : s.vm.findClass RX4 = some m.cls := findClass_of_methodNamed B.named
  have hlocks := B.notSynchronized
  have hS : va_S (fun _ => False) s.heap s.heap [] := va_S.rf
  have hP : va_P D vwCl [(mo, .inr (4, [.ref g, .ref pr, .ref hh, .ref rh, .ref aq, .ref ld, .int (nI lc), .ref nh, .ref ty])), (g, .inr (0, [.ref t, .ref v, .ref w, .int (nI n), .int (nI now), .int (oI cu)])), (t, .inl (ct 1, 3, .inr (.inr (.inr (.inr (tb_3 a0 a1 a2)))))), (a0, .inl (ct 0, R, .inl (aN X))), (a1, .inl (ct 0, R, .inl (aN Y))), (a2, .inl (ct 0, R, .inl (aN Z))), (v, .inl (ct 0, R, .inl (aN V))), (w, .inl (ct 0, R, .inl (aN E)))] s.heap := hP
  have hl := lv_entry ([.ref mo, .int (nI o), .int (nI a), .int (nI vv)]) (n := 5) (Nat.le_of_ble_eq_true rfl)
  rw [lg_entry_eq]
  generalize (lg_sl ([.ref mo, .int (nI o), .int (nI a), .int (nI vv)]) ++ List.replicate (5 - (lg_sl ([.ref mo, .int (nI o), .int (nI a), .int (nI vv)])).length) Slot.unset).toArray = ls at hl ⊢
  have hl : lv_has ls 5 [(0, .ref mo), (1, .int (nI o)), (2, .int (nI a)), (3, .int (nI vv))] := hl
  refine lv_aload_n hx hb dX4_seconds_0 rfl (lv_at hl 0 rfl) ?_
  refine lv_iload_n hx hb dX4_seconds_1 rfl (lv_at hl 1 rfl) ?_
  refine lv_iload_n hx hb dX4_seconds_2 rfl (lv_at hl 2 rfl) ?_
  refine lv_iload_n hx hb dX4_seconds_3 rfl (lv_at hl 3 rfl) ?_
  refine vp_callSi (va_Run.run (va_runV (As := [.int (nI o), .int (nI a), .int (nI vv)]) (rest := []) ⟨hx, hb, hml, hown, hts⟩ (k_refuse_m3 l D ct mo g pr hh rh aq ld lc nh ty t a0 a1 a2 v w R n X Y Z V E now cu o a vv ho ha hv hlow hcb) (cwV 3 hts (gw_V (fun _ h => h) w_221 w_222 w_13 w_24 wcX4_refusalOfFirst) rfl rfl rfl hvX4_refusalOfFirst ⟨Nat.le_of_ble_eq_true rfl, Nat.le_of_ble_eq_true rfl⟩) (tb_prV hP hK hZ hS [0, 1, 2, 3, 4, 5, 6, 7] rfl (ci := 4) (q0 := 0) rfl rfl) rfl rfl hl.1 rfl (lv_room (Nat.le_of_ble_eq_true rfl)) dX4_seconds_4 ⟨Nat.zero_le _, Nat.zero_le _⟩)) (fun r_4 hr_4 => ?_)
  obtain rfl : r_4 = (-3) := hr_4
  refine lv_istore (lv' := [(4, .int (-3)), (0, .ref mo), (1, .int (nI o)), (2, .int (nI a)), (3, .int (nI vv))]) hx hb dX4_seconds_7 hl (by decide) rfl (fun ls hl => ?_)
  refine lv_iload hx hb dX4_seconds_9 (lv_at hl 0 rfl) ?_
  refine lv_if_eq (tgt := 17) hx hb dX4_seconds_11 (by decide) (fun c11 => ?_) (fun c11 => ?_)
  · exact absurd c11 (by decide)
  · refine lv_iload hx hb dX4_seconds_14 (lv_at hl 0 rfl) ?_
    exact W.iret (v := (-3)) hx hb hr (fun t ht hW => ⟨_, rfl, rfl, ht⟩) (fun q h => by cases h) dX4_seconds_16

set_option maxHeartbeats 4000000 in
set_option maxRecDepth 100000 in
theorem k_sum_m2 (l : Launch) (D : va_G) (ct : Nat → ClassId) (mo : Nat) (g : Nat) (pr : Nat) (hh : Nat) (rh : Nat) (aq : Nat) (ld : Nat) (lc : Nat) (nh : Nat) (ty : Nat) (x : Int32) (y : Int32) (u : Int32) (hbad : ¬ (tRng x 6 ∧ tRng y 1000 ∧ tRng u 1000001)) : Met l yX4_sum wsX4_sum ({ frames := 2, cells := 0, slots := 0, locals := 43 }) (tb_Pr D ct [.ref mo, .int x, .int y, .int u] [(mo, .inr (4, [.ref g, .ref pr, .ref hh, .ref rh, .ref aq, .ref ld, .int (nI lc), .ref nh, .ref ty]))]) (vp_Sl (fun r => r = ((-2 : Int32).toInt64))) 0 0 (fun _ => False) := by
  refine Met.ofW (cc := cX4_sum) (maxL := 8) (ret := (some .long)) (by decide) rfl ?_
  intro p e s m args below meth c s₁ B hml hv
  obtain ⟨rfl, hP, hK, hZ⟩ := hv
  have hx := B.exec
  have hb := B.bytes
  have hr := B.returns
  have hts0 := atoms_spec (ws := wsX4_sum) B.pre
  have hts : ∀ w9 ∈ aw, w9.before ([.ref mo, .int x, .int y, .int u] : List Value).toArray s = true := fun w9 h9 => hts0 w9 (List.mem_cons_of_mem _ h9)
  have hown : s.vm.findClass RX4 = some m.cls := findClass_of_methodNamed B.named
  have hlocks := B.notSynchronized
  have hS : va_S (fun _ => False) s.heap s.heap [] := va_S.rf
  have hP : va_P D vwCl [(mo, .inr (4, [.ref g, .ref pr, .ref hh, .ref rh, .ref aq, .ref ld, .int (nI lc), .ref nh, .ref ty]))] s.heap := hP
  have hl := lv_entry ([.ref mo, .int x, .int y, .int u]) (n := 8) (Nat.le_of_ble_eq_true rfl)
  rw [lg_entry_eq]
  generalize (lg_sl ([.ref mo, .int x, .int y, .int u]) ++ List.replicate (8 - (lg_sl ([.ref mo, .int x, .int y, .int u])).length) Slot.unset).toArray = ls at hl ⊢
  have hl : lv_has ls 8 [(0, .ref mo), (1, .int x), (2, .int y), (3, .int u)] := hl
  refine lv_aload_n hx hb dX4_sum_0 rfl (lv_at hl 0 rfl) ?_
  refine lv_iload_n hx hb dX4_sum_1 rfl (lv_at hl 1 rfl) ?_
  refine lv_iload_n hx hb dX4_sum_2 rfl (lv_at hl 2 rfl) ?_
  refine lv_iload_n hx hb dX4_sum_3 rfl (lv_at hl 3 rfl) ?_
  refine vp_callSi (va_Run.run (va_runV (As := [.int x, .int y, .int u]) (rest := []) ⟨hx, hb, hml, hown, hts⟩ (k_refuse_m2 l D ct mo g pr hh rh aq ld lc nh ty x y u hbad) (cwV 3 hts (gw_V (fun _ h => h) w_221 w_222 w_13 w_24 wcX4_refusalOfFirst) rfl rfl rfl hvX4_refusalOfFirst ⟨Nat.le_of_ble_eq_true rfl, Nat.le_of_ble_eq_true rfl⟩) (tb_prV hP hK hZ hS [0] rfl (ci := 4) (q0 := 0) rfl rfl) rfl rfl hl.1 rfl (lv_room (Nat.le_of_ble_eq_true rfl)) dX4_sum_4 ⟨Nat.zero_le _, Nat.zero_le _⟩)) (fun r_4 hr_4 => ?_)
  obtain rfl : r_4 = (-2) := hr_4
  refine lv_istore (lv' := [(4, .int (-2)), (0, .ref mo), (1, .int x), (2, .int y), (3, .int u)]) hx hb dX4_sum_7 hl (by decide) rfl (fun ls hl => ?_)
  refine lv_iload hx hb dX4_sum_9 (lv_at hl 0 rfl) ?_
  refine lv_if_eq (tgt := 18) hx hb dX4_sum_11 (by decide) (fun c11 => ?_) (fun c11 => ?_)
  · exact absurd c11 (by decide)
  · refine lv_iload hx hb dX4_sum_14 (lv_at hl 0 rfl) ?_
    refine lv_i2l (v := ((-2 : Int32).toInt64)) hx hb dX4_sum_16 rfl ?_
    exact W.lret (v := ((-2 : Int32).toInt64)) hx hb hr (fun t ht hW => ⟨_, rfl, rfl, ht⟩) (fun q h => by cases h) dX4_sum_17

set_option maxHeartbeats 4000000 in
set_option maxRecDepth 100000 in
theorem k_sum_m3 (l : Launch) (D : va_G) (ct : Nat → ClassId) (mo : Nat) (g : Nat) (pr : Nat) (hh : Nat) (rh : Nat) (aq : Nat) (ld : Nat) (lc : Nat) (nh : Nat) (ty : Nat) (t : Nat) (a0 : Nat) (a1 : Nat) (a2 : Nat) (v : Nat) (w : Nat) (R : Nat) (n : Nat) (X : Nat → Nat) (Y : Nat → Nat) (Z : Nat → Nat) (V : Nat → Nat) (E : Nat → Nat) (now : Nat) (cu : Option Nat) (o : Nat) (a : Nat) (vv : Nat) (ho : o < 6) (ha : a < 1000) (hv : vv < 1000001) (hlow : ∃ j, cu = some j ∧ vv < j) (hcb : ∀ j, cu = some j → j < 2 ^ 31) : Met l yX4_sum wsX4_sum ({ frames := 2, cells := 0, slots := 0, locals := 43 }) (tb_Pr D ct [.ref mo, .int (nI o), .int (nI a), .int (nI vv)] [(mo, .inr (4, [.ref g, .ref pr, .ref hh, .ref rh, .ref aq, .ref ld, .int (nI lc), .ref nh, .ref ty])), (g, .inr (0, [.ref t, .ref v, .ref w, .int (nI n), .int (nI now), .int (oI cu)])), (t, .inl (ct 1, 3, .inr (.inr (.inr (.inr (tb_3 a0 a1 a2)))))), (a0, .inl (ct 0, R, .inl (aN X))), (a1, .inl (ct 0, R, .inl (aN Y))), (a2, .inl (ct 0, R, .inl (aN Z))), (v, .inl (ct 0, R, .inl (aN V))), (w, .inl (ct 0, R, .inl (aN E)))]) (vp_Sl (fun r => r = ((-3 : Int32).toInt64))) 0 0 (fun _ => False) := by
  refine Met.ofW (cc := cX4_sum) (maxL := 8) (ret := (some .long)) (by decide) rfl ?_
  intro p e s m args below meth c s₁ B hml hv
  obtain ⟨rfl, hP, hK, hZ⟩ := hv
  have hx := B.exec
  have hb := B.bytes
  have hr := B.returns
  have hts0 := atoms_spec (ws := wsX4_sum) B.pre
  have hts : ∀ w9 ∈ aw, w9.before ([.ref mo, .int (nI o), .int (nI a), .int (nI vv)] : List Value).toArray s = true := fun w9 h9 => hts0 w9 (List.mem_cons_of_mem _ h9)
  have hown : s.vm.findClass RX4 = some m.cls := findClass_of_methodNamed B.named
  have hlocks := B.notSynchronized
  have hS : va_S (fun _ => False) s.heap s.heap [] := va_S.rf
  have hP : va_P D vwCl [(mo, .inr (4, [.ref g, .ref pr, .ref hh, .ref rh, .ref aq, .ref ld, .int (nI lc), .ref nh, .ref ty])), (g, .inr (0, [.ref t, .ref v, .ref w, .int (nI n), .int (nI now), .int (oI cu)])), (t, .inl (ct 1, 3, .inr (.inr (.inr (.inr (tb_3 a0 a1 a2)))))), (a0, .inl (ct 0, R, .inl (aN X))), (a1, .inl (ct 0, R, .inl (aN Y))), (a2, .inl (ct 0, R, .inl (aN Z))), (v, .inl (ct 0, R, .inl (aN V))), (w, .inl (ct 0, R, .inl (aN E)))] s.heap := hP
  have hl := lv_entry ([.ref mo, .int (nI o), .int (nI a), .int (nI vv)]) (n := 8) (Nat.le_of_ble_eq_true rfl)
  rw [lg_entry_eq]
  generalize (lg_sl ([.ref mo, .int (nI o), .int (nI a), .int (nI vv)]) ++ List.replicate (8 - (lg_sl ([.ref mo, .int (nI o), .int (nI a), .int (nI vv)])).length) Slot.unset).toArray = ls at hl ⊢
  have hl : lv_has ls 8 [(0, .ref mo), (1, .int (nI o)), (2, .int (nI a)), (3, .int (nI vv))] := hl
  refine lv_aload_n hx hb dX4_sum_0 rfl (lv_at hl 0 rfl) ?_
  refine lv_iload_n hx hb dX4_sum_1 rfl (lv_at hl 1 rfl) ?_
  refine lv_iload_n hx hb dX4_sum_2 rfl (lv_at hl 2 rfl) ?_
  refine lv_iload_n hx hb dX4_sum_3 rfl (lv_at hl 3 rfl) ?_
  refine vp_callSi (va_Run.run (va_runV (As := [.int (nI o), .int (nI a), .int (nI vv)]) (rest := []) ⟨hx, hb, hml, hown, hts⟩ (k_refuse_m3 l D ct mo g pr hh rh aq ld lc nh ty t a0 a1 a2 v w R n X Y Z V E now cu o a vv ho ha hv hlow hcb) (cwV 3 hts (gw_V (fun _ h => h) w_221 w_222 w_13 w_24 wcX4_refusalOfFirst) rfl rfl rfl hvX4_refusalOfFirst ⟨Nat.le_of_ble_eq_true rfl, Nat.le_of_ble_eq_true rfl⟩) (tb_prV hP hK hZ hS [0, 1, 2, 3, 4, 5, 6, 7] rfl (ci := 4) (q0 := 0) rfl rfl) rfl rfl hl.1 rfl (lv_room (Nat.le_of_ble_eq_true rfl)) dX4_sum_4 ⟨Nat.zero_le _, Nat.zero_le _⟩)) (fun r_4 hr_4 => ?_)
  obtain rfl : r_4 = (-3) := hr_4
  refine lv_istore (lv' := [(4, .int (-3)), (0, .ref mo), (1, .int (nI o)), (2, .int (nI a)), (3, .int (nI vv))]) hx hb dX4_sum_7 hl (by decide) rfl (fun ls hl => ?_)
  refine lv_iload hx hb dX4_sum_9 (lv_at hl 0 rfl) ?_
  refine lv_if_eq (tgt := 18) hx hb dX4_sum_11 (by decide) (fun c11 => ?_) (fun c11 => ?_)
  · exact absurd c11 (by decide)
  · refine lv_iload hx hb dX4_sum_14 (lv_at hl 0 rfl) ?_
    refine lv_i2l (v := ((-3 : Int32).toInt64)) hx hb dX4_sum_16 rfl ?_
    exact W.lret (v := ((-3 : Int32).toInt64)) hx hb hr (fun t ht hW => ⟨_, rfl, rfl, ht⟩) (fun q h => by cases h) dX4_sum_17
