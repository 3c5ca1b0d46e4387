set_option maxHeartbeats 4000000 in
set_option maxRecDepth 100000 in
theorem k_PR_putIn (l : Launch) (D : va_G) (ct : Nat → ClassId) (h : Nat) (t : Nat) (k : Nat) (g : Nat) (R : Nat) (n : Nat) (f : Nat → Nat) (q : Nat) (z : Nat → Nat) (x : Nat) (sz : Nat) (hn : n ≤ R) (hR : R ≤ 400) (hq : q ≤ R) (hs : tS f n) (hf : ∀ j, f j < 2 ^ 31) (hx9 : x < 2 ^ 31) (hlt : n < R) (h0 : 0 < q) (hsum : tSum z q = n) (hqR : q < R) (hz : ∀ j, z j ≤ 1000) : Met l yX1_putIn wsX1_putIn ({ frames := 2, cells := 0, slots := 0, locals := 58 }) (tb_Pw D ct [.ref h, .int (nI x)] sz [(h, .inr (1, [.ref t, .ref g, .int (nI q)])), (t, .inr (3, [.ref k, .int (nI n)])), (k, .inl (ct 0, R, .inl (aN f))), (g, .inl (ct 0, R, .inl (aN z)))]) (va_Qv (fun _ => True) (tb_B D (va_A [(h, .inr (1, [.ref t, .ref g, .int (nI q)])), (t, .inr (3, [.ref k, .int (nI n)])), (k, .inl (ct 0, R, .inl (aN f))), (g, .inl (ct 0, R, .inl (aN z)))] sz) [(h, .inr (1, [.ref t, .ref g, .int (nI (tQ1 f z n q x))])), (t, .inr (3, [.ref k, .int (nI (n + 1))])), (k, .inl (ct 0, R, .inl (aN (tPut f n x)))), (g, .inl (ct 0, R, .inl (aN (tZ1 f z n q x))))]) (va_A [(h, .inr (1, [.ref t, .ref g, .int (nI q)])), (t, .inr (3, [.ref k, .int (nI n)])), (k, .inl (ct 0, R, .inl (aN f))), (g, .inl (ct 0, R, .inl (aN z)))] sz)) 0 0 (va_A [(h, .inr (1, [.ref t, .ref g, .int (nI q)])), (t, .inr (3, [.ref k, .int (nI n)])), (k, .inl (ct 0, R, .inl (aN f))), (g, .inl (ct 0, R, .inl (aN z)))] sz) := by
  refine Met.ofW (cc := cX1_putIn) (maxL := 3) (ret := none) (by decide) rfl ?_
  intro p e s m args below meth c s₁ B hml hv
  obtain ⟨rfl, hsz, hP, hK, hD0, hZ⟩ := hv
  have hx := B.exec
  have hb := B.bytes
  have hr := B.returns
  have hts0 := atoms_spec (ws := wsX1_putIn) B.pre
  have hts : ∀ w9 ∈ aw, w9.before ([.ref h, .int (nI x)] : List Value).toArray s = true := fun w9 h9 => hts0 w9 (List.mem_cons_of_mem _ h9)
  have hown : s.vm.findClass RX1 = some m.cls := findClass_of_methodNamed B.named
  have hlocks := B.notSynchronized
  subst hsz
  have hD := hD0.self (sz := s.heap.size)
  generalize hAe : va_A [(h, .inr (1, [.ref t, .ref g, .int (nI q)])), (t, .inr (3, [.ref k, .int (nI n)])), (k, .inl (ct 0, R, .inl (aN f))), (g, .inl (ct 0, R, .inl (aN z)))] s.heap.size = A at hD hZ ⊢
  have hA : ∀ q : Nat, s.heap.size ≤ q → A q := fun q h => by rw [← hAe]; exact Or.inr h
  have hS : va_S A s.heap s.heap [] := va_S.rf
  have hP : va_P D vwCl [(h, .inr (1, [.ref t, .ref g, .int (nI q)])), (t, .inr (3, [.ref k, .int (nI n)])), (k, .inl (ct 0, R, .inl (aN f))), (g, .inl (ct 0, R, .inl (aN z)))] s.heap := hP
  have hl := lv_entry ([.ref h, .int (nI x)]) (n := 3) (Nat.le_of_ble_eq_true rfl)
  rw [lg_entry_eq]
  generalize (lg_sl ([.ref h, .int (nI x)]) ++ List.replicate (3 - (lg_sl ([.ref h, .int (nI x)])).length) Slot.unset).toArray = ls at hl ⊢
  have hl : lv_has ls 3 [(0, .ref h), (1, .int (nI x))] := hl
  have hk9 : tPg z (tCnt f x n) q 0 < q := tPg_lt h0
  have hz9 := hz (tPg z (tCnt f x n) q 0)
  refine lv_aload_n hx hb dX1_putIn_0 rfl (lv_at hl 0 rfl) ?_
  refine va_get (D := D) (ci := 1) (v := .int (nI q)) (C := RX1) (T := TX1) (N := 3) hx hb hts inX1 hown hK hP 0 rfl rfl 2 (by decide) (hts _ w_75) (fun _ h9 => h9) rfl dX1_putIn_1 ?_
  refine tb_if_ne (tgt := 13) hx hb dX1_putIn_4 (by decide) (by omega) (fun c4 => ?_) (fun c4 => ?_)
  · refine lv_aload_n hx hb dX1_putIn_13 rfl (lv_at hl 0 rfl) ?_
    refine lv_aload_n hx hb dX1_putIn_14 rfl (lv_at hl 0 rfl) ?_
    refine va_get (D := D) (ci := 1) (v := .ref t) (C := RX1) (T := TX1) (N := 3) hx hb hts inX1 hown hK hP 0 rfl rfl 0 (by decide) (hts _ w_72) (fun _ h9 => h9) rfl dX1_putIn_15 ?_
    refine lv_iload_n hx hb dX1_putIn_18 rfl (lv_at hl 1 rfl) ?_
    refine vp_callSi (va_Run.run (va_runV (As := [.int (nI x)]) (rest := [.ref h]) ⟨hx, hb, hml, hown, hts⟩ (k_Row_placeFor l D ct t k R n f x hn hR hs hf hx9) (cwV 1 hts (gw_V (fun _ h => h) w_141 w_121 w_122 w_28 wcX3_placeFor) rfl rfl rfl hvX3_placeFor ⟨Nat.le_of_ble_eq_true rfl, Nat.le_of_ble_eq_true rfl⟩) (tb_prV hP hK hZ hS [1, 2] rfl (ci := 3) (q0 := 0) rfl rfl) rfl rfl hl.1 rfl (lv_room (Nat.le_of_ble_eq_true rfl)) dX1_putIn_19 ⟨Nat.zero_le _, Nat.zero_le _⟩)) (fun r_19 hr_19 => ?_)
    obtain rfl : r_19 = nI (tCnt f x n) := hr_19
    refine lv_iconst (v := nI 1) hx hb dX1_putIn_22 (by decide) ?_
    refine lv_isub hx hb dX1_putIn_23 ?_
    refine vp_callSi (va_Run.run (va_runV (As := [.int (nI (tCnt f x n) - nI 1)]) (rest := []) ⟨hx, hb, hml, hown, hts⟩ (k_PR_pageHoldM l D ct h t k g R n f q z (tCnt f x n) hn hR hq (tCnt_le _ _ _) h0 hsum) (cwV 1 hts (gw_V (fun _ h => h) w_142 w_143 w_18 w_27 wcX1_pageHolding) rfl rfl rfl hvX1_pageHolding ⟨Nat.le_of_ble_eq_true rfl, Nat.le_of_ble_eq_true rfl⟩) (tb_prV hP hK hZ hS [0, 1, 2, 3] rfl (ci := 1) (q0 := 0) rfl rfl) rfl rfl hl.1 rfl (lv_room (Nat.le_of_ble_eq_true rfl)) dX1_putIn_24 ⟨Nat.zero_le _, Nat.zero_le _⟩)) (fun r_24 hr_24 => ?_)
    obtain rfl : r_24 = nI (tPg z (tCnt f x n) q 0) := hr_24
    refine lv_istore_n (lv' := [(2, .int (nI (tPg z (tCnt f x n) q 0))), (0, .ref h), (1, .int (nI x))]) hx hb dX1_putIn_27 rfl hl (by decide) rfl (fun ls hl => ?_)
    refine lv_aload_n hx hb dX1_putIn_28 rfl (lv_at hl 1 rfl) ?_
    refine va_get (D := D) (ci := 1) (v := .ref t) (C := RX1) (T := TX1) (N := 3) hx hb hts inX1 hown hK hP 0 rfl rfl 0 (by decide) (hts _ w_72) (fun _ h9 => h9) rfl dX1_putIn_29 ?_
    refine lv_iload_n hx hb dX1_putIn_32 rfl (lv_at hl 2 rfl) ?_
    refine tb_callv (wr := [(h, .inr (1, [.ref t, .ref g, .int (nI q)])), (g, .inl (ct 0, R, .inl (aN z)))]) hP hD hS hA [1, 2] [0, 3] rfl rfl (by decide) (by decide) (va_runV (As := [.int (nI x)]) (rest := []) ⟨hx, hb, hml, hown, hts⟩ (k_Row_putIn l D ct t k R n f x _ hn hR hs hf hx9 hlt) (cwV 1 hts (gw_V (fun _ h => h) w_144 w_145 w_146 w_28 wcX3_putIn) rfl rfl rfl hvX3_putIn ⟨Nat.le_of_ble_eq_true rfl, Nat.le_of_ble_eq_true rfl⟩) (tb_pwV hP hD hK hZ hS hA [1, 2] (by decide) rfl (ci := 3) (q0 := 0) rfl rfl) rfl rfl hl.1 rfl (lv_room (Nat.le_of_ble_eq_true rfl)) dX1_putIn_33 ⟨Nat.zero_le _, Nat.zero_le _⟩) (fun H locs hP hD hS => ?_)
    have hP : va_P D vwCl [(h, .inr (1, [.ref t, .ref g, .int (nI q)])), (g, .inl (ct 0, R, .inl (aN z))), (t, .inr (3, [.ref k, .int (nI (n + 1))])), (k, .inl (ct 0, R, .inl (aN (tPut f n x))))] H := hP
    have hD : va_D A [(h, .inr (1, [.ref t, .ref g, .int (nI q)])), (g, .inl (ct 0, R, .inl (aN z))), (t, .inr (3, [.ref k, .int (nI (n + 1))])), (k, .inl (ct 0, R, .inl (aN (tPut f n x))))] := hD
    refine lv_aload_n hx hb dX1_putIn_36 rfl (lv_at hl 1 rfl) ?_
    refine lv_iload_n hx hb dX1_putIn_37 rfl (lv_at hl 0 rfl) ?_
    refine vp_callSi (va_Run.run (va_runV (As := [.int (nI (tPg z (tCnt f x n) q 0))]) (rest := []) ⟨hx, hb, hml, hown, hts⟩ (k_PR_hasPage l D ct h t k g R (n + 1) (tPut f n x) q z (nI (tPg z (tCnt f x n) q 0)) (by omega) hR hq) (cwV 1 hts (gw_V (fun _ h => h) w_148 w_149 w_150 w_27 wcX1_hasPage) rfl rfl rfl hvX1_hasPage ⟨Nat.le_of_ble_eq_true rfl, Nat.le_of_ble_eq_true rfl⟩) (tb_prV hP hK hZ hS [0, 2, 3, 1] rfl (ci := 1) (q0 := 0) rfl rfl) rfl rfl hl.1 rfl (lv_room (Nat.le_of_ble_eq_true rfl)) dX1_putIn_38 ⟨Nat.zero_le _, Nat.zero_le _⟩)) (fun r_38 hr_38 => ?_)
    obtain rfl : r_38 = bB (decide (tRng (nI (tPg z (tCnt f x n) q 0)) q)) := hr_38
    refine tb_if_neB (tgt := 45) hx hb dX1_putIn_41 (by decide) (fun c41 => ?_) (fun c41 => ?_)
    · refine lv_aload_n hx hb dX1_putIn_45 rfl (lv_at hl 1 rfl) ?_
      refine va_get (D := D) (ci := 1) (v := .ref g) (C := RX1) (T := TX1) (N := 3) hx hb hts inX1 hown hK hP 0 rfl rfl 1 (by decide) (hts _ w_74) (fun _ h9 => h9) rfl dX1_putIn_46 ?_
      refine lv_iload_n hx hb dX1_putIn_49 rfl (lv_at hl 0 rfl) ?_
      refine lv_dup2_11 hx hb dX1_putIn_50 rfl rfl ?_
      refine tb_iald (v := z (tPg z (tCnt f x n) q 0)) hx hb hK hP 1 0 rfl rfl (by omega) (by omega) rfl dX1_putIn_51 ?_
      refine lv_iconst (v := nI 1) hx hb dX1_putIn_52 (by decide) ?_
      refine tb_iadd hx hb dX1_putIn_53 ?_
      refine tb_iast hx hb hK hP hD hS 1 0 rfl rfl (by omega) (by omega) dX1_putIn_54 (fun H locs hP hD hS => ?_)
      have hP : va_P D vwCl [(h, .inr (1, [.ref t, .ref g, .int (nI q)])), (g, .inl (ct 0, R, .inl (aN (va_up z (tPg z (tCnt f x n) q 0) ((z (tPg z (tCnt f x n) q 0)) + 1))))), (t, .inr (3, [.ref k, .int (nI (n + 1))])), (k, .inl (ct 0, R, .inl (aN (tPut f n x))))] H := hP
      have hD : va_D A [(h, .inr (1, [.ref t, .ref g, .int (nI q)])), (g, .inl (ct 0, R, .inl (aN (va_up z (tPg z (tCnt f x n) q 0) ((z (tPg z (tCnt f x n) q 0)) + 1))))), (t, .inr (3, [.ref k, .int (nI (n + 1))])), (k, .inl (ct 0, R, .inl (aN (tPut f n x))))] := hD
      refine lv_aload_n hx hb dX1_putIn_55 rfl (lv_at hl 1 rfl) ?_
      refine va_get (D := D) (ci := 1) (v := .ref g) (C := RX1) (T := TX1) (N := 3) hx hb hts inX1 hown hK hP 0 rfl rfl 1 (by decide) (hts _ w_74) (fun _ h9 => h9) rfl dX1_putIn_56 ?_
      refine lv_iload_n hx hb dX1_putIn_59 rfl (lv_at hl 0 rfl) ?_
      refine tb_iald (v := (z (tPg z (tCnt f x n) q 0)) + 1) hx hb hK hP 1 0 rfl rfl (by omega) (by omega) (va_up_self _ _ _) dX1_putIn_60 ?_
      refine lv_bipush (v := nI 16) hx hb dX1_putIn_61 (by decide) ?_
      refine tb_icmp_le (tgt := 90) hx hb dX1_putIn_63 (by decide) (by omega) (by omega) (fun c63 => ?_) (fun c63 => ?_)
      · have hP9 : va_P D vwCl [(h, .inr (1, [.ref t, .ref g, .int (nI q)])), (t, .inr (3, [.ref k, .int (nI (n + 1))])), (k, .inl (ct 0, R, .inl (aN (tPut f n x)))), (g, .inl (ct 0, R, .inl (aN (va_up z (tPg z (tCnt f x n) q 0) ((z (tPg z (tCnt f x n) q 0)) + 1)))))] _ := hP.sub [0, 2, 3, 1] rfl
        have hD9 : va_D A [(h, .inr (1, [.ref t, .ref g, .int (nI q)])), (t, .inr (3, [.ref k, .int (nI (n + 1))])), (k, .inl (ct 0, R, .inl (aN (tPut f n x)))), (g, .inl (ct 0, R, .inl (aN (va_up z (tPg z (tCnt f x n) q 0) ((z (tPg z (tCnt f x n) q 0)) + 1)))))] := hD.sub [0, 2, 3, 1] (by decide) rfl
        have hP9 : va_P D vwCl [(h, .inr (1, [.ref t, .ref g, .int (nI (tQ1 f z n q x))])), (t, .inr (3, [.ref k, .int (nI (n + 1))])), (k, .inl (ct 0, R, .inl (aN (tPut f n x)))), (g, .inl (ct 0, R, .inl (aN (tZ1 f z n q x))))] H := by first | (simp only [tQ1, tZ1, tQput, tZput, if_pos c63]; exact hP9) | (simp only [tQ1, tZ1, tQput, tZput, if_neg (Nat.not_le.mpr c63)]; exact hP9)
        have hD9 : va_D A [(h, .inr (1, [.ref t, .ref g, .int (nI (tQ1 f z n q x))])), (t, .inr (3, [.ref k, .int (nI (n + 1))])), (k, .inl (ct 0, R, .inl (aN (tPut f n x)))), (g, .inl (ct 0, R, .inl (aN (tZ1 f z n q x))))] := by first | (simp only [tQ1, tZ1, tQput, tZput, if_pos c63]; exact hD9) | (simp only [tQ1, tZ1, tQput, tZput, if_neg (Nat.not_le.mpr c63)]; exact hD9)
        exact W.vret hx hb hr (fun t ht hW => ⟨⟨(), rfl, trivial, by rw [ht]; exact hP9, hD9⟩, hS.F ht⟩) hS.2.2 dX1_putIn_90
      · refine lv_aload_n hx hb dX1_putIn_66 rfl (lv_at hl 1 rfl) ?_
        refine lv_iload_n hx hb dX1_putIn_67 rfl (lv_at hl 0 rfl) ?_
        refine lv_iconst (v := nI 1) hx hb dX1_putIn_68 (by decide) ?_
        refine tb_iadd hx hb dX1_putIn_69 ?_
        refine lv_aload_n hx hb dX1_putIn_70 rfl (lv_at hl 1 rfl) ?_
        refine va_get (D := D) (ci := 1) (v := .ref g) (C := RX1) (T := TX1) (N := 3) hx hb hts inX1 hown hK hP 0 rfl rfl 1 (by decide) (hts _ w_74) (fun _ h9 => h9) rfl dX1_putIn_71 ?_
        refine lv_iload_n hx hb dX1_putIn_74 rfl (lv_at hl 0 rfl) ?_
        refine tb_iald (v := (z (tPg z (tCnt f x n) q 0)) + 1) hx hb hK hP 1 0 rfl rfl (by omega) (by omega) (va_up_self _ _ _) dX1_putIn_75 ?_
        refine lv_bipush (v := nI 9) hx hb dX1_putIn_76 (by decide) ?_
        refine tb_isub hx hb dX1_putIn_78 (by omega) ?_
        refine tb_callv (wr := []) hP hD hS hA [0, 2, 3, 1] [] rfl rfl (by decide) (by decide) (va_runV (As := [.int (nI ((tPg z (tCnt f x n) q 0) + 1)), .int (nI (((z (tPg z (tCnt f x n) q 0)) + 1) - 9))]) (rest := []) ⟨hx, hb, hml, hown, hts⟩ (k_PR_openPage l D ct h t k g R (n + 1) (tPut f n x) q (va_up z (tPg z (tCnt f x n) q 0) ((z (tPg z (tCnt f x n) q 0)) + 1)) ((tPg z (tCnt f x n) q 0) + 1) (((z (tPg z (tCnt f x n) q 0)) + 1) - 9) _ (by omega) hR hq (by omega) hqR) (cwV 2 hts (gw_V (fun _ h => h) w_136 w_137 w_19 w_27 wcX1_openPage) rfl rfl rfl hvX1_openPage ⟨Nat.le_of_ble_eq_true rfl, Nat.le_of_ble_eq_true rfl⟩) (tb_pwV hP hD hK hZ hS hA [0, 2, 3, 1] (by decide) rfl (ci := 1) (q0 := 0) rfl rfl) rfl rfl hl.1 rfl (lv_room (Nat.le_of_ble_eq_true rfl)) dX1_putIn_79 ⟨Nat.zero_le _, Nat.zero_le _⟩) (fun H locs hP hD hS => ?_)
        have hP : va_P D vwCl [(h, .inr (1, [.ref t, .ref g, .int (nI (q + 1))])), (t, .inr (3, [.ref k, .int (nI (n + 1))])), (k, .inl (ct 0, R, .inl (aN (tPut f n x)))), (g, .inl (ct 0, R, .inl (aN (tOpen (va_up z (tPg z (tCnt f x n) q 0) ((z (tPg z (tCnt f x n) q 0)) + 1)) q ((tPg z (tCnt f x n) q 0) + 1) (((z (tPg z (tCnt f x n) q 0)) + 1) - 9)))))] H := hP
        have hD : va_D A [(h, .inr (1, [.ref t, .ref g, .int (nI (q + 1))])), (t, .inr (3, [.ref k, .int (nI (n + 1))])), (k, .inl (ct 0, R, .inl (aN (tPut f n x)))), (g, .inl (ct 0, R, .inl (aN (tOpen (va_up z (tPg z (tCnt f x n) q 0) ((z (tPg z (tCnt f x n) q 0)) + 1)) q ((tPg z (tCnt f x n) q 0) + 1) (((z (tPg z (tCnt f x n) q 0)) + 1) - 9)))))] := hD
        refine lv_aload_n hx hb dX1_putIn_82 rfl (lv_at hl 1 rfl) ?_
        refine va_get (D := D) (ci := 1) (v := .ref g) (C := RX1) (T := TX1) (N := 3) hx hb hts inX1 hown hK hP 0 rfl rfl 1 (by decide) (hts _ w_74) (fun _ h9 => h9) rfl dX1_putIn_83 ?_
        refine lv_iload_n hx hb dX1_putIn_86 rfl (lv_at hl 0 rfl) ?_
        refine lv_bipush (v := nI 9) hx hb dX1_putIn_87 (by decide) ?_
        refine tb_iast hx hb hK hP hD hS 3 0 rfl rfl (by omega) (by omega) dX1_putIn_89 (fun H locs hP hD hS => ?_)
        have hP : va_P D vwCl [(h, .inr (1, [.ref t, .ref g, .int (nI (q + 1))])), (t, .inr (3, [.ref k, .int (nI (n + 1))])), (k, .inl (ct 0, R, .inl (aN (tPut f n x)))), (g, .inl (ct 0, R, .inl (aN (va_up (tOpen (va_up z (tPg z (tCnt f x n) q 0) ((z (tPg z (tCnt f x n) q 0)) + 1)) q ((tPg z (tCnt f x n) q 0) + 1) (((z (tPg z (tCnt f x n) q 0)) + 1) - 9)) (tPg z (tCnt f x n) q 0) 9))))] H := hP
        have hD : va_D A [(h, .inr (1, [.ref t, .ref g, .int (nI (q + 1))])), (t, .inr (3, [.ref k, .int (nI (n + 1))])), (k, .inl (ct 0, R, .inl (aN (tPut f n x)))), (g, .inl (ct 0, R, .inl (aN (va_up (tOpen (va_up z (tPg z (tCnt f x n) q 0) ((z (tPg z (tCnt f x n) q 0)) + 1)) q ((tPg z (tCnt f x n) q 0) + 1) (((z (tPg z (tCnt f x n) q 0)) + 1) - 9)) (tPg z (tCnt f x n) q 0) 9))))] := hD
        have hP9 : va_P D vwCl [(h, .inr (1, [.ref t, .ref g, .int (nI (q + 1))])), (t, .inr (3, [.ref k, .int (nI (n + 1))])), (k, .inl (ct 0, R, .inl (aN (tPut f n x)))), (g, .inl (ct 0, R, .inl (aN (va_up (tOpen (va_up z (tPg z (tCnt f x n) q 0) ((z (tPg z (tCnt f x n) q 0)) + 1)) q ((tPg z (tCnt f x n) q 0) + 1) (((z (tPg z (tCnt f x n) q 0)) + 1) - 9)) (tPg z (tCnt f x n) q 0) 9))))] _ := hP.sub [0, 1, 2, 3] rfl
        have hD9 : va_D A [(h, .inr (1, [.ref t, .ref g, .int (nI (q + 1))])), (t, .inr (3, [.ref k, .int (nI (n + 1))])), (k, .inl (ct 0, R, .inl (aN (tPut f n x)))), (g, .inl (ct 0, R, .inl (aN (va_up (tOpen (va_up z (tPg z (tCnt f x n) q 0) ((z (tPg z (tCnt f x n) q 0)) + 1)) q ((tPg z (tCnt f x n) q 0) + 1) (((z (tPg z (tCnt f x n) q 0)) + 1) - 9)) (tPg z (tCnt f x n) q 0) 9))))] := hD.sub [0, 1, 2, 3] (by decide) rfl
        have hP9 : va_P D vwCl [(h, .inr (1, [.ref t, .ref g, .int (nI (tQ1 f z n q x))])), (t, .inr (3, [.ref k, .int (nI (n + 1))])), (k, .inl (ct 0, R, .inl (aN (tPut f n x)))), (g, .inl (ct 0, R, .inl (aN (tZ1 f z n q x))))] H := by first | (simp only [tQ1, tZ1, tQput, tZput, if_pos c63]; exact hP9) | (simp only [tQ1, tZ1, tQput, tZput, if_neg (Nat.not_le.mpr c63)]; exact hP9)
        have hD9 : va_D A [(h, .inr (1, [.ref t, .ref g, .int (nI (tQ1 f z n q x))])), (t, .inr (3, [.ref k, .int (nI (n + 1))])), (k, .inl (ct 0, R, .inl (aN (tPut f n x)))), (g, .inl (ct 0, R, .inl (aN (tZ1 f z n q x))))] := by first | (simp only [tQ1, tZ1, tQput, tZput, if_pos c63]; exact hD9) | (simp only [tQ1, tZ1, tQput, tZput, if_neg (Nat.not_le.mpr c63)]; exact hD9)
        exact W.vret hx hb hr (fun t ht hW => ⟨⟨(), rfl, trivial, by rw [ht]; exact hP9, hD9⟩, hS.F ht⟩) hS.2.2 dX1_putIn_90
    · exact absurd (tRng_nI hk9 (by omega)) c41
  · exfalso; omega

set_option maxHeartbeats 4000000 in
set_option maxRecDepth 100000 in
theorem k_PR_putIn0 (l : Launch) (D : va_G) (ct : Nat → ClassId) (h : Nat) (t : Nat) (k : Nat) (g : Nat) (R : Nat) (f : Nat → Nat) (z : Nat → Nat) (x : Nat) (sz : Nat) (hR : R ≤ 400) (h1R : 1 ≤ R) (hf : ∀ j, f j < 2 ^ 31) (hx9 : x < 2 ^ 31) (hz : ∀ j, z j ≤ 1000) : Met l yX1_putIn wsX1_putIn ({ frames := 2, cells := 0, slots := 0, locals := 58 }) (tb_Pw D ct [.ref h, .int (nI x)] sz [(h, .inr (1, [.ref t, .ref g, .int (nI 0)])), (t, .inr (3, [.ref k, .int (nI 0)])), (k, .inl (ct 0, R, .inl (aN f))), (g, .inl (ct 0, R, .inl (aN z)))]) (va_Qv (fun _ => True) (tb_B D (va_A [(h, .inr (1, [.ref t, .ref g, .int (nI 0)])), (t, .inr (3, [.ref k, .int (nI 0)])), (k, .inl (ct 0, R, .inl (aN f))), (g, .inl (ct 0, R, .inl (aN z)))] sz) [(h, .inr (1, [.ref t, .ref g, .int (nI (tQ1 f (tOpen z 0 0 0) 0 (0 + 1) x))])), (t, .inr (3, [.ref k, .int (nI (0 + 1))])), (k, .inl (ct 0, R, .inl (aN (tPut f 0 x)))), (g, .inl (ct 0, R, .inl (aN (tZ1 f (tOpen z 0 0 0) 0 (0 + 1) x))))]) (va_A [(h, .inr (1, [.ref t, .ref g, .int (nI 0)])), (t, .inr (3, [.ref k, .int (nI 0)])), (k, .inl (ct 0, R, .inl (aN f))), (g, .inl (ct 0, R, .inl (aN z)))] sz)) 0 0 (va_A [(h, .inr (1, [.ref t, .ref g, .int (nI 0)])), (t, .inr (3, [.ref k, .int (nI 0)])), (k, .inl (ct 0, R, .inl (aN f))), (g, .inl (ct 0, R, .inl (aN z)))] sz) := by
  refine Met.ofW (cc := cX1_putIn) (maxL := 3) (ret := none) (by decide) rfl ?_
  intro p e s m args below meth c s₁ B hml hv
  obtain ⟨rfl, hsz, hP, hK, hD0, hZ⟩ := hv
  have hx := B.exec
  have hb := B.bytes
  have hr := B.returns
  have hts0 := atoms_spec (ws := wsX1_putIn) B.pre
  have hts : ∀ w9 ∈ aw, w9.before ([.ref h, .int (nI x)] : List Value).toArray s = true := fun w9 h9 => hts0 w9 (List.mem_cons_of_mem _ h9)
  have hown : s.vm.findClass RX1 = some m.cls := findClass_of_methodNamed B.named
  have hlocks := B.notSynchronized
  subst hsz
  have hD := hD0.self (sz := s.heap.size)
  generalize hAe : va_A [(h, .inr (1, [.ref t, .ref g, .int (nI 0)])), (t, .inr (3, [.ref k, .int (nI 0)])), (k, .inl (ct 0, R, .inl (aN f))), (g, .inl (ct 0, R, .inl (aN z)))] s.heap.size = A at hD hZ ⊢
  have hA : ∀ q : Nat, s.heap.size ≤ q → A q := fun q h => by rw [← hAe]; exact Or.inr h
  have hS : va_S A s.heap s.heap [] := va_S.rf
  have hP : va_P D vwCl [(h, .inr (1, [.ref t, .ref g, .int (nI 0)])), (t, .inr (3, [.ref k, .int (nI 0)])), (k, .inl (ct 0, R, .inl (aN f))), (g, .inl (ct 0, R, .inl (aN z)))] s.heap := hP
  have hl := lv_entry ([.ref h, .int (nI x)]) (n := 3) (Nat.le_of_ble_eq_true rfl)
  rw [lg_entry_eq]
  generalize (lg_sl ([.ref h, .int (nI x)]) ++ List.replicate (3 - (lg_sl ([.ref h, .int (nI x)])).length) Slot.unset).toArray = ls at hl ⊢
  have hl : lv_has ls 3 [(0, .ref h), (1, .int (nI x))] := hl
  have hk9 : tPg (tOpen z 0 0 0) (tCnt f x 0) (0 + 1) 0 < 0 + 1 := tPg_lt (by decide)
  have hz9 : (tOpen z 0 0 0) (tPg (tOpen z 0 0 0) (tCnt f x 0) (0 + 1) 0) ≤ 1000 := tOpen_le hz (by decide) _
  have hs : tS f 0 := fun i j _ h => absurd h (Nat.not_lt_zero _)
  have hsum : tSum (tOpen z 0 0 0) (0 + 1) = 0 := rfl
  have hk0 : tPg (tOpen z 0 0 0) (tCnt f x 0) (0 + 1) 0 = 0 := by omega
  have hz8 : (tOpen z 0 0 0) (tPg (tOpen z 0 0 0) (tCnt f x 0) (0 + 1) 0) = 0 := by rw [hk0]; rfl
  refine lv_aload_n hx hb dX1_putIn_0 rfl (lv_at hl 0 rfl) ?_
  refine va_get (D := D) (ci := 1) (v := .int (nI 0)) (C := RX1) (T := TX1) (N := 3) hx hb hts inX1 hown hK hP 0 rfl rfl 2 (by decide) (hts _ w_75) (fun _ h9 => h9) rfl dX1_putIn_1 ?_
  refine tb_if_ne (tgt := 13) hx hb dX1_putIn_4 (by decide) (by omega) (fun c4 => ?_) (fun c4 => ?_)
  · exact absurd c4 (by decide)
  · refine lv_aload_n hx hb dX1_putIn_7 rfl (lv_at hl 0 rfl) ?_
    refine lv_iconst (v := nI 0) hx hb dX1_putIn_8 (by decide) ?_
    refine lv_iconst (v := nI 0) hx hb dX1_putIn_9 (by decide) ?_
    refine tb_callv (wr := []) hP hD hS hA [0, 1, 2, 3] [] rfl rfl (by decide) (by decide) (va_runV (As := [.int (nI 0), .int (nI 0)]) (rest := []) ⟨hx, hb, hml, hown, hts⟩ (k_PR_openPage l D ct h t k g R 0 f 0 z 0 0 _ (by omega) hR (by omega) (by omega) (by omega)) (cwV 2 hts (gw_V (fun _ h => h) w_136 w_137 w_19 w_27 wcX1_openPage) rfl rfl rfl hvX1_openPage ⟨Nat.le_of_ble_eq_true rfl, Nat.le_of_ble_eq_true rfl⟩) (tb_pwV hP hD hK hZ hS hA [0, 1, 2, 3] (by decide) rfl (ci := 1) (q0 := 0) rfl rfl) rfl rfl hl.1 rfl (lv_room (Nat.le_of_ble_eq_true rfl)) dX1_putIn_10 ⟨Nat.zero_le _, Nat.zero_le _⟩) (fun H locs hP hD hS => ?_)
    have hP : va_P D vwCl [(h, .inr (1, [.ref t, .ref g, .int (nI (0 + 1))])), (t, .inr (3, [.ref k, .int (nI 0)])), (k, .inl (ct 0, R, .inl (aN f))), (g, .inl (ct 0, R, .inl (aN (tOpen z 0 0 0))))] H := hP
    have hD : va_D A [(h, .inr (1, [.ref t, .ref g, .int (nI (0 + 1))])), (t, .inr (3, [.ref k, .int (nI 0)])), (k, .inl (ct 0, R, .inl (aN f))), (g, .inl (ct 0, R, .inl (aN (tOpen z 0 0 0))))] := hD
    refine lv_aload_n hx hb dX1_putIn_13 rfl (lv_at hl 0 rfl) ?_
    refine lv_aload_n hx hb dX1_putIn_14 rfl (lv_at hl 0 rfl) ?_
    refine va_get (D := D) (ci := 1) (v := .ref t) (C := RX1) (T := TX1) (N := 3) hx hb hts inX1 hown hK hP 0 rfl rfl 0 (by decide) (hts _ w_72) (fun _ h9 => h9) rfl dX1_putIn_15 ?_
    refine lv_iload_n hx hb dX1_putIn_18 rfl (lv_at hl 1 rfl) ?_
    refine vp_callSi (va_Run.run (va_runV (As := [.int (nI x)]) (rest := [.ref h]) ⟨hx, hb, hml, hown, hts⟩ (k_Row_placeFor l D ct t k R 0 f x (by omega) hR hs hf hx9) (cwV 1 hts (gw_V (fun _ h => h) w_141 w_121 w_122 w_28 wcX3_placeFor) rfl rfl rfl hvX3_placeFor ⟨Nat.le_of_ble_eq_true rfl, Nat.le_of_ble_eq_true rfl⟩) (tb_prV hP hK hZ hS [1, 2] rfl (ci := 3) (q0 := 0) rfl rfl) rfl rfl hl.1 rfl (lv_room (Nat.le_of_ble_eq_true rfl)) dX1_putIn_19 ⟨Nat.zero_le _, Nat.zero_le _⟩)) (fun r_19 hr_19 => ?_)
    obtain rfl : r_19 = nI (tCnt f x 0) := hr_19
    refine lv_iconst (v := nI 1) hx hb dX1_putIn_22 (by decide) ?_
    refine lv_isub hx hb dX1_putIn_23 ?_
    refine vp_callSi (va_Run.run (va_runV (As := [.int (nI (tCnt f x 0) - nI 1)]) (rest := []) ⟨hx, hb, hml, hown, hts⟩ (k_PR_pageHoldM l D ct h t k g R 0 f (0 + 1) (tOpen z 0 0 0) (tCnt f x 0) (by omega) hR (by omega) (tCnt_le _ _ _) (by omega) hsum) (cwV 1 hts (gw_V (fun _ h => h) w_142 w_143 w_18 w_27 wcX1_pageHolding) rfl rfl rfl hvX1_pageHolding ⟨Nat.le_of_ble_eq_true rfl, Nat.le_of_ble_eq_true rfl⟩) (tb_prV hP hK hZ hS [0, 1, 2, 3] rfl (ci := 1) (q0 := 0) rfl rfl) rfl rfl hl.1 rfl (lv_room (Nat.le_of_ble_eq_true rfl)) dX1_putIn_24 ⟨Nat.zero_le _, Nat.zero_le _⟩)) (fun r_24 hr_24 => ?_)
    obtain rfl : r_24 = nI (tPg (tOpen z 0 0 0) (tCnt f x 0) (0 + 1) 0) := hr_24
    refine lv_istore_n (lv' := [(2, .int (nI (tPg (tOpen z 0 0 0) (tCnt f x 0) (0 + 1) 0))), (0, .ref h), (1, .int (nI x))]) hx hb dX1_putIn_27 rfl hl (by decide) rfl (fun ls hl => ?_)
    refine lv_aload_n hx hb dX1_putIn_28 rfl (lv_at hl 1 rfl) ?_
    refine va_get (D := D) (ci := 1) (v := .ref t) (C := RX1) (T := TX1) (N := 3) hx hb hts inX1 hown hK hP 0 rfl rfl 0 (by decide) (hts _ w_72) (fun _ h9 => h9) rfl dX1_putIn_29 ?_
    refine lv_iload_n hx hb dX1_putIn_32 rfl (lv_at hl 2 rfl) ?_
    refine tb_callv (wr := [(h, .inr (1, [.ref t, .ref g, .int (nI (0 + 1))])), (g, .inl (ct 0, R, .inl (aN (tOpen z 0 0 0))))]) hP hD hS hA [1, 2] [0, 3] rfl rfl (by decide) (by decide) (va_runV (As := [.int (nI x)]) (rest := []) ⟨hx, hb, hml, hown, hts⟩ (k_Row_putIn l D ct t k R 0 f x _ (by omega) hR hs hf hx9 (by omega)) (cwV 1 hts (gw_V (fun _ h => h) w_144 w_145 w_146 w_28 wcX3_putIn) rfl rfl rfl hvX3_putIn ⟨Nat.le_of_ble_eq_true rfl, Nat.le_of_ble_eq_true rfl⟩) (tb_pwV hP hD hK hZ hS hA [1, 2] (by decide) rfl (ci := 3) (q0 := 0) rfl rfl) rfl rfl hl.1 rfl (lv_room (Nat.le_of_ble_eq_true rfl)) dX1_putIn_33 ⟨Nat.zero_le _, Nat.zero_le _⟩) (fun H locs hP hD hS => ?_)
    have hP : va_P D vwCl [(h, .inr (1, [.ref t, .ref g, .int (nI (0 + 1))])), (g, .inl (ct 0, R, .inl (aN (tOpen z 0 0 0)))), (t, .inr (3, [.ref k, .int (nI (0 + 1))])), (k, .inl (ct 0, R, .inl (aN (tPut f 0 x))))] H := hP
    have hD : va_D A [(h, .inr (1, [.ref t, .ref g, .int (nI (0 + 1))])), (g, .inl (ct 0, R, .inl (aN (tOpen z 0 0 0)))), (t, .inr (3, [.ref k, .int (nI (0 + 1))])), (k, .inl (ct 0, R, .inl (aN (tPut f 0 x))))] := hD
    refine lv_aload_n hx hb dX1_putIn_36 rfl (lv_at hl 1 rfl) ?_
    refine lv_iload_n hx hb dX1_putIn_37 rfl (lv_at hl 0 rfl) ?_
    refine vp_callSi (va_Run.run (va_runV (As := [.int (nI (tPg (tOpen z 0 0 0) (tCnt f x 0) (0 + 1) 0))]) (rest := []) ⟨hx, hb, hml, hown, hts⟩ (k_PR_hasPage l D ct h t k g R (0 + 1) (tPut f 0 x) (0 + 1) (tOpen z 0 0 0) (nI (tPg (tOpen z 0 0 0) (tCnt f x 0) (0 + 1) 0)) (by omega) hR (by omega)) (cwV 1 hts (gw_V (fun _ h => h) w_148 w_149 w_150 w_27 wcX1_hasPage) rfl rfl rfl hvX1_hasPage ⟨Nat.le_of_ble_eq_true rfl, Nat.le_of_ble_eq_true rfl⟩) (tb_prV hP hK hZ hS [0, 2, 3, 1] rfl (ci := 1) (q0 := 0) rfl rfl) rfl rfl hl.1 rfl (lv_room (Nat.le_of_ble_eq_true rfl)) dX1_putIn_38 ⟨Nat.zero_le _, Nat.zero_le _⟩)) (fun r_38 hr_38 => ?_)
    obtain rfl : r_38 = bB (decide (tRng (nI (tPg (tOpen z 0 0 0) (tCnt f x 0) (0 + 1) 0)) (0 + 1))) := hr_38
    refine tb_if_neB (tgt := 45) hx hb dX1_putIn_41 (by decide) (fun c41 => ?_) (fun c41 => ?_)
    · refine lv_aload_n hx hb dX1_putIn_45 rfl (lv_at hl 1 rfl) ?_
      refine va_get (D := D) (ci := 1) (v := .ref g) (C := RX1) (T := TX1) (N := 3) hx hb hts inX1 hown hK hP 0 rfl rfl 1 (by decide) (hts _ w_74) (fun _ h9 => h9) rfl dX1_putIn_46 ?_
      refine lv_iload_n hx hb dX1_putIn_49 rfl (lv_at hl 0 rfl) ?_
      refine lv_dup2_11 hx hb dX1_putIn_50 rfl rfl ?_
      refine tb_iald (v := (tOpen z 0 0 0) (tPg (tOpen z 0 0 0) (tCnt f x 0) (0 + 1) 0)) hx hb hK hP 1 0 rfl rfl (by omega) (by omega) rfl dX1_putIn_51 ?_
      refine lv_iconst (v := nI 1) hx hb dX1_putIn_52 (by decide) ?_
      refine tb_iadd hx hb dX1_putIn_53 ?_
      refine tb_iast hx hb hK hP hD hS 1 0 rfl rfl (by omega) (by omega) dX1_putIn_54 (fun H locs hP hD hS => ?_)
      have hP : va_P D vwCl [(h, .inr (1, [.ref t, .ref g, .int (nI (0 + 1))])), (g, .inl (ct 0, R, .inl (aN (va_up (tOpen z 0 0 0) (tPg (tOpen z 0 0 0) (tCnt f x 0) (0 + 1) 0) (((tOpen z 0 0 0) (tPg (tOpen z 0 0 0) (tCnt f x 0) (0 + 1) 0)) + 1))))), (t, .inr (3, [.ref k, .int (nI (0 + 1))])), (k, .inl (ct 0, R, .inl (aN (tPut f 0 x))))] H := hP
      have hD : va_D A [(h, .inr (1, [.ref t, .ref g, .int (nI (0 + 1))])), (g, .inl (ct 0, R, .inl (aN (va_up (tOpen z 0 0 0) (tPg (tOpen z 0 0 0) (tCnt f x 0) (0 + 1) 0) (((tOpen z 0 0 0) (tPg (tOpen z 0 0 0) (tCnt f x 0) (0 + 1) 0)) + 1))))), (t, .inr (3, [.ref k, .int (nI (0 + 1))])), (k, .inl (ct 0, R, .inl (aN (tPut f 0 x))))] := hD
      refine lv_aload_n hx hb dX1_putIn_55 rfl (lv_at hl 1 rfl) ?_
      refine va_get (D := D) (ci := 1) (v := .ref g) (C := RX1) (T := TX1) (N := 3) hx hb hts inX1 hown hK hP 0 rfl rfl 1 (by decide) (hts _ w_74) (fun _ h9 => h9) rfl dX1_putIn_56 ?_
      refine lv_iload_n hx hb dX1_putIn_59 rfl (lv_at hl 0 rfl) ?_
      refine tb_iald (v := ((tOpen z 0 0 0) (tPg (tOpen z 0 0 0) (tCnt f x 0) (0 + 1) 0)) + 1) hx hb hK hP 1 0 rfl rfl (by omega) (by omega) (va_up_self _ _ _) dX1_putIn_60 ?_
      refine lv_bipush (v := nI 16) hx hb dX1_putIn_61 (by decide) ?_
      refine tb_icmp_le (tgt := 90) hx hb dX1_putIn_63 (by decide) (by omega) (by omega) (fun c63 => ?_) (fun c63 => ?_)
      · have hP9 : va_P D vwCl [(h, .inr (1, [.ref t, .ref g, .int (nI (0 + 1))])), (t, .inr (3, [.ref k, .int (nI (0 + 1))])), (k, .inl (ct 0, R, .inl (aN (tPut f 0 x)))), (g, .inl (ct 0, R, .inl (aN (va_up (tOpen z 0 0 0) (tPg (tOpen z 0 0 0) (tCnt f x 0) (0 + 1) 0) (((tOpen z 0 0 0) (tPg (tOpen z 0 0 0) (tCnt f x 0) (0 + 1) 0)) + 1)))))] _ := hP.sub [0, 2, 3, 1] rfl
        have hD9 : va_D A [(h, .inr (1, [.ref t, .ref g, .int (nI (0 + 1))])), (t, .inr (3, [.ref k, .int (nI (0 + 1))])), (k, .inl (ct 0, R, .inl (aN (tPut f 0 x)))), (g, .inl (ct 0, R, .inl (aN (va_up (tOpen z 0 0 0) (tPg (tOpen z 0 0 0) (tCnt f x 0) (0 + 1) 0) (((tOpen z 0 0 0) (tPg (tOpen z 0 0 0) (tCnt f x 0) (0 + 1) 0)) + 1)))))] := hD.sub [0, 2, 3, 1] (by decide) rfl
        have hP9 : va_P D vwCl [(h, .inr (1, [.ref t, .ref g, .int (nI (tQ1 f (tOpen z 0 0 0) 0 (0 + 1) x))])), (t, .inr (3, [.ref k, .int (nI (0 + 1))])), (k, .inl (ct 0, R, .inl (aN (tPut f 0 x)))), (g, .inl (ct 0, R, .inl (aN (tZ1 f (tOpen z 0 0 0) 0 (0 + 1) x))))] H := by first | (simp only [tQ1, tZ1, tQput, tZput, if_pos c63]; exact hP9) | (simp only [tQ1, tZ1, tQput, tZput, if_neg (Nat.not_le.mpr c63)]; exact hP9)
        have hD9 : va_D A [(h, .inr (1, [.ref t, .ref g, .int (nI (tQ1 f (tOpen z 0 0 0) 0 (0 + 1) x))])), (t, .inr (3, [.ref k, .int (nI (0 + 1))])), (k, .inl (ct 0, R, .inl (aN (tPut f 0 x)))), (g, .inl (ct 0, R, .inl (aN (tZ1 f (tOpen z 0 0 0) 0 (0 + 1) x))))] := by first | (simp only [tQ1, tZ1, tQput, tZput, if_pos c63]; exact hD9) | (simp only [tQ1, tZ1, tQput, tZput, if_neg (Nat.not_le.mpr c63)]; exact hD9)
        exact W.vret hx hb hr (fun t ht hW => ⟨⟨(), rfl, trivial, by rw [ht]; exact hP9, hD9⟩, hS.F ht⟩) hS.2.2 dX1_putIn_90
      · exfalso; omega
    · exact absurd (tRng_nI hk9 (by decide)) c41

set_option maxHeartbeats 4000000 in
set_option maxRecDepth 100000 in
theorem k_PR_takeOut (l : Launch) (D : va_G) (ct : Nat → ClassId) (h : Nat) (t : Nat) (k : Nat) (g : Nat) (R : Nat) (n : Nat) (f : Nat → Nat) (q : Nat) (z : Nat → Nat) (x : Nat) (sz : Nat) (hn : n ≤ R) (hR : R ≤ 400) (hq : q ≤ R) (hs : tS f n) (hf : ∀ j, f j < 2 ^ 31) (hx9 : x < 2 ^ 31) (hhas : tHas f n x) (h0 : 0 < q) (hsum : tSum z q = n) (hpos : ∀ j, j < q → 0 < z j) (hz : ∀ j, z j ≤ 1000) : Met l yX1_takeOut wsX1_takeOut ({ frames := 3, cells := 0, slots := 0, locals := 78 }) (tb_Pw D ct [.ref h, .int (nI x)] sz [(h, .inr (1, [.ref t, .ref g, .int (nI q)])), (t, .inr (3, [.ref k, .int (nI n)])), (k, .inl (ct 0, R, .inl (aN f))), (g, .inl (ct 0, R, .inl (aN z)))]) (va_Qv (fun _ => True) (tb_B D (va_A [(h, .inr (1, [.ref t, .ref g, .int (nI q)])), (t, .inr (3, [.ref k, .int (nI n)])), (k, .inl (ct 0, R, .inl (aN f))), (g, .inl (ct 0, R, .inl (aN z)))] sz) [(h, .inr (1, [.ref t, .ref g, .int (nI (tQ2 f z n q x))])), (t, .inr (3, [.ref k, .int (nI (n - 1))])), (k, .inl (ct 0, R, .inl (aN (tTake f n (tCnt f x n))))), (g, .inl (ct 0, R, .inl (aN (tZ2 f z n q x))))]) (va_A [(h, .inr (1, [.ref t, .ref g, .int (nI q)])), (t, .inr (3, [.ref k, .int (nI n)])), (k, .inl (ct 0, R, .inl (aN f))), (g, .inl (ct 0, R, .inl (aN z)))] sz)) 0 0 (va_A [(h, .inr (1, [.ref t, .ref g, .int (nI q)])), (t, .inr (3, [.ref k, .int (nI n)])), (k, .inl (ct 0, R, .inl (aN f))), (g, .inl (ct 0, R, .inl (aN z)))] sz) := by
  refine Met.ofW (cc := cX1_takeOut) (maxL := 4) (ret := none) (by decide) rfl ?_
  intro p e s m args below meth c s₁ B hml hv
  obtain ⟨rfl, hsz, hP, hK, hD0, hZ⟩ := hv
  have hx := B.exec
  have hb := B.bytes
  have hr := B.returns
  have hts0 := atoms_spec (ws := wsX1_takeOut) B.pre
  have hts : ∀ w9 ∈ aw, w9.before ([.ref h, .int (nI x)] : List Value).toArray s = true := fun w9 h9 => hts0 w9 (List.mem_cons_of_mem _ h9)
  have hown : s.vm.findClass RX1 = some m.cls := findClass_of_methodNamed B.named
  have hlocks := B.notSynchronized
  subst hsz
  have hD := hD0.self (sz := s.heap.size)
  generalize hAe : va_A [(h, .inr (1, [.ref t, .ref g, .int (nI q)])), (t, .inr (3, [.ref k, .int (nI n)])), (k, .inl (ct 0, R, .inl (aN f))), (g, .inl (ct 0, R, .inl (aN z)))] s.heap.size = A at hD hZ ⊢
  have hA : ∀ q : Nat, s.heap.size ≤ q → A q := fun q h => by rw [← hAe]; exact Or.inr h
  have hS : va_S A s.heap s.heap [] := va_S.rf
  have hP : va_P D vwCl [(h, .inr (1, [.ref t, .ref g, .int (nI q)])), (t, .inr (3, [.ref k, .int (nI n)])), (k, .inl (ct 0, R, .inl (aN f))), (g, .inl (ct 0, R, .inl (aN z)))] s.heap := hP
  have hl := lv_entry ([.ref h, .int (nI x)]) (n := 4) (Nat.le_of_ble_eq_true rfl)
  rw [lg_entry_eq]
  generalize (lg_sl ([.ref h, .int (nI x)]) ++ List.replicate (4 - (lg_sl ([.ref h, .int (nI x)])).length) Slot.unset).toArray = ls at hl ⊢
  have hl : lv_has ls 4 [(0, .ref h), (1, .int (nI x))] := hl
  have hk9 : tPg z (tCnt f x n + 1) q 0 < q := tPg_lt h0
  have hz9 := hz (tPg z (tCnt f x n + 1) q 0)
  have hp9 := hpos _ hk9
  have hzt : ∀ j, (va_up z (tPg z (tCnt f x n + 1) q 0) (z (tPg z (tCnt f x n + 1) q 0) - 1)) j ≤ 1000 := tUp_le hz (by omega)
  have hi9 := hhas.1
  refine lv_aload_n hx hb dX1_takeOut_0 rfl (lv_at hl 0 rfl) ?_
  refine va_get (D := D) (ci := 1) (v := .ref t) (C := RX1) (T := TX1) (N := 3) hx hb hts inX1 hown hK hP 0 rfl rfl 0 (by decide) (hts _ w_72) (fun _ h9 => h9) rfl dX1_takeOut_1 ?_
  refine lv_iload_n hx hb dX1_takeOut_4 rfl (lv_at hl 1 rfl) ?_
  refine vp_callSi (va_Run.run (va_runV (As := [.int (nI x)]) (rest := []) ⟨hx, hb, hml, hown, hts⟩ (k_Row_has l D ct t k R n f x hn hR hs hf hx9) (cwV 1 hts (gw_V (fun _ h => h) w_162 w_118 w_119 w_28 wcX3_has) rfl rfl rfl hvX3_has ⟨Nat.le_of_ble_eq_true rfl, Nat.le_of_ble_eq_true rfl⟩) (tb_prV hP hK hZ hS [1, 2] rfl (ci := 3) (q0 := 0) rfl rfl) rfl rfl hl.1 rfl (lv_room (Nat.le_of_ble_eq_true rfl)) dX1_takeOut_5 ⟨Nat.zero_le _, Nat.zero_le _⟩)) (fun r_5 hr_5 => ?_)
  obtain rfl : r_5 = bB (decide (tHas f n x)) := hr_5
  refine tb_if_neB (tgt := 12) hx hb dX1_takeOut_8 (by decide) (fun c8 => ?_) (fun c8 => ?_)
  · refine lv_aload_n hx hb dX1_takeOut_12 rfl (lv_at hl 0 rfl) ?_
    refine va_get (D := D) (ci := 1) (v := .ref t) (C := RX1) (T := TX1) (N := 3) hx hb hts inX1 hown hK hP 0 rfl rfl 0 (by decide) (hts _ w_72) (fun _ h9 => h9) rfl dX1_takeOut_13 ?_
    refine lv_iload_n hx hb dX1_takeOut_16 rfl (lv_at hl 1 rfl) ?_
    refine vp_callSi (va_Run.run (va_runV (As := [.int (nI x)]) (rest := []) ⟨hx, hb, hml, hown, hts⟩ (k_Row_placeFor l D ct t k R n f x hn hR hs hf hx9) (cwV 1 hts (gw_V (fun _ h => h) w_141 w_121 w_122 w_28 wcX3_placeFor) rfl rfl rfl hvX3_placeFor ⟨Nat.le_of_ble_eq_true rfl, Nat.le_of_ble_eq_true rfl⟩) (tb_prV hP hK hZ hS [1, 2] rfl (ci := 3) (q0 := 0) rfl rfl) rfl rfl hl.1 rfl (lv_room (Nat.le_of_ble_eq_true rfl)) dX1_takeOut_17 ⟨Nat.zero_le _, Nat.zero_le _⟩)) (fun r_17 hr_17 => ?_)
    obtain rfl : r_17 = nI (tCnt f x n) := hr_17
    refine lv_istore_n (lv' := [(2, .int (nI (tCnt f x n))), (0, .ref h), (1, .int (nI x))]) hx hb dX1_takeOut_20 rfl hl (by decide) rfl (fun ls hl => ?_)
    refine lv_aload_n hx hb dX1_takeOut_21 rfl (lv_at hl 1 rfl) ?_
    refine lv_iload_n hx hb dX1_takeOut_22 rfl (lv_at hl 0 rfl) ?_
    refine vp_callSi (va_Run.run (va_runV (As := [.int (nI (tCnt f x n))]) (rest := []) ⟨hx, hb, hml, hown, hts⟩ (k_PR_pageHolding l D ct h t k g R n f q z (tCnt f x n) hn hR hq (by omega) h0 hsum) (cwV 1 hts (gw_V (fun _ h => h) w_142 w_143 w_18 w_27 wcX1_pageHolding) rfl rfl rfl hvX1_pageHolding ⟨Nat.le_of_ble_eq_true rfl, Nat.le_of_ble_eq_true rfl⟩) (tb_prV hP hK hZ hS [0, 1, 2, 3] rfl (ci := 1) (q0 := 0) rfl rfl) rfl rfl hl.1 rfl (lv_room (Nat.le_of_ble_eq_true rfl)) dX1_takeOut_23 ⟨Nat.zero_le _, Nat.zero_le _⟩)) (fun r_23 hr_23 => ?_)
    obtain rfl : r_23 = nI (tPg z ((tCnt f x n) + 1) q 0) := hr_23
    refine lv_istore_n (lv' := [(3, .int (nI (tPg z ((tCnt f x n) + 1) q 0))), (2, .int (nI (tCnt f x n))), (0, .ref h), (1, .int (nI x))]) hx hb dX1_takeOut_26 rfl hl (by decide) rfl (fun ls hl => ?_)
    refine lv_aload_n hx hb dX1_takeOut_27 rfl (lv_at hl 2 rfl) ?_
    refine va_get (D := D) (ci := 1) (v := .ref t) (C := RX1) (T := TX1) (N := 3) hx hb hts inX1 hown hK hP 0 rfl rfl 0 (by decide) (hts _ w_72) (fun _ h9 => h9) rfl dX1_takeOut_28 ?_
    refine lv_iload_n hx hb dX1_takeOut_31 rfl (lv_at hl 1 rfl) ?_
    refine tb_callv (wr := [(h, .inr (1, [.ref t, .ref g, .int (nI q)])), (g, .inl (ct 0, R, .inl (aN z)))]) hP hD hS hA [1, 2] [0, 3] rfl rfl (by decide) (by decide) (va_runV (As := [.int (nI (tCnt f x n))]) (rest := []) ⟨hx, hb, hml, hown, hts⟩ (k_Row_takeOutAt l D ct t k R n f (tCnt f x n) _ hn hR (by omega)) (cwV 1 hts (gw_V (fun _ h => h) w_163 w_164 w_165 w_28 wcX3_takeOutAt) rfl rfl rfl hvX3_takeOutAt ⟨Nat.le_of_ble_eq_true rfl, Nat.le_of_ble_eq_true rfl⟩) (tb_pwV hP hD hK hZ hS hA [1, 2] (by decide) rfl (ci := 3) (q0 := 0) rfl rfl) rfl rfl hl.1 rfl (lv_room (Nat.le_of_ble_eq_true rfl)) dX1_takeOut_32 ⟨Nat.zero_le _, Nat.zero_le _⟩) (fun H locs hP hD hS => ?_)
    have hP : va_P D vwCl [(h, .inr (1, [.ref t, .ref g, .int (nI q)])), (g, .inl (ct 0, R, .inl (aN z))), (t, .inr (3, [.ref k, .int (nI (n - 1))])), (k, .inl (ct 0, R, .inl (aN (tTake f n (tCnt f x n)))))] H := hP
    have hD : va_D A [(h, .inr (1, [.ref t, .ref g, .int (nI q)])), (g, .inl (ct 0, R, .inl (aN z))), (t, .inr (3, [.ref k, .int (nI (n - 1))])), (k, .inl (ct 0, R, .inl (aN (tTake f n (tCnt f x n)))))] := hD
    refine lv_aload_n hx hb dX1_takeOut_35 rfl (lv_at hl 2 rfl) ?_
    refine lv_iload_n hx hb dX1_takeOut_36 rfl (lv_at hl 0 rfl) ?_
    refine vp_callSi (va_Run.run (va_runV (As := [.int (nI (tPg z ((tCnt f x n) + 1) q 0))]) (rest := []) ⟨hx, hb, hml, hown, hts⟩ (k_PR_hasPage l D ct h t k g R (n - 1) (tTake f n (tCnt f x n)) q z (nI (tPg z ((tCnt f x n) + 1) q 0)) (by omega) hR hq) (cwV 1 hts (gw_V (fun _ h => h) w_148 w_149 w_150 w_27 wcX1_hasPage) rfl rfl rfl hvX1_hasPage ⟨Nat.le_of_ble_eq_true rfl, Nat.le_of_ble_eq_true rfl⟩) (tb_prV hP hK hZ hS [0, 2, 3, 1] rfl (ci := 1) (q0 := 0) rfl rfl) rfl rfl hl.1 rfl (lv_room (Nat.le_of_ble_eq_true rfl)) dX1_takeOut_37 ⟨Nat.zero_le _, Nat.zero_le _⟩)) (fun r_37 hr_37 => ?_)
    obtain rfl : r_37 = bB (decide (tRng (nI (tPg z ((tCnt f x n) + 1) q 0)) q)) := hr_37
    refine tb_if_neB (tgt := 44) hx hb dX1_takeOut_40 (by decide) (fun c40 => ?_) (fun c40 => ?_)
    · refine lv_aload_n hx hb dX1_takeOut_44 rfl (lv_at hl 2 rfl) ?_
      refine va_get (D := D) (ci := 1) (v := .ref g) (C := RX1) (T := TX1) (N := 3) hx hb hts inX1 hown hK hP 0 rfl rfl 1 (by decide) (hts _ w_74) (fun _ h9 => h9) rfl dX1_takeOut_45 ?_
      refine lv_iload_n hx hb dX1_takeOut_48 rfl (lv_at hl 0 rfl) ?_
      refine lv_dup2_11 hx hb dX1_takeOut_49 rfl rfl ?_
      refine tb_iald (v := z (tPg z ((tCnt f x n) + 1) q 0)) hx hb hK hP 1 0 rfl rfl (by omega) (by omega) rfl dX1_takeOut_50 ?_
      refine lv_iconst (v := nI 1) hx hb dX1_takeOut_51 (by decide) ?_
      refine tb_isub hx hb dX1_takeOut_52 (by omega) ?_
      refine tb_iast hx hb hK hP hD hS 1 0 rfl rfl (by omega) (by omega) dX1_takeOut_53 (fun H locs hP hD hS => ?_)
      have hP : va_P D vwCl [(h, .inr (1, [.ref t, .ref g, .int (nI q)])), (g, .inl (ct 0, R, .inl (aN (va_up z (tPg z ((tCnt f x n) + 1) q 0) ((z (tPg z ((tCnt f x n) + 1) q 0)) - 1))))), (t, .inr (3, [.ref k, .int (nI (n - 1))])), (k, .inl (ct 0, R, .inl (aN (tTake f n (tCnt f x n)))))] H := hP
      have hD : va_D A [(h, .inr (1, [.ref t, .ref g, .int (nI q)])), (g, .inl (ct 0, R, .inl (aN (va_up z (tPg z ((tCnt f x n) + 1) q 0) ((z (tPg z ((tCnt f x n) + 1) q 0)) - 1))))), (t, .inr (3, [.ref k, .int (nI (n - 1))])), (k, .inl (ct 0, R, .inl (aN (tTake f n (tCnt f x n)))))] := hD
      refine lv_aload_n hx hb dX1_takeOut_54 rfl (lv_at hl 2 rfl) ?_
      refine va_get (D := D) (ci := 1) (v := .ref g) (C := RX1) (T := TX1) (N := 3) hx hb hts inX1 hown hK hP 0 rfl rfl 1 (by decide) (hts _ w_74) (fun _ h9 => h9) rfl dX1_takeOut_55 ?_
      refine lv_iload_n hx hb dX1_takeOut_58 rfl (lv_at hl 0 rfl) ?_
      refine tb_iald (v := (z (tPg z ((tCnt f x n) + 1) q 0)) - 1) hx hb hK hP 1 0 rfl rfl (by omega) (by omega) (va_up_self _ _ _) dX1_takeOut_59 ?_
      refine tb_if_ne (tgt := 71) hx hb dX1_takeOut_60 (by decide) (by omega) (fun c60 => ?_) (fun c60 => ?_)
      · refine lv_aload_n hx hb dX1_takeOut_71 rfl (lv_at hl 2 rfl) ?_
        refine lv_iload_n hx hb dX1_takeOut_72 rfl (lv_at hl 0 rfl) ?_
        refine vp_callSi (va_Run.run (va_runV (As := [.int (nI (tPg z ((tCnt f x n) + 1) q 0))]) (rest := []) ⟨hx, hb, hml, hown, hts⟩ (k_PR_canJoin l D ct h t k g R (n - 1) (tTake f n (tCnt f x n)) q (va_up z (tPg z ((tCnt f x n) + 1) q 0) ((z (tPg z ((tCnt f x n) + 1) q 0)) - 1)) (tPg z ((tCnt f x n) + 1) q 0) (by omega) hR hq (by omega) hzt) (cwV 1 hts (gw_V (fun _ h => h) w_168 w_169 w_15 w_27 wcX1_canJoin) rfl rfl rfl hvX1_canJoin ⟨Nat.le_of_ble_eq_true rfl, Nat.le_of_ble_eq_true rfl⟩) (tb_prV hP hK hZ hS [0, 2, 3, 1] rfl (ci := 1) (q0 := 0) rfl rfl) rfl rfl hl.1 rfl (lv_room (Nat.le_of_ble_eq_true rfl)) dX1_takeOut_73 ⟨Nat.zero_le _, Nat.zero_le _⟩)) (fun r_73 hr_73 => ?_)
        obtain rfl : r_73 = bB (decide (tCan (va_up z (tPg z ((tCnt f x n) + 1) q 0) ((z (tPg z ((tCnt f x n) + 1) q 0)) - 1)) q (tPg z ((tCnt f x n) + 1) q 0))) := hr_73
        refine tb_if_eqB (tgt := 87) hx hb dX1_takeOut_76 (by decide) (fun c76 => ?_) (fun c76 => ?_)
        · by_cases hk0 : tPg z (tCnt f x n + 1) q 0 = 0
          · skip
            refine lv_aload_n hx hb dX1_takeOut_87 rfl (lv_at hl 2 rfl) ?_
            refine lv_iload_n hx hb dX1_takeOut_88 rfl (lv_at hl 0 rfl) ?_
            refine lv_iconst (v := nI 1) hx hb dX1_takeOut_89 (by decide) ?_
            refine lv_isub hx hb dX1_takeOut_90 ?_
            refine vp_callSi (va_Run.run (va_runV (As := [.int (nI (tPg z ((tCnt f x n) + 1) q 0) - nI 1)]) (rest := []) ⟨hx, hb, hml, hown, hts⟩ (k_PR_canJoinX l D ct h t k g R (n - 1) (tTake f n (tCnt f x n)) q (va_up z (tPg z ((tCnt f x n) + 1) q 0) ((z (tPg z ((tCnt f x n) + 1) q 0)) - 1)) (nI (tPg z ((tCnt f x n) + 1) q 0) - nI 1) (by omega) hR hq (by rw [hk0]; exact tRng_neg (by decide))) (cwV 1 hts (gw_V (fun _ h => h) w_168 w_169 w_15 w_27 wcX1_canJoin) rfl rfl rfl hvX1_canJoin ⟨Nat.le_of_ble_eq_true rfl, Nat.le_of_ble_eq_true rfl⟩) (tb_prV hP hK hZ hS [0, 2, 3, 1] rfl (ci := 1) (q0 := 0) rfl rfl) rfl rfl hl.1 rfl (lv_room (Nat.le_of_ble_eq_true rfl)) dX1_takeOut_91 ⟨Nat.zero_le _, Nat.zero_le _⟩)) (fun r_91 hr_91 => ?_)
            obtain rfl : r_91 = nI 0 := hr_91
            refine tb_if_eq (tgt := 104) hx hb dX1_takeOut_94 (by decide) (by omega) (fun c94 => ?_) (fun c94 => ?_)
            · have hP9 : va_P D vwCl [(h, .inr (1, [.ref t, .ref g, .int (nI q)])), (t, .inr (3, [.ref k, .int (nI (n - 1))])), (k, .inl (ct 0, R, .inl (aN (tTake f n (tCnt f x n))))), (g, .inl (ct 0, R, .inl (aN (va_up z (tPg z ((tCnt f x n) + 1) q 0) ((z (tPg z ((tCnt f x n) + 1) q 0)) - 1)))))] _ := hP.sub [0, 2, 3, 1] rfl
              have hD9 : va_D A [(h, .inr (1, [.ref t, .ref g, .int (nI q)])), (t, .inr (3, [.ref k, .int (nI (n - 1))])), (k, .inl (ct 0, R, .inl (aN (tTake f n (tCnt f x n))))), (g, .inl (ct 0, R, .inl (aN (va_up z (tPg z ((tCnt f x n) + 1) q 0) ((z (tPg z ((tCnt f x n) + 1) q 0)) - 1)))))] := hD.sub [0, 2, 3, 1] (by decide) rfl
              have hP9 : va_P D vwCl [(h, .inr (1, [.ref t, .ref g, .int (nI (tQ2 f z n q x))])), (t, .inr (3, [.ref k, .int (nI (n - 1))])), (k, .inl (ct 0, R, .inl (aN (tTake f n (tCnt f x n))))), (g, .inl (ct 0, R, .inl (aN (tZ2 f z n q x))))] H := by first | (simp only [tQ2, tZ2, tQtake, tZtake, if_pos c60]; exact hP9) | (simp only [tQ2, tZ2, tQtake, tZtake, if_neg (Nat.ne_of_gt c60), if_pos c76]; exact hP9) | (simp only [tQ2, tZ2, tQtake, tZtake, if_neg (Nat.ne_of_gt c60), if_neg c76, if_pos (And.intro (Nat.pos_of_ne_zero hk0) c94)]; exact hP9) | (simp only [tQ2, tZ2, tQtake, tZtake, if_neg (Nat.ne_of_gt c60), if_neg c76, if_neg (show ¬ (0 < tPg z (tCnt f x n + 1) q 0 ∧ tCan (va_up z (tPg z (tCnt f x n + 1) q 0) (z (tPg z (tCnt f x n + 1) q 0) - 1)) q (tPg z (tCnt f x n + 1) q 0 - 1)) from fun q9 => c94 q9.2)]; exact hP9) | (simp only [tQ2, tZ2, tQtake, tZtake, if_neg (Nat.ne_of_gt c60), if_neg c76, if_neg (show ¬ (0 < tPg z (tCnt f x n + 1) q 0 ∧ tCan (va_up z (tPg z (tCnt f x n + 1) q 0) (z (tPg z (tCnt f x n + 1) q 0) - 1)) q (tPg z (tCnt f x n + 1) q 0 - 1)) from fun q9 => absurd q9.1 (by rw [hk0]; decide))]; exact hP9)
              have hD9 : va_D A [(h, .inr (1, [.ref t, .ref g, .int (nI (tQ2 f z n q x))])), (t, .inr (3, [.ref k, .int (nI (n - 1))])), (k, .inl (ct 0, R, .inl (aN (tTake f n (tCnt f x n))))), (g, .inl (ct 0, R, .inl (aN (tZ2 f z n q x))))] := by first | (simp only [tQ2, tZ2, tQtake, tZtake, if_pos c60]; exact hD9) | (simp only [tQ2, tZ2, tQtake, tZtake, if_neg (Nat.ne_of_gt c60), if_pos c76]; exact hD9) | (simp only [tQ2, tZ2, tQtake, tZtake, if_neg (Nat.ne_of_gt c60), if_neg c76, if_pos (And.intro (Nat.pos_of_ne_zero hk0) c94)]; exact hD9) | (simp only [tQ2, tZ2, tQtake, tZtake, if_neg (Nat.ne_of_gt c60), if_neg c76, if_neg (show ¬ (0 < tPg z (tCnt f x n + 1) q 0 ∧ tCan (va_up z (tPg z (tCnt f x n + 1) q 0) (z (tPg z (tCnt f x n + 1) q 0) - 1)) q (tPg z (tCnt f x n + 1) q 0 - 1)) from fun q9 => c94 q9.2)]; exact hD9) | (simp only [tQ2, tZ2, tQtake, tZtake, if_neg (Nat.ne_of_gt c60), if_neg c76, if_neg (show ¬ (0 < tPg z (tCnt f x n + 1) q 0 ∧ tCan (va_up z (tPg z (tCnt f x n + 1) q 0) (z (tPg z (tCnt f x n + 1) q 0) - 1)) q (tPg z (tCnt f x n + 1) q 0 - 1)) from fun q9 => absurd q9.1 (by rw [hk0]; decide))]; exact hD9)
              exact W.vret hx hb hr (fun t ht hW => ⟨⟨(), rfl, trivial, by rw [ht]; exact hP9, hD9⟩, hS.F ht⟩) hS.2.2 dX1_takeOut_104
            · exact absurd c94 (by decide)
          · skip
            refine lv_aload_n hx hb dX1_takeOut_87 rfl (lv_at hl 2 rfl) ?_
            refine lv_iload_n hx hb dX1_takeOut_88 rfl (lv_at hl 0 rfl) ?_
            refine lv_iconst (v := nI 1) hx hb dX1_takeOut_89 (by decide) ?_
            refine tb_isub hx hb dX1_takeOut_90 (by omega) ?_
            refine vp_callSi (va_Run.run (va_runV (As := [.int (nI ((tPg z ((tCnt f x n) + 1) q 0) - 1))]) (rest := []) ⟨hx, hb, hml, hown, hts⟩ (k_PR_canJoin l D ct h t k g R (n - 1) (tTake f n (tCnt f x n)) q (va_up z (tPg z ((tCnt f x n) + 1) q 0) ((z (tPg z ((tCnt f x n) + 1) q 0)) - 1)) ((tPg z ((tCnt f x n) + 1) q 0) - 1) (by omega) hR hq (by omega) hzt) (cwV 1 hts (gw_V (fun _ h => h) w_168 w_169 w_15 w_27 wcX1_canJoin) rfl rfl rfl hvX1_canJoin ⟨Nat.le_of_ble_eq_true rfl, Nat.le_of_ble_eq_true rfl⟩) (tb_prV hP hK hZ hS [0, 2, 3, 1] rfl (ci := 1) (q0 := 0) rfl rfl) rfl rfl hl.1 rfl (lv_room (Nat.le_of_ble_eq_true rfl)) dX1_takeOut_91 ⟨Nat.zero_le _, Nat.zero_le _⟩)) (fun r_91 hr_91 => ?_)
            obtain rfl : r_91 = bB (decide (tCan (va_up z (tPg z ((tCnt f x n) + 1) q 0) ((z (tPg z ((tCnt f x n) + 1) q 0)) - 1)) q ((tPg z ((tCnt f x n) + 1) q 0) - 1))) := hr_91
            refine tb_if_eqB (tgt := 104) hx hb dX1_takeOut_94 (by decide) (fun c94 => ?_) (fun c94 => ?_)
            · have hP9 : va_P D vwCl [(h, .inr (1, [.ref t, .ref g, .int (nI q)])), (t, .inr (3, [.ref k, .int (nI (n - 1))])), (k, .inl (ct 0, R, .inl (aN (tTake f n (tCnt f x n))))), (g, .inl (ct 0, R, .inl (aN (va_up z (tPg z ((tCnt f x n) + 1) q 0) ((z (tPg z ((tCnt f x n) + 1) q 0)) - 1)))))] _ := hP.sub [0, 2, 3, 1] rfl
              have hD9 : va_D A [(h, .inr (1, [.ref t, .ref g, .int (nI q)])), (t, .inr (3, [.ref k, .int (nI (n - 1))])), (k, .inl (ct 0, R, .inl (aN (tTake f n (tCnt f x n))))), (g, .inl (ct 0, R, .inl (aN (va_up z (tPg z ((tCnt f x n) + 1) q 0) ((z (tPg z ((tCnt f x n) + 1) q 0)) - 1)))))] := hD.sub [0, 2, 3, 1] (by decide) rfl
              have hP9 : va_P D vwCl [(h, .inr (1, [.ref t, .ref g, .int (nI (tQ2 f z n q x))])), (t, .inr (3, [.ref k, .int (nI (n - 1))])), (k, .inl (ct 0, R, .inl (aN (tTake f n (tCnt f x n))))), (g, .inl (ct 0, R, .inl (aN (tZ2 f z n q x))))] H := by first | (simp only [tQ2, tZ2, tQtake, tZtake, if_pos c60]; exact hP9) | (simp only [tQ2, tZ2, tQtake, tZtake, if_neg (Nat.ne_of_gt c60), if_pos c76]; exact hP9) | (simp only [tQ2, tZ2, tQtake, tZtake, if_neg (Nat.ne_of_gt c60), if_neg c76, if_pos (And.intro (Nat.pos_of_ne_zero hk0) c94)]; exact hP9) | (simp only [tQ2, tZ2, tQtake, tZtake, if_neg (Nat.ne_of_gt c60), if_neg c76, if_neg (show ¬ (0 < tPg z (tCnt f x n + 1) q 0 ∧ tCan (va_up z (tPg z (tCnt f x n + 1) q 0) (z (tPg z (tCnt f x n + 1) q 0) - 1)) q (tPg z (tCnt f x n + 1) q 0 - 1)) from fun q9 => c94 q9.2)]; exact hP9) | (simp only [tQ2, tZ2, tQtake, tZtake, if_neg (Nat.ne_of_gt c60), if_neg c76, if_neg (show ¬ (0 < tPg z (tCnt f x n + 1) q 0 ∧ tCan (va_up z (tPg z (tCnt f x n + 1) q 0) (z (tPg z (tCnt f x n + 1) q 0) - 1)) q (tPg z (tCnt f x n + 1) q 0 - 1)) from fun q9 => absurd q9.1 (by rw [hk0]; decide))]; exact hP9)
              have hD9 : va_D A [(h, .inr (1, [.ref t, .ref g, .int (nI (tQ2 f z n q x))])), (t, .inr (3, [.ref k, .int (nI (n - 1))])), (k, .inl (ct 0, R, .inl (aN (tTake f n (tCnt f x n))))), (g, .inl (ct 0, R, .inl (aN (tZ2 f z n q x))))] := by first | (simp only [tQ2, tZ2, tQtake, tZtake, if_pos c60]; exact hD9) | (simp only [tQ2, tZ2, tQtake, tZtake, if_neg (Nat.ne_of_gt c60), if_pos c76]; exact hD9) | (simp only [tQ2, tZ2, tQtake, tZtake, if_neg (Nat.ne_of_gt c60), if_neg c76, if_pos (And.intro (Nat.pos_of_ne_zero hk0) c94)]; exact hD9) | (simp only [tQ2, tZ2, tQtake, tZtake, if_neg (Nat.ne_of_gt c60), if_neg c76, if_neg (show ¬ (0 < tPg z (tCnt f x n + 1) q 0 ∧ tCan (va_up z (tPg z (tCnt f x n + 1) q 0) (z (tPg z (tCnt f x n + 1) q 0) - 1)) q (tPg z (tCnt f x n + 1) q 0 - 1)) from fun q9 => c94 q9.2)]; exact hD9) | (simp only [tQ2, tZ2, tQtake, tZtake, if_neg (Nat.ne_of_gt c60), if_neg c76, if_neg (show ¬ (0 < tPg z (tCnt f x n + 1) q 0 ∧ tCan (va_up z (tPg z (tCnt f x n + 1) q 0) (z (tPg z (tCnt f x n + 1) q 0) - 1)) q (tPg z (tCnt f x n + 1) q 0 - 1)) from fun q9 => absurd q9.1 (by rw [hk0]; decide))]; exact hD9)
              exact W.vret hx hb hr (fun t ht hW => ⟨⟨(), rfl, trivial, by rw [ht]; exact hP9, hD9⟩, hS.F ht⟩) hS.2.2 dX1_takeOut_104
            · refine lv_aload_n hx hb dX1_takeOut_97 rfl (lv_at hl 2 rfl) ?_
              refine lv_iload_n hx hb dX1_takeOut_98 rfl (lv_at hl 0 rfl) ?_
              refine lv_iconst (v := nI 1) hx hb dX1_takeOut_99 (by decide) ?_
              refine tb_isub hx hb dX1_takeOut_100 (by omega) ?_
              refine tb_callv (wr := []) hP hD hS hA [0, 2, 3, 1] [] rfl rfl (by decide) (by decide) (va_runV (As := [.int (nI ((tPg z ((tCnt f x n) + 1) q 0) - 1))]) (rest := []) ⟨hx, hb, hml, hown, hts⟩ (k_PR_joinWithNext l D ct h t k g R (n - 1) (tTake f n (tCnt f x n)) q (va_up z (tPg z ((tCnt f x n) + 1) q 0) ((z (tPg z ((tCnt f x n) + 1) q 0)) - 1)) ((tPg z ((tCnt f x n) + 1) q 0) - 1) _ (by omega) hR hq c94.1) (cwV 1 hts (gw_V (fun _ h => h) w_170 w_171 w_14 w_27 wcX1_joinWithNext) rfl rfl rfl hvX1_joinWithNext ⟨Nat.le_of_ble_eq_true rfl, Nat.le_of_ble_eq_true rfl⟩) (tb_pwV hP hD hK hZ hS hA [0, 2, 3, 1] (by decide) rfl (ci := 1) (q0 := 0) rfl rfl) rfl rfl hl.1 rfl (lv_room (Nat.le_of_ble_eq_true rfl)) dX1_takeOut_101 ⟨Nat.zero_le _, Nat.zero_le _⟩) (fun H locs hP hD hS => ?_)
              have hP : va_P D vwCl [(h, .inr (1, [.ref t, .ref g, .int (nI (q - 1))])), (t, .inr (3, [.ref k, .int (nI (n - 1))])), (k, .inl (ct 0, R, .inl (aN (tTake f n (tCnt f x n))))), (g, .inl (ct 0, R, .inl (aN (tJoin (va_up z (tPg z ((tCnt f x n) + 1) q 0) ((z (tPg z ((tCnt f x n) + 1) q 0)) - 1)) q ((tPg z ((tCnt f x n) + 1) q 0) - 1)))))] H := hP
              have hD : va_D A [(h, .inr (1, [.ref t, .ref g, .int (nI (q - 1))])), (t, .inr (3, [.ref k, .int (nI (n - 1))])), (k, .inl (ct 0, R, .inl (aN (tTake f n (tCnt f x n))))), (g, .inl (ct 0, R, .inl (aN (tJoin (va_up z (tPg z ((tCnt f x n) + 1) q 0) ((z (tPg z ((tCnt f x n) + 1) q 0)) - 1)) q ((tPg z ((tCnt f x n) + 1) q 0) - 1)))))] := hD
              have hP9 : va_P D vwCl [(h, .inr (1, [.ref t, .ref g, .int (nI (q - 1))])), (t, .inr (3, [.ref k, .int (nI (n - 1))])), (k, .inl (ct 0, R, .inl (aN (tTake f n (tCnt f x n))))), (g, .inl (ct 0, R, .inl (aN (tJoin (va_up z (tPg z ((tCnt f x n) + 1) q 0) ((z (tPg z ((tCnt f x n) + 1) q 0)) - 1)) q ((tPg z ((tCnt f x n) + 1) q 0) - 1)))))] _ := hP.sub [0, 1, 2, 3] rfl
              have hD9 : va_D A [(h, .inr (1, [.ref t, .ref g, .int (nI (q - 1))])), (t, .inr (3, [.ref k, .int (nI (n - 1))])), (k, .inl (ct 0, R, .inl (aN (tTake f n (tCnt f x n))))), (g, .inl (ct 0, R, .inl (aN (tJoin (va_up z (tPg z ((tCnt f x n) + 1) q 0) ((z (tPg z ((tCnt f x n) + 1) q 0)) - 1)) q ((tPg z ((tCnt f x n) + 1) q 0) - 1)))))] := hD.sub [0, 1, 2, 3] (by decide) rfl
              have hP9 : va_P D vwCl [(h, .inr (1, [.ref t, .ref g, .int (nI (tQ2 f z n q x))])), (t, .inr (3, [.ref k, .int (nI (n - 1))])), (k, .inl (ct 0, R, .inl (aN (tTake f n (tCnt f x n))))), (g, .inl (ct 0, R, .inl (aN (tZ2 f z n q x))))] H := by first | (simp only [tQ2, tZ2, tQtake, tZtake, if_pos c60]; exact hP9) | (simp only [tQ2, tZ2, tQtake, tZtake, if_neg (Nat.ne_of_gt c60), if_pos c76]; exact hP9) | (simp only [tQ2, tZ2, tQtake, tZtake, if_neg (Nat.ne_of_gt c60), if_neg c76, if_pos (And.intro (Nat.pos_of_ne_zero hk0) c94)]; exact hP9) | (simp only [tQ2, tZ2, tQtake, tZtake, if_neg (Nat.ne_of_gt c60), if_neg c76, if_neg (show ¬ (0 < tPg z (tCnt f x n + 1) q 0 ∧ tCan (va_up z (tPg z (tCnt f x n + 1) q 0) (z (tPg z (tCnt f x n + 1) q 0) - 1)) q (tPg z (tCnt f x n + 1) q 0 - 1)) from fun q9 => c94 q9.2)]; exact hP9) | (simp only [tQ2, tZ2, tQtake, tZtake, if_neg (Nat.ne_of_gt c60), if_neg c76, if_neg (show ¬ (0 < tPg z (tCnt f x n + 1) q 0 ∧ tCan (va_up z (tPg z (tCnt f x n + 1) q 0) (z (tPg z (tCnt f x n + 1) q 0) - 1)) q (tPg z (tCnt f x n + 1) q 0 - 1)) from fun q9 => absurd q9.1 (by rw [hk0]; decide))]; exact hP9)
              have hD9 : va_D A [(h, .inr (1, [.ref t, .ref g, .int (nI (tQ2 f z n q x))])), (t, .inr (3, [.ref k, .int (nI (n - 1))])), (k, .inl (ct 0, R, .inl (aN (tTake f n (tCnt f x n))))), (g, .inl (ct 0, R, .inl (aN (tZ2 f z n q x))))] := by first | (simp only [tQ2, tZ2, tQtake, tZtake, if_pos c60]; exact hD9) | (simp only [tQ2, tZ2, tQtake, tZtake, if_neg (Nat.ne_of_gt c60), if_pos c76]; exact hD9) | (simp only [tQ2, tZ2, tQtake, tZtake, if_neg (Nat.ne_of_gt c60), if_neg c76, if_pos (And.intro (Nat.pos_of_ne_zero hk0) c94)]; exact hD9) | (simp only [tQ2, tZ2, tQtake, tZtake, if_neg (Nat.ne_of_gt c60), if_neg c76, if_neg (show ¬ (0 < tPg z (tCnt f x n + 1) q 0 ∧ tCan (va_up z (tPg z (tCnt f x n + 1) q 0) (z (tPg z (tCnt f x n + 1) q 0) - 1)) q (tPg z (tCnt f x n + 1) q 0 - 1)) from fun q9 => c94 q9.2)]; exact hD9) | (simp only [tQ2, tZ2, tQtake, tZtake, if_neg (Nat.ne_of_gt c60), if_neg c76, if_neg (show ¬ (0 < tPg z (tCnt f x n + 1) q 0 ∧ tCan (va_up z (tPg z (tCnt f x n + 1) q 0) (z (tPg z (tCnt f x n + 1) q 0) - 1)) q (tPg z (tCnt f x n + 1) q 0 - 1)) from fun q9 => absurd q9.1 (by rw [hk0]; decide))]; exact hD9)
              exact W.vret hx hb hr (fun t ht hW => ⟨⟨(), rfl, trivial, by rw [ht]; exact hP9, hD9⟩, hS.F ht⟩) hS.2.2 dX1_takeOut_104
        · refine lv_aload_n hx hb dX1_takeOut_79 rfl (lv_at hl 2 rfl) ?_
          refine lv_iload_n hx hb dX1_takeOut_80 rfl (lv_at hl 0 rfl) ?_
          refine tb_callv (wr := []) hP hD hS hA [0, 2, 3, 1] [] rfl rfl (by decide) (by decide) (va_runV (As := [.int (nI (tPg z ((tCnt f x n) + 1) q 0))]) (rest := []) ⟨hx, hb, hml, hown, hts⟩ (k_PR_joinWithNext l D ct h t k g R (n - 1) (tTake f n (tCnt f x n)) q (va_up z (tPg z ((tCnt f x n) + 1) q 0) ((z (tPg z ((tCnt f x n) + 1) q 0)) - 1)) (tPg z ((tCnt f x n) + 1) q 0) _ (by omega) hR hq c76.1) (cwV 1 hts (gw_V (fun _ h => h) w_170 w_171 w_14 w_27 wcX1_joinWithNext) rfl rfl rfl hvX1_joinWithNext ⟨Nat.le_of_ble_eq_true rfl, Nat.le_of_ble_eq_true rfl⟩) (tb_pwV hP hD hK hZ hS hA [0, 2, 3, 1] (by decide) rfl (ci := 1) (q0 := 0) rfl rfl) rfl rfl hl.1 rfl (lv_room (Nat.le_of_ble_eq_true rfl)) dX1_takeOut_81 ⟨Nat.zero_le _, Nat.zero_le _⟩) (fun H locs hP hD hS => ?_)
          have hP : va_P D vwCl [(h, .inr (1, [.ref t, .ref g, .int (nI (q - 1))])), (t, .inr (3, [.ref k, .int (nI (n - 1))])), (k, .inl (ct 0, R, .inl (aN (tTake f n (tCnt f x n))))), (g, .inl (ct 0, R, .inl (aN (tJoin (va_up z (tPg z ((tCnt f x n) + 1) q 0) ((z (tPg z ((tCnt f x n) + 1) q 0)) - 1)) q (tPg z ((tCnt f x n) + 1) q 0)))))] H := hP
          have hD : va_D A [(h, .inr (1, [.ref t, .ref g, .int (nI (q - 1))])), (t, .inr (3, [.ref k, .int (nI (n - 1))])), (k, .inl (ct 0, R, .inl (aN (tTake f n (tCnt f x n))))), (g, .inl (ct 0, R, .inl (aN (tJoin (va_up z (tPg z ((tCnt f x n) + 1) q 0) ((z (tPg z ((tCnt f x n) + 1) q 0)) - 1)) q (tPg z ((tCnt f x n) + 1) q 0)))))] := hD
          refine lv_goto (tgt := 104) hx hb dX1_takeOut_84 (by decide) ?_
          have hP9 : va_P D vwCl [(h, .inr (1, [.ref t, .ref g, .int (nI (q - 1))])), (t, .inr (3, [.ref k, .int (nI (n - 1))])), (k, .inl (ct 0, R, .inl (aN (tTake f n (tCnt f x n))))), (g, .inl (ct 0, R, .inl (aN (tJoin (va_up z (tPg z ((tCnt f x n) + 1) q 0) ((z (tPg z ((tCnt f x n) + 1) q 0)) - 1)) q (tPg z ((tCnt f x n) + 1) q 0)))))] _ := hP.sub [0, 1, 2, 3] rfl
          have hD9 : va_D A [(h, .inr (1, [.ref t, .ref g, .int (nI (q - 1))])), (t, .inr (3, [.ref k, .int (nI (n - 1))])), (k, .inl (ct 0, R, .inl (aN (tTake f n (tCnt f x n))))), (g, .inl (ct 0, R, .inl (aN (tJoin (va_up z (tPg z ((tCnt f x n) + 1) q 0) ((z (tPg z ((tCnt f x n) + 1) q 0)) - 1)) q (tPg z ((tCnt f x n) + 1) q 0)))))] := hD.sub [0, 1, 2, 3] (by decide) rfl
          have hP9 : va_P D vwCl [(h, .inr (1, [.ref t, .ref g, .int (nI (tQ2 f z n q x))])), (t, .inr (3, [.ref k, .int (nI (n - 1))])), (k, .inl (ct 0, R, .inl (aN (tTake f n (tCnt f x n))))), (g, .inl (ct 0, R, .inl (aN (tZ2 f z n q x))))] H := by first | (simp only [tQ2, tZ2, tQtake, tZtake, if_pos c60]; exact hP9) | (simp only [tQ2, tZ2, tQtake, tZtake, if_neg (Nat.ne_of_gt c60), if_pos c76]; exact hP9) | (simp only [tQ2, tZ2, tQtake, tZtake, if_neg (Nat.ne_of_gt c60), if_neg c76, if_pos (And.intro (Nat.pos_of_ne_zero hk0) c94)]; exact hP9) | (simp only [tQ2, tZ2, tQtake, tZtake, if_neg (Nat.ne_of_gt c60), if_neg c76, if_neg (show ¬ (0 < tPg z (tCnt f x n + 1) q 0 ∧ tCan (va_up z (tPg z (tCnt f x n + 1) q 0) (z (tPg z (tCnt f x n + 1) q 0) - 1)) q (tPg z (tCnt f x n + 1) q 0 - 1)) from fun q9 => c94 q9.2)]; exact hP9) | (simp only [tQ2, tZ2, tQtake, tZtake, if_neg (Nat.ne_of_gt c60), if_neg c76, if_neg (show ¬ (0 < tPg z (tCnt f x n + 1) q 0 ∧ tCan (va_up z (tPg z (tCnt f x n + 1) q 0) (z (tPg z (tCnt f x n + 1) q 0) - 1)) q (tPg z (tCnt f x n + 1) q 0 - 1)) from fun q9 => absurd q9.1 (by rw [hk0]; decide))]; exact hP9)
          have hD9 : va_D A [(h, .inr (1, [.ref t, .ref g, .int (nI (tQ2 f z n q x))])), (t, .inr (3, [.ref k, .int (nI (n - 1))])), (k, .inl (ct 0, R, .inl (aN (tTake f n (tCnt f x n))))), (g, .inl (ct 0, R, .inl (aN (tZ2 f z n q x))))] := by first | (simp only [tQ2, tZ2, tQtake, tZtake, if_pos c60]; exact hD9) | (simp only [tQ2, tZ2, tQtake, tZtake, if_neg (Nat.ne_of_gt c60), if_pos c76]; exact hD9) | (simp only [tQ2, tZ2, tQtake, tZtake, if_neg (Nat.ne_of_gt c60), if_neg c76, if_pos (And.intro (Nat.pos_of_ne_zero hk0) c94)]; exact hD9) | (simp only [tQ2, tZ2, tQtake, tZtake, if_neg (Nat.ne_of_gt c60), if_neg c76, if_neg (show ¬ (0 < tPg z (tCnt f x n + 1) q 0 ∧ tCan (va_up z (tPg z (tCnt f x n + 1) q 0) (z (tPg z (tCnt f x n + 1) q 0) - 1)) q (tPg z (tCnt f x n + 1) q 0 - 1)) from fun q9 => c94 q9.2)]; exact hD9) | (simp only [tQ2, tZ2, tQtake, tZtake, if_neg (Nat.ne_of_gt c60), if_neg c76, if_neg (show ¬ (0 < tPg z (tCnt f x n + 1) q 0 ∧ tCan (va_up z (tPg z (tCnt f x n + 1) q 0) (z (tPg z (tCnt f x n + 1) q 0) - 1)) q (tPg z (tCnt f x n + 1) q 0 - 1)) from fun q9 => absurd q9.1 (by rw [hk0]; decide))]; exact hD9)
          exact W.vret hx hb hr (fun t ht hW => ⟨⟨(), rfl, trivial, by rw [ht]; exact hP9, hD9⟩, hS.F ht⟩) hS.2.2 dX1_takeOut_104
      · refine lv_aload_n hx hb dX1_takeOut_63 rfl (lv_at hl 2 rfl) ?_
        refine lv_iload_n hx hb dX1_takeOut_64 rfl (lv_at hl 0 rfl) ?_
        refine tb_callv (wr := []) hP hD hS hA [0, 2, 3, 1] [] rfl rfl (by decide) (by decide) (va_runV (As := [.int (nI (tPg z ((tCnt f x n) + 1) q 0))]) (rest := []) ⟨hx, hb, hml, hown, hts⟩ (k_PR_dropPage l D ct h t k g R (n - 1) (tTake f n (tCnt f x n)) q (va_up z (tPg z ((tCnt f x n) + 1) q 0) ((z (tPg z ((tCnt f x n) + 1) q 0)) - 1)) (tPg z ((tCnt f x n) + 1) q 0) _ (by omega) hR hq (by omega)) (cwV 1 hts (gw_V (fun _ h => h) w_166 w_167 w_16 w_27 wcX1_dropPage) rfl rfl rfl hvX1_dropPage ⟨Nat.le_of_ble_eq_true rfl, Nat.le_of_ble_eq_true rfl⟩) (tb_pwV hP hD hK hZ hS hA [0, 2, 3, 1] (by decide) rfl (ci := 1) (q0 := 0) rfl rfl) rfl rfl hl.1 rfl (lv_room (Nat.le_of_ble_eq_true rfl)) dX1_takeOut_65 ⟨Nat.zero_le _, Nat.zero_le _⟩) (fun H locs hP hD hS => ?_)
        have hP : va_P D vwCl [(h, .inr (1, [.ref t, .ref g, .int (nI (q - 1))])), (t, .inr (3, [.ref k, .int (nI (n - 1))])), (k, .inl (ct 0, R, .inl (aN (tTake f n (tCnt f x n))))), (g, .inl (ct 0, R, .inl (aN (tDrop (va_up z (tPg z ((tCnt f x n) + 1) q 0) ((z (tPg z ((tCnt f x n) + 1) q 0)) - 1)) q (tPg z ((tCnt f x n) + 1) q 0)))))] H := hP
        have hD : va_D A [(h, .inr (1, [.ref t, .ref g, .int (nI (q - 1))])), (t, .inr (3, [.ref k, .int (nI (n - 1))])), (k, .inl (ct 0, R, .inl (aN (tTake f n (tCnt f x n))))), (g, .inl (ct 0, R, .inl (aN (tDrop (va_up z (tPg z ((tCnt f x n) + 1) q 0) ((z (tPg z ((tCnt f x n) + 1) q 0)) - 1)) q (tPg z ((tCnt f x n) + 1) q 0)))))] := hD
        refine lv_goto (tgt := 104) hx hb dX1_takeOut_68 (by decide) ?_
        have hP9 : va_P D vwCl [(h, .inr (1, [.ref t, .ref g, .int (nI (q - 1))])), (t, .inr (3, [.ref k, .int (nI (n - 1))])), (k, .inl (ct 0, R, .inl (aN (tTake f n (tCnt f x n))))), (g, .inl (ct 0, R, .inl (aN (tDrop (va_up z (tPg z ((tCnt f x n) + 1) q 0) ((z (tPg z ((tCnt f x n) + 1) q 0)) - 1)) q (tPg z ((tCnt f x n) + 1) q 0)))))] _ := hP.sub [0, 1, 2, 3] rfl
        have hD9 : va_D A [(h, .inr (1, [.ref t, .ref g, .int (nI (q - 1))])), (t, .inr (3, [.ref k, .int (nI (n - 1))])), (k, .inl (ct 0, R, .inl (aN (tTake f n (tCnt f x n))))), (g, .inl (ct 0, R, .inl (aN (tDrop (va_up z (tPg z ((tCnt f x n) + 1) q 0) ((z (tPg z ((tCnt f x n) + 1) q 0)) - 1)) q (tPg z ((tCnt f x n) + 1) q 0)))))] := hD.sub [0, 1, 2, 3] (by decide) rfl
        have hP9 : va_P D vwCl [(h, .inr (1, [.ref t, .ref g, .int (nI (tQ2 f z n q x))])), (t, .inr (3, [.ref k, .int (nI (n - 1))])), (k, .inl (ct 0, R, .inl (aN (tTake f n (tCnt f x n))))), (g, .inl (ct 0, R, .inl (aN (tZ2 f z n q x))))] H := by first | (simp only [tQ2, tZ2, tQtake, tZtake, if_pos c60]; exact hP9) | (simp only [tQ2, tZ2, tQtake, tZtake, if_neg (Nat.ne_of_gt c60), if_pos c76]; exact hP9) | (simp only [tQ2, tZ2, tQtake, tZtake, if_neg (Nat.ne_of_gt c60), if_neg c76, if_pos (And.intro (Nat.pos_of_ne_zero hk0) c94)]; exact hP9) | (simp only [tQ2, tZ2, tQtake, tZtake, if_neg (Nat.ne_of_gt c60), if_neg c76, if_neg (show ¬ (0 < tPg z (tCnt f x n + 1) q 0 ∧ tCan (va_up z (tPg z (tCnt f x n + 1) q 0) (z (tPg z (tCnt f x n + 1) q 0) - 1)) q (tPg z (tCnt f x n + 1) q 0 - 1)) from fun q9 => c94 q9.2)]; exact hP9) | (simp only [tQ2, tZ2, tQtake, tZtake, if_neg (Nat.ne_of_gt c60), if_neg c76, if_neg (show ¬ (0 < tPg z (tCnt f x n + 1) q 0 ∧ tCan (va_up z (tPg z (tCnt f x n + 1) q 0) (z (tPg z (tCnt f x n + 1) q 0) - 1)) q (tPg z (tCnt f x n + 1) q 0 - 1)) from fun q9 => absurd q9.1 (by rw [hk0]; decide))]; exact hP9)
        have hD9 : va_D A [(h, .inr (1, [.ref t, .ref g, .int (nI (tQ2 f z n q x))])), (t, .inr (3, [.ref k, .int (nI (n - 1))])), (k, .inl (ct 0, R, .inl (aN (tTake f n (tCnt f x n))))), (g, .inl (ct 0, R, .inl (aN (tZ2 f z n q x))))] := by first | (simp only [tQ2, tZ2, tQtake, tZtake, if_pos c60]; exact hD9) | (simp only [tQ2, tZ2, tQtake, tZtake, if_neg (Nat.ne_of_gt c60), if_pos c76]; exact hD9) | (simp only [tQ2, tZ2, tQtake, tZtake, if_neg (Nat.ne_of_gt c60), if_neg c76, if_pos (And.intro (Nat.pos_of_ne_zero hk0) c94)]; exact hD9) | (simp only [tQ2, tZ2, tQtake, tZtake, if_neg (Nat.ne_of_gt c60), if_neg c76, if_neg (show ¬ (0 < tPg z (tCnt f x n + 1) q 0 ∧ tCan (va_up z (tPg z (tCnt f x n + 1) q 0) (z (tPg z (tCnt f x n + 1) q 0) - 1)) q (tPg z (tCnt f x n + 1) q 0 - 1)) from fun q9 => c94 q9.2)]; exact hD9) | (simp only [tQ2, tZ2, tQtake, tZtake, if_neg (Nat.ne_of_gt c60), if_neg c76, if_neg (show ¬ (0 < tPg z (tCnt f x n + 1) q 0 ∧ tCan (va_up z (tPg z (tCnt f x n + 1) q 0) (z (tPg z (tCnt f x n + 1) q 0) - 1)) q (tPg z (tCnt f x n + 1) q 0 - 1)) from fun q9 => absurd q9.1 (by rw [hk0]; decide))]; exact hD9)
        exact W.vret hx hb hr (fun t ht hW => ⟨⟨(), rfl, trivial, by rw [ht]; exact hP9, hD9⟩, hS.F ht⟩) hS.2.2 dX1_takeOut_104
    · exact absurd (tRng_nI hk9 (by omega)) c40
  · exact absurd hhas c8

set_option maxHeartbeats 4000000 in
set_option maxRecDepth 100000 in
theorem k_PR_firstKey (l : Launch) (D : va_G) (ct : Nat → ClassId) (h : Nat) (t : Nat) (k : Nat) (g : Nat) (R : Nat) (n : Nat) (f : Nat → Nat) (q : Nat) (z : Nat → Nat) (i : Nat) (hn : n ≤ R) (hR : R ≤ 400) (hq : q ≤ R) (hi : i < q) (hsum : tSum z q = n) (hpos : ∀ j, j < q → 0 < z j) : Met l yX1_firstKey wsX1_firstKey ({ frames := 1, cells := 0, slots := 0, locals := 23 }) (tb_Pr D ct [.ref h, .int (nI i)] [(h, .inr (1, [.ref t, .ref g, .int (nI q)])), (t, .inr (3, [.ref k, .int (nI n)])), (k, .inl (ct 0, R, .inl (aN f))), (g, .inl (ct 0, R, .inl (aN z)))]) (vp_Si (fun r => r = nI (f (tSum z i)))) 0 0 (fun _ => False) := by
  refine Met.ofW (cc := cX1_firstKey) (maxL := 2) (ret := (some .int)) (by decide) rfl ?_
  intro p e s m args below meth c s₁ B hml hv
  obtain ⟨rfl, hP, hK, hZ⟩ := hv
  have hx := B.exec
  have hb := B.bytes
  have hr := B.returns
  have hts0 := atoms_spec (ws := wsX1_firstKey) B.pre
  have hts : ∀ w9 ∈ aw, w9.before ([.ref h, .int (nI i)] : List Value).toArray s = true := fun w9 h9 => hts0 w9 (List.mem_cons_of_mem _ h9)
  have hown : s.vm.findClass RX1 = some m.cls := findClass_of_methodNamed B.named
  have hlocks := B.notSynchronized
  have hS : va_S (fun _ => False) s.heap s.heap [] := va_S.rf
  have hP : va_P D vwCl [(h, .inr (1, [.ref t, .ref g, .int (nI q)])), (t, .inr (3, [.ref k, .int (nI n)])), (k, .inl (ct 0, R, .inl (aN f))), (g, .inl (ct 0, R, .inl (aN z)))] s.heap := hP
  have hl := lv_entry ([.ref h, .int (nI i)]) (n := 2) (Nat.le_of_ble_eq_true rfl)
  rw [lg_entry_eq]
  generalize (lg_sl ([.ref h, .int (nI i)]) ++ List.replicate (2 - (lg_sl ([.ref h, .int (nI i)])).length) Slot.unset).toArray = ls at hl ⊢
  have hl : lv_has ls 2 [(0, .ref h), (1, .int (nI i))] := hl
  have hm9 : min i q = i := Nat.min_eq_left (by omega)
  have hl9 := tSum_le_of z (show i + 1 ≤ q by omega)
  rw [tSum] at hl9
  have hp9 := hpos i hi
  refine lv_aload_n hx hb dX1_firstKey_0 rfl (lv_at hl 0 rfl) ?_
  refine va_get (D := D) (ci := 1) (v := .ref t) (C := RX1) (T := TX1) (N := 3) hx hb hts inX1 hown hK hP 0 rfl rfl 0 (by decide) (hts _ w_72) (fun _ h9 => h9) rfl dX1_firstKey_1 ?_
  refine lv_aload_n hx hb dX1_firstKey_4 rfl (lv_at hl 0 rfl) ?_
  refine lv_iload_n hx hb dX1_firstKey_5 rfl (lv_at hl 1 rfl) ?_
  refine vp_callSi (va_Run.run (va_runV (As := [.int (nI i)]) (rest := [.ref t]) ⟨hx, hb, hml, hown, hts⟩ (k_PR_startOf l D ct h t k g R n f q z i hn hR hq (by omega)) (cwV 1 hts (gw_V (fun _ h => h) w_267 w_268 w_9 w_27 wcX1_startOf) rfl rfl rfl hvX1_startOf ⟨Nat.le_of_ble_eq_true rfl, Nat.le_of_ble_eq_true rfl⟩) (tb_prV hP hK hZ hS [0, 1, 2, 3] rfl (ci := 1) (q0 := 0) rfl rfl) rfl rfl hl.1 rfl (lv_room (Nat.le_of_ble_eq_true rfl)) dX1_firstKey_6 ⟨Nat.zero_le _, Nat.zero_le _⟩)) (fun r_6 hr_6 => ?_)
  obtain rfl : r_6 = nI (tSum z (min i q)) := hr_6
  rw [hm9]
  refine vp_callSi (va_Run.run (va_runV (As := [.int (nI (tSum z i))]) (rest := []) ⟨hx, hb, hml, hown, hts⟩ (k_Row_keyN l D ct t k R n f (tSum z i) hn hR (by omega)) (cwV 1 hts (gw_V (fun _ h => h) w_269 w_205 w_206 w_28 wcX3_key) rfl rfl rfl hvX3_key ⟨Nat.le_of_ble_eq_true rfl, Nat.le_of_ble_eq_true rfl⟩) (tb_prV hP hK hZ hS [1, 2] rfl (ci := 3) (q0 := 0) rfl rfl) rfl rfl hl.1 rfl (lv_room (Nat.le_of_ble_eq_true rfl)) dX1_firstKey_9 ⟨Nat.zero_le _, Nat.zero_le _⟩)) (fun r_9 hr_9 => ?_)
  obtain rfl : r_9 = nI (f (tSum z i)) := hr_9
  exact W.iret (v := nI (f (tSum z i))) hx hb hr (fun t ht hW => ⟨_, rfl, rfl, ht⟩) (fun q h => by cases h) dX1_firstKey_12

set_option maxHeartbeats 4000000 in
set_option maxRecDepth 100000 in
theorem k_PR_markOf (l : Launch) (D : va_G) (ct : Nat → ClassId) (h : Nat) (t : Nat) (k : Nat) (g : Nat) (R : Nat) (n : Nat) (f : Nat → Nat) (q : Nat) (z : Nat → Nat) (i : Nat) (hn : n ≤ R) (hR : R ≤ 400) (hq : q ≤ R) (hi : i < q) (hsum : tSum z q = n) (hpos : ∀ j, j < q → 0 < z j) (hf : ∀ j, f j < 2 ^ 31) : Met l yX1_markOf wsX1_markOf ({ frames := 2, cells := 0, slots := 0, locals := 42 }) (tb_Pr D ct [.ref h, .int (nI i)] [(h, .inr (1, [.ref t, .ref g, .int (nI q)])), (t, .inr (3, [.ref k, .int (nI n)])), (k, .inl (ct 0, R, .inl (aN f))), (g, .inl (ct 0, R, .inl (aN z)))]) (vp_Si (fun r => r = tMk f (tSum z i) (z i))) 0 0 (fun _ => False) := by
  refine Met.ofW (cc := cX1_markOf) (maxL := 9) (ret := (some .int)) (by decide) rfl ?_
  intro p e s m args below meth c s₁ B hml hv
  obtain ⟨rfl, hP, hK, hZ⟩ := hv
  have hx := B.exec
  have hb := B.bytes
  have hr := B.returns
  have hts0 := atoms_spec (ws := wsX1_markOf) B.pre
  have hts : ∀ w9 ∈ aw, w9.before ([.ref h, .int (nI i)] : List Value).toArray s = true := fun w9 h9 => hts0 w9 (List.mem_cons_of_mem _ h9)
  have hown : s.vm.findClass RX1 = some m.cls := findClass_of_methodNamed B.named
  have hlocks := B.notSynchronized
  have hS : va_S (fun _ => False) s.heap s.heap [] := va_S.rf
  have hP : va_P D vwCl [(h, .inr (1, [.ref t, .ref g, .int (nI q)])), (t, .inr (3, [.ref k, .int (nI n)])), (k, .inl (ct 0, R, .inl (aN f))), (g, .inl (ct 0, R, .inl (aN z)))] s.heap := hP
  have hl := lv_entry ([.ref h, .int (nI i)]) (n := 9) (Nat.le_of_ble_eq_true rfl)
  rw [lg_entry_eq]
  generalize (lg_sl ([.ref h, .int (nI i)]) ++ List.replicate (9 - (lg_sl ([.ref h, .int (nI i)])).length) Slot.unset).toArray = ls at hl ⊢
  have hl : lv_has ls 9 [(0, .ref h), (1, .int (nI i))] := hl
  have hm9 : min i q = i := Nat.min_eq_left (by omega)
  have hl9 := tSum_le_of z (show i + 1 ≤ q by omega)
  rw [tSum] at hl9
  have hp9 := hpos i hi
  refine lv_aload_n hx hb dX1_markOf_0 rfl (lv_at hl 0 rfl) ?_
  refine lv_iload_n hx hb dX1_markOf_1 rfl (lv_at hl 1 rfl) ?_
  refine vp_callSi (va_Run.run (va_runV (As := [.int (nI i)]) (rest := []) ⟨hx, hb, hml, hown, hts⟩ (k_PR_startOf l D ct h t k g R n f q z i hn hR hq (by omega)) (cwV 1 hts (gw_V (fun _ h => h) w_267 w_268 w_9 w_27 wcX1_startOf) rfl rfl rfl hvX1_startOf ⟨Nat.le_of_ble_eq_true rfl, Nat.le_of_ble_eq_true rfl⟩) (tb_prV hP hK hZ hS [0, 1, 2, 3] rfl (ci := 1) (q0 := 0) rfl rfl) rfl rfl hl.1 rfl (lv_room (Nat.le_of_ble_eq_true rfl)) dX1_markOf_2 ⟨Nat.zero_le _, Nat.zero_le _⟩)) (fun r_2 hr_2 => ?_)
  obtain rfl : r_2 = nI (tSum z (min i q)) := hr_2
  rw [hm9]
  refine lv_istore_n (lv' := [(2, .int (nI (tSum z i))), (0, .ref h), (1, .int (nI i))]) hx hb dX1_markOf_5 rfl hl (by decide) rfl (fun ls hl => ?_)
  refine lv_iload_n hx hb dX1_markOf_6 rfl (lv_at hl 0 rfl) ?_
  refine lv_aload_n hx hb dX1_markOf_7 rfl (lv_at hl 1 rfl) ?_
  refine lv_iload_n hx hb dX1_markOf_8 rfl (lv_at hl 2 rfl) ?_
  refine vp_callSi (va_Run.run (va_runV (As := [.int (nI i)]) (rest := [.int (nI (tSum z i))]) ⟨hx, hb, hml, hown, hts⟩ (k_PR_lengthOf l D ct h t k g R n f q z i hn hR hq hi) (cwV 1 hts (gw_V (fun _ h => h) w_276 w_262 w_263 w_27 wcX1_lengthOf) rfl rfl rfl hvX1_lengthOf ⟨Nat.le_of_ble_eq_true rfl, Nat.le_of_ble_eq_true rfl⟩) (tb_prV hP hK hZ hS [0, 1, 2, 3] rfl (ci := 1) (q0 := 0) rfl rfl) rfl rfl hl.1 rfl (lv_room (Nat.le_of_ble_eq_true rfl)) dX1_markOf_9 ⟨Nat.zero_le _, Nat.zero_le _⟩)) (fun r_9 hr_9 => ?_)
  obtain rfl : r_9 = nI (z i) := hr_9
  refine tb_iadd hx hb dX1_markOf_12 ?_
  refine lv_istore_n (lv' := [(3, .int (nI ((tSum z i) + (z i)))), (2, .int (nI (tSum z i))), (0, .ref h), (1, .int (nI i))]) hx hb dX1_markOf_13 rfl hl (by decide) rfl (fun ls hl => ?_)
  refine lv_iconst (v := nI 0) hx hb dX1_markOf_14 (by decide) ?_
  refine lv_istore (lv' := [(4, .int (nI 0)), (3, .int (nI ((tSum z i) + (z i)))), (2, .int (nI (tSum z i))), (0, .ref h), (1, .int (nI i))]) hx hb dX1_markOf_15 hl (by decide) rfl (fun ls hl => ?_)
  refine lv_iload_n hx hb dX1_markOf_17 rfl (lv_at hl 2 rfl) ?_
  refine lv_istore (lv' := [(5, .int (nI (tSum z i))), (4, .int (nI 0)), (3, .int (nI ((tSum z i) + (z i)))), (2, .int (nI (tSum z i))), (0, .ref h), (1, .int (nI i))]) hx hb dX1_markOf_18 hl (by decide) rfl (fun ls hl => ?_)
  have hl20 : ∀ (N9 : Nat) (u : Nat), z i - u < N9 → (u ≤ z i) → ∀ (ls : Array Slot), lv_has ls 9 [(0, .ref h), (1, .int (nI i)), (2, .int (nI (tSum z i))), (3, .int (nI (tSum z i + z i))), (4, .int (tMk f (tSum z i) u)), (5, .int (nI (tSum z i + u)))] → W p l e (headSpec wsX1_markOf ({ frames := 2, cells := 0, slots := 0, locals := 42 })).room s m ([.ref h, .int (nI i)] : List Value).toArray below meth c s.heap [] 0 0 (MQ below (vp_Si (fun r => r = tMk f (tSum z i) (z i))) ([.ref h, .int (nI i)] : List Value).toArray s 0 0 (fun _ => False)) (F0 m 20 ls []) := by
    intro N9
    induction N9 with
    | zero => intro u h9; exact absurd h9 (Nat.not_lt_zero _)
    | succ N9 ih20 =>
      intro u h9 h1 ls hl
      refine lv_iload hx hb dX1_markOf_20 (lv_at hl 5 rfl) ?_
      refine lv_iload_n hx hb dX1_markOf_22 rfl (lv_at hl 3 rfl) ?_
      refine tb_icmp_ge (tgt := 86) hx hb dX1_markOf_23 (by decide) (by omega) (by omega) (fun c23 => ?_) (fun c23 => ?_)
      · refine lv_iload hx hb dX1_markOf_86 (lv_at hl 4 rfl) ?_
        exact W.iret (v := tMk f (tSum z i) u) hx hb hr (fun t ht hW => ⟨_, rfl, (by rw [show z i = u by omega]), ht⟩) (fun q h => by cases h) dX1_markOf_88
      · refine lv_aload_n hx hb dX1_markOf_26 rfl (lv_at hl 0 rfl) ?_
        refine va_get (D := D) (ci := 1) (v := .ref t) (C := RX1) (T := TX1) (N := 3) hx hb hts inX1 hown hK hP 0 rfl rfl 0 (by decide) (hts _ w_72) (fun _ h9 => h9) rfl dX1_markOf_27 ?_
        refine lv_iload hx hb dX1_markOf_30 (lv_at hl 5 rfl) ?_
        refine vp_callSi (va_Run.run (va_runV (As := [.int (nI (tSum z i + u))]) (rest := []) ⟨hx, hb, hml, hown, hts⟩ (k_Row_keyN l D ct t k R n f (tSum z i + u) hn hR (by omega)) (cwV 1 hts (gw_V (fun _ h => h) w_269 w_205 w_206 w_28 wcX3_key) rfl rfl rfl hvX3_key ⟨Nat.le_of_ble_eq_true rfl, Nat.le_of_ble_eq_true rfl⟩) (tb_prV hP hK hZ hS [1, 2] rfl (ci := 3) (q0 := 0) rfl rfl) rfl rfl hl.1 rfl (lv_room (Nat.le_of_ble_eq_true rfl)) dX1_markOf_32 ⟨Nat.zero_le _, Nat.zero_le _⟩)) (fun r_32 hr_32 => ?_)
        obtain rfl : r_32 = nI (f (tSum z i + u)) := hr_32
        refine lv_istore (lv' := [(6, .int (nI (f (tSum z i + u)))), (0, .ref h), (1, .int (nI i)), (2, .int (nI (tSum z i))), (3, .int (nI (tSum z i + z i))), (4, .int (tMk f (tSum z i) u)), (5, .int (nI (tSum z i + u)))]) hx hb dX1_markOf_35 hl (by decide) rfl (fun ls hl => ?_)
        refine lv_iconst (v := nI 0) hx hb dX1_markOf_37 (by decide) ?_
        refine lv_istore (lv' := [(7, .int (nI 0)), (6, .int (nI (f (tSum z i + u)))), (0, .ref h), (1, .int (nI i)), (2, .int (nI (tSum z i))), (3, .int (nI (tSum z i + z i))), (4, .int (tMk f (tSum z i) u)), (5, .int (nI (tSum z i + u)))]) hx hb dX1_markOf_38 hl (by decide) rfl (fun ls hl => ?_)
        refine lv_iload hx hb dX1_markOf_40 (lv_at hl 0 rfl) ?_
        refine lv_iconst (v := nI 3) hx hb dX1_markOf_42 (by decide) ?_
        refine tb_icmp_ge (tgt := 80) hx hb dX1_markOf_43 (by decide) (by omega) (by omega) (fun c43 => ?_) (fun c43 => ?_)
        · exact absurd c43 (by decide)
        · refine lv_iload hx hb dX1_markOf_46 (lv_at hl 6 rfl) ?_
          refine lv_iload hx hb dX1_markOf_48 (lv_at hl 1 rfl) ?_
          refine lv_iload hx hb dX1_markOf_50 (lv_at hl 0 rfl) ?_
          refine vp_callSi (va_Run.run (va_runSN (As := [.int (nI (f (tSum z i + u))), .int (nI 0)]) (rest := [.int (tMk f (tSum z i) u)]) ⟨hx, hb, hml, hown, hts⟩ (k_termOfKey l D ct (f (tSum z i + u)) 0 (hf _) (by decide)) ⟨va_cnB 2 hts (gw_I (fun _ h => h) wcX4_termOfKey) rfl rfl rfl (hZ.2.2.1 _ (List.mem_of_getElem? (i := 3) rfl)) (hts _ w_24) hvX4_termOfKey.2 ⟨Nat.le_of_ble_eq_true rfl, Nat.le_of_ble_eq_true rfl⟩, (hts _ w_209), trivial⟩ (tb_prS hP hK hZ hS [] rfl) rfl rfl hl.1 rfl (lv_room (Nat.le_of_ble_eq_true rfl)) dX1_markOf_52 ⟨Nat.zero_le _, Nat.zero_le _⟩)) (fun r_52 hr_52 => ?_)
          obtain rfl : r_52 = nI (tTerm (f (tSum z i + u)) 0) := hr_52
          refine lv_ixor hx hb dX1_markOf_55 ?_
          refine lv_istore (lv' := [(8, .int ((tMk f (tSum z i) u) ^^^ (nI (tTerm (f (tSum z i + u)) 0)))), (7, .int (nI 0)), (6, .int (nI (f (tSum z i + u)))), (0, .ref h), (1, .int (nI i)), (2, .int (nI (tSum z i))), (3, .int (nI (tSum z i + z i))), (4, .int (tMk f (tSum z i) u)), (5, .int (nI (tSum z i + u)))]) hx hb dX1_markOf_56 hl (by decide) rfl (fun ls hl => ?_)
          refine lv_iload hx hb dX1_markOf_58 (lv_at hl 0 rfl) ?_
          refine lv_bipush (v := nI 11) hx hb dX1_markOf_60 (by decide) ?_
          refine lv_ishl hx hb dX1_markOf_62 ?_
          refine lv_iload hx hb dX1_markOf_63 (lv_at hl 0 rfl) ?_
          refine lv_bipush (v := nI 21) hx hb dX1_markOf_65 (by decide) ?_
          refine lv_iushr (v := (((tMk f (tSum z i) u) ^^^ (nI (tTerm (f (tSum z i + u)) 0))).toUInt32 >>> ((nI 21).toUInt32 &&& Int32.toUInt32 31)).toInt32) hx hb dX1_markOf_67 rfl ?_
          refine lv_ior hx hb dX1_markOf_68 ?_
          refine lv_ldc (v := (-2048144777)) hx hb hown (hts _ w_277) dX1_markOf_69 ?_
          refine lv_imul hx hb dX1_markOf_71 ?_
          refine lv_istore (lv' := [(4, .int (((((tMk f (tSum z i) u) ^^^ (nI (tTerm (f (tSum z i + u)) 0))) <<< ((nI 11) &&& 31)) ||| ((((tMk f (tSum z i) u) ^^^ (nI (tTerm (f (tSum z i + u)) 0))).toUInt32 >>> ((nI 21).toUInt32 &&& Int32.toUInt32 31)).toInt32)) * (-2048144777))), (8, .int ((tMk f (tSum z i) u) ^^^ (nI (tTerm (f (tSum z i + u)) 0)))), (7, .int (nI 0)), (6, .int (nI (f (tSum z i + u)))), (0, .ref h), (1, .int (nI i)), (2, .int (nI (tSum z i))), (3, .int (nI (tSum z i + z i))), (5, .int (nI (tSum z i + u)))]) hx hb dX1_markOf_72 hl (by decide) rfl (fun ls hl => ?_)
          have hl : lv_has ls 9 [(4, .int (tMix (tMk f (tSum z i) u) (tTerm (f (tSum z i + u)) 0))), (7, .int (nI 0)), (6, .int (nI (f (tSum z i + u)))), (0, .ref h), (1, .int (nI i)), (2, .int (nI (tSum z i))), (3, .int (nI (tSum z i + z i))), (5, .int (nI (tSum z i + u)))] := lv_sub hl [0, 2, 3, 4, 5, 6, 7, 8] rfl
          refine lv_iinc (v := nI 1) (lv' := [(7, .int (nI 1)), (4, .int (tMix (tMk f (tSum z i) u) (tTerm (f (tSum z i + u)) 0))), (6, .int (nI (f (tSum z i + u)))), (0, .ref h), (1, .int (nI i)), (2, .int (nI (tSum z i))), (3, .int (nI (tSum z i + z i))), (5, .int (nI (tSum z i + u)))]) hx hb dX1_markOf_74 hl (k := 1) rfl (by decide) (by decide) rfl (fun ls hl => ?_)
          refine lv_goto (tgt := 40) hx hb dX1_markOf_77 (by decide) ?_
          refine lv_iload hx hb dX1_markOf_40 (lv_at hl 0 rfl) ?_
          refine lv_iconst (v := nI 3) hx hb dX1_markOf_42 (by decide) ?_
          refine tb_icmp_ge (tgt := 80) hx hb dX1_markOf_43 (by decide) (by omega) (by omega) (fun c43 => ?_) (fun c43 => ?_)
          · exact absurd c43 (by decide)
          · refine lv_iload hx hb dX1_markOf_46 (lv_at hl 1 rfl) ?_
            refine lv_iload hx hb dX1_markOf_48 (lv_at hl 2 rfl) ?_
            refine lv_iload hx hb dX1_markOf_50 (lv_at hl 0 rfl) ?_
            refine vp_callSi (va_Run.run (va_runSN (As := [.int (nI (f (tSum z i + u))), .int (nI 1)]) (rest := [.int (tMix (tMk f (tSum z i) u) (tTerm (f (tSum z i + u)) 0))]) ⟨hx, hb, hml, hown, hts⟩ (k_termOfKey l D ct (f (tSum z i + u)) 1 (hf _) (by decide)) ⟨va_cnB 2 hts (gw_I (fun _ h => h) wcX4_termOfKey) rfl rfl rfl (hZ.2.2.1 _ (List.mem_of_getElem? (i := 3) rfl)) (hts _ w_24) hvX4_termOfKey.2 ⟨Nat.le_of_ble_eq_true rfl, Nat.le_of_ble_eq_true rfl⟩, (hts _ w_209), trivial⟩ (tb_prS hP hK hZ hS [] rfl) rfl rfl hl.1 rfl (lv_room (Nat.le_of_ble_eq_true rfl)) dX1_markOf_52 ⟨Nat.zero_le _, Nat.zero_le _⟩)) (fun r_52 hr_52 => ?_)
            obtain rfl : r_52 = nI (tTerm (f (tSum z i + u)) 1) := hr_52
            refine lv_ixor hx hb dX1_markOf_55 ?_
            refine lv_istore (lv' := [(8, .int ((tMix (tMk f (tSum z i) u) (tTerm (f (tSum z i + u)) 0)) ^^^ (nI (tTerm (f (tSum z i + u)) 1)))), (7, .int (nI 1)), (4, .int (tMix (tMk f (tSum z i) u) (tTerm (f (tSum z i + u)) 0))), (6, .int (nI (f (tSum z i + u)))), (0, .ref h), (1, .int (nI i)), (2, .int (nI (tSum z i))), (3, .int (nI (tSum z i + z i))), (5, .int (nI (tSum z i + u)))]) hx hb dX1_markOf_56 hl (by decide) rfl (fun ls hl => ?_)
            refine lv_iload hx hb dX1_markOf_58 (lv_at hl 0 rfl) ?_
            refine lv_bipush (v := nI 11) hx hb dX1_markOf_60 (by decide) ?_
            refine lv_ishl hx hb dX1_markOf_62 ?_
            refine lv_iload hx hb dX1_markOf_63 (lv_at hl 0 rfl) ?_
            refine lv_bipush (v := nI 21) hx hb dX1_markOf_65 (by decide) ?_
            refine lv_iushr (v := (((tMix (tMk f (tSum z i) u) (tTerm (f (tSum z i + u)) 0)) ^^^ (nI (tTerm (f (tSum z i + u)) 1))).toUInt32 >>> ((nI 21).toUInt32 &&& Int32.toUInt32 31)).toInt32) hx hb dX1_markOf_67 rfl ?_
            refine lv_ior hx hb dX1_markOf_68 ?_
            refine lv_ldc (v := (-2048144777)) hx hb hown (hts _ w_277) dX1_markOf_69 ?_
            refine lv_imul hx hb dX1_markOf_71 ?_
            refine lv_istore (lv' := [(4, .int (((((tMix (tMk f (tSum z i) u) (tTerm (f (tSum z i + u)) 0)) ^^^ (nI (tTerm (f (tSum z i + u)) 1))) <<< ((nI 11) &&& 31)) ||| ((((tMix (tMk f (tSum z i) u) (tTerm (f (tSum z i + u)) 0)) ^^^ (nI (tTerm (f (tSum z i + u)) 1))).toUInt32 >>> ((nI 21).toUInt32 &&& Int32.toUInt32 31)).toInt32)) * (-2048144777))), (8, .int ((tMix (tMk f (tSum z i) u) (tTerm (f (tSum z i + u)) 0)) ^^^ (nI (tTerm (f (tSum z i + u)) 1)))), (7, .int (nI 1)), (6, .int (nI (f (tSum z i + u)))), (0, .ref h), (1, .int (nI i)), (2, .int (nI (tSum z i))), (3, .int (nI (tSum z i + z i))), (5, .int (nI (tSum z i + u)))]) hx hb dX1_markOf_72 hl (by decide) rfl (fun ls hl => ?_)
            have hl : lv_has ls 9 [(4, .int (tMix (tMix (tMk f (tSum z i) u) (tTerm (f (tSum z i + u)) 0)) (tTerm (f (tSum z i + u)) 1))), (7, .int (nI 1)), (6, .int (nI (f (tSum z i + u)))), (0, .ref h), (1, .int (nI i)), (2, .int (nI (tSum z i))), (3, .int (nI (tSum z i + z i))), (5, .int (nI (tSum z i + u)))] := lv_sub hl [0, 2, 3, 4, 5, 6, 7, 8] rfl
            refine lv_iinc (v := nI 2) (lv' := [(7, .int (nI 2)), (4, .int (tMix (tMix (tMk f (tSum z i) u) (tTerm (f (tSum z i + u)) 0)) (tTerm (f (tSum z i + u)) 1))), (6, .int (nI (f (tSum z i + u)))), (0, .ref h), (1, .int (nI i)), (2, .int (nI (tSum z i))), (3, .int (nI (tSum z i + z i))), (5, .int (nI (tSum z i + u)))]) hx hb dX1_markOf_74 hl (k := 1) rfl (by decide) (by decide) rfl (fun ls hl => ?_)
            refine lv_goto (tgt := 40) hx hb dX1_markOf_77 (by decide) ?_
            refine lv_iload hx hb dX1_markOf_40 (lv_at hl 0 rfl) ?_
            refine lv_iconst (v := nI 3) hx hb dX1_markOf_42 (by decide) ?_
            refine tb_icmp_ge (tgt := 80) hx hb dX1_markOf_43 (by decide) (by omega) (by omega) (fun c43 => ?_) (fun c43 => ?_)
            · exact absurd c43 (by decide)
            · refine lv_iload hx hb dX1_markOf_46 (lv_at hl 1 rfl) ?_
              refine lv_iload hx hb dX1_markOf_48 (lv_at hl 2 rfl) ?_
              refine lv_iload hx hb dX1_markOf_50 (lv_at hl 0 rfl) ?_
              refine vp_callSi (va_Run.run (va_runSN (As := [.int (nI (f (tSum z i + u))), .int (nI 2)]) (rest := [.int (tMix (tMix (tMk f (tSum z i) u) (tTerm (f (tSum z i + u)) 0)) (tTerm (f (tSum z i + u)) 1))]) ⟨hx, hb, hml, hown, hts⟩ (k_termOfKey l D ct (f (tSum z i + u)) 2 (hf _) (by decide)) ⟨va_cnB 2 hts (gw_I (fun _ h => h) wcX4_termOfKey) rfl rfl rfl (hZ.2.2.1 _ (List.mem_of_getElem? (i := 3) rfl)) (hts _ w_24) hvX4_termOfKey.2 ⟨Nat.le_of_ble_eq_true rfl, Nat.le_of_ble_eq_true rfl⟩, (hts _ w_209), trivial⟩ (tb_prS hP hK hZ hS [] rfl) rfl rfl hl.1 rfl (lv_room (Nat.le_of_ble_eq_true rfl)) dX1_markOf_52 ⟨Nat.zero_le _, Nat.zero_le _⟩)) (fun r_52 hr_52 => ?_)
              obtain rfl : r_52 = nI (tTerm (f (tSum z i + u)) 2) := hr_52
              refine lv_ixor hx hb dX1_markOf_55 ?_
              refine lv_istore (lv' := [(8, .int ((tMix (tMix (tMk f (tSum z i) u) (tTerm (f (tSum z i + u)) 0)) (tTerm (f (tSum z i + u)) 1)) ^^^ (nI (tTerm (f (tSum z i + u)) 2)))), (7, .int (nI 2)), (4, .int (tMix (tMix (tMk f (tSum z i) u) (tTerm (f (tSum z i + u)) 0)) (tTerm (f (tSum z i + u)) 1))), (6, .int (nI (f (tSum z i + u)))), (0, .ref h), (1, .int (nI i)), (2, .int (nI (tSum z i))), (3, .int (nI (tSum z i + z i))), (5, .int (nI (tSum z i + u)))]) hx hb dX1_markOf_56 hl (by decide) rfl (fun ls hl => ?_)
              refine lv_iload hx hb dX1_markOf_58 (lv_at hl 0 rfl) ?_
              refine lv_bipush (v := nI 11) hx hb dX1_markOf_60 (by decide) ?_
              refine lv_ishl hx hb dX1_markOf_62 ?_
              refine lv_iload hx hb dX1_markOf_63 (lv_at hl 0 rfl) ?_
              refine lv_bipush (v := nI 21) hx hb dX1_markOf_65 (by decide) ?_
              refine lv_iushr (v := (((tMix (tMix (tMk f (tSum z i) u) (tTerm (f (tSum z i + u)) 0)) (tTerm (f (tSum z i + u)) 1)) ^^^ (nI (tTerm (f (tSum z i + u)) 2))).toUInt32 >>> ((nI 21).toUInt32 &&& Int32.toUInt32 31)).toInt32) hx hb dX1_markOf_67 rfl ?_
              refine lv_ior hx hb dX1_markOf_68 ?_
              refine lv_ldc (v := (-2048144777)) hx hb hown (hts _ w_277) dX1_markOf_69 ?_
              refine lv_imul hx hb dX1_markOf_71 ?_
              refine lv_istore (lv' := [(4, .int (((((tMix (tMix (tMk f (tSum z i) u) (tTerm (f (tSum z i + u)) 0)) (tTerm (f (tSum z i + u)) 1)) ^^^ (nI (tTerm (f (tSum z i + u)) 2))) <<< ((nI 11) &&& 31)) ||| ((((tMix (tMix (tMk f (tSum z i) u) (tTerm (f (tSum z i + u)) 0)) (tTerm (f (tSum z i + u)) 1)) ^^^ (nI (tTerm (f (tSum z i + u)) 2))).toUInt32 >>> ((nI 21).toUInt32 &&& Int32.toUInt32 31)).toInt32)) * (-2048144777))), (8, .int ((tMix (tMix (tMk f (tSum z i) u) (tTerm (f (tSum z i + u)) 0)) (tTerm (f (tSum z i + u)) 1)) ^^^ (nI (tTerm (f (tSum z i + u)) 2)))), (7, .int (nI 2)), (6, .int (nI (f (tSum z i + u)))), (0, .ref h), (1, .int (nI i)), (2, .int (nI (tSum z i))), (3, .int (nI (tSum z i + z i))), (5, .int (nI (tSum z i + u)))]) hx hb dX1_markOf_72 hl (by decide) rfl (fun ls hl => ?_)
              have hl : lv_has ls 9 [(4, .int (tMix (tMix (tMix (tMk f (tSum z i) u) (tTerm (f (tSum z i + u)) 0)) (tTerm (f (tSum z i + u)) 1)) (tTerm (f (tSum z i + u)) 2))), (7, .int (nI 2)), (6, .int (nI (f (tSum z i + u)))), (0, .ref h), (1, .int (nI i)), (2, .int (nI (tSum z i))), (3, .int (nI (tSum z i + z i))), (5, .int (nI (tSum z i + u)))] := lv_sub hl [0, 2, 3, 4, 5, 6, 7, 8] rfl
              refine lv_iinc (v := nI 3) (lv' := [(7, .int (nI 3)), (4, .int (tMix (tMix (tMix (tMk f (tSum z i) u) (tTerm (f (tSum z i + u)) 0)) (tTerm (f (tSum z i + u)) 1)) (tTerm (f (tSum z i + u)) 2))), (6, .int (nI (f (tSum z i + u)))), (0, .ref h), (1, .int (nI i)), (2, .int (nI (tSum z i))), (3, .int (nI (tSum z i + z i))), (5, .int (nI (tSum z i + u)))]) hx hb dX1_markOf_74 hl (k := 1) rfl (by decide) (by decide) rfl (fun ls hl => ?_)
              refine lv_goto (tgt := 40) hx hb dX1_markOf_77 (by decide) ?_
              refine lv_iload hx hb dX1_markOf_40 (lv_at hl 0 rfl) ?_
              refine lv_iconst (v := nI 3) hx hb dX1_markOf_42 (by decide) ?_
              refine tb_icmp_ge (tgt := 80) hx hb dX1_markOf_43 (by decide) (by omega) (by omega) (fun c43 => ?_) (fun c43 => ?_)
              · refine lv_iinc (v := nI ((tSum z i + u) + 1)) (lv' := [(5, .int (nI ((tSum z i + u) + 1))), (7, .int (nI 3)), (4, .int (tMix (tMix (tMix (tMk f (tSum z i) u) (tTerm (f (tSum z i + u)) 0)) (tTerm (f (tSum z i + u)) 1)) (tTerm (f (tSum z i + u)) 2))), (6, .int (nI (f (tSum z i + u)))), (0, .ref h), (1, .int (nI i)), (2, .int (nI (tSum z i))), (3, .int (nI (tSum z i + z i)))]) hx hb dX1_markOf_80 hl (k := 7) rfl (tb_inc (tSum z i + u) rfl) (by decide) rfl (fun ls hl => ?_)
                refine lv_goto (tgt := 20) hx hb dX1_markOf_83 (by decide) ?_
                exact ih20 (u + 1) (by omega) (by omega) _ (lv_sub hl [4, 5, 6, 7, 2, 0] rfl)
              · exact absurd c43 (by decide)
  exact hl20 _ 0 (Nat.lt_succ_self _) (by omega) _ (lv_sub hl [4, 5, 3, 2, 1, 0] rfl)
