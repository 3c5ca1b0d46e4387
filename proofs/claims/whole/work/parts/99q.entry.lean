/-! the law's entry: the tables, the classes, the script's first int -/
theorem nestIn : ∀ w ∈ nestW, w ∈ lw_tbl := by decide +kernel
theorem law_t1 : ∀ j : Fin 18, Cond.eq (.elem (.static "TripleOrders" "TERM_AT" "[I") (.int (Int32.ofNat j.val))) (.int (nI (taF j.val))) ∈ flatC (Jvm.Cond.and given_1 narrow_1) := by decide +kernel
theorem law_t2 : ∀ j : Fin 18, Cond.eq (.elem (.static "TripleOrders" "PLACE_OF" "[I") (.int (Int32.ofNat j.val))) (.int (nI (poF j.val))) ∈ flatC (Jvm.Cond.and given_1 narrow_1) := by decide +kernel
theorem law_Z {s : State} {b : Nat} (hts0 : ∀ w ∈ lw_tbl, w.before #[Value.ref b] s = true) (hgv : (Jvm.Cond.and given_1 narrow_1).before #[Value.ref b] s = true) : st_all (fun q : Nat => s.heap.size ≤ q) s s.heap := by
  have hs := flat_of_before _ hgv
  have hA : ∀ a : Nat, a < s.heap.size → ¬ (fun q : Nat => s.heap.size ≤ q) a := fun a h z => absurd h (Nat.not_lt.mpr z)
  obtain ⟨t, e1, z1⟩ := va_Tof (args := #[Value.ref b]) (s := s) (tm := .static "TripleOrders" "TERM_AT" "[I") (ty := .int) (N := 18) (f := fun j => .int (nI (taF j))) (A := fun q : Nat => s.heap.size ≤ q) (by decide) (hs (.arrayOf (.static "TripleOrders" "TERM_AT" "[I") .int) (by decide +kernel)) (va_eqt (hs (.eq (.length (.static "TripleOrders" "TERM_AT" "[I")) (.int 18)) (by decide +kernel))) (fun j hj => va_eqt (hs _ (law_t1 ⟨j, hj⟩))) hA
  obtain ⟨u, e2, z2⟩ := va_Tof (args := #[Value.ref b]) (s := s) (tm := .static "TripleOrders" "PLACE_OF" "[I") (ty := .int) (N := 18) (f := fun j => .int (nI (poF j))) (A := fun q : Nat => s.heap.size ≤ q) (by decide) (hs (.arrayOf (.static "TripleOrders" "PLACE_OF" "[I") .int) (by decide +kernel)) (va_eqt (hs (.eq (.length (.static "TripleOrders" "PLACE_OF" "[I")) (.int 18)) (by decide +kernel))) (fun j hj => va_eqt (hs _ (law_t2 ⟨j, hj⟩))) hA
  have hi := hts0 (.initialized "TripleOrders") (by decide +kernel)
  exact ⟨⟨t, va_Zof (hts0 (.laysStatic "TripleOrders" "TERM_AT" "[I") (by decide +kernel)) hi e1 hA, z1⟩, ⟨u, va_Zof (hts0 (.laysStatic "TripleOrders" "PLACE_OF" "[I") (by decide +kernel)) hi e2 hA, z2⟩, fun w hw => va_Nw.of (nest_on w hw) (hts0 w (nestIn w hw)), hts0 (.arrayOver (.array .int)) (by decide +kernel), hts0 (.arrayOver (.object "TripleOrders$Range")) (by decide +kernel), hts0 (.arrayOver (.object "TripleOrders$PageRow")) (by decide +kernel)⟩
theorem law_K {s : State} {b : Nat} (hts0 : ∀ w ∈ lw_tbl, w.before #[Value.ref b] s = true) : ∃ (D : va_G) (ct : Nat → ClassId), va_K D vwCl (tyL ct) s := by
  have hts : ∀ w9 ∈ aw, w9.before #[Value.ref b] s = true := fun w9 h9 => hts0 w9 (aw_in w9 h9)
  obtain ⟨c0, i0, h0⟩ := u_known (C := RX0) (T := TX0) (N := 6) (n := 6) hts inX0 (hts0 (.instantiable RX0 6) (by decide +kernel))
  obtain ⟨c1, i1, h1⟩ := u_known (C := RX1) (T := TX1) (N := 3) (n := 3) hts inX1 (hts0 (.instantiable RX1 3) (by decide +kernel))
  obtain ⟨c2, i2, h2⟩ := u_known (C := RX2) (T := TX2) (N := 3) (n := 3) hts inX2 (hts0 (.instantiable RX2 3) (by decide +kernel))
  obtain ⟨c3, i3, h3⟩ := u_known (C := RX3) (T := TX3) (N := 2) (n := 2) hts inX3 (hts0 (.instantiable RX3 2) (by decide +kernel))
  obtain ⟨c4, i4, h4⟩ := u_known (C := RX4) (T := TX4) (N := 9) (n := 9) hts inX4 (hts0 (.instantiable RX4 9) (by decide +kernel))
  obtain ⟨c5, i5, h5⟩ := u_known (C := RX5) (T := TX5) (N := 25) (n := 25) hts inX5 (hts0 (.instantiable RX5 25) (by decide +kernel))
  obtain ⟨a0, k0, p0, f0, g0, e0⟩ := Cond.arrayClass_spec (hts0 (.arrayClass .int) (by decide +kernel))
  obtain ⟨p1, a1, k1, f1, -, g1, e1, r1⟩ := arrayOverA_spec (hts0 (.arrayOver (.array .int)) (by decide +kernel))
  obtain ⟨p2, a2, k2, f2, -, g2, e2, r2⟩ := Cond.arrayOver_spec (hts0 (.arrayOver (.object "TripleOrders$Range")) (by decide +kernel))
  obtain ⟨p3, a3, k3, f3, -, g3, e3, r3⟩ := Cond.arrayOver_spec (hts0 (.arrayOver (.object "TripleOrders$PageRow")) (by decide +kernel))
  obtain ⟨a4, k4, p4, f4, g4, e4⟩ := Cond.arrayClass_spec (hts0 (.arrayClass .boolean) (by decide +kernel))
  refine ⟨(fun k => match k with | 0 => c0 | 1 => c1 | 2 => c2 | 3 => c3 | 4 => c4 | _ => c5, fun k => match k with | 0 => i0 | 1 => i1 | 2 => i2 | 3 => i3 | 4 => i4 | _ => i5), fun k => match k with | 0 => a0 | 1 => a1 | 2 => a2 | 3 => a3 | _ => a4, ?_, ?_⟩
  · intro k q hq
    match k, hq with
    | 0, hq => cases hq; exact h0
    | 1, hq => cases hq; exact h1
    | 2, hq => cases hq; exact h2
    | 3, hq => cases hq; exact h3
    | 4, hq => cases hq; exact h4
    | 5, hq => cases hq; exact h5
    | k + 6, hq => simp at hq
  · intro k q hq
    match k, hq with
    | 0, hq => cases hq; exact ⟨fun N z => ⟨(fun k h => by cases h), k0, g0, p0, e0⟩, f0⟩
    | 1, hq => cases hq; exact ⟨fun N z => ⟨(fun k h => by cases h), k1, g1, p1, e1⟩, r1⟩
    | 2, hq => cases hq; exact ⟨fun N z => ⟨(fun k h => by cases h), k2, g2, p2, e2⟩, k2, p2, g2, e2, f2, r2⟩
    | 3, hq => cases hq; exact ⟨fun N z => ⟨(fun k h => by cases h), k3, g3, p3, e3⟩, k3, p3, g3, e3, f3, r3⟩
    | 4, hq => cases hq; exact ⟨fun N z => ⟨(fun k h => by cases h), k4, g4, p4, e4⟩, f4⟩
    | k + 5, hq => simp at hq
theorem clamp_ex (x : Int32) : ∃ R : Nat, 1 ≤ R ∧ R ≤ 400 ∧ (if nI 1 < (if nI 400 < x then nI 400 else x) then (if nI 400 < x then nI 400 else x) else nI 1) = nI R := by
  by_cases h : nI 400 < x
  · exact ⟨400, by decide, by decide, by rw [if_pos h]; decide⟩
  · rw [if_neg h]
    by_cases h1 : nI 1 < x
    · have hn : ¬ x < 0 := fun z => by
        have e1 := Int32.lt_iff_toInt_lt.mp h1
        have e2 := Int32.lt_iff_toInt_lt.mp z
        rw [nI_toInt (by decide)] at e1
        have e3 : (0 : Int32).toInt = 0 := by decide
        omega
      obtain ⟨j, hj, rfl⟩ := nI_of hn
      exact ⟨j, Nat.le_of_lt ((nI_ltI (by decide) hj).mp h1), Nat.le_of_not_lt fun z => h ((nI_ltI (by decide) hj).mpr z), by rw [if_pos h1]⟩
    · exact ⟨1, by decide, by decide, by rw [if_neg h1]⟩
theorem recell {D : va_G} {ws : va_W} {H : Heap} {cA : ClassId} {n a : Nat} {f g : Nat → Option Nat} (hP : va_P D vwCl ws H) (k : Nat) (hk : ws[k]? = some (a, .inl (cA, n, .inr (.inr (.inr (.inr f)))))) (hfg : ∀ j, j < n → f j = g j) : va_P D vwCl (ws.set k (a, .inl (cA, n, .inr (.inr (.inr (.inr g)))))) H := by
  intro i q hq
  by_cases h : i = k
  · subst h
    have hlt : i < ws.length := (List.getElem?_eq_some_iff.mp hk).1
    rw [List.getElem?_set_self hlt] at hq
    cases hq
    have z : H[a]? = some (vp_cell cA (n, .inr (.inr (.inr (.inr f))))) := hP i _ hk
    show H[a]? = some (vp_cell cA (n, .inr (.inr (.inr (.inr g)))))
    rw [z, vp_cell_q, vp_cell_q]
    exact congrArg some (arrV_ext fun j hj => by rw [hfg j hj])
  · rw [List.getElem?_set_ne (Ne.symm h)] at hq
    exact hP i q hq
theorem k_cell (l : Launch) (sb sL : Nat) (sx : Nat → Int32) (hsL : sL < 2 ^ 31) : Met l yL_cell wsL_cell ({ frames := 0, cells := 0, slots := 0, locals := 0 }) (va_Pc [.ref sb, .int (nI 0)] (fun U => va_X sb sL sx U U.heap)) (vp_Si (fun r => r = if 0 < sL then sx 0 else 0)) 0 0 (fun _ => False) := by
  refine Met.ofW (cc := cL_cell) (maxL := 2) (ret := (some .int)) (by decide) rfl ?_
  intro p e s m args below meth c s₁ B hml hv
  obtain ⟨rfl, hX⟩ := hv
  have hx := B.exec
  have hb := B.bytes
  have hr := B.returns
  have hlocks := B.notSynchronized
  have hS : va_S (fun _ => False) s.heap s.heap [] := va_S.rf
  have hbl : sb < s.heap.size := by
    obtain ⟨scr, h1, -⟩ := hX
    exact (Array.getElem?_eq_some_iff.mp h1).1
  have hl := lv_entry ([.ref sb, .int (nI 0)]) (n := 2) (Nat.le_of_ble_eq_true rfl)
  rw [lg_entry_eq]
  generalize (lg_sl ([.ref sb, .int (nI 0)]) ++ List.replicate (2 - (lg_sl ([.ref sb, .int (nI 0)])).length) Slot.unset).toArray = ls at hl ⊢
  have hl : lv_has ls 2 [(0, .ref sb), (1, .int (nI 0))] := hl
  refine lv_iload_n hx hb dL_cell_0 rfl (lv_at hl 1 rfl) ?_
  refine lv_aload_n hx hb dL_cell_1 rfl (lv_at hl 0 rfl) ?_
  refine tb_slen hx hb hX hbl (fun z => z) hS dL_cell_2 ?_
  refine tb_icmp_ge (tgt := 12) hx hb dL_cell_3 (by decide) (by decide) hsL (fun c3 => ?_) (fun c3 => ?_)
  · refine lv_iconst (v := 0) hx hb dL_cell_12 (by decide) ?_
    exact W.iret (v := 0) hx hb hr (fun t ht hW => ⟨_, rfl, (if_neg (Nat.not_lt.mpr c3)).symm, ht⟩) (fun q h => by cases h) dL_cell_13
  · refine lv_aload_n hx hb dL_cell_6 rfl (lv_at hl 0 rfl) ?_
    refine lv_iload_n hx hb dL_cell_7 rfl (lv_at hl 1 rfl) ?_
    refine tb_sld (v := sx 0) hx hb hX hbl (fun z => z) hS c3 hsL rfl dL_cell_8 ?_
    refine lv_goto (tgt := 13) hx hb dL_cell_9 (by decide) ?_
    exact W.iret (v := sx 0) hx hb hr (fun t ht hW => ⟨_, rfl, (if_pos c3).symm, ht⟩) (fun q h => by cases h) dL_cell_13
theorem k_cell_pre {s : State} {H : Heap} {locs : List Loc} {A : Nat → Prop} {sb sL : Nat} {sx : Nat → Int32} (hX : va_X sb sL sx s s.heap) (hbl : sb < s.heap.size) (hbA : ¬ A sb) (hS : va_S A s.heap H locs) : PreS s H (va_Pc [.ref sb, .int (nI 0)] (fun U => va_X sb sL sx U U.heap)) [.ref sb, .int (nI 0)] :=
  ⟨fun a U g mk q => ⟨q.1, va_X.moved (u := U) (U := U.calling g mk a) (Vm.Alike.refl U.vm) q.2⟩, fun U hU hW => ⟨rfl, by show va_X sb sL sx U U.heap; rw [hU]; exact (hX.kept (hS.2.1 sb hbl hbA)).moved hW.alike⟩⟩
