section TBS
variable {p : Program} {l : Launch} {e : Env} {R : Room} {s : State} {m : MethodId} {args : Array Value} {below : List Frame} {meth : Method} {c : Code} {H : Heap} {locs : List Loc} {cells slots : Nat} {Q : State → Prop}
variable {cc : ByteArray} {pc : Nat} {ls : Array Slot} {rest : List Value} {A : Nat → Prop} {H0 : Heap}
theorem tb_slen (hx : p.tables.exec = Jvm.exec) (hb : c.code = cc) {b L : Nat} {xs : Nat → Int32} (hX : va_X b L xs s H0) (hbl : b < H0.size) (hbA : ¬ A b) (hS : va_S A H0 H locs) (hdg : decode cc pc = .ok (.arraylength, 1))
    (kk : W p l e R s m args below meth c H locs cells slots Q (F0 m (pc + 1) ls (.int (nI L) :: rest))) : W p l e R s m args below meth c H locs cells slots Q (F0 m pc ls (.ref b :: rest)) := va_slen hx hb hX hbl hbA hS hdg kk
end TBS
set_option maxHeartbeats 4000000 in
set_option maxRecDepth 100000 in
/-- one turn of the law's loop -/
theorem law_step {p : Program} {l : Launch} {e : Env} {s : State} {m : MethodId} {below : List Frame} {meth : Method} {c : Code} {sb : Nat} {D : va_G} {ct : Nat → ClassId} {A : Nat → Prop} {R : Nat} {mo : Nat} {g : Nat} {pr : Nat} {hh : Nat} {rh : Nat} {aq : Nat} {ld : Nat} {nh : Nat} {ty : Nat} {t : Nat} {a0 : Nat} {a1 : Nat} {a2 : Nat} {v : Nat} {w : Nat} {kh : Nat} {nk : Nat} {md : Nat} {mt : Nat} {mv : Nat} {mc : Nat} {mk : Nat} {ms : Nat} {mp : Nat} {mi : Nat} {mlo : Nat} {mla : Nat} {mlb : Nat} {mf : Nat} {mst : Nat} {mr : Nat} {mh : Nat} {pa : Nat → Nat} {ta : Nat → Nat} {ka : Nat → Nat} {ga : Nat → Nat} {la : Nat → Nat} {sL : Nat} {sx : Nat → Int32} {si : Nat} (hsL : sL ≤ 2561) (C0 : lw_At p s m meth c sb sL sx) (hK : va_K D vwCl (tyL ct) s) (hZ : st_all A s s.heap) (hA : ∀ q : Nat, s.heap.size ≤ q → A q) (hbA : ¬ A sb) (hAf : ∀ q : Nat, A q → s.heap.size ≤ q) (hsi : si ≤ 2566) (hih : si + 4 < sL → lwN p l e s m below meth c sb D ct A R mo g pr hh rh aq ld nh ty t a0 a1 a2 v w kh nk md mt mv mc mk ms mp mi mlo mla mlb mf mst mr mh pa ta ka ga la si 667) : lwN p l e s m below meth c sb D ct A R mo g pr hh rh aq ld nh ty t a0 a1 a2 v w kh nk md mt mv mc mk ms mp mi mlo mla mlb mf mst mr mh pa ta ka ga la si 28 := by
  obtain ⟨hx, hb, hr, hml, hown, hts0, hX0, hbl, hlocks, hgv⟩ := id C0
  intro n now cu X Y Z V E nt F Qf Zf cn f ro ra rb o0 x0 y0 lc lo lA lB nn nf TY n2 cu2 nt2 cH oH fH lc2 fc my T V2 C K S P I9 lo2 lA2 lB2 Fd B9 G9 Hd hL hPp hHa hDd hFf hSs hEq H locs hP hD hS ls hl
  refine lv_iload_n hx hb dL_law_28 rfl (lv_at hl 3 rfl) ?_
  refine lv_aload_n hx hb dL_law_29 rfl (lv_at hl 0 rfl) ?_
  refine tb_slen hx hb hX0 hbl hbA hS dL_law_30 ?_
  refine lv_iconst (v := nI 5) hx hb dL_law_31 (by decide) ?_
  refine lv_isub hx hb dL_law_32 ?_
  refine lv_icmp_gt (tgt := 673) hx hb dL_law_33 (by decide) (fun c33 => ?_) (fun c33 => ?_)
  · refine lv_iconst (v := 1) hx hb dL_law_673 (by decide) ?_
    refine va_forget (fun q hq => hAf _ (hS.2.2 q hq)) ?_
    refine W.widen (k := 600000) (n := 7302250) (Nat.le_of_ble_eq_true rfl) (Nat.le_of_ble_eq_true rfl) ?_
    exact lw_ret hx hb hr hlocks dL_law_674
  · have hi9 : si + 4 < sL := by
      refine Decidable.byContradiction fun z => c33 ?_
      rw [Int32.lt_iff_toInt_lt, pk_sub_toInt (a := sL) (b := 5) (by omega) (by omega), nI_toInt (by omega)]
      omega
    have hN : lwN p l e s m below meth c sb D ct A R mo g pr hh rh aq ld nh ty t a0 a1 a2 v w kh nk md mt mv mc mk ms mp mi mlo mla mlb mf mst mr mh pa ta ka ga la si 667 := hih hi9
    obtain ⟨rfl, rfl, rfl, rfl, rfl, rfl, rfl, rfl, rfl⟩ := hEq
    refine lv_aload_n hx hb dL_law_36 rfl (lv_at hl 0 rfl) ?_
    refine lv_iload_n hx hb dL_law_37 rfl (lv_at hl 3 rfl) ?_
    refine tb_sld (v := sx si) hx hb hX0 hbl hbA hS (by omega) (by omega) rfl dL_law_38 ?_
    refine lv_bipush (v := nI 15) hx hb dL_law_39 (by decide) ?_
    refine lv_iand hx hb dL_law_41 ?_
    obtain ⟨q, hq, eq⟩ := and15 (sx si)
    rw [eq]
    obtain rfl | rfl | rfl | rfl | rfl | rfl | rfl | rfl | rfl | rfl | rfl | rfl | rfl | rfl | rfl | rfl : q = 0 ∨ q = 1 ∨ q = 2 ∨ q = 3 ∨ q = 4 ∨ q = 5 ∨ q = 6 ∨ q = 7 ∨ q = 8 ∨ q = 9 ∨ q = 10 ∨ q = 11 ∨ q = 12 ∨ q = 13 ∨ q = 14 ∨ q = 15 := by omega
    · refine lv_tableIn (tgt := 120) (off := 78) hx hb dL_law_42 (by decide) (by decide) (by decide) (by decide) ?_
      exact o_add hsL C0 hK hZ hA hbA hN hi9 hL hPp hHa hDd hFf hSs hP hD hS hl
    · refine lv_tableIn (tgt := 173) (off := 131) hx hb dL_law_42 (by decide) (by decide) (by decide) (by decide) ?_
      exact o_remove hsL C0 hK hZ hA hbA hN hi9 hL hPp hHa hDd hFf hSs hP hD hS hl
    · refine lv_tableIn (tgt := 226) (off := 184) hx hb dL_law_42 (by decide) (by decide) (by decide) (by decide) ?_
      exact o_range hsL C0 hK hZ hA hbA hN hi9 hL hPp hHa hDd hFf hSs hP hD hS hl
    · refine lv_tableIn (tgt := 279) (off := 237) hx hb dL_law_42 (by decide) (by decide) (by decide) (by decide) ?_
      exact o_at hsL C0 hK hZ hA hbA hN hi9 hL hPp hHa hDd hFf hSs hP hD hS hl
    · refine lv_tableIn (tgt := 312) (off := 270) hx hb dL_law_42 (by decide) (by decide) (by decide) (by decide) ?_
      exact o_seek hsL C0 hK hZ hA hbA hN hi9 hL hPp hHa hDd hFf hSs hP hD hS hl
    · refine lv_tableIn (tgt := 335) (off := 293) hx hb dL_law_42 (by decide) (by decide) (by decide) (by decide) ?_
      exact o_seconds hsL C0 hK hZ hA hbA hN hi9 hL hPp hHa hDd hFf hSs hP hD hS hl
    · refine lv_tableIn (tgt := 378) (off := 336) hx hb dL_law_42 (by decide) (by decide) (by decide) (by decide) ?_
      exact o_sum hsL C0 hK hZ hA hbA hN hi9 hL hPp hHa hDd hFf hSs hP hD hS hl
    · refine lv_tableIn (tgt := 422) (off := 380) hx hb dL_law_42 (by decide) (by decide) (by decide) (by decide) ?_
      exact o_lead hsL C0 hK hZ hA hbA hN hi9 hL hPp hHa hDd hFf hSs hP hD hS hl
    · refine lv_tableIn (tgt := 465) (off := 423) hx hb dL_law_42 (by decide) (by decide) (by decide) (by decide) ?_
      exact o_leap hsL C0 hK hZ hA hbA hN hi9 hL hPp hHa hDd hFf hSs hP hD hS hl
    · refine lv_tableIn (tgt := 488) (off := 446) hx hb dL_law_42 (by decide) (by decide) (by decide) (by decide) ?_
      exact o_found hsL C0 hK hZ hA hbA hN hi9 hL hPp hHa hDd hFf hSs hP hD hS hl
    · refine lv_tableIn (tgt := 511) (off := 469) hx hb dL_law_42 (by decide) (by decide) (by decide) (by decide) ?_
      exact o_cut hsL C0 hK hZ hA hbA hN hi9 hL hPp hHa hDd hFf hSs hP hD hS hl
    · refine lv_tableIn (tgt := 534) (off := 492) hx hb dL_law_42 (by decide) (by decide) (by decide) (by decide) ?_
      exact o_pages hsL C0 hK hZ hA hbA hN hi9 hL hPp hHa hDd hFf hSs hP hD hS hl
    · refine lv_tableIn (tgt := 557) (off := 515) hx hb dL_law_42 (by decide) (by decide) (by decide) (by decide) ?_
      exact o_page hsL C0 hK hZ hA hbA hN hi9 hL hPp hHa hDd hFf hSs hP hD hS hl
    · refine lv_tableIn (tgt := 600) (off := 558) hx hb dL_law_42 (by decide) (by decide) (by decide) (by decide) ?_
      exact o_mark hsL C0 hK hZ hA hbA hN hi9 hL hPp hHa hDd hFf hSs hP hD hS hl
    · refine lv_tableIn (tgt := 633) (off := 591) hx hb dL_law_42 (by decide) (by decide) (by decide) (by decide) ?_
      exact o_count hsL C0 hK hZ hA hbA hN hi9 hL hPp hHa hDd hFf hSs hP hD hS hl
    · refine lv_tableIn (tgt := 656) (off := 614) hx hb dL_law_42 (by decide) (by decide) (by decide) (by decide) ?_
      exact o_clear hsL C0 hK hZ hA hbA hN hi9 hL hPp hHa hDd hFf hSs hP hD hS hl
set_option maxHeartbeats 4000000 in
/-- the law's loop -/
theorem law_loop {p : Program} {l : Launch} {e : Env} {s : State} {m : MethodId} {below : List Frame} {meth : Method} {c : Code} {sb : Nat} {D : va_G} {ct : Nat → ClassId} {A : Nat → Prop} {R : Nat} {mo : Nat} {g : Nat} {pr : Nat} {hh : Nat} {rh : Nat} {aq : Nat} {ld : Nat} {nh : Nat} {ty : Nat} {t : Nat} {a0 : Nat} {a1 : Nat} {a2 : Nat} {v : Nat} {w : Nat} {kh : Nat} {nk : Nat} {md : Nat} {mt : Nat} {mv : Nat} {mc : Nat} {mk : Nat} {ms : Nat} {mp : Nat} {mi : Nat} {mlo : Nat} {mla : Nat} {mlb : Nat} {mf : Nat} {mst : Nat} {mr : Nat} {mh : Nat} {pa : Nat → Nat} {ta : Nat → Nat} {ka : Nat → Nat} {ga : Nat → Nat} {la : Nat → Nat} {sL : Nat} {sx : Nat → Int32} (hsL : sL ≤ 2561) (C0 : lw_At p s m meth c sb sL sx) (hK : va_K D vwCl (tyL ct) s) (hZ : st_all A s s.heap) (hA : ∀ q : Nat, s.heap.size ≤ q → A q) (hbA : ¬ A sb) (hAf : ∀ q : Nat, A q → s.heap.size ≤ q) : ∀ (k9 si : Nat), si ≤ 2566 → sL < si + k9 → lwN p l e s m below meth c sb D ct A R mo g pr hh rh aq ld nh ty t a0 a1 a2 v w kh nk md mt mv mc mk ms mp mi mlo mla mlb mf mst mr mh pa ta ka ga la si 28 := by
  intro k9
  induction k9 with
  | zero => exact fun si hsi hk => law_step hsL C0 hK hZ hA hbA hAf hsi (fun z => absurd z (by omega))
  | succ k9 ih =>
    intro si hsi hk
    refine law_step hsL C0 hK hZ hA hbA hAf hsi (fun hz => ?_)
    obtain ⟨hx, hb, -⟩ := id C0
    intro n now cu X Y Z V E nt F Qf Zf cn f ro ra rb o0 x0 y0 lc lo lA lB nn nf TY n2 cu2 nt2 cH oH fH lc2 fc my T V2 C K S P I9 lo2 lA2 lB2 Fd B9 G9 Hd hL hPp hHa hDd hFf hSs hEq H locs hP hD hS ls hl
    refine lv_iinc (v := nI (si + 5)) (lv' := [(3, .int (nI (si + 5))), (0, .ref sb), (1, .ref mo), (2, .ref md)]) hx hb dL_law_667 hl (k := 3) rfl (nI_add si 5) (by decide) rfl (fun ls hl => ?_)
    refine lv_goto (tgt := 28) hx hb dL_law_670 (by decide) ?_
    exact ih (si + 5) (by omega) (by omega) n now cu X Y Z V E nt F Qf Zf cn f ro ra rb o0 x0 y0 lc lo lA lB nn nf TY n2 cu2 nt2 cH oH fH lc2 fc my T V2 C K S P I9 lo2 lA2 lB2 Fd B9 G9 Hd hL hPp hHa hDd hFf hSs hEq H locs hP hD hS ls (lv_sub hl [1, 2, 3, 0] rfl)
