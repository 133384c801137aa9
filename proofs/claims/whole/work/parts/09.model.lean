def zm_open (y : YS) (g1 : Int32) : Int32 × YS := (if g1 = 0 then (if y.2.1 = 2 then ((-3), y) else (if (y.1 0) = 0 then (0, ((upd y.1 0 1), y.2.1, y.2.2.1, y.2.2.2.1, y.2.2.2.2.1, y.2.2.2.2.2.1, y.2.2.2.2.2.2.1, y.2.2.2.2.2.2.2.1, y.2.2.2.2.2.2.2.2.1, y.2.2.2.2.2.2.2.2.2)) else (if (y.1 1) = 0 then (1, ((upd y.1 1 1), y.2.1, y.2.2.1, y.2.2.2.1, y.2.2.2.2.1, y.2.2.2.2.2.1, y.2.2.2.2.2.2.1, y.2.2.2.2.2.2.2.1, y.2.2.2.2.2.2.2.2.1, y.2.2.2.2.2.2.2.2.2)) else (if (y.1 2) = 0 then (2, ((upd y.1 2 1), y.2.1, y.2.2.1, y.2.2.2.1, y.2.2.2.2.1, y.2.2.2.2.2.1, y.2.2.2.2.2.2.1, y.2.2.2.2.2.2.2.1, y.2.2.2.2.2.2.2.2.1, y.2.2.2.2.2.2.2.2.2)) else ((-6), y))))) else (if (y.1 0) = 0 then (0, ((upd y.1 0 2), y.2.1, y.2.2.1, y.2.2.2.1, y.2.2.2.2.1, y.2.2.2.2.2.1, y.2.2.2.2.2.2.1, y.2.2.2.2.2.2.2.1, y.2.2.2.2.2.2.2.2.1, y.2.2.2.2.2.2.2.2.2)) else (if (y.1 1) = 0 then (1, ((upd y.1 1 2), y.2.1, y.2.2.1, y.2.2.2.1, y.2.2.2.2.1, y.2.2.2.2.2.1, y.2.2.2.2.2.2.1, y.2.2.2.2.2.2.2.1, y.2.2.2.2.2.2.2.2.1, y.2.2.2.2.2.2.2.2.2)) else (if (y.1 2) = 0 then (2, ((upd y.1 2 2), y.2.1, y.2.2.1, y.2.2.2.1, y.2.2.2.2.1, y.2.2.2.2.2.1, y.2.2.2.2.2.2.1, y.2.2.2.2.2.2.2.1, y.2.2.2.2.2.2.2.2.1, y.2.2.2.2.2.2.2.2.2)) else ((-6), y)))))

set_option maxHeartbeats 4000000 in
set_option maxRecDepth 100000 in
theorem km_open (l : Launch) (D : va_G) (cI cZ : ClassId) (bo b1 b2 b3 b4 b5 b6 b7 : Nat) (y : YS) (g1 : Int32) : kI l yM_open wsM_open (rmOf 0 0) D (kT cI cZ) [.ref bo, .int g1] (wY cI cZ bo b1 b2 b3 b4 b5 b6 b7 y) (zm_open y g1).1 (wY cI cZ bo b1 b2 b3 b4 b5 b6 b7 ((zm_open y g1).2)) := by
  intro sz
  refine kOf (Qc := fun A => kQi D (kT cI cZ) A (zm_open y g1).1 (wY cI cZ bo b1 b2 b3 b4 b5 b6 b7 ((zm_open y g1).2))) (cc := cM_open) (maxL := 3) (ret := some .int) (by decide) rfl (Nat.le_of_ble_eq_true rfl) ?_ sz
  intro p e s m args below meth c A ls hx hb hml hown hts hNw hr hlk hin hA hS hP hD hK hl
  show W p l e (rmOf 0 0) s m args below meth c s.heap [] 0 0 (MQ below (kQi D (kT cI cZ) A (zm_open y g1).1 (wY cI cZ bo b1 b2 b3 b4 b5 b6 b7 ((zm_open y g1).2))) args s 0 0 A) (F0 m 0 ls [])
  have hts : ∀ q ∈ lw_g, q.before args s = true := fun q h => hts q (List.mem_cons_of_mem _ h)
  have hown : s.vm.findClass cnM = some m.cls := hown
  have hl : lv_has ls 3 [(0, .ref bo), (1, .int g1)] := hl
  have hP : va_P D vwCl [(bo, .inr (3, [.ref b1, .int y.2.1, .ref b2, .ref b3, .int (nI y.2.2.2.2.1), .int y.2.2.2.2.2.1, .ref b4, .ref b5, .ref b6, .ref b7])), (b1, .inl (cI, 3, .inl y.1)), (b2, .inl (cI, 3, .inl y.2.2.1)), (b3, .inl (cI, 3, .inl y.2.2.2.1)), (b4, .inl (cZ, 512, .inl y.2.2.2.2.2.2.1)), (b5, .inl (cI, 512, .inl y.2.2.2.2.2.2.2.1)), (b6, .inl (cI, 512, .inl y.2.2.2.2.2.2.2.2.1)), (b7, .inl (cI, 512, .inl y.2.2.2.2.2.2.2.2.2))] s.heap := hP
  have hD : va_D A [(bo, .inr (3, [.ref b1, .int y.2.1, .ref b2, .ref b3, .int (nI y.2.2.2.2.1), .int y.2.2.2.2.2.1, .ref b4, .ref b5, .ref b6, .ref b7])), (b1, .inl (cI, 3, .inl y.1)), (b2, .inl (cI, 3, .inl y.2.2.1)), (b3, .inl (cI, 3, .inl y.2.2.2.1)), (b4, .inl (cZ, 512, .inl y.2.2.2.2.2.2.1)), (b5, .inl (cI, 512, .inl y.2.2.2.2.2.2.2.1)), (b6, .inl (cI, 512, .inl y.2.2.2.2.2.2.2.2.1)), (b7, .inl (cI, 512, .inl y.2.2.2.2.2.2.2.2.2))] := hD
  refine lv_iload_n hx hb dM_open_0 rfl (lv_at hl 1 rfl) ?_
  refine lv_if_ne (tgt := 15) hx hb dM_open_1 (by decide) (fun h1 => ?_) (fun h1 => ?_)
  ·
    refine lv_iconst (v := 0) hx hb dM_open_15 (by decide) ?_
    refine lv_istore_n hx hb dM_open_16 rfl hl (by decide) rfl (fun ls hl => ?_)
    have hl : lv_has ls 3 [(2, .int 0), (0, .ref bo), (1, .int g1)] := hl
    refine lv_iload_n hx hb dM_open_17 rfl (lv_at hl 0 rfl) ?_
    refine lv_iconst (v := 3) hx hb dM_open_18 (by decide) ?_
    refine lv_icmp_ge (tgt := 54) hx hb dM_open_19 (by decide) (fun h => absurd h (by decide)) (fun _ => ?_)
    refine lv_aload_n hx hb dM_open_22 rfl (lv_at hl 1 rfl) ?_
    refine va_get (D := D) (ci := 3) (v := .ref b1) (C := cnM) (T := ftM) (N := 10) hx hb hts inM hown hK hP 0 rfl rfl 0 (by decide) (hts _ mw289) (fun _ h9 => h9) rfl dM_open_23 ?_
    refine lv_iload_n hx hb dM_open_26 rfl (lv_at hl 0 rfl) ?_
    refine va_iald hx hb hK hP 1 0 rfl rfl ((show ¬ ((0 : Int32) < 0 ∨ 3 ≤ Int32.toNatClampNeg 0) by decide)) dM_open_27 ?_
    refine kTop (y := (y.1 0)) (by rw [show Int32.toNatClampNeg 0 = 0 by decide]) ?_
    refine lv_if_ne (tgt := 48) hx hb dM_open_28 (by decide) (fun h2 => ?_) (fun h2 => ?_)
    ·
      refine lv_iinc (k := 0) (v := 1) hx hb dM_open_48 hl rfl (by decide) (by decide) rfl (fun ls hl => ?_)
      have hl : lv_has ls 3 [(2, .int 1), (0, .ref bo), (1, .int g1)] := hl
      refine lv_goto hx hb dM_open_51 (tgt := 17) (by decide) ?_
      refine lv_iload_n hx hb dM_open_17 rfl (lv_at hl 0 rfl) ?_
      refine lv_iconst (v := 3) hx hb dM_open_18 (by decide) ?_
      refine lv_icmp_ge (tgt := 54) hx hb dM_open_19 (by decide) (fun h => absurd h (by decide)) (fun _ => ?_)
      refine lv_aload_n hx hb dM_open_22 rfl (lv_at hl 1 rfl) ?_
      refine va_get (D := D) (ci := 3) (v := .ref b1) (C := cnM) (T := ftM) (N := 10) hx hb hts inM hown hK hP 0 rfl rfl 0 (by decide) (hts _ mw289) (fun _ h9 => h9) rfl dM_open_23 ?_
      refine lv_iload_n hx hb dM_open_26 rfl (lv_at hl 0 rfl) ?_
      refine va_iald hx hb hK hP 1 0 rfl rfl ((show ¬ ((1 : Int32) < 0 ∨ 3 ≤ Int32.toNatClampNeg 1) by decide)) dM_open_27 ?_
      refine kTop (y := (y.1 1)) (by rw [show Int32.toNatClampNeg 1 = 1 by decide]) ?_
      refine lv_if_ne (tgt := 48) hx hb dM_open_28 (by decide) (fun h3 => ?_) (fun h3 => ?_)
      ·
        refine lv_iinc (k := 0) (v := 2) hx hb dM_open_48 hl rfl (by decide) (by decide) rfl (fun ls hl => ?_)
        have hl : lv_has ls 3 [(2, .int 2), (0, .ref bo), (1, .int g1)] := hl
        refine lv_goto hx hb dM_open_51 (tgt := 17) (by decide) ?_
        refine lv_iload_n hx hb dM_open_17 rfl (lv_at hl 0 rfl) ?_
        refine lv_iconst (v := 3) hx hb dM_open_18 (by decide) ?_
        refine lv_icmp_ge (tgt := 54) hx hb dM_open_19 (by decide) (fun h => absurd h (by decide)) (fun _ => ?_)
        refine lv_aload_n hx hb dM_open_22 rfl (lv_at hl 1 rfl) ?_
        refine va_get (D := D) (ci := 3) (v := .ref b1) (C := cnM) (T := ftM) (N := 10) hx hb hts inM hown hK hP 0 rfl rfl 0 (by decide) (hts _ mw289) (fun _ h9 => h9) rfl dM_open_23 ?_
        refine lv_iload_n hx hb dM_open_26 rfl (lv_at hl 0 rfl) ?_
        refine va_iald hx hb hK hP 1 0 rfl rfl ((show ¬ ((2 : Int32) < 0 ∨ 3 ≤ Int32.toNatClampNeg 2) by decide)) dM_open_27 ?_
        refine kTop (y := (y.1 2)) (by rw [show Int32.toNatClampNeg 2 = 2 by decide]) ?_
        refine lv_if_ne (tgt := 48) hx hb dM_open_28 (by decide) (fun h4 => ?_) (fun h4 => ?_)
        ·
          refine lv_iinc (k := 0) (v := 3) hx hb dM_open_48 hl rfl (by decide) (by decide) rfl (fun ls hl => ?_)
          have hl : lv_has ls 3 [(2, .int 3), (0, .ref bo), (1, .int g1)] := hl
          refine lv_goto hx hb dM_open_51 (tgt := 17) (by decide) ?_
          refine lv_iload_n hx hb dM_open_17 rfl (lv_at hl 0 rfl) ?_
          refine lv_iconst (v := 3) hx hb dM_open_18 (by decide) ?_
          refine lv_icmp_ge (tgt := 54) hx hb dM_open_19 (by decide) (fun _ => ?_) (fun h => absurd h (by decide))
          refine lv_bipush (v := (-6)) hx hb dM_open_54 (by decide) ?_
          exact kretI (wf := fun st => wY cI cZ bo b1 b2 b3 b4 b5 b6 b7 st) (st := y) (by first | (rw [zm_open, if_neg h1, if_neg h2, if_neg h3, if_neg h4]; done) | exact ((if_neg h1).trans ((if_neg h2).trans ((if_neg h3).trans (if_neg h4))))) hx hb hr hlk hS hP hD hK dM_open_56
        ·
          refine lv_aload_n hx hb dM_open_31 rfl (lv_at hl 1 rfl) ?_
          refine va_get (D := D) (ci := 3) (v := .ref b1) (C := cnM) (T := ftM) (N := 10) hx hb hts inM hown hK hP 0 rfl rfl 0 (by decide) (hts _ mw289) (fun _ h9 => h9) rfl dM_open_32 ?_
          refine lv_iload_n hx hb dM_open_35 rfl (lv_at hl 0 rfl) ?_
          refine lv_iload_n hx hb dM_open_36 rfl (lv_at hl 2 rfl) ?_
          refine lv_if_eq (tgt := 44) hx hb dM_open_37 (by decide) (fun h => absurd h h1) (fun _ => ?_)
          refine lv_iconst (v := 2) hx hb dM_open_40 (by decide) ?_
          refine lv_goto hx hb dM_open_41 (tgt := 45) (by decide) ?_
          refine va_iast hx hb hK hP hD hS 1 0 rfl rfl ((show ¬ ((2 : Int32) < 0 ∨ 3 ≤ Int32.toNatClampNeg 2) by decide)) dM_open_45 (fun H locs hP hD hS => ?_)
          rw [show Int32.toNatClampNeg 2 = 2 from by decide] at hP hD
          have hP : va_P D vwCl [(bo, .inr (3, [.ref b1, .int y.2.1, .ref b2, .ref b3, .int (nI y.2.2.2.2.1), .int y.2.2.2.2.2.1, .ref b4, .ref b5, .ref b6, .ref b7])), (b1, .inl (cI, 3, .inl (upd y.1 2 2))), (b2, .inl (cI, 3, .inl y.2.2.1)), (b3, .inl (cI, 3, .inl y.2.2.2.1)), (b4, .inl (cZ, 512, .inl y.2.2.2.2.2.2.1)), (b5, .inl (cI, 512, .inl y.2.2.2.2.2.2.2.1)), (b6, .inl (cI, 512, .inl y.2.2.2.2.2.2.2.2.1)), (b7, .inl (cI, 512, .inl y.2.2.2.2.2.2.2.2.2))] H := hP
          have hD : va_D A [(bo, .inr (3, [.ref b1, .int y.2.1, .ref b2, .ref b3, .int (nI y.2.2.2.2.1), .int y.2.2.2.2.2.1, .ref b4, .ref b5, .ref b6, .ref b7])), (b1, .inl (cI, 3, .inl (upd y.1 2 2))), (b2, .inl (cI, 3, .inl y.2.2.1)), (b3, .inl (cI, 3, .inl y.2.2.2.1)), (b4, .inl (cZ, 512, .inl y.2.2.2.2.2.2.1)), (b5, .inl (cI, 512, .inl y.2.2.2.2.2.2.2.1)), (b6, .inl (cI, 512, .inl y.2.2.2.2.2.2.2.2.1)), (b7, .inl (cI, 512, .inl y.2.2.2.2.2.2.2.2.2))] := hD
          refine lv_iload_n hx hb dM_open_46 rfl (lv_at hl 0 rfl) ?_
          exact kretI (wf := fun st => wY cI cZ bo b1 b2 b3 b4 b5 b6 b7 st) (st := ((upd y.1 2 2), y.2.1, y.2.2.1, y.2.2.2.1, y.2.2.2.2.1, y.2.2.2.2.2.1, y.2.2.2.2.2.2.1, y.2.2.2.2.2.2.2.1, y.2.2.2.2.2.2.2.2.1, y.2.2.2.2.2.2.2.2.2)) (by first | (rw [zm_open, if_neg h1, if_neg h2, if_neg h3, if_pos h4]; done) | exact ((if_neg h1).trans ((if_neg h2).trans ((if_neg h3).trans (if_pos h4))))) hx hb hr hlk hS hP hD hK dM_open_47
      ·
        refine lv_aload_n hx hb dM_open_31 rfl (lv_at hl 1 rfl) ?_
        refine va_get (D := D) (ci := 3) (v := .ref b1) (C := cnM) (T := ftM) (N := 10) hx hb hts inM hown hK hP 0 rfl rfl 0 (by decide) (hts _ mw289) (fun _ h9 => h9) rfl dM_open_32 ?_
        refine lv_iload_n hx hb dM_open_35 rfl (lv_at hl 0 rfl) ?_
        refine lv_iload_n hx hb dM_open_36 rfl (lv_at hl 2 rfl) ?_
        refine lv_if_eq (tgt := 44) hx hb dM_open_37 (by decide) (fun h => absurd h h1) (fun _ => ?_)
        refine lv_iconst (v := 2) hx hb dM_open_40 (by decide) ?_
        refine lv_goto hx hb dM_open_41 (tgt := 45) (by decide) ?_
        refine va_iast hx hb hK hP hD hS 1 0 rfl rfl ((show ¬ ((1 : Int32) < 0 ∨ 3 ≤ Int32.toNatClampNeg 1) by decide)) dM_open_45 (fun H locs hP hD hS => ?_)
        rw [show Int32.toNatClampNeg 1 = 1 from by decide] at hP hD
        have hP : va_P D vwCl [(bo, .inr (3, [.ref b1, .int y.2.1, .ref b2, .ref b3, .int (nI y.2.2.2.2.1), .int y.2.2.2.2.2.1, .ref b4, .ref b5, .ref b6, .ref b7])), (b1, .inl (cI, 3, .inl (upd y.1 1 2))), (b2, .inl (cI, 3, .inl y.2.2.1)), (b3, .inl (cI, 3, .inl y.2.2.2.1)), (b4, .inl (cZ, 512, .inl y.2.2.2.2.2.2.1)), (b5, .inl (cI, 512, .inl y.2.2.2.2.2.2.2.1)), (b6, .inl (cI, 512, .inl y.2.2.2.2.2.2.2.2.1)), (b7, .inl (cI, 512, .inl y.2.2.2.2.2.2.2.2.2))] H := hP
        have hD : va_D A [(bo, .inr (3, [.ref b1, .int y.2.1, .ref b2, .ref b3, .int (nI y.2.2.2.2.1), .int y.2.2.2.2.2.1, .ref b4, .ref b5, .ref b6, .ref b7])), (b1, .inl (cI, 3, .inl (upd y.1 1 2))), (b2, .inl (cI, 3, .inl y.2.2.1)), (b3, .inl (cI, 3, .inl y.2.2.2.1)), (b4, .inl (cZ, 512, .inl y.2.2.2.2.2.2.1)), (b5, .inl (cI, 512, .inl y.2.2.2.2.2.2.2.1)), (b6, .inl (cI, 512, .inl y.2.2.2.2.2.2.2.2.1)), (b7, .inl (cI, 512, .inl y.2.2.2.2.2.2.2.2.2))] := hD
        refine lv_iload_n hx hb dM_open_46 rfl (lv_at hl 0 rfl) ?_
        exact kretI (wf := fun st => wY cI cZ bo b1 b2 b3 b4 b5 b6 b7 st) (st := ((upd y.1 1 2), y.2.1, y.2.2.1, y.2.2.2.1, y.2.2.2.2.1, y.2.2.2.2.2.1, y.2.2.2.2.2.2.1, y.2.2.2.2.2.2.2.1, y.2.2.2.2.2.2.2.2.1, y.2.2.2.2.2.2.2.2.2)) (by first | (rw [zm_open, if_neg h1, if_neg h2, if_pos h3]; done) | exact ((if_neg h1).trans ((if_neg h2).trans (if_pos h3)))) hx hb hr hlk hS hP hD hK dM_open_47
    ·
      refine lv_aload_n hx hb dM_open_31 rfl (lv_at hl 1 rfl) ?_
      refine va_get (D := D) (ci := 3) (v := .ref b1) (C := cnM) (T := ftM) (N := 10) hx hb hts inM hown hK hP 0 rfl rfl 0 (by decide) (hts _ mw289) (fun _ h9 => h9) rfl dM_open_32 ?_
      refine lv_iload_n hx hb dM_open_35 rfl (lv_at hl 0 rfl) ?_
      refine lv_iload_n hx hb dM_open_36 rfl (lv_at hl 2 rfl) ?_
      refine lv_if_eq (tgt := 44) hx hb dM_open_37 (by decide) (fun h => absurd h h1) (fun _ => ?_)
      refine lv_iconst (v := 2) hx hb dM_open_40 (by decide) ?_
      refine lv_goto hx hb dM_open_41 (tgt := 45) (by decide) ?_
      refine va_iast hx hb hK hP hD hS 1 0 rfl rfl ((show ¬ ((0 : Int32) < 0 ∨ 3 ≤ Int32.toNatClampNeg 0) by decide)) dM_open_45 (fun H locs hP hD hS => ?_)
      rw [show Int32.toNatClampNeg 0 = 0 from by decide] at hP hD
      have hP : va_P D vwCl [(bo, .inr (3, [.ref b1, .int y.2.1, .ref b2, .ref b3, .int (nI y.2.2.2.2.1), .int y.2.2.2.2.2.1, .ref b4, .ref b5, .ref b6, .ref b7])), (b1, .inl (cI, 3, .inl (upd y.1 0 2))), (b2, .inl (cI, 3, .inl y.2.2.1)), (b3, .inl (cI, 3, .inl y.2.2.2.1)), (b4, .inl (cZ, 512, .inl y.2.2.2.2.2.2.1)), (b5, .inl (cI, 512, .inl y.2.2.2.2.2.2.2.1)), (b6, .inl (cI, 512, .inl y.2.2.2.2.2.2.2.2.1)), (b7, .inl (cI, 512, .inl y.2.2.2.2.2.2.2.2.2))] H := hP
      have hD : va_D A [(bo, .inr (3, [.ref b1, .int y.2.1, .ref b2, .ref b3, .int (nI y.2.2.2.2.1), .int y.2.2.2.2.2.1, .ref b4, .ref b5, .ref b6, .ref b7])), (b1, .inl (cI, 3, .inl (upd y.1 0 2))), (b2, .inl (cI, 3, .inl y.2.2.1)), (b3, .inl (cI, 3, .inl y.2.2.2.1)), (b4, .inl (cZ, 512, .inl y.2.2.2.2.2.2.1)), (b5, .inl (cI, 512, .inl y.2.2.2.2.2.2.2.1)), (b6, .inl (cI, 512, .inl y.2.2.2.2.2.2.2.2.1)), (b7, .inl (cI, 512, .inl y.2.2.2.2.2.2.2.2.2))] := hD
      refine lv_iload_n hx hb dM_open_46 rfl (lv_at hl 0 rfl) ?_
      exact kretI (wf := fun st => wY cI cZ bo b1 b2 b3 b4 b5 b6 b7 st) (st := ((upd y.1 0 2), y.2.1, y.2.2.1, y.2.2.2.1, y.2.2.2.2.1, y.2.2.2.2.2.1, y.2.2.2.2.2.2.1, y.2.2.2.2.2.2.2.1, y.2.2.2.2.2.2.2.2.1, y.2.2.2.2.2.2.2.2.2)) (by first | (rw [zm_open, if_neg h1, if_pos h2]; done) | exact ((if_neg h1).trans (if_pos h2))) hx hb hr hlk hS hP hD hK dM_open_47
  ·
    refine lv_aload_n hx hb dM_open_4 rfl (lv_at hl 0 rfl) ?_
    refine va_get (D := D) (ci := 3) (v := .int y.2.1) (C := cnM) (T := ftM) (N := 10) hx hb hts inM hown hK hP 0 rfl rfl 1 (by decide) (hts _ mw290) (fun _ h9 => h9) rfl dM_open_5 ?_
    refine lv_iconst (v := 2) hx hb dM_open_8 (by decide) ?_
    refine lv_icmp_ne (tgt := 15) hx hb dM_open_9 (by decide) (fun h5 => ?_) (fun h5 => ?_)
    ·
      refine lv_iconst (v := 0) hx hb dM_open_15 (by decide) ?_
      refine lv_istore_n hx hb dM_open_16 rfl hl (by decide) rfl (fun ls hl => ?_)
      have hl : lv_has ls 3 [(2, .int 0), (0, .ref bo), (1, .int g1)] := hl
      refine lv_iload_n hx hb dM_open_17 rfl (lv_at hl 0 rfl) ?_
      refine lv_iconst (v := 3) hx hb dM_open_18 (by decide) ?_
      refine lv_icmp_ge (tgt := 54) hx hb dM_open_19 (by decide) (fun h => absurd h (by decide)) (fun _ => ?_)
      refine lv_aload_n hx hb dM_open_22 rfl (lv_at hl 1 rfl) ?_
      refine va_get (D := D) (ci := 3) (v := .ref b1) (C := cnM) (T := ftM) (N := 10) hx hb hts inM hown hK hP 0 rfl rfl 0 (by decide) (hts _ mw289) (fun _ h9 => h9) rfl dM_open_23 ?_
      refine lv_iload_n hx hb dM_open_26 rfl (lv_at hl 0 rfl) ?_
      refine va_iald hx hb hK hP 1 0 rfl rfl ((show ¬ ((0 : Int32) < 0 ∨ 3 ≤ Int32.toNatClampNeg 0) by decide)) dM_open_27 ?_
      refine kTop (y := (y.1 0)) (by rw [show Int32.toNatClampNeg 0 = 0 by decide]) ?_
      refine lv_if_ne (tgt := 48) hx hb dM_open_28 (by decide) (fun h6 => ?_) (fun h6 => ?_)
      ·
        refine lv_iinc (k := 0) (v := 1) hx hb dM_open_48 hl rfl (by decide) (by decide) rfl (fun ls hl => ?_)
        have hl : lv_has ls 3 [(2, .int 1), (0, .ref bo), (1, .int g1)] := hl
        refine lv_goto hx hb dM_open_51 (tgt := 17) (by decide) ?_
        refine lv_iload_n hx hb dM_open_17 rfl (lv_at hl 0 rfl) ?_
        refine lv_iconst (v := 3) hx hb dM_open_18 (by decide) ?_
        refine lv_icmp_ge (tgt := 54) hx hb dM_open_19 (by decide) (fun h => absurd h (by decide)) (fun _ => ?_)
        refine lv_aload_n hx hb dM_open_22 rfl (lv_at hl 1 rfl) ?_
        refine va_get (D := D) (ci := 3) (v := .ref b1) (C := cnM) (T := ftM) (N := 10) hx hb hts inM hown hK hP 0 rfl rfl 0 (by decide) (hts _ mw289) (fun _ h9 => h9) rfl dM_open_23 ?_
        refine lv_iload_n hx hb dM_open_26 rfl (lv_at hl 0 rfl) ?_
        refine va_iald hx hb hK hP 1 0 rfl rfl ((show ¬ ((1 : Int32) < 0 ∨ 3 ≤ Int32.toNatClampNeg 1) by decide)) dM_open_27 ?_
        refine kTop (y := (y.1 1)) (by rw [show Int32.toNatClampNeg 1 = 1 by decide]) ?_
        refine lv_if_ne (tgt := 48) hx hb dM_open_28 (by decide) (fun h7 => ?_) (fun h7 => ?_)
        ·
          refine lv_iinc (k := 0) (v := 2) hx hb dM_open_48 hl rfl (by decide) (by decide) rfl (fun ls hl => ?_)
          have hl : lv_has ls 3 [(2, .int 2), (0, .ref bo), (1, .int g1)] := hl
          refine lv_goto hx hb dM_open_51 (tgt := 17) (by decide) ?_
          refine lv_iload_n hx hb dM_open_17 rfl (lv_at hl 0 rfl) ?_
          refine lv_iconst (v := 3) hx hb dM_open_18 (by decide) ?_
          refine lv_icmp_ge (tgt := 54) hx hb dM_open_19 (by decide) (fun h => absurd h (by decide)) (fun _ => ?_)
          refine lv_aload_n hx hb dM_open_22 rfl (lv_at hl 1 rfl) ?_
          refine va_get (D := D) (ci := 3) (v := .ref b1) (C := cnM) (T := ftM) (N := 10) hx hb hts inM hown hK hP 0 rfl rfl 0 (by decide) (hts _ mw289) (fun _ h9 => h9) rfl dM_open_23 ?_
          refine lv_iload_n hx hb dM_open_26 rfl (lv_at hl 0 rfl) ?_
          refine va_iald hx hb hK hP 1 0 rfl rfl ((show ¬ ((2 : Int32) < 0 ∨ 3 ≤ Int32.toNatClampNeg 2) by decide)) dM_open_27 ?_
          refine kTop (y := (y.1 2)) (by rw [show Int32.toNatClampNeg 2 = 2 by decide]) ?_
          refine lv_if_ne (tgt := 48) hx hb dM_open_28 (by decide) (fun h8 => ?_) (fun h8 => ?_)
          ·
            refine lv_iinc (k := 0) (v := 3) hx hb dM_open_48 hl rfl (by decide) (by decide) rfl (fun ls hl => ?_)
            have hl : lv_has ls 3 [(2, .int 3), (0, .ref bo), (1, .int g1)] := hl
            refine lv_goto hx hb dM_open_51 (tgt := 17) (by decide) ?_
            refine lv_iload_n hx hb dM_open_17 rfl (lv_at hl 0 rfl) ?_
            refine lv_iconst (v := 3) hx hb dM_open_18 (by decide) ?_
            refine lv_icmp_ge (tgt := 54) hx hb dM_open_19 (by decide) (fun _ => ?_) (fun h => absurd h (by decide))
            refine lv_bipush (v := (-6)) hx hb dM_open_54 (by decide) ?_
            exact kretI (wf := fun st => wY cI cZ bo b1 b2 b3 b4 b5 b6 b7 st) (st := y) (by first | (rw [zm_open, if_pos h1, if_neg h5, if_neg h6, if_neg h7, if_neg h8]; done) | exact ((if_pos h1).trans ((if_neg h5).trans ((if_neg h6).trans ((if_neg h7).trans (if_neg h8)))))) hx hb hr hlk hS hP hD hK dM_open_56
          ·
            refine lv_aload_n hx hb dM_open_31 rfl (lv_at hl 1 rfl) ?_
            refine va_get (D := D) (ci := 3) (v := .ref b1) (C := cnM) (T := ftM) (N := 10) hx hb hts inM hown hK hP 0 rfl rfl 0 (by decide) (hts _ mw289) (fun _ h9 => h9) rfl dM_open_32 ?_
            refine lv_iload_n hx hb dM_open_35 rfl (lv_at hl 0 rfl) ?_
            refine lv_iload_n hx hb dM_open_36 rfl (lv_at hl 2 rfl) ?_
            refine lv_if_eq (tgt := 44) hx hb dM_open_37 (by decide) (fun _ => ?_) (fun h => absurd h1 h)
            refine lv_iconst (v := 1) hx hb dM_open_44 (by decide) ?_
            refine va_iast hx hb hK hP hD hS 1 0 rfl rfl ((show ¬ ((2 : Int32) < 0 ∨ 3 ≤ Int32.toNatClampNeg 2) by decide)) dM_open_45 (fun H locs hP hD hS => ?_)
            rw [show Int32.toNatClampNeg 2 = 2 from by decide] at hP hD
            have hP : va_P D vwCl [(bo, .inr (3, [.ref b1, .int y.2.1, .ref b2, .ref b3, .int (nI y.2.2.2.2.1), .int y.2.2.2.2.2.1, .ref b4, .ref b5, .ref b6, .ref b7])), (b1, .inl (cI, 3, .inl (upd y.1 2 1))), (b2, .inl (cI, 3, .inl y.2.2.1)), (b3, .inl (cI, 3, .inl y.2.2.2.1)), (b4, .inl (cZ, 512, .inl y.2.2.2.2.2.2.1)), (b5, .inl (cI, 512, .inl y.2.2.2.2.2.2.2.1)), (b6, .inl (cI, 512, .inl y.2.2.2.2.2.2.2.2.1)), (b7, .inl (cI, 512, .inl y.2.2.2.2.2.2.2.2.2))] H := hP
            have hD : va_D A [(bo, .inr (3, [.ref b1, .int y.2.1, .ref b2, .ref b3, .int (nI y.2.2.2.2.1), .int y.2.2.2.2.2.1, .ref b4, .ref b5, .ref b6, .ref b7])), (b1, .inl (cI, 3, .inl (upd y.1 2 1))), (b2, .inl (cI, 3, .inl y.2.2.1)), (b3, .inl (cI, 3, .inl y.2.2.2.1)), (b4, .inl (cZ, 512, .inl y.2.2.2.2.2.2.1)), (b5, .inl (cI, 512, .inl y.2.2.2.2.2.2.2.1)), (b6, .inl (cI, 512, .inl y.2.2.2.2.2.2.2.2.1)), (b7, .inl (cI, 512, .inl y.2.2.2.2.2.2.2.2.2))] := hD
            refine lv_iload_n hx hb dM_open_46 rfl (lv_at hl 0 rfl) ?_
            exact kretI (wf := fun st => wY cI cZ bo b1 b2 b3 b4 b5 b6 b7 st) (st := ((upd y.1 2 1), y.2.1, y.2.2.1, y.2.2.2.1, y.2.2.2.2.1, y.2.2.2.2.2.1, y.2.2.2.2.2.2.1, y.2.2.2.2.2.2.2.1, y.2.2.2.2.2.2.2.2.1, y.2.2.2.2.2.2.2.2.2)) (by first | (rw [zm_open, if_pos h1, if_neg h5, if_neg h6, if_neg h7, if_pos h8]; done) | exact ((if_pos h1).trans ((if_neg h5).trans ((if_neg h6).trans ((if_neg h7).trans (if_pos h8)))))) hx hb hr hlk hS hP hD hK dM_open_47
        ·
          refine lv_aload_n hx hb dM_open_31 rfl (lv_at hl 1 rfl) ?_
          refine va_get (D := D) (ci := 3) (v := .ref b1) (C := cnM) (T := ftM) (N := 10) hx hb hts inM hown hK hP 0 rfl rfl 0 (by decide) (hts _ mw289) (fun _ h9 => h9) rfl dM_open_32 ?_
          refine lv_iload_n hx hb dM_open_35 rfl (lv_at hl 0 rfl) ?_
          refine lv_iload_n hx hb dM_open_36 rfl (lv_at hl 2 rfl) ?_
          refine lv_if_eq (tgt := 44) hx hb dM_open_37 (by decide) (fun _ => ?_) (fun h => absurd h1 h)
          refine lv_iconst (v := 1) hx hb dM_open_44 (by decide) ?_
          refine va_iast hx hb hK hP hD hS 1 0 rfl rfl ((show ¬ ((1 : Int32) < 0 ∨ 3 ≤ Int32.toNatClampNeg 1) by decide)) dM_open_45 (fun H locs hP hD hS => ?_)
          rw [show Int32.toNatClampNeg 1 = 1 from by decide] at hP hD
          have hP : va_P D vwCl [(bo, .inr (3, [.ref b1, .int y.2.1, .ref b2, .ref b3, .int (nI y.2.2.2.2.1), .int y.2.2.2.2.2.1, .ref b4, .ref b5, .ref b6, .ref b7])), (b1, .inl (cI, 3, .inl (upd y.1 1 1))), (b2, .inl (cI, 3, .inl y.2.2.1)), (b3, .inl (cI, 3, .inl y.2.2.2.1)), (b4, .inl (cZ, 512, .inl y.2.2.2.2.2.2.1)), (b5, .inl (cI, 512, .inl y.2.2.2.2.2.2.2.1)), (b6, .inl (cI, 512, .inl y.2.2.2.2.2.2.2.2.1)), (b7, .inl (cI, 512, .inl y.2.2.2.2.2.2.2.2.2))] H := hP
          have hD : va_D A [(bo, .inr (3, [.ref b1, .int y.2.1, .ref b2, .ref b3, .int (nI y.2.2.2.2.1), .int y.2.2.2.2.2.1, .ref b4, .ref b5, .ref b6, .ref b7])), (b1, .inl (cI, 3, .inl (upd y.1 1 1))), (b2, .inl (cI, 3, .inl y.2.2.1)), (b3, .inl (cI, 3, .inl y.2.2.2.1)), (b4, .inl (cZ, 512, .inl y.2.2.2.2.2.2.1)), (b5, .inl (cI, 512, .inl y.2.2.2.2.2.2.2.1)), (b6, .inl (cI, 512, .inl y.2.2.2.2.2.2.2.2.1)), (b7, .inl (cI, 512, .inl y.2.2.2.2.2.2.2.2.2))] := hD
          refine lv_iload_n hx hb dM_open_46 rfl (lv_at hl 0 rfl) ?_
          exact kretI (wf := fun st => wY cI cZ bo b1 b2 b3 b4 b5 b6 b7 st) (st := ((upd y.1 1 1), y.2.1, y.2.2.1, y.2.2.2.1, y.2.2.2.2.1, y.2.2.2.2.2.1, y.2.2.2.2.2.2.1, y.2.2.2.2.2.2.2.1, y.2.2.2.2.2.2.2.2.1, y.2.2.2.2.2.2.2.2.2)) (by first | (rw [zm_open, if_pos h1, if_neg h5, if_neg h6, if_pos h7]; done) | exact ((if_pos h1).trans ((if_neg h5).trans ((if_neg h6).trans (if_pos h7))))) hx hb hr hlk hS hP hD hK dM_open_47
      ·
        refine lv_aload_n hx hb dM_open_31 rfl (lv_at hl 1 rfl) ?_
        refine va_get (D := D) (ci := 3) (v := .ref b1) (C := cnM) (T := ftM) (N := 10) hx hb hts inM hown hK hP 0 rfl rfl 0 (by decide) (hts _ mw289) (fun _ h9 => h9) rfl dM_open_32 ?_
        refine lv_iload_n hx hb dM_open_35 rfl (lv_at hl 0 rfl) ?_
        refine lv_iload_n hx hb dM_open_36 rfl (lv_at hl 2 rfl) ?_
        refine lv_if_eq (tgt := 44) hx hb dM_open_37 (by decide) (fun _ => ?_) (fun h => absurd h1 h)
        refine lv_iconst (v := 1) hx hb dM_open_44 (by decide) ?_
        refine va_iast hx hb hK hP hD hS 1 0 rfl rfl ((show ¬ ((0 : Int32) < 0 ∨ 3 ≤ Int32.toNatClampNeg 0) by decide)) dM_open_45 (fun H locs hP hD hS => ?_)
        rw [show Int32.toNatClampNeg 0 = 0 from by decide] at hP hD
        have hP : va_P D vwCl [(bo, .inr (3, [.ref b1, .int y.2.1, .ref b2, .ref b3, .int (nI y.2.2.2.2.1), .int y.2.2.2.2.2.1, .ref b4, .ref b5, .ref b6, .ref b7])), (b1, .inl (cI, 3, .inl (upd y.1 0 1))), (b2, .inl (cI, 3, .inl y.2.2.1)), (b3, .inl (cI, 3, .inl y.2.2.2.1)), (b4, .inl (cZ, 512, .inl y.2.2.2.2.2.2.1)), (b5, .inl (cI, 512, .inl y.2.2.2.2.2.2.2.1)), (b6, .inl (cI, 512, .inl y.2.2.2.2.2.2.2.2.1)), (b7, .inl (cI, 512, .inl y.2.2.2.2.2.2.2.2.2))] H := hP
        have hD : va_D A [(bo, .inr (3, [.ref b1, .int y.2.1, .ref b2, .ref b3, .int (nI y.2.2.2.2.1), .int y.2.2.2.2.2.1, .ref b4, .ref b5, .ref b6, .ref b7])), (b1, .inl (cI, 3, .inl (upd y.1 0 1))), (b2, .inl (cI, 3, .inl y.2.2.1)), (b3, .inl (cI, 3, .inl y.2.2.2.1)), (b4, .inl (cZ, 512, .inl y.2.2.2.2.2.2.1)), (b5, .inl (cI, 512, .inl y.2.2.2.2.2.2.2.1)), (b6, .inl (cI, 512, .inl y.2.2.2.2.2.2.2.2.1)), (b7, .inl (cI, 512, .inl y.2.2.2.2.2.2.2.2.2))] := hD
        refine lv_iload_n hx hb dM_open_46 rfl (lv_at hl 0 rfl) ?_
        exact kretI (wf := fun st => wY cI cZ bo b1 b2 b3 b4 b5 b6 b7 st) (st := ((upd y.1 0 1), y.2.1, y.2.2.1, y.2.2.2.1, y.2.2.2.2.1, y.2.2.2.2.2.1, y.2.2.2.2.2.2.1, y.2.2.2.2.2.2.2.1, y.2.2.2.2.2.2.2.2.1, y.2.2.2.2.2.2.2.2.2)) (by first | (rw [zm_open, if_pos h1, if_neg h5, if_pos h6]; done) | exact ((if_pos h1).trans ((if_neg h5).trans (if_pos h6)))) hx hb hr hlk hS hP hD hK dM_open_47
    ·
      refine lv_bipush (v := (-3)) hx hb dM_open_12 (by decide) ?_
      exact kretI (wf := fun st => wY cI cZ bo b1 b2 b3 b4 b5 b6 b7 st) (st := y) (by first | (rw [zm_open, if_pos h1, if_pos h5]; done) | exact ((if_pos h1).trans (if_pos h5))) hx hb hr hlk hS hP hD hK dM_open_14

def zm_clz (mk ow : Nat → Int32) (g : Int32) : Nat → Nat → (Nat → Int32) → (Nat → Int32)
  | 0, _, t => t
  | f + 1, i, t => zm_clz mk ow g f (i + 1) (upd t i (if (t i) = 0 then 0 else (if (zm_has (mk i) 1) = 0 then (if (ow i) = g then 0 else 1) else 1)))
def zm_close (y : YS) (g1 : Int32) : Int32 × YS := if zm_closed y g1 = 0 then (0, ((upd y.1 (Int32.toNatClampNeg g1) 0), (if ((((upd y.1 (Int32.toNatClampNeg g1) 0) 0) + ((upd y.1 (Int32.toNatClampNeg g1) 0) 1)) + ((upd y.1 (Int32.toNatClampNeg g1) 0) 2)) = 0 then 0 else y.2.1), y.2.2.1, y.2.2.2.1, y.2.2.2.2.1, y.2.2.2.2.2.1, zm_clz y.2.2.2.2.2.2.2.2.2 y.2.2.2.2.2.2.2.2.1 g1 y.2.2.2.2.1 0 y.2.2.2.2.2.2.1, y.2.2.2.2.2.2.2.1, y.2.2.2.2.2.2.2.2.1, y.2.2.2.2.2.2.2.2.2)) else ((-1), y)

set_option maxHeartbeats 4000000 in
set_option maxRecDepth 100000 in
theorem km_close (l : Launch) (D : va_G) (cI cZ : ClassId) (bo b1 b2 b3 b4 b5 b6 b7 : Nat) (y : YS) (g1 : Int32) (hn : y.2.2.2.2.1 ≤ 512) : kI l yM_close wsM_close (rmOf 1 21) D (kT cI cZ) [.ref bo, .int g1] (wY cI cZ bo b1 b2 b3 b4 b5 b6 b7 y) (zm_close y g1).1 (wY cI cZ bo b1 b2 b3 b4 b5 b6 b7 ((zm_close y g1).2)) := by
  intro sz
  refine kOf (Qc := fun A => kQi D (kT cI cZ) A (zm_close y g1).1 (wY cI cZ bo b1 b2 b3 b4 b5 b6 b7 ((zm_close y g1).2))) (cc := cM_close) (maxL := 3) (ret := some .int) (by decide) rfl (Nat.le_of_ble_eq_true rfl) ?_ sz
  intro p e s m args below meth c A ls hx hb hml hown hts hNw hr hlk hin hA hS hP hD hK hl
  show W p l e (rmOf 1 21) s m args below meth c s.heap [] 0 0 (MQ below (kQi D (kT cI cZ) A (zm_close y g1).1 (wY cI cZ bo b1 b2 b3 b4 b5 b6 b7 ((zm_close y g1).2))) args s 0 0 A) (F0 m 0 ls [])
  have hts : ∀ q ∈ lw_g, q.before args s = true := fun q h => hts q (List.mem_cons_of_mem _ h)
  have hown : s.vm.findClass cnM = some m.cls := hown
  have hl : lv_has ls 3 [(0, .ref bo), (1, .int g1)] := hl
  have hP : va_P D vwCl [(bo, .inr (3, [.ref b1, .int y.2.1, .ref b2, .ref b3, .int (nI y.2.2.2.2.1), .int y.2.2.2.2.2.1, .ref b4, .ref b5, .ref b6, .ref b7])), (b1, .inl (cI, 3, .inl y.1)), (b2, .inl (cI, 3, .inl y.2.2.1)), (b3, .inl (cI, 3, .inl y.2.2.2.1)), (b4, .inl (cZ, 512, .inl y.2.2.2.2.2.2.1)), (b5, .inl (cI, 512, .inl y.2.2.2.2.2.2.2.1)), (b6, .inl (cI, 512, .inl y.2.2.2.2.2.2.2.2.1)), (b7, .inl (cI, 512, .inl y.2.2.2.2.2.2.2.2.2))] s.heap := hP
  have hD : va_D A [(bo, .inr (3, [.ref b1, .int y.2.1, .ref b2, .ref b3, .int (nI y.2.2.2.2.1), .int y.2.2.2.2.2.1, .ref b4, .ref b5, .ref b6, .ref b7])), (b1, .inl (cI, 3, .inl y.1)), (b2, .inl (cI, 3, .inl y.2.2.1)), (b3, .inl (cI, 3, .inl y.2.2.2.1)), (b4, .inl (cZ, 512, .inl y.2.2.2.2.2.2.1)), (b5, .inl (cI, 512, .inl y.2.2.2.2.2.2.2.1)), (b6, .inl (cI, 512, .inl y.2.2.2.2.2.2.2.2.1)), (b7, .inl (cI, 512, .inl y.2.2.2.2.2.2.2.2.2))] := hD
  have L : ∀ (f : Nat) (i : Nat) (t : Nat → Int32) (ls : Array Slot) (H : Heap) (locs : List Loc), (i + f = y.2.2.2.2.1) → (zm_clz y.2.2.2.2.2.2.2.2.2 y.2.2.2.2.2.2.2.2.1 g1 y.2.2.2.2.1 0 y.2.2.2.2.2.2.1 = zm_clz y.2.2.2.2.2.2.2.2.2 y.2.2.2.2.2.2.2.2.1 g1 f i t) → (zm_closed y g1 = 0) → lv_has ls 3 [(2, .int (nI i)), (0, .ref bo), (1, .int g1)] → va_P D vwCl [(bo, .inr (3, [.ref b1, .int y.2.1, .ref b2, .ref b3, .int (nI y.2.2.2.2.1), .int y.2.2.2.2.2.1, .ref b4, .ref b5, .ref b6, .ref b7])), (b1, .inl (cI, 3, .inl (upd y.1 (Int32.toNatClampNeg g1) 0))), (b2, .inl (cI, 3, .inl y.2.2.1)), (b3, .inl (cI, 3, .inl y.2.2.2.1)), (b4, .inl (cZ, 512, .inl t)), (b5, .inl (cI, 512, .inl y.2.2.2.2.2.2.2.1)), (b6, .inl (cI, 512, .inl y.2.2.2.2.2.2.2.2.1)), (b7, .inl (cI, 512, .inl y.2.2.2.2.2.2.2.2.2))] H → va_D A [(bo, .inr (3, [.ref b1, .int y.2.1, .ref b2, .ref b3, .int (nI y.2.2.2.2.1), .int y.2.2.2.2.2.1, .ref b4, .ref b5, .ref b6, .ref b7])), (b1, .inl (cI, 3, .inl (upd y.1 (Int32.toNatClampNeg g1) 0))), (b2, .inl (cI, 3, .inl y.2.2.1)), (b3, .inl (cI, 3, .inl y.2.2.2.1)), (b4, .inl (cZ, 512, .inl t)), (b5, .inl (cI, 512, .inl y.2.2.2.2.2.2.2.1)), (b6, .inl (cI, 512, .inl y.2.2.2.2.2.2.2.2.1)), (b7, .inl (cI, 512, .inl y.2.2.2.2.2.2.2.2.2))] → va_S A s.heap H locs → W p l e (rmOf 1 21) s m args below meth c H locs 0 0 (MQ below (kQi D (kT cI cZ) A (zm_close y g1).1 (wY cI cZ bo b1 b2 b3 b4 b5 b6 b7 ((zm_close y g1).2))) args s 0 0 A) (F0 m 19 ls []) := by
    intro f
    induction f with
    | zero =>
      intro i t ls H locs hf he hc hl hP hD hS
      refine lv_iload_n hx hb dM_close_19 rfl (lv_at hl 0 rfl) ?_
      refine lv_aload_n hx hb dM_close_20 rfl (lv_at hl 1 rfl) ?_
      refine va_get (D := D) (ci := 3) (v := .int (nI y.2.2.2.2.1)) (C := cnM) (T := ftM) (N := 10) hx hb hts inM hown hK hP 0 rfl rfl 4 (by decide) (hts _ mw293) (fun _ h9 => h9) rfl dM_close_21 ?_
      refine lv_icmp_ge (tgt := 76) hx hb dM_close_24 (by decide) (fun _ => ?_) (fun h => absurd (nI_le (by omega) (by omega)) h)
      refine lv_aload_n hx hb dM_close_76 rfl (lv_at hl 1 rfl) ?_
      refine lv_aload_n hx hb dM_close_77 rfl (lv_at hl 1 rfl) ?_
      refine va_get (D := D) (ci := 3) (v := .ref b1) (C := cnM) (T := ftM) (N := 10) hx hb hts inM hown hK hP 0 rfl rfl 0 (by decide) (hts _ mw289) (fun _ h9 => h9) rfl dM_close_78 ?_
      refine lv_iconst (v := 0) hx hb dM_close_81 (by decide) ?_
      refine va_iald hx hb hK hP 1 0 rfl rfl ((show ¬ ((0 : Int32) < 0 ∨ 3 ≤ Int32.toNatClampNeg 0) by decide)) dM_close_82 ?_
      refine kTop (y := ((upd y.1 (Int32.toNatClampNeg g1) 0) 0)) (by rw [show Int32.toNatClampNeg 0 = 0 by decide]) ?_
      refine lv_aload_n hx hb dM_close_83 rfl (lv_at hl 1 rfl) ?_
      refine va_get (D := D) (ci := 3) (v := .ref b1) (C := cnM) (T := ftM) (N := 10) hx hb hts inM hown hK hP 0 rfl rfl 0 (by decide) (hts _ mw289) (fun _ h9 => h9) rfl dM_close_84 ?_
      refine lv_iconst (v := 1) hx hb dM_close_87 (by decide) ?_
      refine va_iald hx hb hK hP 1 0 rfl rfl ((show ¬ ((1 : Int32) < 0 ∨ 3 ≤ Int32.toNatClampNeg 1) by decide)) dM_close_88 ?_
      refine kTop (y := ((upd y.1 (Int32.toNatClampNeg g1) 0) 1)) (by rw [show Int32.toNatClampNeg 1 = 1 by decide]) ?_
      refine lv_iadd hx hb dM_close_89 ?_
      refine lv_aload_n hx hb dM_close_90 rfl (lv_at hl 1 rfl) ?_
      refine va_get (D := D) (ci := 3) (v := .ref b1) (C := cnM) (T := ftM) (N := 10) hx hb hts inM hown hK hP 0 rfl rfl 0 (by decide) (hts _ mw289) (fun _ h9 => h9) rfl dM_close_91 ?_
      refine lv_iconst (v := 2) hx hb dM_close_94 (by decide) ?_
      refine va_iald hx hb hK hP 1 0 rfl rfl ((show ¬ ((2 : Int32) < 0 ∨ 3 ≤ Int32.toNatClampNeg 2) by decide)) dM_close_95 ?_
      refine kTop (y := ((upd y.1 (Int32.toNatClampNeg g1) 0) 2)) (by rw [show Int32.toNatClampNeg 2 = 2 by decide]) ?_
      refine lv_iadd hx hb dM_close_96 ?_
      refine kJoin (pcJ := 108) (z := (if ((((upd y.1 (Int32.toNatClampNeg g1) 0) 0) + ((upd y.1 (Int32.toNatClampNeg g1) 0) 1)) + ((upd y.1 (Int32.toNatClampNeg g1) 0) 2)) = 0 then (0 : Int32) else y.2.1)) (ws := [(bo, .inr (3, [.ref b1, .int y.2.1, .ref b2, .ref b3, .int (nI y.2.2.2.2.1), .int y.2.2.2.2.2.1, .ref b4, .ref b5, .ref b6, .ref b7])), (b1, .inl (cI, 3, .inl (upd y.1 (Int32.toNatClampNeg g1) 0))), (b2, .inl (cI, 3, .inl y.2.2.1)), (b3, .inl (cI, 3, .inl y.2.2.2.1)), (b4, .inl (cZ, 512, .inl t)), (b5, .inl (cI, 512, .inl y.2.2.2.2.2.2.2.1)), (b6, .inl (cI, 512, .inl y.2.2.2.2.2.2.2.2.1)), (b7, .inl (cI, 512, .inl y.2.2.2.2.2.2.2.2.2))]) (rest := [.ref bo]) (D := D) (A := A) (H0 := s.heap) (fun J108 => ?_) (fun H locs hP hD hS => ?_)
      ·
        refine lv_if_ne (tgt := 104) hx hb dM_close_97 (by decide) (fun h1 => ?_) (fun h1 => ?_)
        ·
          refine lv_aload_n hx hb dM_close_104 rfl (lv_at hl 1 rfl) ?_
          refine va_get (D := D) (ci := 3) (v := .int y.2.1) (C := cnM) (T := ftM) (N := 10) hx hb hts inM hown hK hP 0 rfl rfl 1 (by decide) (hts _ mw290) (fun _ h9 => h9) rfl dM_close_105 ?_
          exact J108 _ _ hP hD hS _ ((if_neg h1).symm)
        ·
          refine lv_iconst (v := 0) hx hb dM_close_100 (by decide) ?_
          refine lv_goto hx hb dM_close_101 (tgt := 108) (by decide) ?_
          exact J108 _ _ hP hD hS _ ((if_pos h1).symm)
      refine va_put (D := D) (ci := 3) (v := .int (if ((((upd y.1 (Int32.toNatClampNeg g1) 0) 0) + ((upd y.1 (Int32.toNatClampNeg g1) 0) 1)) + ((upd y.1 (Int32.toNatClampNeg g1) 0) 2)) = 0 then (0 : Int32) else y.2.1)) (ty := (.int)) (C := cnM) (T := ftM) (N := 10) hx hb hts inM tyM tyM_ok nmM hown hK hP hD hS 0 rfl rfl 1 (by decide) (hts _ mw290) (fun _ h9 => h9) rfl (by decide +kernel) rfl rfl (Nat.le_of_ble_eq_true rfl) dM_close_108 (fun H locs hP hD hS => ?_)
      have hP : va_P D vwCl [(bo, .inr (3, [.ref b1, .int (if ((((upd y.1 (Int32.toNatClampNeg g1) 0) 0) + ((upd y.1 (Int32.toNatClampNeg g1) 0) 1)) + ((upd y.1 (Int32.toNatClampNeg g1) 0) 2)) = 0 then (0 : Int32) else y.2.1), .ref b2, .ref b3, .int (nI y.2.2.2.2.1), .int y.2.2.2.2.2.1, .ref b4, .ref b5, .ref b6, .ref b7])), (b1, .inl (cI, 3, .inl (upd y.1 (Int32.toNatClampNeg g1) 0))), (b2, .inl (cI, 3, .inl y.2.2.1)), (b3, .inl (cI, 3, .inl y.2.2.2.1)), (b4, .inl (cZ, 512, .inl t)), (b5, .inl (cI, 512, .inl y.2.2.2.2.2.2.2.1)), (b6, .inl (cI, 512, .inl y.2.2.2.2.2.2.2.2.1)), (b7, .inl (cI, 512, .inl y.2.2.2.2.2.2.2.2.2))] H := hP
      have hD : va_D A [(bo, .inr (3, [.ref b1, .int (if ((((upd y.1 (Int32.toNatClampNeg g1) 0) 0) + ((upd y.1 (Int32.toNatClampNeg g1) 0) 1)) + ((upd y.1 (Int32.toNatClampNeg g1) 0) 2)) = 0 then (0 : Int32) else y.2.1), .ref b2, .ref b3, .int (nI y.2.2.2.2.1), .int y.2.2.2.2.2.1, .ref b4, .ref b5, .ref b6, .ref b7])), (b1, .inl (cI, 3, .inl (upd y.1 (Int32.toNatClampNeg g1) 0))), (b2, .inl (cI, 3, .inl y.2.2.1)), (b3, .inl (cI, 3, .inl y.2.2.2.1)), (b4, .inl (cZ, 512, .inl t)), (b5, .inl (cI, 512, .inl y.2.2.2.2.2.2.2.1)), (b6, .inl (cI, 512, .inl y.2.2.2.2.2.2.2.2.1)), (b7, .inl (cI, 512, .inl y.2.2.2.2.2.2.2.2.2))] := hD
      refine lv_iconst (v := 0) hx hb dM_close_111 (by decide) ?_
      exact kretI (wf := fun st => wY cI cZ bo b1 b2 b3 b4 b5 b6 b7 st) (st := ((upd y.1 (Int32.toNatClampNeg g1) 0), (if ((((upd y.1 (Int32.toNatClampNeg g1) 0) 0) + ((upd y.1 (Int32.toNatClampNeg g1) 0) 1)) + ((upd y.1 (Int32.toNatClampNeg g1) 0) 2)) = 0 then (0 : Int32) else y.2.1), y.2.2.1, y.2.2.2.1, y.2.2.2.2.1, y.2.2.2.2.2.1, t, y.2.2.2.2.2.2.2.1, y.2.2.2.2.2.2.2.2.1, y.2.2.2.2.2.2.2.2.2)) (by rw [zm_close, if_pos hc, he]; rfl) hx hb hr hlk hS hP hD hK dM_close_112
    | succ f ih =>
      intro i t ls H locs hf he hc hl hP hD hS
      refine lv_iload_n hx hb dM_close_19 rfl (lv_at hl 0 rfl) ?_
      refine lv_aload_n hx hb dM_close_20 rfl (lv_at hl 1 rfl) ?_
      refine va_get (D := D) (ci := 3) (v := .int (nI y.2.2.2.2.1)) (C := cnM) (T := ftM) (N := 10) hx hb hts inM hown hK hP 0 rfl rfl 4 (by decide) (hts _ mw293) (fun _ h9 => h9) rfl dM_close_21 ?_
      refine lv_icmp_ge (tgt := 76) hx hb dM_close_24 (by decide) (fun h => absurd h (nI_ge (by omega) (by omega))) (fun _ => ?_)
      refine lv_aload_n hx hb dM_close_27 rfl (lv_at hl 1 rfl) ?_
      refine va_get (D := D) (ci := 3) (v := .ref b4) (C := cnM) (T := ftM) (N := 10) hx hb hts inM hown hK hP 0 rfl rfl 6 (by decide) (hts _ mw295) (fun _ h9 => h9) rfl dM_close_28 ?_
      refine lv_iload_n hx hb dM_close_31 rfl (lv_at hl 0 rfl) ?_
      refine lv_aload_n hx hb dM_close_32 rfl (lv_at hl 1 rfl) ?_
      refine va_get (D := D) (ci := 3) (v := .ref b4) (C := cnM) (T := ftM) (N := 10) hx hb hts inM hown hK hP 0 rfl rfl 6 (by decide) (hts _ mw295) (fun _ h9 => h9) rfl dM_close_33 ?_
      refine lv_iload_n hx hb dM_close_36 rfl (lv_at hl 0 rfl) ?_
      refine va_zald hx hb hK hP 4 1 rfl rfl (vp_in_nI (by omega) (by decide)) dM_close_37 ?_
      refine kTop (y := (t i)) (by rw [nI_clamp (by omega)]) ?_
      refine kJoin (pcJ := 69) (z := (if (t i) = 0 then (0 : Int32) else (if (zm_has (y.2.2.2.2.2.2.2.2.2 i) 1) = 0 then (if (y.2.2.2.2.2.2.2.2.1 i) = g1 then (0 : Int32) else (1 : Int32)) else (1 : Int32)))) (ws := [(bo, .inr (3, [.ref b1, .int y.2.1, .ref b2, .ref b3, .int (nI y.2.2.2.2.1), .int y.2.2.2.2.2.1, .ref b4, .ref b5, .ref b6, .ref b7])), (b1, .inl (cI, 3, .inl (upd y.1 (Int32.toNatClampNeg g1) 0))), (b2, .inl (cI, 3, .inl y.2.2.1)), (b3, .inl (cI, 3, .inl y.2.2.2.1)), (b4, .inl (cZ, 512, .inl t)), (b5, .inl (cI, 512, .inl y.2.2.2.2.2.2.2.1)), (b6, .inl (cI, 512, .inl y.2.2.2.2.2.2.2.2.1)), (b7, .inl (cI, 512, .inl y.2.2.2.2.2.2.2.2.2))]) (rest := [.int (nI i), .ref b4]) (D := D) (A := A) (H0 := s.heap) (fun J69 => ?_) (fun H locs hP hD hS => ?_)
      ·
        refine lv_if_eq (tgt := 68) hx hb dM_close_38 (by decide) (fun h1 => ?_) (fun h1 => ?_)
        ·
          refine lv_iconst (v := 0) hx hb dM_close_68 (by decide) ?_
          exact J69 _ _ hP hD hS _ ((if_pos h1).symm)
        ·
          refine lv_aload_n hx hb dM_close_41 rfl (lv_at hl 1 rfl) ?_
          refine va_get (D := D) (ci := 3) (v := .ref b7) (C := cnM) (T := ftM) (N := 10) hx hb hts inM hown hK hP 0 rfl rfl 9 (by decide) (hts _ mw298) (fun _ h9 => h9) rfl dM_close_42 ?_
          refine lv_iload_n hx hb dM_close_45 rfl (lv_at hl 0 rfl) ?_
          refine va_iald hx hb hK hP 7 0 rfl rfl (vp_in_nI (by omega) (by decide)) dM_close_46 ?_
          refine kTop (y := (y.2.2.2.2.2.2.2.2.2 i)) (by rw [nI_clamp (by omega)]) ?_
          refine lv_iconst (v := 1) hx hb dM_close_47 (by decide) ?_
          refine kcI (isR := [0, 1, 2, 3, 4, 5, 6, 7]) (isC := []) (wr := [(bo, .inr (3, [.ref b1, .int y.2.1, .ref b2, .ref b3, .int (nI y.2.2.2.2.1), .int y.2.2.2.2.2.1, .ref b4, .ref b5, .ref b6, .ref b7])), (b1, .inl (cI, 3, .inl (upd y.1 (Int32.toNatClampNeg g1) 0))), (b2, .inl (cI, 3, .inl y.2.2.1)), (b3, .inl (cI, 3, .inl y.2.2.2.1)), (b4, .inl (cZ, 512, .inl t)), (b5, .inl (cI, 512, .inl y.2.2.2.2.2.2.2.1)), (b6, .inl (cI, 512, .inl y.2.2.2.2.2.2.2.2.1)), (b7, .inl (cI, 512, .inl y.2.2.2.2.2.2.2.2.2))]) (w2 := [(bo, .inr (3, [.ref b1, .int y.2.1, .ref b2, .ref b3, .int (nI y.2.2.2.2.1), .int y.2.2.2.2.2.1, .ref b4, .ref b5, .ref b6, .ref b7])), (b1, .inl (cI, 3, .inl (upd y.1 (Int32.toNatClampNeg g1) 0))), (b2, .inl (cI, 3, .inl y.2.2.1)), (b3, .inl (cI, 3, .inl y.2.2.2.1)), (b4, .inl (cZ, 512, .inl t)), (b5, .inl (cI, 512, .inl y.2.2.2.2.2.2.2.1)), (b6, .inl (cI, 512, .inl y.2.2.2.2.2.2.2.2.1)), (b7, .inl (cI, 512, .inl y.2.2.2.2.2.2.2.2.2))]) (va_runS (As := [.int (y.2.2.2.2.2.2.2.2.2 i), .int 1]) (rest := [.int (nI i), .ref b4]) ⟨hx, hb, hml, hown, hts⟩ (km_has l D cI cZ (y.2.2.2.2.2.2.2.2.2 i) 1 _) ⟨(callB_of 2 hts gd_yM_has rfl rfl rfl (hts _ mw27) (hts _ mw333) (by decide +kernel) ⟨Nat.le_of_ble_eq_true rfl, Nat.le_of_ble_eq_true rfl⟩), hts _ mw334⟩ (kpreS hNw hP hD hK [] rfl (by decide)) rfl rfl hl.1 rfl (lv_room (Nat.le_of_ble_eq_true rfl)) dM_close_48 ⟨Nat.le_of_ble_eq_true rfl, Nat.le_of_ble_eq_true rfl⟩) hP hD hS hA [0, 1, 2, 3, 4, 5, 6, 7] rfl rfl (by decide) (by decide) (by decide) rfl (fun H locs hP hD hS => ?_)
          refine lv_if_ne (tgt := 64) hx hb dM_close_51 (by decide) (fun h2 => ?_) (fun h2 => ?_)
          ·
            refine lv_iconst (v := 1) hx hb dM_close_64 (by decide) ?_
            refine lv_goto hx hb dM_close_65 (tgt := 69) (by decide) ?_
            exact J69 _ _ hP hD hS _ (((if_neg h1).trans (if_neg h2)).symm)
          ·
            refine lv_aload_n hx hb dM_close_54 rfl (lv_at hl 1 rfl) ?_
            refine va_get (D := D) (ci := 3) (v := .ref b6) (C := cnM) (T := ftM) (N := 10) hx hb hts inM hown hK hP 0 rfl rfl 8 (by decide) (hts _ mw297) (fun _ h9 => h9) rfl dM_close_55 ?_
            refine lv_iload_n hx hb dM_close_58 rfl (lv_at hl 0 rfl) ?_
            refine va_iald hx hb hK hP 6 0 rfl rfl (vp_in_nI (by omega) (by decide)) dM_close_59 ?_
            refine kTop (y := (y.2.2.2.2.2.2.2.2.1 i)) (by rw [nI_clamp (by omega)]) ?_
            refine lv_iload_n hx hb dM_close_60 rfl (lv_at hl 2 rfl) ?_
            refine lv_icmp_eq (tgt := 68) hx hb dM_close_61 (by decide) (fun h3 => ?_) (fun h3 => ?_)
            ·
              refine lv_iconst (v := 0) hx hb dM_close_68 (by decide) ?_
              exact J69 _ _ hP hD hS _ (((if_neg h1).trans ((if_pos h2).trans (if_pos h3))).symm)
            ·
              refine lv_iconst (v := 1) hx hb dM_close_64 (by decide) ?_
              refine lv_goto hx hb dM_close_65 (tgt := 69) (by decide) ?_
              exact J69 _ _ hP hD hS _ (((if_neg h1).trans ((if_pos h2).trans (if_neg h3))).symm)
      refine va_zast hx hb hK hP hD hS 4 1 rfl rfl (vp_in_nI (by omega) (by decide)) dM_close_69 (fun H locs hP hD hS => ?_)
      rw [show Int32.toNatClampNeg (nI i) = i from nI_clamp (by omega)] at hP hD
      rw [show vp_nar .boolean (if (t i) = 0 then (0 : Int32) else (if (zm_has (y.2.2.2.2.2.2.2.2.2 i) 1) = 0 then (if (y.2.2.2.2.2.2.2.2.1 i) = g1 then (0 : Int32) else (1 : Int32)) else (1 : Int32))) = (if (t i) = 0 then (0 : Int32) else (if (zm_has (y.2.2.2.2.2.2.2.2.2 i) 1) = 0 then (if (y.2.2.2.2.2.2.2.2.1 i) = g1 then (0 : Int32) else (1 : Int32)) else (1 : Int32))) from knar01 (kz_ite kz0 (kz_ite (kz_ite kz0 kz1) kz1))] at hP hD
      have hP : va_P D vwCl [(bo, .inr (3, [.ref b1, .int y.2.1, .ref b2, .ref b3, .int (nI y.2.2.2.2.1), .int y.2.2.2.2.2.1, .ref b4, .ref b5, .ref b6, .ref b7])), (b1, .inl (cI, 3, .inl (upd y.1 (Int32.toNatClampNeg g1) 0))), (b2, .inl (cI, 3, .inl y.2.2.1)), (b3, .inl (cI, 3, .inl y.2.2.2.1)), (b4, .inl (cZ, 512, .inl (upd t i (if (t i) = 0 then (0 : Int32) else (if (zm_has (y.2.2.2.2.2.2.2.2.2 i) 1) = 0 then (if (y.2.2.2.2.2.2.2.2.1 i) = g1 then (0 : Int32) else (1 : Int32)) else (1 : Int32)))))), (b5, .inl (cI, 512, .inl y.2.2.2.2.2.2.2.1)), (b6, .inl (cI, 512, .inl y.2.2.2.2.2.2.2.2.1)), (b7, .inl (cI, 512, .inl y.2.2.2.2.2.2.2.2.2))] H := hP
      have hD : va_D A [(bo, .inr (3, [.ref b1, .int y.2.1, .ref b2, .ref b3, .int (nI y.2.2.2.2.1), .int y.2.2.2.2.2.1, .ref b4, .ref b5, .ref b6, .ref b7])), (b1, .inl (cI, 3, .inl (upd y.1 (Int32.toNatClampNeg g1) 0))), (b2, .inl (cI, 3, .inl y.2.2.1)), (b3, .inl (cI, 3, .inl y.2.2.2.1)), (b4, .inl (cZ, 512, .inl (upd t i (if (t i) = 0 then (0 : Int32) else (if (zm_has (y.2.2.2.2.2.2.2.2.2 i) 1) = 0 then (if (y.2.2.2.2.2.2.2.2.1 i) = g1 then (0 : Int32) else (1 : Int32)) else (1 : Int32)))))), (b5, .inl (cI, 512, .inl y.2.2.2.2.2.2.2.1)), (b6, .inl (cI, 512, .inl y.2.2.2.2.2.2.2.2.1)), (b7, .inl (cI, 512, .inl y.2.2.2.2.2.2.2.2.2))] := hD
      refine lv_iinc (k := 0) (v := (nI (i + 1))) hx hb dM_close_70 hl rfl (kincN1 _) (by decide) rfl (fun ls hl => ?_)
      have hl : lv_has ls 3 [(2, .int (nI (i + 1))), (0, .ref bo), (1, .int g1)] := hl
      refine lv_goto hx hb dM_close_73 (tgt := 19) (by decide) ?_
      exact ih (i + 1) (upd t i (if (t i) = 0 then (0 : Int32) else (if (zm_has (y.2.2.2.2.2.2.2.2.2 i) 1) = 0 then (if (y.2.2.2.2.2.2.2.2.1 i) = g1 then (0 : Int32) else (1 : Int32)) else (1 : Int32)))) _ _ _ (by omega) (by rw [he, zm_clz]) (hc) (lv_sub hl [0, 1, 2] rfl) hP hD hS
  refine lv_aload_n hx hb dM_close_0 rfl (lv_at hl 0 rfl) ?_
  refine lv_iload_n hx hb dM_close_1 rfl (lv_at hl 1 rfl) ?_
  refine kcI (isR := []) (isC := [0, 1, 2, 3, 4, 5, 6, 7]) (wr := []) (w2 := [(bo, .inr (3, [.ref b1, .int y.2.1, .ref b2, .ref b3, .int (nI y.2.2.2.2.1), .int y.2.2.2.2.2.1, .ref b4, .ref b5, .ref b6, .ref b7])), (b1, .inl (cI, 3, .inl y.1)), (b2, .inl (cI, 3, .inl y.2.2.1)), (b3, .inl (cI, 3, .inl y.2.2.2.1)), (b4, .inl (cZ, 512, .inl y.2.2.2.2.2.2.1)), (b5, .inl (cI, 512, .inl y.2.2.2.2.2.2.2.1)), (b6, .inl (cI, 512, .inl y.2.2.2.2.2.2.2.2.1)), (b7, .inl (cI, 512, .inl y.2.2.2.2.2.2.2.2.2))]) (va_runV (As := [.int g1]) (rest := []) ⟨hx, hb, hml, hown, hts⟩ (km_closed l D cI cZ bo b1 b2 b3 b4 b5 b6 b7 y g1 _) ⟨(callB_of 1 hts gd_yM_closed rfl rfl rfl (hts _ mw27) (hts _ mw329) (by decide +kernel) ⟨Nat.le_of_ble_eq_true rfl, Nat.le_of_ble_eq_true rfl⟩), hts _ mw331, hts _ mw15⟩ (kpreV hNw hP hD hK [0, 1, 2, 3, 4, 5, 6, 7] rfl (by decide) 0 rfl (ci := 3) rfl) rfl rfl hl.1 rfl (lv_room (Nat.le_of_ble_eq_true rfl)) dM_close_2 ⟨Nat.le_of_ble_eq_true rfl, Nat.le_of_ble_eq_true rfl⟩) hP hD hS hA [0, 1, 2, 3, 4, 5, 6, 7] rfl rfl (by decide) (by decide) (by decide) rfl (fun H locs hP hD hS => ?_)
  refine lv_if_eq (tgt := 10) hx hb dM_close_5 (by decide) (fun h1 => ?_) (fun h1 => ?_)
  ·
    refine lv_aload_n hx hb dM_close_10 rfl (lv_at hl 0 rfl) ?_
    refine va_get (D := D) (ci := 3) (v := .ref b1) (C := cnM) (T := ftM) (N := 10) hx hb hts inM hown hK hP 0 rfl rfl 0 (by decide) (hts _ mw289) (fun _ h9 => h9) rfl dM_close_11 ?_
    refine lv_iload_n hx hb dM_close_14 rfl (lv_at hl 1 rfl) ?_
    refine lv_iconst (v := 0) hx hb dM_close_15 (by decide) ?_
    refine va_iast hx hb hK hP hD hS 1 0 rfl rfl (zm_closed_in h1) dM_close_16 (fun H locs hP hD hS => ?_)
    have hP : va_P D vwCl [(bo, .inr (3, [.ref b1, .int y.2.1, .ref b2, .ref b3, .int (nI y.2.2.2.2.1), .int y.2.2.2.2.2.1, .ref b4, .ref b5, .ref b6, .ref b7])), (b1, .inl (cI, 3, .inl (upd y.1 (Int32.toNatClampNeg g1) 0))), (b2, .inl (cI, 3, .inl y.2.2.1)), (b3, .inl (cI, 3, .inl y.2.2.2.1)), (b4, .inl (cZ, 512, .inl y.2.2.2.2.2.2.1)), (b5, .inl (cI, 512, .inl y.2.2.2.2.2.2.2.1)), (b6, .inl (cI, 512, .inl y.2.2.2.2.2.2.2.2.1)), (b7, .inl (cI, 512, .inl y.2.2.2.2.2.2.2.2.2))] H := hP
    have hD : va_D A [(bo, .inr (3, [.ref b1, .int y.2.1, .ref b2, .ref b3, .int (nI y.2.2.2.2.1), .int y.2.2.2.2.2.1, .ref b4, .ref b5, .ref b6, .ref b7])), (b1, .inl (cI, 3, .inl (upd y.1 (Int32.toNatClampNeg g1) 0))), (b2, .inl (cI, 3, .inl y.2.2.1)), (b3, .inl (cI, 3, .inl y.2.2.2.1)), (b4, .inl (cZ, 512, .inl y.2.2.2.2.2.2.1)), (b5, .inl (cI, 512, .inl y.2.2.2.2.2.2.2.1)), (b6, .inl (cI, 512, .inl y.2.2.2.2.2.2.2.2.1)), (b7, .inl (cI, 512, .inl y.2.2.2.2.2.2.2.2.2))] := hD
    refine lv_iconst (v := 0) hx hb dM_close_17 (by decide) ?_
    refine lv_istore_n hx hb dM_close_18 rfl hl (by decide) rfl (fun ls hl => ?_)
    have hl : lv_has ls 3 [(2, .int 0), (0, .ref bo), (1, .int g1)] := hl
    exact L y.2.2.2.2.1 0 _ _ _ _ (by omega) rfl h1 (lv_sub hl [0, 1, 2] rfl) hP hD hS
  ·
    refine lv_iconst (v := (-1)) hx hb dM_close_8 (by decide) ?_
    exact kretI (wf := fun st => wY cI cZ bo b1 b2 b3 b4 b5 b6 b7 st) (st := y) (by first | (rw [zm_close, if_neg h1]; done) | exact (if_neg h1)) hx hb hr hlk hS hP hD hK dM_close_9

def zm_login (y : YS) (g1 : Int32) (g2 : Int32) (g3 : Int32) : Int32 × YS := (if (zm_closed y g1) = 0 then (if y.2.1 ≤ 0 then (if g2 = 0 then (if (y.2.2.2.1 (Int32.toNatClampNeg (if g2 = 0 then (1 : Int32) else (2 : Int32)))) < 3 then (if (y.2.2.1 (Int32.toNatClampNeg (if g2 = 0 then (1 : Int32) else (2 : Int32)))) = g3 then (0, (y.1, (if g2 = 0 then (1 : Int32) else (2 : Int32)), y.2.2.1, (upd y.2.2.2.1 (Int32.toNatClampNeg (if g2 = 0 then (1 : Int32) else (2 : Int32))) 0), y.2.2.2.2.1, y.2.2.2.2.2.1, y.2.2.2.2.2.2.1, y.2.2.2.2.2.2.2.1, y.2.2.2.2.2.2.2.2.1, y.2.2.2.2.2.2.2.2.2)) else ((-9), (y.1, y.2.1, y.2.2.1, (upd y.2.2.2.1 (Int32.toNatClampNeg (if g2 = 0 then (1 : Int32) else (2 : Int32))) ((y.2.2.2.1 (Int32.toNatClampNeg (if g2 = 0 then (1 : Int32) else (2 : Int32)))) + 1)), y.2.2.2.2.1, y.2.2.2.2.2.1, y.2.2.2.2.2.2.1, y.2.2.2.2.2.2.2.1, y.2.2.2.2.2.2.2.2.1, y.2.2.2.2.2.2.2.2.2))) else ((-8), y)) else (if (y.1 0) = 1 then ((-4), y) else (if (y.1 1) = 1 then ((-4), y) else (if (y.1 2) = 1 then ((-4), y) else (if (y.2.2.2.1 (Int32.toNatClampNeg (if g2 = 0 then (1 : Int32) else (2 : Int32)))) < 3 then (if (y.2.2.1 (Int32.toNatClampNeg (if g2 = 0 then (1 : Int32) else (2 : Int32)))) = g3 then (0, (y.1, (if g2 = 0 then (1 : Int32) else (2 : Int32)), y.2.2.1, (upd y.2.2.2.1 (Int32.toNatClampNeg (if g2 = 0 then (1 : Int32) else (2 : Int32))) 0), y.2.2.2.2.1, y.2.2.2.2.2.1, y.2.2.2.2.2.2.1, y.2.2.2.2.2.2.2.1, y.2.2.2.2.2.2.2.2.1, y.2.2.2.2.2.2.2.2.2)) else ((-9), (y.1, y.2.1, y.2.2.1, (upd y.2.2.2.1 (Int32.toNatClampNeg (if g2 = 0 then (1 : Int32) else (2 : Int32))) ((y.2.2.2.1 (Int32.toNatClampNeg (if g2 = 0 then (1 : Int32) else (2 : Int32)))) + 1)), y.2.2.2.2.1, y.2.2.2.2.2.1, y.2.2.2.2.2.2.1, y.2.2.2.2.2.2.2.1, y.2.2.2.2.2.2.2.2.1, y.2.2.2.2.2.2.2.2.2))) else ((-8), y)))))) else ((-3), y)) else ((-1), y))

set_option maxHeartbeats 4000000 in
set_option maxRecDepth 100000 in
theorem km_login (l : Launch) (D : va_G) (cI cZ : ClassId) (bo b1 b2 b3 b4 b5 b6 b7 : Nat) (y : YS) (g1 : Int32) (g2 : Int32) (g3 : Int32) : kI l yM_login wsM_login (rmOf 1 21) D (kT cI cZ) [.ref bo, .int g1, .int g2, .int g3] (wY cI cZ bo b1 b2 b3 b4 b5 b6 b7 y) (zm_login y g1 g2 g3).1 (wY cI cZ bo b1 b2 b3 b4 b5 b6 b7 ((zm_login y g1 g2 g3).2)) := by
  intro sz
  refine kOf (Qc := fun A => kQi D (kT cI cZ) A (zm_login y g1 g2 g3).1 (wY cI cZ bo b1 b2 b3 b4 b5 b6 b7 ((zm_login y g1 g2 g3).2))) (cc := cM_login) (maxL := 5) (ret := some .int) (by decide) rfl (Nat.le_of_ble_eq_true rfl) ?_ sz
  intro p e s m args below meth c A ls hx hb hml hown hts hNw hr hlk hin hA hS hP hD hK hl
  show W p l e (rmOf 1 21) s m args below meth c s.heap [] 0 0 (MQ below (kQi D (kT cI cZ) A (zm_login y g1 g2 g3).1 (wY cI cZ bo b1 b2 b3 b4 b5 b6 b7 ((zm_login y g1 g2 g3).2))) args s 0 0 A) (F0 m 0 ls [])
  have hts : ∀ q ∈ lw_g, q.before args s = true := fun q h => hts q (List.mem_cons_of_mem _ h)
  have hown : s.vm.findClass cnM = some m.cls := hown
  have hl : lv_has ls 5 [(0, .ref bo), (1, .int g1), (2, .int g2), (3, .int g3)] := hl
  have hP : va_P D vwCl [(bo, .inr (3, [.ref b1, .int y.2.1, .ref b2, .ref b3, .int (nI y.2.2.2.2.1), .int y.2.2.2.2.2.1, .ref b4, .ref b5, .ref b6, .ref b7])), (b1, .inl (cI, 3, .inl y.1)), (b2, .inl (cI, 3, .inl y.2.2.1)), (b3, .inl (cI, 3, .inl y.2.2.2.1)), (b4, .inl (cZ, 512, .inl y.2.2.2.2.2.2.1)), (b5, .inl (cI, 512, .inl y.2.2.2.2.2.2.2.1)), (b6, .inl (cI, 512, .inl y.2.2.2.2.2.2.2.2.1)), (b7, .inl (cI, 512, .inl y.2.2.2.2.2.2.2.2.2))] s.heap := hP
  have hD : va_D A [(bo, .inr (3, [.ref b1, .int y.2.1, .ref b2, .ref b3, .int (nI y.2.2.2.2.1), .int y.2.2.2.2.2.1, .ref b4, .ref b5, .ref b6, .ref b7])), (b1, .inl (cI, 3, .inl y.1)), (b2, .inl (cI, 3, .inl y.2.2.1)), (b3, .inl (cI, 3, .inl y.2.2.2.1)), (b4, .inl (cZ, 512, .inl y.2.2.2.2.2.2.1)), (b5, .inl (cI, 512, .inl y.2.2.2.2.2.2.2.1)), (b6, .inl (cI, 512, .inl y.2.2.2.2.2.2.2.2.1)), (b7, .inl (cI, 512, .inl y.2.2.2.2.2.2.2.2.2))] := hD
  refine lv_iload_n hx hb dM_login_0 rfl (lv_at hl 2 rfl) ?_
  refine kJoin (pcJ := 9) (z := (if g2 = 0 then (1 : Int32) else (2 : Int32))) (ws := [(bo, .inr (3, [.ref b1, .int y.2.1, .ref b2, .ref b3, .int (nI y.2.2.2.2.1), .int y.2.2.2.2.2.1, .ref b4, .ref b5, .ref b6, .ref b7])), (b1, .inl (cI, 3, .inl y.1)), (b2, .inl (cI, 3, .inl y.2.2.1)), (b3, .inl (cI, 3, .inl y.2.2.2.1)), (b4, .inl (cZ, 512, .inl y.2.2.2.2.2.2.1)), (b5, .inl (cI, 512, .inl y.2.2.2.2.2.2.2.1)), (b6, .inl (cI, 512, .inl y.2.2.2.2.2.2.2.2.1)), (b7, .inl (cI, 512, .inl y.2.2.2.2.2.2.2.2.2))]) (rest := []) (D := D) (A := A) (H0 := s.heap) (fun J9 => ?_) (fun H locs hP hD hS => ?_)
  ·
    refine lv_if_eq (tgt := 8) hx hb dM_login_1 (by decide) (fun h1 => ?_) (fun h1 => ?_)
    ·
      refine lv_iconst (v := 1) hx hb dM_login_8 (by decide) ?_
      exact J9 _ _ hP hD hS _ ((if_pos h1).symm)
    ·
      refine lv_iconst (v := 2) hx hb dM_login_4 (by decide) ?_
      refine lv_goto hx hb dM_login_5 (tgt := 9) (by decide) ?_
      exact J9 _ _ hP hD hS _ ((if_neg h1).symm)
  refine lv_istore hx hb dM_login_9 hl (by decide) rfl (fun ls hl => ?_)
  have hl : lv_has ls 5 [(4, .int (if g2 = 0 then (1 : Int32) else (2 : Int32))), (0, .ref bo), (1, .int g1), (2, .int g2), (3, .int g3)] := hl
  refine lv_aload_n hx hb dM_login_11 rfl (lv_at hl 1 rfl) ?_
  refine lv_iload_n hx hb dM_login_12 rfl (lv_at hl 2 rfl) ?_
  refine kcI (isR := []) (isC := [0, 1, 2, 3, 4, 5, 6, 7]) (wr := []) (w2 := [(bo, .inr (3, [.ref b1, .int y.2.1, .ref b2, .ref b3, .int (nI y.2.2.2.2.1), .int y.2.2.2.2.2.1, .ref b4, .ref b5, .ref b6, .ref b7])), (b1, .inl (cI, 3, .inl y.1)), (b2, .inl (cI, 3, .inl y.2.2.1)), (b3, .inl (cI, 3, .inl y.2.2.2.1)), (b4, .inl (cZ, 512, .inl y.2.2.2.2.2.2.1)), (b5, .inl (cI, 512, .inl y.2.2.2.2.2.2.2.1)), (b6, .inl (cI, 512, .inl y.2.2.2.2.2.2.2.2.1)), (b7, .inl (cI, 512, .inl y.2.2.2.2.2.2.2.2.2))]) (va_runV (As := [.int g1]) (rest := []) ⟨hx, hb, hml, hown, hts⟩ (km_closed l D cI cZ bo b1 b2 b3 b4 b5 b6 b7 y g1 _) ⟨(callB_of 1 hts gd_yM_closed rfl rfl rfl (hts _ mw27) (hts _ mw329) (by decide +kernel) ⟨Nat.le_of_ble_eq_true rfl, Nat.le_of_ble_eq_true rfl⟩), hts _ mw331, hts _ mw15⟩ (kpreV hNw hP hD hK [0, 1, 2, 3, 4, 5, 6, 7] rfl (by decide) 0 rfl (ci := 3) rfl) rfl rfl hl.1 rfl (lv_room (Nat.le_of_ble_eq_true rfl)) dM_login_13 ⟨Nat.le_of_ble_eq_true rfl, Nat.le_of_ble_eq_true rfl⟩) hP hD hS hA [0, 1, 2, 3, 4, 5, 6, 7] rfl rfl (by decide) (by decide) (by decide) rfl (fun H locs hP hD hS => ?_)
  refine lv_if_eq (tgt := 21) hx hb dM_login_16 (by decide) (fun h2 => ?_) (fun h2 => ?_)
  ·
    refine lv_aload_n hx hb dM_login_21 rfl (lv_at hl 1 rfl) ?_
    refine va_get (D := D) (ci := 3) (v := .int y.2.1) (C := cnM) (T := ftM) (N := 10) hx hb hts inM hown hK hP 0 rfl rfl 1 (by decide) (hts _ mw290) (fun _ h9 => h9) rfl dM_login_22 ?_
    refine lv_if_le (tgt := 31) hx hb dM_login_25 (by decide) (fun h3 => ?_) (fun h3 => ?_)
    ·
      refine lv_iload_n hx hb dM_login_31 rfl (lv_at hl 3 rfl) ?_
      refine lv_if_eq (tgt := 68) hx hb dM_login_32 (by decide) (fun h4 => ?_) (fun h4 => ?_)
      ·
        refine lv_aload_n hx hb dM_login_68 rfl (lv_at hl 1 rfl) ?_
        refine va_get (D := D) (ci := 3) (v := .ref b3) (C := cnM) (T := ftM) (N := 10) hx hb hts inM hown hK hP 0 rfl rfl 3 (by decide) (hts _ mw292) (fun _ h9 => h9) rfl dM_login_69 ?_
        refine lv_iload hx hb dM_login_72 (lv_at hl 0 rfl) ?_
        refine va_iald hx hb hK hP 3 0 rfl rfl (kwho) dM_login_74 ?_
        refine lv_iconst (v := 3) hx hb dM_login_75 (by decide) ?_
        refine lv_icmp_lt (tgt := 82) hx hb dM_login_76 (by decide) (fun h5 => ?_) (fun h5 => ?_)
        ·
          refine lv_aload_n hx hb dM_login_82 rfl (lv_at hl 1 rfl) ?_
          refine va_get (D := D) (ci := 3) (v := .ref b2) (C := cnM) (T := ftM) (N := 10) hx hb hts inM hown hK hP 0 rfl rfl 2 (by decide) (hts _ mw291) (fun _ h9 => h9) rfl dM_login_83 ?_
          refine lv_iload hx hb dM_login_86 (lv_at hl 0 rfl) ?_
          refine va_iald hx hb hK hP 2 0 rfl rfl (kwho) dM_login_88 ?_
          refine lv_iload_n hx hb dM_login_89 rfl (lv_at hl 4 rfl) ?_
          refine lv_icmp_eq (tgt := 112) hx hb dM_login_90 (by decide) (fun h6 => ?_) (fun h6 => ?_)
          ·
            refine lv_aload_n hx hb dM_login_112 rfl (lv_at hl 1 rfl) ?_
            refine va_get (D := D) (ci := 3) (v := .ref b3) (C := cnM) (T := ftM) (N := 10) hx hb hts inM hown hK hP 0 rfl rfl 3 (by decide) (hts _ mw292) (fun _ h9 => h9) rfl dM_login_113 ?_
            refine lv_iload hx hb dM_login_116 (lv_at hl 0 rfl) ?_
            refine lv_iconst (v := 0) hx hb dM_login_118 (by decide) ?_
            refine va_iast hx hb hK hP hD hS 3 0 rfl rfl (kwho) dM_login_119 (fun H locs hP hD hS => ?_)
            have hP : va_P D vwCl [(bo, .inr (3, [.ref b1, .int y.2.1, .ref b2, .ref b3, .int (nI y.2.2.2.2.1), .int y.2.2.2.2.2.1, .ref b4, .ref b5, .ref b6, .ref b7])), (b1, .inl (cI, 3, .inl y.1)), (b2, .inl (cI, 3, .inl y.2.2.1)), (b3, .inl (cI, 3, .inl (upd y.2.2.2.1 (Int32.toNatClampNeg (if g2 = 0 then (1 : Int32) else (2 : Int32))) 0))), (b4, .inl (cZ, 512, .inl y.2.2.2.2.2.2.1)), (b5, .inl (cI, 512, .inl y.2.2.2.2.2.2.2.1)), (b6, .inl (cI, 512, .inl y.2.2.2.2.2.2.2.2.1)), (b7, .inl (cI, 512, .inl y.2.2.2.2.2.2.2.2.2))] H := hP
            have hD : va_D A [(bo, .inr (3, [.ref b1, .int y.2.1, .ref b2, .ref b3, .int (nI y.2.2.2.2.1), .int y.2.2.2.2.2.1, .ref b4, .ref b5, .ref b6, .ref b7])), (b1, .inl (cI, 3, .inl y.1)), (b2, .inl (cI, 3, .inl y.2.2.1)), (b3, .inl (cI, 3, .inl (upd y.2.2.2.1 (Int32.toNatClampNeg (if g2 = 0 then (1 : Int32) else (2 : Int32))) 0))), (b4, .inl (cZ, 512, .inl y.2.2.2.2.2.2.1)), (b5, .inl (cI, 512, .inl y.2.2.2.2.2.2.2.1)), (b6, .inl (cI, 512, .inl y.2.2.2.2.2.2.2.2.1)), (b7, .inl (cI, 512, .inl y.2.2.2.2.2.2.2.2.2))] := hD
            refine lv_aload_n hx hb dM_login_120 rfl (lv_at hl 1 rfl) ?_
            refine lv_iload hx hb dM_login_121 (lv_at hl 0 rfl) ?_
            refine va_put (D := D) (ci := 3) (v := .int (if g2 = 0 then (1 : Int32) else (2 : Int32))) (ty := (.int)) (C := cnM) (T := ftM) (N := 10) hx hb hts inM tyM tyM_ok nmM hown hK hP hD hS 0 rfl rfl 1 (by decide) (hts _ mw290) (fun _ h9 => h9) rfl (by decide +kernel) rfl rfl (Nat.le_of_ble_eq_true rfl) dM_login_123 (fun H locs hP hD hS => ?_)
            have hP : va_P D vwCl [(bo, .inr (3, [.ref b1, .int (if g2 = 0 then (1 : Int32) else (2 : Int32)), .ref b2, .ref b3, .int (nI y.2.2.2.2.1), .int y.2.2.2.2.2.1, .ref b4, .ref b5, .ref b6, .ref b7])), (b1, .inl (cI, 3, .inl y.1)), (b2, .inl (cI, 3, .inl y.2.2.1)), (b3, .inl (cI, 3, .inl (upd y.2.2.2.1 (Int32.toNatClampNeg (if g2 = 0 then (1 : Int32) else (2 : Int32))) 0))), (b4, .inl (cZ, 512, .inl y.2.2.2.2.2.2.1)), (b5, .inl (cI, 512, .inl y.2.2.2.2.2.2.2.1)), (b6, .inl (cI, 512, .inl y.2.2.2.2.2.2.2.2.1)), (b7, .inl (cI, 512, .inl y.2.2.2.2.2.2.2.2.2))] H := hP
            have hD : va_D A [(bo, .inr (3, [.ref b1, .int (if g2 = 0 then (1 : Int32) else (2 : Int32)), .ref b2, .ref b3, .int (nI y.2.2.2.2.1), .int y.2.2.2.2.2.1, .ref b4, .ref b5, .ref b6, .ref b7])), (b1, .inl (cI, 3, .inl y.1)), (b2, .inl (cI, 3, .inl y.2.2.1)), (b3, .inl (cI, 3, .inl (upd y.2.2.2.1 (Int32.toNatClampNeg (if g2 = 0 then (1 : Int32) else (2 : Int32))) 0))), (b4, .inl (cZ, 512, .inl y.2.2.2.2.2.2.1)), (b5, .inl (cI, 512, .inl y.2.2.2.2.2.2.2.1)), (b6, .inl (cI, 512, .inl y.2.2.2.2.2.2.2.2.1)), (b7, .inl (cI, 512, .inl y.2.2.2.2.2.2.2.2.2))] := hD
            refine lv_iconst (v := 0) hx hb dM_login_126 (by decide) ?_
            exact kretI (wf := fun st => wY cI cZ bo b1 b2 b3 b4 b5 b6 b7 st) (st := (y.1, (if g2 = 0 then (1 : Int32) else (2 : Int32)), y.2.2.1, (upd y.2.2.2.1 (Int32.toNatClampNeg (if g2 = 0 then (1 : Int32) else (2 : Int32))) 0), y.2.2.2.2.1, y.2.2.2.2.2.1, y.2.2.2.2.2.2.1, y.2.2.2.2.2.2.2.1, y.2.2.2.2.2.2.2.2.1, y.2.2.2.2.2.2.2.2.2)) (by first | (rw [zm_login, if_pos h2, if_pos h3, if_pos h4, if_pos h5, if_pos h6]; done) | exact ((if_pos h2).trans ((if_pos h3).trans ((if_pos h4).trans ((if_pos h5).trans (if_pos h6)))))) hx hb hr hlk hS hP hD hK dM_login_127
          ·
            refine lv_aload_n hx hb dM_login_93 rfl (lv_at hl 1 rfl) ?_
            refine va_get (D := D) (ci := 3) (v := .ref b3) (C := cnM) (T := ftM) (N := 10) hx hb hts inM hown hK hP 0 rfl rfl 3 (by decide) (hts _ mw292) (fun _ h9 => h9) rfl dM_login_94 ?_
            refine lv_iload hx hb dM_login_97 (lv_at hl 0 rfl) ?_
            refine lv_aload_n hx hb dM_login_99 rfl (lv_at hl 1 rfl) ?_
            refine va_get (D := D) (ci := 3) (v := .ref b3) (C := cnM) (T := ftM) (N := 10) hx hb hts inM hown hK hP 0 rfl rfl 3 (by decide) (hts _ mw292) (fun _ h9 => h9) rfl dM_login_100 ?_
            refine lv_iload hx hb dM_login_103 (lv_at hl 0 rfl) ?_
            refine va_iald hx hb hK hP 3 0 rfl rfl (kwho) dM_login_105 ?_
            refine lv_iconst (v := 1) hx hb dM_login_106 (by decide) ?_
            refine lv_iadd hx hb dM_login_107 ?_
            refine va_iast hx hb hK hP hD hS 3 0 rfl rfl (kwho) dM_login_108 (fun H locs hP hD hS => ?_)
            have hP : va_P D vwCl [(bo, .inr (3, [.ref b1, .int y.2.1, .ref b2, .ref b3, .int (nI y.2.2.2.2.1), .int y.2.2.2.2.2.1, .ref b4, .ref b5, .ref b6, .ref b7])), (b1, .inl (cI, 3, .inl y.1)), (b2, .inl (cI, 3, .inl y.2.2.1)), (b3, .inl (cI, 3, .inl (upd y.2.2.2.1 (Int32.toNatClampNeg (if g2 = 0 then (1 : Int32) else (2 : Int32))) ((y.2.2.2.1 (Int32.toNatClampNeg (if g2 = 0 then (1 : Int32) else (2 : Int32)))) + 1)))), (b4, .inl (cZ, 512, .inl y.2.2.2.2.2.2.1)), (b5, .inl (cI, 512, .inl y.2.2.2.2.2.2.2.1)), (b6, .inl (cI, 512, .inl y.2.2.2.2.2.2.2.2.1)), (b7, .inl (cI, 512, .inl y.2.2.2.2.2.2.2.2.2))] H := hP
            have hD : va_D A [(bo, .inr (3, [.ref b1, .int y.2.1, .ref b2, .ref b3, .int (nI y.2.2.2.2.1), .int y.2.2.2.2.2.1, .ref b4, .ref b5, .ref b6, .ref b7])), (b1, .inl (cI, 3, .inl y.1)), (b2, .inl (cI, 3, .inl y.2.2.1)), (b3, .inl (cI, 3, .inl (upd y.2.2.2.1 (Int32.toNatClampNeg (if g2 = 0 then (1 : Int32) else (2 : Int32))) ((y.2.2.2.1 (Int32.toNatClampNeg (if g2 = 0 then (1 : Int32) else (2 : Int32)))) + 1)))), (b4, .inl (cZ, 512, .inl y.2.2.2.2.2.2.1)), (b5, .inl (cI, 512, .inl y.2.2.2.2.2.2.2.1)), (b6, .inl (cI, 512, .inl y.2.2.2.2.2.2.2.2.1)), (b7, .inl (cI, 512, .inl y.2.2.2.2.2.2.2.2.2))] := hD
            refine lv_bipush (v := (-9)) hx hb dM_login_109 (by decide) ?_
            exact kretI (wf := fun st => wY cI cZ bo b1 b2 b3 b4 b5 b6 b7 st) (st := (y.1, y.2.1, y.2.2.1, (upd y.2.2.2.1 (Int32.toNatClampNeg (if g2 = 0 then (1 : Int32) else (2 : Int32))) ((y.2.2.2.1 (Int32.toNatClampNeg (if g2 = 0 then (1 : Int32) else (2 : Int32)))) + 1)), y.2.2.2.2.1, y.2.2.2.2.2.1, y.2.2.2.2.2.2.1, y.2.2.2.2.2.2.2.1, y.2.2.2.2.2.2.2.2.1, y.2.2.2.2.2.2.2.2.2)) (by first | (rw [zm_login, if_pos h2, if_pos h3, if_pos h4, if_pos h5, if_neg h6]; done) | exact ((if_pos h2).trans ((if_pos h3).trans ((if_pos h4).trans ((if_pos h5).trans (if_neg h6)))))) hx hb hr hlk hS hP hD hK dM_login_111
        ·
          refine lv_bipush (v := (-8)) hx hb dM_login_79 (by decide) ?_
          exact kretI (wf := fun st => wY cI cZ bo b1 b2 b3 b4 b5 b6 b7 st) (st := y) (by first | (rw [zm_login, if_pos h2, if_pos h3, if_pos h4, if_neg h5]; done) | exact ((if_pos h2).trans ((if_pos h3).trans ((if_pos h4).trans (if_neg h5))))) hx hb hr hlk hS hP hD hK dM_login_81
      ·
        refine lv_aload_n hx hb dM_login_35 rfl (lv_at hl 1 rfl) ?_
        refine va_get (D := D) (ci := 3) (v := .ref b1) (C := cnM) (T := ftM) (N := 10) hx hb hts inM hown hK hP 0 rfl rfl 0 (by decide) (hts _ mw289) (fun _ h9 => h9) rfl dM_login_36 ?_
        refine lv_iconst (v := 0) hx hb dM_login_39 (by decide) ?_
        refine va_iald hx hb hK hP 1 0 rfl rfl ((show ¬ ((0 : Int32) < 0 ∨ 3 ≤ Int32.toNatClampNeg 0) by decide)) dM_login_40 ?_
        refine kTop (y := (y.1 0)) (by rw [show Int32.toNatClampNeg 0 = 0 by decide]) ?_
        refine lv_iconst (v := 1) hx hb dM_login_41 (by decide) ?_
        refine lv_icmp_eq (tgt := 65) hx hb dM_login_42 (by decide) (fun h7 => ?_) (fun h7 => ?_)
        ·
          refine lv_bipush (v := (-4)) hx hb dM_login_65 (by decide) ?_
          exact kretI (wf := fun st => wY cI cZ bo b1 b2 b3 b4 b5 b6 b7 st) (st := y) (by first | (rw [zm_login, if_pos h2, if_pos h3, if_neg h4, if_pos h7]; done) | exact ((if_pos h2).trans ((if_pos h3).trans ((if_neg h4).trans (if_pos h7))))) hx hb hr hlk hS hP hD hK dM_login_67
        ·
          refine lv_aload_n hx hb dM_login_45 rfl (lv_at hl 1 rfl) ?_
          refine va_get (D := D) (ci := 3) (v := .ref b1) (C := cnM) (T := ftM) (N := 10) hx hb hts inM hown hK hP 0 rfl rfl 0 (by decide) (hts _ mw289) (fun _ h9 => h9) rfl dM_login_46 ?_
          refine lv_iconst (v := 1) hx hb dM_login_49 (by decide) ?_
          refine va_iald hx hb hK hP 1 0 rfl rfl ((show ¬ ((1 : Int32) < 0 ∨ 3 ≤ Int32.toNatClampNeg 1) by decide)) dM_login_50 ?_
          refine kTop (y := (y.1 1)) (by rw [show Int32.toNatClampNeg 1 = 1 by decide]) ?_
          refine lv_iconst (v := 1) hx hb dM_login_51 (by decide) ?_
          refine lv_icmp_eq (tgt := 65) hx hb dM_login_52 (by decide) (fun h8 => ?_) (fun h8 => ?_)
          ·
            refine lv_bipush (v := (-4)) hx hb dM_login_65 (by decide) ?_
            exact kretI (wf := fun st => wY cI cZ bo b1 b2 b3 b4 b5 b6 b7 st) (st := y) (by first | (rw [zm_login, if_pos h2, if_pos h3, if_neg h4, if_neg h7, if_pos h8]; done) | exact ((if_pos h2).trans ((if_pos h3).trans ((if_neg h4).trans ((if_neg h7).trans (if_pos h8)))))) hx hb hr hlk hS hP hD hK dM_login_67
          ·
            refine lv_aload_n hx hb dM_login_55 rfl (lv_at hl 1 rfl) ?_
            refine va_get (D := D) (ci := 3) (v := .ref b1) (C := cnM) (T := ftM) (N := 10) hx hb hts inM hown hK hP 0 rfl rfl 0 (by decide) (hts _ mw289) (fun _ h9 => h9) rfl dM_login_56 ?_
            refine lv_iconst (v := 2) hx hb dM_login_59 (by decide) ?_
            refine va_iald hx hb hK hP 1 0 rfl rfl ((show ¬ ((2 : Int32) < 0 ∨ 3 ≤ Int32.toNatClampNeg 2) by decide)) dM_login_60 ?_
            refine kTop (y := (y.1 2)) (by rw [show Int32.toNatClampNeg 2 = 2 by decide]) ?_
            refine lv_iconst (v := 1) hx hb dM_login_61 (by decide) ?_
            refine lv_icmp_ne (tgt := 68) hx hb dM_login_62 (by decide) (fun h9 => ?_) (fun h9 => ?_)
            ·
              refine lv_aload_n hx hb dM_login_68 rfl (lv_at hl 1 rfl) ?_
              refine va_get (D := D) (ci := 3) (v := .ref b3) (C := cnM) (T := ftM) (N := 10) hx hb hts inM hown hK hP 0 rfl rfl 3 (by decide) (hts _ mw292) (fun _ h9 => h9) rfl dM_login_69 ?_
              refine lv_iload hx hb dM_login_72 (lv_at hl 0 rfl) ?_
              refine va_iald hx hb hK hP 3 0 rfl rfl (kwho) dM_login_74 ?_
              refine lv_iconst (v := 3) hx hb dM_login_75 (by decide) ?_
              refine lv_icmp_lt (tgt := 82) hx hb dM_login_76 (by decide) (fun h10 => ?_) (fun h10 => ?_)
              ·
                refine lv_aload_n hx hb dM_login_82 rfl (lv_at hl 1 rfl) ?_
                refine va_get (D := D) (ci := 3) (v := .ref b2) (C := cnM) (T := ftM) (N := 10) hx hb hts inM hown hK hP 0 rfl rfl 2 (by decide) (hts _ mw291) (fun _ h9 => h9) rfl dM_login_83 ?_
                refine lv_iload hx hb dM_login_86 (lv_at hl 0 rfl) ?_
                refine va_iald hx hb hK hP 2 0 rfl rfl (kwho) dM_login_88 ?_
                refine lv_iload_n hx hb dM_login_89 rfl (lv_at hl 4 rfl) ?_
                refine lv_icmp_eq (tgt := 112) hx hb dM_login_90 (by decide) (fun h11 => ?_) (fun h11 => ?_)
                ·
                  refine lv_aload_n hx hb dM_login_112 rfl (lv_at hl 1 rfl) ?_
                  refine va_get (D := D) (ci := 3) (v := .ref b3) (C := cnM) (T := ftM) (N := 10) hx hb hts inM hown hK hP 0 rfl rfl 3 (by decide) (hts _ mw292) (fun _ h9 => h9) rfl dM_login_113 ?_
                  refine lv_iload hx hb dM_login_116 (lv_at hl 0 rfl) ?_
                  refine lv_iconst (v := 0) hx hb dM_login_118 (by decide) ?_
                  refine va_iast hx hb hK hP hD hS 3 0 rfl rfl (kwho) dM_login_119 (fun H locs hP hD hS => ?_)
                  have hP : va_P D vwCl [(bo, .inr (3, [.ref b1, .int y.2.1, .ref b2, .ref b3, .int (nI y.2.2.2.2.1), .int y.2.2.2.2.2.1, .ref b4, .ref b5, .ref b6, .ref b7])), (b1, .inl (cI, 3, .inl y.1)), (b2, .inl (cI, 3, .inl y.2.2.1)), (b3, .inl (cI, 3, .inl (upd y.2.2.2.1 (Int32.toNatClampNeg (if g2 = 0 then (1 : Int32) else (2 : Int32))) 0))), (b4, .inl (cZ, 512, .inl y.2.2.2.2.2.2.1)), (b5, .inl (cI, 512, .inl y.2.2.2.2.2.2.2.1)), (b6, .inl (cI, 512, .inl y.2.2.2.2.2.2.2.2.1)), (b7, .inl (cI, 512, .inl y.2.2.2.2.2.2.2.2.2))] H := hP
                  have hD : va_D A [(bo, .inr (3, [.ref b1, .int y.2.1, .ref b2, .ref b3, .int (nI y.2.2.2.2.1), .int y.2.2.2.2.2.1, .ref b4, .ref b5, .ref b6, .ref b7])), (b1, .inl (cI, 3, .inl y.1)), (b2, .inl (cI, 3, .inl y.2.2.1)), (b3, .inl (cI, 3, .inl (upd y.2.2.2.1 (Int32.toNatClampNeg (if g2 = 0 then (1 : Int32) else (2 : Int32))) 0))), (b4, .inl (cZ, 512, .inl y.2.2.2.2.2.2.1)), (b5, .inl (cI, 512, .inl y.2.2.2.2.2.2.2.1)), (b6, .inl (cI, 512, .inl y.2.2.2.2.2.2.2.2.1)), (b7, .inl (cI, 512, .inl y.2.2.2.2.2.2.2.2.2))] := hD
                  refine lv_aload_n hx hb dM_login_120 rfl (lv_at hl 1 rfl) ?_
                  refine lv_iload hx hb dM_login_121 (lv_at hl 0 rfl) ?_
                  refine va_put (D := D) (ci := 3) (v := .int (if g2 = 0 then (1 : Int32) else (2 : Int32))) (ty := (.int)) (C := cnM) (T := ftM) (N := 10) hx hb hts inM tyM tyM_ok nmM hown hK hP hD hS 0 rfl rfl 1 (by decide) (hts _ mw290) (fun _ h9 => h9) rfl (by decide +kernel) rfl rfl (Nat.le_of_ble_eq_true rfl) dM_login_123 (fun H locs hP hD hS => ?_)
                  have hP : va_P D vwCl [(bo, .inr (3, [.ref b1, .int (if g2 = 0 then (1 : Int32) else (2 : Int32)), .ref b2, .ref b3, .int (nI y.2.2.2.2.1), .int y.2.2.2.2.2.1, .ref b4, .ref b5, .ref b6, .ref b7])), (b1, .inl (cI, 3, .inl y.1)), (b2, .inl (cI, 3, .inl y.2.2.1)), (b3, .inl (cI, 3, .inl (upd y.2.2.2.1 (Int32.toNatClampNeg (if g2 = 0 then (1 : Int32) else (2 : Int32))) 0))), (b4, .inl (cZ, 512, .inl y.2.2.2.2.2.2.1)), (b5, .inl (cI, 512, .inl y.2.2.2.2.2.2.2.1)), (b6, .inl (cI, 512, .inl y.2.2.2.2.2.2.2.2.1)), (b7, .inl (cI, 512, .inl y.2.2.2.2.2.2.2.2.2))] H := hP
                  have hD : va_D A [(bo, .inr (3, [.ref b1, .int (if g2 = 0 then (1 : Int32) else (2 : Int32)), .ref b2, .ref b3, .int (nI y.2.2.2.2.1), .int y.2.2.2.2.2.1, .ref b4, .ref b5, .ref b6, .ref b7])), (b1, .inl (cI, 3, .inl y.1)), (b2, .inl (cI, 3, .inl y.2.2.1)), (b3, .inl (cI, 3, .inl (upd y.2.2.2.1 (Int32.toNatClampNeg (if g2 = 0 then (1 : Int32) else (2 : Int32))) 0))), (b4, .inl (cZ, 512, .inl y.2.2.2.2.2.2.1)), (b5, .inl (cI, 512, .inl y.2.2.2.2.2.2.2.1)), (b6, .inl (cI, 512, .inl y.2.2.2.2.2.2.2.2.1)), (b7, .inl (cI, 512, .inl y.2.2.2.2.2.2.2.2.2))] := hD
                  refine lv_iconst (v := 0) hx hb dM_login_126 (by decide) ?_
                  exact kretI (wf := fun st => wY cI cZ bo b1 b2 b3 b4 b5 b6 b7 st) (st := (y.1, (if g2 = 0 then (1 : Int32) else (2 : Int32)), y.2.2.1, (upd y.2.2.2.1 (Int32.toNatClampNeg (if g2 = 0 then (1 : Int32) else (2 : Int32))) 0), y.2.2.2.2.1, y.2.2.2.2.2.1, y.2.2.2.2.2.2.1, y.2.2.2.2.2.2.2.1, y.2.2.2.2.2.2.2.2.1, y.2.2.2.2.2.2.2.2.2)) (by first | (rw [zm_login, if_pos h2, if_pos h3, if_neg h4, if_neg h7, if_neg h8, if_neg h9, if_pos h10, if_pos h11]; done) | exact ((if_pos h2).trans ((if_pos h3).trans ((if_neg h4).trans ((if_neg h7).trans ((if_neg h8).trans ((if_neg h9).trans ((if_pos h10).trans (if_pos h11))))))))) hx hb hr hlk hS hP hD hK dM_login_127
                ·
                  refine lv_aload_n hx hb dM_login_93 rfl (lv_at hl 1 rfl) ?_
                  refine va_get (D := D) (ci := 3) (v := .ref b3) (C := cnM) (T := ftM) (N := 10) hx hb hts inM hown hK hP 0 rfl rfl 3 (by decide) (hts _ mw292) (fun _ h9 => h9) rfl dM_login_94 ?_
                  refine lv_iload hx hb dM_login_97 (lv_at hl 0 rfl) ?_
                  refine lv_aload_n hx hb dM_login_99 rfl (lv_at hl 1 rfl) ?_
                  refine va_get (D := D) (ci := 3) (v := .ref b3) (C := cnM) (T := ftM) (N := 10) hx hb hts inM hown hK hP 0 rfl rfl 3 (by decide) (hts _ mw292) (fun _ h9 => h9) rfl dM_login_100 ?_
                  refine lv_iload hx hb dM_login_103 (lv_at hl 0 rfl) ?_
                  refine va_iald hx hb hK hP 3 0 rfl rfl (kwho) dM_login_105 ?_
                  refine lv_iconst (v := 1) hx hb dM_login_106 (by decide) ?_
                  refine lv_iadd hx hb dM_login_107 ?_
                  refine va_iast hx hb hK hP hD hS 3 0 rfl rfl (kwho) dM_login_108 (fun H locs hP hD hS => ?_)
                  have hP : va_P D vwCl [(bo, .inr (3, [.ref b1, .int y.2.1, .ref b2, .ref b3, .int (nI y.2.2.2.2.1), .int y.2.2.2.2.2.1, .ref b4, .ref b5, .ref b6, .ref b7])), (b1, .inl (cI, 3, .inl y.1)), (b2, .inl (cI, 3, .inl y.2.2.1)), (b3, .inl (cI, 3, .inl (upd y.2.2.2.1 (Int32.toNatClampNeg (if g2 = 0 then (1 : Int32) else (2 : Int32))) ((y.2.2.2.1 (Int32.toNatClampNeg (if g2 = 0 then (1 : Int32) else (2 : Int32)))) + 1)))), (b4, .inl (cZ, 512, .inl y.2.2.2.2.2.2.1)), (b5, .inl (cI, 512, .inl y.2.2.2.2.2.2.2.1)), (b6, .inl (cI, 512, .inl y.2.2.2.2.2.2.2.2.1)), (b7, .inl (cI, 512, .inl y.2.2.2.2.2.2.2.2.2))] H := hP
                  have hD : va_D A [(bo, .inr (3, [.ref b1, .int y.2.1, .ref b2, .ref b3, .int (nI y.2.2.2.2.1), .int y.2.2.2.2.2.1, .ref b4, .ref b5, .ref b6, .ref b7])), (b1, .inl (cI, 3, .inl y.1)), (b2, .inl (cI, 3, .inl y.2.2.1)), (b3, .inl (cI, 3, .inl (upd y.2.2.2.1 (Int32.toNatClampNeg (if g2 = 0 then (1 : Int32) else (2 : Int32))) ((y.2.2.2.1 (Int32.toNatClampNeg (if g2 = 0 then (1 : Int32) else (2 : Int32)))) + 1)))), (b4, .inl (cZ, 512, .inl y.2.2.2.2.2.2.1)), (b5, .inl (cI, 512, .inl y.2.2.2.2.2.2.2.1)), (b6, .inl (cI, 512, .inl y.2.2.2.2.2.2.2.2.1)), (b7, .inl (cI, 512, .inl y.2.2.2.2.2.2.2.2.2))] := hD
                  refine lv_bipush (v := (-9)) hx hb dM_login_109 (by decide) ?_
                  exact kretI (wf := fun st => wY cI cZ bo b1 b2 b3 b4 b5 b6 b7 st) (st := (y.1, y.2.1, y.2.2.1, (upd y.2.2.2.1 (Int32.toNatClampNeg (if g2 = 0 then (1 : Int32) else (2 : Int32))) ((y.2.2.2.1 (Int32.toNatClampNeg (if g2 = 0 then (1 : Int32) else (2 : Int32)))) + 1)), y.2.2.2.2.1, y.2.2.2.2.2.1, y.2.2.2.2.2.2.1, y.2.2.2.2.2.2.2.1, y.2.2.2.2.2.2.2.2.1, y.2.2.2.2.2.2.2.2.2)) (by first | (rw [zm_login, if_pos h2, if_pos h3, if_neg h4, if_neg h7, if_neg h8, if_neg h9, if_pos h10, if_neg h11]; done) | exact ((if_pos h2).trans ((if_pos h3).trans ((if_neg h4).trans ((if_neg h7).trans ((if_neg h8).trans ((if_neg h9).trans ((if_pos h10).trans (if_neg h11))))))))) hx hb hr hlk hS hP hD hK dM_login_111
              ·
                refine lv_bipush (v := (-8)) hx hb dM_login_79 (by decide) ?_
                exact kretI (wf := fun st => wY cI cZ bo b1 b2 b3 b4 b5 b6 b7 st) (st := y) (by first | (rw [zm_login, if_pos h2, if_pos h3, if_neg h4, if_neg h7, if_neg h8, if_neg h9, if_neg h10]; done) | exact ((if_pos h2).trans ((if_pos h3).trans ((if_neg h4).trans ((if_neg h7).trans ((if_neg h8).trans ((if_neg h9).trans (if_neg h10)))))))) hx hb hr hlk hS hP hD hK dM_login_81
            ·
              refine lv_bipush (v := (-4)) hx hb dM_login_65 (by decide) ?_
              exact kretI (wf := fun st => wY cI cZ bo b1 b2 b3 b4 b5 b6 b7 st) (st := y) (by first | (rw [zm_login, if_pos h2, if_pos h3, if_neg h4, if_neg h7, if_neg h8, if_pos h9]; done) | exact ((if_pos h2).trans ((if_pos h3).trans ((if_neg h4).trans ((if_neg h7).trans ((if_neg h8).trans (if_pos h9))))))) hx hb hr hlk hS hP hD hK dM_login_67
    ·
      refine lv_bipush (v := (-3)) hx hb dM_login_28 (by decide) ?_
      exact kretI (wf := fun st => wY cI cZ bo b1 b2 b3 b4 b5 b6 b7 st) (st := y) (by first | (rw [zm_login, if_pos h2, if_neg h3]; done) | exact ((if_pos h2).trans (if_neg h3))) hx hb hr hlk hS hP hD hK dM_login_30
  ·
    refine lv_iconst (v := (-1)) hx hb dM_login_19 (by decide) ?_
    exact kretI (wf := fun st => wY cI cZ bo b1 b2 b3 b4 b5 b6 b7 st) (st := y) (by first | (rw [zm_login, if_neg h2]; done) | exact (if_neg h2)) hx hb hr hlk hS hP hD hK dM_login_20

def zm_loz (mk : Nat → Int32) : Nat → Nat → (Nat → Int32) → (Nat → Int32)
  | 0, _, t => t
  | f + 1, i, t => zm_loz mk f (i + 1) (upd t i (if (t i) = 0 then 0 else (if (zm_has (mk i) 1) = 0 then (if (zm_has (mk i) 2) = 0 then 1 else 0) else 1)))
def zm_logout (y : YS) (g1 : Int32) : Int32 × YS := if zm_closed y g1 = 0 then (if y.2.1 = 0 then ((-3), y) else (0, (y.1, 0, y.2.2.1, y.2.2.2.1, y.2.2.2.2.1, y.2.2.2.2.2.1, zm_loz y.2.2.2.2.2.2.2.2.2 y.2.2.2.2.1 0 y.2.2.2.2.2.2.1, y.2.2.2.2.2.2.2.1, y.2.2.2.2.2.2.2.2.1, y.2.2.2.2.2.2.2.2.2))) else ((-1), y)

set_option maxHeartbeats 4000000 in
set_option maxRecDepth 100000 in
theorem km_logout (l : Launch) (D : va_G) (cI cZ : ClassId) (bo b1 b2 b3 b4 b5 b6 b7 : Nat) (y : YS) (g1 : Int32) (hn : y.2.2.2.2.1 ≤ 512) : kI l yM_logout wsM_logout (rmOf 1 21) D (kT cI cZ) [.ref bo, .int g1] (wY cI cZ bo b1 b2 b3 b4 b5 b6 b7 y) (zm_logout y g1).1 (wY cI cZ bo b1 b2 b3 b4 b5 b6 b7 ((zm_logout y g1).2)) := by
  intro sz
  refine kOf (Qc := fun A => kQi D (kT cI cZ) A (zm_logout y g1).1 (wY cI cZ bo b1 b2 b3 b4 b5 b6 b7 ((zm_logout y g1).2))) (cc := cM_logout) (maxL := 3) (ret := some .int) (by decide) rfl (Nat.le_of_ble_eq_true rfl) ?_ sz
  intro p e s m args below meth c A ls hx hb hml hown hts hNw hr hlk hin hA hS hP hD hK hl
  show W p l e (rmOf 1 21) s m args below meth c s.heap [] 0 0 (MQ below (kQi D (kT cI cZ) A (zm_logout y g1).1 (wY cI cZ bo b1 b2 b3 b4 b5 b6 b7 ((zm_logout y g1).2))) args s 0 0 A) (F0 m 0 ls [])
  have hts : ∀ q ∈ lw_g, q.before args s = true := fun q h => hts q (List.mem_cons_of_mem _ h)
  have hown : s.vm.findClass cnM = some m.cls := hown
  have hl : lv_has ls 3 [(0, .ref bo), (1, .int g1)] := hl
  have hP : va_P D vwCl [(bo, .inr (3, [.ref b1, .int y.2.1, .ref b2, .ref b3, .int (nI y.2.2.2.2.1), .int y.2.2.2.2.2.1, .ref b4, .ref b5, .ref b6, .ref b7])), (b1, .inl (cI, 3, .inl y.1)), (b2, .inl (cI, 3, .inl y.2.2.1)), (b3, .inl (cI, 3, .inl y.2.2.2.1)), (b4, .inl (cZ, 512, .inl y.2.2.2.2.2.2.1)), (b5, .inl (cI, 512, .inl y.2.2.2.2.2.2.2.1)), (b6, .inl (cI, 512, .inl y.2.2.2.2.2.2.2.2.1)), (b7, .inl (cI, 512, .inl y.2.2.2.2.2.2.2.2.2))] s.heap := hP
  have hD : va_D A [(bo, .inr (3, [.ref b1, .int y.2.1, .ref b2, .ref b3, .int (nI y.2.2.2.2.1), .int y.2.2.2.2.2.1, .ref b4, .ref b5, .ref b6, .ref b7])), (b1, .inl (cI, 3, .inl y.1)), (b2, .inl (cI, 3, .inl y.2.2.1)), (b3, .inl (cI, 3, .inl y.2.2.2.1)), (b4, .inl (cZ, 512, .inl y.2.2.2.2.2.2.1)), (b5, .inl (cI, 512, .inl y.2.2.2.2.2.2.2.1)), (b6, .inl (cI, 512, .inl y.2.2.2.2.2.2.2.2.1)), (b7, .inl (cI, 512, .inl y.2.2.2.2.2.2.2.2.2))] := hD
  have L : ∀ (f : Nat) (i : Nat) (t : Nat → Int32) (ls : Array Slot) (H : Heap) (locs : List Loc), (i + f = y.2.2.2.2.1) → (zm_loz y.2.2.2.2.2.2.2.2.2 y.2.2.2.2.1 0 y.2.2.2.2.2.2.1 = zm_loz y.2.2.2.2.2.2.2.2.2 f i t) → (zm_closed y g1 = 0) → (¬ y.2.1 = 0) → lv_has ls 3 [(2, .int (nI i)), (0, .ref bo), (1, .int g1)] → va_P D vwCl [(bo, .inr (3, [.ref b1, .int 0, .ref b2, .ref b3, .int (nI y.2.2.2.2.1), .int y.2.2.2.2.2.1, .ref b4, .ref b5, .ref b6, .ref b7])), (b1, .inl (cI, 3, .inl y.1)), (b2, .inl (cI, 3, .inl y.2.2.1)), (b3, .inl (cI, 3, .inl y.2.2.2.1)), (b4, .inl (cZ, 512, .inl t)), (b5, .inl (cI, 512, .inl y.2.2.2.2.2.2.2.1)), (b6, .inl (cI, 512, .inl y.2.2.2.2.2.2.2.2.1)), (b7, .inl (cI, 512, .inl y.2.2.2.2.2.2.2.2.2))] H → va_D A [(bo, .inr (3, [.ref b1, .int 0, .ref b2, .ref b3, .int (nI y.2.2.2.2.1), .int y.2.2.2.2.2.1, .ref b4, .ref b5, .ref b6, .ref b7])), (b1, .inl (cI, 3, .inl y.1)), (b2, .inl (cI, 3, .inl y.2.2.1)), (b3, .inl (cI, 3, .inl y.2.2.2.1)), (b4, .inl (cZ, 512, .inl t)), (b5, .inl (cI, 512, .inl y.2.2.2.2.2.2.2.1)), (b6, .inl (cI, 512, .inl y.2.2.2.2.2.2.2.2.1)), (b7, .inl (cI, 512, .inl y.2.2.2.2.2.2.2.2.2))] → va_S A s.heap H locs → W p l e (rmOf 1 21) s m args below meth c H locs 0 0 (MQ below (kQi D (kT cI cZ) A (zm_logout y g1).1 (wY cI cZ bo b1 b2 b3 b4 b5 b6 b7 ((zm_logout y g1).2))) args s 0 0 A) (F0 m 27 ls []) := by
    intro f
    induction f with
    | zero =>
      intro i t ls H locs hf he hc hd hl hP hD hS
      refine lv_iload_n hx hb dM_logout_27 rfl (lv_at hl 0 rfl) ?_
      refine lv_aload_n hx hb dM_logout_28 rfl (lv_at hl 1 rfl) ?_
      refine va_get (D := D) (ci := 3) (v := .int (nI y.2.2.2.2.1)) (C := cnM) (T := ftM) (N := 10) hx hb hts inM hown hK hP 0 rfl rfl 4 (by decide) (hts _ mw293) (fun _ h9 => h9) rfl dM_logout_29 ?_
      refine lv_icmp_ge (tgt := 87) hx hb dM_logout_32 (by decide) (fun _ => ?_) (fun h => absurd (nI_le (by omega) (by omega)) h)
      refine lv_iconst (v := 0) hx hb dM_logout_87 (by decide) ?_
      exact kretI (wf := fun st => wY cI cZ bo b1 b2 b3 b4 b5 b6 b7 st) (st := (y.1, 0, y.2.2.1, y.2.2.2.1, y.2.2.2.2.1, y.2.2.2.2.2.1, t, y.2.2.2.2.2.2.2.1, y.2.2.2.2.2.2.2.2.1, y.2.2.2.2.2.2.2.2.2)) (by rw [zm_logout, if_pos hc, if_neg hd, he]; rfl) hx hb hr hlk hS hP hD hK dM_logout_88
    | succ f ih =>
      intro i t ls H locs hf he hc hd hl hP hD hS
      refine lv_iload_n hx hb dM_logout_27 rfl (lv_at hl 0 rfl) ?_
      refine lv_aload_n hx hb dM_logout_28 rfl (lv_at hl 1 rfl) ?_
      refine va_get (D := D) (ci := 3) (v := .int (nI y.2.2.2.2.1)) (C := cnM) (T := ftM) (N := 10) hx hb hts inM hown hK hP 0 rfl rfl 4 (by decide) (hts _ mw293) (fun _ h9 => h9) rfl dM_logout_29 ?_
      refine lv_icmp_ge (tgt := 87) hx hb dM_logout_32 (by decide) (fun h => absurd h (nI_ge (by omega) (by omega))) (fun _ => ?_)
      refine lv_aload_n hx hb dM_logout_35 rfl (lv_at hl 1 rfl) ?_
      refine va_get (D := D) (ci := 3) (v := .ref b4) (C := cnM) (T := ftM) (N := 10) hx hb hts inM hown hK hP 0 rfl rfl 6 (by decide) (hts _ mw295) (fun _ h9 => h9) rfl dM_logout_36 ?_
      refine lv_iload_n hx hb dM_logout_39 rfl (lv_at hl 0 rfl) ?_
      refine lv_aload_n hx hb dM_logout_40 rfl (lv_at hl 1 rfl) ?_
      refine va_get (D := D) (ci := 3) (v := .ref b4) (C := cnM) (T := ftM) (N := 10) hx hb hts inM hown hK hP 0 rfl rfl 6 (by decide) (hts _ mw295) (fun _ h9 => h9) rfl dM_logout_41 ?_
      refine lv_iload_n hx hb dM_logout_44 rfl (lv_at hl 0 rfl) ?_
      refine va_zald hx hb hK hP 4 1 rfl rfl (vp_in_nI (by omega) (by decide)) dM_logout_45 ?_
      refine kTop (y := (t i)) (by rw [nI_clamp (by omega)]) ?_
      refine kJoin (pcJ := 80) (z := (if (t i) = 0 then (0 : Int32) else (if (zm_has (y.2.2.2.2.2.2.2.2.2 i) 1) = 0 then (if (zm_has (y.2.2.2.2.2.2.2.2.2 i) 2) = 0 then (1 : Int32) else (0 : Int32)) else (1 : Int32)))) (ws := [(bo, .inr (3, [.ref b1, .int 0, .ref b2, .ref b3, .int (nI y.2.2.2.2.1), .int y.2.2.2.2.2.1, .ref b4, .ref b5, .ref b6, .ref b7])), (b1, .inl (cI, 3, .inl y.1)), (b2, .inl (cI, 3, .inl y.2.2.1)), (b3, .inl (cI, 3, .inl y.2.2.2.1)), (b4, .inl (cZ, 512, .inl t)), (b5, .inl (cI, 512, .inl y.2.2.2.2.2.2.2.1)), (b6, .inl (cI, 512, .inl y.2.2.2.2.2.2.2.2.1)), (b7, .inl (cI, 512, .inl y.2.2.2.2.2.2.2.2.2))]) (rest := [.int (nI i), .ref b4]) (D := D) (A := A) (H0 := s.heap) (fun J80 => ?_) (fun H locs hP hD hS => ?_)
      ·
        refine lv_if_eq (tgt := 79) hx hb dM_logout_46 (by decide) (fun h1 => ?_) (fun h1 => ?_)
        ·
          refine lv_iconst (v := 0) hx hb dM_logout_79 (by decide) ?_
          exact J80 _ _ hP hD hS _ ((if_pos h1).symm)
        ·
          refine lv_aload_n hx hb dM_logout_49 rfl (lv_at hl 1 rfl) ?_
          refine va_get (D := D) (ci := 3) (v := .ref b7) (C := cnM) (T := ftM) (N := 10) hx hb hts inM hown hK hP 0 rfl rfl 9 (by decide) (hts _ mw298) (fun _ h9 => h9) rfl dM_logout_50 ?_
          refine lv_iload_n hx hb dM_logout_53 rfl (lv_at hl 0 rfl) ?_
          refine va_iald hx hb hK hP 7 0 rfl rfl (vp_in_nI (by omega) (by decide)) dM_logout_54 ?_
          refine kTop (y := (y.2.2.2.2.2.2.2.2.2 i)) (by rw [nI_clamp (by omega)]) ?_
          refine lv_iconst (v := 1) hx hb dM_logout_55 (by decide) ?_
          refine kcI (isR := [0, 1, 2, 3, 4, 5, 6, 7]) (isC := []) (wr := [(bo, .inr (3, [.ref b1, .int 0, .ref b2, .ref b3, .int (nI y.2.2.2.2.1), .int y.2.2.2.2.2.1, .ref b4, .ref b5, .ref b6, .ref b7])), (b1, .inl (cI, 3, .inl y.1)), (b2, .inl (cI, 3, .inl y.2.2.1)), (b3, .inl (cI, 3, .inl y.2.2.2.1)), (b4, .inl (cZ, 512, .inl t)), (b5, .inl (cI, 512, .inl y.2.2.2.2.2.2.2.1)), (b6, .inl (cI, 512, .inl y.2.2.2.2.2.2.2.2.1)), (b7, .inl (cI, 512, .inl y.2.2.2.2.2.2.2.2.2))]) (w2 := [(bo, .inr (3, [.ref b1, .int 0, .ref b2, .ref b3, .int (nI y.2.2.2.2.1), .int y.2.2.2.2.2.1, .ref b4, .ref b5, .ref b6, .ref b7])), (b1, .inl (cI, 3, .inl y.1)), (b2, .inl (cI, 3, .inl y.2.2.1)), (b3, .inl (cI, 3, .inl y.2.2.2.1)), (b4, .inl (cZ, 512, .inl t)), (b5, .inl (cI, 512, .inl y.2.2.2.2.2.2.2.1)), (b6, .inl (cI, 512, .inl y.2.2.2.2.2.2.2.2.1)), (b7, .inl (cI, 512, .inl y.2.2.2.2.2.2.2.2.2))]) (va_runS (As := [.int (y.2.2.2.2.2.2.2.2.2 i), .int 1]) (rest := [.int (nI i), .ref b4]) ⟨hx, hb, hml, hown, hts⟩ (km_has l D cI cZ (y.2.2.2.2.2.2.2.2.2 i) 1 _) ⟨(callB_of 2 hts gd_yM_has rfl rfl rfl (hts _ mw27) (hts _ mw333) (by decide +kernel) ⟨Nat.le_of_ble_eq_true rfl, Nat.le_of_ble_eq_true rfl⟩), hts _ mw334⟩ (kpreS hNw hP hD hK [] rfl (by decide)) rfl rfl hl.1 rfl (lv_room (Nat.le_of_ble_eq_true rfl)) dM_logout_56 ⟨Nat.le_of_ble_eq_true rfl, Nat.le_of_ble_eq_true rfl⟩) hP hD hS hA [0, 1, 2, 3, 4, 5, 6, 7] rfl rfl (by decide) (by decide) (by decide) rfl (fun H locs hP hD hS => ?_)
          refine lv_if_ne (tgt := 75) hx hb dM_logout_59 (by decide) (fun h2 => ?_) (fun h2 => ?_)
          ·
            refine lv_iconst (v := 1) hx hb dM_logout_75 (by decide) ?_
            refine lv_goto hx hb dM_logout_76 (tgt := 80) (by decide) ?_
            exact J80 _ _ hP hD hS _ (((if_neg h1).trans (if_neg h2)).symm)
          ·
            refine lv_aload_n hx hb dM_logout_62 rfl (lv_at hl 1 rfl) ?_
            refine va_get (D := D) (ci := 3) (v := .ref b7) (C := cnM) (T := ftM) (N := 10) hx hb hts inM hown hK hP 0 rfl rfl 9 (by decide) (hts _ mw298) (fun _ h9 => h9) rfl dM_logout_63 ?_
            refine lv_iload_n hx hb dM_logout_66 rfl (lv_at hl 0 rfl) ?_
            refine va_iald hx hb hK hP 7 0 rfl rfl (vp_in_nI (by omega) (by decide)) dM_logout_67 ?_
            refine kTop (y := (y.2.2.2.2.2.2.2.2.2 i)) (by rw [nI_clamp (by omega)]) ?_
            refine lv_iconst (v := 2) hx hb dM_logout_68 (by decide) ?_
            refine kcI (isR := [0, 1, 2, 3, 4, 5, 6, 7]) (isC := []) (wr := [(bo, .inr (3, [.ref b1, .int 0, .ref b2, .ref b3, .int (nI y.2.2.2.2.1), .int y.2.2.2.2.2.1, .ref b4, .ref b5, .ref b6, .ref b7])), (b1, .inl (cI, 3, .inl y.1)), (b2, .inl (cI, 3, .inl y.2.2.1)), (b3, .inl (cI, 3, .inl y.2.2.2.1)), (b4, .inl (cZ, 512, .inl t)), (b5, .inl (cI, 512, .inl y.2.2.2.2.2.2.2.1)), (b6, .inl (cI, 512, .inl y.2.2.2.2.2.2.2.2.1)), (b7, .inl (cI, 512, .inl y.2.2.2.2.2.2.2.2.2))]) (w2 := [(bo, .inr (3, [.ref b1, .int 0, .ref b2, .ref b3, .int (nI y.2.2.2.2.1), .int y.2.2.2.2.2.1, .ref b4, .ref b5, .ref b6, .ref b7])), (b1, .inl (cI, 3, .inl y.1)), (b2, .inl (cI, 3, .inl y.2.2.1)), (b3, .inl (cI, 3, .inl y.2.2.2.1)), (b4, .inl (cZ, 512, .inl t)), (b5, .inl (cI, 512, .inl y.2.2.2.2.2.2.2.1)), (b6, .inl (cI, 512, .inl y.2.2.2.2.2.2.2.2.1)), (b7, .inl (cI, 512, .inl y.2.2.2.2.2.2.2.2.2))]) (va_runS (As := [.int (y.2.2.2.2.2.2.2.2.2 i), .int 2]) (rest := [.int (nI i), .ref b4]) ⟨hx, hb, hml, hown, hts⟩ (km_has l D cI cZ (y.2.2.2.2.2.2.2.2.2 i) 2 _) ⟨(callB_of 2 hts gd_yM_has rfl rfl rfl (hts _ mw27) (hts _ mw333) (by decide +kernel) ⟨Nat.le_of_ble_eq_true rfl, Nat.le_of_ble_eq_true rfl⟩), hts _ mw334⟩ (kpreS hNw hP hD hK [] rfl (by decide)) rfl rfl hl.1 rfl (lv_room (Nat.le_of_ble_eq_true rfl)) dM_logout_69 ⟨Nat.le_of_ble_eq_true rfl, Nat.le_of_ble_eq_true rfl⟩) hP hD hS hA [0, 1, 2, 3, 4, 5, 6, 7] rfl rfl (by decide) (by decide) (by decide) rfl (fun H locs hP hD hS => ?_)
            refine lv_if_ne (tgt := 79) hx hb dM_logout_72 (by decide) (fun h3 => ?_) (fun h3 => ?_)
            ·
              refine lv_iconst (v := 0) hx hb dM_logout_79 (by decide) ?_
              exact J80 _ _ hP hD hS _ (((if_neg h1).trans ((if_pos h2).trans (if_neg h3))).symm)
            ·
              refine lv_iconst (v := 1) hx hb dM_logout_75 (by decide) ?_
              refine lv_goto hx hb dM_logout_76 (tgt := 80) (by decide) ?_
              exact J80 _ _ hP hD hS _ (((if_neg h1).trans ((if_pos h2).trans (if_pos h3))).symm)
      refine va_zast hx hb hK hP hD hS 4 1 rfl rfl (vp_in_nI (by omega) (by decide)) dM_logout_80 (fun H locs hP hD hS => ?_)
      rw [show Int32.toNatClampNeg (nI i) = i from nI_clamp (by omega)] at hP hD
      rw [show vp_nar .boolean (if (t i) = 0 then (0 : Int32) else (if (zm_has (y.2.2.2.2.2.2.2.2.2 i) 1) = 0 then (if (zm_has (y.2.2.2.2.2.2.2.2.2 i) 2) = 0 then (1 : Int32) else (0 : Int32)) else (1 : Int32))) = (if (t i) = 0 then (0 : Int32) else (if (zm_has (y.2.2.2.2.2.2.2.2.2 i) 1) = 0 then (if (zm_has (y.2.2.2.2.2.2.2.2.2 i) 2) = 0 then (1 : Int32) else (0 : Int32)) else (1 : Int32))) from knar01 (kz_ite kz0 (kz_ite (kz_ite kz1 kz0) kz1))] at hP hD
      have hP : va_P D vwCl [(bo, .inr (3, [.ref b1, .int 0, .ref b2, .ref b3, .int (nI y.2.2.2.2.1), .int y.2.2.2.2.2.1, .ref b4, .ref b5, .ref b6, .ref b7])), (b1, .inl (cI, 3, .inl y.1)), (b2, .inl (cI, 3, .inl y.2.2.1)), (b3, .inl (cI, 3, .inl y.2.2.2.1)), (b4, .inl (cZ, 512, .inl (upd t i (if (t i) = 0 then (0 : Int32) else (if (zm_has (y.2.2.2.2.2.2.2.2.2 i) 1) = 0 then (if (zm_has (y.2.2.2.2.2.2.2.2.2 i) 2) = 0 then (1 : Int32) else (0 : Int32)) else (1 : Int32)))))), (b5, .inl (cI, 512, .inl y.2.2.2.2.2.2.2.1)), (b6, .inl (cI, 512, .inl y.2.2.2.2.2.2.2.2.1)), (b7, .inl (cI, 512, .inl y.2.2.2.2.2.2.2.2.2))] H := hP
      have hD : va_D A [(bo, .inr (3, [.ref b1, .int 0, .ref b2, .ref b3, .int (nI y.2.2.2.2.1), .int y.2.2.2.2.2.1, .ref b4, .ref b5, .ref b6, .ref b7])), (b1, .inl (cI, 3, .inl y.1)), (b2, .inl (cI, 3, .inl y.2.2.1)), (b3, .inl (cI, 3, .inl y.2.2.2.1)), (b4, .inl (cZ, 512, .inl (upd t i (if (t i) = 0 then (0 : Int32) else (if (zm_has (y.2.2.2.2.2.2.2.2.2 i) 1) = 0 then (if (zm_has (y.2.2.2.2.2.2.2.2.2 i) 2) = 0 then (1 : Int32) else (0 : Int32)) else (1 : Int32)))))), (b5, .inl (cI, 512, .inl y.2.2.2.2.2.2.2.1)), (b6, .inl (cI, 512, .inl y.2.2.2.2.2.2.2.2.1)), (b7, .inl (cI, 512, .inl y.2.2.2.2.2.2.2.2.2))] := hD
      refine lv_iinc (k := 0) (v := (nI (i + 1))) hx hb dM_logout_81 hl rfl (kincN1 _) (by decide) rfl (fun ls hl => ?_)
      have hl : lv_has ls 3 [(2, .int (nI (i + 1))), (0, .ref bo), (1, .int g1)] := hl
      refine lv_goto hx hb dM_logout_84 (tgt := 27) (by decide) ?_
      exact ih (i + 1) (upd t i (if (t i) = 0 then (0 : Int32) else (if (zm_has (y.2.2.2.2.2.2.2.2.2 i) 1) = 0 then (if (zm_has (y.2.2.2.2.2.2.2.2.2 i) 2) = 0 then (1 : Int32) else (0 : Int32)) else (1 : Int32)))) _ _ _ (by omega) (by rw [he, zm_loz]) (hc) (hd) (lv_sub hl [0, 1, 2] rfl) hP hD hS
  refine lv_aload_n hx hb dM_logout_0 rfl (lv_at hl 0 rfl) ?_
  refine lv_iload_n hx hb dM_logout_1 rfl (lv_at hl 1 rfl) ?_
  refine kcI (isR := []) (isC := [0, 1, 2, 3, 4, 5, 6, 7]) (wr := []) (w2 := [(bo, .inr (3, [.ref b1, .int y.2.1, .ref b2, .ref b3, .int (nI y.2.2.2.2.1), .int y.2.2.2.2.2.1, .ref b4, .ref b5, .ref b6, .ref b7])), (b1, .inl (cI, 3, .inl y.1)), (b2, .inl (cI, 3, .inl y.2.2.1)), (b3, .inl (cI, 3, .inl y.2.2.2.1)), (b4, .inl (cZ, 512, .inl y.2.2.2.2.2.2.1)), (b5, .inl (cI, 512, .inl y.2.2.2.2.2.2.2.1)), (b6, .inl (cI, 512, .inl y.2.2.2.2.2.2.2.2.1)), (b7, .inl (cI, 512, .inl y.2.2.2.2.2.2.2.2.2))]) (va_runV (As := [.int g1]) (rest := []) ⟨hx, hb, hml, hown, hts⟩ (km_closed l D cI cZ bo b1 b2 b3 b4 b5 b6 b7 y g1 _) ⟨(callB_of 1 hts gd_yM_closed rfl rfl rfl (hts _ mw27) (hts _ mw329) (by decide +kernel) ⟨Nat.le_of_ble_eq_true rfl, Nat.le_of_ble_eq_true rfl⟩), hts _ mw331, hts _ mw15⟩ (kpreV hNw hP hD hK [0, 1, 2, 3, 4, 5, 6, 7] rfl (by decide) 0 rfl (ci := 3) rfl) rfl rfl hl.1 rfl (lv_room (Nat.le_of_ble_eq_true rfl)) dM_logout_2 ⟨Nat.le_of_ble_eq_true rfl, Nat.le_of_ble_eq_true rfl⟩) hP hD hS hA [0, 1, 2, 3, 4, 5, 6, 7] rfl rfl (by decide) (by decide) (by decide) rfl (fun H locs hP hD hS => ?_)
  refine lv_if_eq (tgt := 10) hx hb dM_logout_5 (by decide) (fun h1 => ?_) (fun h1 => ?_)
  ·
    refine lv_aload_n hx hb dM_logout_10 rfl (lv_at hl 0 rfl) ?_
    refine va_get (D := D) (ci := 3) (v := .int y.2.1) (C := cnM) (T := ftM) (N := 10) hx hb hts inM hown hK hP 0 rfl rfl 1 (by decide) (hts _ mw290) (fun _ h9 => h9) rfl dM_logout_11 ?_
    refine lv_if_ne (tgt := 20) hx hb dM_logout_14 (by decide) (fun h2 => ?_) (fun h2 => ?_)
    ·
      refine lv_aload_n hx hb dM_logout_20 rfl (lv_at hl 0 rfl) ?_
      refine lv_iconst (v := 0) hx hb dM_logout_21 (by decide) ?_
      refine va_put (D := D) (ci := 3) (v := .int 0) (ty := (.int)) (C := cnM) (T := ftM) (N := 10) hx hb hts inM tyM tyM_ok nmM hown hK hP hD hS 0 rfl rfl 1 (by decide) (hts _ mw290) (fun _ h9 => h9) rfl (by decide +kernel) rfl rfl (Nat.le_of_ble_eq_true rfl) dM_logout_22 (fun H locs hP hD hS => ?_)
      have hP : va_P D vwCl [(bo, .inr (3, [.ref b1, .int 0, .ref b2, .ref b3, .int (nI y.2.2.2.2.1), .int y.2.2.2.2.2.1, .ref b4, .ref b5, .ref b6, .ref b7])), (b1, .inl (cI, 3, .inl y.1)), (b2, .inl (cI, 3, .inl y.2.2.1)), (b3, .inl (cI, 3, .inl y.2.2.2.1)), (b4, .inl (cZ, 512, .inl y.2.2.2.2.2.2.1)), (b5, .inl (cI, 512, .inl y.2.2.2.2.2.2.2.1)), (b6, .inl (cI, 512, .inl y.2.2.2.2.2.2.2.2.1)), (b7, .inl (cI, 512, .inl y.2.2.2.2.2.2.2.2.2))] H := hP
      have hD : va_D A [(bo, .inr (3, [.ref b1, .int 0, .ref b2, .ref b3, .int (nI y.2.2.2.2.1), .int y.2.2.2.2.2.1, .ref b4, .ref b5, .ref b6, .ref b7])), (b1, .inl (cI, 3, .inl y.1)), (b2, .inl (cI, 3, .inl y.2.2.1)), (b3, .inl (cI, 3, .inl y.2.2.2.1)), (b4, .inl (cZ, 512, .inl y.2.2.2.2.2.2.1)), (b5, .inl (cI, 512, .inl y.2.2.2.2.2.2.2.1)), (b6, .inl (cI, 512, .inl y.2.2.2.2.2.2.2.2.1)), (b7, .inl (cI, 512, .inl y.2.2.2.2.2.2.2.2.2))] := hD
      refine lv_iconst (v := 0) hx hb dM_logout_25 (by decide) ?_
      refine lv_istore_n hx hb dM_logout_26 rfl hl (by decide) rfl (fun ls hl => ?_)
      have hl : lv_has ls 3 [(2, .int 0), (0, .ref bo), (1, .int g1)] := hl
      exact L y.2.2.2.2.1 0 _ _ _ _ (by omega) rfl h1 h2 (lv_sub hl [0, 1, 2] rfl) hP hD hS
    ·
      refine lv_bipush (v := (-3)) hx hb dM_logout_17 (by decide) ?_
      exact kretI (wf := fun st => wY cI cZ bo b1 b2 b3 b4 b5 b6 b7 st) (st := y) (by first | (rw [zm_logout, if_pos h1, if_pos h2]; done) | exact ((if_pos h1).trans (if_pos h2))) hx hb hr hlk hS hP hD hK dM_logout_19
  ·
    refine lv_iconst (v := (-1)) hx hb dM_logout_8 (by decide) ?_
    exact kretI (wf := fun st => wY cI cZ bo b1 b2 b3 b4 b5 b6 b7 st) (st := y) (by first | (rw [zm_logout, if_neg h1]; done) | exact (if_neg h1)) hx hb hr hlk hS hP hD hK dM_logout_9

def zm_unlock (y : YS) (g1 : Int32) (g2 : Int32) : Int32 × YS := (if (zm_closed y g1) = 0 then (if y.2.1 = 2 then (0, (y.1, y.2.1, (upd y.2.2.1 1 g2), (upd y.2.2.2.1 1 0), y.2.2.2.2.1, y.2.2.2.2.2.1, y.2.2.2.2.2.2.1, y.2.2.2.2.2.2.2.1, y.2.2.2.2.2.2.2.2.1, y.2.2.2.2.2.2.2.2.2)) else ((-3), y)) else ((-1), y))

set_option maxHeartbeats 4000000 in
set_option maxRecDepth 100000 in
theorem km_unlock (l : Launch) (D : va_G) (cI cZ : ClassId) (bo b1 b2 b3 b4 b5 b6 b7 : Nat) (y : YS) (g1 : Int32) (g2 : Int32) : kI l yM_unlock wsM_unlock (rmOf 1 21) D (kT cI cZ) [.ref bo, .int g1, .int g2] (wY cI cZ bo b1 b2 b3 b4 b5 b6 b7 y) (zm_unlock y g1 g2).1 (wY cI cZ bo b1 b2 b3 b4 b5 b6 b7 ((zm_unlock y g1 g2).2)) := by
  intro sz
  refine kOf (Qc := fun A => kQi D (kT cI cZ) A (zm_unlock y g1 g2).1 (wY cI cZ bo b1 b2 b3 b4 b5 b6 b7 ((zm_unlock y g1 g2).2))) (cc := cM_unlock) (maxL := 3) (ret := some .int) (by decide) rfl (Nat.le_of_ble_eq_true rfl) ?_ sz
  intro p e s m args below meth c A ls hx hb hml hown hts hNw hr hlk hin hA hS hP hD hK hl
  show W p l e (rmOf 1 21) s m args below meth c s.heap [] 0 0 (MQ below (kQi D (kT cI cZ) A (zm_unlock y g1 g2).1 (wY cI cZ bo b1 b2 b3 b4 b5 b6 b7 ((zm_unlock y g1 g2).2))) args s 0 0 A) (F0 m 0 ls [])
  have hts : ∀ q ∈ lw_g, q.before args s = true := fun q h => hts q (List.mem_cons_of_mem _ h)
  have hown : s.vm.findClass cnM = some m.cls := hown
  have hl : lv_has ls 3 [(0, .ref bo), (1, .int g1), (2, .int g2)] := hl
  have hP : va_P D vwCl [(bo, .inr (3, [.ref b1, .int y.2.1, .ref b2, .ref b3, .int (nI y.2.2.2.2.1), .int y.2.2.2.2.2.1, .ref b4, .ref b5, .ref b6, .ref b7])), (b1, .inl (cI, 3, .inl y.1)), (b2, .inl (cI, 3, .inl y.2.2.1)), (b3, .inl (cI, 3, .inl y.2.2.2.1)), (b4, .inl (cZ, 512, .inl y.2.2.2.2.2.2.1)), (b5, .inl (cI, 512, .inl y.2.2.2.2.2.2.2.1)), (b6, .inl (cI, 512, .inl y.2.2.2.2.2.2.2.2.1)), (b7, .inl (cI, 512, .inl y.2.2.2.2.2.2.2.2.2))] s.heap := hP
  have hD : va_D A [(bo, .inr (3, [.ref b1, .int y.2.1, .ref b2, .ref b3, .int (nI y.2.2.2.2.1), .int y.2.2.2.2.2.1, .ref b4, .ref b5, .ref b6, .ref b7])), (b1, .inl (cI, 3, .inl y.1)), (b2, .inl (cI, 3, .inl y.2.2.1)), (b3, .inl (cI, 3, .inl y.2.2.2.1)), (b4, .inl (cZ, 512, .inl y.2.2.2.2.2.2.1)), (b5, .inl (cI, 512, .inl y.2.2.2.2.2.2.2.1)), (b6, .inl (cI, 512, .inl y.2.2.2.2.2.2.2.2.1)), (b7, .inl (cI, 512, .inl y.2.2.2.2.2.2.2.2.2))] := hD
  refine lv_aload_n hx hb dM_unlock_0 rfl (lv_at hl 0 rfl) ?_
  refine lv_iload_n hx hb dM_unlock_1 rfl (lv_at hl 1 rfl) ?_
  refine kcI (isR := []) (isC := [0, 1, 2, 3, 4, 5, 6, 7]) (wr := []) (w2 := [(bo, .inr (3, [.ref b1, .int y.2.1, .ref b2, .ref b3, .int (nI y.2.2.2.2.1), .int y.2.2.2.2.2.1, .ref b4, .ref b5, .ref b6, .ref b7])), (b1, .inl (cI, 3, .inl y.1)), (b2, .inl (cI, 3, .inl y.2.2.1)), (b3, .inl (cI, 3, .inl y.2.2.2.1)), (b4, .inl (cZ, 512, .inl y.2.2.2.2.2.2.1)), (b5, .inl (cI, 512, .inl y.2.2.2.2.2.2.2.1)), (b6, .inl (cI, 512, .inl y.2.2.2.2.2.2.2.2.1)), (b7, .inl (cI, 512, .inl y.2.2.2.2.2.2.2.2.2))]) (va_runV (As := [.int g1]) (rest := []) ⟨hx, hb, hml, hown, hts⟩ (km_closed l D cI cZ bo b1 b2 b3 b4 b5 b6 b7 y g1 _) ⟨(callB_of 1 hts gd_yM_closed rfl rfl rfl (hts _ mw27) (hts _ mw329) (by decide +kernel) ⟨Nat.le_of_ble_eq_true rfl, Nat.le_of_ble_eq_true rfl⟩), hts _ mw331, hts _ mw15⟩ (kpreV hNw hP hD hK [0, 1, 2, 3, 4, 5, 6, 7] rfl (by decide) 0 rfl (ci := 3) rfl) rfl rfl hl.1 rfl (lv_room (Nat.le_of_ble_eq_true rfl)) dM_unlock_2 ⟨Nat.le_of_ble_eq_true rfl, Nat.le_of_ble_eq_true rfl⟩) hP hD hS hA [0, 1, 2, 3, 4, 5, 6, 7] rfl rfl (by decide) (by decide) (by decide) rfl (fun H locs hP hD hS => ?_)
  refine lv_if_eq (tgt := 10) hx hb dM_unlock_5 (by decide) (fun h1 => ?_) (fun h1 => ?_)
  ·
    refine lv_aload_n hx hb dM_unlock_10 rfl (lv_at hl 0 rfl) ?_
    refine va_get (D := D) (ci := 3) (v := .int y.2.1) (C := cnM) (T := ftM) (N := 10) hx hb hts inM hown hK hP 0 rfl rfl 1 (by decide) (hts _ mw290) (fun _ h9 => h9) rfl dM_unlock_11 ?_
    refine lv_iconst (v := 2) hx hb dM_unlock_14 (by decide) ?_
    refine lv_icmp_eq (tgt := 21) hx hb dM_unlock_15 (by decide) (fun h2 => ?_) (fun h2 => ?_)
    ·
      refine lv_aload_n hx hb dM_unlock_21 rfl (lv_at hl 0 rfl) ?_
      refine va_get (D := D) (ci := 3) (v := .ref b2) (C := cnM) (T := ftM) (N := 10) hx hb hts inM hown hK hP 0 rfl rfl 2 (by decide) (hts _ mw291) (fun _ h9 => h9) rfl dM_unlock_22 ?_
      refine lv_iconst (v := 1) hx hb dM_unlock_25 (by decide) ?_
      refine lv_iload_n hx hb dM_unlock_26 rfl (lv_at hl 2 rfl) ?_
      refine va_iast hx hb hK hP hD hS 2 0 rfl rfl ((show ¬ ((1 : Int32) < 0 ∨ 3 ≤ Int32.toNatClampNeg 1) by decide)) dM_unlock_27 (fun H locs hP hD hS => ?_)
      rw [show Int32.toNatClampNeg 1 = 1 from by decide] at hP hD
      have hP : va_P D vwCl [(bo, .inr (3, [.ref b1, .int y.2.1, .ref b2, .ref b3, .int (nI y.2.2.2.2.1), .int y.2.2.2.2.2.1, .ref b4, .ref b5, .ref b6, .ref b7])), (b1, .inl (cI, 3, .inl y.1)), (b2, .inl (cI, 3, .inl (upd y.2.2.1 1 g2))), (b3, .inl (cI, 3, .inl y.2.2.2.1)), (b4, .inl (cZ, 512, .inl y.2.2.2.2.2.2.1)), (b5, .inl (cI, 512, .inl y.2.2.2.2.2.2.2.1)), (b6, .inl (cI, 512, .inl y.2.2.2.2.2.2.2.2.1)), (b7, .inl (cI, 512, .inl y.2.2.2.2.2.2.2.2.2))] H := hP
      have hD : va_D A [(bo, .inr (3, [.ref b1, .int y.2.1, .ref b2, .ref b3, .int (nI y.2.2.2.2.1), .int y.2.2.2.2.2.1, .ref b4, .ref b5, .ref b6, .ref b7])), (b1, .inl (cI, 3, .inl y.1)), (b2, .inl (cI, 3, .inl (upd y.2.2.1 1 g2))), (b3, .inl (cI, 3, .inl y.2.2.2.1)), (b4, .inl (cZ, 512, .inl y.2.2.2.2.2.2.1)), (b5, .inl (cI, 512, .inl y.2.2.2.2.2.2.2.1)), (b6, .inl (cI, 512, .inl y.2.2.2.2.2.2.2.2.1)), (b7, .inl (cI, 512, .inl y.2.2.2.2.2.2.2.2.2))] := hD
      refine lv_aload_n hx hb dM_unlock_28 rfl (lv_at hl 0 rfl) ?_
      refine va_get (D := D) (ci := 3) (v := .ref b3) (C := cnM) (T := ftM) (N := 10) hx hb hts inM hown hK hP 0 rfl rfl 3 (by decide) (hts _ mw292) (fun _ h9 => h9) rfl dM_unlock_29 ?_
      refine lv_iconst (v := 1) hx hb dM_unlock_32 (by decide) ?_
      refine lv_iconst (v := 0) hx hb dM_unlock_33 (by decide) ?_
      refine va_iast hx hb hK hP hD hS 3 0 rfl rfl ((show ¬ ((1 : Int32) < 0 ∨ 3 ≤ Int32.toNatClampNeg 1) by decide)) dM_unlock_34 (fun H locs hP hD hS => ?_)
      rw [show Int32.toNatClampNeg 1 = 1 from by decide] at hP hD
      have hP : va_P D vwCl [(bo, .inr (3, [.ref b1, .int y.2.1, .ref b2, .ref b3, .int (nI y.2.2.2.2.1), .int y.2.2.2.2.2.1, .ref b4, .ref b5, .ref b6, .ref b7])), (b1, .inl (cI, 3, .inl y.1)), (b2, .inl (cI, 3, .inl (upd y.2.2.1 1 g2))), (b3, .inl (cI, 3, .inl (upd y.2.2.2.1 1 0))), (b4, .inl (cZ, 512, .inl y.2.2.2.2.2.2.1)), (b5, .inl (cI, 512, .inl y.2.2.2.2.2.2.2.1)), (b6, .inl (cI, 512, .inl y.2.2.2.2.2.2.2.2.1)), (b7, .inl (cI, 512, .inl y.2.2.2.2.2.2.2.2.2))] H := hP
      have hD : va_D A [(bo, .inr (3, [.ref b1, .int y.2.1, .ref b2, .ref b3, .int (nI y.2.2.2.2.1), .int y.2.2.2.2.2.1, .ref b4, .ref b5, .ref b6, .ref b7])), (b1, .inl (cI, 3, .inl y.1)), (b2, .inl (cI, 3, .inl (upd y.2.2.1 1 g2))), (b3, .inl (cI, 3, .inl (upd y.2.2.2.1 1 0))), (b4, .inl (cZ, 512, .inl y.2.2.2.2.2.2.1)), (b5, .inl (cI, 512, .inl y.2.2.2.2.2.2.2.1)), (b6, .inl (cI, 512, .inl y.2.2.2.2.2.2.2.2.1)), (b7, .inl (cI, 512, .inl y.2.2.2.2.2.2.2.2.2))] := hD
      refine lv_iconst (v := 0) hx hb dM_unlock_35 (by decide) ?_
      exact kretI (wf := fun st => wY cI cZ bo b1 b2 b3 b4 b5 b6 b7 st) (st := (y.1, y.2.1, (upd y.2.2.1 1 g2), (upd y.2.2.2.1 1 0), y.2.2.2.2.1, y.2.2.2.2.2.1, y.2.2.2.2.2.2.1, y.2.2.2.2.2.2.2.1, y.2.2.2.2.2.2.2.2.1, y.2.2.2.2.2.2.2.2.2)) (by first | (rw [zm_unlock, if_pos h1, if_pos h2]; done) | exact ((if_pos h1).trans (if_pos h2))) hx hb hr hlk hS hP hD hK dM_unlock_36
    ·
      refine lv_bipush (v := (-3)) hx hb dM_unlock_18 (by decide) ?_
      exact kretI (wf := fun st => wY cI cZ bo b1 b2 b3 b4 b5 b6 b7 st) (st := y) (by first | (rw [zm_unlock, if_pos h1, if_neg h2]; done) | exact ((if_pos h1).trans (if_neg h2))) hx hb hr hlk hS hP hD hK dM_unlock_20
  ·
    refine lv_iconst (v := (-1)) hx hb dM_unlock_8 (by decide) ?_
    exact kretI (wf := fun st => wY cI cZ bo b1 b2 b3 b4 b5 b6 b7 st) (st := y) (by first | (rw [zm_unlock, if_neg h1]; done) | exact (if_neg h1)) hx hb hr hlk hS hP hD hK dM_unlock_9

def zm_create (y : YS) (g1 : Int32) (g2 : Int32) (g3 : Int32) : Int32 × YS := (if (zm_closed y g1) = 0 then (if 0 ≤ (zm_obstacle y g1 g2 0) then ((zm_enter y g1 g2 g3).1, (zm_enter y g1 g2 g3).2) else ((zm_obstacle y g1 g2 0), y)) else ((-1), y))

set_option maxHeartbeats 4000000 in
set_option maxRecDepth 100000 in
theorem km_create (l : Launch) (D : va_G) (cI cZ : ClassId) (bo b1 b2 b3 b4 b5 b6 b7 : Nat) (y : YS) (g1 : Int32) (g2 : Int32) (g3 : Int32) (hn : y.2.2.2.2.1 < 512) : kI l yM_create wsM_create (rmOf 3 66) D (kT cI cZ) [.ref bo, .int g1, .int g2, .int g3] (wY cI cZ bo b1 b2 b3 b4 b5 b6 b7 y) (zm_create y g1 g2 g3).1 (wY cI cZ bo b1 b2 b3 b4 b5 b6 b7 ((zm_create y g1 g2 g3).2)) := by
  intro sz
  refine kOf (Qc := fun A => kQi D (kT cI cZ) A (zm_create y g1 g2 g3).1 (wY cI cZ bo b1 b2 b3 b4 b5 b6 b7 ((zm_create y g1 g2 g3).2))) (cc := cM_create) (maxL := 5) (ret := some .int) (by decide) rfl (Nat.le_of_ble_eq_true rfl) ?_ sz
  intro p e s m args below meth c A ls hx hb hml hown hts hNw hr hlk hin hA hS hP hD hK hl
  show W p l e (rmOf 3 66) s m args below meth c s.heap [] 0 0 (MQ below (kQi D (kT cI cZ) A (zm_create y g1 g2 g3).1 (wY cI cZ bo b1 b2 b3 b4 b5 b6 b7 ((zm_create y g1 g2 g3).2))) args s 0 0 A) (F0 m 0 ls [])
  have hts : ∀ q ∈ lw_g, q.before args s = true := fun q h => hts q (List.mem_cons_of_mem _ h)
  have hown : s.vm.findClass cnM = some m.cls := hown
  have hl : lv_has ls 5 [(0, .ref bo), (1, .int g1), (2, .int g2), (3, .int g3)] := hl
  have hP : va_P D vwCl [(bo, .inr (3, [.ref b1, .int y.2.1, .ref b2, .ref b3, .int (nI y.2.2.2.2.1), .int y.2.2.2.2.2.1, .ref b4, .ref b5, .ref b6, .ref b7])), (b1, .inl (cI, 3, .inl y.1)), (b2, .inl (cI, 3, .inl y.2.2.1)), (b3, .inl (cI, 3, .inl y.2.2.2.1)), (b4, .inl (cZ, 512, .inl y.2.2.2.2.2.2.1)), (b5, .inl (cI, 512, .inl y.2.2.2.2.2.2.2.1)), (b6, .inl (cI, 512, .inl y.2.2.2.2.2.2.2.2.1)), (b7, .inl (cI, 512, .inl y.2.2.2.2.2.2.2.2.2))] s.heap := hP
  have hD : va_D A [(bo, .inr (3, [.ref b1, .int y.2.1, .ref b2, .ref b3, .int (nI y.2.2.2.2.1), .int y.2.2.2.2.2.1, .ref b4, .ref b5, .ref b6, .ref b7])), (b1, .inl (cI, 3, .inl y.1)), (b2, .inl (cI, 3, .inl y.2.2.1)), (b3, .inl (cI, 3, .inl y.2.2.2.1)), (b4, .inl (cZ, 512, .inl y.2.2.2.2.2.2.1)), (b5, .inl (cI, 512, .inl y.2.2.2.2.2.2.2.1)), (b6, .inl (cI, 512, .inl y.2.2.2.2.2.2.2.2.1)), (b7, .inl (cI, 512, .inl y.2.2.2.2.2.2.2.2.2))] := hD
  refine lv_aload_n hx hb dM_create_0 rfl (lv_at hl 0 rfl) ?_
  refine lv_iload_n hx hb dM_create_1 rfl (lv_at hl 1 rfl) ?_
  refine kcI (isR := []) (isC := [0, 1, 2, 3, 4, 5, 6, 7]) (wr := []) (w2 := [(bo, .inr (3, [.ref b1, .int y.2.1, .ref b2, .ref b3, .int (nI y.2.2.2.2.1), .int y.2.2.2.2.2.1, .ref b4, .ref b5, .ref b6, .ref b7])), (b1, .inl (cI, 3, .inl y.1)), (b2, .inl (cI, 3, .inl y.2.2.1)), (b3, .inl (cI, 3, .inl y.2.2.2.1)), (b4, .inl (cZ, 512, .inl y.2.2.2.2.2.2.1)), (b5, .inl (cI, 512, .inl y.2.2.2.2.2.2.2.1)), (b6, .inl (cI, 512, .inl y.2.2.2.2.2.2.2.2.1)), (b7, .inl (cI, 512, .inl y.2.2.2.2.2.2.2.2.2))]) (va_runV (As := [.int g1]) (rest := []) ⟨hx, hb, hml, hown, hts⟩ (km_closed l D cI cZ bo b1 b2 b3 b4 b5 b6 b7 y g1 _) ⟨(callB_of 1 hts gd_yM_closed rfl rfl rfl (hts _ mw27) (hts _ mw329) (by decide +kernel) ⟨Nat.le_of_ble_eq_true rfl, Nat.le_of_ble_eq_true rfl⟩), hts _ mw331, hts _ mw15⟩ (kpreV hNw hP hD hK [0, 1, 2, 3, 4, 5, 6, 7] rfl (by decide) 0 rfl (ci := 3) rfl) rfl rfl hl.1 rfl (lv_room (Nat.le_of_ble_eq_true rfl)) dM_create_2 ⟨Nat.le_of_ble_eq_true rfl, Nat.le_of_ble_eq_true rfl⟩) hP hD hS hA [0, 1, 2, 3, 4, 5, 6, 7] rfl rfl (by decide) (by decide) (by decide) rfl (fun H locs hP hD hS => ?_)
  refine lv_if_eq (tgt := 10) hx hb dM_create_5 (by decide) (fun h1 => ?_) (fun h1 => ?_)
  ·
    refine lv_aload_n hx hb dM_create_10 rfl (lv_at hl 0 rfl) ?_
    refine lv_iload_n hx hb dM_create_11 rfl (lv_at hl 1 rfl) ?_
    refine lv_iload_n hx hb dM_create_12 rfl (lv_at hl 2 rfl) ?_
    refine lv_iconst (v := 0) hx hb dM_create_13 (by decide) ?_
    refine kcI (isR := []) (isC := [0, 1, 2, 3, 4, 5, 6, 7]) (wr := []) (w2 := [(bo, .inr (3, [.ref b1, .int y.2.1, .ref b2, .ref b3, .int (nI y.2.2.2.2.1), .int y.2.2.2.2.2.1, .ref b4, .ref b5, .ref b6, .ref b7])), (b1, .inl (cI, 3, .inl y.1)), (b2, .inl (cI, 3, .inl y.2.2.1)), (b3, .inl (cI, 3, .inl y.2.2.2.1)), (b4, .inl (cZ, 512, .inl y.2.2.2.2.2.2.1)), (b5, .inl (cI, 512, .inl y.2.2.2.2.2.2.2.1)), (b6, .inl (cI, 512, .inl y.2.2.2.2.2.2.2.2.1)), (b7, .inl (cI, 512, .inl y.2.2.2.2.2.2.2.2.2))]) (va_runV (As := [.int g1, .int g2, .int 0]) (rest := []) ⟨hx, hb, hml, hown, hts⟩ (km_obstacle l D cI cZ bo b1 b2 b3 b4 b5 b6 b7 y g1 g2 0 (zm_closed_in h1) (Nat.le_of_lt hn) _) ⟨(callB_of 3 hts gd_yM_obstacle rfl rfl rfl (hts _ mw27) (hts _ mw352) (by decide +kernel) ⟨Nat.le_of_ble_eq_true rfl, Nat.le_of_ble_eq_true rfl⟩), hts _ mw354, hts _ mw16⟩ (kpreV hNw hP hD hK [0, 1, 2, 3, 4, 5, 6, 7] rfl (by decide) 0 rfl (ci := 3) rfl) rfl rfl hl.1 rfl (lv_room (Nat.le_of_ble_eq_true rfl)) dM_create_14 ⟨Nat.le_of_ble_eq_true rfl, Nat.le_of_ble_eq_true rfl⟩) hP hD hS hA [0, 1, 2, 3, 4, 5, 6, 7] rfl rfl (by decide) (by decide) (by decide) rfl (fun H locs hP hD hS => ?_)
    refine lv_istore hx hb dM_create_17 hl (by decide) rfl (fun ls hl => ?_)
    have hl : lv_has ls 5 [(4, .int (zm_obstacle y g1 g2 0)), (0, .ref bo), (1, .int g1), (2, .int g2), (3, .int g3)] := hl
    refine lv_iload hx hb dM_create_19 (lv_at hl 0 rfl) ?_
    refine lv_if_ge (tgt := 29) hx hb dM_create_21 (by decide) (fun h2 => ?_) (fun h2 => ?_)
    ·
      refine lv_aload_n hx hb dM_create_29 rfl (lv_at hl 1 rfl) ?_
      refine lv_iload_n hx hb dM_create_30 rfl (lv_at hl 2 rfl) ?_
      refine lv_iload_n hx hb dM_create_31 rfl (lv_at hl 3 rfl) ?_
      refine lv_iload_n hx hb dM_create_32 rfl (lv_at hl 4 rfl) ?_
      refine kcI (isR := []) (isC := [0, 1, 2, 3, 4, 5, 6, 7]) (wr := []) (w2 := [(bo, .inr (3, [.ref b1, .int ((zm_enter y g1 g2 g3).2.2.1), .ref b2, .ref b3, .int (nI (zm_enter y g1 g2 g3).2.2.2.2.2.1), .int ((zm_enter y g1 g2 g3).2.2.2.2.2.2.1), .ref b4, .ref b5, .ref b6, .ref b7])), (b1, .inl (cI, 3, .inl ((zm_enter y g1 g2 g3).2.1))), (b2, .inl (cI, 3, .inl ((zm_enter y g1 g2 g3).2.2.2.1))), (b3, .inl (cI, 3, .inl ((zm_enter y g1 g2 g3).2.2.2.2.1))), (b4, .inl (cZ, 512, .inl ((zm_enter y g1 g2 g3).2.2.2.2.2.2.2.1))), (b5, .inl (cI, 512, .inl ((zm_enter y g1 g2 g3).2.2.2.2.2.2.2.2.1))), (b6, .inl (cI, 512, .inl ((zm_enter y g1 g2 g3).2.2.2.2.2.2.2.2.2.1))), (b7, .inl (cI, 512, .inl ((zm_enter y g1 g2 g3).2.2.2.2.2.2.2.2.2.2)))]) (va_runV (As := [.int g1, .int g2, .int g3]) (rest := []) ⟨hx, hb, hml, hown, hts⟩ (km_enter l D cI cZ bo b1 b2 b3 b4 b5 b6 b7 y g1 g2 g3 (hn) _) ⟨(callB_of 3 hts gd_yM_enter rfl rfl rfl (hts _ mw27) (hts _ mw367) (by decide +kernel) ⟨Nat.le_of_ble_eq_true rfl, Nat.le_of_ble_eq_true rfl⟩), hts _ mw369, hts _ mw19⟩ (kpreV hNw hP hD hK [0, 1, 2, 3, 4, 5, 6, 7] rfl (by decide) 0 rfl (ci := 3) rfl) rfl rfl hl.1 rfl (lv_room (Nat.le_of_ble_eq_true rfl)) dM_create_33 ⟨Nat.le_of_ble_eq_true rfl, Nat.le_of_ble_eq_true rfl⟩) hP hD hS hA [0, 1, 2, 3, 4, 5, 6, 7] rfl rfl (by decide) (by decide) (by decide) rfl (fun H locs hP hD hS => ?_)
      exact kretI (wf := fun st => wY cI cZ bo b1 b2 b3 b4 b5 b6 b7 st) (st := (zm_enter y g1 g2 g3).2) (by first | (rw [zm_create, if_pos h1, if_pos h2]; done) | exact ((if_pos h1).trans (if_pos h2))) hx hb hr hlk hS hP hD hK dM_create_36
    ·
      refine lv_iload hx hb dM_create_24 (lv_at hl 0 rfl) ?_
      refine lv_goto hx hb dM_create_26 (tgt := 36) (by decide) ?_
      exact kretI (wf := fun st => wY cI cZ bo b1 b2 b3 b4 b5 b6 b7 st) (st := y) (by first | (rw [zm_create, if_pos h1, if_neg h2]; done) | exact ((if_pos h1).trans (if_neg h2))) hx hb hr hlk hS hP hD hK dM_create_36
  ·
    refine lv_iconst (v := (-1)) hx hb dM_create_8 (by decide) ?_
    exact kretI (wf := fun st => wY cI cZ bo b1 b2 b3 b4 b5 b6 b7 st) (st := y) (by first | (rw [zm_create, if_neg h1]; done) | exact (if_neg h1)) hx hb hr hlk hS hP hD hK dM_create_9

def zm_generate (y : YS) (g1 : Int32) (g2 : Int32) : Int32 × YS := (if (zm_closed y g1) = 0 then (if 0 ≤ (zm_obstacle y g1 g2 0) then ((zm_enter (y.1, y.2.1, y.2.2.1, y.2.2.2.1, y.2.2.2.2.1, (y.2.2.2.2.2.1 + 1), y.2.2.2.2.2.2.1, y.2.2.2.2.2.2.2.1, y.2.2.2.2.2.2.2.2.1, y.2.2.2.2.2.2.2.2.2) g1 (g2 + ((1024 + (if (zm_has g2 4) = 0 then (0 : Int32) else (2048 : Int32))) + (if (zm_has g2 8) = 0 then (4096 : Int32) else (0 : Int32)))) (zm_mac y.2.2.2.2.2.1 1234567)).1, (zm_enter (y.1, y.2.1, y.2.2.1, y.2.2.2.1, y.2.2.2.2.1, (y.2.2.2.2.2.1 + 1), y.2.2.2.2.2.2.1, y.2.2.2.2.2.2.2.1, y.2.2.2.2.2.2.2.2.1, y.2.2.2.2.2.2.2.2.2) g1 (g2 + ((1024 + (if (zm_has g2 4) = 0 then (0 : Int32) else (2048 : Int32))) + (if (zm_has g2 8) = 0 then (4096 : Int32) else (0 : Int32)))) (zm_mac y.2.2.2.2.2.1 1234567)).2) else ((zm_obstacle y g1 g2 0), y)) else ((-1), y))

set_option maxHeartbeats 4000000 in
set_option maxRecDepth 100000 in
theorem km_generate (l : Launch) (D : va_G) (cI cZ : ClassId) (bo b1 b2 b3 b4 b5 b6 b7 : Nat) (y : YS) (g1 : Int32) (g2 : Int32) (hn : y.2.2.2.2.1 < 512) : kI l yM_generate wsM_generate (rmOf 3 66) D (kT cI cZ) [.ref bo, .int g1, .int g2] (wY cI cZ bo b1 b2 b3 b4 b5 b6 b7 y) (zm_generate y g1 g2).1 (wY cI cZ bo b1 b2 b3 b4 b5 b6 b7 ((zm_generate y g1 g2).2)) := by
  intro sz
  refine kOf (Qc := fun A => kQi D (kT cI cZ) A (zm_generate y g1 g2).1 (wY cI cZ bo b1 b2 b3 b4 b5 b6 b7 ((zm_generate y g1 g2).2))) (cc := cM_generate) (maxL := 6) (ret := some .int) (by decide) rfl (Nat.le_of_ble_eq_true rfl) ?_ sz
  intro p e s m args below meth c A ls hx hb hml hown hts hNw hr hlk hin hA hS hP hD hK hl
  show W p l e (rmOf 3 66) s m args below meth c s.heap [] 0 0 (MQ below (kQi D (kT cI cZ) A (zm_generate y g1 g2).1 (wY cI cZ bo b1 b2 b3 b4 b5 b6 b7 ((zm_generate y g1 g2).2))) args s 0 0 A) (F0 m 0 ls [])
  have hts : ∀ q ∈ lw_g, q.before args s = true := fun q h => hts q (List.mem_cons_of_mem _ h)
  have hown : s.vm.findClass cnM = some m.cls := hown
  have hl : lv_has ls 6 [(0, .ref bo), (1, .int g1), (2, .int g2)] := hl
  have hP : va_P D vwCl [(bo, .inr (3, [.ref b1, .int y.2.1, .ref b2, .ref b3, .int (nI y.2.2.2.2.1), .int y.2.2.2.2.2.1, .ref b4, .ref b5, .ref b6, .ref b7])), (b1, .inl (cI, 3, .inl y.1)), (b2, .inl (cI, 3, .inl y.2.2.1)), (b3, .inl (cI, 3, .inl y.2.2.2.1)), (b4, .inl (cZ, 512, .inl y.2.2.2.2.2.2.1)), (b5, .inl (cI, 512, .inl y.2.2.2.2.2.2.2.1)), (b6, .inl (cI, 512, .inl y.2.2.2.2.2.2.2.2.1)), (b7, .inl (cI, 512, .inl y.2.2.2.2.2.2.2.2.2))] s.heap := hP
  have hD : va_D A [(bo, .inr (3, [.ref b1, .int y.2.1, .ref b2, .ref b3, .int (nI y.2.2.2.2.1), .int y.2.2.2.2.2.1, .ref b4, .ref b5, .ref b6, .ref b7])), (b1, .inl (cI, 3, .inl y.1)), (b2, .inl (cI, 3, .inl y.2.2.1)), (b3, .inl (cI, 3, .inl y.2.2.2.1)), (b4, .inl (cZ, 512, .inl y.2.2.2.2.2.2.1)), (b5, .inl (cI, 512, .inl y.2.2.2.2.2.2.2.1)), (b6, .inl (cI, 512, .inl y.2.2.2.2.2.2.2.2.1)), (b7, .inl (cI, 512, .inl y.2.2.2.2.2.2.2.2.2))] := hD
  refine lv_aload_n hx hb dM_generate_0 rfl (lv_at hl 0 rfl) ?_
  refine lv_iload_n hx hb dM_generate_1 rfl (lv_at hl 1 rfl) ?_
  refine kcI (isR := []) (isC := [0, 1, 2, 3, 4, 5, 6, 7]) (wr := []) (w2 := [(bo, .inr (3, [.ref b1, .int y.2.1, .ref b2, .ref b3, .int (nI y.2.2.2.2.1), .int y.2.2.2.2.2.1, .ref b4, .ref b5, .ref b6, .ref b7])), (b1, .inl (cI, 3, .inl y.1)), (b2, .inl (cI, 3, .inl y.2.2.1)), (b3, .inl (cI, 3, .inl y.2.2.2.1)), (b4, .inl (cZ, 512, .inl y.2.2.2.2.2.2.1)), (b5, .inl (cI, 512, .inl y.2.2.2.2.2.2.2.1)), (b6, .inl (cI, 512, .inl y.2.2.2.2.2.2.2.2.1)), (b7, .inl (cI, 512, .inl y.2.2.2.2.2.2.2.2.2))]) (va_runV (As := [.int g1]) (rest := []) ⟨hx, hb, hml, hown, hts⟩ (km_closed l D cI cZ bo b1 b2 b3 b4 b5 b6 b7 y g1 _) ⟨(callB_of 1 hts gd_yM_closed rfl rfl rfl (hts _ mw27) (hts _ mw329) (by decide +kernel) ⟨Nat.le_of_ble_eq_true rfl, Nat.le_of_ble_eq_true rfl⟩), hts _ mw331, hts _ mw15⟩ (kpreV hNw hP hD hK [0, 1, 2, 3, 4, 5, 6, 7] rfl (by decide) 0 rfl (ci := 3) rfl) rfl rfl hl.1 rfl (lv_room (Nat.le_of_ble_eq_true rfl)) dM_generate_2 ⟨Nat.le_of_ble_eq_true rfl, Nat.le_of_ble_eq_true rfl⟩) hP hD hS hA [0, 1, 2, 3, 4, 5, 6, 7] rfl rfl (by decide) (by decide) (by decide) rfl (fun H locs hP hD hS => ?_)
  refine lv_if_eq (tgt := 10) hx hb dM_generate_5 (by decide) (fun h1 => ?_) (fun h1 => ?_)
  ·
    refine lv_aload_n hx hb dM_generate_10 rfl (lv_at hl 0 rfl) ?_
    refine lv_iload_n hx hb dM_generate_11 rfl (lv_at hl 1 rfl) ?_
    refine lv_iload_n hx hb dM_generate_12 rfl (lv_at hl 2 rfl) ?_
    refine lv_iconst (v := 0) hx hb dM_generate_13 (by decide) ?_
    refine kcI (isR := []) (isC := [0, 1, 2, 3, 4, 5, 6, 7]) (wr := []) (w2 := [(bo, .inr (3, [.ref b1, .int y.2.1, .ref b2, .ref b3, .int (nI y.2.2.2.2.1), .int y.2.2.2.2.2.1, .ref b4, .ref b5, .ref b6, .ref b7])), (b1, .inl (cI, 3, .inl y.1)), (b2, .inl (cI, 3, .inl y.2.2.1)), (b3, .inl (cI, 3, .inl y.2.2.2.1)), (b4, .inl (cZ, 512, .inl y.2.2.2.2.2.2.1)), (b5, .inl (cI, 512, .inl y.2.2.2.2.2.2.2.1)), (b6, .inl (cI, 512, .inl y.2.2.2.2.2.2.2.2.1)), (b7, .inl (cI, 512, .inl y.2.2.2.2.2.2.2.2.2))]) (va_runV (As := [.int g1, .int g2, .int 0]) (rest := []) ⟨hx, hb, hml, hown, hts⟩ (km_obstacle l D cI cZ bo b1 b2 b3 b4 b5 b6 b7 y g1 g2 0 (zm_closed_in h1) (Nat.le_of_lt hn) _) ⟨(callB_of 3 hts gd_yM_obstacle rfl rfl rfl (hts _ mw27) (hts _ mw352) (by decide +kernel) ⟨Nat.le_of_ble_eq_true rfl, Nat.le_of_ble_eq_true rfl⟩), hts _ mw354, hts _ mw16⟩ (kpreV hNw hP hD hK [0, 1, 2, 3, 4, 5, 6, 7] rfl (by decide) 0 rfl (ci := 3) rfl) rfl rfl hl.1 rfl (lv_room (Nat.le_of_ble_eq_true rfl)) dM_generate_14 ⟨Nat.le_of_ble_eq_true rfl, Nat.le_of_ble_eq_true rfl⟩) hP hD hS hA [0, 1, 2, 3, 4, 5, 6, 7] rfl rfl (by decide) (by decide) (by decide) rfl (fun H locs hP hD hS => ?_)
    refine lv_istore_n hx hb dM_generate_17 rfl hl (by decide) rfl (fun ls hl => ?_)
    have hl : lv_has ls 6 [(3, .int (zm_obstacle y g1 g2 0)), (0, .ref bo), (1, .int g1), (2, .int g2)] := hl
    refine lv_iload_n hx hb dM_generate_18 rfl (lv_at hl 0 rfl) ?_
    refine lv_if_ge (tgt := 24) hx hb dM_generate_19 (by decide) (fun h2 => ?_) (fun h2 => ?_)
    ·
      refine lv_sipush (v := 1024) hx hb dM_generate_24 (by decide) ?_
      refine lv_iload_n hx hb dM_generate_27 rfl (lv_at hl 3 rfl) ?_
      refine lv_iconst (v := 4) hx hb dM_generate_28 (by decide) ?_
      refine kcI (isR := [0, 1, 2, 3, 4, 5, 6, 7]) (isC := []) (wr := [(bo, .inr (3, [.ref b1, .int y.2.1, .ref b2, .ref b3, .int (nI y.2.2.2.2.1), .int y.2.2.2.2.2.1, .ref b4, .ref b5, .ref b6, .ref b7])), (b1, .inl (cI, 3, .inl y.1)), (b2, .inl (cI, 3, .inl y.2.2.1)), (b3, .inl (cI, 3, .inl y.2.2.2.1)), (b4, .inl (cZ, 512, .inl y.2.2.2.2.2.2.1)), (b5, .inl (cI, 512, .inl y.2.2.2.2.2.2.2.1)), (b6, .inl (cI, 512, .inl y.2.2.2.2.2.2.2.2.1)), (b7, .inl (cI, 512, .inl y.2.2.2.2.2.2.2.2.2))]) (w2 := [(bo, .inr (3, [.ref b1, .int y.2.1, .ref b2, .ref b3, .int (nI y.2.2.2.2.1), .int y.2.2.2.2.2.1, .ref b4, .ref b5, .ref b6, .ref b7])), (b1, .inl (cI, 3, .inl y.1)), (b2, .inl (cI, 3, .inl y.2.2.1)), (b3, .inl (cI, 3, .inl y.2.2.2.1)), (b4, .inl (cZ, 512, .inl y.2.2.2.2.2.2.1)), (b5, .inl (cI, 512, .inl y.2.2.2.2.2.2.2.1)), (b6, .inl (cI, 512, .inl y.2.2.2.2.2.2.2.2.1)), (b7, .inl (cI, 512, .inl y.2.2.2.2.2.2.2.2.2))]) (va_runS (As := [.int g2, .int 4]) (rest := [.int 1024]) ⟨hx, hb, hml, hown, hts⟩ (km_has l D cI cZ g2 4 _) ⟨(callB_of 2 hts gd_yM_has rfl rfl rfl (hts _ mw27) (hts _ mw333) (by decide +kernel) ⟨Nat.le_of_ble_eq_true rfl, Nat.le_of_ble_eq_true rfl⟩), hts _ mw334⟩ (kpreS hNw hP hD hK [] rfl (by decide)) rfl rfl hl.1 rfl (lv_room (Nat.le_of_ble_eq_true rfl)) dM_generate_29 ⟨Nat.le_of_ble_eq_true rfl, Nat.le_of_ble_eq_true rfl⟩) hP hD hS hA [0, 1, 2, 3, 4, 5, 6, 7] rfl rfl (by decide) (by decide) (by decide) rfl (fun H locs hP hD hS => ?_)
      refine kJoin (pcJ := 42) (z := (if (zm_has g2 4) = 0 then (0 : Int32) else (2048 : Int32))) (ws := [(bo, .inr (3, [.ref b1, .int y.2.1, .ref b2, .ref b3, .int (nI y.2.2.2.2.1), .int y.2.2.2.2.2.1, .ref b4, .ref b5, .ref b6, .ref b7])), (b1, .inl (cI, 3, .inl y.1)), (b2, .inl (cI, 3, .inl y.2.2.1)), (b3, .inl (cI, 3, .inl y.2.2.2.1)), (b4, .inl (cZ, 512, .inl y.2.2.2.2.2.2.1)), (b5, .inl (cI, 512, .inl y.2.2.2.2.2.2.2.1)), (b6, .inl (cI, 512, .inl y.2.2.2.2.2.2.2.2.1)), (b7, .inl (cI, 512, .inl y.2.2.2.2.2.2.2.2.2))]) (rest := [.int 1024]) (D := D) (A := A) (H0 := s.heap) (fun J42 => ?_) (fun H locs hP hD hS => ?_)
      ·
        refine lv_if_eq (tgt := 41) hx hb dM_generate_32 (by decide) (fun h3 => ?_) (fun h3 => ?_)
        ·
          refine lv_iconst (v := 0) hx hb dM_generate_41 (by decide) ?_
          exact J42 _ _ hP hD hS _ ((if_pos h3).symm)
        ·
          refine lv_sipush (v := 2048) hx hb dM_generate_35 (by decide) ?_
          refine lv_goto hx hb dM_generate_38 (tgt := 42) (by decide) ?_
          exact J42 _ _ hP hD hS _ ((if_neg h3).symm)
      refine lv_iadd hx hb dM_generate_42 ?_
      refine lv_iload_n hx hb dM_generate_43 rfl (lv_at hl 3 rfl) ?_
      refine lv_bipush (v := 8) hx hb dM_generate_44 (by decide) ?_
      refine kcI (isR := [0, 1, 2, 3, 4, 5, 6, 7]) (isC := []) (wr := [(bo, .inr (3, [.ref b1, .int y.2.1, .ref b2, .ref b3, .int (nI y.2.2.2.2.1), .int y.2.2.2.2.2.1, .ref b4, .ref b5, .ref b6, .ref b7])), (b1, .inl (cI, 3, .inl y.1)), (b2, .inl (cI, 3, .inl y.2.2.1)), (b3, .inl (cI, 3, .inl y.2.2.2.1)), (b4, .inl (cZ, 512, .inl y.2.2.2.2.2.2.1)), (b5, .inl (cI, 512, .inl y.2.2.2.2.2.2.2.1)), (b6, .inl (cI, 512, .inl y.2.2.2.2.2.2.2.2.1)), (b7, .inl (cI, 512, .inl y.2.2.2.2.2.2.2.2.2))]) (w2 := [(bo, .inr (3, [.ref b1, .int y.2.1, .ref b2, .ref b3, .int (nI y.2.2.2.2.1), .int y.2.2.2.2.2.1, .ref b4, .ref b5, .ref b6, .ref b7])), (b1, .inl (cI, 3, .inl y.1)), (b2, .inl (cI, 3, .inl y.2.2.1)), (b3, .inl (cI, 3, .inl y.2.2.2.1)), (b4, .inl (cZ, 512, .inl y.2.2.2.2.2.2.1)), (b5, .inl (cI, 512, .inl y.2.2.2.2.2.2.2.1)), (b6, .inl (cI, 512, .inl y.2.2.2.2.2.2.2.2.1)), (b7, .inl (cI, 512, .inl y.2.2.2.2.2.2.2.2.2))]) (va_runS (As := [.int g2, .int 8]) (rest := [.int (1024 + (if (zm_has g2 4) = 0 then (0 : Int32) else (2048 : Int32)))]) ⟨hx, hb, hml, hown, hts⟩ (km_has l D cI cZ g2 8 _) ⟨(callB_of 2 hts gd_yM_has rfl rfl rfl (hts _ mw27) (hts _ mw333) (by decide +kernel) ⟨Nat.le_of_ble_eq_true rfl, Nat.le_of_ble_eq_true rfl⟩), hts _ mw334⟩ (kpreS hNw hP hD hK [] rfl (by decide)) rfl rfl hl.1 rfl (lv_room (Nat.le_of_ble_eq_true rfl)) dM_generate_46 ⟨Nat.le_of_ble_eq_true rfl, Nat.le_of_ble_eq_true rfl⟩) hP hD hS hA [0, 1, 2, 3, 4, 5, 6, 7] rfl rfl (by decide) (by decide) (by decide) rfl (fun H locs hP hD hS => ?_)
      refine kJoin (pcJ := 59) (z := (if (zm_has g2 8) = 0 then (4096 : Int32) else (0 : Int32))) (ws := [(bo, .inr (3, [.ref b1, .int y.2.1, .ref b2, .ref b3, .int (nI y.2.2.2.2.1), .int y.2.2.2.2.2.1, .ref b4, .ref b5, .ref b6, .ref b7])), (b1, .inl (cI, 3, .inl y.1)), (b2, .inl (cI, 3, .inl y.2.2.1)), (b3, .inl (cI, 3, .inl y.2.2.2.1)), (b4, .inl (cZ, 512, .inl y.2.2.2.2.2.2.1)), (b5, .inl (cI, 512, .inl y.2.2.2.2.2.2.2.1)), (b6, .inl (cI, 512, .inl y.2.2.2.2.2.2.2.2.1)), (b7, .inl (cI, 512, .inl y.2.2.2.2.2.2.2.2.2))]) (rest := [.int (1024 + (if (zm_has g2 4) = 0 then (0 : Int32) else (2048 : Int32)))]) (D := D) (A := A) (H0 := s.heap) (fun J59 => ?_) (fun H locs hP hD hS => ?_)
      ·
        refine lv_if_eq (tgt := 56) hx hb dM_generate_49 (by decide) (fun h4 => ?_) (fun h4 => ?_)
        ·
          refine lv_sipush (v := 4096) hx hb dM_generate_56 (by decide) ?_
          exact J59 _ _ hP hD hS _ ((if_pos h4).symm)
        ·
          refine lv_iconst (v := 0) hx hb dM_generate_52 (by decide) ?_
          refine lv_goto hx hb dM_generate_53 (tgt := 59) (by decide) ?_
          exact J59 _ _ hP hD hS _ ((if_neg h4).symm)
      refine lv_iadd hx hb dM_generate_59 ?_
      refine lv_istore hx hb dM_generate_60 hl (by decide) rfl (fun ls hl => ?_)
      have hl : lv_has ls 6 [(4, .int ((1024 + (if (zm_has g2 4) = 0 then (0 : Int32) else (2048 : Int32))) + (if (zm_has g2 8) = 0 then (4096 : Int32) else (0 : Int32)))), (3, .int (zm_obstacle y g1 g2 0)), (0, .ref bo), (1, .int g1), (2, .int g2)] := hl
      refine lv_aload_n hx hb dM_generate_62 rfl (lv_at hl 2 rfl) ?_
      refine va_get (D := D) (ci := 3) (v := .int y.2.2.2.2.2.1) (C := cnM) (T := ftM) (N := 10) hx hb hts inM hown hK hP 0 rfl rfl 5 (by decide) (hts _ mw294) (fun _ h9 => h9) rfl dM_generate_63 ?_
      refine lv_ldc (v := 1234567) hx hb hown (hts _ mw375) dM_generate_66 ?_
      refine kcI (isR := [0, 1, 2, 3, 4, 5, 6, 7]) (isC := []) (wr := [(bo, .inr (3, [.ref b1, .int y.2.1, .ref b2, .ref b3, .int (nI y.2.2.2.2.1), .int y.2.2.2.2.2.1, .ref b4, .ref b5, .ref b6, .ref b7])), (b1, .inl (cI, 3, .inl y.1)), (b2, .inl (cI, 3, .inl y.2.2.1)), (b3, .inl (cI, 3, .inl y.2.2.2.1)), (b4, .inl (cZ, 512, .inl y.2.2.2.2.2.2.1)), (b5, .inl (cI, 512, .inl y.2.2.2.2.2.2.2.1)), (b6, .inl (cI, 512, .inl y.2.2.2.2.2.2.2.2.1)), (b7, .inl (cI, 512, .inl y.2.2.2.2.2.2.2.2.2))]) (w2 := [(bo, .inr (3, [.ref b1, .int y.2.1, .ref b2, .ref b3, .int (nI y.2.2.2.2.1), .int y.2.2.2.2.2.1, .ref b4, .ref b5, .ref b6, .ref b7])), (b1, .inl (cI, 3, .inl y.1)), (b2, .inl (cI, 3, .inl y.2.2.1)), (b3, .inl (cI, 3, .inl y.2.2.2.1)), (b4, .inl (cZ, 512, .inl y.2.2.2.2.2.2.1)), (b5, .inl (cI, 512, .inl y.2.2.2.2.2.2.2.1)), (b6, .inl (cI, 512, .inl y.2.2.2.2.2.2.2.2.1)), (b7, .inl (cI, 512, .inl y.2.2.2.2.2.2.2.2.2))]) (va_runS (As := [.int y.2.2.2.2.2.1, .int 1234567]) (rest := []) ⟨hx, hb, hml, hown, hts⟩ (km_mac l D cI cZ y.2.2.2.2.2.1 1234567 _) ⟨(callB_of 2 hts gd_yM_mac rfl rfl rfl (hts _ mw27) (hts _ mw376) (by decide +kernel) ⟨Nat.le_of_ble_eq_true rfl, Nat.le_of_ble_eq_true rfl⟩), hts _ mw377⟩ (kpreS hNw hP hD hK [] rfl (by decide)) rfl rfl hl.1 rfl (lv_room (Nat.le_of_ble_eq_true rfl)) dM_generate_68 ⟨Nat.le_of_ble_eq_true rfl, Nat.le_of_ble_eq_true rfl⟩) hP hD hS hA [0, 1, 2, 3, 4, 5, 6, 7] rfl rfl (by decide) (by decide) (by decide) rfl (fun H locs hP hD hS => ?_)
      refine lv_istore hx hb dM_generate_71 hl (by decide) rfl (fun ls hl => ?_)
      have hl : lv_has ls 6 [(5, .int (zm_mac y.2.2.2.2.2.1 1234567)), (4, .int ((1024 + (if (zm_has g2 4) = 0 then (0 : Int32) else (2048 : Int32))) + (if (zm_has g2 8) = 0 then (4096 : Int32) else (0 : Int32)))), (3, .int (zm_obstacle y g1 g2 0)), (0, .ref bo), (1, .int g1), (2, .int g2)] := hl
      refine lv_aload_n hx hb dM_generate_73 rfl (lv_at hl 3 rfl) ?_
      refine lv_dup hx hb dM_generate_74 rfl ?_
      refine va_get (D := D) (ci := 3) (v := .int y.2.2.2.2.2.1) (C := cnM) (T := ftM) (N := 10) hx hb hts inM hown hK hP 0 rfl rfl 5 (by decide) (hts _ mw294) (fun _ h9 => h9) rfl dM_generate_75 ?_
      refine lv_iconst (v := 1) hx hb dM_generate_78 (by decide) ?_
      refine lv_iadd hx hb dM_generate_79 ?_
      refine va_put (D := D) (ci := 3) (v := .int (y.2.2.2.2.2.1 + 1)) (ty := (.int)) (C := cnM) (T := ftM) (N := 10) hx hb hts inM tyM tyM_ok nmM hown hK hP hD hS 0 rfl rfl 5 (by decide) (hts _ mw294) (fun _ h9 => h9) rfl (by decide +kernel) rfl rfl (Nat.le_of_ble_eq_true rfl) dM_generate_80 (fun H locs hP hD hS => ?_)
      have hP : va_P D vwCl [(bo, .inr (3, [.ref b1, .int y.2.1, .ref b2, .ref b3, .int (nI y.2.2.2.2.1), .int (y.2.2.2.2.2.1 + 1), .ref b4, .ref b5, .ref b6, .ref b7])), (b1, .inl (cI, 3, .inl y.1)), (b2, .inl (cI, 3, .inl y.2.2.1)), (b3, .inl (cI, 3, .inl y.2.2.2.1)), (b4, .inl (cZ, 512, .inl y.2.2.2.2.2.2.1)), (b5, .inl (cI, 512, .inl y.2.2.2.2.2.2.2.1)), (b6, .inl (cI, 512, .inl y.2.2.2.2.2.2.2.2.1)), (b7, .inl (cI, 512, .inl y.2.2.2.2.2.2.2.2.2))] H := hP
      have hD : va_D A [(bo, .inr (3, [.ref b1, .int y.2.1, .ref b2, .ref b3, .int (nI y.2.2.2.2.1), .int (y.2.2.2.2.2.1 + 1), .ref b4, .ref b5, .ref b6, .ref b7])), (b1, .inl (cI, 3, .inl y.1)), (b2, .inl (cI, 3, .inl y.2.2.1)), (b3, .inl (cI, 3, .inl y.2.2.2.1)), (b4, .inl (cZ, 512, .inl y.2.2.2.2.2.2.1)), (b5, .inl (cI, 512, .inl y.2.2.2.2.2.2.2.1)), (b6, .inl (cI, 512, .inl y.2.2.2.2.2.2.2.2.1)), (b7, .inl (cI, 512, .inl y.2.2.2.2.2.2.2.2.2))] := hD
      refine lv_aload_n hx hb dM_generate_83 rfl (lv_at hl 3 rfl) ?_
      refine lv_iload_n hx hb dM_generate_84 rfl (lv_at hl 4 rfl) ?_
      refine lv_iload_n hx hb dM_generate_85 rfl (lv_at hl 5 rfl) ?_
      refine lv_iload hx hb dM_generate_86 (lv_at hl 1 rfl) ?_
      refine lv_iadd hx hb dM_generate_88 ?_
      refine lv_iload hx hb dM_generate_89 (lv_at hl 0 rfl) ?_
      refine kcI (isR := []) (isC := [0, 1, 2, 3, 4, 5, 6, 7]) (wr := []) (w2 := [(bo, .inr (3, [.ref b1, .int ((zm_enter (y.1, y.2.1, y.2.2.1, y.2.2.2.1, y.2.2.2.2.1, (y.2.2.2.2.2.1 + 1), y.2.2.2.2.2.2.1, y.2.2.2.2.2.2.2.1, y.2.2.2.2.2.2.2.2.1, y.2.2.2.2.2.2.2.2.2) g1 (g2 + ((1024 + (if (zm_has g2 4) = 0 then (0 : Int32) else (2048 : Int32))) + (if (zm_has g2 8) = 0 then (4096 : Int32) else (0 : Int32)))) (zm_mac y.2.2.2.2.2.1 1234567)).2.2.1), .ref b2, .ref b3, .int (nI (zm_enter (y.1, y.2.1, y.2.2.1, y.2.2.2.1, y.2.2.2.2.1, (y.2.2.2.2.2.1 + 1), y.2.2.2.2.2.2.1, y.2.2.2.2.2.2.2.1, y.2.2.2.2.2.2.2.2.1, y.2.2.2.2.2.2.2.2.2) g1 (g2 + ((1024 + (if (zm_has g2 4) = 0 then (0 : Int32) else (2048 : Int32))) + (if (zm_has g2 8) = 0 then (4096 : Int32) else (0 : Int32)))) (zm_mac y.2.2.2.2.2.1 1234567)).2.2.2.2.2.1), .int ((zm_enter (y.1, y.2.1, y.2.2.1, y.2.2.2.1, y.2.2.2.2.1, (y.2.2.2.2.2.1 + 1), y.2.2.2.2.2.2.1, y.2.2.2.2.2.2.2.1, y.2.2.2.2.2.2.2.2.1, y.2.2.2.2.2.2.2.2.2) g1 (g2 + ((1024 + (if (zm_has g2 4) = 0 then (0 : Int32) else (2048 : Int32))) + (if (zm_has g2 8) = 0 then (4096 : Int32) else (0 : Int32)))) (zm_mac y.2.2.2.2.2.1 1234567)).2.2.2.2.2.2.1), .ref b4, .ref b5, .ref b6, .ref b7])), (b1, .inl (cI, 3, .inl ((zm_enter (y.1, y.2.1, y.2.2.1, y.2.2.2.1, y.2.2.2.2.1, (y.2.2.2.2.2.1 + 1), y.2.2.2.2.2.2.1, y.2.2.2.2.2.2.2.1, y.2.2.2.2.2.2.2.2.1, y.2.2.2.2.2.2.2.2.2) g1 (g2 + ((1024 + (if (zm_has g2 4) = 0 then (0 : Int32) else (2048 : Int32))) + (if (zm_has g2 8) = 0 then (4096 : Int32) else (0 : Int32)))) (zm_mac y.2.2.2.2.2.1 1234567)).2.1))), (b2, .inl (cI, 3, .inl ((zm_enter (y.1, y.2.1, y.2.2.1, y.2.2.2.1, y.2.2.2.2.1, (y.2.2.2.2.2.1 + 1), y.2.2.2.2.2.2.1, y.2.2.2.2.2.2.2.1, y.2.2.2.2.2.2.2.2.1, y.2.2.2.2.2.2.2.2.2) g1 (g2 + ((1024 + (if (zm_has g2 4) = 0 then (0 : Int32) else (2048 : Int32))) + (if (zm_has g2 8) = 0 then (4096 : Int32) else (0 : Int32)))) (zm_mac y.2.2.2.2.2.1 1234567)).2.2.2.1))), (b3, .inl (cI, 3, .inl ((zm_enter (y.1, y.2.1, y.2.2.1, y.2.2.2.1, y.2.2.2.2.1, (y.2.2.2.2.2.1 + 1), y.2.2.2.2.2.2.1, y.2.2.2.2.2.2.2.1, y.2.2.2.2.2.2.2.2.1, y.2.2.2.2.2.2.2.2.2) g1 (g2 + ((1024 + (if (zm_has g2 4) = 0 then (0 : Int32) else (2048 : Int32))) + (if (zm_has g2 8) = 0 then (4096 : Int32) else (0 : Int32)))) (zm_mac y.2.2.2.2.2.1 1234567)).2.2.2.2.1))), (b4, .inl (cZ, 512, .inl ((zm_enter (y.1, y.2.1, y.2.2.1, y.2.2.2.1, y.2.2.2.2.1, (y.2.2.2.2.2.1 + 1), y.2.2.2.2.2.2.1, y.2.2.2.2.2.2.2.1, y.2.2.2.2.2.2.2.2.1, y.2.2.2.2.2.2.2.2.2) g1 (g2 + ((1024 + (if (zm_has g2 4) = 0 then (0 : Int32) else (2048 : Int32))) + (if (zm_has g2 8) = 0 then (4096 : Int32) else (0 : Int32)))) (zm_mac y.2.2.2.2.2.1 1234567)).2.2.2.2.2.2.2.1))), (b5, .inl (cI, 512, .inl ((zm_enter (y.1, y.2.1, y.2.2.1, y.2.2.2.1, y.2.2.2.2.1, (y.2.2.2.2.2.1 + 1), y.2.2.2.2.2.2.1, y.2.2.2.2.2.2.2.1, y.2.2.2.2.2.2.2.2.1, y.2.2.2.2.2.2.2.2.2) g1 (g2 + ((1024 + (if (zm_has g2 4) = 0 then (0 : Int32) else (2048 : Int32))) + (if (zm_has g2 8) = 0 then (4096 : Int32) else (0 : Int32)))) (zm_mac y.2.2.2.2.2.1 1234567)).2.2.2.2.2.2.2.2.1))), (b6, .inl (cI, 512, .inl ((zm_enter (y.1, y.2.1, y.2.2.1, y.2.2.2.1, y.2.2.2.2.1, (y.2.2.2.2.2.1 + 1), y.2.2.2.2.2.2.1, y.2.2.2.2.2.2.2.1, y.2.2.2.2.2.2.2.2.1, y.2.2.2.2.2.2.2.2.2) g1 (g2 + ((1024 + (if (zm_has g2 4) = 0 then (0 : Int32) else (2048 : Int32))) + (if (zm_has g2 8) = 0 then (4096 : Int32) else (0 : Int32)))) (zm_mac y.2.2.2.2.2.1 1234567)).2.2.2.2.2.2.2.2.2.1))), (b7, .inl (cI, 512, .inl ((zm_enter (y.1, y.2.1, y.2.2.1, y.2.2.2.1, y.2.2.2.2.1, (y.2.2.2.2.2.1 + 1), y.2.2.2.2.2.2.1, y.2.2.2.2.2.2.2.1, y.2.2.2.2.2.2.2.2.1, y.2.2.2.2.2.2.2.2.2) g1 (g2 + ((1024 + (if (zm_has g2 4) = 0 then (0 : Int32) else (2048 : Int32))) + (if (zm_has g2 8) = 0 then (4096 : Int32) else (0 : Int32)))) (zm_mac y.2.2.2.2.2.1 1234567)).2.2.2.2.2.2.2.2.2.2)))]) (va_runV (As := [.int g1, .int (g2 + ((1024 + (if (zm_has g2 4) = 0 then (0 : Int32) else (2048 : Int32))) + (if (zm_has g2 8) = 0 then (4096 : Int32) else (0 : Int32)))), .int (zm_mac y.2.2.2.2.2.1 1234567)]) (rest := []) ⟨hx, hb, hml, hown, hts⟩ (km_enter l D cI cZ bo b1 b2 b3 b4 b5 b6 b7 (y.1, y.2.1, y.2.2.1, y.2.2.2.1, y.2.2.2.2.1, (y.2.2.2.2.2.1 + 1), y.2.2.2.2.2.2.1, y.2.2.2.2.2.2.2.1, y.2.2.2.2.2.2.2.2.1, y.2.2.2.2.2.2.2.2.2) g1 (g2 + ((1024 + (if (zm_has g2 4) = 0 then (0 : Int32) else (2048 : Int32))) + (if (zm_has g2 8) = 0 then (4096 : Int32) else (0 : Int32)))) (zm_mac y.2.2.2.2.2.1 1234567) (hn) _) ⟨(callB_of 3 hts gd_yM_enter rfl rfl rfl (hts _ mw27) (hts _ mw367) (by decide +kernel) ⟨Nat.le_of_ble_eq_true rfl, Nat.le_of_ble_eq_true rfl⟩), hts _ mw369, hts _ mw19⟩ (kpreV hNw hP hD hK [0, 1, 2, 3, 4, 5, 6, 7] rfl (by decide) 0 rfl (ci := 3) rfl) rfl rfl hl.1 rfl (lv_room (Nat.le_of_ble_eq_true rfl)) dM_generate_91 ⟨Nat.le_of_ble_eq_true rfl, Nat.le_of_ble_eq_true rfl⟩) hP hD hS hA [0, 1, 2, 3, 4, 5, 6, 7] rfl rfl (by decide) (by decide) (by decide) rfl (fun H locs hP hD hS => ?_)
      exact kretI (wf := fun st => wY cI cZ bo b1 b2 b3 b4 b5 b6 b7 st) (st := (zm_enter (y.1, y.2.1, y.2.2.1, y.2.2.2.1, y.2.2.2.2.1, (y.2.2.2.2.2.1 + 1), y.2.2.2.2.2.2.1, y.2.2.2.2.2.2.2.1, y.2.2.2.2.2.2.2.2.1, y.2.2.2.2.2.2.2.2.2) g1 (g2 + ((1024 + (if (zm_has g2 4) = 0 then (0 : Int32) else (2048 : Int32))) + (if (zm_has g2 8) = 0 then (4096 : Int32) else (0 : Int32)))) (zm_mac y.2.2.2.2.2.1 1234567)).2) (by first | (rw [zm_generate, if_pos h1, if_pos h2]; done) | exact ((if_pos h1).trans (if_pos h2))) hx hb hr hlk hS hP hD hK dM_generate_94
    ·
      refine lv_iload_n hx hb dM_generate_22 rfl (lv_at hl 0 rfl) ?_
      exact kretI (wf := fun st => wY cI cZ bo b1 b2 b3 b4 b5 b6 b7 st) (st := y) (by first | (rw [zm_generate, if_pos h1, if_neg h2]; done) | exact ((if_pos h1).trans (if_neg h2))) hx hb hr hlk hS hP hD hK dM_generate_23
  ·
    refine lv_iconst (v := (-1)) hx hb dM_generate_8 (by decide) ?_
    exact kretI (wf := fun st => wY cI cZ bo b1 b2 b3 b4 b5 b6 b7 st) (st := y) (by first | (rw [zm_generate, if_neg h1]; done) | exact (if_neg h1)) hx hb hr hlk hS hP hD hK dM_generate_9

def zm_destroy (y : YS) (g1 : Int32) (g2 : Int32) : Int32 × YS := (if (zm_closed y g1) = 0 then (if (zm_hidden y g2) = 0 then (if (zm_readOnly y g1 (y.2.2.2.2.2.2.2.2.2 (Int32.toNatClampNeg (g2 - 1)))) = 0 then (0, (y.1, y.2.1, y.2.2.1, y.2.2.2.1, y.2.2.2.2.1, y.2.2.2.2.2.1, (upd y.2.2.2.2.2.2.1 (Int32.toNatClampNeg (g2 - 1)) 0), y.2.2.2.2.2.2.2.1, y.2.2.2.2.2.2.2.2.1, y.2.2.2.2.2.2.2.2.2)) else ((-4), y)) else ((-2), y)) else ((-1), y))

set_option maxHeartbeats 4000000 in
set_option maxRecDepth 100000 in
theorem km_destroy (l : Launch) (D : va_G) (cI cZ : ClassId) (bo b1 b2 b3 b4 b5 b6 b7 : Nat) (y : YS) (g1 : Int32) (g2 : Int32) (hn : y.2.2.2.2.1 ≤ 512) : kI l yM_destroy wsM_destroy (rmOf 3 63) D (kT cI cZ) [.ref bo, .int g1, .int g2] (wY cI cZ bo b1 b2 b3 b4 b5 b6 b7 y) (zm_destroy y g1 g2).1 (wY cI cZ bo b1 b2 b3 b4 b5 b6 b7 ((zm_destroy y g1 g2).2)) := by
  intro sz
  refine kOf (Qc := fun A => kQi D (kT cI cZ) A (zm_destroy y g1 g2).1 (wY cI cZ bo b1 b2 b3 b4 b5 b6 b7 ((zm_destroy y g1 g2).2))) (cc := cM_destroy) (maxL := 3) (ret := some .int) (by decide) rfl (Nat.le_of_ble_eq_true rfl) ?_ sz
  intro p e s m args below meth c A ls hx hb hml hown hts hNw hr hlk hin hA hS hP hD hK hl
  show W p l e (rmOf 3 63) s m args below meth c s.heap [] 0 0 (MQ below (kQi D (kT cI cZ) A (zm_destroy y g1 g2).1 (wY cI cZ bo b1 b2 b3 b4 b5 b6 b7 ((zm_destroy y g1 g2).2))) args s 0 0 A) (F0 m 0 ls [])
  have hts : ∀ q ∈ lw_g, q.before args s = true := fun q h => hts q (List.mem_cons_of_mem _ h)
  have hown : s.vm.findClass cnM = some m.cls := hown
  have hl : lv_has ls 3 [(0, .ref bo), (1, .int g1), (2, .int g2)] := hl
  have hP : va_P D vwCl [(bo, .inr (3, [.ref b1, .int y.2.1, .ref b2, .ref b3, .int (nI y.2.2.2.2.1), .int y.2.2.2.2.2.1, .ref b4, .ref b5, .ref b6, .ref b7])), (b1, .inl (cI, 3, .inl y.1)), (b2, .inl (cI, 3, .inl y.2.2.1)), (b3, .inl (cI, 3, .inl y.2.2.2.1)), (b4, .inl (cZ, 512, .inl y.2.2.2.2.2.2.1)), (b5, .inl (cI, 512, .inl y.2.2.2.2.2.2.2.1)), (b6, .inl (cI, 512, .inl y.2.2.2.2.2.2.2.2.1)), (b7, .inl (cI, 512, .inl y.2.2.2.2.2.2.2.2.2))] s.heap := hP
  have hD : va_D A [(bo, .inr (3, [.ref b1, .int y.2.1, .ref b2, .ref b3, .int (nI y.2.2.2.2.1), .int y.2.2.2.2.2.1, .ref b4, .ref b5, .ref b6, .ref b7])), (b1, .inl (cI, 3, .inl y.1)), (b2, .inl (cI, 3, .inl y.2.2.1)), (b3, .inl (cI, 3, .inl y.2.2.2.1)), (b4, .inl (cZ, 512, .inl y.2.2.2.2.2.2.1)), (b5, .inl (cI, 512, .inl y.2.2.2.2.2.2.2.1)), (b6, .inl (cI, 512, .inl y.2.2.2.2.2.2.2.2.1)), (b7, .inl (cI, 512, .inl y.2.2.2.2.2.2.2.2.2))] := hD
  refine lv_aload_n hx hb dM_destroy_0 rfl (lv_at hl 0 rfl) ?_
  refine lv_iload_n hx hb dM_destroy_1 rfl (lv_at hl 1 rfl) ?_
  refine kcI (isR := []) (isC := [0, 1, 2, 3, 4, 5, 6, 7]) (wr := []) (w2 := [(bo, .inr (3, [.ref b1, .int y.2.1, .ref b2, .ref b3, .int (nI y.2.2.2.2.1), .int y.2.2.2.2.2.1, .ref b4, .ref b5, .ref b6, .ref b7])), (b1, .inl (cI, 3, .inl y.1)), (b2, .inl (cI, 3, .inl y.2.2.1)), (b3, .inl (cI, 3, .inl y.2.2.2.1)), (b4, .inl (cZ, 512, .inl y.2.2.2.2.2.2.1)), (b5, .inl (cI, 512, .inl y.2.2.2.2.2.2.2.1)), (b6, .inl (cI, 512, .inl y.2.2.2.2.2.2.2.2.1)), (b7, .inl (cI, 512, .inl y.2.2.2.2.2.2.2.2.2))]) (va_runV (As := [.int g1]) (rest := []) ⟨hx, hb, hml, hown, hts⟩ (km_closed l D cI cZ bo b1 b2 b3 b4 b5 b6 b7 y g1 _) ⟨(callB_of 1 hts gd_yM_closed rfl rfl rfl (hts _ mw27) (hts _ mw329) (by decide +kernel) ⟨Nat.le_of_ble_eq_true rfl, Nat.le_of_ble_eq_true rfl⟩), hts _ mw331, hts _ mw15⟩ (kpreV hNw hP hD hK [0, 1, 2, 3, 4, 5, 6, 7] rfl (by decide) 0 rfl (ci := 3) rfl) rfl rfl hl.1 rfl (lv_room (Nat.le_of_ble_eq_true rfl)) dM_destroy_2 ⟨Nat.le_of_ble_eq_true rfl, Nat.le_of_ble_eq_true rfl⟩) hP hD hS hA [0, 1, 2, 3, 4, 5, 6, 7] rfl rfl (by decide) (by decide) (by decide) rfl (fun H locs hP hD hS => ?_)
  refine lv_if_eq (tgt := 10) hx hb dM_destroy_5 (by decide) (fun h1 => ?_) (fun h1 => ?_)
  ·
    refine lv_aload_n hx hb dM_destroy_10 rfl (lv_at hl 0 rfl) ?_
    refine lv_iload_n hx hb dM_destroy_11 rfl (lv_at hl 2 rfl) ?_
    refine kcI (isR := []) (isC := [0, 1, 2, 3, 4, 5, 6, 7]) (wr := []) (w2 := [(bo, .inr (3, [.ref b1, .int y.2.1, .ref b2, .ref b3, .int (nI y.2.2.2.2.1), .int y.2.2.2.2.2.1, .ref b4, .ref b5, .ref b6, .ref b7])), (b1, .inl (cI, 3, .inl y.1)), (b2, .inl (cI, 3, .inl y.2.2.1)), (b3, .inl (cI, 3, .inl y.2.2.2.1)), (b4, .inl (cZ, 512, .inl y.2.2.2.2.2.2.1)), (b5, .inl (cI, 512, .inl y.2.2.2.2.2.2.2.1)), (b6, .inl (cI, 512, .inl y.2.2.2.2.2.2.2.2.1)), (b7, .inl (cI, 512, .inl y.2.2.2.2.2.2.2.2.2))]) (va_runV (As := [.int g2]) (rest := []) ⟨hx, hb, hml, hown, hts⟩ (km_hidden l D cI cZ bo b1 b2 b3 b4 b5 b6 b7 y g2 (hn) _) ⟨(callB_of 1 hts gd_yM_hidden rfl rfl rfl (hts _ mw27) (hts _ mw384) (by decide +kernel) ⟨Nat.le_of_ble_eq_true rfl, Nat.le_of_ble_eq_true rfl⟩), hts _ mw386, hts _ mw20⟩ (kpreV hNw hP hD hK [0, 1, 2, 3, 4, 5, 6, 7] rfl (by decide) 0 rfl (ci := 3) rfl) rfl rfl hl.1 rfl (lv_room (Nat.le_of_ble_eq_true rfl)) dM_destroy_12 ⟨Nat.le_of_ble_eq_true rfl, Nat.le_of_ble_eq_true rfl⟩) hP hD hS hA [0, 1, 2, 3, 4, 5, 6, 7] rfl rfl (by decide) (by decide) (by decide) rfl (fun H locs hP hD hS => ?_)
    refine lv_if_eq (tgt := 21) hx hb dM_destroy_15 (by decide) (fun h2 => ?_) (fun h2 => ?_)
    ·
      refine lv_aload_n hx hb dM_destroy_21 rfl (lv_at hl 0 rfl) ?_
      refine lv_iload_n hx hb dM_destroy_22 rfl (lv_at hl 1 rfl) ?_
      refine lv_aload_n hx hb dM_destroy_23 rfl (lv_at hl 0 rfl) ?_
      refine va_get (D := D) (ci := 3) (v := .ref b7) (C := cnM) (T := ftM) (N := 10) hx hb hts inM hown hK hP 0 rfl rfl 9 (by decide) (hts _ mw298) (fun _ h9 => h9) rfl dM_destroy_24 ?_
      refine lv_iload_n hx hb dM_destroy_27 rfl (lv_at hl 2 rfl) ?_
      refine lv_iconst (v := 1) hx hb dM_destroy_28 (by decide) ?_
      refine lv_isub hx hb dM_destroy_29 ?_
      refine va_iald hx hb hK hP 7 0 rfl rfl (zm_hidden_in hn h2) dM_destroy_30 ?_
      refine kcI (isR := []) (isC := [0, 1, 2, 3, 4, 5, 6, 7]) (wr := []) (w2 := [(bo, .inr (3, [.ref b1, .int y.2.1, .ref b2, .ref b3, .int (nI y.2.2.2.2.1), .int y.2.2.2.2.2.1, .ref b4, .ref b5, .ref b6, .ref b7])), (b1, .inl (cI, 3, .inl y.1)), (b2, .inl (cI, 3, .inl y.2.2.1)), (b3, .inl (cI, 3, .inl y.2.2.2.1)), (b4, .inl (cZ, 512, .inl y.2.2.2.2.2.2.1)), (b5, .inl (cI, 512, .inl y.2.2.2.2.2.2.2.1)), (b6, .inl (cI, 512, .inl y.2.2.2.2.2.2.2.2.1)), (b7, .inl (cI, 512, .inl y.2.2.2.2.2.2.2.2.2))]) (va_runV (As := [.int g1, .int (y.2.2.2.2.2.2.2.2.2 (Int32.toNatClampNeg (g2 - 1)))]) (rest := []) ⟨hx, hb, hml, hown, hts⟩ (km_readOnly l D cI cZ bo b1 b2 b3 b4 b5 b6 b7 y g1 (y.2.2.2.2.2.2.2.2.2 (Int32.toNatClampNeg (g2 - 1))) (zm_closed_in h1) _) ⟨(callB_of 2 hts gd_yM_readOnly rfl rfl rfl (hts _ mw27) (hts _ mw356) (by decide +kernel) ⟨Nat.le_of_ble_eq_true rfl, Nat.le_of_ble_eq_true rfl⟩), hts _ mw358, hts _ mw17⟩ (kpreV hNw hP hD hK [0, 1, 2, 3, 4, 5, 6, 7] rfl (by decide) 0 rfl (ci := 3) rfl) rfl rfl hl.1 rfl (lv_room (Nat.le_of_ble_eq_true rfl)) dM_destroy_31 ⟨Nat.le_of_ble_eq_true rfl, Nat.le_of_ble_eq_true rfl⟩) hP hD hS hA [0, 1, 2, 3, 4, 5, 6, 7] rfl rfl (by decide) (by decide) (by decide) rfl (fun H locs hP hD hS => ?_)
      refine lv_if_eq (tgt := 40) hx hb dM_destroy_34 (by decide) (fun h3 => ?_) (fun h3 => ?_)
      ·
        refine lv_aload_n hx hb dM_destroy_40 rfl (lv_at hl 0 rfl) ?_
        refine va_get (D := D) (ci := 3) (v := .ref b4) (C := cnM) (T := ftM) (N := 10) hx hb hts inM hown hK hP 0 rfl rfl 6 (by decide) (hts _ mw295) (fun _ h9 => h9) rfl dM_destroy_41 ?_
        refine lv_iload_n hx hb dM_destroy_44 rfl (lv_at hl 2 rfl) ?_
        refine lv_iconst (v := 1) hx hb dM_destroy_45 (by decide) ?_
        refine lv_isub hx hb dM_destroy_46 ?_
        refine lv_iconst (v := 0) hx hb dM_destroy_47 (by decide) ?_
        refine va_zast hx hb hK hP hD hS 4 1 rfl rfl (zm_hidden_in hn h2) dM_destroy_48 (fun H locs hP hD hS => ?_)
        rw [show vp_nar .boolean 0 = 0 from knar01 kz0] at hP hD
        have hP : va_P D vwCl [(bo, .inr (3, [.ref b1, .int y.2.1, .ref b2, .ref b3, .int (nI y.2.2.2.2.1), .int y.2.2.2.2.2.1, .ref b4, .ref b5, .ref b6, .ref b7])), (b1, .inl (cI, 3, .inl y.1)), (b2, .inl (cI, 3, .inl y.2.2.1)), (b3, .inl (cI, 3, .inl y.2.2.2.1)), (b4, .inl (cZ, 512, .inl (upd y.2.2.2.2.2.2.1 (Int32.toNatClampNeg (g2 - 1)) 0))), (b5, .inl (cI, 512, .inl y.2.2.2.2.2.2.2.1)), (b6, .inl (cI, 512, .inl y.2.2.2.2.2.2.2.2.1)), (b7, .inl (cI, 512, .inl y.2.2.2.2.2.2.2.2.2))] H := hP
        have hD : va_D A [(bo, .inr (3, [.ref b1, .int y.2.1, .ref b2, .ref b3, .int (nI y.2.2.2.2.1), .int y.2.2.2.2.2.1, .ref b4, .ref b5, .ref b6, .ref b7])), (b1, .inl (cI, 3, .inl y.1)), (b2, .inl (cI, 3, .inl y.2.2.1)), (b3, .inl (cI, 3, .inl y.2.2.2.1)), (b4, .inl (cZ, 512, .inl (upd y.2.2.2.2.2.2.1 (Int32.toNatClampNeg (g2 - 1)) 0))), (b5, .inl (cI, 512, .inl y.2.2.2.2.2.2.2.1)), (b6, .inl (cI, 512, .inl y.2.2.2.2.2.2.2.2.1)), (b7, .inl (cI, 512, .inl y.2.2.2.2.2.2.2.2.2))] := hD
        refine lv_iconst (v := 0) hx hb dM_destroy_49 (by decide) ?_
        exact kretI (wf := fun st => wY cI cZ bo b1 b2 b3 b4 b5 b6 b7 st) (st := (y.1, y.2.1, y.2.2.1, y.2.2.2.1, y.2.2.2.2.1, y.2.2.2.2.2.1, (upd y.2.2.2.2.2.2.1 (Int32.toNatClampNeg (g2 - 1)) 0), y.2.2.2.2.2.2.2.1, y.2.2.2.2.2.2.2.2.1, y.2.2.2.2.2.2.2.2.2)) (by first | (rw [zm_destroy, if_pos h1, if_pos h2, if_pos h3]; done) | exact ((if_pos h1).trans ((if_pos h2).trans (if_pos h3)))) hx hb hr hlk hS hP hD hK dM_destroy_50
      ·
        refine lv_bipush (v := (-4)) hx hb dM_destroy_37 (by decide) ?_
        exact kretI (wf := fun st => wY cI cZ bo b1 b2 b3 b4 b5 b6 b7 st) (st := y) (by first | (rw [zm_destroy, if_pos h1, if_pos h2, if_neg h3]; done) | exact ((if_pos h1).trans ((if_pos h2).trans (if_neg h3)))) hx hb hr hlk hS hP hD hK dM_destroy_39
    ·
      refine lv_bipush (v := (-2)) hx hb dM_destroy_18 (by decide) ?_
      exact kretI (wf := fun st => wY cI cZ bo b1 b2 b3 b4 b5 b6 b7 st) (st := y) (by first | (rw [zm_destroy, if_pos h1, if_neg h2]; done) | exact ((if_pos h1).trans (if_neg h2))) hx hb hr hlk hS hP hD hK dM_destroy_20
  ·
    refine lv_iconst (v := (-1)) hx hb dM_destroy_8 (by decide) ?_
    exact kretI (wf := fun st => wY cI cZ bo b1 b2 b3 b4 b5 b6 b7 st) (st := y) (by first | (rw [zm_destroy, if_neg h1]; done) | exact (if_neg h1)) hx hb hr hlk hS hP hD hK dM_destroy_9

def zm_attributes (y : YS) (g1 : Int32) (g2 : Int32) : Int32 := (if (zm_closed y g1) = 0 then (if (zm_hidden y g2) = 0 then (y.2.2.2.2.2.2.2.2.2 (Int32.toNatClampNeg (g2 - 1))) else ((-2) : Int32)) else ((-1) : Int32))

set_option maxHeartbeats 4000000 in
set_option maxRecDepth 100000 in
theorem km_attributes (l : Launch) (D : va_G) (cI cZ : ClassId) (bo b1 b2 b3 b4 b5 b6 b7 : Nat) (y : YS) (g1 : Int32) (g2 : Int32) (hn : y.2.2.2.2.1 ≤ 512) : kI l yM_attributes wsM_attributes (rmOf 3 63) D (kT cI cZ) [.ref bo, .int g1, .int g2] (wY cI cZ bo b1 b2 b3 b4 b5 b6 b7 y) (zm_attributes y g1 g2) (wY cI cZ bo b1 b2 b3 b4 b5 b6 b7 y) := by
  intro sz
  refine kOf (Qc := fun A => kQi D (kT cI cZ) A (zm_attributes y g1 g2) (wY cI cZ bo b1 b2 b3 b4 b5 b6 b7 y)) (cc := cM_attributes) (maxL := 3) (ret := some .int) (by decide) rfl (Nat.le_of_ble_eq_true rfl) ?_ sz
  intro p e s m args below meth c A ls hx hb hml hown hts hNw hr hlk hin hA hS hP hD hK hl
  show W p l e (rmOf 3 63) s m args below meth c s.heap [] 0 0 (MQ below (kQi D (kT cI cZ) A (zm_attributes y g1 g2) (wY cI cZ bo b1 b2 b3 b4 b5 b6 b7 y)) args s 0 0 A) (F0 m 0 ls [])
  have hts : ∀ q ∈ lw_g, q.before args s = true := fun q h => hts q (List.mem_cons_of_mem _ h)
  have hown : s.vm.findClass cnM = some m.cls := hown
  have hl : lv_has ls 3 [(0, .ref bo), (1, .int g1), (2, .int g2)] := hl
  have hP : va_P D vwCl [(bo, .inr (3, [.ref b1, .int y.2.1, .ref b2, .ref b3, .int (nI y.2.2.2.2.1), .int y.2.2.2.2.2.1, .ref b4, .ref b5, .ref b6, .ref b7])), (b1, .inl (cI, 3, .inl y.1)), (b2, .inl (cI, 3, .inl y.2.2.1)), (b3, .inl (cI, 3, .inl y.2.2.2.1)), (b4, .inl (cZ, 512, .inl y.2.2.2.2.2.2.1)), (b5, .inl (cI, 512, .inl y.2.2.2.2.2.2.2.1)), (b6, .inl (cI, 512, .inl y.2.2.2.2.2.2.2.2.1)), (b7, .inl (cI, 512, .inl y.2.2.2.2.2.2.2.2.2))] s.heap := hP
  have hD : va_D A [(bo, .inr (3, [.ref b1, .int y.2.1, .ref b2, .ref b3, .int (nI y.2.2.2.2.1), .int y.2.2.2.2.2.1, .ref b4, .ref b5, .ref b6, .ref b7])), (b1, .inl (cI, 3, .inl y.1)), (b2, .inl (cI, 3, .inl y.2.2.1)), (b3, .inl (cI, 3, .inl y.2.2.2.1)), (b4, .inl (cZ, 512, .inl y.2.2.2.2.2.2.1)), (b5, .inl (cI, 512, .inl y.2.2.2.2.2.2.2.1)), (b6, .inl (cI, 512, .inl y.2.2.2.2.2.2.2.2.1)), (b7, .inl (cI, 512, .inl y.2.2.2.2.2.2.2.2.2))] := hD
  refine lv_aload_n hx hb dM_attributes_0 rfl (lv_at hl 0 rfl) ?_
  refine lv_iload_n hx hb dM_attributes_1 rfl (lv_at hl 1 rfl) ?_
  refine kcI (isR := []) (isC := [0, 1, 2, 3, 4, 5, 6, 7]) (wr := []) (w2 := [(bo, .inr (3, [.ref b1, .int y.2.1, .ref b2, .ref b3, .int (nI y.2.2.2.2.1), .int y.2.2.2.2.2.1, .ref b4, .ref b5, .ref b6, .ref b7])), (b1, .inl (cI, 3, .inl y.1)), (b2, .inl (cI, 3, .inl y.2.2.1)), (b3, .inl (cI, 3, .inl y.2.2.2.1)), (b4, .inl (cZ, 512, .inl y.2.2.2.2.2.2.1)), (b5, .inl (cI, 512, .inl y.2.2.2.2.2.2.2.1)), (b6, .inl (cI, 512, .inl y.2.2.2.2.2.2.2.2.1)), (b7, .inl (cI, 512, .inl y.2.2.2.2.2.2.2.2.2))]) (va_runV (As := [.int g1]) (rest := []) ⟨hx, hb, hml, hown, hts⟩ (km_closed l D cI cZ bo b1 b2 b3 b4 b5 b6 b7 y g1 _) ⟨(callB_of 1 hts gd_yM_closed rfl rfl rfl (hts _ mw27) (hts _ mw329) (by decide +kernel) ⟨Nat.le_of_ble_eq_true rfl, Nat.le_of_ble_eq_true rfl⟩), hts _ mw331, hts _ mw15⟩ (kpreV hNw hP hD hK [0, 1, 2, 3, 4, 5, 6, 7] rfl (by decide) 0 rfl (ci := 3) rfl) rfl rfl hl.1 rfl (lv_room (Nat.le_of_ble_eq_true rfl)) dM_attributes_2 ⟨Nat.le_of_ble_eq_true rfl, Nat.le_of_ble_eq_true rfl⟩) hP hD hS hA [0, 1, 2, 3, 4, 5, 6, 7] rfl rfl (by decide) (by decide) (by decide) rfl (fun H locs hP hD hS => ?_)
  refine kJoin (pcJ := 33) (z := (if (zm_closed y g1) = 0 then (if (zm_hidden y g2) = 0 then (y.2.2.2.2.2.2.2.2.2 (Int32.toNatClampNeg (g2 - 1))) else ((-2) : Int32)) else ((-1) : Int32))) (ws := [(bo, .inr (3, [.ref b1, .int y.2.1, .ref b2, .ref b3, .int (nI y.2.2.2.2.1), .int y.2.2.2.2.2.1, .ref b4, .ref b5, .ref b6, .ref b7])), (b1, .inl (cI, 3, .inl y.1)), (b2, .inl (cI, 3, .inl y.2.2.1)), (b3, .inl (cI, 3, .inl y.2.2.2.1)), (b4, .inl (cZ, 512, .inl y.2.2.2.2.2.2.1)), (b5, .inl (cI, 512, .inl y.2.2.2.2.2.2.2.1)), (b6, .inl (cI, 512, .inl y.2.2.2.2.2.2.2.2.1)), (b7, .inl (cI, 512, .inl y.2.2.2.2.2.2.2.2.2))]) (rest := []) (D := D) (A := A) (H0 := s.heap) (fun J33 => ?_) (fun H locs hP hD hS => ?_)
  ·
    refine lv_if_eq (tgt := 12) hx hb dM_attributes_5 (by decide) (fun h1 => ?_) (fun h1 => ?_)
    ·
      refine lv_aload_n hx hb dM_attributes_12 rfl (lv_at hl 0 rfl) ?_
      refine lv_iload_n hx hb dM_attributes_13 rfl (lv_at hl 2 rfl) ?_
      refine kcI (isR := []) (isC := [0, 1, 2, 3, 4, 5, 6, 7]) (wr := []) (w2 := [(bo, .inr (3, [.ref b1, .int y.2.1, .ref b2, .ref b3, .int (nI y.2.2.2.2.1), .int y.2.2.2.2.2.1, .ref b4, .ref b5, .ref b6, .ref b7])), (b1, .inl (cI, 3, .inl y.1)), (b2, .inl (cI, 3, .inl y.2.2.1)), (b3, .inl (cI, 3, .inl y.2.2.2.1)), (b4, .inl (cZ, 512, .inl y.2.2.2.2.2.2.1)), (b5, .inl (cI, 512, .inl y.2.2.2.2.2.2.2.1)), (b6, .inl (cI, 512, .inl y.2.2.2.2.2.2.2.2.1)), (b7, .inl (cI, 512, .inl y.2.2.2.2.2.2.2.2.2))]) (va_runV (As := [.int g2]) (rest := []) ⟨hx, hb, hml, hown, hts⟩ (km_hidden l D cI cZ bo b1 b2 b3 b4 b5 b6 b7 y g2 (hn) _) ⟨(callB_of 1 hts gd_yM_hidden rfl rfl rfl (hts _ mw27) (hts _ mw384) (by decide +kernel) ⟨Nat.le_of_ble_eq_true rfl, Nat.le_of_ble_eq_true rfl⟩), hts _ mw386, hts _ mw20⟩ (kpreV hNw hP hD hK [0, 1, 2, 3, 4, 5, 6, 7] rfl (by decide) 0 rfl (ci := 3) rfl) rfl rfl hl.1 rfl (lv_room (Nat.le_of_ble_eq_true rfl)) dM_attributes_14 ⟨Nat.le_of_ble_eq_true rfl, Nat.le_of_ble_eq_true rfl⟩) hP hD hS hA [0, 1, 2, 3, 4, 5, 6, 7] rfl rfl (by decide) (by decide) (by decide) rfl (fun H locs hP hD hS => ?_)
      refine lv_if_eq (tgt := 25) hx hb dM_attributes_17 (by decide) (fun h2 => ?_) (fun h2 => ?_)
      ·
        refine lv_aload_n hx hb dM_attributes_25 rfl (lv_at hl 0 rfl) ?_
        refine va_get (D := D) (ci := 3) (v := .ref b7) (C := cnM) (T := ftM) (N := 10) hx hb hts inM hown hK hP 0 rfl rfl 9 (by decide) (hts _ mw298) (fun _ h9 => h9) rfl dM_attributes_26 ?_
        refine lv_iload_n hx hb dM_attributes_29 rfl (lv_at hl 2 rfl) ?_
        refine lv_iconst (v := 1) hx hb dM_attributes_30 (by decide) ?_
        refine lv_isub hx hb dM_attributes_31 ?_
        refine va_iald hx hb hK hP 7 0 rfl rfl (zm_hidden_in hn h2) dM_attributes_32 ?_
        exact J33 _ _ hP hD hS _ (((if_pos h1).trans (if_pos h2)).symm)
      ·
        refine lv_bipush (v := (-2)) hx hb dM_attributes_20 (by decide) ?_
        refine lv_goto hx hb dM_attributes_22 (tgt := 33) (by decide) ?_
        exact J33 _ _ hP hD hS _ (((if_pos h1).trans (if_neg h2)).symm)
    ·
      refine lv_iconst (v := (-1)) hx hb dM_attributes_8 (by decide) ?_
      refine lv_goto hx hb dM_attributes_9 (tgt := 33) (by decide) ?_
      exact J33 _ _ hP hD hS _ ((if_neg h1).symm)
  exact kretP (rfl) hx hb hr hlk hS hP hD hK dM_attributes_33

def zm_lim1 (g b v : Int32) : Int32 := (if (zm_has g b) = 0 then v else (if (zm_has v b) = 0 then v else (v - b)))

def zm_limit (y : YS) (g1 : Int32) (g2 : Int32) (g3 : Int32) : Int32 × YS := (if (zm_closed y g1) = 0 then (if (zm_hidden y g2) = 0 then (if (zm_readOnly y g1 (y.2.2.2.2.2.2.2.2.2 (Int32.toNatClampNeg (g2 - 1)))) = 0 then (if g3 = 0 then ((-5), y) else (if (zm_has g3 (-509)) = 0 then (((upd y.2.2.2.2.2.2.2.2.2 (Int32.toNatClampNeg (g2 - 1)) (if (zm_has g3 4) = 0 then (zm_lim1 g3 256 (zm_lim1 g3 128 (zm_lim1 g3 64 (zm_lim1 g3 32 (zm_lim1 g3 16 (zm_lim1 g3 8 (y.2.2.2.2.2.2.2.2.2 (Int32.toNatClampNeg (g2 - 1))))))))) else (if (zm_has (zm_lim1 g3 256 (zm_lim1 g3 128 (zm_lim1 g3 64 (zm_lim1 g3 32 (zm_lim1 g3 16 (zm_lim1 g3 8 (y.2.2.2.2.2.2.2.2.2 (Int32.toNatClampNeg (g2 - 1))))))))) 4) = 0 then ((zm_lim1 g3 256 (zm_lim1 g3 128 (zm_lim1 g3 64 (zm_lim1 g3 32 (zm_lim1 g3 16 (zm_lim1 g3 8 (y.2.2.2.2.2.2.2.2.2 (Int32.toNatClampNeg (g2 - 1))))))))) + 4) else (zm_lim1 g3 256 (zm_lim1 g3 128 (zm_lim1 g3 64 (zm_lim1 g3 32 (zm_lim1 g3 16 (zm_lim1 g3 8 (y.2.2.2.2.2.2.2.2.2 (Int32.toNatClampNeg (g2 - 1)))))))))))) (Int32.toNatClampNeg (g2 - 1))), (y.1, y.2.1, y.2.2.1, y.2.2.2.1, y.2.2.2.2.1, y.2.2.2.2.2.1, y.2.2.2.2.2.2.1, y.2.2.2.2.2.2.2.1, y.2.2.2.2.2.2.2.2.1, (upd y.2.2.2.2.2.2.2.2.2 (Int32.toNatClampNeg (g2 - 1)) (if (zm_has g3 4) = 0 then (zm_lim1 g3 256 (zm_lim1 g3 128 (zm_lim1 g3 64 (zm_lim1 g3 32 (zm_lim1 g3 16 (zm_lim1 g3 8 (y.2.2.2.2.2.2.2.2.2 (Int32.toNatClampNeg (g2 - 1))))))))) else (if (zm_has (zm_lim1 g3 256 (zm_lim1 g3 128 (zm_lim1 g3 64 (zm_lim1 g3 32 (zm_lim1 g3 16 (zm_lim1 g3 8 (y.2.2.2.2.2.2.2.2.2 (Int32.toNatClampNeg (g2 - 1))))))))) 4) = 0 then ((zm_lim1 g3 256 (zm_lim1 g3 128 (zm_lim1 g3 64 (zm_lim1 g3 32 (zm_lim1 g3 16 (zm_lim1 g3 8 (y.2.2.2.2.2.2.2.2.2 (Int32.toNatClampNeg (g2 - 1))))))))) + 4) else (zm_lim1 g3 256 (zm_lim1 g3 128 (zm_lim1 g3 64 (zm_lim1 g3 32 (zm_lim1 g3 16 (zm_lim1 g3 8 (y.2.2.2.2.2.2.2.2.2 (Int32.toNatClampNeg (g2 - 1)))))))))))))) else ((-5), y))) else ((-4), y)) else ((-2), y)) else ((-1), y))

set_option maxHeartbeats 4000000 in
set_option maxRecDepth 100000 in
theorem km_limit (l : Launch) (D : va_G) (cI cZ : ClassId) (bo b1 b2 b3 b4 b5 b6 b7 : Nat) (y : YS) (g1 : Int32) (g2 : Int32) (g3 : Int32) (hn : y.2.2.2.2.1 ≤ 512) : kI l yM_limit wsM_limit (rmOf 3 63) D (kT cI cZ) [.ref bo, .int g1, .int g2, .int g3] (wY cI cZ bo b1 b2 b3 b4 b5 b6 b7 y) (zm_limit y g1 g2 g3).1 (wY cI cZ bo b1 b2 b3 b4 b5 b6 b7 ((zm_limit y g1 g2 g3).2)) := by
  intro sz
  refine kOf (Qc := fun A => kQi D (kT cI cZ) A (zm_limit y g1 g2 g3).1 (wY cI cZ bo b1 b2 b3 b4 b5 b6 b7 ((zm_limit y g1 g2 g3).2))) (cc := cM_limit) (maxL := 6) (ret := some .int) (by decide) rfl (Nat.le_of_ble_eq_true rfl) ?_ sz
  intro p e s m args below meth c A ls hx hb hml hown hts hNw hr hlk hin hA hS hP hD hK hl
  show W p l e (rmOf 3 63) s m args below meth c s.heap [] 0 0 (MQ below (kQi D (kT cI cZ) A (zm_limit y g1 g2 g3).1 (wY cI cZ bo b1 b2 b3 b4 b5 b6 b7 ((zm_limit y g1 g2 g3).2))) args s 0 0 A) (F0 m 0 ls [])
  have hts : ∀ q ∈ lw_g, q.before args s = true := fun q h => hts q (List.mem_cons_of_mem _ h)
  have hown : s.vm.findClass cnM = some m.cls := hown
  have hl : lv_has ls 6 [(0, .ref bo), (1, .int g1), (2, .int g2), (3, .int g3)] := hl
  have hP : va_P D vwCl [(bo, .inr (3, [.ref b1, .int y.2.1, .ref b2, .ref b3, .int (nI y.2.2.2.2.1), .int y.2.2.2.2.2.1, .ref b4, .ref b5, .ref b6, .ref b7])), (b1, .inl (cI, 3, .inl y.1)), (b2, .inl (cI, 3, .inl y.2.2.1)), (b3, .inl (cI, 3, .inl y.2.2.2.1)), (b4, .inl (cZ, 512, .inl y.2.2.2.2.2.2.1)), (b5, .inl (cI, 512, .inl y.2.2.2.2.2.2.2.1)), (b6, .inl (cI, 512, .inl y.2.2.2.2.2.2.2.2.1)), (b7, .inl (cI, 512, .inl y.2.2.2.2.2.2.2.2.2))] s.heap := hP
  have hD : va_D A [(bo, .inr (3, [.ref b1, .int y.2.1, .ref b2, .ref b3, .int (nI y.2.2.2.2.1), .int y.2.2.2.2.2.1, .ref b4, .ref b5, .ref b6, .ref b7])), (b1, .inl (cI, 3, .inl y.1)), (b2, .inl (cI, 3, .inl y.2.2.1)), (b3, .inl (cI, 3, .inl y.2.2.2.1)), (b4, .inl (cZ, 512, .inl y.2.2.2.2.2.2.1)), (b5, .inl (cI, 512, .inl y.2.2.2.2.2.2.2.1)), (b6, .inl (cI, 512, .inl y.2.2.2.2.2.2.2.2.1)), (b7, .inl (cI, 512, .inl y.2.2.2.2.2.2.2.2.2))] := hD
  refine lv_aload_n hx hb dM_limit_0 rfl (lv_at hl 0 rfl) ?_
  refine lv_iload_n hx hb dM_limit_1 rfl (lv_at hl 1 rfl) ?_
  refine kcI (isR := []) (isC := [0, 1, 2, 3, 4, 5, 6, 7]) (wr := []) (w2 := [(bo, .inr (3, [.ref b1, .int y.2.1, .ref b2, .ref b3, .int (nI y.2.2.2.2.1), .int y.2.2.2.2.2.1, .ref b4, .ref b5, .ref b6, .ref b7])), (b1, .inl (cI, 3, .inl y.1)), (b2, .inl (cI, 3, .inl y.2.2.1)), (b3, .inl (cI, 3, .inl y.2.2.2.1)), (b4, .inl (cZ, 512, .inl y.2.2.2.2.2.2.1)), (b5, .inl (cI, 512, .inl y.2.2.2.2.2.2.2.1)), (b6, .inl (cI, 512, .inl y.2.2.2.2.2.2.2.2.1)), (b7, .inl (cI, 512, .inl y.2.2.2.2.2.2.2.2.2))]) (va_runV (As := [.int g1]) (rest := []) ⟨hx, hb, hml, hown, hts⟩ (km_closed l D cI cZ bo b1 b2 b3 b4 b5 b6 b7 y g1 _) ⟨(callB_of 1 hts gd_yM_closed rfl rfl rfl (hts _ mw27) (hts _ mw329) (by decide +kernel) ⟨Nat.le_of_ble_eq_true rfl, Nat.le_of_ble_eq_true rfl⟩), hts _ mw331, hts _ mw15⟩ (kpreV hNw hP hD hK [0, 1, 2, 3, 4, 5, 6, 7] rfl (by decide) 0 rfl (ci := 3) rfl) rfl rfl hl.1 rfl (lv_room (Nat.le_of_ble_eq_true rfl)) dM_limit_2 ⟨Nat.le_of_ble_eq_true rfl, Nat.le_of_ble_eq_true rfl⟩) hP hD hS hA [0, 1, 2, 3, 4, 5, 6, 7] rfl rfl (by decide) (by decide) (by decide) rfl (fun H locs hP hD hS => ?_)
  refine lv_if_eq (tgt := 10) hx hb dM_limit_5 (by decide) (fun h1 => ?_) (fun h1 => ?_)
  ·
    refine lv_aload_n hx hb dM_limit_10 rfl (lv_at hl 0 rfl) ?_
    refine lv_iload_n hx hb dM_limit_11 rfl (lv_at hl 2 rfl) ?_
    refine kcI (isR := []) (isC := [0, 1, 2, 3, 4, 5, 6, 7]) (wr := []) (w2 := [(bo, .inr (3, [.ref b1, .int y.2.1, .ref b2, .ref b3, .int (nI y.2.2.2.2.1), .int y.2.2.2.2.2.1, .ref b4, .ref b5, .ref b6, .ref b7])), (b1, .inl (cI, 3, .inl y.1)), (b2, .inl (cI, 3, .inl y.2.2.1)), (b3, .inl (cI, 3, .inl y.2.2.2.1)), (b4, .inl (cZ, 512, .inl y.2.2.2.2.2.2.1)), (b5, .inl (cI, 512, .inl y.2.2.2.2.2.2.2.1)), (b6, .inl (cI, 512, .inl y.2.2.2.2.2.2.2.2.1)), (b7, .inl (cI, 512, .inl y.2.2.2.2.2.2.2.2.2))]) (va_runV (As := [.int g2]) (rest := []) ⟨hx, hb, hml, hown, hts⟩ (km_hidden l D cI cZ bo b1 b2 b3 b4 b5 b6 b7 y g2 (hn) _) ⟨(callB_of 1 hts gd_yM_hidden rfl rfl rfl (hts _ mw27) (hts _ mw384) (by decide +kernel) ⟨Nat.le_of_ble_eq_true rfl, Nat.le_of_ble_eq_true rfl⟩), hts _ mw386, hts _ mw20⟩ (kpreV hNw hP hD hK [0, 1, 2, 3, 4, 5, 6, 7] rfl (by decide) 0 rfl (ci := 3) rfl) rfl rfl hl.1 rfl (lv_room (Nat.le_of_ble_eq_true rfl)) dM_limit_12 ⟨Nat.le_of_ble_eq_true rfl, Nat.le_of_ble_eq_true rfl⟩) hP hD hS hA [0, 1, 2, 3, 4, 5, 6, 7] rfl rfl (by decide) (by decide) (by decide) rfl (fun H locs hP hD hS => ?_)
    refine lv_if_eq (tgt := 21) hx hb dM_limit_15 (by decide) (fun h2 => ?_) (fun h2 => ?_)
    ·
      refine lv_aload_n hx hb dM_limit_21 rfl (lv_at hl 0 rfl) ?_
      refine lv_iload_n hx hb dM_limit_22 rfl (lv_at hl 1 rfl) ?_
      refine lv_aload_n hx hb dM_limit_23 rfl (lv_at hl 0 rfl) ?_
      refine va_get (D := D) (ci := 3) (v := .ref b7) (C := cnM) (T := ftM) (N := 10) hx hb hts inM hown hK hP 0 rfl rfl 9 (by decide) (hts _ mw298) (fun _ h9 => h9) rfl dM_limit_24 ?_
      refine lv_iload_n hx hb dM_limit_27 rfl (lv_at hl 2 rfl) ?_
      refine lv_iconst (v := 1) hx hb dM_limit_28 (by decide) ?_
      refine lv_isub hx hb dM_limit_29 ?_
      refine va_iald hx hb hK hP 7 0 rfl rfl (zm_hidden_in hn h2) dM_limit_30 ?_
      refine kcI (isR := []) (isC := [0, 1, 2, 3, 4, 5, 6, 7]) (wr := []) (w2 := [(bo, .inr (3, [.ref b1, .int y.2.1, .ref b2, .ref b3, .int (nI y.2.2.2.2.1), .int y.2.2.2.2.2.1, .ref b4, .ref b5, .ref b6, .ref b7])), (b1, .inl (cI, 3, .inl y.1)), (b2, .inl (cI, 3, .inl y.2.2.1)), (b3, .inl (cI, 3, .inl y.2.2.2.1)), (b4, .inl (cZ, 512, .inl y.2.2.2.2.2.2.1)), (b5, .inl (cI, 512, .inl y.2.2.2.2.2.2.2.1)), (b6, .inl (cI, 512, .inl y.2.2.2.2.2.2.2.2.1)), (b7, .inl (cI, 512, .inl y.2.2.2.2.2.2.2.2.2))]) (va_runV (As := [.int g1, .int (y.2.2.2.2.2.2.2.2.2 (Int32.toNatClampNeg (g2 - 1)))]) (rest := []) ⟨hx, hb, hml, hown, hts⟩ (km_readOnly l D cI cZ bo b1 b2 b3 b4 b5 b6 b7 y g1 (y.2.2.2.2.2.2.2.2.2 (Int32.toNatClampNeg (g2 - 1))) (zm_closed_in h1) _) ⟨(callB_of 2 hts gd_yM_readOnly rfl rfl rfl (hts _ mw27) (hts _ mw356) (by decide +kernel) ⟨Nat.le_of_ble_eq_true rfl, Nat.le_of_ble_eq_true rfl⟩), hts _ mw358, hts _ mw17⟩ (kpreV hNw hP hD hK [0, 1, 2, 3, 4, 5, 6, 7] rfl (by decide) 0 rfl (ci := 3) rfl) rfl rfl hl.1 rfl (lv_room (Nat.le_of_ble_eq_true rfl)) dM_limit_31 ⟨Nat.le_of_ble_eq_true rfl, Nat.le_of_ble_eq_true rfl⟩) hP hD hS hA [0, 1, 2, 3, 4, 5, 6, 7] rfl rfl (by decide) (by decide) (by decide) rfl (fun H locs hP hD hS => ?_)
      refine lv_if_eq (tgt := 40) hx hb dM_limit_34 (by decide) (fun h3 => ?_) (fun h3 => ?_)
      ·
        refine lv_iload_n hx hb dM_limit_40 rfl (lv_at hl 3 rfl) ?_
        refine lv_if_eq (tgt := 54) hx hb dM_limit_41 (by decide) (fun h4 => ?_) (fun h4 => ?_)
        ·
          refine lv_bipush (v := (-5)) hx hb dM_limit_54 (by decide) ?_
          exact kretI (wf := fun st => wY cI cZ bo b1 b2 b3 b4 b5 b6 b7 st) (st := y) (by first | (rw [zm_limit, if_pos h1, if_pos h2, if_pos h3, if_pos h4]; done) | exact ((if_pos h1).trans ((if_pos h2).trans ((if_pos h3).trans (if_pos h4))))) hx hb hr hlk hS hP hD hK dM_limit_56
        ·
          refine lv_iload_n hx hb dM_limit_44 rfl (lv_at hl 3 rfl) ?_
          refine lv_sipush (v := (-509)) hx hb dM_limit_45 (by decide) ?_
          refine kcI (isR := [0, 1, 2, 3, 4, 5, 6, 7]) (isC := []) (wr := [(bo, .inr (3, [.ref b1, .int y.2.1, .ref b2, .ref b3, .int (nI y.2.2.2.2.1), .int y.2.2.2.2.2.1, .ref b4, .ref b5, .ref b6, .ref b7])), (b1, .inl (cI, 3, .inl y.1)), (b2, .inl (cI, 3, .inl y.2.2.1)), (b3, .inl (cI, 3, .inl y.2.2.2.1)), (b4, .inl (cZ, 512, .inl y.2.2.2.2.2.2.1)), (b5, .inl (cI, 512, .inl y.2.2.2.2.2.2.2.1)), (b6, .inl (cI, 512, .inl y.2.2.2.2.2.2.2.2.1)), (b7, .inl (cI, 512, .inl y.2.2.2.2.2.2.2.2.2))]) (w2 := [(bo, .inr (3, [.ref b1, .int y.2.1, .ref b2, .ref b3, .int (nI y.2.2.2.2.1), .int y.2.2.2.2.2.1, .ref b4, .ref b5, .ref b6, .ref b7])), (b1, .inl (cI, 3, .inl y.1)), (b2, .inl (cI, 3, .inl y.2.2.1)), (b3, .inl (cI, 3, .inl y.2.2.2.1)), (b4, .inl (cZ, 512, .inl y.2.2.2.2.2.2.1)), (b5, .inl (cI, 512, .inl y.2.2.2.2.2.2.2.1)), (b6, .inl (cI, 512, .inl y.2.2.2.2.2.2.2.2.1)), (b7, .inl (cI, 512, .inl y.2.2.2.2.2.2.2.2.2))]) (va_runS (As := [.int g3, .int (-509)]) (rest := []) ⟨hx, hb, hml, hown, hts⟩ (km_has l D cI cZ g3 (-509) _) ⟨(callB_of 2 hts gd_yM_has rfl rfl rfl (hts _ mw27) (hts _ mw333) (by decide +kernel) ⟨Nat.le_of_ble_eq_true rfl, Nat.le_of_ble_eq_true rfl⟩), hts _ mw334⟩ (kpreS hNw hP hD hK [] rfl (by decide)) rfl rfl hl.1 rfl (lv_room (Nat.le_of_ble_eq_true rfl)) dM_limit_48 ⟨Nat.le_of_ble_eq_true rfl, Nat.le_of_ble_eq_true rfl⟩) hP hD hS hA [0, 1, 2, 3, 4, 5, 6, 7] rfl rfl (by decide) (by decide) (by decide) rfl (fun H locs hP hD hS => ?_)
          refine lv_if_eq (tgt := 57) hx hb dM_limit_51 (by decide) (fun h5 => ?_) (fun h5 => ?_)
          ·
            refine lv_aload_n hx hb dM_limit_57 rfl (lv_at hl 0 rfl) ?_
            refine va_get (D := D) (ci := 3) (v := .ref b7) (C := cnM) (T := ftM) (N := 10) hx hb hts inM hown hK hP 0 rfl rfl 9 (by decide) (hts _ mw298) (fun _ h9 => h9) rfl dM_limit_58 ?_
            refine lv_iload_n hx hb dM_limit_61 rfl (lv_at hl 2 rfl) ?_
            refine lv_iconst (v := 1) hx hb dM_limit_62 (by decide) ?_
            refine lv_isub hx hb dM_limit_63 ?_
            refine va_iald hx hb hK hP 7 0 rfl rfl (zm_hidden_in hn h2) dM_limit_64 ?_
            refine lv_istore hx hb dM_limit_65 hl (by decide) rfl (fun ls hl => ?_)
            have hl : lv_has ls 6 [(4, .int (y.2.2.2.2.2.2.2.2.2 (Int32.toNatClampNeg (g2 - 1)))), (0, .ref bo), (1, .int g1), (2, .int g2), (3, .int g3)] := hl
            refine lv_bipush (v := 8) hx hb dM_limit_67 (by decide) ?_
            refine lv_istore hx hb dM_limit_69 hl (by decide) rfl (fun ls hl => ?_)
            have hl : lv_has ls 6 [(5, .int 8), (4, .int (y.2.2.2.2.2.2.2.2.2 (Int32.toNatClampNeg (g2 - 1)))), (0, .ref bo), (1, .int g1), (2, .int g2), (3, .int g3)] := hl
            refine lv_iload hx hb dM_limit_71 (lv_at hl 0 rfl) ?_
            refine lv_sipush (v := 256) hx hb dM_limit_73 (by decide) ?_
            refine lv_icmp_gt (tgt := 119) hx hb dM_limit_76 (by decide) (fun h => absurd h (by decide)) (fun _ => ?_)
            refine lv_iload_n hx hb dM_limit_79 rfl (lv_at hl 5 rfl) ?_
            refine lv_iload hx hb dM_limit_80 (lv_at hl 0 rfl) ?_
            refine kcI (isR := [0, 1, 2, 3, 4, 5, 6, 7]) (isC := []) (wr := [(bo, .inr (3, [.ref b1, .int y.2.1, .ref b2, .ref b3, .int (nI y.2.2.2.2.1), .int y.2.2.2.2.2.1, .ref b4, .ref b5, .ref b6, .ref b7])), (b1, .inl (cI, 3, .inl y.1)), (b2, .inl (cI, 3, .inl y.2.2.1)), (b3, .inl (cI, 3, .inl y.2.2.2.1)), (b4, .inl (cZ, 512, .inl y.2.2.2.2.2.2.1)), (b5, .inl (cI, 512, .inl y.2.2.2.2.2.2.2.1)), (b6, .inl (cI, 512, .inl y.2.2.2.2.2.2.2.2.1)), (b7, .inl (cI, 512, .inl y.2.2.2.2.2.2.2.2.2))]) (w2 := [(bo, .inr (3, [.ref b1, .int y.2.1, .ref b2, .ref b3, .int (nI y.2.2.2.2.1), .int y.2.2.2.2.2.1, .ref b4, .ref b5, .ref b6, .ref b7])), (b1, .inl (cI, 3, .inl y.1)), (b2, .inl (cI, 3, .inl y.2.2.1)), (b3, .inl (cI, 3, .inl y.2.2.2.1)), (b4, .inl (cZ, 512, .inl y.2.2.2.2.2.2.1)), (b5, .inl (cI, 512, .inl y.2.2.2.2.2.2.2.1)), (b6, .inl (cI, 512, .inl y.2.2.2.2.2.2.2.2.1)), (b7, .inl (cI, 512, .inl y.2.2.2.2.2.2.2.2.2))]) (va_runS (As := [.int g3, .int 8]) (rest := []) ⟨hx, hb, hml, hown, hts⟩ (km_has l D cI cZ g3 8 _) ⟨(callB_of 2 hts gd_yM_has rfl rfl rfl (hts _ mw27) (hts _ mw333) (by decide +kernel) ⟨Nat.le_of_ble_eq_true rfl, Nat.le_of_ble_eq_true rfl⟩), hts _ mw334⟩ (kpreS hNw hP hD hK [] rfl (by decide)) rfl rfl hl.1 rfl (lv_room (Nat.le_of_ble_eq_true rfl)) dM_limit_82 ⟨Nat.le_of_ble_eq_true rfl, Nat.le_of_ble_eq_true rfl⟩) hP hD hS hA [0, 1, 2, 3, 4, 5, 6, 7] rfl rfl (by decide) (by decide) (by decide) rfl (fun H locs hP hD hS => ?_)
            refine kJoin (pcJ := 108) (z := (if (zm_has g3 8) = 0 then (y.2.2.2.2.2.2.2.2.2 (Int32.toNatClampNeg (g2 - 1))) else (if (zm_has (y.2.2.2.2.2.2.2.2.2 (Int32.toNatClampNeg (g2 - 1))) 8) = 0 then (y.2.2.2.2.2.2.2.2.2 (Int32.toNatClampNeg (g2 - 1))) else ((y.2.2.2.2.2.2.2.2.2 (Int32.toNatClampNeg (g2 - 1))) - 8)))) (ws := [(bo, .inr (3, [.ref b1, .int y.2.1, .ref b2, .ref b3, .int (nI y.2.2.2.2.1), .int y.2.2.2.2.2.1, .ref b4, .ref b5, .ref b6, .ref b7])), (b1, .inl (cI, 3, .inl y.1)), (b2, .inl (cI, 3, .inl y.2.2.1)), (b3, .inl (cI, 3, .inl y.2.2.2.1)), (b4, .inl (cZ, 512, .inl y.2.2.2.2.2.2.1)), (b5, .inl (cI, 512, .inl y.2.2.2.2.2.2.2.1)), (b6, .inl (cI, 512, .inl y.2.2.2.2.2.2.2.2.1)), (b7, .inl (cI, 512, .inl y.2.2.2.2.2.2.2.2.2))]) (rest := []) (D := D) (A := A) (H0 := s.heap) (fun J108 => ?_) (fun H locs hP hD hS => ?_)
            ·
              refine lv_if_eq (tgt := 106) hx hb dM_limit_85 (by decide) (fun h6 => ?_) (fun h6 => ?_)
              ·
                refine lv_iload hx hb dM_limit_106 (lv_at hl 1 rfl) ?_
                exact J108 _ _ hP hD hS _ ((if_pos h6).symm)
              ·
                refine lv_iload hx hb dM_limit_88 (lv_at hl 1 rfl) ?_
                refine lv_iload hx hb dM_limit_90 (lv_at hl 0 rfl) ?_
                refine kcI (isR := [0, 1, 2, 3, 4, 5, 6, 7]) (isC := []) (wr := [(bo, .inr (3, [.ref b1, .int y.2.1, .ref b2, .ref b3, .int (nI y.2.2.2.2.1), .int y.2.2.2.2.2.1, .ref b4, .ref b5, .ref b6, .ref b7])), (b1, .inl (cI, 3, .inl y.1)), (b2, .inl (cI, 3, .inl y.2.2.1)), (b3, .inl (cI, 3, .inl y.2.2.2.1)), (b4, .inl (cZ, 512, .inl y.2.2.2.2.2.2.1)), (b5, .inl (cI, 512, .inl y.2.2.2.2.2.2.2.1)), (b6, .inl (cI, 512, .inl y.2.2.2.2.2.2.2.2.1)), (b7, .inl (cI, 512, .inl y.2.2.2.2.2.2.2.2.2))]) (w2 := [(bo, .inr (3, [.ref b1, .int y.2.1, .ref b2, .ref b3, .int (nI y.2.2.2.2.1), .int y.2.2.2.2.2.1, .ref b4, .ref b5, .ref b6, .ref b7])), (b1, .inl (cI, 3, .inl y.1)), (b2, .inl (cI, 3, .inl y.2.2.1)), (b3, .inl (cI, 3, .inl y.2.2.2.1)), (b4, .inl (cZ, 512, .inl y.2.2.2.2.2.2.1)), (b5, .inl (cI, 512, .inl y.2.2.2.2.2.2.2.1)), (b6, .inl (cI, 512, .inl y.2.2.2.2.2.2.2.2.1)), (b7, .inl (cI, 512, .inl y.2.2.2.2.2.2.2.2.2))]) (va_runS (As := [.int (y.2.2.2.2.2.2.2.2.2 (Int32.toNatClampNeg (g2 - 1))), .int 8]) (rest := []) ⟨hx, hb, hml, hown, hts⟩ (km_has l D cI cZ (y.2.2.2.2.2.2.2.2.2 (Int32.toNatClampNeg (g2 - 1))) 8 _) ⟨(callB_of 2 hts gd_yM_has rfl rfl rfl (hts _ mw27) (hts _ mw333) (by decide +kernel) ⟨Nat.le_of_ble_eq_true rfl, Nat.le_of_ble_eq_true rfl⟩), hts _ mw334⟩ (kpreS hNw hP hD hK [] rfl (by decide)) rfl rfl hl.1 rfl (lv_room (Nat.le_of_ble_eq_true rfl)) dM_limit_92 ⟨Nat.le_of_ble_eq_true rfl, Nat.le_of_ble_eq_true rfl⟩) hP hD hS hA [0, 1, 2, 3, 4, 5, 6, 7] rfl rfl (by decide) (by decide) (by decide) rfl (fun H locs hP hD hS => ?_)
                refine lv_if_eq (tgt := 106) hx hb dM_limit_95 (by decide) (fun h7 => ?_) (fun h7 => ?_)
                ·
                  refine lv_iload hx hb dM_limit_106 (lv_at hl 1 rfl) ?_
                  exact J108 _ _ hP hD hS _ (((if_neg h6).trans (if_pos h7)).symm)
                ·
                  refine lv_iload hx hb dM_limit_98 (lv_at hl 1 rfl) ?_
                  refine lv_iload hx hb dM_limit_100 (lv_at hl 0 rfl) ?_
                  refine lv_isub hx hb dM_limit_102 ?_
                  refine lv_goto hx hb dM_limit_103 (tgt := 108) (by decide) ?_
                  exact J108 _ _ hP hD hS _ (((if_neg h6).trans (if_neg h7)).symm)
            refine kTop (y := (zm_lim1 g3 8 (y.2.2.2.2.2.2.2.2.2 (Int32.toNatClampNeg (g2 - 1))))) (rfl) ?_
            refine lv_istore hx hb dM_limit_108 hl (by decide) rfl (fun ls hl => ?_)
            have hl : lv_has ls 6 [(4, .int (zm_lim1 g3 8 (y.2.2.2.2.2.2.2.2.2 (Int32.toNatClampNeg (g2 - 1))))), (5, .int 8), (0, .ref bo), (1, .int g1), (2, .int g2), (3, .int g3)] := hl
            refine lv_iload hx hb dM_limit_110 (lv_at hl 1 rfl) ?_
            refine lv_iconst (v := 2) hx hb dM_limit_112 (by decide) ?_
            refine lv_imul hx hb dM_limit_113 ?_
            refine kTop (y := 16) (by decide) ?_
            refine lv_istore hx hb dM_limit_114 hl (by decide) rfl (fun ls hl => ?_)
            have hl : lv_has ls 6 [(5, .int 16), (4, .int (zm_lim1 g3 8 (y.2.2.2.2.2.2.2.2.2 (Int32.toNatClampNeg (g2 - 1))))), (0, .ref bo), (1, .int g1), (2, .int g2), (3, .int g3)] := hl
            refine lv_goto hx hb dM_limit_116 (tgt := 71) (by decide) ?_
            refine lv_iload hx hb dM_limit_71 (lv_at hl 0 rfl) ?_
            refine lv_sipush (v := 256) hx hb dM_limit_73 (by decide) ?_
            refine lv_icmp_gt (tgt := 119) hx hb dM_limit_76 (by decide) (fun h => absurd h (by decide)) (fun _ => ?_)
            refine lv_iload_n hx hb dM_limit_79 rfl (lv_at hl 5 rfl) ?_
            refine lv_iload hx hb dM_limit_80 (lv_at hl 0 rfl) ?_
            refine kcI (isR := [0, 1, 2, 3, 4, 5, 6, 7]) (isC := []) (wr := [(bo, .inr (3, [.ref b1, .int y.2.1, .ref b2, .ref b3, .int (nI y.2.2.2.2.1), .int y.2.2.2.2.2.1, .ref b4, .ref b5, .ref b6, .ref b7])), (b1, .inl (cI, 3, .inl y.1)), (b2, .inl (cI, 3, .inl y.2.2.1)), (b3, .inl (cI, 3, .inl y.2.2.2.1)), (b4, .inl (cZ, 512, .inl y.2.2.2.2.2.2.1)), (b5, .inl (cI, 512, .inl y.2.2.2.2.2.2.2.1)), (b6, .inl (cI, 512, .inl y.2.2.2.2.2.2.2.2.1)), (b7, .inl (cI, 512, .inl y.2.2.2.2.2.2.2.2.2))]) (w2 := [(bo, .inr (3, [.ref b1, .int y.2.1, .ref b2, .ref b3, .int (nI y.2.2.2.2.1), .int y.2.2.2.2.2.1, .ref b4, .ref b5, .ref b6, .ref b7])), (b1, .inl (cI, 3, .inl y.1)), (b2, .inl (cI, 3, .inl y.2.2.1)), (b3, .inl (cI, 3, .inl y.2.2.2.1)), (b4, .inl (cZ, 512, .inl y.2.2.2.2.2.2.1)), (b5, .inl (cI, 512, .inl y.2.2.2.2.2.2.2.1)), (b6, .inl (cI, 512, .inl y.2.2.2.2.2.2.2.2.1)), (b7, .inl (cI, 512, .inl y.2.2.2.2.2.2.2.2.2))]) (va_runS (As := [.int g3, .int 16]) (rest := []) ⟨hx, hb, hml, hown, hts⟩ (km_has l D cI cZ g3 16 _) ⟨(callB_of 2 hts gd_yM_has rfl rfl rfl (hts _ mw27) (hts _ mw333) (by decide +kernel) ⟨Nat.le_of_ble_eq_true rfl, Nat.le_of_ble_eq_true rfl⟩), hts _ mw334⟩ (kpreS hNw hP hD hK [] rfl (by decide)) rfl rfl hl.1 rfl (lv_room (Nat.le_of_ble_eq_true rfl)) dM_limit_82 ⟨Nat.le_of_ble_eq_true rfl, Nat.le_of_ble_eq_true rfl⟩) hP hD hS hA [0, 1, 2, 3, 4, 5, 6, 7] rfl rfl (by decide) (by decide) (by decide) rfl (fun H locs hP hD hS => ?_)
            refine kJoin (pcJ := 108) (z := (if (zm_has g3 16) = 0 then (zm_lim1 g3 8 (y.2.2.2.2.2.2.2.2.2 (Int32.toNatClampNeg (g2 - 1)))) else (if (zm_has (zm_lim1 g3 8 (y.2.2.2.2.2.2.2.2.2 (Int32.toNatClampNeg (g2 - 1)))) 16) = 0 then (zm_lim1 g3 8 (y.2.2.2.2.2.2.2.2.2 (Int32.toNatClampNeg (g2 - 1)))) else ((zm_lim1 g3 8 (y.2.2.2.2.2.2.2.2.2 (Int32.toNatClampNeg (g2 - 1)))) - 16)))) (ws := [(bo, .inr (3, [.ref b1, .int y.2.1, .ref b2, .ref b3, .int (nI y.2.2.2.2.1), .int y.2.2.2.2.2.1, .ref b4, .ref b5, .ref b6, .ref b7])), (b1, .inl (cI, 3, .inl y.1)), (b2, .inl (cI, 3, .inl y.2.2.1)), (b3, .inl (cI, 3, .inl y.2.2.2.1)), (b4, .inl (cZ, 512, .inl y.2.2.2.2.2.2.1)), (b5, .inl (cI, 512, .inl y.2.2.2.2.2.2.2.1)), (b6, .inl (cI, 512, .inl y.2.2.2.2.2.2.2.2.1)), (b7, .inl (cI, 512, .inl y.2.2.2.2.2.2.2.2.2))]) (rest := []) (D := D) (A := A) (H0 := s.heap) (fun J108 => ?_) (fun H locs hP hD hS => ?_)
            ·
              refine lv_if_eq (tgt := 106) hx hb dM_limit_85 (by decide) (fun h8 => ?_) (fun h8 => ?_)
              ·
                refine lv_iload hx hb dM_limit_106 (lv_at hl 1 rfl) ?_
                exact J108 _ _ hP hD hS _ ((if_pos h8).symm)
              ·
                refine lv_iload hx hb dM_limit_88 (lv_at hl 1 rfl) ?_
                refine lv_iload hx hb dM_limit_90 (lv_at hl 0 rfl) ?_
                refine kcI (isR := [0, 1, 2, 3, 4, 5, 6, 7]) (isC := []) (wr := [(bo, .inr (3, [.ref b1, .int y.2.1, .ref b2, .ref b3, .int (nI y.2.2.2.2.1), .int y.2.2.2.2.2.1, .ref b4, .ref b5, .ref b6, .ref b7])), (b1, .inl (cI, 3, .inl y.1)), (b2, .inl (cI, 3, .inl y.2.2.1)), (b3, .inl (cI, 3, .inl y.2.2.2.1)), (b4, .inl (cZ, 512, .inl y.2.2.2.2.2.2.1)), (b5, .inl (cI, 512, .inl y.2.2.2.2.2.2.2.1)), (b6, .inl (cI, 512, .inl y.2.2.2.2.2.2.2.2.1)), (b7, .inl (cI, 512, .inl y.2.2.2.2.2.2.2.2.2))]) (w2 := [(bo, .inr (3, [.ref b1, .int y.2.1, .ref b2, .ref b3, .int (nI y.2.2.2.2.1), .int y.2.2.2.2.2.1, .ref b4, .ref b5, .ref b6, .ref b7])), (b1, .inl (cI, 3, .inl y.1)), (b2, .inl (cI, 3, .inl y.2.2.1)), (b3, .inl (cI, 3, .inl y.2.2.2.1)), (b4, .inl (cZ, 512, .inl y.2.2.2.2.2.2.1)), (b5, .inl (cI, 512, .inl y.2.2.2.2.2.2.2.1)), (b6, .inl (cI, 512, .inl y.2.2.2.2.2.2.2.2.1)), (b7, .inl (cI, 512, .inl y.2.2.2.2.2.2.2.2.2))]) (va_runS (As := [.int (zm_lim1 g3 8 (y.2.2.2.2.2.2.2.2.2 (Int32.toNatClampNeg (g2 - 1)))), .int 16]) (rest := []) ⟨hx, hb, hml, hown, hts⟩ (km_has l D cI cZ (zm_lim1 g3 8 (y.2.2.2.2.2.2.2.2.2 (Int32.toNatClampNeg (g2 - 1)))) 16 _) ⟨(callB_of 2 hts gd_yM_has rfl rfl rfl (hts _ mw27) (hts _ mw333) (by decide +kernel) ⟨Nat.le_of_ble_eq_true rfl, Nat.le_of_ble_eq_true rfl⟩), hts _ mw334⟩ (kpreS hNw hP hD hK [] rfl (by decide)) rfl rfl hl.1 rfl (lv_room (Nat.le_of_ble_eq_true rfl)) dM_limit_92 ⟨Nat.le_of_ble_eq_true rfl, Nat.le_of_ble_eq_true rfl⟩) hP hD hS hA [0, 1, 2, 3, 4, 5, 6, 7] rfl rfl (by decide) (by decide) (by decide) rfl (fun H locs hP hD hS => ?_)
                refine lv_if_eq (tgt := 106) hx hb dM_limit_95 (by decide) (fun h9 => ?_) (fun h9 => ?_)
                ·
                  refine lv_iload hx hb dM_limit_106 (lv_at hl 1 rfl) ?_
                  exact J108 _ _ hP hD hS _ (((if_neg h8).trans (if_pos h9)).symm)
                ·
                  refine lv_iload hx hb dM_limit_98 (lv_at hl 1 rfl) ?_
                  refine lv_iload hx hb dM_limit_100 (lv_at hl 0 rfl) ?_
                  refine lv_isub hx hb dM_limit_102 ?_
                  refine lv_goto hx hb dM_limit_103 (tgt := 108) (by decide) ?_
                  exact J108 _ _ hP hD hS _ (((if_neg h8).trans (if_neg h9)).symm)
            refine kTop (y := (zm_lim1 g3 16 (zm_lim1 g3 8 (y.2.2.2.2.2.2.2.2.2 (Int32.toNatClampNeg (g2 - 1)))))) (rfl) ?_
            refine lv_istore hx hb dM_limit_108 hl (by decide) rfl (fun ls hl => ?_)
            have hl : lv_has ls 6 [(4, .int (zm_lim1 g3 16 (zm_lim1 g3 8 (y.2.2.2.2.2.2.2.2.2 (Int32.toNatClampNeg (g2 - 1)))))), (5, .int 16), (0, .ref bo), (1, .int g1), (2, .int g2), (3, .int g3)] := hl
            refine lv_iload hx hb dM_limit_110 (lv_at hl 1 rfl) ?_
            refine lv_iconst (v := 2) hx hb dM_limit_112 (by decide) ?_
            refine lv_imul hx hb dM_limit_113 ?_
            refine kTop (y := 32) (by decide) ?_
            refine lv_istore hx hb dM_limit_114 hl (by decide) rfl (fun ls hl => ?_)
            have hl : lv_has ls 6 [(5, .int 32), (4, .int (zm_lim1 g3 16 (zm_lim1 g3 8 (y.2.2.2.2.2.2.2.2.2 (Int32.toNatClampNeg (g2 - 1)))))), (0, .ref bo), (1, .int g1), (2, .int g2), (3, .int g3)] := hl
            refine lv_goto hx hb dM_limit_116 (tgt := 71) (by decide) ?_
            refine lv_iload hx hb dM_limit_71 (lv_at hl 0 rfl) ?_
            refine lv_sipush (v := 256) hx hb dM_limit_73 (by decide) ?_
            refine lv_icmp_gt (tgt := 119) hx hb dM_limit_76 (by decide) (fun h => absurd h (by decide)) (fun _ => ?_)
            refine lv_iload_n hx hb dM_limit_79 rfl (lv_at hl 5 rfl) ?_
            refine lv_iload hx hb dM_limit_80 (lv_at hl 0 rfl) ?_
            refine kcI (isR := [0, 1, 2, 3, 4, 5, 6, 7]) (isC := []) (wr := [(bo, .inr (3, [.ref b1, .int y.2.1, .ref b2, .ref b3, .int (nI y.2.2.2.2.1), .int y.2.2.2.2.2.1, .ref b4, .ref b5, .ref b6, .ref b7])), (b1, .inl (cI, 3, .inl y.1)), (b2, .inl (cI, 3, .inl y.2.2.1)), (b3, .inl (cI, 3, .inl y.2.2.2.1)), (b4, .inl (cZ, 512, .inl y.2.2.2.2.2.2.1)), (b5, .inl (cI, 512, .inl y.2.2.2.2.2.2.2.1)), (b6, .inl (cI, 512, .inl y.2.2.2.2.2.2.2.2.1)), (b7, .inl (cI, 512, .inl y.2.2.2.2.2.2.2.2.2))]) (w2 := [(bo, .inr (3, [.ref b1, .int y.2.1, .ref b2, .ref b3, .int (nI y.2.2.2.2.1), .int y.2.2.2.2.2.1, .ref b4, .ref b5, .ref b6, .ref b7])), (b1, .inl (cI, 3, .inl y.1)), (b2, .inl (cI, 3, .inl y.2.2.1)), (b3, .inl (cI, 3, .inl y.2.2.2.1)), (b4, .inl (cZ, 512, .inl y.2.2.2.2.2.2.1)), (b5, .inl (cI, 512, .inl y.2.2.2.2.2.2.2.1)), (b6, .inl (cI, 512, .inl y.2.2.2.2.2.2.2.2.1)), (b7, .inl (cI, 512, .inl y.2.2.2.2.2.2.2.2.2))]) (va_runS (As := [.int g3, .int 32]) (rest := []) ⟨hx, hb, hml, hown, hts⟩ (km_has l D cI cZ g3 32 _) ⟨(callB_of 2 hts gd_yM_has rfl rfl rfl (hts _ mw27) (hts _ mw333) (by decide +kernel) ⟨Nat.le_of_ble_eq_true rfl, Nat.le_of_ble_eq_true rfl⟩), hts _ mw334⟩ (kpreS hNw hP hD hK [] rfl (by decide)) rfl rfl hl.1 rfl (lv_room (Nat.le_of_ble_eq_true rfl)) dM_limit_82 ⟨Nat.le_of_ble_eq_true rfl, Nat.le_of_ble_eq_true rfl⟩) hP hD hS hA [0, 1, 2, 3, 4, 5, 6, 7] rfl rfl (by decide) (by decide) (by decide) rfl (fun H locs hP hD hS => ?_)
            refine kJoin (pcJ := 108) (z := (if (zm_has g3 32) = 0 then (zm_lim1 g3 16 (zm_lim1 g3 8 (y.2.2.2.2.2.2.2.2.2 (Int32.toNatClampNeg (g2 - 1))))) else (if (zm_has (zm_lim1 g3 16 (zm_lim1 g3 8 (y.2.2.2.2.2.2.2.2.2 (Int32.toNatClampNeg (g2 - 1))))) 32) = 0 then (zm_lim1 g3 16 (zm_lim1 g3 8 (y.2.2.2.2.2.2.2.2.2 (Int32.toNatClampNeg (g2 - 1))))) else ((zm_lim1 g3 16 (zm_lim1 g3 8 (y.2.2.2.2.2.2.2.2.2 (Int32.toNatClampNeg (g2 - 1))))) - 32)))) (ws := [(bo, .inr (3, [.ref b1, .int y.2.1, .ref b2, .ref b3, .int (nI y.2.2.2.2.1), .int y.2.2.2.2.2.1, .ref b4, .ref b5, .ref b6, .ref b7])), (b1, .inl (cI, 3, .inl y.1)), (b2, .inl (cI, 3, .inl y.2.2.1)), (b3, .inl (cI, 3, .inl y.2.2.2.1)), (b4, .inl (cZ, 512, .inl y.2.2.2.2.2.2.1)), (b5, .inl (cI, 512, .inl y.2.2.2.2.2.2.2.1)), (b6, .inl (cI, 512, .inl y.2.2.2.2.2.2.2.2.1)), (b7, .inl (cI, 512, .inl y.2.2.2.2.2.2.2.2.2))]) (rest := []) (D := D) (A := A) (H0 := s.heap) (fun J108 => ?_) (fun H locs hP hD hS => ?_)
            ·
              refine lv_if_eq (tgt := 106) hx hb dM_limit_85 (by decide) (fun h10 => ?_) (fun h10 => ?_)
              ·
                refine lv_iload hx hb dM_limit_106 (lv_at hl 1 rfl) ?_
                exact J108 _ _ hP hD hS _ ((if_pos h10).symm)
              ·
                refine lv_iload hx hb dM_limit_88 (lv_at hl 1 rfl) ?_
                refine lv_iload hx hb dM_limit_90 (lv_at hl 0 rfl) ?_
                refine kcI (isR := [0, 1, 2, 3, 4, 5, 6, 7]) (isC := []) (wr := [(bo, .inr (3, [.ref b1, .int y.2.1, .ref b2, .ref b3, .int (nI y.2.2.2.2.1), .int y.2.2.2.2.2.1, .ref b4, .ref b5, .ref b6, .ref b7])), (b1, .inl (cI, 3, .inl y.1)), (b2, .inl (cI, 3, .inl y.2.2.1)), (b3, .inl (cI, 3, .inl y.2.2.2.1)), (b4, .inl (cZ, 512, .inl y.2.2.2.2.2.2.1)), (b5, .inl (cI, 512, .inl y.2.2.2.2.2.2.2.1)), (b6, .inl (cI, 512, .inl y.2.2.2.2.2.2.2.2.1)), (b7, .inl (cI, 512, .inl y.2.2.2.2.2.2.2.2.2))]) (w2 := [(bo, .inr (3, [.ref b1, .int y.2.1, .ref b2, .ref b3, .int (nI y.2.2.2.2.1), .int y.2.2.2.2.2.1, .ref b4, .ref b5, .ref b6, .ref b7])), (b1, .inl (cI, 3, .inl y.1)), (b2, .inl (cI, 3, .inl y.2.2.1)), (b3, .inl (cI, 3, .inl y.2.2.2.1)), (b4, .inl (cZ, 512, .inl y.2.2.2.2.2.2.1)), (b5, .inl (cI, 512, .inl y.2.2.2.2.2.2.2.1)), (b6, .inl (cI, 512, .inl y.2.2.2.2.2.2.2.2.1)), (b7, .inl (cI, 512, .inl y.2.2.2.2.2.2.2.2.2))]) (va_runS (As := [.int (zm_lim1 g3 16 (zm_lim1 g3 8 (y.2.2.2.2.2.2.2.2.2 (Int32.toNatClampNeg (g2 - 1))))), .int 32]) (rest := []) ⟨hx, hb, hml, hown, hts⟩ (km_has l D cI cZ (zm_lim1 g3 16 (zm_lim1 g3 8 (y.2.2.2.2.2.2.2.2.2 (Int32.toNatClampNeg (g2 - 1))))) 32 _) ⟨(callB_of 2 hts gd_yM_has rfl rfl rfl (hts _ mw27) (hts _ mw333) (by decide +kernel) ⟨Nat.le_of_ble_eq_true rfl, Nat.le_of_ble_eq_true rfl⟩), hts _ mw334⟩ (kpreS hNw hP hD hK [] rfl (by decide)) rfl rfl hl.1 rfl (lv_room (Nat.le_of_ble_eq_true rfl)) dM_limit_92 ⟨Nat.le_of_ble_eq_true rfl, Nat.le_of_ble_eq_true rfl⟩) hP hD hS hA [0, 1, 2, 3, 4, 5, 6, 7] rfl rfl (by decide) (by decide) (by decide) rfl (fun H locs hP hD hS => ?_)
                refine lv_if_eq (tgt := 106) hx hb dM_limit_95 (by decide) (fun h11 => ?_) (fun h11 => ?_)
                ·
                  refine lv_iload hx hb dM_limit_106 (lv_at hl 1 rfl) ?_
                  exact J108 _ _ hP hD hS _ (((if_neg h10).trans (if_pos h11)).symm)
                ·
                  refine lv_iload hx hb dM_limit_98 (lv_at hl 1 rfl) ?_
                  refine lv_iload hx hb dM_limit_100 (lv_at hl 0 rfl) ?_
                  refine lv_isub hx hb dM_limit_102 ?_
                  refine lv_goto hx hb dM_limit_103 (tgt := 108) (by decide) ?_
                  exact J108 _ _ hP hD hS _ (((if_neg h10).trans (if_neg h11)).symm)
            refine kTop (y := (zm_lim1 g3 32 (zm_lim1 g3 16 (zm_lim1 g3 8 (y.2.2.2.2.2.2.2.2.2 (Int32.toNatClampNeg (g2 - 1))))))) (rfl) ?_
            refine lv_istore hx hb dM_limit_108 hl (by decide) rfl (fun ls hl => ?_)
            have hl : lv_has ls 6 [(4, .int (zm_lim1 g3 32 (zm_lim1 g3 16 (zm_lim1 g3 8 (y.2.2.2.2.2.2.2.2.2 (Int32.toNatClampNeg (g2 - 1))))))), (5, .int 32), (0, .ref bo), (1, .int g1), (2, .int g2), (3, .int g3)] := hl
            refine lv_iload hx hb dM_limit_110 (lv_at hl 1 rfl) ?_
            refine lv_iconst (v := 2) hx hb dM_limit_112 (by decide) ?_
            refine lv_imul hx hb dM_limit_113 ?_
            refine kTop (y := 64) (by decide) ?_
            refine lv_istore hx hb dM_limit_114 hl (by decide) rfl (fun ls hl => ?_)
            have hl : lv_has ls 6 [(5, .int 64), (4, .int (zm_lim1 g3 32 (zm_lim1 g3 16 (zm_lim1 g3 8 (y.2.2.2.2.2.2.2.2.2 (Int32.toNatClampNeg (g2 - 1))))))), (0, .ref bo), (1, .int g1), (2, .int g2), (3, .int g3)] := hl
            refine lv_goto hx hb dM_limit_116 (tgt := 71) (by decide) ?_
            refine lv_iload hx hb dM_limit_71 (lv_at hl 0 rfl) ?_
            refine lv_sipush (v := 256) hx hb dM_limit_73 (by decide) ?_
            refine lv_icmp_gt (tgt := 119) hx hb dM_limit_76 (by decide) (fun h => absurd h (by decide)) (fun _ => ?_)
            refine lv_iload_n hx hb dM_limit_79 rfl (lv_at hl 5 rfl) ?_
            refine lv_iload hx hb dM_limit_80 (lv_at hl 0 rfl) ?_
            refine kcI (isR := [0, 1, 2, 3, 4, 5, 6, 7]) (isC := []) (wr := [(bo, .inr (3, [.ref b1, .int y.2.1, .ref b2, .ref b3, .int (nI y.2.2.2.2.1), .int y.2.2.2.2.2.1, .ref b4, .ref b5, .ref b6, .ref b7])), (b1, .inl (cI, 3, .inl y.1)), (b2, .inl (cI, 3, .inl y.2.2.1)), (b3, .inl (cI, 3, .inl y.2.2.2.1)), (b4, .inl (cZ, 512, .inl y.2.2.2.2.2.2.1)), (b5, .inl (cI, 512, .inl y.2.2.2.2.2.2.2.1)), (b6, .inl (cI, 512, .inl y.2.2.2.2.2.2.2.2.1)), (b7, .inl (cI, 512, .inl y.2.2.2.2.2.2.2.2.2))]) (w2 := [(bo, .inr (3, [.ref b1, .int y.2.1, .ref b2, .ref b3, .int (nI y.2.2.2.2.1), .int y.2.2.2.2.2.1, .ref b4, .ref b5, .ref b6, .ref b7])), (b1, .inl (cI, 3, .inl y.1)), (b2, .inl (cI, 3, .inl y.2.2.1)), (b3, .inl (cI, 3, .inl y.2.2.2.1)), (b4, .inl (cZ, 512, .inl y.2.2.2.2.2.2.1)), (b5, .inl (cI, 512, .inl y.2.2.2.2.2.2.2.1)), (b6, .inl (cI, 512, .inl y.2.2.2.2.2.2.2.2.1)), (b7, .inl (cI, 512, .inl y.2.2.2.2.2.2.2.2.2))]) (va_runS (As := [.int g3, .int 64]) (rest := []) ⟨hx, hb, hml, hown, hts⟩ (km_has l D cI cZ g3 64 _) ⟨(callB_of 2 hts gd_yM_has rfl rfl rfl (hts _ mw27) (hts _ mw333) (by decide +kernel) ⟨Nat.le_of_ble_eq_true rfl, Nat.le_of_ble_eq_true rfl⟩), hts _ mw334⟩ (kpreS hNw hP hD hK [] rfl (by decide)) rfl rfl hl.1 rfl (lv_room (Nat.le_of_ble_eq_true rfl)) dM_limit_82 ⟨Nat.le_of_ble_eq_true rfl, Nat.le_of_ble_eq_true rfl⟩) hP hD hS hA [0, 1, 2, 3, 4, 5, 6, 7] rfl rfl (by decide) (by decide) (by decide) rfl (fun H locs hP hD hS => ?_)
            refine kJoin (pcJ := 108) (z := (if (zm_has g3 64) = 0 then (zm_lim1 g3 32 (zm_lim1 g3 16 (zm_lim1 g3 8 (y.2.2.2.2.2.2.2.2.2 (Int32.toNatClampNeg (g2 - 1)))))) else (if (zm_has (zm_lim1 g3 32 (zm_lim1 g3 16 (zm_lim1 g3 8 (y.2.2.2.2.2.2.2.2.2 (Int32.toNatClampNeg (g2 - 1)))))) 64) = 0 then (zm_lim1 g3 32 (zm_lim1 g3 16 (zm_lim1 g3 8 (y.2.2.2.2.2.2.2.2.2 (Int32.toNatClampNeg (g2 - 1)))))) else ((zm_lim1 g3 32 (zm_lim1 g3 16 (zm_lim1 g3 8 (y.2.2.2.2.2.2.2.2.2 (Int32.toNatClampNeg (g2 - 1)))))) - 64)))) (ws := [(bo, .inr (3, [.ref b1, .int y.2.1, .ref b2, .ref b3, .int (nI y.2.2.2.2.1), .int y.2.2.2.2.2.1, .ref b4, .ref b5, .ref b6, .ref b7])), (b1, .inl (cI, 3, .inl y.1)), (b2, .inl (cI, 3, .inl y.2.2.1)), (b3, .inl (cI, 3, .inl y.2.2.2.1)), (b4, .inl (cZ, 512, .inl y.2.2.2.2.2.2.1)), (b5, .inl (cI, 512, .inl y.2.2.2.2.2.2.2.1)), (b6, .inl (cI, 512, .inl y.2.2.2.2.2.2.2.2.1)), (b7, .inl (cI, 512, .inl y.2.2.2.2.2.2.2.2.2))]) (rest := []) (D := D) (A := A) (H0 := s.heap) (fun J108 => ?_) (fun H locs hP hD hS => ?_)
            ·
              refine lv_if_eq (tgt := 106) hx hb dM_limit_85 (by decide) (fun h12 => ?_) (fun h12 => ?_)
              ·
                refine lv_iload hx hb dM_limit_106 (lv_at hl 1 rfl) ?_
                exact J108 _ _ hP hD hS _ ((if_pos h12).symm)
              ·
                refine lv_iload hx hb dM_limit_88 (lv_at hl 1 rfl) ?_
                refine lv_iload hx hb dM_limit_90 (lv_at hl 0 rfl) ?_
                refine kcI (isR := [0, 1, 2, 3, 4, 5, 6, 7]) (isC := []) (wr := [(bo, .inr (3, [.ref b1, .int y.2.1, .ref b2, .ref b3, .int (nI y.2.2.2.2.1), .int y.2.2.2.2.2.1, .ref b4, .ref b5, .ref b6, .ref b7])), (b1, .inl (cI, 3, .inl y.1)), (b2, .inl (cI, 3, .inl y.2.2.1)), (b3, .inl (cI, 3, .inl y.2.2.2.1)), (b4, .inl (cZ, 512, .inl y.2.2.2.2.2.2.1)), (b5, .inl (cI, 512, .inl y.2.2.2.2.2.2.2.1)), (b6, .inl (cI, 512, .inl y.2.2.2.2.2.2.2.2.1)), (b7, .inl (cI, 512, .inl y.2.2.2.2.2.2.2.2.2))]) (w2 := [(bo, .inr (3, [.ref b1, .int y.2.1, .ref b2, .ref b3, .int (nI y.2.2.2.2.1), .int y.2.2.2.2.2.1, .ref b4, .ref b5, .ref b6, .ref b7])), (b1, .inl (cI, 3, .inl y.1)), (b2, .inl (cI, 3, .inl y.2.2.1)), (b3, .inl (cI, 3, .inl y.2.2.2.1)), (b4, .inl (cZ, 512, .inl y.2.2.2.2.2.2.1)), (b5, .inl (cI, 512, .inl y.2.2.2.2.2.2.2.1)), (b6, .inl (cI, 512, .inl y.2.2.2.2.2.2.2.2.1)), (b7, .inl (cI, 512, .inl y.2.2.2.2.2.2.2.2.2))]) (va_runS (As := [.int (zm_lim1 g3 32 (zm_lim1 g3 16 (zm_lim1 g3 8 (y.2.2.2.2.2.2.2.2.2 (Int32.toNatClampNeg (g2 - 1)))))), .int 64]) (rest := []) ⟨hx, hb, hml, hown, hts⟩ (km_has l D cI cZ (zm_lim1 g3 32 (zm_lim1 g3 16 (zm_lim1 g3 8 (y.2.2.2.2.2.2.2.2.2 (Int32.toNatClampNeg (g2 - 1)))))) 64 _) ⟨(callB_of 2 hts gd_yM_has rfl rfl rfl (hts _ mw27) (hts _ mw333) (by decide +kernel) ⟨Nat.le_of_ble_eq_true rfl, Nat.le_of_ble_eq_true rfl⟩), hts _ mw334⟩ (kpreS hNw hP hD hK [] rfl (by decide)) rfl rfl hl.1 rfl (lv_room (Nat.le_of_ble_eq_true rfl)) dM_limit_92 ⟨Nat.le_of_ble_eq_true rfl, Nat.le_of_ble_eq_true rfl⟩) hP hD hS hA [0, 1, 2, 3, 4, 5, 6, 7] rfl rfl (by decide) (by decide) (by decide) rfl (fun H locs hP hD hS => ?_)
                refine lv_if_eq (tgt := 106) hx hb dM_limit_95 (by decide) (fun h13 => ?_) (fun h13 => ?_)
                ·
                  refine lv_iload hx hb dM_limit_106 (lv_at hl 1 rfl) ?_
                  exact J108 _ _ hP hD hS _ (((if_neg h12).trans (if_pos h13)).symm)
                ·
                  refine lv_iload hx hb dM_limit_98 (lv_at hl 1 rfl) ?_
                  refine lv_iload hx hb dM_limit_100 (lv_at hl 0 rfl) ?_
                  refine lv_isub hx hb dM_limit_102 ?_
                  refine lv_goto hx hb dM_limit_103 (tgt := 108) (by decide) ?_
                  exact J108 _ _ hP hD hS _ (((if_neg h12).trans (if_neg h13)).symm)
            refine kTop (y := (zm_lim1 g3 64 (zm_lim1 g3 32 (zm_lim1 g3 16 (zm_lim1 g3 8 (y.2.2.2.2.2.2.2.2.2 (Int32.toNatClampNeg (g2 - 1)))))))) (rfl) ?_
            refine lv_istore hx hb dM_limit_108 hl (by decide) rfl (fun ls hl => ?_)
            have hl : lv_has ls 6 [(4, .int (zm_lim1 g3 64 (zm_lim1 g3 32 (zm_lim1 g3 16 (zm_lim1 g3 8 (y.2.2.2.2.2.2.2.2.2 (Int32.toNatClampNeg (g2 - 1)))))))), (5, .int 64), (0, .ref bo), (1, .int g1), (2, .int g2), (3, .int g3)] := hl
            refine lv_iload hx hb dM_limit_110 (lv_at hl 1 rfl) ?_
            refine lv_iconst (v := 2) hx hb dM_limit_112 (by decide) ?_
            refine lv_imul hx hb dM_limit_113 ?_
            refine kTop (y := 128) (by decide) ?_
            refine lv_istore hx hb dM_limit_114 hl (by decide) rfl (fun ls hl => ?_)
            have hl : lv_has ls 6 [(5, .int 128), (4, .int (zm_lim1 g3 64 (zm_lim1 g3 32 (zm_lim1 g3 16 (zm_lim1 g3 8 (y.2.2.2.2.2.2.2.2.2 (Int32.toNatClampNeg (g2 - 1)))))))), (0, .ref bo), (1, .int g1), (2, .int g2), (3, .int g3)] := hl
            refine lv_goto hx hb dM_limit_116 (tgt := 71) (by decide) ?_
            refine lv_iload hx hb dM_limit_71 (lv_at hl 0 rfl) ?_
            refine lv_sipush (v := 256) hx hb dM_limit_73 (by decide) ?_
            refine lv_icmp_gt (tgt := 119) hx hb dM_limit_76 (by decide) (fun h => absurd h (by decide)) (fun _ => ?_)
            refine lv_iload_n hx hb dM_limit_79 rfl (lv_at hl 5 rfl) ?_
            refine lv_iload hx hb dM_limit_80 (lv_at hl 0 rfl) ?_
            refine kcI (isR := [0, 1, 2, 3, 4, 5, 6, 7]) (isC := []) (wr := [(bo, .inr (3, [.ref b1, .int y.2.1, .ref b2, .ref b3, .int (nI y.2.2.2.2.1), .int y.2.2.2.2.2.1, .ref b4, .ref b5, .ref b6, .ref b7])), (b1, .inl (cI, 3, .inl y.1)), (b2, .inl (cI, 3, .inl y.2.2.1)), (b3, .inl (cI, 3, .inl y.2.2.2.1)), (b4, .inl (cZ, 512, .inl y.2.2.2.2.2.2.1)), (b5, .inl (cI, 512, .inl y.2.2.2.2.2.2.2.1)), (b6, .inl (cI, 512, .inl y.2.2.2.2.2.2.2.2.1)), (b7, .inl (cI, 512, .inl y.2.2.2.2.2.2.2.2.2))]) (w2 := [(bo, .inr (3, [.ref b1, .int y.2.1, .ref b2, .ref b3, .int (nI y.2.2.2.2.1), .int y.2.2.2.2.2.1, .ref b4, .ref b5, .ref b6, .ref b7])), (b1, .inl (cI, 3, .inl y.1)), (b2, .inl (cI, 3, .inl y.2.2.1)), (b3, .inl (cI, 3, .inl y.2.2.2.1)), (b4, .inl (cZ, 512, .inl y.2.2.2.2.2.2.1)), (b5, .inl (cI, 512, .inl y.2.2.2.2.2.2.2.1)), (b6, .inl (cI, 512, .inl y.2.2.2.2.2.2.2.2.1)), (b7, .inl (cI, 512, .inl y.2.2.2.2.2.2.2.2.2))]) (va_runS (As := [.int g3, .int 128]) (rest := []) ⟨hx, hb, hml, hown, hts⟩ (km_has l D cI cZ g3 128 _) ⟨(callB_of 2 hts gd_yM_has rfl rfl rfl (hts _ mw27) (hts _ mw333) (by decide +kernel) ⟨Nat.le_of_ble_eq_true rfl, Nat.le_of_ble_eq_true rfl⟩), hts _ mw334⟩ (kpreS hNw hP hD hK [] rfl (by decide)) rfl rfl hl.1 rfl (lv_room (Nat.le_of_ble_eq_true rfl)) dM_limit_82 ⟨Nat.le_of_ble_eq_true rfl, Nat.le_of_ble_eq_true rfl⟩) hP hD hS hA [0, 1, 2, 3, 4, 5, 6, 7] rfl rfl (by decide) (by decide) (by decide) rfl (fun H locs hP hD hS => ?_)
            refine kJoin (pcJ := 108) (z := (if (zm_has g3 128) = 0 then (zm_lim1 g3 64 (zm_lim1 g3 32 (zm_lim1 g3 16 (zm_lim1 g3 8 (y.2.2.2.2.2.2.2.2.2 (Int32.toNatClampNeg (g2 - 1))))))) else (if (zm_has (zm_lim1 g3 64 (zm_lim1 g3 32 (zm_lim1 g3 16 (zm_lim1 g3 8 (y.2.2.2.2.2.2.2.2.2 (Int32.toNatClampNeg (g2 - 1))))))) 128) = 0 then (zm_lim1 g3 64 (zm_lim1 g3 32 (zm_lim1 g3 16 (zm_lim1 g3 8 (y.2.2.2.2.2.2.2.2.2 (Int32.toNatClampNeg (g2 - 1))))))) else ((zm_lim1 g3 64 (zm_lim1 g3 32 (zm_lim1 g3 16 (zm_lim1 g3 8 (y.2.2.2.2.2.2.2.2.2 (Int32.toNatClampNeg (g2 - 1))))))) - 128)))) (ws := [(bo, .inr (3, [.ref b1, .int y.2.1, .ref b2, .ref b3, .int (nI y.2.2.2.2.1), .int y.2.2.2.2.2.1, .ref b4, .ref b5, .ref b6, .ref b7])), (b1, .inl (cI, 3, .inl y.1)), (b2, .inl (cI, 3, .inl y.2.2.1)), (b3, .inl (cI, 3, .inl y.2.2.2.1)), (b4, .inl (cZ, 512, .inl y.2.2.2.2.2.2.1)), (b5, .inl (cI, 512, .inl y.2.2.2.2.2.2.2.1)), (b6, .inl (cI, 512, .inl y.2.2.2.2.2.2.2.2.1)), (b7, .inl (cI, 512, .inl y.2.2.2.2.2.2.2.2.2))]) (rest := []) (D := D) (A := A) (H0 := s.heap) (fun J108 => ?_) (fun H locs hP hD hS => ?_)
            ·
              refine lv_if_eq (tgt := 106) hx hb dM_limit_85 (by decide) (fun h14 => ?_) (fun h14 => ?_)
              ·
                refine lv_iload hx hb dM_limit_106 (lv_at hl 1 rfl) ?_
                exact J108 _ _ hP hD hS _ ((if_pos h14).symm)
              ·
                refine lv_iload hx hb dM_limit_88 (lv_at hl 1 rfl) ?_
                refine lv_iload hx hb dM_limit_90 (lv_at hl 0 rfl) ?_
                refine kcI (isR := [0, 1, 2, 3, 4, 5, 6, 7]) (isC := []) (wr := [(bo, .inr (3, [.ref b1, .int y.2.1, .ref b2, .ref b3, .int (nI y.2.2.2.2.1), .int y.2.2.2.2.2.1, .ref b4, .ref b5, .ref b6, .ref b7])), (b1, .inl (cI, 3, .inl y.1)), (b2, .inl (cI, 3, .inl y.2.2.1)), (b3, .inl (cI, 3, .inl y.2.2.2.1)), (b4, .inl (cZ, 512, .inl y.2.2.2.2.2.2.1)), (b5, .inl (cI, 512, .inl y.2.2.2.2.2.2.2.1)), (b6, .inl (cI, 512, .inl y.2.2.2.2.2.2.2.2.1)), (b7, .inl (cI, 512, .inl y.2.2.2.2.2.2.2.2.2))]) (w2 := [(bo, .inr (3, [.ref b1, .int y.2.1, .ref b2, .ref b3, .int (nI y.2.2.2.2.1), .int y.2.2.2.2.2.1, .ref b4, .ref b5, .ref b6, .ref b7])), (b1, .inl (cI, 3, .inl y.1)), (b2, .inl (cI, 3, .inl y.2.2.1)), (b3, .inl (cI, 3, .inl y.2.2.2.1)), (b4, .inl (cZ, 512, .inl y.2.2.2.2.2.2.1)), (b5, .inl (cI, 512, .inl y.2.2.2.2.2.2.2.1)), (b6, .inl (cI, 512, .inl y.2.2.2.2.2.2.2.2.1)), (b7, .inl (cI, 512, .inl y.2.2.2.2.2.2.2.2.2))]) (va_runS (As := [.int (zm_lim1 g3 64 (zm_lim1 g3 32 (zm_lim1 g3 16 (zm_lim1 g3 8 (y.2.2.2.2.2.2.2.2.2 (Int32.toNatClampNeg (g2 - 1))))))), .int 128]) (rest := []) ⟨hx, hb, hml, hown, hts⟩ (km_has l D cI cZ (zm_lim1 g3 64 (zm_lim1 g3 32 (zm_lim1 g3 16 (zm_lim1 g3 8 (y.2.2.2.2.2.2.2.2.2 (Int32.toNatClampNeg (g2 - 1))))))) 128 _) ⟨(callB_of 2 hts gd_yM_has rfl rfl rfl (hts _ mw27) (hts _ mw333) (by decide +kernel) ⟨Nat.le_of_ble_eq_true rfl, Nat.le_of_ble_eq_true rfl⟩), hts _ mw334⟩ (kpreS hNw hP hD hK [] rfl (by decide)) rfl rfl hl.1 rfl (lv_room (Nat.le_of_ble_eq_true rfl)) dM_limit_92 ⟨Nat.le_of_ble_eq_true rfl, Nat.le_of_ble_eq_true rfl⟩) hP hD hS hA [0, 1, 2, 3, 4, 5, 6, 7] rfl rfl (by decide) (by decide) (by decide) rfl (fun H locs hP hD hS => ?_)
                refine lv_if_eq (tgt := 106) hx hb dM_limit_95 (by decide) (fun h15 => ?_) (fun h15 => ?_)
                ·
                  refine lv_iload hx hb dM_limit_106 (lv_at hl 1 rfl) ?_
                  exact J108 _ _ hP hD hS _ (((if_neg h14).trans (if_pos h15)).symm)
                ·
                  refine lv_iload hx hb dM_limit_98 (lv_at hl 1 rfl) ?_
                  refine lv_iload hx hb dM_limit_100 (lv_at hl 0 rfl) ?_
                  refine lv_isub hx hb dM_limit_102 ?_
                  refine lv_goto hx hb dM_limit_103 (tgt := 108) (by decide) ?_
                  exact J108 _ _ hP hD hS _ (((if_neg h14).trans (if_neg h15)).symm)
            refine kTop (y := (zm_lim1 g3 128 (zm_lim1 g3 64 (zm_lim1 g3 32 (zm_lim1 g3 16 (zm_lim1 g3 8 (y.2.2.2.2.2.2.2.2.2 (Int32.toNatClampNeg (g2 - 1))))))))) (rfl) ?_
            refine lv_istore hx hb dM_limit_108 hl (by decide) rfl (fun ls hl => ?_)
            have hl : lv_has ls 6 [(4, .int (zm_lim1 g3 128 (zm_lim1 g3 64 (zm_lim1 g3 32 (zm_lim1 g3 16 (zm_lim1 g3 8 (y.2.2.2.2.2.2.2.2.2 (Int32.toNatClampNeg (g2 - 1))))))))), (5, .int 128), (0, .ref bo), (1, .int g1), (2, .int g2), (3, .int g3)] := hl
            refine lv_iload hx hb dM_limit_110 (lv_at hl 1 rfl) ?_
            refine lv_iconst (v := 2) hx hb dM_limit_112 (by decide) ?_
            refine lv_imul hx hb dM_limit_113 ?_
            refine kTop (y := 256) (by decide) ?_
            refine lv_istore hx hb dM_limit_114 hl (by decide) rfl (fun ls hl => ?_)
            have hl : lv_has ls 6 [(5, .int 256), (4, .int (zm_lim1 g3 128 (zm_lim1 g3 64 (zm_lim1 g3 32 (zm_lim1 g3 16 (zm_lim1 g3 8 (y.2.2.2.2.2.2.2.2.2 (Int32.toNatClampNeg (g2 - 1))))))))), (0, .ref bo), (1, .int g1), (2, .int g2), (3, .int g3)] := hl
            refine lv_goto hx hb dM_limit_116 (tgt := 71) (by decide) ?_
            refine lv_iload hx hb dM_limit_71 (lv_at hl 0 rfl) ?_
            refine lv_sipush (v := 256) hx hb dM_limit_73 (by decide) ?_
            refine lv_icmp_gt (tgt := 119) hx hb dM_limit_76 (by decide) (fun h => absurd h (by decide)) (fun _ => ?_)
            refine lv_iload_n hx hb dM_limit_79 rfl (lv_at hl 5 rfl) ?_
            refine lv_iload hx hb dM_limit_80 (lv_at hl 0 rfl) ?_
            refine kcI (isR := [0, 1, 2, 3, 4, 5, 6, 7]) (isC := []) (wr := [(bo, .inr (3, [.ref b1, .int y.2.1, .ref b2, .ref b3, .int (nI y.2.2.2.2.1), .int y.2.2.2.2.2.1, .ref b4, .ref b5, .ref b6, .ref b7])), (b1, .inl (cI, 3, .inl y.1)), (b2, .inl (cI, 3, .inl y.2.2.1)), (b3, .inl (cI, 3, .inl y.2.2.2.1)), (b4, .inl (cZ, 512, .inl y.2.2.2.2.2.2.1)), (b5, .inl (cI, 512, .inl y.2.2.2.2.2.2.2.1)), (b6, .inl (cI, 512, .inl y.2.2.2.2.2.2.2.2.1)), (b7, .inl (cI, 512, .inl y.2.2.2.2.2.2.2.2.2))]) (w2 := [(bo, .inr (3, [.ref b1, .int y.2.1, .ref b2, .ref b3, .int (nI y.2.2.2.2.1), .int y.2.2.2.2.2.1, .ref b4, .ref b5, .ref b6, .ref b7])), (b1, .inl (cI, 3, .inl y.1)), (b2, .inl (cI, 3, .inl y.2.2.1)), (b3, .inl (cI, 3, .inl y.2.2.2.1)), (b4, .inl (cZ, 512, .inl y.2.2.2.2.2.2.1)), (b5, .inl (cI, 512, .inl y.2.2.2.2.2.2.2.1)), (b6, .inl (cI, 512, .inl y.2.2.2.2.2.2.2.2.1)), (b7, .inl (cI, 512, .inl y.2.2.2.2.2.2.2.2.2))]) (va_runS (As := [.int g3, .int 256]) (rest := []) ⟨hx, hb, hml, hown, hts⟩ (km_has l D cI cZ g3 256 _) ⟨(callB_of 2 hts gd_yM_has rfl rfl rfl (hts _ mw27) (hts _ mw333) (by decide +kernel) ⟨Nat.le_of_ble_eq_true rfl, Nat.le_of_ble_eq_true rfl⟩), hts _ mw334⟩ (kpreS hNw hP hD hK [] rfl (by decide)) rfl rfl hl.1 rfl (lv_room (Nat.le_of_ble_eq_true rfl)) dM_limit_82 ⟨Nat.le_of_ble_eq_true rfl, Nat.le_of_ble_eq_true rfl⟩) hP hD hS hA [0, 1, 2, 3, 4, 5, 6, 7] rfl rfl (by decide) (by decide) (by decide) rfl (fun H locs hP hD hS => ?_)
            refine kJoin (pcJ := 108) (z := (if (zm_has g3 256) = 0 then (zm_lim1 g3 128 (zm_lim1 g3 64 (zm_lim1 g3 32 (zm_lim1 g3 16 (zm_lim1 g3 8 (y.2.2.2.2.2.2.2.2.2 (Int32.toNatClampNeg (g2 - 1)))))))) else (if (zm_has (zm_lim1 g3 128 (zm_lim1 g3 64 (zm_lim1 g3 32 (zm_lim1 g3 16 (zm_lim1 g3 8 (y.2.2.2.2.2.2.2.2.2 (Int32.toNatClampNeg (g2 - 1)))))))) 256) = 0 then (zm_lim1 g3 128 (zm_lim1 g3 64 (zm_lim1 g3 32 (zm_lim1 g3 16 (zm_lim1 g3 8 (y.2.2.2.2.2.2.2.2.2 (Int32.toNatClampNeg (g2 - 1)))))))) else ((zm_lim1 g3 128 (zm_lim1 g3 64 (zm_lim1 g3 32 (zm_lim1 g3 16 (zm_lim1 g3 8 (y.2.2.2.2.2.2.2.2.2 (Int32.toNatClampNeg (g2 - 1)))))))) - 256)))) (ws := [(bo, .inr (3, [.ref b1, .int y.2.1, .ref b2, .ref b3, .int (nI y.2.2.2.2.1), .int y.2.2.2.2.2.1, .ref b4, .ref b5, .ref b6, .ref b7])), (b1, .inl (cI, 3, .inl y.1)), (b2, .inl (cI, 3, .inl y.2.2.1)), (b3, .inl (cI, 3, .inl y.2.2.2.1)), (b4, .inl (cZ, 512, .inl y.2.2.2.2.2.2.1)), (b5, .inl (cI, 512, .inl y.2.2.2.2.2.2.2.1)), (b6, .inl (cI, 512, .inl y.2.2.2.2.2.2.2.2.1)), (b7, .inl (cI, 512, .inl y.2.2.2.2.2.2.2.2.2))]) (rest := []) (D := D) (A := A) (H0 := s.heap) (fun J108 => ?_) (fun H locs hP hD hS => ?_)
            ·
              refine lv_if_eq (tgt := 106) hx hb dM_limit_85 (by decide) (fun h16 => ?_) (fun h16 => ?_)
              ·
                refine lv_iload hx hb dM_limit_106 (lv_at hl 1 rfl) ?_
                exact J108 _ _ hP hD hS _ ((if_pos h16).symm)
              ·
                refine lv_iload hx hb dM_limit_88 (lv_at hl 1 rfl) ?_
                refine lv_iload hx hb dM_limit_90 (lv_at hl 0 rfl) ?_
                refine kcI (isR := [0, 1, 2, 3, 4, 5, 6, 7]) (isC := []) (wr := [(bo, .inr (3, [.ref b1, .int y.2.1, .ref b2, .ref b3, .int (nI y.2.2.2.2.1), .int y.2.2.2.2.2.1, .ref b4, .ref b5, .ref b6, .ref b7])), (b1, .inl (cI, 3, .inl y.1)), (b2, .inl (cI, 3, .inl y.2.2.1)), (b3, .inl (cI, 3, .inl y.2.2.2.1)), (b4, .inl (cZ, 512, .inl y.2.2.2.2.2.2.1)), (b5, .inl (cI, 512, .inl y.2.2.2.2.2.2.2.1)), (b6, .inl (cI, 512, .inl y.2.2.2.2.2.2.2.2.1)), (b7, .inl (cI, 512, .inl y.2.2.2.2.2.2.2.2.2))]) (w2 := [(bo, .inr (3, [.ref b1, .int y.2.1, .ref b2, .ref b3, .int (nI y.2.2.2.2.1), .int y.2.2.2.2.2.1, .ref b4, .ref b5, .ref b6, .ref b7])), (b1, .inl (cI, 3, .inl y.1)), (b2, .inl (cI, 3, .inl y.2.2.1)), (b3, .inl (cI, 3, .inl y.2.2.2.1)), (b4, .inl (cZ, 512, .inl y.2.2.2.2.2.2.1)), (b5, .inl (cI, 512, .inl y.2.2.2.2.2.2.2.1)), (b6, .inl (cI, 512, .inl y.2.2.2.2.2.2.2.2.1)), (b7, .inl (cI, 512, .inl y.2.2.2.2.2.2.2.2.2))]) (va_runS (As := [.int (zm_lim1 g3 128 (zm_lim1 g3 64 (zm_lim1 g3 32 (zm_lim1 g3 16 (zm_lim1 g3 8 (y.2.2.2.2.2.2.2.2.2 (Int32.toNatClampNeg (g2 - 1)))))))), .int 256]) (rest := []) ⟨hx, hb, hml, hown, hts⟩ (km_has l D cI cZ (zm_lim1 g3 128 (zm_lim1 g3 64 (zm_lim1 g3 32 (zm_lim1 g3 16 (zm_lim1 g3 8 (y.2.2.2.2.2.2.2.2.2 (Int32.toNatClampNeg (g2 - 1)))))))) 256 _) ⟨(callB_of 2 hts gd_yM_has rfl rfl rfl (hts _ mw27) (hts _ mw333) (by decide +kernel) ⟨Nat.le_of_ble_eq_true rfl, Nat.le_of_ble_eq_true rfl⟩), hts _ mw334⟩ (kpreS hNw hP hD hK [] rfl (by decide)) rfl rfl hl.1 rfl (lv_room (Nat.le_of_ble_eq_true rfl)) dM_limit_92 ⟨Nat.le_of_ble_eq_true rfl, Nat.le_of_ble_eq_true rfl⟩) hP hD hS hA [0, 1, 2, 3, 4, 5, 6, 7] rfl rfl (by decide) (by decide) (by decide) rfl (fun H locs hP hD hS => ?_)
                refine lv_if_eq (tgt := 106) hx hb dM_limit_95 (by decide) (fun h17 => ?_) (fun h17 => ?_)
                ·
                  refine lv_iload hx hb dM_limit_106 (lv_at hl 1 rfl) ?_
                  exact J108 _ _ hP hD hS _ (((if_neg h16).trans (if_pos h17)).symm)
                ·
                  refine lv_iload hx hb dM_limit_98 (lv_at hl 1 rfl) ?_
                  refine lv_iload hx hb dM_limit_100 (lv_at hl 0 rfl) ?_
                  refine lv_isub hx hb dM_limit_102 ?_
                  refine lv_goto hx hb dM_limit_103 (tgt := 108) (by decide) ?_
                  exact J108 _ _ hP hD hS _ (((if_neg h16).trans (if_neg h17)).symm)
            refine kTop (y := (zm_lim1 g3 256 (zm_lim1 g3 128 (zm_lim1 g3 64 (zm_lim1 g3 32 (zm_lim1 g3 16 (zm_lim1 g3 8 (y.2.2.2.2.2.2.2.2.2 (Int32.toNatClampNeg (g2 - 1)))))))))) (rfl) ?_
            refine lv_istore hx hb dM_limit_108 hl (by decide) rfl (fun ls hl => ?_)
            have hl : lv_has ls 6 [(4, .int (zm_lim1 g3 256 (zm_lim1 g3 128 (zm_lim1 g3 64 (zm_lim1 g3 32 (zm_lim1 g3 16 (zm_lim1 g3 8 (y.2.2.2.2.2.2.2.2.2 (Int32.toNatClampNeg (g2 - 1)))))))))), (5, .int 256), (0, .ref bo), (1, .int g1), (2, .int g2), (3, .int g3)] := hl
            refine lv_iload hx hb dM_limit_110 (lv_at hl 1 rfl) ?_
            refine lv_iconst (v := 2) hx hb dM_limit_112 (by decide) ?_
            refine lv_imul hx hb dM_limit_113 ?_
            refine kTop (y := 512) (by decide) ?_
            refine lv_istore hx hb dM_limit_114 hl (by decide) rfl (fun ls hl => ?_)
            have hl : lv_has ls 6 [(5, .int 512), (4, .int (zm_lim1 g3 256 (zm_lim1 g3 128 (zm_lim1 g3 64 (zm_lim1 g3 32 (zm_lim1 g3 16 (zm_lim1 g3 8 (y.2.2.2.2.2.2.2.2.2 (Int32.toNatClampNeg (g2 - 1)))))))))), (0, .ref bo), (1, .int g1), (2, .int g2), (3, .int g3)] := hl
            refine lv_goto hx hb dM_limit_116 (tgt := 71) (by decide) ?_
            refine lv_iload hx hb dM_limit_71 (lv_at hl 0 rfl) ?_
            refine lv_sipush (v := 256) hx hb dM_limit_73 (by decide) ?_
            refine lv_icmp_gt (tgt := 119) hx hb dM_limit_76 (by decide) (fun _ => ?_) (fun h => absurd h (by decide))
            refine lv_aload_n hx hb dM_limit_119 rfl (lv_at hl 2 rfl) ?_
            refine va_get (D := D) (ci := 3) (v := .ref b7) (C := cnM) (T := ftM) (N := 10) hx hb hts inM hown hK hP 0 rfl rfl 9 (by decide) (hts _ mw298) (fun _ h9 => h9) rfl dM_limit_120 ?_
            refine lv_iload_n hx hb dM_limit_123 rfl (lv_at hl 4 rfl) ?_
            refine lv_iconst (v := 1) hx hb dM_limit_124 (by decide) ?_
            refine lv_isub hx hb dM_limit_125 ?_
            refine lv_iload_n hx hb dM_limit_126 rfl (lv_at hl 5 rfl) ?_
            refine lv_iconst (v := 4) hx hb dM_limit_127 (by decide) ?_
            refine kcI (isR := [0, 1, 2, 3, 4, 5, 6, 7]) (isC := []) (wr := [(bo, .inr (3, [.ref b1, .int y.2.1, .ref b2, .ref b3, .int (nI y.2.2.2.2.1), .int y.2.2.2.2.2.1, .ref b4, .ref b5, .ref b6, .ref b7])), (b1, .inl (cI, 3, .inl y.1)), (b2, .inl (cI, 3, .inl y.2.2.1)), (b3, .inl (cI, 3, .inl y.2.2.2.1)), (b4, .inl (cZ, 512, .inl y.2.2.2.2.2.2.1)), (b5, .inl (cI, 512, .inl y.2.2.2.2.2.2.2.1)), (b6, .inl (cI, 512, .inl y.2.2.2.2.2.2.2.2.1)), (b7, .inl (cI, 512, .inl y.2.2.2.2.2.2.2.2.2))]) (w2 := [(bo, .inr (3, [.ref b1, .int y.2.1, .ref b2, .ref b3, .int (nI y.2.2.2.2.1), .int y.2.2.2.2.2.1, .ref b4, .ref b5, .ref b6, .ref b7])), (b1, .inl (cI, 3, .inl y.1)), (b2, .inl (cI, 3, .inl y.2.2.1)), (b3, .inl (cI, 3, .inl y.2.2.2.1)), (b4, .inl (cZ, 512, .inl y.2.2.2.2.2.2.1)), (b5, .inl (cI, 512, .inl y.2.2.2.2.2.2.2.1)), (b6, .inl (cI, 512, .inl y.2.2.2.2.2.2.2.2.1)), (b7, .inl (cI, 512, .inl y.2.2.2.2.2.2.2.2.2))]) (va_runS (As := [.int g3, .int 4]) (rest := [.int (g2 - 1), .ref b7]) ⟨hx, hb, hml, hown, hts⟩ (km_has l D cI cZ g3 4 _) ⟨(callB_of 2 hts gd_yM_has rfl rfl rfl (hts _ mw27) (hts _ mw333) (by decide +kernel) ⟨Nat.le_of_ble_eq_true rfl, Nat.le_of_ble_eq_true rfl⟩), hts _ mw334⟩ (kpreS hNw hP hD hK [] rfl (by decide)) rfl rfl hl.1 rfl (lv_room (Nat.le_of_ble_eq_true rfl)) dM_limit_128 ⟨Nat.le_of_ble_eq_true rfl, Nat.le_of_ble_eq_true rfl⟩) hP hD hS hA [0, 1, 2, 3, 4, 5, 6, 7] rfl rfl (by decide) (by decide) (by decide) rfl (fun H locs hP hD hS => ?_)
            refine kJoin (pcJ := 152) (z := (if (zm_has g3 4) = 0 then (zm_lim1 g3 256 (zm_lim1 g3 128 (zm_lim1 g3 64 (zm_lim1 g3 32 (zm_lim1 g3 16 (zm_lim1 g3 8 (y.2.2.2.2.2.2.2.2.2 (Int32.toNatClampNeg (g2 - 1))))))))) else (if (zm_has (zm_lim1 g3 256 (zm_lim1 g3 128 (zm_lim1 g3 64 (zm_lim1 g3 32 (zm_lim1 g3 16 (zm_lim1 g3 8 (y.2.2.2.2.2.2.2.2.2 (Int32.toNatClampNeg (g2 - 1))))))))) 4) = 0 then ((zm_lim1 g3 256 (zm_lim1 g3 128 (zm_lim1 g3 64 (zm_lim1 g3 32 (zm_lim1 g3 16 (zm_lim1 g3 8 (y.2.2.2.2.2.2.2.2.2 (Int32.toNatClampNeg (g2 - 1))))))))) + 4) else (zm_lim1 g3 256 (zm_lim1 g3 128 (zm_lim1 g3 64 (zm_lim1 g3 32 (zm_lim1 g3 16 (zm_lim1 g3 8 (y.2.2.2.2.2.2.2.2.2 (Int32.toNatClampNeg (g2 - 1)))))))))))) (ws := [(bo, .inr (3, [.ref b1, .int y.2.1, .ref b2, .ref b3, .int (nI y.2.2.2.2.1), .int y.2.2.2.2.2.1, .ref b4, .ref b5, .ref b6, .ref b7])), (b1, .inl (cI, 3, .inl y.1)), (b2, .inl (cI, 3, .inl y.2.2.1)), (b3, .inl (cI, 3, .inl y.2.2.2.1)), (b4, .inl (cZ, 512, .inl y.2.2.2.2.2.2.1)), (b5, .inl (cI, 512, .inl y.2.2.2.2.2.2.2.1)), (b6, .inl (cI, 512, .inl y.2.2.2.2.2.2.2.2.1)), (b7, .inl (cI, 512, .inl y.2.2.2.2.2.2.2.2.2))]) (rest := [.int (g2 - 1), .ref b7]) (D := D) (A := A) (H0 := s.heap) (fun J152 => ?_) (fun H locs hP hD hS => ?_)
            ·
              refine lv_if_eq (tgt := 150) hx hb dM_limit_131 (by decide) (fun h18 => ?_) (fun h18 => ?_)
              ·
                refine lv_iload hx hb dM_limit_150 (lv_at hl 1 rfl) ?_
                exact J152 _ _ hP hD hS _ ((if_pos h18).symm)
              ·
                refine lv_iload hx hb dM_limit_134 (lv_at hl 1 rfl) ?_
                refine lv_iconst (v := 4) hx hb dM_limit_136 (by decide) ?_
                refine kcI (isR := [0, 1, 2, 3, 4, 5, 6, 7]) (isC := []) (wr := [(bo, .inr (3, [.ref b1, .int y.2.1, .ref b2, .ref b3, .int (nI y.2.2.2.2.1), .int y.2.2.2.2.2.1, .ref b4, .ref b5, .ref b6, .ref b7])), (b1, .inl (cI, 3, .inl y.1)), (b2, .inl (cI, 3, .inl y.2.2.1)), (b3, .inl (cI, 3, .inl y.2.2.2.1)), (b4, .inl (cZ, 512, .inl y.2.2.2.2.2.2.1)), (b5, .inl (cI, 512, .inl y.2.2.2.2.2.2.2.1)), (b6, .inl (cI, 512, .inl y.2.2.2.2.2.2.2.2.1)), (b7, .inl (cI, 512, .inl y.2.2.2.2.2.2.2.2.2))]) (w2 := [(bo, .inr (3, [.ref b1, .int y.2.1, .ref b2, .ref b3, .int (nI y.2.2.2.2.1), .int y.2.2.2.2.2.1, .ref b4, .ref b5, .ref b6, .ref b7])), (b1, .inl (cI, 3, .inl y.1)), (b2, .inl (cI, 3, .inl y.2.2.1)), (b3, .inl (cI, 3, .inl y.2.2.2.1)), (b4, .inl (cZ, 512, .inl y.2.2.2.2.2.2.1)), (b5, .inl (cI, 512, .inl y.2.2.2.2.2.2.2.1)), (b6, .inl (cI, 512, .inl y.2.2.2.2.2.2.2.2.1)), (b7, .inl (cI, 512, .inl y.2.2.2.2.2.2.2.2.2))]) (va_runS (As := [.int (zm_lim1 g3 256 (zm_lim1 g3 128 (zm_lim1 g3 64 (zm_lim1 g3 32 (zm_lim1 g3 16 (zm_lim1 g3 8 (y.2.2.2.2.2.2.2.2.2 (Int32.toNatClampNeg (g2 - 1))))))))), .int 4]) (rest := [.int (g2 - 1), .ref b7]) ⟨hx, hb, hml, hown, hts⟩ (km_has l D cI cZ (zm_lim1 g3 256 (zm_lim1 g3 128 (zm_lim1 g3 64 (zm_lim1 g3 32 (zm_lim1 g3 16 (zm_lim1 g3 8 (y.2.2.2.2.2.2.2.2.2 (Int32.toNatClampNeg (g2 - 1))))))))) 4 _) ⟨(callB_of 2 hts gd_yM_has rfl rfl rfl (hts _ mw27) (hts _ mw333) (by decide +kernel) ⟨Nat.le_of_ble_eq_true rfl, Nat.le_of_ble_eq_true rfl⟩), hts _ mw334⟩ (kpreS hNw hP hD hK [] rfl (by decide)) rfl rfl hl.1 rfl (lv_room (Nat.le_of_ble_eq_true rfl)) dM_limit_137 ⟨Nat.le_of_ble_eq_true rfl, Nat.le_of_ble_eq_true rfl⟩) hP hD hS hA [0, 1, 2, 3, 4, 5, 6, 7] rfl rfl (by decide) (by decide) (by decide) rfl (fun H locs hP hD hS => ?_)
                refine lv_if_ne (tgt := 150) hx hb dM_limit_140 (by decide) (fun h19 => ?_) (fun h19 => ?_)
                ·
                  refine lv_iload hx hb dM_limit_150 (lv_at hl 1 rfl) ?_
                  exact J152 _ _ hP hD hS _ (((if_neg h18).trans (if_neg h19)).symm)
                ·
                  refine lv_iload hx hb dM_limit_143 (lv_at hl 1 rfl) ?_
                  refine lv_iconst (v := 4) hx hb dM_limit_145 (by decide) ?_
                  refine lv_iadd hx hb dM_limit_146 ?_
                  refine lv_goto hx hb dM_limit_147 (tgt := 152) (by decide) ?_
                  exact J152 _ _ hP hD hS _ (((if_neg h18).trans (if_pos h19)).symm)
            refine va_iast hx hb hK hP hD hS 7 0 rfl rfl (zm_hidden_in hn h2) dM_limit_152 (fun H locs hP hD hS => ?_)
            have hP : va_P D vwCl [(bo, .inr (3, [.ref b1, .int y.2.1, .ref b2, .ref b3, .int (nI y.2.2.2.2.1), .int y.2.2.2.2.2.1, .ref b4, .ref b5, .ref b6, .ref b7])), (b1, .inl (cI, 3, .inl y.1)), (b2, .inl (cI, 3, .inl y.2.2.1)), (b3, .inl (cI, 3, .inl y.2.2.2.1)), (b4, .inl (cZ, 512, .inl y.2.2.2.2.2.2.1)), (b5, .inl (cI, 512, .inl y.2.2.2.2.2.2.2.1)), (b6, .inl (cI, 512, .inl y.2.2.2.2.2.2.2.2.1)), (b7, .inl (cI, 512, .inl (upd y.2.2.2.2.2.2.2.2.2 (Int32.toNatClampNeg (g2 - 1)) (if (zm_has g3 4) = 0 then (zm_lim1 g3 256 (zm_lim1 g3 128 (zm_lim1 g3 64 (zm_lim1 g3 32 (zm_lim1 g3 16 (zm_lim1 g3 8 (y.2.2.2.2.2.2.2.2.2 (Int32.toNatClampNeg (g2 - 1))))))))) else (if (zm_has (zm_lim1 g3 256 (zm_lim1 g3 128 (zm_lim1 g3 64 (zm_lim1 g3 32 (zm_lim1 g3 16 (zm_lim1 g3 8 (y.2.2.2.2.2.2.2.2.2 (Int32.toNatClampNeg (g2 - 1))))))))) 4) = 0 then ((zm_lim1 g3 256 (zm_lim1 g3 128 (zm_lim1 g3 64 (zm_lim1 g3 32 (zm_lim1 g3 16 (zm_lim1 g3 8 (y.2.2.2.2.2.2.2.2.2 (Int32.toNatClampNeg (g2 - 1))))))))) + 4) else (zm_lim1 g3 256 (zm_lim1 g3 128 (zm_lim1 g3 64 (zm_lim1 g3 32 (zm_lim1 g3 16 (zm_lim1 g3 8 (y.2.2.2.2.2.2.2.2.2 (Int32.toNatClampNeg (g2 - 1))))))))))))))] H := hP
            have hD : va_D A [(bo, .inr (3, [.ref b1, .int y.2.1, .ref b2, .ref b3, .int (nI y.2.2.2.2.1), .int y.2.2.2.2.2.1, .ref b4, .ref b5, .ref b6, .ref b7])), (b1, .inl (cI, 3, .inl y.1)), (b2, .inl (cI, 3, .inl y.2.2.1)), (b3, .inl (cI, 3, .inl y.2.2.2.1)), (b4, .inl (cZ, 512, .inl y.2.2.2.2.2.2.1)), (b5, .inl (cI, 512, .inl y.2.2.2.2.2.2.2.1)), (b6, .inl (cI, 512, .inl y.2.2.2.2.2.2.2.2.1)), (b7, .inl (cI, 512, .inl (upd y.2.2.2.2.2.2.2.2.2 (Int32.toNatClampNeg (g2 - 1)) (if (zm_has g3 4) = 0 then (zm_lim1 g3 256 (zm_lim1 g3 128 (zm_lim1 g3 64 (zm_lim1 g3 32 (zm_lim1 g3 16 (zm_lim1 g3 8 (y.2.2.2.2.2.2.2.2.2 (Int32.toNatClampNeg (g2 - 1))))))))) else (if (zm_has (zm_lim1 g3 256 (zm_lim1 g3 128 (zm_lim1 g3 64 (zm_lim1 g3 32 (zm_lim1 g3 16 (zm_lim1 g3 8 (y.2.2.2.2.2.2.2.2.2 (Int32.toNatClampNeg (g2 - 1))))))))) 4) = 0 then ((zm_lim1 g3 256 (zm_lim1 g3 128 (zm_lim1 g3 64 (zm_lim1 g3 32 (zm_lim1 g3 16 (zm_lim1 g3 8 (y.2.2.2.2.2.2.2.2.2 (Int32.toNatClampNeg (g2 - 1))))))))) + 4) else (zm_lim1 g3 256 (zm_lim1 g3 128 (zm_lim1 g3 64 (zm_lim1 g3 32 (zm_lim1 g3 16 (zm_lim1 g3 8 (y.2.2.2.2.2.2.2.2.2 (Int32.toNatClampNeg (g2 - 1))))))))))))))] := hD
            refine lv_aload_n hx hb dM_limit_153 rfl (lv_at hl 2 rfl) ?_
            refine va_get (D := D) (ci := 3) (v := .ref b7) (C := cnM) (T := ftM) (N := 10) hx hb hts inM hown hK hP 0 rfl rfl 9 (by decide) (hts _ mw298) (fun _ h9 => h9) rfl dM_limit_154 ?_
            refine lv_iload_n hx hb dM_limit_157 rfl (lv_at hl 4 rfl) ?_
            refine lv_iconst (v := 1) hx hb dM_limit_158 (by decide) ?_
            refine lv_isub hx hb dM_limit_159 ?_
            refine va_iald hx hb hK hP 7 0 rfl rfl (zm_hidden_in hn h2) dM_limit_160 ?_
            exact kretI (wf := fun st => wY cI cZ bo b1 b2 b3 b4 b5 b6 b7 st) (st := (y.1, y.2.1, y.2.2.1, y.2.2.2.1, y.2.2.2.2.1, y.2.2.2.2.2.1, y.2.2.2.2.2.2.1, y.2.2.2.2.2.2.2.1, y.2.2.2.2.2.2.2.2.1, (upd y.2.2.2.2.2.2.2.2.2 (Int32.toNatClampNeg (g2 - 1)) (if (zm_has g3 4) = 0 then (zm_lim1 g3 256 (zm_lim1 g3 128 (zm_lim1 g3 64 (zm_lim1 g3 32 (zm_lim1 g3 16 (zm_lim1 g3 8 (y.2.2.2.2.2.2.2.2.2 (Int32.toNatClampNeg (g2 - 1))))))))) else (if (zm_has (zm_lim1 g3 256 (zm_lim1 g3 128 (zm_lim1 g3 64 (zm_lim1 g3 32 (zm_lim1 g3 16 (zm_lim1 g3 8 (y.2.2.2.2.2.2.2.2.2 (Int32.toNatClampNeg (g2 - 1))))))))) 4) = 0 then ((zm_lim1 g3 256 (zm_lim1 g3 128 (zm_lim1 g3 64 (zm_lim1 g3 32 (zm_lim1 g3 16 (zm_lim1 g3 8 (y.2.2.2.2.2.2.2.2.2 (Int32.toNatClampNeg (g2 - 1))))))))) + 4) else (zm_lim1 g3 256 (zm_lim1 g3 128 (zm_lim1 g3 64 (zm_lim1 g3 32 (zm_lim1 g3 16 (zm_lim1 g3 8 (y.2.2.2.2.2.2.2.2.2 (Int32.toNatClampNeg (g2 - 1)))))))))))))) (by first | (rw [zm_limit, if_pos h1, if_pos h2, if_pos h3, if_neg h4, if_pos h5]; done) | exact ((if_pos h1).trans ((if_pos h2).trans ((if_pos h3).trans ((if_neg h4).trans (if_pos h5)))))) hx hb hr hlk hS hP hD hK dM_limit_161
          ·
            refine lv_bipush (v := (-5)) hx hb dM_limit_54 (by decide) ?_
            exact kretI (wf := fun st => wY cI cZ bo b1 b2 b3 b4 b5 b6 b7 st) (st := y) (by first | (rw [zm_limit, if_pos h1, if_pos h2, if_pos h3, if_neg h4, if_neg h5]; done) | exact ((if_pos h1).trans ((if_pos h2).trans ((if_pos h3).trans ((if_neg h4).trans (if_neg h5)))))) hx hb hr hlk hS hP hD hK dM_limit_56
      ·
        refine lv_bipush (v := (-4)) hx hb dM_limit_37 (by decide) ?_
        exact kretI (wf := fun st => wY cI cZ bo b1 b2 b3 b4 b5 b6 b7 st) (st := y) (by first | (rw [zm_limit, if_pos h1, if_pos h2, if_neg h3]; done) | exact ((if_pos h1).trans ((if_pos h2).trans (if_neg h3)))) hx hb hr hlk hS hP hD hK dM_limit_39
    ·
      refine lv_bipush (v := (-2)) hx hb dM_limit_18 (by decide) ?_
      exact kretI (wf := fun st => wY cI cZ bo b1 b2 b3 b4 b5 b6 b7 st) (st := y) (by first | (rw [zm_limit, if_pos h1, if_neg h2]; done) | exact ((if_pos h1).trans (if_neg h2))) hx hb hr hlk hS hP hD hK dM_limit_20
  ·
    refine lv_iconst (v := (-1)) hx hb dM_limit_8 (by decide) ?_
    exact kretI (wf := fun st => wY cI cZ bo b1 b2 b3 b4 b5 b6 b7 st) (st := y) (by first | (rw [zm_limit, if_neg h1]; done) | exact (if_neg h1)) hx hb hr hlk hS hP hD hK dM_limit_9

def zm_trust (y : YS) (g1 : Int32) (g2 : Int32) : Int32 × YS := (if (zm_closed y g1) = 0 then (if (zm_hidden y g2) = 0 then (if y.2.1 = 2 then (if (zm_readOnly y g1 (y.2.2.2.2.2.2.2.2.2 (Int32.toNatClampNeg (g2 - 1)))) = 0 then (if (zm_has (y.2.2.2.2.2.2.2.2.2 (Int32.toNatClampNeg (g2 - 1))) 1) = 0 then ((-5), y) else (if (zm_has (y.2.2.2.2.2.2.2.2.2 (Int32.toNatClampNeg (g2 - 1))) 128) = 0 then ((-5), y) else (0, (y.1, y.2.1, y.2.2.1, y.2.2.2.1, y.2.2.2.2.1, y.2.2.2.2.2.1, y.2.2.2.2.2.2.1, y.2.2.2.2.2.2.2.1, y.2.2.2.2.2.2.2.2.1, (upd y.2.2.2.2.2.2.2.2.2 (Int32.toNatClampNeg (g2 - 1)) (if (zm_has (y.2.2.2.2.2.2.2.2.2 (Int32.toNatClampNeg (g2 - 1))) 512) = 0 then ((y.2.2.2.2.2.2.2.2.2 (Int32.toNatClampNeg (g2 - 1))) + 512) else (y.2.2.2.2.2.2.2.2.2 (Int32.toNatClampNeg (g2 - 1))))))))) else ((-4), y)) else ((-3), y)) else ((-2), y)) else ((-1), y))

set_option maxHeartbeats 4000000 in
set_option maxRecDepth 100000 in
theorem km_trust (l : Launch) (D : va_G) (cI cZ : ClassId) (bo b1 b2 b3 b4 b5 b6 b7 : Nat) (y : YS) (g1 : Int32) (g2 : Int32) (hn : y.2.2.2.2.1 ≤ 512) : kI l yM_trust wsM_trust (rmOf 3 63) D (kT cI cZ) [.ref bo, .int g1, .int g2] (wY cI cZ bo b1 b2 b3 b4 b5 b6 b7 y) (zm_trust y g1 g2).1 (wY cI cZ bo b1 b2 b3 b4 b5 b6 b7 ((zm_trust y g1 g2).2)) := by
  intro sz
  refine kOf (Qc := fun A => kQi D (kT cI cZ) A (zm_trust y g1 g2).1 (wY cI cZ bo b1 b2 b3 b4 b5 b6 b7 ((zm_trust y g1 g2).2))) (cc := cM_trust) (maxL := 3) (ret := some .int) (by decide) rfl (Nat.le_of_ble_eq_true rfl) ?_ sz
  intro p e s m args below meth c A ls hx hb hml hown hts hNw hr hlk hin hA hS hP hD hK hl
  show W p l e (rmOf 3 63) s m args below meth c s.heap [] 0 0 (MQ below (kQi D (kT cI cZ) A (zm_trust y g1 g2).1 (wY cI cZ bo b1 b2 b3 b4 b5 b6 b7 ((zm_trust y g1 g2).2))) args s 0 0 A) (F0 m 0 ls [])
  have hts : ∀ q ∈ lw_g, q.before args s = true := fun q h => hts q (List.mem_cons_of_mem _ h)
  have hown : s.vm.findClass cnM = some m.cls := hown
  have hl : lv_has ls 3 [(0, .ref bo), (1, .int g1), (2, .int g2)] := hl
  have hP : va_P D vwCl [(bo, .inr (3, [.ref b1, .int y.2.1, .ref b2, .ref b3, .int (nI y.2.2.2.2.1), .int y.2.2.2.2.2.1, .ref b4, .ref b5, .ref b6, .ref b7])), (b1, .inl (cI, 3, .inl y.1)), (b2, .inl (cI, 3, .inl y.2.2.1)), (b3, .inl (cI, 3, .inl y.2.2.2.1)), (b4, .inl (cZ, 512, .inl y.2.2.2.2.2.2.1)), (b5, .inl (cI, 512, .inl y.2.2.2.2.2.2.2.1)), (b6, .inl (cI, 512, .inl y.2.2.2.2.2.2.2.2.1)), (b7, .inl (cI, 512, .inl y.2.2.2.2.2.2.2.2.2))] s.heap := hP
  have hD : va_D A [(bo, .inr (3, [.ref b1, .int y.2.1, .ref b2, .ref b3, .int (nI y.2.2.2.2.1), .int y.2.2.2.2.2.1, .ref b4, .ref b5, .ref b6, .ref b7])), (b1, .inl (cI, 3, .inl y.1)), (b2, .inl (cI, 3, .inl y.2.2.1)), (b3, .inl (cI, 3, .inl y.2.2.2.1)), (b4, .inl (cZ, 512, .inl y.2.2.2.2.2.2.1)), (b5, .inl (cI, 512, .inl y.2.2.2.2.2.2.2.1)), (b6, .inl (cI, 512, .inl y.2.2.2.2.2.2.2.2.1)), (b7, .inl (cI, 512, .inl y.2.2.2.2.2.2.2.2.2))] := hD
  refine lv_aload_n hx hb dM_trust_0 rfl (lv_at hl 0 rfl) ?_
  refine lv_iload_n hx hb dM_trust_1 rfl (lv_at hl 1 rfl) ?_
  refine kcI (isR := []) (isC := [0, 1, 2, 3, 4, 5, 6, 7]) (wr := []) (w2 := [(bo, .inr (3, [.ref b1, .int y.2.1, .ref b2, .ref b3, .int (nI y.2.2.2.2.1), .int y.2.2.2.2.2.1, .ref b4, .ref b5, .ref b6, .ref b7])), (b1, .inl (cI, 3, .inl y.1)), (b2, .inl (cI, 3, .inl y.2.2.1)), (b3, .inl (cI, 3, .inl y.2.2.2.1)), (b4, .inl (cZ, 512, .inl y.2.2.2.2.2.2.1)), (b5, .inl (cI, 512, .inl y.2.2.2.2.2.2.2.1)), (b6, .inl (cI, 512, .inl y.2.2.2.2.2.2.2.2.1)), (b7, .inl (cI, 512, .inl y.2.2.2.2.2.2.2.2.2))]) (va_runV (As := [.int g1]) (rest := []) ⟨hx, hb, hml, hown, hts⟩ (km_closed l D cI cZ bo b1 b2 b3 b4 b5 b6 b7 y g1 _) ⟨(callB_of 1 hts gd_yM_closed rfl rfl rfl (hts _ mw27) (hts _ mw329) (by decide +kernel) ⟨Nat.le_of_ble_eq_true rfl, Nat.le_of_ble_eq_true rfl⟩), hts _ mw331, hts _ mw15⟩ (kpreV hNw hP hD hK [0, 1, 2, 3, 4, 5, 6, 7] rfl (by decide) 0 rfl (ci := 3) rfl) rfl rfl hl.1 rfl (lv_room (Nat.le_of_ble_eq_true rfl)) dM_trust_2 ⟨Nat.le_of_ble_eq_true rfl, Nat.le_of_ble_eq_true rfl⟩) hP hD hS hA [0, 1, 2, 3, 4, 5, 6, 7] rfl rfl (by decide) (by decide) (by decide) rfl (fun H locs hP hD hS => ?_)
  refine lv_if_eq (tgt := 10) hx hb dM_trust_5 (by decide) (fun h1 => ?_) (fun h1 => ?_)
  ·
    refine lv_aload_n hx hb dM_trust_10 rfl (lv_at hl 0 rfl) ?_
    refine lv_iload_n hx hb dM_trust_11 rfl (lv_at hl 2 rfl) ?_
    refine kcI (isR := []) (isC := [0, 1, 2, 3, 4, 5, 6, 7]) (wr := []) (w2 := [(bo, .inr (3, [.ref b1, .int y.2.1, .ref b2, .ref b3, .int (nI y.2.2.2.2.1), .int y.2.2.2.2.2.1, .ref b4, .ref b5, .ref b6, .ref b7])), (b1, .inl (cI, 3, .inl y.1)), (b2, .inl (cI, 3, .inl y.2.2.1)), (b3, .inl (cI, 3, .inl y.2.2.2.1)), (b4, .inl (cZ, 512, .inl y.2.2.2.2.2.2.1)), (b5, .inl (cI, 512, .inl y.2.2.2.2.2.2.2.1)), (b6, .inl (cI, 512, .inl y.2.2.2.2.2.2.2.2.1)), (b7, .inl (cI, 512, .inl y.2.2.2.2.2.2.2.2.2))]) (va_runV (As := [.int g2]) (rest := []) ⟨hx, hb, hml, hown, hts⟩ (km_hidden l D cI cZ bo b1 b2 b3 b4 b5 b6 b7 y g2 (hn) _) ⟨(callB_of 1 hts gd_yM_hidden rfl rfl rfl (hts _ mw27) (hts _ mw384) (by decide +kernel) ⟨Nat.le_of_ble_eq_true rfl, Nat.le_of_ble_eq_true rfl⟩), hts _ mw386, hts _ mw20⟩ (kpreV hNw hP hD hK [0, 1, 2, 3, 4, 5, 6, 7] rfl (by decide) 0 rfl (ci := 3) rfl) rfl rfl hl.1 rfl (lv_room (Nat.le_of_ble_eq_true rfl)) dM_trust_12 ⟨Nat.le_of_ble_eq_true rfl, Nat.le_of_ble_eq_true rfl⟩) hP hD hS hA [0, 1, 2, 3, 4, 5, 6, 7] rfl rfl (by decide) (by decide) (by decide) rfl (fun H locs hP hD hS => ?_)
    refine lv_if_eq (tgt := 21) hx hb dM_trust_15 (by decide) (fun h2 => ?_) (fun h2 => ?_)
    ·
      refine lv_aload_n hx hb dM_trust_21 rfl (lv_at hl 0 rfl) ?_
      refine va_get (D := D) (ci := 3) (v := .int y.2.1) (C := cnM) (T := ftM) (N := 10) hx hb hts inM hown hK hP 0 rfl rfl 1 (by decide) (hts _ mw290) (fun _ h9 => h9) rfl dM_trust_22 ?_
      refine lv_iconst (v := 2) hx hb dM_trust_25 (by decide) ?_
      refine lv_icmp_eq (tgt := 32) hx hb dM_trust_26 (by decide) (fun h3 => ?_) (fun h3 => ?_)
      ·
        refine lv_aload_n hx hb dM_trust_32 rfl (lv_at hl 0 rfl) ?_
        refine lv_iload_n hx hb dM_trust_33 rfl (lv_at hl 1 rfl) ?_
        refine lv_aload_n hx hb dM_trust_34 rfl (lv_at hl 0 rfl) ?_
        refine va_get (D := D) (ci := 3) (v := .ref b7) (C := cnM) (T := ftM) (N := 10) hx hb hts inM hown hK hP 0 rfl rfl 9 (by decide) (hts _ mw298) (fun _ h9 => h9) rfl dM_trust_35 ?_
        refine lv_iload_n hx hb dM_trust_38 rfl (lv_at hl 2 rfl) ?_
        refine lv_iconst (v := 1) hx hb dM_trust_39 (by decide) ?_
        refine lv_isub hx hb dM_trust_40 ?_
        refine va_iald hx hb hK hP 7 0 rfl rfl (zm_hidden_in hn h2) dM_trust_41 ?_
        refine kcI (isR := []) (isC := [0, 1, 2, 3, 4, 5, 6, 7]) (wr := []) (w2 := [(bo, .inr (3, [.ref b1, .int y.2.1, .ref b2, .ref b3, .int (nI y.2.2.2.2.1), .int y.2.2.2.2.2.1, .ref b4, .ref b5, .ref b6, .ref b7])), (b1, .inl (cI, 3, .inl y.1)), (b2, .inl (cI, 3, .inl y.2.2.1)), (b3, .inl (cI, 3, .inl y.2.2.2.1)), (b4, .inl (cZ, 512, .inl y.2.2.2.2.2.2.1)), (b5, .inl (cI, 512, .inl y.2.2.2.2.2.2.2.1)), (b6, .inl (cI, 512, .inl y.2.2.2.2.2.2.2.2.1)), (b7, .inl (cI, 512, .inl y.2.2.2.2.2.2.2.2.2))]) (va_runV (As := [.int g1, .int (y.2.2.2.2.2.2.2.2.2 (Int32.toNatClampNeg (g2 - 1)))]) (rest := []) ⟨hx, hb, hml, hown, hts⟩ (km_readOnly l D cI cZ bo b1 b2 b3 b4 b5 b6 b7 y g1 (y.2.2.2.2.2.2.2.2.2 (Int32.toNatClampNeg (g2 - 1))) (zm_closed_in h1) _) ⟨(callB_of 2 hts gd_yM_readOnly rfl rfl rfl (hts _ mw27) (hts _ mw356) (by decide +kernel) ⟨Nat.le_of_ble_eq_true rfl, Nat.le_of_ble_eq_true rfl⟩), hts _ mw358, hts _ mw17⟩ (kpreV hNw hP hD hK [0, 1, 2, 3, 4, 5, 6, 7] rfl (by decide) 0 rfl (ci := 3) rfl) rfl rfl hl.1 rfl (lv_room (Nat.le_of_ble_eq_true rfl)) dM_trust_42 ⟨Nat.le_of_ble_eq_true rfl, Nat.le_of_ble_eq_true rfl⟩) hP hD hS hA [0, 1, 2, 3, 4, 5, 6, 7] rfl rfl (by decide) (by decide) (by decide) rfl (fun H locs hP hD hS => ?_)
        refine lv_if_eq (tgt := 51) hx hb dM_trust_45 (by decide) (fun h4 => ?_) (fun h4 => ?_)
        ·
          refine lv_aload_n hx hb dM_trust_51 rfl (lv_at hl 0 rfl) ?_
          refine va_get (D := D) (ci := 3) (v := .ref b7) (C := cnM) (T := ftM) (N := 10) hx hb hts inM hown hK hP 0 rfl rfl 9 (by decide) (hts _ mw298) (fun _ h9 => h9) rfl dM_trust_52 ?_
          refine lv_iload_n hx hb dM_trust_55 rfl (lv_at hl 2 rfl) ?_
          refine lv_iconst (v := 1) hx hb dM_trust_56 (by decide) ?_
          refine lv_isub hx hb dM_trust_57 ?_
          refine va_iald hx hb hK hP 7 0 rfl rfl (zm_hidden_in hn h2) dM_trust_58 ?_
          refine lv_iconst (v := 1) hx hb dM_trust_59 (by decide) ?_
          refine kcI (isR := [0, 1, 2, 3, 4, 5, 6, 7]) (isC := []) (wr := [(bo, .inr (3, [.ref b1, .int y.2.1, .ref b2, .ref b3, .int (nI y.2.2.2.2.1), .int y.2.2.2.2.2.1, .ref b4, .ref b5, .ref b6, .ref b7])), (b1, .inl (cI, 3, .inl y.1)), (b2, .inl (cI, 3, .inl y.2.2.1)), (b3, .inl (cI, 3, .inl y.2.2.2.1)), (b4, .inl (cZ, 512, .inl y.2.2.2.2.2.2.1)), (b5, .inl (cI, 512, .inl y.2.2.2.2.2.2.2.1)), (b6, .inl (cI, 512, .inl y.2.2.2.2.2.2.2.2.1)), (b7, .inl (cI, 512, .inl y.2.2.2.2.2.2.2.2.2))]) (w2 := [(bo, .inr (3, [.ref b1, .int y.2.1, .ref b2, .ref b3, .int (nI y.2.2.2.2.1), .int y.2.2.2.2.2.1, .ref b4, .ref b5, .ref b6, .ref b7])), (b1, .inl (cI, 3, .inl y.1)), (b2, .inl (cI, 3, .inl y.2.2.1)), (b3, .inl (cI, 3, .inl y.2.2.2.1)), (b4, .inl (cZ, 512, .inl y.2.2.2.2.2.2.1)), (b5, .inl (cI, 512, .inl y.2.2.2.2.2.2.2.1)), (b6, .inl (cI, 512, .inl y.2.2.2.2.2.2.2.2.1)), (b7, .inl (cI, 512, .inl y.2.2.2.2.2.2.2.2.2))]) (va_runS (As := [.int (y.2.2.2.2.2.2.2.2.2 (Int32.toNatClampNeg (g2 - 1))), .int 1]) (rest := []) ⟨hx, hb, hml, hown, hts⟩ (km_has l D cI cZ (y.2.2.2.2.2.2.2.2.2 (Int32.toNatClampNeg (g2 - 1))) 1 _) ⟨(callB_of 2 hts gd_yM_has rfl rfl rfl (hts _ mw27) (hts _ mw333) (by decide +kernel) ⟨Nat.le_of_ble_eq_true rfl, Nat.le_of_ble_eq_true rfl⟩), hts _ mw334⟩ (kpreS hNw hP hD hK [] rfl (by decide)) rfl rfl hl.1 rfl (lv_room (Nat.le_of_ble_eq_true rfl)) dM_trust_60 ⟨Nat.le_of_ble_eq_true rfl, Nat.le_of_ble_eq_true rfl⟩) hP hD hS hA [0, 1, 2, 3, 4, 5, 6, 7] rfl rfl (by decide) (by decide) (by decide) rfl (fun H locs hP hD hS => ?_)
          refine lv_if_eq (tgt := 83) hx hb dM_trust_63 (by decide) (fun h5 => ?_) (fun h5 => ?_)
          ·
            refine lv_bipush (v := (-5)) hx hb dM_trust_83 (by decide) ?_
            exact kretI (wf := fun st => wY cI cZ bo b1 b2 b3 b4 b5 b6 b7 st) (st := y) (by first | (rw [zm_trust, if_pos h1, if_pos h2, if_pos h3, if_pos h4, if_pos h5]; done) | exact ((if_pos h1).trans ((if_pos h2).trans ((if_pos h3).trans ((if_pos h4).trans (if_pos h5)))))) hx hb hr hlk hS hP hD hK dM_trust_85
          ·
            refine lv_aload_n hx hb dM_trust_66 rfl (lv_at hl 0 rfl) ?_
            refine va_get (D := D) (ci := 3) (v := .ref b7) (C := cnM) (T := ftM) (N := 10) hx hb hts inM hown hK hP 0 rfl rfl 9 (by decide) (hts _ mw298) (fun _ h9 => h9) rfl dM_trust_67 ?_
            refine lv_iload_n hx hb dM_trust_70 rfl (lv_at hl 2 rfl) ?_
            refine lv_iconst (v := 1) hx hb dM_trust_71 (by decide) ?_
            refine lv_isub hx hb dM_trust_72 ?_
            refine va_iald hx hb hK hP 7 0 rfl rfl (zm_hidden_in hn h2) dM_trust_73 ?_
            refine lv_sipush (v := 128) hx hb dM_trust_74 (by decide) ?_
            refine kcI (isR := [0, 1, 2, 3, 4, 5, 6, 7]) (isC := []) (wr := [(bo, .inr (3, [.ref b1, .int y.2.1, .ref b2, .ref b3, .int (nI y.2.2.2.2.1), .int y.2.2.2.2.2.1, .ref b4, .ref b5, .ref b6, .ref b7])), (b1, .inl (cI, 3, .inl y.1)), (b2, .inl (cI, 3, .inl y.2.2.1)), (b3, .inl (cI, 3, .inl y.2.2.2.1)), (b4, .inl (cZ, 512, .inl y.2.2.2.2.2.2.1)), (b5, .inl (cI, 512, .inl y.2.2.2.2.2.2.2.1)), (b6, .inl (cI, 512, .inl y.2.2.2.2.2.2.2.2.1)), (b7, .inl (cI, 512, .inl y.2.2.2.2.2.2.2.2.2))]) (w2 := [(bo, .inr (3, [.ref b1, .int y.2.1, .ref b2, .ref b3, .int (nI y.2.2.2.2.1), .int y.2.2.2.2.2.1, .ref b4, .ref b5, .ref b6, .ref b7])), (b1, .inl (cI, 3, .inl y.1)), (b2, .inl (cI, 3, .inl y.2.2.1)), (b3, .inl (cI, 3, .inl y.2.2.2.1)), (b4, .inl (cZ, 512, .inl y.2.2.2.2.2.2.1)), (b5, .inl (cI, 512, .inl y.2.2.2.2.2.2.2.1)), (b6, .inl (cI, 512, .inl y.2.2.2.2.2.2.2.2.1)), (b7, .inl (cI, 512, .inl y.2.2.2.2.2.2.2.2.2))]) (va_runS (As := [.int (y.2.2.2.2.2.2.2.2.2 (Int32.toNatClampNeg (g2 - 1))), .int 128]) (rest := []) ⟨hx, hb, hml, hown, hts⟩ (km_has l D cI cZ (y.2.2.2.2.2.2.2.2.2 (Int32.toNatClampNeg (g2 - 1))) 128 _) ⟨(callB_of 2 hts gd_yM_has rfl rfl rfl (hts _ mw27) (hts _ mw333) (by decide +kernel) ⟨Nat.le_of_ble_eq_true rfl, Nat.le_of_ble_eq_true rfl⟩), hts _ mw334⟩ (kpreS hNw hP hD hK [] rfl (by decide)) rfl rfl hl.1 rfl (lv_room (Nat.le_of_ble_eq_true rfl)) dM_trust_77 ⟨Nat.le_of_ble_eq_true rfl, Nat.le_of_ble_eq_true rfl⟩) hP hD hS hA [0, 1, 2, 3, 4, 5, 6, 7] rfl rfl (by decide) (by decide) (by decide) rfl (fun H locs hP hD hS => ?_)
            refine lv_if_ne (tgt := 86) hx hb dM_trust_80 (by decide) (fun h6 => ?_) (fun h6 => ?_)
            ·
              refine lv_aload_n hx hb dM_trust_86 rfl (lv_at hl 0 rfl) ?_
              refine va_get (D := D) (ci := 3) (v := .ref b7) (C := cnM) (T := ftM) (N := 10) hx hb hts inM hown hK hP 0 rfl rfl 9 (by decide) (hts _ mw298) (fun _ h9 => h9) rfl dM_trust_87 ?_
              refine lv_iload_n hx hb dM_trust_90 rfl (lv_at hl 2 rfl) ?_
              refine lv_iconst (v := 1) hx hb dM_trust_91 (by decide) ?_
              refine lv_isub hx hb dM_trust_92 ?_
              refine lv_aload_n hx hb dM_trust_93 rfl (lv_at hl 0 rfl) ?_
              refine va_get (D := D) (ci := 3) (v := .ref b7) (C := cnM) (T := ftM) (N := 10) hx hb hts inM hown hK hP 0 rfl rfl 9 (by decide) (hts _ mw298) (fun _ h9 => h9) rfl dM_trust_94 ?_
              refine lv_iload_n hx hb dM_trust_97 rfl (lv_at hl 2 rfl) ?_
              refine lv_iconst (v := 1) hx hb dM_trust_98 (by decide) ?_
              refine lv_isub hx hb dM_trust_99 ?_
              refine va_iald hx hb hK hP 7 0 rfl rfl (zm_hidden_in hn h2) dM_trust_100 ?_
              refine lv_sipush (v := 512) hx hb dM_trust_101 (by decide) ?_
              refine kcI (isR := [0, 1, 2, 3, 4, 5, 6, 7]) (isC := []) (wr := [(bo, .inr (3, [.ref b1, .int y.2.1, .ref b2, .ref b3, .int (nI y.2.2.2.2.1), .int y.2.2.2.2.2.1, .ref b4, .ref b5, .ref b6, .ref b7])), (b1, .inl (cI, 3, .inl y.1)), (b2, .inl (cI, 3, .inl y.2.2.1)), (b3, .inl (cI, 3, .inl y.2.2.2.1)), (b4, .inl (cZ, 512, .inl y.2.2.2.2.2.2.1)), (b5, .inl (cI, 512, .inl y.2.2.2.2.2.2.2.1)), (b6, .inl (cI, 512, .inl y.2.2.2.2.2.2.2.2.1)), (b7, .inl (cI, 512, .inl y.2.2.2.2.2.2.2.2.2))]) (w2 := [(bo, .inr (3, [.ref b1, .int y.2.1, .ref b2, .ref b3, .int (nI y.2.2.2.2.1), .int y.2.2.2.2.2.1, .ref b4, .ref b5, .ref b6, .ref b7])), (b1, .inl (cI, 3, .inl y.1)), (b2, .inl (cI, 3, .inl y.2.2.1)), (b3, .inl (cI, 3, .inl y.2.2.2.1)), (b4, .inl (cZ, 512, .inl y.2.2.2.2.2.2.1)), (b5, .inl (cI, 512, .inl y.2.2.2.2.2.2.2.1)), (b6, .inl (cI, 512, .inl y.2.2.2.2.2.2.2.2.1)), (b7, .inl (cI, 512, .inl y.2.2.2.2.2.2.2.2.2))]) (va_runS (As := [.int (y.2.2.2.2.2.2.2.2.2 (Int32.toNatClampNeg (g2 - 1))), .int 512]) (rest := [.int (g2 - 1), .ref b7]) ⟨hx, hb, hml, hown, hts⟩ (km_has l D cI cZ (y.2.2.2.2.2.2.2.2.2 (Int32.toNatClampNeg (g2 - 1))) 512 _) ⟨(callB_of 2 hts gd_yM_has rfl rfl rfl (hts _ mw27) (hts _ mw333) (by decide +kernel) ⟨Nat.le_of_ble_eq_true rfl, Nat.le_of_ble_eq_true rfl⟩), hts _ mw334⟩ (kpreS hNw hP hD hK [] rfl (by decide)) rfl rfl hl.1 rfl (lv_room (Nat.le_of_ble_eq_true rfl)) dM_trust_104 ⟨Nat.le_of_ble_eq_true rfl, Nat.le_of_ble_eq_true rfl⟩) hP hD hS hA [0, 1, 2, 3, 4, 5, 6, 7] rfl rfl (by decide) (by decide) (by decide) rfl (fun H locs hP hD hS => ?_)
              refine kJoin (pcJ := 133) (z := (if (zm_has (y.2.2.2.2.2.2.2.2.2 (Int32.toNatClampNeg (g2 - 1))) 512) = 0 then ((y.2.2.2.2.2.2.2.2.2 (Int32.toNatClampNeg (g2 - 1))) + 512) else (y.2.2.2.2.2.2.2.2.2 (Int32.toNatClampNeg (g2 - 1))))) (ws := [(bo, .inr (3, [.ref b1, .int y.2.1, .ref b2, .ref b3, .int (nI y.2.2.2.2.1), .int y.2.2.2.2.2.1, .ref b4, .ref b5, .ref b6, .ref b7])), (b1, .inl (cI, 3, .inl y.1)), (b2, .inl (cI, 3, .inl y.2.2.1)), (b3, .inl (cI, 3, .inl y.2.2.2.1)), (b4, .inl (cZ, 512, .inl y.2.2.2.2.2.2.1)), (b5, .inl (cI, 512, .inl y.2.2.2.2.2.2.2.1)), (b6, .inl (cI, 512, .inl y.2.2.2.2.2.2.2.2.1)), (b7, .inl (cI, 512, .inl y.2.2.2.2.2.2.2.2.2))]) (rest := [.int (g2 - 1), .ref b7]) (D := D) (A := A) (H0 := s.heap) (fun J133 => ?_) (fun H locs hP hD hS => ?_)
              ·
                refine lv_if_eq (tgt := 121) hx hb dM_trust_107 (by decide) (fun h7 => ?_) (fun h7 => ?_)
                ·
                  refine lv_aload_n hx hb dM_trust_121 rfl (lv_at hl 0 rfl) ?_
                  refine va_get (D := D) (ci := 3) (v := .ref b7) (C := cnM) (T := ftM) (N := 10) hx hb hts inM hown hK hP 0 rfl rfl 9 (by decide) (hts _ mw298) (fun _ h9 => h9) rfl dM_trust_122 ?_
                  refine lv_iload_n hx hb dM_trust_125 rfl (lv_at hl 2 rfl) ?_
                  refine lv_iconst (v := 1) hx hb dM_trust_126 (by decide) ?_
                  refine lv_isub hx hb dM_trust_127 ?_
                  refine va_iald hx hb hK hP 7 0 rfl rfl (zm_hidden_in hn h2) dM_trust_128 ?_
                  refine lv_sipush (v := 512) hx hb dM_trust_129 (by decide) ?_
                  refine lv_iadd hx hb dM_trust_132 ?_
                  exact J133 _ _ hP hD hS _ ((if_pos h7).symm)
                ·
                  refine lv_aload_n hx hb dM_trust_110 rfl (lv_at hl 0 rfl) ?_
                  refine va_get (D := D) (ci := 3) (v := .ref b7) (C := cnM) (T := ftM) (N := 10) hx hb hts inM hown hK hP 0 rfl rfl 9 (by decide) (hts _ mw298) (fun _ h9 => h9) rfl dM_trust_111 ?_
                  refine lv_iload_n hx hb dM_trust_114 rfl (lv_at hl 2 rfl) ?_
                  refine lv_iconst (v := 1) hx hb dM_trust_115 (by decide) ?_
                  refine lv_isub hx hb dM_trust_116 ?_
                  refine va_iald hx hb hK hP 7 0 rfl rfl (zm_hidden_in hn h2) dM_trust_117 ?_
                  refine lv_goto hx hb dM_trust_118 (tgt := 133) (by decide) ?_
                  exact J133 _ _ hP hD hS _ ((if_neg h7).symm)
              refine va_iast hx hb hK hP hD hS 7 0 rfl rfl (zm_hidden_in hn h2) dM_trust_133 (fun H locs hP hD hS => ?_)
              have hP : va_P D vwCl [(bo, .inr (3, [.ref b1, .int y.2.1, .ref b2, .ref b3, .int (nI y.2.2.2.2.1), .int y.2.2.2.2.2.1, .ref b4, .ref b5, .ref b6, .ref b7])), (b1, .inl (cI, 3, .inl y.1)), (b2, .inl (cI, 3, .inl y.2.2.1)), (b3, .inl (cI, 3, .inl y.2.2.2.1)), (b4, .inl (cZ, 512, .inl y.2.2.2.2.2.2.1)), (b5, .inl (cI, 512, .inl y.2.2.2.2.2.2.2.1)), (b6, .inl (cI, 512, .inl y.2.2.2.2.2.2.2.2.1)), (b7, .inl (cI, 512, .inl (upd y.2.2.2.2.2.2.2.2.2 (Int32.toNatClampNeg (g2 - 1)) (if (zm_has (y.2.2.2.2.2.2.2.2.2 (Int32.toNatClampNeg (g2 - 1))) 512) = 0 then ((y.2.2.2.2.2.2.2.2.2 (Int32.toNatClampNeg (g2 - 1))) + 512) else (y.2.2.2.2.2.2.2.2.2 (Int32.toNatClampNeg (g2 - 1)))))))] H := hP
              have hD : va_D A [(bo, .inr (3, [.ref b1, .int y.2.1, .ref b2, .ref b3, .int (nI y.2.2.2.2.1), .int y.2.2.2.2.2.1, .ref b4, .ref b5, .ref b6, .ref b7])), (b1, .inl (cI, 3, .inl y.1)), (b2, .inl (cI, 3, .inl y.2.2.1)), (b3, .inl (cI, 3, .inl y.2.2.2.1)), (b4, .inl (cZ, 512, .inl y.2.2.2.2.2.2.1)), (b5, .inl (cI, 512, .inl y.2.2.2.2.2.2.2.1)), (b6, .inl (cI, 512, .inl y.2.2.2.2.2.2.2.2.1)), (b7, .inl (cI, 512, .inl (upd y.2.2.2.2.2.2.2.2.2 (Int32.toNatClampNeg (g2 - 1)) (if (zm_has (y.2.2.2.2.2.2.2.2.2 (Int32.toNatClampNeg (g2 - 1))) 512) = 0 then ((y.2.2.2.2.2.2.2.2.2 (Int32.toNatClampNeg (g2 - 1))) + 512) else (y.2.2.2.2.2.2.2.2.2 (Int32.toNatClampNeg (g2 - 1)))))))] := hD
              refine lv_iconst (v := 0) hx hb dM_trust_134 (by decide) ?_
              exact kretI (wf := fun st => wY cI cZ bo b1 b2 b3 b4 b5 b6 b7 st) (st := (y.1, y.2.1, y.2.2.1, y.2.2.2.1, y.2.2.2.2.1, y.2.2.2.2.2.1, y.2.2.2.2.2.2.1, y.2.2.2.2.2.2.2.1, y.2.2.2.2.2.2.2.2.1, (upd y.2.2.2.2.2.2.2.2.2 (Int32.toNatClampNeg (g2 - 1)) (if (zm_has (y.2.2.2.2.2.2.2.2.2 (Int32.toNatClampNeg (g2 - 1))) 512) = 0 then ((y.2.2.2.2.2.2.2.2.2 (Int32.toNatClampNeg (g2 - 1))) + 512) else (y.2.2.2.2.2.2.2.2.2 (Int32.toNatClampNeg (g2 - 1))))))) (by first | (rw [zm_trust, if_pos h1, if_pos h2, if_pos h3, if_pos h4, if_neg h5, if_neg h6]; done) | exact ((if_pos h1).trans ((if_pos h2).trans ((if_pos h3).trans ((if_pos h4).trans ((if_neg h5).trans (if_neg h6))))))) hx hb hr hlk hS hP hD hK dM_trust_135
            ·
              refine lv_bipush (v := (-5)) hx hb dM_trust_83 (by decide) ?_
              exact kretI (wf := fun st => wY cI cZ bo b1 b2 b3 b4 b5 b6 b7 st) (st := y) (by first | (rw [zm_trust, if_pos h1, if_pos h2, if_pos h3, if_pos h4, if_neg h5, if_pos h6]; done) | exact ((if_pos h1).trans ((if_pos h2).trans ((if_pos h3).trans ((if_pos h4).trans ((if_neg h5).trans (if_pos h6))))))) hx hb hr hlk hS hP hD hK dM_trust_85
        ·
          refine lv_bipush (v := (-4)) hx hb dM_trust_48 (by decide) ?_
          exact kretI (wf := fun st => wY cI cZ bo b1 b2 b3 b4 b5 b6 b7 st) (st := y) (by first | (rw [zm_trust, if_pos h1, if_pos h2, if_pos h3, if_neg h4]; done) | exact ((if_pos h1).trans ((if_pos h2).trans ((if_pos h3).trans (if_neg h4))))) hx hb hr hlk hS hP hD hK dM_trust_50
      ·
        refine lv_bipush (v := (-3)) hx hb dM_trust_29 (by decide) ?_
        exact kretI (wf := fun st => wY cI cZ bo b1 b2 b3 b4 b5 b6 b7 st) (st := y) (by first | (rw [zm_trust, if_pos h1, if_pos h2, if_neg h3]; done) | exact ((if_pos h1).trans ((if_pos h2).trans (if_neg h3)))) hx hb hr hlk hS hP hD hK dM_trust_31
    ·
      refine lv_bipush (v := (-2)) hx hb dM_trust_18 (by decide) ?_
      exact kretI (wf := fun st => wY cI cZ bo b1 b2 b3 b4 b5 b6 b7 st) (st := y) (by first | (rw [zm_trust, if_pos h1, if_neg h2]; done) | exact ((if_pos h1).trans (if_neg h2))) hx hb hr hlk hS hP hD hK dM_trust_20
  ·
    refine lv_iconst (v := (-1)) hx hb dM_trust_8 (by decide) ?_
    exact kretI (wf := fun st => wY cI cZ bo b1 b2 b3 b4 b5 b6 b7 st) (st := y) (by first | (rw [zm_trust, if_neg h1]; done) | exact (if_neg h1)) hx hb hr hlk hS hP hD hK dM_trust_9

def zm_bar (y : YS) (g1 : Int32) (g2 : Int32) (g3 : Int32) (g4 : Int32) : Int32 := (if (zm_closed y g1) = 0 then (if (zm_hidden y g2) = 0 then (if (if g3 = 0 then (if g4 = 0 then (1 : Int32) else (if (zm_has (y.2.2.2.2.2.2.2.2.2 (Int32.toNatClampNeg (g2 - 1))) g4) = 0 then (1 : Int32) else (0 : Int32))) else (if (zm_has (y.2.2.2.2.2.2.2.2.2 (Int32.toNatClampNeg (g2 - 1))) g3) = 0 then (0 : Int32) else (if g4 = 0 then (1 : Int32) else (if (zm_has (y.2.2.2.2.2.2.2.2.2 (Int32.toNatClampNeg (g2 - 1))) g4) = 0 then (1 : Int32) else (0 : Int32))))) = 0 then ((-5) : Int32) else (0 : Int32)) else (-2)) else (-1))

set_option maxHeartbeats 4000000 in
set_option maxRecDepth 100000 in
theorem km_bar (l : Launch) (D : va_G) (cI cZ : ClassId) (bo b1 b2 b3 b4 b5 b6 b7 : Nat) (y : YS) (g1 : Int32) (g2 : Int32) (g3 : Int32) (g4 : Int32) (hn : y.2.2.2.2.1 ≤ 512) : kI l yM_bar wsM_bar (rmOf 3 63) D (kT cI cZ) [.ref bo, .int g1, .int g2, .int g3, .int g4] (wY cI cZ bo b1 b2 b3 b4 b5 b6 b7 y) (zm_bar y g1 g2 g3 g4) (wY cI cZ bo b1 b2 b3 b4 b5 b6 b7 y) := by
  intro sz
  refine kOf (Qc := fun A => kQi D (kT cI cZ) A (zm_bar y g1 g2 g3 g4) (wY cI cZ bo b1 b2 b3 b4 b5 b6 b7 y)) (cc := cM_bar) (maxL := 6) (ret := some .int) (by decide) rfl (Nat.le_of_ble_eq_true rfl) ?_ sz
  intro p e s m args below meth c A ls hx hb hml hown hts hNw hr hlk hin hA hS hP hD hK hl
  show W p l e (rmOf 3 63) s m args below meth c s.heap [] 0 0 (MQ below (kQi D (kT cI cZ) A (zm_bar y g1 g2 g3 g4) (wY cI cZ bo b1 b2 b3 b4 b5 b6 b7 y)) args s 0 0 A) (F0 m 0 ls [])
  have hts : ∀ q ∈ lw_g, q.before args s = true := fun q h => hts q (List.mem_cons_of_mem _ h)
  have hown : s.vm.findClass cnM = some m.cls := hown
  have hl : lv_has ls 6 [(0, .ref bo), (1, .int g1), (2, .int g2), (3, .int g3), (4, .int g4)] := hl
  have hP : va_P D vwCl [(bo, .inr (3, [.ref b1, .int y.2.1, .ref b2, .ref b3, .int (nI y.2.2.2.2.1), .int y.2.2.2.2.2.1, .ref b4, .ref b5, .ref b6, .ref b7])), (b1, .inl (cI, 3, .inl y.1)), (b2, .inl (cI, 3, .inl y.2.2.1)), (b3, .inl (cI, 3, .inl y.2.2.2.1)), (b4, .inl (cZ, 512, .inl y.2.2.2.2.2.2.1)), (b5, .inl (cI, 512, .inl y.2.2.2.2.2.2.2.1)), (b6, .inl (cI, 512, .inl y.2.2.2.2.2.2.2.2.1)), (b7, .inl (cI, 512, .inl y.2.2.2.2.2.2.2.2.2))] s.heap := hP
  have hD : va_D A [(bo, .inr (3, [.ref b1, .int y.2.1, .ref b2, .ref b3, .int (nI y.2.2.2.2.1), .int y.2.2.2.2.2.1, .ref b4, .ref b5, .ref b6, .ref b7])), (b1, .inl (cI, 3, .inl y.1)), (b2, .inl (cI, 3, .inl y.2.2.1)), (b3, .inl (cI, 3, .inl y.2.2.2.1)), (b4, .inl (cZ, 512, .inl y.2.2.2.2.2.2.1)), (b5, .inl (cI, 512, .inl y.2.2.2.2.2.2.2.1)), (b6, .inl (cI, 512, .inl y.2.2.2.2.2.2.2.2.1)), (b7, .inl (cI, 512, .inl y.2.2.2.2.2.2.2.2.2))] := hD
  refine lv_aload_n hx hb dM_bar_0 rfl (lv_at hl 0 rfl) ?_
  refine lv_iload_n hx hb dM_bar_1 rfl (lv_at hl 1 rfl) ?_
  refine kcI (isR := []) (isC := [0, 1, 2, 3, 4, 5, 6, 7]) (wr := []) (w2 := [(bo, .inr (3, [.ref b1, .int y.2.1, .ref b2, .ref b3, .int (nI y.2.2.2.2.1), .int y.2.2.2.2.2.1, .ref b4, .ref b5, .ref b6, .ref b7])), (b1, .inl (cI, 3, .inl y.1)), (b2, .inl (cI, 3, .inl y.2.2.1)), (b3, .inl (cI, 3, .inl y.2.2.2.1)), (b4, .inl (cZ, 512, .inl y.2.2.2.2.2.2.1)), (b5, .inl (cI, 512, .inl y.2.2.2.2.2.2.2.1)), (b6, .inl (cI, 512, .inl y.2.2.2.2.2.2.2.2.1)), (b7, .inl (cI, 512, .inl y.2.2.2.2.2.2.2.2.2))]) (va_runV (As := [.int g1]) (rest := []) ⟨hx, hb, hml, hown, hts⟩ (km_closed l D cI cZ bo b1 b2 b3 b4 b5 b6 b7 y g1 _) ⟨(callB_of 1 hts gd_yM_closed rfl rfl rfl (hts _ mw27) (hts _ mw329) (by decide +kernel) ⟨Nat.le_of_ble_eq_true rfl, Nat.le_of_ble_eq_true rfl⟩), hts _ mw331, hts _ mw15⟩ (kpreV hNw hP hD hK [0, 1, 2, 3, 4, 5, 6, 7] rfl (by decide) 0 rfl (ci := 3) rfl) rfl rfl hl.1 rfl (lv_room (Nat.le_of_ble_eq_true rfl)) dM_bar_2 ⟨Nat.le_of_ble_eq_true rfl, Nat.le_of_ble_eq_true rfl⟩) hP hD hS hA [0, 1, 2, 3, 4, 5, 6, 7] rfl rfl (by decide) (by decide) (by decide) rfl (fun H locs hP hD hS => ?_)
  refine lv_if_eq (tgt := 10) hx hb dM_bar_5 (by decide) (fun h1 => ?_) (fun h1 => ?_)
  ·
    refine lv_aload_n hx hb dM_bar_10 rfl (lv_at hl 0 rfl) ?_
    refine lv_iload_n hx hb dM_bar_11 rfl (lv_at hl 2 rfl) ?_
    refine kcI (isR := []) (isC := [0, 1, 2, 3, 4, 5, 6, 7]) (wr := []) (w2 := [(bo, .inr (3, [.ref b1, .int y.2.1, .ref b2, .ref b3, .int (nI y.2.2.2.2.1), .int y.2.2.2.2.2.1, .ref b4, .ref b5, .ref b6, .ref b7])), (b1, .inl (cI, 3, .inl y.1)), (b2, .inl (cI, 3, .inl y.2.2.1)), (b3, .inl (cI, 3, .inl y.2.2.2.1)), (b4, .inl (cZ, 512, .inl y.2.2.2.2.2.2.1)), (b5, .inl (cI, 512, .inl y.2.2.2.2.2.2.2.1)), (b6, .inl (cI, 512, .inl y.2.2.2.2.2.2.2.2.1)), (b7, .inl (cI, 512, .inl y.2.2.2.2.2.2.2.2.2))]) (va_runV (As := [.int g2]) (rest := []) ⟨hx, hb, hml, hown, hts⟩ (km_hidden l D cI cZ bo b1 b2 b3 b4 b5 b6 b7 y g2 (hn) _) ⟨(callB_of 1 hts gd_yM_hidden rfl rfl rfl (hts _ mw27) (hts _ mw384) (by decide +kernel) ⟨Nat.le_of_ble_eq_true rfl, Nat.le_of_ble_eq_true rfl⟩), hts _ mw386, hts _ mw20⟩ (kpreV hNw hP hD hK [0, 1, 2, 3, 4, 5, 6, 7] rfl (by decide) 0 rfl (ci := 3) rfl) rfl rfl hl.1 rfl (lv_room (Nat.le_of_ble_eq_true rfl)) dM_bar_12 ⟨Nat.le_of_ble_eq_true rfl, Nat.le_of_ble_eq_true rfl⟩) hP hD hS hA [0, 1, 2, 3, 4, 5, 6, 7] rfl rfl (by decide) (by decide) (by decide) rfl (fun H locs hP hD hS => ?_)
    refine lv_if_eq (tgt := 21) hx hb dM_bar_15 (by decide) (fun h2 => ?_) (fun h2 => ?_)
    ·
      refine lv_iload_n hx hb dM_bar_21 rfl (lv_at hl 3 rfl) ?_
      refine kJoin (pcJ := 66) (z := (if g3 = 0 then (if g4 = 0 then (1 : Int32) else (if (zm_has (y.2.2.2.2.2.2.2.2.2 (Int32.toNatClampNeg (g2 - 1))) g4) = 0 then (1 : Int32) else (0 : Int32))) else (if (zm_has (y.2.2.2.2.2.2.2.2.2 (Int32.toNatClampNeg (g2 - 1))) g3) = 0 then (0 : Int32) else (if g4 = 0 then (1 : Int32) else (if (zm_has (y.2.2.2.2.2.2.2.2.2 (Int32.toNatClampNeg (g2 - 1))) g4) = 0 then (1 : Int32) else (0 : Int32)))))) (ws := [(bo, .inr (3, [.ref b1, .int y.2.1, .ref b2, .ref b3, .int (nI y.2.2.2.2.1), .int y.2.2.2.2.2.1, .ref b4, .ref b5, .ref b6, .ref b7])), (b1, .inl (cI, 3, .inl y.1)), (b2, .inl (cI, 3, .inl y.2.2.1)), (b3, .inl (cI, 3, .inl y.2.2.2.1)), (b4, .inl (cZ, 512, .inl y.2.2.2.2.2.2.1)), (b5, .inl (cI, 512, .inl y.2.2.2.2.2.2.2.1)), (b6, .inl (cI, 512, .inl y.2.2.2.2.2.2.2.2.1)), (b7, .inl (cI, 512, .inl y.2.2.2.2.2.2.2.2.2))]) (rest := []) (D := D) (A := A) (H0 := s.heap) (fun J66 => ?_) (fun H locs hP hD hS => ?_)
      ·
        refine lv_if_eq (tgt := 40) hx hb dM_bar_22 (by decide) (fun h3 => ?_) (fun h3 => ?_)
        ·
          refine lv_iload hx hb dM_bar_40 (lv_at hl 4 rfl) ?_
          refine lv_if_eq (tgt := 61) hx hb dM_bar_42 (by decide) (fun h4 => ?_) (fun h4 => ?_)
          ·
            refine lv_iconst (v := 1) hx hb dM_bar_61 (by decide) ?_
            refine lv_goto hx hb dM_bar_62 (tgt := 66) (by decide) ?_
            exact J66 _ _ hP hD hS _ (((if_pos h3).trans (if_pos h4)).symm)
          ·
            refine lv_aload_n hx hb dM_bar_45 rfl (lv_at hl 0 rfl) ?_
            refine va_get (D := D) (ci := 3) (v := .ref b7) (C := cnM) (T := ftM) (N := 10) hx hb hts inM hown hK hP 0 rfl rfl 9 (by decide) (hts _ mw298) (fun _ h9 => h9) rfl dM_bar_46 ?_
            refine lv_iload_n hx hb dM_bar_49 rfl (lv_at hl 2 rfl) ?_
            refine lv_iconst (v := 1) hx hb dM_bar_50 (by decide) ?_
            refine lv_isub hx hb dM_bar_51 ?_
            refine va_iald hx hb hK hP 7 0 rfl rfl (zm_hidden_in hn h2) dM_bar_52 ?_
            refine lv_iload hx hb dM_bar_53 (lv_at hl 4 rfl) ?_
            refine kcI (isR := [0, 1, 2, 3, 4, 5, 6, 7]) (isC := []) (wr := [(bo, .inr (3, [.ref b1, .int y.2.1, .ref b2, .ref b3, .int (nI y.2.2.2.2.1), .int y.2.2.2.2.2.1, .ref b4, .ref b5, .ref b6, .ref b7])), (b1, .inl (cI, 3, .inl y.1)), (b2, .inl (cI, 3, .inl y.2.2.1)), (b3, .inl (cI, 3, .inl y.2.2.2.1)), (b4, .inl (cZ, 512, .inl y.2.2.2.2.2.2.1)), (b5, .inl (cI, 512, .inl y.2.2.2.2.2.2.2.1)), (b6, .inl (cI, 512, .inl y.2.2.2.2.2.2.2.2.1)), (b7, .inl (cI, 512, .inl y.2.2.2.2.2.2.2.2.2))]) (w2 := [(bo, .inr (3, [.ref b1, .int y.2.1, .ref b2, .ref b3, .int (nI y.2.2.2.2.1), .int y.2.2.2.2.2.1, .ref b4, .ref b5, .ref b6, .ref b7])), (b1, .inl (cI, 3, .inl y.1)), (b2, .inl (cI, 3, .inl y.2.2.1)), (b3, .inl (cI, 3, .inl y.2.2.2.1)), (b4, .inl (cZ, 512, .inl y.2.2.2.2.2.2.1)), (b5, .inl (cI, 512, .inl y.2.2.2.2.2.2.2.1)), (b6, .inl (cI, 512, .inl y.2.2.2.2.2.2.2.2.1)), (b7, .inl (cI, 512, .inl y.2.2.2.2.2.2.2.2.2))]) (va_runS (As := [.int (y.2.2.2.2.2.2.2.2.2 (Int32.toNatClampNeg (g2 - 1))), .int g4]) (rest := []) ⟨hx, hb, hml, hown, hts⟩ (km_has l D cI cZ (y.2.2.2.2.2.2.2.2.2 (Int32.toNatClampNeg (g2 - 1))) g4 _) ⟨(callB_of 2 hts gd_yM_has rfl rfl rfl (hts _ mw27) (hts _ mw333) (by decide +kernel) ⟨Nat.le_of_ble_eq_true rfl, Nat.le_of_ble_eq_true rfl⟩), hts _ mw334⟩ (kpreS hNw hP hD hK [] rfl (by decide)) rfl rfl hl.1 rfl (lv_room (Nat.le_of_ble_eq_true rfl)) dM_bar_55 ⟨Nat.le_of_ble_eq_true rfl, Nat.le_of_ble_eq_true rfl⟩) hP hD hS hA [0, 1, 2, 3, 4, 5, 6, 7] rfl rfl (by decide) (by decide) (by decide) rfl (fun H locs hP hD hS => ?_)
            refine lv_if_ne (tgt := 65) hx hb dM_bar_58 (by decide) (fun h5 => ?_) (fun h5 => ?_)
            ·
              refine lv_iconst (v := 0) hx hb dM_bar_65 (by decide) ?_
              exact J66 _ _ hP hD hS _ (((if_pos h3).trans ((if_neg h4).trans (if_neg h5))).symm)
            ·
              refine lv_iconst (v := 1) hx hb dM_bar_61 (by decide) ?_
              refine lv_goto hx hb dM_bar_62 (tgt := 66) (by decide) ?_
              exact J66 _ _ hP hD hS _ (((if_pos h3).trans ((if_neg h4).trans (if_pos h5))).symm)
        ·
          refine lv_aload_n hx hb dM_bar_25 rfl (lv_at hl 0 rfl) ?_
          refine va_get (D := D) (ci := 3) (v := .ref b7) (C := cnM) (T := ftM) (N := 10) hx hb hts inM hown hK hP 0 rfl rfl 9 (by decide) (hts _ mw298) (fun _ h9 => h9) rfl dM_bar_26 ?_
          refine lv_iload_n hx hb dM_bar_29 rfl (lv_at hl 2 rfl) ?_
          refine lv_iconst (v := 1) hx hb dM_bar_30 (by decide) ?_
          refine lv_isub hx hb dM_bar_31 ?_
          refine va_iald hx hb hK hP 7 0 rfl rfl (zm_hidden_in hn h2) dM_bar_32 ?_
          refine lv_iload_n hx hb dM_bar_33 rfl (lv_at hl 3 rfl) ?_
          refine kcI (isR := [0, 1, 2, 3, 4, 5, 6, 7]) (isC := []) (wr := [(bo, .inr (3, [.ref b1, .int y.2.1, .ref b2, .ref b3, .int (nI y.2.2.2.2.1), .int y.2.2.2.2.2.1, .ref b4, .ref b5, .ref b6, .ref b7])), (b1, .inl (cI, 3, .inl y.1)), (b2, .inl (cI, 3, .inl y.2.2.1)), (b3, .inl (cI, 3, .inl y.2.2.2.1)), (b4, .inl (cZ, 512, .inl y.2.2.2.2.2.2.1)), (b5, .inl (cI, 512, .inl y.2.2.2.2.2.2.2.1)), (b6, .inl (cI, 512, .inl y.2.2.2.2.2.2.2.2.1)), (b7, .inl (cI, 512, .inl y.2.2.2.2.2.2.2.2.2))]) (w2 := [(bo, .inr (3, [.ref b1, .int y.2.1, .ref b2, .ref b3, .int (nI y.2.2.2.2.1), .int y.2.2.2.2.2.1, .ref b4, .ref b5, .ref b6, .ref b7])), (b1, .inl (cI, 3, .inl y.1)), (b2, .inl (cI, 3, .inl y.2.2.1)), (b3, .inl (cI, 3, .inl y.2.2.2.1)), (b4, .inl (cZ, 512, .inl y.2.2.2.2.2.2.1)), (b5, .inl (cI, 512, .inl y.2.2.2.2.2.2.2.1)), (b6, .inl (cI, 512, .inl y.2.2.2.2.2.2.2.2.1)), (b7, .inl (cI, 512, .inl y.2.2.2.2.2.2.2.2.2))]) (va_runS (As := [.int (y.2.2.2.2.2.2.2.2.2 (Int32.toNatClampNeg (g2 - 1))), .int g3]) (rest := []) ⟨hx, hb, hml, hown, hts⟩ (km_has l D cI cZ (y.2.2.2.2.2.2.2.2.2 (Int32.toNatClampNeg (g2 - 1))) g3 _) ⟨(callB_of 2 hts gd_yM_has rfl rfl rfl (hts _ mw27) (hts _ mw333) (by decide +kernel) ⟨Nat.le_of_ble_eq_true rfl, Nat.le_of_ble_eq_true rfl⟩), hts _ mw334⟩ (kpreS hNw hP hD hK [] rfl (by decide)) rfl rfl hl.1 rfl (lv_room (Nat.le_of_ble_eq_true rfl)) dM_bar_34 ⟨Nat.le_of_ble_eq_true rfl, Nat.le_of_ble_eq_true rfl⟩) hP hD hS hA [0, 1, 2, 3, 4, 5, 6, 7] rfl rfl (by decide) (by decide) (by decide) rfl (fun H locs hP hD hS => ?_)
          refine lv_if_eq (tgt := 65) hx hb dM_bar_37 (by decide) (fun h6 => ?_) (fun h6 => ?_)
          ·
            refine lv_iconst (v := 0) hx hb dM_bar_65 (by decide) ?_
            exact J66 _ _ hP hD hS _ (((if_neg h3).trans (if_pos h6)).symm)
          ·
            refine lv_iload hx hb dM_bar_40 (lv_at hl 4 rfl) ?_
            refine lv_if_eq (tgt := 61) hx hb dM_bar_42 (by decide) (fun h7 => ?_) (fun h7 => ?_)
            ·
              refine lv_iconst (v := 1) hx hb dM_bar_61 (by decide) ?_
              refine lv_goto hx hb dM_bar_62 (tgt := 66) (by decide) ?_
              exact J66 _ _ hP hD hS _ (((if_neg h3).trans ((if_neg h6).trans (if_pos h7))).symm)
            ·
              refine lv_aload_n hx hb dM_bar_45 rfl (lv_at hl 0 rfl) ?_
              refine va_get (D := D) (ci := 3) (v := .ref b7) (C := cnM) (T := ftM) (N := 10) hx hb hts inM hown hK hP 0 rfl rfl 9 (by decide) (hts _ mw298) (fun _ h9 => h9) rfl dM_bar_46 ?_
              refine lv_iload_n hx hb dM_bar_49 rfl (lv_at hl 2 rfl) ?_
              refine lv_iconst (v := 1) hx hb dM_bar_50 (by decide) ?_
              refine lv_isub hx hb dM_bar_51 ?_
              refine va_iald hx hb hK hP 7 0 rfl rfl (zm_hidden_in hn h2) dM_bar_52 ?_
              refine lv_iload hx hb dM_bar_53 (lv_at hl 4 rfl) ?_
              refine kcI (isR := [0, 1, 2, 3, 4, 5, 6, 7]) (isC := []) (wr := [(bo, .inr (3, [.ref b1, .int y.2.1, .ref b2, .ref b3, .int (nI y.2.2.2.2.1), .int y.2.2.2.2.2.1, .ref b4, .ref b5, .ref b6, .ref b7])), (b1, .inl (cI, 3, .inl y.1)), (b2, .inl (cI, 3, .inl y.2.2.1)), (b3, .inl (cI, 3, .inl y.2.2.2.1)), (b4, .inl (cZ, 512, .inl y.2.2.2.2.2.2.1)), (b5, .inl (cI, 512, .inl y.2.2.2.2.2.2.2.1)), (b6, .inl (cI, 512, .inl y.2.2.2.2.2.2.2.2.1)), (b7, .inl (cI, 512, .inl y.2.2.2.2.2.2.2.2.2))]) (w2 := [(bo, .inr (3, [.ref b1, .int y.2.1, .ref b2, .ref b3, .int (nI y.2.2.2.2.1), .int y.2.2.2.2.2.1, .ref b4, .ref b5, .ref b6, .ref b7])), (b1, .inl (cI, 3, .inl y.1)), (b2, .inl (cI, 3, .inl y.2.2.1)), (b3, .inl (cI, 3, .inl y.2.2.2.1)), (b4, .inl (cZ, 512, .inl y.2.2.2.2.2.2.1)), (b5, .inl (cI, 512, .inl y.2.2.2.2.2.2.2.1)), (b6, .inl (cI, 512, .inl y.2.2.2.2.2.2.2.2.1)), (b7, .inl (cI, 512, .inl y.2.2.2.2.2.2.2.2.2))]) (va_runS (As := [.int (y.2.2.2.2.2.2.2.2.2 (Int32.toNatClampNeg (g2 - 1))), .int g4]) (rest := []) ⟨hx, hb, hml, hown, hts⟩ (km_has l D cI cZ (y.2.2.2.2.2.2.2.2.2 (Int32.toNatClampNeg (g2 - 1))) g4 _) ⟨(callB_of 2 hts gd_yM_has rfl rfl rfl (hts _ mw27) (hts _ mw333) (by decide +kernel) ⟨Nat.le_of_ble_eq_true rfl, Nat.le_of_ble_eq_true rfl⟩), hts _ mw334⟩ (kpreS hNw hP hD hK [] rfl (by decide)) rfl rfl hl.1 rfl (lv_room (Nat.le_of_ble_eq_true rfl)) dM_bar_55 ⟨Nat.le_of_ble_eq_true rfl, Nat.le_of_ble_eq_true rfl⟩) hP hD hS hA [0, 1, 2, 3, 4, 5, 6, 7] rfl rfl (by decide) (by decide) (by decide) rfl (fun H locs hP hD hS => ?_)
              refine lv_if_ne (tgt := 65) hx hb dM_bar_58 (by decide) (fun h8 => ?_) (fun h8 => ?_)
              ·
                refine lv_iconst (v := 0) hx hb dM_bar_65 (by decide) ?_
                exact J66 _ _ hP hD hS _ (((if_neg h3).trans ((if_neg h6).trans ((if_neg h7).trans (if_neg h8)))).symm)
              ·
                refine lv_iconst (v := 1) hx hb dM_bar_61 (by decide) ?_
                refine lv_goto hx hb dM_bar_62 (tgt := 66) (by decide) ?_
                exact J66 _ _ hP hD hS _ (((if_neg h3).trans ((if_neg h6).trans ((if_neg h7).trans (if_pos h8)))).symm)
      refine lv_istore hx hb dM_bar_66 hl (by decide) rfl (fun ls hl => ?_)
      have hl : lv_has ls 6 [(5, .int (if g3 = 0 then (if g4 = 0 then (1 : Int32) else (if (zm_has (y.2.2.2.2.2.2.2.2.2 (Int32.toNatClampNeg (g2 - 1))) g4) = 0 then (1 : Int32) else (0 : Int32))) else (if (zm_has (y.2.2.2.2.2.2.2.2.2 (Int32.toNatClampNeg (g2 - 1))) g3) = 0 then (0 : Int32) else (if g4 = 0 then (1 : Int32) else (if (zm_has (y.2.2.2.2.2.2.2.2.2 (Int32.toNatClampNeg (g2 - 1))) g4) = 0 then (1 : Int32) else (0 : Int32)))))), (0, .ref bo), (1, .int g1), (2, .int g2), (3, .int g3), (4, .int g4)] := hl
      refine lv_iload hx hb dM_bar_68 (lv_at hl 0 rfl) ?_
      refine kJoin (pcJ := 79) (z := (if (if g3 = 0 then (if g4 = 0 then (1 : Int32) else (if (zm_has (y.2.2.2.2.2.2.2.2.2 (Int32.toNatClampNeg (g2 - 1))) g4) = 0 then (1 : Int32) else (0 : Int32))) else (if (zm_has (y.2.2.2.2.2.2.2.2.2 (Int32.toNatClampNeg (g2 - 1))) g3) = 0 then (0 : Int32) else (if g4 = 0 then (1 : Int32) else (if (zm_has (y.2.2.2.2.2.2.2.2.2 (Int32.toNatClampNeg (g2 - 1))) g4) = 0 then (1 : Int32) else (0 : Int32))))) = 0 then ((-5) : Int32) else (0 : Int32))) (ws := [(bo, .inr (3, [.ref b1, .int y.2.1, .ref b2, .ref b3, .int (nI y.2.2.2.2.1), .int y.2.2.2.2.2.1, .ref b4, .ref b5, .ref b6, .ref b7])), (b1, .inl (cI, 3, .inl y.1)), (b2, .inl (cI, 3, .inl y.2.2.1)), (b3, .inl (cI, 3, .inl y.2.2.2.1)), (b4, .inl (cZ, 512, .inl y.2.2.2.2.2.2.1)), (b5, .inl (cI, 512, .inl y.2.2.2.2.2.2.2.1)), (b6, .inl (cI, 512, .inl y.2.2.2.2.2.2.2.2.1)), (b7, .inl (cI, 512, .inl y.2.2.2.2.2.2.2.2.2))]) (rest := []) (D := D) (A := A) (H0 := s.heap) (fun J79 => ?_) (fun H locs hP hD hS => ?_)
      ·
        refine lv_if_eq (tgt := 77) hx hb dM_bar_70 (by decide) (fun h9 => ?_) (fun h9 => ?_)
        ·
          refine lv_bipush (v := (-5)) hx hb dM_bar_77 (by decide) ?_
          exact J79 _ _ hP hD hS _ ((if_pos h9).symm)
        ·
          refine lv_iconst (v := 0) hx hb dM_bar_73 (by decide) ?_
          refine lv_goto hx hb dM_bar_74 (tgt := 79) (by decide) ?_
          exact J79 _ _ hP hD hS _ ((if_neg h9).symm)
      exact kretP (by first | (rw [zm_bar, if_pos h1, if_pos h2]; done) | exact ((if_pos h1).trans (if_pos h2))) hx hb hr hlk hS hP hD hK dM_bar_79
    ·
      refine lv_bipush (v := (-2)) hx hb dM_bar_18 (by decide) ?_
      exact kretP (by first | (rw [zm_bar, if_pos h1, if_neg h2]; done) | exact ((if_pos h1).trans (if_neg h2))) hx hb hr hlk hS hP hD hK dM_bar_20
  ·
    refine lv_iconst (v := (-1)) hx hb dM_bar_8 (by decide) ?_
    exact kretP (by first | (rw [zm_bar, if_neg h1]; done) | exact (if_neg h1)) hx hb hr hlk hS hP hD hK dM_bar_9

theorem zm_bar_in {y : YS} {g1 g2 g3 g4 : Int32} (hn : y.2.2.2.2.1 ≤ 512) (h : ¬ zm_bar y g1 g2 g3 g4 < 0) : vp_in (g2 - 1) 512 := by
  unfold zm_bar at h
  by_cases h1 : zm_closed y g1 = 0
  · rw [if_pos h1] at h
    by_cases h2 : zm_hidden y g2 = 0
    · exact zm_hidden_in hn h2
    · rw [if_neg h2] at h; exact absurd (by decide) h
  · rw [if_neg h1] at h; exact absurd (by decide) h

def zm_read (y : YS) (g1 : Int32) (g2 : Int32) : Int64 := (if 0 ≤ (zm_bar y g1 g2 0 4) then (zm_answer (y.2.2.2.2.2.2.2.1 (Int32.toNatClampNeg (g2 - 1)))) else (Int32.toInt64 (zm_bar y g1 g2 0 4)))

set_option maxHeartbeats 4000000 in
set_option maxRecDepth 100000 in
theorem km_read (l : Launch) (D : va_G) (cI cZ : ClassId) (bo b1 b2 b3 b4 b5 b6 b7 : Nat) (y : YS) (g1 : Int32) (g2 : Int32) (hn : y.2.2.2.2.1 ≤ 512) : kL l yM_read wsM_read (rmOf 4 88) D (kT cI cZ) [.ref bo, .int g1, .int g2] (wY cI cZ bo b1 b2 b3 b4 b5 b6 b7 y) (zm_read y g1 g2) (wY cI cZ bo b1 b2 b3 b4 b5 b6 b7 y) := by
  intro sz
  refine kOf (Qc := fun A => kQl D (kT cI cZ) A (zm_read y g1 g2) (wY cI cZ bo b1 b2 b3 b4 b5 b6 b7 y)) (cc := cM_read) (maxL := 4) (ret := some .long) (by decide) rfl (Nat.le_of_ble_eq_true rfl) ?_ sz
  intro p e s m args below meth c A ls hx hb hml hown hts hNw hr hlk hin hA hS hP hD hK hl
  show W p l e (rmOf 4 88) s m args below meth c s.heap [] 0 0 (MQ below (kQl D (kT cI cZ) A (zm_read y g1 g2) (wY cI cZ bo b1 b2 b3 b4 b5 b6 b7 y)) args s 0 0 A) (F0 m 0 ls [])
  have hts : ∀ q ∈ lw_g, q.before args s = true := fun q h => hts q (List.mem_cons_of_mem _ h)
  have hown : s.vm.findClass cnM = some m.cls := hown
  have hl : lv_has ls 4 [(0, .ref bo), (1, .int g1), (2, .int g2)] := hl
  have hP : va_P D vwCl [(bo, .inr (3, [.ref b1, .int y.2.1, .ref b2, .ref b3, .int (nI y.2.2.2.2.1), .int y.2.2.2.2.2.1, .ref b4, .ref b5, .ref b6, .ref b7])), (b1, .inl (cI, 3, .inl y.1)), (b2, .inl (cI, 3, .inl y.2.2.1)), (b3, .inl (cI, 3, .inl y.2.2.2.1)), (b4, .inl (cZ, 512, .inl y.2.2.2.2.2.2.1)), (b5, .inl (cI, 512, .inl y.2.2.2.2.2.2.2.1)), (b6, .inl (cI, 512, .inl y.2.2.2.2.2.2.2.2.1)), (b7, .inl (cI, 512, .inl y.2.2.2.2.2.2.2.2.2))] s.heap := hP
  have hD : va_D A [(bo, .inr (3, [.ref b1, .int y.2.1, .ref b2, .ref b3, .int (nI y.2.2.2.2.1), .int y.2.2.2.2.2.1, .ref b4, .ref b5, .ref b6, .ref b7])), (b1, .inl (cI, 3, .inl y.1)), (b2, .inl (cI, 3, .inl y.2.2.1)), (b3, .inl (cI, 3, .inl y.2.2.2.1)), (b4, .inl (cZ, 512, .inl y.2.2.2.2.2.2.1)), (b5, .inl (cI, 512, .inl y.2.2.2.2.2.2.2.1)), (b6, .inl (cI, 512, .inl y.2.2.2.2.2.2.2.2.1)), (b7, .inl (cI, 512, .inl y.2.2.2.2.2.2.2.2.2))] := hD
  refine lv_aload_n hx hb dM_read_0 rfl (lv_at hl 0 rfl) ?_
  refine lv_iload_n hx hb dM_read_1 rfl (lv_at hl 1 rfl) ?_
  refine lv_iload_n hx hb dM_read_2 rfl (lv_at hl 2 rfl) ?_
  refine lv_iconst (v := 0) hx hb dM_read_3 (by decide) ?_
  refine lv_iconst (v := 4) hx hb dM_read_4 (by decide) ?_
  refine kcI (isR := []) (isC := [0, 1, 2, 3, 4, 5, 6, 7]) (wr := []) (w2 := [(bo, .inr (3, [.ref b1, .int y.2.1, .ref b2, .ref b3, .int (nI y.2.2.2.2.1), .int y.2.2.2.2.2.1, .ref b4, .ref b5, .ref b6, .ref b7])), (b1, .inl (cI, 3, .inl y.1)), (b2, .inl (cI, 3, .inl y.2.2.1)), (b3, .inl (cI, 3, .inl y.2.2.2.1)), (b4, .inl (cZ, 512, .inl y.2.2.2.2.2.2.1)), (b5, .inl (cI, 512, .inl y.2.2.2.2.2.2.2.1)), (b6, .inl (cI, 512, .inl y.2.2.2.2.2.2.2.2.1)), (b7, .inl (cI, 512, .inl y.2.2.2.2.2.2.2.2.2))]) (va_runV (As := [.int g1, .int g2, .int 0, .int 4]) (rest := []) ⟨hx, hb, hml, hown, hts⟩ (km_bar l D cI cZ bo b1 b2 b3 b4 b5 b6 b7 y g1 g2 0 4 (hn) _) ⟨(callB_of 4 hts gd_yM_bar rfl rfl rfl (hts _ mw27) (hts _ mw408) (by decide +kernel) ⟨Nat.le_of_ble_eq_true rfl, Nat.le_of_ble_eq_true rfl⟩), hts _ mw410, hts _ mw22⟩ (kpreV hNw hP hD hK [0, 1, 2, 3, 4, 5, 6, 7] rfl (by decide) 0 rfl (ci := 3) rfl) rfl rfl hl.1 rfl (lv_room (Nat.le_of_ble_eq_true rfl)) dM_read_5 ⟨Nat.le_of_ble_eq_true rfl, Nat.le_of_ble_eq_true rfl⟩) hP hD hS hA [0, 1, 2, 3, 4, 5, 6, 7] rfl rfl (by decide) (by decide) (by decide) rfl (fun H locs hP hD hS => ?_)
  refine lv_istore_n hx hb dM_read_8 rfl hl (by decide) rfl (fun ls hl => ?_)
  have hl : lv_has ls 4 [(3, .int (zm_bar y g1 g2 0 4)), (0, .ref bo), (1, .int g1), (2, .int g2)] := hl
  refine lv_iload_n hx hb dM_read_9 rfl (lv_at hl 0 rfl) ?_
  refine lv_if_ge (tgt := 18) hx hb dM_read_10 (by decide) (fun h1 => ?_) (fun h1 => ?_)
  ·
    refine lv_aload_n hx hb dM_read_18 rfl (lv_at hl 1 rfl) ?_
    refine va_get (D := D) (ci := 3) (v := .ref b5) (C := cnM) (T := ftM) (N := 10) hx hb hts inM hown hK hP 0 rfl rfl 7 (by decide) (hts _ mw296) (fun _ h9 => h9) rfl dM_read_19 ?_
    refine lv_iload_n hx hb dM_read_22 rfl (lv_at hl 3 rfl) ?_
    refine lv_iconst (v := 1) hx hb dM_read_23 (by decide) ?_
    refine lv_isub hx hb dM_read_24 ?_
    refine va_iald hx hb hK hP 5 0 rfl rfl (zm_bar_in hn (kge h1)) dM_read_25 ?_
    refine kcL (isR := [0, 1, 2, 3, 4, 5, 6, 7]) (isC := []) (wr := [(bo, .inr (3, [.ref b1, .int y.2.1, .ref b2, .ref b3, .int (nI y.2.2.2.2.1), .int y.2.2.2.2.2.1, .ref b4, .ref b5, .ref b6, .ref b7])), (b1, .inl (cI, 3, .inl y.1)), (b2, .inl (cI, 3, .inl y.2.2.1)), (b3, .inl (cI, 3, .inl y.2.2.2.1)), (b4, .inl (cZ, 512, .inl y.2.2.2.2.2.2.1)), (b5, .inl (cI, 512, .inl y.2.2.2.2.2.2.2.1)), (b6, .inl (cI, 512, .inl y.2.2.2.2.2.2.2.2.1)), (b7, .inl (cI, 512, .inl y.2.2.2.2.2.2.2.2.2))]) (w2 := [(bo, .inr (3, [.ref b1, .int y.2.1, .ref b2, .ref b3, .int (nI y.2.2.2.2.1), .int y.2.2.2.2.2.1, .ref b4, .ref b5, .ref b6, .ref b7])), (b1, .inl (cI, 3, .inl y.1)), (b2, .inl (cI, 3, .inl y.2.2.1)), (b3, .inl (cI, 3, .inl y.2.2.2.1)), (b4, .inl (cZ, 512, .inl y.2.2.2.2.2.2.1)), (b5, .inl (cI, 512, .inl y.2.2.2.2.2.2.2.1)), (b6, .inl (cI, 512, .inl y.2.2.2.2.2.2.2.2.1)), (b7, .inl (cI, 512, .inl y.2.2.2.2.2.2.2.2.2))]) (va_runS (As := [.int (y.2.2.2.2.2.2.2.1 (Int32.toNatClampNeg (g2 - 1)))]) (rest := []) ⟨hx, hb, hml, hown, hts⟩ (km_answer l D cI cZ (y.2.2.2.2.2.2.2.1 (Int32.toNatClampNeg (g2 - 1))) _) ⟨(callB_of 1 hts gd_yM_answer rfl rfl rfl (hts _ mw27) (hts _ mw412) (by decide +kernel) ⟨Nat.le_of_ble_eq_true rfl, Nat.le_of_ble_eq_true rfl⟩), hts _ mw413⟩ (kpreS hNw hP hD hK [] rfl (by decide)) rfl rfl hl.1 rfl (lv_room (Nat.le_of_ble_eq_true rfl)) dM_read_26 ⟨Nat.le_of_ble_eq_true rfl, Nat.le_of_ble_eq_true rfl⟩) hP hD hS hA [0, 1, 2, 3, 4, 5, 6, 7] rfl rfl (by decide) (by decide) (by decide) rfl (fun H locs hP hD hS => ?_)
    exact kretL (by first | (rw [zm_read, if_pos h1]; done) | exact (if_pos h1)) hx hb hr hlk hS hP hD hK dM_read_29
  ·
    refine lv_iload_n hx hb dM_read_13 rfl (lv_at hl 0 rfl) ?_
    refine lv_i2l (v := (Int32.toInt64 (zm_bar y g1 g2 0 4))) hx hb dM_read_14 rfl ?_
    refine lv_goto hx hb dM_read_15 (tgt := 29) (by decide) ?_
    exact kretL (by first | (rw [zm_read, if_neg h1]; done) | exact (if_neg h1)) hx hb hr hlk hS hP hD hK dM_read_29

def zm_encrypt (y : YS) (g1 : Int32) (g2 : Int32) (g3 : Int32) : Int64 := (if 0 ≤ (zm_bar y g1 g2 16 0) then (zm_answer (zm_rounds (y.2.2.2.2.2.2.2.1 (Int32.toNatClampNeg (g2 - 1))) g3 1)) else (Int32.toInt64 (zm_bar y g1 g2 16 0)))

set_option maxHeartbeats 4000000 in
set_option maxRecDepth 100000 in
theorem km_encrypt (l : Launch) (D : va_G) (cI cZ : ClassId) (bo b1 b2 b3 b4 b5 b6 b7 : Nat) (y : YS) (g1 : Int32) (g2 : Int32) (g3 : Int32) (hn : y.2.2.2.2.1 ≤ 512) : kL l yM_encrypt wsM_encrypt (rmOf 4 88) D (kT cI cZ) [.ref bo, .int g1, .int g2, .int g3] (wY cI cZ bo b1 b2 b3 b4 b5 b6 b7 y) (zm_encrypt y g1 g2 g3) (wY cI cZ bo b1 b2 b3 b4 b5 b6 b7 y) := by
  intro sz
  refine kOf (Qc := fun A => kQl D (kT cI cZ) A (zm_encrypt y g1 g2 g3) (wY cI cZ bo b1 b2 b3 b4 b5 b6 b7 y)) (cc := cM_encrypt) (maxL := 5) (ret := some .long) (by decide) rfl (Nat.le_of_ble_eq_true rfl) ?_ sz
  intro p e s m args below meth c A ls hx hb hml hown hts hNw hr hlk hin hA hS hP hD hK hl
  show W p l e (rmOf 4 88) s m args below meth c s.heap [] 0 0 (MQ below (kQl D (kT cI cZ) A (zm_encrypt y g1 g2 g3) (wY cI cZ bo b1 b2 b3 b4 b5 b6 b7 y)) args s 0 0 A) (F0 m 0 ls [])
  have hts : ∀ q ∈ lw_g, q.before args s = true := fun q h => hts q (List.mem_cons_of_mem _ h)
  have hown : s.vm.findClass cnM = some m.cls := hown
  have hl : lv_has ls 5 [(0, .ref bo), (1, .int g1), (2, .int g2), (3, .int g3)] := hl
  have hP : va_P D vwCl [(bo, .inr (3, [.ref b1, .int y.2.1, .ref b2, .ref b3, .int (nI y.2.2.2.2.1), .int y.2.2.2.2.2.1, .ref b4, .ref b5, .ref b6, .ref b7])), (b1, .inl (cI, 3, .inl y.1)), (b2, .inl (cI, 3, .inl y.2.2.1)), (b3, .inl (cI, 3, .inl y.2.2.2.1)), (b4, .inl (cZ, 512, .inl y.2.2.2.2.2.2.1)), (b5, .inl (cI, 512, .inl y.2.2.2.2.2.2.2.1)), (b6, .inl (cI, 512, .inl y.2.2.2.2.2.2.2.2.1)), (b7, .inl (cI, 512, .inl y.2.2.2.2.2.2.2.2.2))] s.heap := hP
  have hD : va_D A [(bo, .inr (3, [.ref b1, .int y.2.1, .ref b2, .ref b3, .int (nI y.2.2.2.2.1), .int y.2.2.2.2.2.1, .ref b4, .ref b5, .ref b6, .ref b7])), (b1, .inl (cI, 3, .inl y.1)), (b2, .inl (cI, 3, .inl y.2.2.1)), (b3, .inl (cI, 3, .inl y.2.2.2.1)), (b4, .inl (cZ, 512, .inl y.2.2.2.2.2.2.1)), (b5, .inl (cI, 512, .inl y.2.2.2.2.2.2.2.1)), (b6, .inl (cI, 512, .inl y.2.2.2.2.2.2.2.2.1)), (b7, .inl (cI, 512, .inl y.2.2.2.2.2.2.2.2.2))] := hD
  refine lv_aload_n hx hb dM_encrypt_0 rfl (lv_at hl 0 rfl) ?_
  refine lv_iload_n hx hb dM_encrypt_1 rfl (lv_at hl 1 rfl) ?_
  refine lv_iload_n hx hb dM_encrypt_2 rfl (lv_at hl 2 rfl) ?_
  refine lv_bipush (v := 16) hx hb dM_encrypt_3 (by decide) ?_
  refine lv_iconst (v := 0) hx hb dM_encrypt_5 (by decide) ?_
  refine kcI (isR := []) (isC := [0, 1, 2, 3, 4, 5, 6, 7]) (wr := []) (w2 := [(bo, .inr (3, [.ref b1, .int y.2.1, .ref b2, .ref b3, .int (nI y.2.2.2.2.1), .int y.2.2.2.2.2.1, .ref b4, .ref b5, .ref b6, .ref b7])), (b1, .inl (cI, 3, .inl y.1)), (b2, .inl (cI, 3, .inl y.2.2.1)), (b3, .inl (cI, 3, .inl y.2.2.2.1)), (b4, .inl (cZ, 512, .inl y.2.2.2.2.2.2.1)), (b5, .inl (cI, 512, .inl y.2.2.2.2.2.2.2.1)), (b6, .inl (cI, 512, .inl y.2.2.2.2.2.2.2.2.1)), (b7, .inl (cI, 512, .inl y.2.2.2.2.2.2.2.2.2))]) (va_runV (As := [.int g1, .int g2, .int 16, .int 0]) (rest := []) ⟨hx, hb, hml, hown, hts⟩ (km_bar l D cI cZ bo b1 b2 b3 b4 b5 b6 b7 y g1 g2 16 0 (hn) _) ⟨(callB_of 4 hts gd_yM_bar rfl rfl rfl (hts _ mw27) (hts _ mw408) (by decide +kernel) ⟨Nat.le_of_ble_eq_true rfl, Nat.le_of_ble_eq_true rfl⟩), hts _ mw410, hts _ mw22⟩ (kpreV hNw hP hD hK [0, 1, 2, 3, 4, 5, 6, 7] rfl (by decide) 0 rfl (ci := 3) rfl) rfl rfl hl.1 rfl (lv_room (Nat.le_of_ble_eq_true rfl)) dM_encrypt_6 ⟨Nat.le_of_ble_eq_true rfl, Nat.le_of_ble_eq_true rfl⟩) hP hD hS hA [0, 1, 2, 3, 4, 5, 6, 7] rfl rfl (by decide) (by decide) (by decide) rfl (fun H locs hP hD hS => ?_)
  refine lv_istore hx hb dM_encrypt_9 hl (by decide) rfl (fun ls hl => ?_)
  have hl : lv_has ls 5 [(4, .int (zm_bar y g1 g2 16 0)), (0, .ref bo), (1, .int g1), (2, .int g2), (3, .int g3)] := hl
  refine lv_iload hx hb dM_encrypt_11 (lv_at hl 0 rfl) ?_
  refine lv_if_ge (tgt := 22) hx hb dM_encrypt_13 (by decide) (fun h1 => ?_) (fun h1 => ?_)
  ·
    refine lv_aload_n hx hb dM_encrypt_22 rfl (lv_at hl 1 rfl) ?_
    refine va_get (D := D) (ci := 3) (v := .ref b5) (C := cnM) (T := ftM) (N := 10) hx hb hts inM hown hK hP 0 rfl rfl 7 (by decide) (hts _ mw296) (fun _ h9 => h9) rfl dM_encrypt_23 ?_
    refine lv_iload_n hx hb dM_encrypt_26 rfl (lv_at hl 3 rfl) ?_
    refine lv_iconst (v := 1) hx hb dM_encrypt_27 (by decide) ?_
    refine lv_isub hx hb dM_encrypt_28 ?_
    refine va_iald hx hb hK hP 5 0 rfl rfl (zm_bar_in hn (kge h1)) dM_encrypt_29 ?_
    refine lv_iload_n hx hb dM_encrypt_30 rfl (lv_at hl 4 rfl) ?_
    refine lv_iconst (v := 1) hx hb dM_encrypt_31 (by decide) ?_
    refine kcI (isR := [0, 1, 2, 3, 4, 5, 6, 7]) (isC := []) (wr := [(bo, .inr (3, [.ref b1, .int y.2.1, .ref b2, .ref b3, .int (nI y.2.2.2.2.1), .int y.2.2.2.2.2.1, .ref b4, .ref b5, .ref b6, .ref b7])), (b1, .inl (cI, 3, .inl y.1)), (b2, .inl (cI, 3, .inl y.2.2.1)), (b3, .inl (cI, 3, .inl y.2.2.2.1)), (b4, .inl (cZ, 512, .inl y.2.2.2.2.2.2.1)), (b5, .inl (cI, 512, .inl y.2.2.2.2.2.2.2.1)), (b6, .inl (cI, 512, .inl y.2.2.2.2.2.2.2.2.1)), (b7, .inl (cI, 512, .inl y.2.2.2.2.2.2.2.2.2))]) (w2 := [(bo, .inr (3, [.ref b1, .int y.2.1, .ref b2, .ref b3, .int (nI y.2.2.2.2.1), .int y.2.2.2.2.2.1, .ref b4, .ref b5, .ref b6, .ref b7])), (b1, .inl (cI, 3, .inl y.1)), (b2, .inl (cI, 3, .inl y.2.2.1)), (b3, .inl (cI, 3, .inl y.2.2.2.1)), (b4, .inl (cZ, 512, .inl y.2.2.2.2.2.2.1)), (b5, .inl (cI, 512, .inl y.2.2.2.2.2.2.2.1)), (b6, .inl (cI, 512, .inl y.2.2.2.2.2.2.2.2.1)), (b7, .inl (cI, 512, .inl y.2.2.2.2.2.2.2.2.2))]) (va_runS (As := [.int (y.2.2.2.2.2.2.2.1 (Int32.toNatClampNeg (g2 - 1))), .int g3, .int 1]) (rest := []) ⟨hx, hb, hml, hown, hts⟩ (km_rounds l D cI cZ (y.2.2.2.2.2.2.2.1 (Int32.toNatClampNeg (g2 - 1))) g3 1 _) ⟨(callB_of 3 hts gd_yM_rounds rfl rfl rfl (hts _ mw27) (hts _ mw420) (by decide +kernel) ⟨Nat.le_of_ble_eq_true rfl, Nat.le_of_ble_eq_true rfl⟩), hts _ mw421⟩ (kpreS hNw hP hD hK [] rfl (by decide)) rfl rfl hl.1 rfl (lv_room (Nat.le_of_ble_eq_true rfl)) dM_encrypt_32 ⟨Nat.le_of_ble_eq_true rfl, Nat.le_of_ble_eq_true rfl⟩) hP hD hS hA [0, 1, 2, 3, 4, 5, 6, 7] rfl rfl (by decide) (by decide) (by decide) rfl (fun H locs hP hD hS => ?_)
    refine kcL (isR := [0, 1, 2, 3, 4, 5, 6, 7]) (isC := []) (wr := [(bo, .inr (3, [.ref b1, .int y.2.1, .ref b2, .ref b3, .int (nI y.2.2.2.2.1), .int y.2.2.2.2.2.1, .ref b4, .ref b5, .ref b6, .ref b7])), (b1, .inl (cI, 3, .inl y.1)), (b2, .inl (cI, 3, .inl y.2.2.1)), (b3, .inl (cI, 3, .inl y.2.2.2.1)), (b4, .inl (cZ, 512, .inl y.2.2.2.2.2.2.1)), (b5, .inl (cI, 512, .inl y.2.2.2.2.2.2.2.1)), (b6, .inl (cI, 512, .inl y.2.2.2.2.2.2.2.2.1)), (b7, .inl (cI, 512, .inl y.2.2.2.2.2.2.2.2.2))]) (w2 := [(bo, .inr (3, [.ref b1, .int y.2.1, .ref b2, .ref b3, .int (nI y.2.2.2.2.1), .int y.2.2.2.2.2.1, .ref b4, .ref b5, .ref b6, .ref b7])), (b1, .inl (cI, 3, .inl y.1)), (b2, .inl (cI, 3, .inl y.2.2.1)), (b3, .inl (cI, 3, .inl y.2.2.2.1)), (b4, .inl (cZ, 512, .inl y.2.2.2.2.2.2.1)), (b5, .inl (cI, 512, .inl y.2.2.2.2.2.2.2.1)), (b6, .inl (cI, 512, .inl y.2.2.2.2.2.2.2.2.1)), (b7, .inl (cI, 512, .inl y.2.2.2.2.2.2.2.2.2))]) (va_runS (As := [.int (zm_rounds (y.2.2.2.2.2.2.2.1 (Int32.toNatClampNeg (g2 - 1))) g3 1)]) (rest := []) ⟨hx, hb, hml, hown, hts⟩ (km_answer l D cI cZ (zm_rounds (y.2.2.2.2.2.2.2.1 (Int32.toNatClampNeg (g2 - 1))) g3 1) _) ⟨(callB_of 1 hts gd_yM_answer rfl rfl rfl (hts _ mw27) (hts _ mw412) (by decide +kernel) ⟨Nat.le_of_ble_eq_true rfl, Nat.le_of_ble_eq_true rfl⟩), hts _ mw413⟩ (kpreS hNw hP hD hK [] rfl (by decide)) rfl rfl hl.1 rfl (lv_room (Nat.le_of_ble_eq_true rfl)) dM_encrypt_35 ⟨Nat.le_of_ble_eq_true rfl, Nat.le_of_ble_eq_true rfl⟩) hP hD hS hA [0, 1, 2, 3, 4, 5, 6, 7] rfl rfl (by decide) (by decide) (by decide) rfl (fun H locs hP hD hS => ?_)
    exact kretL (by first | (rw [zm_encrypt, if_pos h1]; done) | exact (if_pos h1)) hx hb hr hlk hS hP hD hK dM_encrypt_38
  ·
    refine lv_iload hx hb dM_encrypt_16 (lv_at hl 0 rfl) ?_
    refine lv_i2l (v := (Int32.toInt64 (zm_bar y g1 g2 16 0))) hx hb dM_encrypt_18 rfl ?_
    refine lv_goto hx hb dM_encrypt_19 (tgt := 38) (by decide) ?_
    exact kretL (by first | (rw [zm_encrypt, if_neg h1]; done) | exact (if_neg h1)) hx hb hr hlk hS hP hD hK dM_encrypt_38

def zm_decrypt (y : YS) (g1 : Int32) (g2 : Int32) (g3 : Int32) : Int64 := (if 0 ≤ (zm_bar y g1 g2 32 0) then (zm_answer (zm_rounds (y.2.2.2.2.2.2.2.1 (Int32.toNatClampNeg (g2 - 1))) g3 0)) else (Int32.toInt64 (zm_bar y g1 g2 32 0)))

set_option maxHeartbeats 4000000 in
set_option maxRecDepth 100000 in
theorem km_decrypt (l : Launch) (D : va_G) (cI cZ : ClassId) (bo b1 b2 b3 b4 b5 b6 b7 : Nat) (y : YS) (g1 : Int32) (g2 : Int32) (g3 : Int32) (hn : y.2.2.2.2.1 ≤ 512) : kL l yM_decrypt wsM_decrypt (rmOf 4 88) D (kT cI cZ) [.ref bo, .int g1, .int g2, .int g3] (wY cI cZ bo b1 b2 b3 b4 b5 b6 b7 y) (zm_decrypt y g1 g2 g3) (wY cI cZ bo b1 b2 b3 b4 b5 b6 b7 y) := by
  intro sz
  refine kOf (Qc := fun A => kQl D (kT cI cZ) A (zm_decrypt y g1 g2 g3) (wY cI cZ bo b1 b2 b3 b4 b5 b6 b7 y)) (cc := cM_decrypt) (maxL := 5) (ret := some .long) (by decide) rfl (Nat.le_of_ble_eq_true rfl) ?_ sz
  intro p e s m args below meth c A ls hx hb hml hown hts hNw hr hlk hin hA hS hP hD hK hl
  show W p l e (rmOf 4 88) s m args below meth c s.heap [] 0 0 (MQ below (kQl D (kT cI cZ) A (zm_decrypt y g1 g2 g3) (wY cI cZ bo b1 b2 b3 b4 b5 b6 b7 y)) args s 0 0 A) (F0 m 0 ls [])
  have hts : ∀ q ∈ lw_g, q.before args s = true := fun q h => hts q (List.mem_cons_of_mem _ h)
  have hown : s.vm.findClass cnM = some m.cls := hown
  have hl : lv_has ls 5 [(0, .ref bo), (1, .int g1), (2, .int g2), (3, .int g3)] := hl
  have hP : va_P D vwCl [(bo, .inr (3, [.ref b1, .int y.2.1, .ref b2, .ref b3, .int (nI y.2.2.2.2.1), .int y.2.2.2.2.2.1, .ref b4, .ref b5, .ref b6, .ref b7])), (b1, .inl (cI, 3, .inl y.1)), (b2, .inl (cI, 3, .inl y.2.2.1)), (b3, .inl (cI, 3, .inl y.2.2.2.1)), (b4, .inl (cZ, 512, .inl y.2.2.2.2.2.2.1)), (b5, .inl (cI, 512, .inl y.2.2.2.2.2.2.2.1)), (b6, .inl (cI, 512, .inl y.2.2.2.2.2.2.2.2.1)), (b7, .inl (cI, 512, .inl y.2.2.2.2.2.2.2.2.2))] s.heap := hP
  have hD : va_D A [(bo, .inr (3, [.ref b1, .int y.2.1, .ref b2, .ref b3, .int (nI y.2.2.2.2.1), .int y.2.2.2.2.2.1, .ref b4, .ref b5, .ref b6, .ref b7])), (b1, .inl (cI, 3, .inl y.1)), (b2, .inl (cI, 3, .inl y.2.2.1)), (b3, .inl (cI, 3, .inl y.2.2.2.1)), (b4, .inl (cZ, 512, .inl y.2.2.2.2.2.2.1)), (b5, .inl (cI, 512, .inl y.2.2.2.2.2.2.2.1)), (b6, .inl (cI, 512, .inl y.2.2.2.2.2.2.2.2.1)), (b7, .inl (cI, 512, .inl y.2.2.2.2.2.2.2.2.2))] := hD
  refine lv_aload_n hx hb dM_decrypt_0 rfl (lv_at hl 0 rfl) ?_
  refine lv_iload_n hx hb dM_decrypt_1 rfl (lv_at hl 1 rfl) ?_
  refine lv_iload_n hx hb dM_decrypt_2 rfl (lv_at hl 2 rfl) ?_
  refine lv_bipush (v := 32) hx hb dM_decrypt_3 (by decide) ?_
  refine lv_iconst (v := 0) hx hb dM_decrypt_5 (by decide) ?_
  refine kcI (isR := []) (isC := [0, 1, 2, 3, 4, 5, 6, 7]) (wr := []) (w2 := [(bo, .inr (3, [.ref b1, .int y.2.1, .ref b2, .ref b3, .int (nI y.2.2.2.2.1), .int y.2.2.2.2.2.1, .ref b4, .ref b5, .ref b6, .ref b7])), (b1, .inl (cI, 3, .inl y.1)), (b2, .inl (cI, 3, .inl y.2.2.1)), (b3, .inl (cI, 3, .inl y.2.2.2.1)), (b4, .inl (cZ, 512, .inl y.2.2.2.2.2.2.1)), (b5, .inl (cI, 512, .inl y.2.2.2.2.2.2.2.1)), (b6, .inl (cI, 512, .inl y.2.2.2.2.2.2.2.2.1)), (b7, .inl (cI, 512, .inl y.2.2.2.2.2.2.2.2.2))]) (va_runV (As := [.int g1, .int g2, .int 32, .int 0]) (rest := []) ⟨hx, hb, hml, hown, hts⟩ (km_bar l D cI cZ bo b1 b2 b3 b4 b5 b6 b7 y g1 g2 32 0 (hn) _) ⟨(callB_of 4 hts gd_yM_bar rfl rfl rfl (hts _ mw27) (hts _ mw408) (by decide +kernel) ⟨Nat.le_of_ble_eq_true rfl, Nat.le_of_ble_eq_true rfl⟩), hts _ mw410, hts _ mw22⟩ (kpreV hNw hP hD hK [0, 1, 2, 3, 4, 5, 6, 7] rfl (by decide) 0 rfl (ci := 3) rfl) rfl rfl hl.1 rfl (lv_room (Nat.le_of_ble_eq_true rfl)) dM_decrypt_6 ⟨Nat.le_of_ble_eq_true rfl, Nat.le_of_ble_eq_true rfl⟩) hP hD hS hA [0, 1, 2, 3, 4, 5, 6, 7] rfl rfl (by decide) (by decide) (by decide) rfl (fun H locs hP hD hS => ?_)
  refine lv_istore hx hb dM_decrypt_9 hl (by decide) rfl (fun ls hl => ?_)
  have hl : lv_has ls 5 [(4, .int (zm_bar y g1 g2 32 0)), (0, .ref bo), (1, .int g1), (2, .int g2), (3, .int g3)] := hl
  refine lv_iload hx hb dM_decrypt_11 (lv_at hl 0 rfl) ?_
  refine lv_if_ge (tgt := 22) hx hb dM_decrypt_13 (by decide) (fun h1 => ?_) (fun h1 => ?_)
  ·
    refine lv_aload_n hx hb dM_decrypt_22 rfl (lv_at hl 1 rfl) ?_
    refine va_get (D := D) (ci := 3) (v := .ref b5) (C := cnM) (T := ftM) (N := 10) hx hb hts inM hown hK hP 0 rfl rfl 7 (by decide) (hts _ mw296) (fun _ h9 => h9) rfl dM_decrypt_23 ?_
    refine lv_iload_n hx hb dM_decrypt_26 rfl (lv_at hl 3 rfl) ?_
    refine lv_iconst (v := 1) hx hb dM_decrypt_27 (by decide) ?_
    refine lv_isub hx hb dM_decrypt_28 ?_
    refine va_iald hx hb hK hP 5 0 rfl rfl (zm_bar_in hn (kge h1)) dM_decrypt_29 ?_
    refine lv_iload_n hx hb dM_decrypt_30 rfl (lv_at hl 4 rfl) ?_
    refine lv_iconst (v := 0) hx hb dM_decrypt_31 (by decide) ?_
    refine kcI (isR := [0, 1, 2, 3, 4, 5, 6, 7]) (isC := []) (wr := [(bo, .inr (3, [.ref b1, .int y.2.1, .ref b2, .ref b3, .int (nI y.2.2.2.2.1), .int y.2.2.2.2.2.1, .ref b4, .ref b5, .ref b6, .ref b7])), (b1, .inl (cI, 3, .inl y.1)), (b2, .inl (cI, 3, .inl y.2.2.1)), (b3, .inl (cI, 3, .inl y.2.2.2.1)), (b4, .inl (cZ, 512, .inl y.2.2.2.2.2.2.1)), (b5, .inl (cI, 512, .inl y.2.2.2.2.2.2.2.1)), (b6, .inl (cI, 512, .inl y.2.2.2.2.2.2.2.2.1)), (b7, .inl (cI, 512, .inl y.2.2.2.2.2.2.2.2.2))]) (w2 := [(bo, .inr (3, [.ref b1, .int y.2.1, .ref b2, .ref b3, .int (nI y.2.2.2.2.1), .int y.2.2.2.2.2.1, .ref b4, .ref b5, .ref b6, .ref b7])), (b1, .inl (cI, 3, .inl y.1)), (b2, .inl (cI, 3, .inl y.2.2.1)), (b3, .inl (cI, 3, .inl y.2.2.2.1)), (b4, .inl (cZ, 512, .inl y.2.2.2.2.2.2.1)), (b5, .inl (cI, 512, .inl y.2.2.2.2.2.2.2.1)), (b6, .inl (cI, 512, .inl y.2.2.2.2.2.2.2.2.1)), (b7, .inl (cI, 512, .inl y.2.2.2.2.2.2.2.2.2))]) (va_runS (As := [.int (y.2.2.2.2.2.2.2.1 (Int32.toNatClampNeg (g2 - 1))), .int g3, .int 0]) (rest := []) ⟨hx, hb, hml, hown, hts⟩ (km_rounds l D cI cZ (y.2.2.2.2.2.2.2.1 (Int32.toNatClampNeg (g2 - 1))) g3 0 _) ⟨(callB_of 3 hts gd_yM_rounds rfl rfl rfl (hts _ mw27) (hts _ mw420) (by decide +kernel) ⟨Nat.le_of_ble_eq_true rfl, Nat.le_of_ble_eq_true rfl⟩), hts _ mw421⟩ (kpreS hNw hP hD hK [] rfl (by decide)) rfl rfl hl.1 rfl (lv_room (Nat.le_of_ble_eq_true rfl)) dM_decrypt_32 ⟨Nat.le_of_ble_eq_true rfl, Nat.le_of_ble_eq_true rfl⟩) hP hD hS hA [0, 1, 2, 3, 4, 5, 6, 7] rfl rfl (by decide) (by decide) (by decide) rfl (fun H locs hP hD hS => ?_)
    refine kcL (isR := [0, 1, 2, 3, 4, 5, 6, 7]) (isC := []) (wr := [(bo, .inr (3, [.ref b1, .int y.2.1, .ref b2, .ref b3, .int (nI y.2.2.2.2.1), .int y.2.2.2.2.2.1, .ref b4, .ref b5, .ref b6, .ref b7])), (b1, .inl (cI, 3, .inl y.1)), (b2, .inl (cI, 3, .inl y.2.2.1)), (b3, .inl (cI, 3, .inl y.2.2.2.1)), (b4, .inl (cZ, 512, .inl y.2.2.2.2.2.2.1)), (b5, .inl (cI, 512, .inl y.2.2.2.2.2.2.2.1)), (b6, .inl (cI, 512, .inl y.2.2.2.2.2.2.2.2.1)), (b7, .inl (cI, 512, .inl y.2.2.2.2.2.2.2.2.2))]) (w2 := [(bo, .inr (3, [.ref b1, .int y.2.1, .ref b2, .ref b3, .int (nI y.2.2.2.2.1), .int y.2.2.2.2.2.1, .ref b4, .ref b5, .ref b6, .ref b7])), (b1, .inl (cI, 3, .inl y.1)), (b2, .inl (cI, 3, .inl y.2.2.1)), (b3, .inl (cI, 3, .inl y.2.2.2.1)), (b4, .inl (cZ, 512, .inl y.2.2.2.2.2.2.1)), (b5, .inl (cI, 512, .inl y.2.2.2.2.2.2.2.1)), (b6, .inl (cI, 512, .inl y.2.2.2.2.2.2.2.2.1)), (b7, .inl (cI, 512, .inl y.2.2.2.2.2.2.2.2.2))]) (va_runS (As := [.int (zm_rounds (y.2.2.2.2.2.2.2.1 (Int32.toNatClampNeg (g2 - 1))) g3 0)]) (rest := []) ⟨hx, hb, hml, hown, hts⟩ (km_answer l D cI cZ (zm_rounds (y.2.2.2.2.2.2.2.1 (Int32.toNatClampNeg (g2 - 1))) g3 0) _) ⟨(callB_of 1 hts gd_yM_answer rfl rfl rfl (hts _ mw27) (hts _ mw412) (by decide +kernel) ⟨Nat.le_of_ble_eq_true rfl, Nat.le_of_ble_eq_true rfl⟩), hts _ mw413⟩ (kpreS hNw hP hD hK [] rfl (by decide)) rfl rfl hl.1 rfl (lv_room (Nat.le_of_ble_eq_true rfl)) dM_decrypt_35 ⟨Nat.le_of_ble_eq_true rfl, Nat.le_of_ble_eq_true rfl⟩) hP hD hS hA [0, 1, 2, 3, 4, 5, 6, 7] rfl rfl (by decide) (by decide) (by decide) rfl (fun H locs hP hD hS => ?_)
    exact kretL (by first | (rw [zm_decrypt, if_pos h1]; done) | exact (if_pos h1)) hx hb hr hlk hS hP hD hK dM_decrypt_38
  ·
    refine lv_iload hx hb dM_decrypt_16 (lv_at hl 0 rfl) ?_
    refine lv_i2l (v := (Int32.toInt64 (zm_bar y g1 g2 32 0))) hx hb dM_decrypt_18 rfl ?_
    refine lv_goto hx hb dM_decrypt_19 (tgt := 38) (by decide) ?_
    exact kretL (by first | (rw [zm_decrypt, if_neg h1]; done) | exact (if_neg h1)) hx hb hr hlk hS hP hD hK dM_decrypt_38

def zm_sign (y : YS) (g1 : Int32) (g2 : Int32) (g3 : Int32) : Int64 := (if 0 ≤ (zm_bar y g1 g2 64 0) then (zm_answer (zm_mac (y.2.2.2.2.2.2.2.1 (Int32.toNatClampNeg (g2 - 1))) g3)) else (Int32.toInt64 (zm_bar y g1 g2 64 0)))

set_option maxHeartbeats 4000000 in
set_option maxRecDepth 100000 in
theorem km_sign (l : Launch) (D : va_G) (cI cZ : ClassId) (bo b1 b2 b3 b4 b5 b6 b7 : Nat) (y : YS) (g1 : Int32) (g2 : Int32) (g3 : Int32) (hn : y.2.2.2.2.1 ≤ 512) : kL l yM_sign wsM_sign (rmOf 4 88) D (kT cI cZ) [.ref bo, .int g1, .int g2, .int g3] (wY cI cZ bo b1 b2 b3 b4 b5 b6 b7 y) (zm_sign y g1 g2 g3) (wY cI cZ bo b1 b2 b3 b4 b5 b6 b7 y) := by
  intro sz
  refine kOf (Qc := fun A => kQl D (kT cI cZ) A (zm_sign y g1 g2 g3) (wY cI cZ bo b1 b2 b3 b4 b5 b6 b7 y)) (cc := cM_sign) (maxL := 5) (ret := some .long) (by decide) rfl (Nat.le_of_ble_eq_true rfl) ?_ sz
  intro p e s m args below meth c A ls hx hb hml hown hts hNw hr hlk hin hA hS hP hD hK hl
  show W p l e (rmOf 4 88) s m args below meth c s.heap [] 0 0 (MQ below (kQl D (kT cI cZ) A (zm_sign y g1 g2 g3) (wY cI cZ bo b1 b2 b3 b4 b5 b6 b7 y)) args s 0 0 A) (F0 m 0 ls [])
  have hts : ∀ q ∈ lw_g, q.before args s = true := fun q h => hts q (List.mem_cons_of_mem _ h)
  have hown : s.vm.findClass cnM = some m.cls := hown
  have hl : lv_has ls 5 [(0, .ref bo), (1, .int g1), (2, .int g2), (3, .int g3)] := hl
  have hP : va_P D vwCl [(bo, .inr (3, [.ref b1, .int y.2.1, .ref b2, .ref b3, .int (nI y.2.2.2.2.1), .int y.2.2.2.2.2.1, .ref b4, .ref b5, .ref b6, .ref b7])), (b1, .inl (cI, 3, .inl y.1)), (b2, .inl (cI, 3, .inl y.2.2.1)), (b3, .inl (cI, 3, .inl y.2.2.2.1)), (b4, .inl (cZ, 512, .inl y.2.2.2.2.2.2.1)), (b5, .inl (cI, 512, .inl y.2.2.2.2.2.2.2.1)), (b6, .inl (cI, 512, .inl y.2.2.2.2.2.2.2.2.1)), (b7, .inl (cI, 512, .inl y.2.2.2.2.2.2.2.2.2))] s.heap := hP
  have hD : va_D A [(bo, .inr (3, [.ref b1, .int y.2.1, .ref b2, .ref b3, .int (nI y.2.2.2.2.1), .int y.2.2.2.2.2.1, .ref b4, .ref b5, .ref b6, .ref b7])), (b1, .inl (cI, 3, .inl y.1)), (b2, .inl (cI, 3, .inl y.2.2.1)), (b3, .inl (cI, 3, .inl y.2.2.2.1)), (b4, .inl (cZ, 512, .inl y.2.2.2.2.2.2.1)), (b5, .inl (cI, 512, .inl y.2.2.2.2.2.2.2.1)), (b6, .inl (cI, 512, .inl y.2.2.2.2.2.2.2.2.1)), (b7, .inl (cI, 512, .inl y.2.2.2.2.2.2.2.2.2))] := hD
  refine lv_aload_n hx hb dM_sign_0 rfl (lv_at hl 0 rfl) ?_
  refine lv_iload_n hx hb dM_sign_1 rfl (lv_at hl 1 rfl) ?_
  refine lv_iload_n hx hb dM_sign_2 rfl (lv_at hl 2 rfl) ?_
  refine lv_bipush (v := 64) hx hb dM_sign_3 (by decide) ?_
  refine lv_iconst (v := 0) hx hb dM_sign_5 (by decide) ?_
  refine kcI (isR := []) (isC := [0, 1, 2, 3, 4, 5, 6, 7]) (wr := []) (w2 := [(bo, .inr (3, [.ref b1, .int y.2.1, .ref b2, .ref b3, .int (nI y.2.2.2.2.1), .int y.2.2.2.2.2.1, .ref b4, .ref b5, .ref b6, .ref b7])), (b1, .inl (cI, 3, .inl y.1)), (b2, .inl (cI, 3, .inl y.2.2.1)), (b3, .inl (cI, 3, .inl y.2.2.2.1)), (b4, .inl (cZ, 512, .inl y.2.2.2.2.2.2.1)), (b5, .inl (cI, 512, .inl y.2.2.2.2.2.2.2.1)), (b6, .inl (cI, 512, .inl y.2.2.2.2.2.2.2.2.1)), (b7, .inl (cI, 512, .inl y.2.2.2.2.2.2.2.2.2))]) (va_runV (As := [.int g1, .int g2, .int 64, .int 0]) (rest := []) ⟨hx, hb, hml, hown, hts⟩ (km_bar l D cI cZ bo b1 b2 b3 b4 b5 b6 b7 y g1 g2 64 0 (hn) _) ⟨(callB_of 4 hts gd_yM_bar rfl rfl rfl (hts _ mw27) (hts _ mw408) (by decide +kernel) ⟨Nat.le_of_ble_eq_true rfl, Nat.le_of_ble_eq_true rfl⟩), hts _ mw410, hts _ mw22⟩ (kpreV hNw hP hD hK [0, 1, 2, 3, 4, 5, 6, 7] rfl (by decide) 0 rfl (ci := 3) rfl) rfl rfl hl.1 rfl (lv_room (Nat.le_of_ble_eq_true rfl)) dM_sign_6 ⟨Nat.le_of_ble_eq_true rfl, Nat.le_of_ble_eq_true rfl⟩) hP hD hS hA [0, 1, 2, 3, 4, 5, 6, 7] rfl rfl (by decide) (by decide) (by decide) rfl (fun H locs hP hD hS => ?_)
  refine lv_istore hx hb dM_sign_9 hl (by decide) rfl (fun ls hl => ?_)
  have hl : lv_has ls 5 [(4, .int (zm_bar y g1 g2 64 0)), (0, .ref bo), (1, .int g1), (2, .int g2), (3, .int g3)] := hl
  refine lv_iload hx hb dM_sign_11 (lv_at hl 0 rfl) ?_
  refine lv_if_ge (tgt := 22) hx hb dM_sign_13 (by decide) (fun h1 => ?_) (fun h1 => ?_)
  ·
    refine lv_aload_n hx hb dM_sign_22 rfl (lv_at hl 1 rfl) ?_
    refine va_get (D := D) (ci := 3) (v := .ref b5) (C := cnM) (T := ftM) (N := 10) hx hb hts inM hown hK hP 0 rfl rfl 7 (by decide) (hts _ mw296) (fun _ h9 => h9) rfl dM_sign_23 ?_
    refine lv_iload_n hx hb dM_sign_26 rfl (lv_at hl 3 rfl) ?_
    refine lv_iconst (v := 1) hx hb dM_sign_27 (by decide) ?_
    refine lv_isub hx hb dM_sign_28 ?_
    refine va_iald hx hb hK hP 5 0 rfl rfl (zm_bar_in hn (kge h1)) dM_sign_29 ?_
    refine lv_iload_n hx hb dM_sign_30 rfl (lv_at hl 4 rfl) ?_
    refine kcI (isR := [0, 1, 2, 3, 4, 5, 6, 7]) (isC := []) (wr := [(bo, .inr (3, [.ref b1, .int y.2.1, .ref b2, .ref b3, .int (nI y.2.2.2.2.1), .int y.2.2.2.2.2.1, .ref b4, .ref b5, .ref b6, .ref b7])), (b1, .inl (cI, 3, .inl y.1)), (b2, .inl (cI, 3, .inl y.2.2.1)), (b3, .inl (cI, 3, .inl y.2.2.2.1)), (b4, .inl (cZ, 512, .inl y.2.2.2.2.2.2.1)), (b5, .inl (cI, 512, .inl y.2.2.2.2.2.2.2.1)), (b6, .inl (cI, 512, .inl y.2.2.2.2.2.2.2.2.1)), (b7, .inl (cI, 512, .inl y.2.2.2.2.2.2.2.2.2))]) (w2 := [(bo, .inr (3, [.ref b1, .int y.2.1, .ref b2, .ref b3, .int (nI y.2.2.2.2.1), .int y.2.2.2.2.2.1, .ref b4, .ref b5, .ref b6, .ref b7])), (b1, .inl (cI, 3, .inl y.1)), (b2, .inl (cI, 3, .inl y.2.2.1)), (b3, .inl (cI, 3, .inl y.2.2.2.1)), (b4, .inl (cZ, 512, .inl y.2.2.2.2.2.2.1)), (b5, .inl (cI, 512, .inl y.2.2.2.2.2.2.2.1)), (b6, .inl (cI, 512, .inl y.2.2.2.2.2.2.2.2.1)), (b7, .inl (cI, 512, .inl y.2.2.2.2.2.2.2.2.2))]) (va_runS (As := [.int (y.2.2.2.2.2.2.2.1 (Int32.toNatClampNeg (g2 - 1))), .int g3]) (rest := []) ⟨hx, hb, hml, hown, hts⟩ (km_mac l D cI cZ (y.2.2.2.2.2.2.2.1 (Int32.toNatClampNeg (g2 - 1))) g3 _) ⟨(callB_of 2 hts gd_yM_mac rfl rfl rfl (hts _ mw27) (hts _ mw376) (by decide +kernel) ⟨Nat.le_of_ble_eq_true rfl, Nat.le_of_ble_eq_true rfl⟩), hts _ mw377⟩ (kpreS hNw hP hD hK [] rfl (by decide)) rfl rfl hl.1 rfl (lv_room (Nat.le_of_ble_eq_true rfl)) dM_sign_31 ⟨Nat.le_of_ble_eq_true rfl, Nat.le_of_ble_eq_true rfl⟩) hP hD hS hA [0, 1, 2, 3, 4, 5, 6, 7] rfl rfl (by decide) (by decide) (by decide) rfl (fun H locs hP hD hS => ?_)
    refine kcL (isR := [0, 1, 2, 3, 4, 5, 6, 7]) (isC := []) (wr := [(bo, .inr (3, [.ref b1, .int y.2.1, .ref b2, .ref b3, .int (nI y.2.2.2.2.1), .int y.2.2.2.2.2.1, .ref b4, .ref b5, .ref b6, .ref b7])), (b1, .inl (cI, 3, .inl y.1)), (b2, .inl (cI, 3, .inl y.2.2.1)), (b3, .inl (cI, 3, .inl y.2.2.2.1)), (b4, .inl (cZ, 512, .inl y.2.2.2.2.2.2.1)), (b5, .inl (cI, 512, .inl y.2.2.2.2.2.2.2.1)), (b6, .inl (cI, 512, .inl y.2.2.2.2.2.2.2.2.1)), (b7, .inl (cI, 512, .inl y.2.2.2.2.2.2.2.2.2))]) (w2 := [(bo, .inr (3, [.ref b1, .int y.2.1, .ref b2, .ref b3, .int (nI y.2.2.2.2.1), .int y.2.2.2.2.2.1, .ref b4, .ref b5, .ref b6, .ref b7])), (b1, .inl (cI, 3, .inl y.1)), (b2, .inl (cI, 3, .inl y.2.2.1)), (b3, .inl (cI, 3, .inl y.2.2.2.1)), (b4, .inl (cZ, 512, .inl y.2.2.2.2.2.2.1)), (b5, .inl (cI, 512, .inl y.2.2.2.2.2.2.2.1)), (b6, .inl (cI, 512, .inl y.2.2.2.2.2.2.2.2.1)), (b7, .inl (cI, 512, .inl y.2.2.2.2.2.2.2.2.2))]) (va_runS (As := [.int (zm_mac (y.2.2.2.2.2.2.2.1 (Int32.toNatClampNeg (g2 - 1))) g3)]) (rest := []) ⟨hx, hb, hml, hown, hts⟩ (km_answer l D cI cZ (zm_mac (y.2.2.2.2.2.2.2.1 (Int32.toNatClampNeg (g2 - 1))) g3) _) ⟨(callB_of 1 hts gd_yM_answer rfl rfl rfl (hts _ mw27) (hts _ mw412) (by decide +kernel) ⟨Nat.le_of_ble_eq_true rfl, Nat.le_of_ble_eq_true rfl⟩), hts _ mw413⟩ (kpreS hNw hP hD hK [] rfl (by decide)) rfl rfl hl.1 rfl (lv_room (Nat.le_of_ble_eq_true rfl)) dM_sign_34 ⟨Nat.le_of_ble_eq_true rfl, Nat.le_of_ble_eq_true rfl⟩) hP hD hS hA [0, 1, 2, 3, 4, 5, 6, 7] rfl rfl (by decide) (by decide) (by decide) rfl (fun H locs hP hD hS => ?_)
    exact kretL (by first | (rw [zm_sign, if_pos h1]; done) | exact (if_pos h1)) hx hb hr hlk hS hP hD hK dM_sign_37
  ·
    refine lv_iload hx hb dM_sign_16 (lv_at hl 0 rfl) ?_
    refine lv_i2l (v := (Int32.toInt64 (zm_bar y g1 g2 64 0))) hx hb dM_sign_18 rfl ?_
    refine lv_goto hx hb dM_sign_19 (tgt := 37) (by decide) ?_
    exact kretL (by first | (rw [zm_sign, if_neg h1]; done) | exact (if_neg h1)) hx hb hr hlk hS hP hD hK dM_sign_37

def zm_wrap (y : YS) (g1 : Int32) (g2 : Int32) (g3 : Int32) : Int64 := (if (zm_closed y g1) = 0 then (if (zm_hidden y g2) = 0 then (if (zm_hidden y g3) = 0 then (if (zm_has (y.2.2.2.2.2.2.2.2.2 (Int32.toNatClampNeg (g2 - 1))) 128) = 0 then (-5) else (if (zm_has (y.2.2.2.2.2.2.2.2.2 (Int32.toNatClampNeg (g2 - 1))) 512) = 0 then (-5) else (if (zm_has (y.2.2.2.2.2.2.2.2.2 (Int32.toNatClampNeg (g3 - 1))) 8) = 0 then (-5) else (((Int32.toInt64 ((zm_mac (y.2.2.2.2.2.2.2.1 (Int32.toNatClampNeg (g2 - 1))) (y.2.2.2.2.2.2.2.1 (Int32.toNatClampNeg (g3 - 1)))) &&& 2147483647)) * 4294967296) + (zm_answer (zm_rounds (y.2.2.2.2.2.2.2.1 (Int32.toNatClampNeg (g2 - 1))) (y.2.2.2.2.2.2.2.1 (Int32.toNatClampNeg (g3 - 1))) 1)))))) else (-2)) else (-2)) else (-1))

set_option maxHeartbeats 4000000 in
set_option maxRecDepth 100000 in
theorem km_wrap (l : Launch) (D : va_G) (cI cZ : ClassId) (bo b1 b2 b3 b4 b5 b6 b7 : Nat) (y : YS) (g1 : Int32) (g2 : Int32) (g3 : Int32) (hn : y.2.2.2.2.1 ≤ 512) : kL l yM_wrap wsM_wrap (rmOf 3 63) D (kT cI cZ) [.ref bo, .int g1, .int g2, .int g3] (wY cI cZ bo b1 b2 b3 b4 b5 b6 b7 y) (zm_wrap y g1 g2 g3) (wY cI cZ bo b1 b2 b3 b4 b5 b6 b7 y) := by
  intro sz
  refine kOf (Qc := fun A => kQl D (kT cI cZ) A (zm_wrap y g1 g2 g3) (wY cI cZ bo b1 b2 b3 b4 b5 b6 b7 y)) (cc := cM_wrap) (maxL := 8) (ret := some .long) (by decide) rfl (Nat.le_of_ble_eq_true rfl) ?_ sz
  intro p e s m args below meth c A ls hx hb hml hown hts hNw hr hlk hin hA hS hP hD hK hl
  show W p l e (rmOf 3 63) s m args below meth c s.heap [] 0 0 (MQ below (kQl D (kT cI cZ) A (zm_wrap y g1 g2 g3) (wY cI cZ bo b1 b2 b3 b4 b5 b6 b7 y)) args s 0 0 A) (F0 m 0 ls [])
  have hts : ∀ q ∈ lw_g, q.before args s = true := fun q h => hts q (List.mem_cons_of_mem _ h)
  have hown : s.vm.findClass cnM = some m.cls := hown
  have hl : lv_has ls 8 [(0, .ref bo), (1, .int g1), (2, .int g2), (3, .int g3)] := hl
  have hP : va_P D vwCl [(bo, .inr (3, [.ref b1, .int y.2.1, .ref b2, .ref b3, .int (nI y.2.2.2.2.1), .int y.2.2.2.2.2.1, .ref b4, .ref b5, .ref b6, .ref b7])), (b1, .inl (cI, 3, .inl y.1)), (b2, .inl (cI, 3, .inl y.2.2.1)), (b3, .inl (cI, 3, .inl y.2.2.2.1)), (b4, .inl (cZ, 512, .inl y.2.2.2.2.2.2.1)), (b5, .inl (cI, 512, .inl y.2.2.2.2.2.2.2.1)), (b6, .inl (cI, 512, .inl y.2.2.2.2.2.2.2.2.1)), (b7, .inl (cI, 512, .inl y.2.2.2.2.2.2.2.2.2))] s.heap := hP
  have hD : va_D A [(bo, .inr (3, [.ref b1, .int y.2.1, .ref b2, .ref b3, .int (nI y.2.2.2.2.1), .int y.2.2.2.2.2.1, .ref b4, .ref b5, .ref b6, .ref b7])), (b1, .inl (cI, 3, .inl y.1)), (b2, .inl (cI, 3, .inl y.2.2.1)), (b3, .inl (cI, 3, .inl y.2.2.2.1)), (b4, .inl (cZ, 512, .inl y.2.2.2.2.2.2.1)), (b5, .inl (cI, 512, .inl y.2.2.2.2.2.2.2.1)), (b6, .inl (cI, 512, .inl y.2.2.2.2.2.2.2.2.1)), (b7, .inl (cI, 512, .inl y.2.2.2.2.2.2.2.2.2))] := hD
  refine lv_aload_n hx hb dM_wrap_0 rfl (lv_at hl 0 rfl) ?_
  refine lv_iload_n hx hb dM_wrap_1 rfl (lv_at hl 1 rfl) ?_
  refine kcI (isR := []) (isC := [0, 1, 2, 3, 4, 5, 6, 7]) (wr := []) (w2 := [(bo, .inr (3, [.ref b1, .int y.2.1, .ref b2, .ref b3, .int (nI y.2.2.2.2.1), .int y.2.2.2.2.2.1, .ref b4, .ref b5, .ref b6, .ref b7])), (b1, .inl (cI, 3, .inl y.1)), (b2, .inl (cI, 3, .inl y.2.2.1)), (b3, .inl (cI, 3, .inl y.2.2.2.1)), (b4, .inl (cZ, 512, .inl y.2.2.2.2.2.2.1)), (b5, .inl (cI, 512, .inl y.2.2.2.2.2.2.2.1)), (b6, .inl (cI, 512, .inl y.2.2.2.2.2.2.2.2.1)), (b7, .inl (cI, 512, .inl y.2.2.2.2.2.2.2.2.2))]) (va_runV (As := [.int g1]) (rest := []) ⟨hx, hb, hml, hown, hts⟩ (km_closed l D cI cZ bo b1 b2 b3 b4 b5 b6 b7 y g1 _) ⟨(callB_of 1 hts gd_yM_closed rfl rfl rfl (hts _ mw27) (hts _ mw329) (by decide +kernel) ⟨Nat.le_of_ble_eq_true rfl, Nat.le_of_ble_eq_true rfl⟩), hts _ mw331, hts _ mw15⟩ (kpreV hNw hP hD hK [0, 1, 2, 3, 4, 5, 6, 7] rfl (by decide) 0 rfl (ci := 3) rfl) rfl rfl hl.1 rfl (lv_room (Nat.le_of_ble_eq_true rfl)) dM_wrap_2 ⟨Nat.le_of_ble_eq_true rfl, Nat.le_of_ble_eq_true rfl⟩) hP hD hS hA [0, 1, 2, 3, 4, 5, 6, 7] rfl rfl (by decide) (by decide) (by decide) rfl (fun H locs hP hD hS => ?_)
  refine lv_if_eq (tgt := 12) hx hb dM_wrap_5 (by decide) (fun h1 => ?_) (fun h1 => ?_)
  ·
    refine lv_aload_n hx hb dM_wrap_12 rfl (lv_at hl 0 rfl) ?_
    refine lv_iload_n hx hb dM_wrap_13 rfl (lv_at hl 2 rfl) ?_
    refine kcI (isR := []) (isC := [0, 1, 2, 3, 4, 5, 6, 7]) (wr := []) (w2 := [(bo, .inr (3, [.ref b1, .int y.2.1, .ref b2, .ref b3, .int (nI y.2.2.2.2.1), .int y.2.2.2.2.2.1, .ref b4, .ref b5, .ref b6, .ref b7])), (b1, .inl (cI, 3, .inl y.1)), (b2, .inl (cI, 3, .inl y.2.2.1)), (b3, .inl (cI, 3, .inl y.2.2.2.1)), (b4, .inl (cZ, 512, .inl y.2.2.2.2.2.2.1)), (b5, .inl (cI, 512, .inl y.2.2.2.2.2.2.2.1)), (b6, .inl (cI, 512, .inl y.2.2.2.2.2.2.2.2.1)), (b7, .inl (cI, 512, .inl y.2.2.2.2.2.2.2.2.2))]) (va_runV (As := [.int g2]) (rest := []) ⟨hx, hb, hml, hown, hts⟩ (km_hidden l D cI cZ bo b1 b2 b3 b4 b5 b6 b7 y g2 (hn) _) ⟨(callB_of 1 hts gd_yM_hidden rfl rfl rfl (hts _ mw27) (hts _ mw384) (by decide +kernel) ⟨Nat.le_of_ble_eq_true rfl, Nat.le_of_ble_eq_true rfl⟩), hts _ mw386, hts _ mw20⟩ (kpreV hNw hP hD hK [0, 1, 2, 3, 4, 5, 6, 7] rfl (by decide) 0 rfl (ci := 3) rfl) rfl rfl hl.1 rfl (lv_room (Nat.le_of_ble_eq_true rfl)) dM_wrap_14 ⟨Nat.le_of_ble_eq_true rfl, Nat.le_of_ble_eq_true rfl⟩) hP hD hS hA [0, 1, 2, 3, 4, 5, 6, 7] rfl rfl (by decide) (by decide) (by decide) rfl (fun H locs hP hD hS => ?_)
    refine lv_if_ne (tgt := 28) hx hb dM_wrap_17 (by decide) (fun h2 => ?_) (fun h2 => ?_)
    ·
      refine lv_ldc2 (v := (-2)) hx hb hown (hts _ mw442) dM_wrap_28 ?_
      exact kretL (by first | (rw [zm_wrap, if_pos h1, if_neg h2]; done) | exact ((if_pos h1).trans (if_neg h2))) hx hb hr hlk hS hP hD hK dM_wrap_31
    ·
      refine lv_aload_n hx hb dM_wrap_20 rfl (lv_at hl 0 rfl) ?_
      refine lv_iload_n hx hb dM_wrap_21 rfl (lv_at hl 3 rfl) ?_
      refine kcI (isR := []) (isC := [0, 1, 2, 3, 4, 5, 6, 7]) (wr := []) (w2 := [(bo, .inr (3, [.ref b1, .int y.2.1, .ref b2, .ref b3, .int (nI y.2.2.2.2.1), .int y.2.2.2.2.2.1, .ref b4, .ref b5, .ref b6, .ref b7])), (b1, .inl (cI, 3, .inl y.1)), (b2, .inl (cI, 3, .inl y.2.2.1)), (b3, .inl (cI, 3, .inl y.2.2.2.1)), (b4, .inl (cZ, 512, .inl y.2.2.2.2.2.2.1)), (b5, .inl (cI, 512, .inl y.2.2.2.2.2.2.2.1)), (b6, .inl (cI, 512, .inl y.2.2.2.2.2.2.2.2.1)), (b7, .inl (cI, 512, .inl y.2.2.2.2.2.2.2.2.2))]) (va_runV (As := [.int g3]) (rest := []) ⟨hx, hb, hml, hown, hts⟩ (km_hidden l D cI cZ bo b1 b2 b3 b4 b5 b6 b7 y g3 (hn) _) ⟨(callB_of 1 hts gd_yM_hidden rfl rfl rfl (hts _ mw27) (hts _ mw384) (by decide +kernel) ⟨Nat.le_of_ble_eq_true rfl, Nat.le_of_ble_eq_true rfl⟩), hts _ mw386, hts _ mw20⟩ (kpreV hNw hP hD hK [0, 1, 2, 3, 4, 5, 6, 7] rfl (by decide) 0 rfl (ci := 3) rfl) rfl rfl hl.1 rfl (lv_room (Nat.le_of_ble_eq_true rfl)) dM_wrap_22 ⟨Nat.le_of_ble_eq_true rfl, Nat.le_of_ble_eq_true rfl⟩) hP hD hS hA [0, 1, 2, 3, 4, 5, 6, 7] rfl rfl (by decide) (by decide) (by decide) rfl (fun H locs hP hD hS => ?_)
      refine lv_if_eq (tgt := 32) hx hb dM_wrap_25 (by decide) (fun h3 => ?_) (fun h3 => ?_)
      ·
        refine lv_aload_n hx hb dM_wrap_32 rfl (lv_at hl 0 rfl) ?_
        refine va_get (D := D) (ci := 3) (v := .ref b7) (C := cnM) (T := ftM) (N := 10) hx hb hts inM hown hK hP 0 rfl rfl 9 (by decide) (hts _ mw298) (fun _ h9 => h9) rfl dM_wrap_33 ?_
        refine lv_iload_n hx hb dM_wrap_36 rfl (lv_at hl 2 rfl) ?_
        refine lv_iconst (v := 1) hx hb dM_wrap_37 (by decide) ?_
        refine lv_isub hx hb dM_wrap_38 ?_
        refine va_iald hx hb hK hP 7 0 rfl rfl (zm_hidden_in hn h2) dM_wrap_39 ?_
        refine lv_sipush (v := 128) hx hb dM_wrap_40 (by decide) ?_
        refine kcI (isR := [0, 1, 2, 3, 4, 5, 6, 7]) (isC := []) (wr := [(bo, .inr (3, [.ref b1, .int y.2.1, .ref b2, .ref b3, .int (nI y.2.2.2.2.1), .int y.2.2.2.2.2.1, .ref b4, .ref b5, .ref b6, .ref b7])), (b1, .inl (cI, 3, .inl y.1)), (b2, .inl (cI, 3, .inl y.2.2.1)), (b3, .inl (cI, 3, .inl y.2.2.2.1)), (b4, .inl (cZ, 512, .inl y.2.2.2.2.2.2.1)), (b5, .inl (cI, 512, .inl y.2.2.2.2.2.2.2.1)), (b6, .inl (cI, 512, .inl y.2.2.2.2.2.2.2.2.1)), (b7, .inl (cI, 512, .inl y.2.2.2.2.2.2.2.2.2))]) (w2 := [(bo, .inr (3, [.ref b1, .int y.2.1, .ref b2, .ref b3, .int (nI y.2.2.2.2.1), .int y.2.2.2.2.2.1, .ref b4, .ref b5, .ref b6, .ref b7])), (b1, .inl (cI, 3, .inl y.1)), (b2, .inl (cI, 3, .inl y.2.2.1)), (b3, .inl (cI, 3, .inl y.2.2.2.1)), (b4, .inl (cZ, 512, .inl y.2.2.2.2.2.2.1)), (b5, .inl (cI, 512, .inl y.2.2.2.2.2.2.2.1)), (b6, .inl (cI, 512, .inl y.2.2.2.2.2.2.2.2.1)), (b7, .inl (cI, 512, .inl y.2.2.2.2.2.2.2.2.2))]) (va_runS (As := [.int (y.2.2.2.2.2.2.2.2.2 (Int32.toNatClampNeg (g2 - 1))), .int 128]) (rest := []) ⟨hx, hb, hml, hown, hts⟩ (km_has l D cI cZ (y.2.2.2.2.2.2.2.2.2 (Int32.toNatClampNeg (g2 - 1))) 128 _) ⟨(callB_of 2 hts gd_yM_has rfl rfl rfl (hts _ mw27) (hts _ mw333) (by decide +kernel) ⟨Nat.le_of_ble_eq_true rfl, Nat.le_of_ble_eq_true rfl⟩), hts _ mw334⟩ (kpreS hNw hP hD hK [] rfl (by decide)) rfl rfl hl.1 rfl (lv_room (Nat.le_of_ble_eq_true rfl)) dM_wrap_43 ⟨Nat.le_of_ble_eq_true rfl, Nat.le_of_ble_eq_true rfl⟩) hP hD hS hA [0, 1, 2, 3, 4, 5, 6, 7] rfl rfl (by decide) (by decide) (by decide) rfl (fun H locs hP hD hS => ?_)
        refine lv_if_eq (tgt := 82) hx hb dM_wrap_46 (by decide) (fun h4 => ?_) (fun h4 => ?_)
        ·
          refine lv_ldc2 (v := (-5)) hx hb hown (hts _ mw443) dM_wrap_82 ?_
          exact kretL (by first | (rw [zm_wrap, if_pos h1, if_pos h2, if_pos h3, if_pos h4]; done) | exact ((if_pos h1).trans ((if_pos h2).trans ((if_pos h3).trans (if_pos h4))))) hx hb hr hlk hS hP hD hK dM_wrap_85
        ·
          refine lv_aload_n hx hb dM_wrap_49 rfl (lv_at hl 0 rfl) ?_
          refine va_get (D := D) (ci := 3) (v := .ref b7) (C := cnM) (T := ftM) (N := 10) hx hb hts inM hown hK hP 0 rfl rfl 9 (by decide) (hts _ mw298) (fun _ h9 => h9) rfl dM_wrap_50 ?_
          refine lv_iload_n hx hb dM_wrap_53 rfl (lv_at hl 2 rfl) ?_
          refine lv_iconst (v := 1) hx hb dM_wrap_54 (by decide) ?_
          refine lv_isub hx hb dM_wrap_55 ?_
          refine va_iald hx hb hK hP 7 0 rfl rfl (zm_hidden_in hn h2) dM_wrap_56 ?_
          refine lv_sipush (v := 512) hx hb dM_wrap_57 (by decide) ?_
          refine kcI (isR := [0, 1, 2, 3, 4, 5, 6, 7]) (isC := []) (wr := [(bo, .inr (3, [.ref b1, .int y.2.1, .ref b2, .ref b3, .int (nI y.2.2.2.2.1), .int y.2.2.2.2.2.1, .ref b4, .ref b5, .ref b6, .ref b7])), (b1, .inl (cI, 3, .inl y.1)), (b2, .inl (cI, 3, .inl y.2.2.1)), (b3, .inl (cI, 3, .inl y.2.2.2.1)), (b4, .inl (cZ, 512, .inl y.2.2.2.2.2.2.1)), (b5, .inl (cI, 512, .inl y.2.2.2.2.2.2.2.1)), (b6, .inl (cI, 512, .inl y.2.2.2.2.2.2.2.2.1)), (b7, .inl (cI, 512, .inl y.2.2.2.2.2.2.2.2.2))]) (w2 := [(bo, .inr (3, [.ref b1, .int y.2.1, .ref b2, .ref b3, .int (nI y.2.2.2.2.1), .int y.2.2.2.2.2.1, .ref b4, .ref b5, .ref b6, .ref b7])), (b1, .inl (cI, 3, .inl y.1)), (b2, .inl (cI, 3, .inl y.2.2.1)), (b3, .inl (cI, 3, .inl y.2.2.2.1)), (b4, .inl (cZ, 512, .inl y.2.2.2.2.2.2.1)), (b5, .inl (cI, 512, .inl y.2.2.2.2.2.2.2.1)), (b6, .inl (cI, 512, .inl y.2.2.2.2.2.2.2.2.1)), (b7, .inl (cI, 512, .inl y.2.2.2.2.2.2.2.2.2))]) (va_runS (As := [.int (y.2.2.2.2.2.2.2.2.2 (Int32.toNatClampNeg (g2 - 1))), .int 512]) (rest := []) ⟨hx, hb, hml, hown, hts⟩ (km_has l D cI cZ (y.2.2.2.2.2.2.2.2.2 (Int32.toNatClampNeg (g2 - 1))) 512 _) ⟨(callB_of 2 hts gd_yM_has rfl rfl rfl (hts _ mw27) (hts _ mw333) (by decide +kernel) ⟨Nat.le_of_ble_eq_true rfl, Nat.le_of_ble_eq_true rfl⟩), hts _ mw334⟩ (kpreS hNw hP hD hK [] rfl (by decide)) rfl rfl hl.1 rfl (lv_room (Nat.le_of_ble_eq_true rfl)) dM_wrap_60 ⟨Nat.le_of_ble_eq_true rfl, Nat.le_of_ble_eq_true rfl⟩) hP hD hS hA [0, 1, 2, 3, 4, 5, 6, 7] rfl rfl (by decide) (by decide) (by decide) rfl (fun H locs hP hD hS => ?_)
          refine lv_if_eq (tgt := 82) hx hb dM_wrap_63 (by decide) (fun h5 => ?_) (fun h5 => ?_)
          ·
            refine lv_ldc2 (v := (-5)) hx hb hown (hts _ mw443) dM_wrap_82 ?_
            exact kretL (by first | (rw [zm_wrap, if_pos h1, if_pos h2, if_pos h3, if_neg h4, if_pos h5]; done) | exact ((if_pos h1).trans ((if_pos h2).trans ((if_pos h3).trans ((if_neg h4).trans (if_pos h5)))))) hx hb hr hlk hS hP hD hK dM_wrap_85
          ·
            refine lv_aload_n hx hb dM_wrap_66 rfl (lv_at hl 0 rfl) ?_
            refine va_get (D := D) (ci := 3) (v := .ref b7) (C := cnM) (T := ftM) (N := 10) hx hb hts inM hown hK hP 0 rfl rfl 9 (by decide) (hts _ mw298) (fun _ h9 => h9) rfl dM_wrap_67 ?_
            refine lv_iload_n hx hb dM_wrap_70 rfl (lv_at hl 3 rfl) ?_
            refine lv_iconst (v := 1) hx hb dM_wrap_71 (by decide) ?_
            refine lv_isub hx hb dM_wrap_72 ?_
            refine va_iald hx hb hK hP 7 0 rfl rfl (zm_hidden_in hn h3) dM_wrap_73 ?_
            refine lv_bipush (v := 8) hx hb dM_wrap_74 (by decide) ?_
            refine kcI (isR := [0, 1, 2, 3, 4, 5, 6, 7]) (isC := []) (wr := [(bo, .inr (3, [.ref b1, .int y.2.1, .ref b2, .ref b3, .int (nI y.2.2.2.2.1), .int y.2.2.2.2.2.1, .ref b4, .ref b5, .ref b6, .ref b7])), (b1, .inl (cI, 3, .inl y.1)), (b2, .inl (cI, 3, .inl y.2.2.1)), (b3, .inl (cI, 3, .inl y.2.2.2.1)), (b4, .inl (cZ, 512, .inl y.2.2.2.2.2.2.1)), (b5, .inl (cI, 512, .inl y.2.2.2.2.2.2.2.1)), (b6, .inl (cI, 512, .inl y.2.2.2.2.2.2.2.2.1)), (b7, .inl (cI, 512, .inl y.2.2.2.2.2.2.2.2.2))]) (w2 := [(bo, .inr (3, [.ref b1, .int y.2.1, .ref b2, .ref b3, .int (nI y.2.2.2.2.1), .int y.2.2.2.2.2.1, .ref b4, .ref b5, .ref b6, .ref b7])), (b1, .inl (cI, 3, .inl y.1)), (b2, .inl (cI, 3, .inl y.2.2.1)), (b3, .inl (cI, 3, .inl y.2.2.2.1)), (b4, .inl (cZ, 512, .inl y.2.2.2.2.2.2.1)), (b5, .inl (cI, 512, .inl y.2.2.2.2.2.2.2.1)), (b6, .inl (cI, 512, .inl y.2.2.2.2.2.2.2.2.1)), (b7, .inl (cI, 512, .inl y.2.2.2.2.2.2.2.2.2))]) (va_runS (As := [.int (y.2.2.2.2.2.2.2.2.2 (Int32.toNatClampNeg (g3 - 1))), .int 8]) (rest := []) ⟨hx, hb, hml, hown, hts⟩ (km_has l D cI cZ (y.2.2.2.2.2.2.2.2.2 (Int32.toNatClampNeg (g3 - 1))) 8 _) ⟨(callB_of 2 hts gd_yM_has rfl rfl rfl (hts _ mw27) (hts _ mw333) (by decide +kernel) ⟨Nat.le_of_ble_eq_true rfl, Nat.le_of_ble_eq_true rfl⟩), hts _ mw334⟩ (kpreS hNw hP hD hK [] rfl (by decide)) rfl rfl hl.1 rfl (lv_room (Nat.le_of_ble_eq_true rfl)) dM_wrap_76 ⟨Nat.le_of_ble_eq_true rfl, Nat.le_of_ble_eq_true rfl⟩) hP hD hS hA [0, 1, 2, 3, 4, 5, 6, 7] rfl rfl (by decide) (by decide) (by decide) rfl (fun H locs hP hD hS => ?_)
            refine lv_if_ne (tgt := 86) hx hb dM_wrap_79 (by decide) (fun h6 => ?_) (fun h6 => ?_)
            ·
              refine lv_aload_n hx hb dM_wrap_86 rfl (lv_at hl 0 rfl) ?_
              refine va_get (D := D) (ci := 3) (v := .ref b5) (C := cnM) (T := ftM) (N := 10) hx hb hts inM hown hK hP 0 rfl rfl 7 (by decide) (hts _ mw296) (fun _ h9 => h9) rfl dM_wrap_87 ?_
              refine lv_iload_n hx hb dM_wrap_90 rfl (lv_at hl 2 rfl) ?_
              refine lv_iconst (v := 1) hx hb dM_wrap_91 (by decide) ?_
              refine lv_isub hx hb dM_wrap_92 ?_
              refine va_iald hx hb hK hP 5 0 rfl rfl (zm_hidden_in hn h2) dM_wrap_93 ?_
              refine lv_istore hx hb dM_wrap_94 hl (by decide) rfl (fun ls hl => ?_)
              have hl : lv_has ls 8 [(4, .int (y.2.2.2.2.2.2.2.1 (Int32.toNatClampNeg (g2 - 1)))), (0, .ref bo), (1, .int g1), (2, .int g2), (3, .int g3)] := hl
              refine lv_aload_n hx hb dM_wrap_96 rfl (lv_at hl 1 rfl) ?_
              refine va_get (D := D) (ci := 3) (v := .ref b5) (C := cnM) (T := ftM) (N := 10) hx hb hts inM hown hK hP 0 rfl rfl 7 (by decide) (hts _ mw296) (fun _ h9 => h9) rfl dM_wrap_97 ?_
              refine lv_iload_n hx hb dM_wrap_100 rfl (lv_at hl 4 rfl) ?_
              refine lv_iconst (v := 1) hx hb dM_wrap_101 (by decide) ?_
              refine lv_isub hx hb dM_wrap_102 ?_
              refine va_iald hx hb hK hP 5 0 rfl rfl (zm_hidden_in hn h3) dM_wrap_103 ?_
              refine lv_istore hx hb dM_wrap_104 hl (by decide) rfl (fun ls hl => ?_)
              have hl : lv_has ls 8 [(5, .int (y.2.2.2.2.2.2.2.1 (Int32.toNatClampNeg (g3 - 1)))), (4, .int (y.2.2.2.2.2.2.2.1 (Int32.toNatClampNeg (g2 - 1)))), (0, .ref bo), (1, .int g1), (2, .int g2), (3, .int g3)] := hl
              refine lv_iload hx hb dM_wrap_106 (lv_at hl 1 rfl) ?_
              refine lv_iload hx hb dM_wrap_108 (lv_at hl 0 rfl) ?_
              refine kcI (isR := [0, 1, 2, 3, 4, 5, 6, 7]) (isC := []) (wr := [(bo, .inr (3, [.ref b1, .int y.2.1, .ref b2, .ref b3, .int (nI y.2.2.2.2.1), .int y.2.2.2.2.2.1, .ref b4, .ref b5, .ref b6, .ref b7])), (b1, .inl (cI, 3, .inl y.1)), (b2, .inl (cI, 3, .inl y.2.2.1)), (b3, .inl (cI, 3, .inl y.2.2.2.1)), (b4, .inl (cZ, 512, .inl y.2.2.2.2.2.2.1)), (b5, .inl (cI, 512, .inl y.2.2.2.2.2.2.2.1)), (b6, .inl (cI, 512, .inl y.2.2.2.2.2.2.2.2.1)), (b7, .inl (cI, 512, .inl y.2.2.2.2.2.2.2.2.2))]) (w2 := [(bo, .inr (3, [.ref b1, .int y.2.1, .ref b2, .ref b3, .int (nI y.2.2.2.2.1), .int y.2.2.2.2.2.1, .ref b4, .ref b5, .ref b6, .ref b7])), (b1, .inl (cI, 3, .inl y.1)), (b2, .inl (cI, 3, .inl y.2.2.1)), (b3, .inl (cI, 3, .inl y.2.2.2.1)), (b4, .inl (cZ, 512, .inl y.2.2.2.2.2.2.1)), (b5, .inl (cI, 512, .inl y.2.2.2.2.2.2.2.1)), (b6, .inl (cI, 512, .inl y.2.2.2.2.2.2.2.2.1)), (b7, .inl (cI, 512, .inl y.2.2.2.2.2.2.2.2.2))]) (va_runS (As := [.int (y.2.2.2.2.2.2.2.1 (Int32.toNatClampNeg (g2 - 1))), .int (y.2.2.2.2.2.2.2.1 (Int32.toNatClampNeg (g3 - 1)))]) (rest := []) ⟨hx, hb, hml, hown, hts⟩ (km_mac l D cI cZ (y.2.2.2.2.2.2.2.1 (Int32.toNatClampNeg (g2 - 1))) (y.2.2.2.2.2.2.2.1 (Int32.toNatClampNeg (g3 - 1))) _) ⟨(callB_of 2 hts gd_yM_mac rfl rfl rfl (hts _ mw27) (hts _ mw376) (by decide +kernel) ⟨Nat.le_of_ble_eq_true rfl, Nat.le_of_ble_eq_true rfl⟩), hts _ mw377⟩ (kpreS hNw hP hD hK [] rfl (by decide)) rfl rfl hl.1 rfl (lv_room (Nat.le_of_ble_eq_true rfl)) dM_wrap_110 ⟨Nat.le_of_ble_eq_true rfl, Nat.le_of_ble_eq_true rfl⟩) hP hD hS hA [0, 1, 2, 3, 4, 5, 6, 7] rfl rfl (by decide) (by decide) (by decide) rfl (fun H locs hP hD hS => ?_)
              refine lv_ldc (v := 2147483647) hx hb hown (hts _ mw444) dM_wrap_113 ?_
              refine lv_iand hx hb dM_wrap_115 ?_
              refine lv_i2l (v := (Int32.toInt64 ((zm_mac (y.2.2.2.2.2.2.2.1 (Int32.toNatClampNeg (g2 - 1))) (y.2.2.2.2.2.2.2.1 (Int32.toNatClampNeg (g3 - 1)))) &&& 2147483647))) hx hb dM_wrap_116 rfl ?_
              refine lv_lstore hx hb dM_wrap_117 hl (by decide) rfl (fun ls hl => ?_)
              have hl : lv_has ls 8 [(6, .long (Int32.toInt64 ((zm_mac (y.2.2.2.2.2.2.2.1 (Int32.toNatClampNeg (g2 - 1))) (y.2.2.2.2.2.2.2.1 (Int32.toNatClampNeg (g3 - 1)))) &&& 2147483647))), (5, .int (y.2.2.2.2.2.2.2.1 (Int32.toNatClampNeg (g3 - 1)))), (4, .int (y.2.2.2.2.2.2.2.1 (Int32.toNatClampNeg (g2 - 1)))), (0, .ref bo), (1, .int g1), (2, .int g2), (3, .int g3)] := hl
              refine lv_lload hx hb dM_wrap_119 (lv_at hl 0 rfl) ?_
              refine lv_ldc2 (v := 4294967296) hx hb hown (hts _ mw415) dM_wrap_121 ?_
              refine lv_lmul hx hb dM_wrap_124 ?_
              refine lv_iload hx hb dM_wrap_125 (lv_at hl 2 rfl) ?_
              refine lv_iload hx hb dM_wrap_127 (lv_at hl 1 rfl) ?_
              refine lv_iconst (v := 1) hx hb dM_wrap_129 (by decide) ?_
              refine kcI (isR := [0, 1, 2, 3, 4, 5, 6, 7]) (isC := []) (wr := [(bo, .inr (3, [.ref b1, .int y.2.1, .ref b2, .ref b3, .int (nI y.2.2.2.2.1), .int y.2.2.2.2.2.1, .ref b4, .ref b5, .ref b6, .ref b7])), (b1, .inl (cI, 3, .inl y.1)), (b2, .inl (cI, 3, .inl y.2.2.1)), (b3, .inl (cI, 3, .inl y.2.2.2.1)), (b4, .inl (cZ, 512, .inl y.2.2.2.2.2.2.1)), (b5, .inl (cI, 512, .inl y.2.2.2.2.2.2.2.1)), (b6, .inl (cI, 512, .inl y.2.2.2.2.2.2.2.2.1)), (b7, .inl (cI, 512, .inl y.2.2.2.2.2.2.2.2.2))]) (w2 := [(bo, .inr (3, [.ref b1, .int y.2.1, .ref b2, .ref b3, .int (nI y.2.2.2.2.1), .int y.2.2.2.2.2.1, .ref b4, .ref b5, .ref b6, .ref b7])), (b1, .inl (cI, 3, .inl y.1)), (b2, .inl (cI, 3, .inl y.2.2.1)), (b3, .inl (cI, 3, .inl y.2.2.2.1)), (b4, .inl (cZ, 512, .inl y.2.2.2.2.2.2.1)), (b5, .inl (cI, 512, .inl y.2.2.2.2.2.2.2.1)), (b6, .inl (cI, 512, .inl y.2.2.2.2.2.2.2.2.1)), (b7, .inl (cI, 512, .inl y.2.2.2.2.2.2.2.2.2))]) (va_runS (As := [.int (y.2.2.2.2.2.2.2.1 (Int32.toNatClampNeg (g2 - 1))), .int (y.2.2.2.2.2.2.2.1 (Int32.toNatClampNeg (g3 - 1))), .int 1]) (rest := [.long ((Int32.toInt64 ((zm_mac (y.2.2.2.2.2.2.2.1 (Int32.toNatClampNeg (g2 - 1))) (y.2.2.2.2.2.2.2.1 (Int32.toNatClampNeg (g3 - 1)))) &&& 2147483647)) * 4294967296)]) ⟨hx, hb, hml, hown, hts⟩ (km_rounds l D cI cZ (y.2.2.2.2.2.2.2.1 (Int32.toNatClampNeg (g2 - 1))) (y.2.2.2.2.2.2.2.1 (Int32.toNatClampNeg (g3 - 1))) 1 _) ⟨(callB_of 3 hts gd_yM_rounds rfl rfl rfl (hts _ mw27) (hts _ mw420) (by decide +kernel) ⟨Nat.le_of_ble_eq_true rfl, Nat.le_of_ble_eq_true rfl⟩), hts _ mw421⟩ (kpreS hNw hP hD hK [] rfl (by decide)) rfl rfl hl.1 rfl (lv_room (Nat.le_of_ble_eq_true rfl)) dM_wrap_130 ⟨Nat.le_of_ble_eq_true rfl, Nat.le_of_ble_eq_true rfl⟩) hP hD hS hA [0, 1, 2, 3, 4, 5, 6, 7] rfl rfl (by decide) (by decide) (by decide) rfl (fun H locs hP hD hS => ?_)
              refine kcL (isR := [0, 1, 2, 3, 4, 5, 6, 7]) (isC := []) (wr := [(bo, .inr (3, [.ref b1, .int y.2.1, .ref b2, .ref b3, .int (nI y.2.2.2.2.1), .int y.2.2.2.2.2.1, .ref b4, .ref b5, .ref b6, .ref b7])), (b1, .inl (cI, 3, .inl y.1)), (b2, .inl (cI, 3, .inl y.2.2.1)), (b3, .inl (cI, 3, .inl y.2.2.2.1)), (b4, .inl (cZ, 512, .inl y.2.2.2.2.2.2.1)), (b5, .inl (cI, 512, .inl y.2.2.2.2.2.2.2.1)), (b6, .inl (cI, 512, .inl y.2.2.2.2.2.2.2.2.1)), (b7, .inl (cI, 512, .inl y.2.2.2.2.2.2.2.2.2))]) (w2 := [(bo, .inr (3, [.ref b1, .int y.2.1, .ref b2, .ref b3, .int (nI y.2.2.2.2.1), .int y.2.2.2.2.2.1, .ref b4, .ref b5, .ref b6, .ref b7])), (b1, .inl (cI, 3, .inl y.1)), (b2, .inl (cI, 3, .inl y.2.2.1)), (b3, .inl (cI, 3, .inl y.2.2.2.1)), (b4, .inl (cZ, 512, .inl y.2.2.2.2.2.2.1)), (b5, .inl (cI, 512, .inl y.2.2.2.2.2.2.2.1)), (b6, .inl (cI, 512, .inl y.2.2.2.2.2.2.2.2.1)), (b7, .inl (cI, 512, .inl y.2.2.2.2.2.2.2.2.2))]) (va_runS (As := [.int (zm_rounds (y.2.2.2.2.2.2.2.1 (Int32.toNatClampNeg (g2 - 1))) (y.2.2.2.2.2.2.2.1 (Int32.toNatClampNeg (g3 - 1))) 1)]) (rest := [.long ((Int32.toInt64 ((zm_mac (y.2.2.2.2.2.2.2.1 (Int32.toNatClampNeg (g2 - 1))) (y.2.2.2.2.2.2.2.1 (Int32.toNatClampNeg (g3 - 1)))) &&& 2147483647)) * 4294967296)]) ⟨hx, hb, hml, hown, hts⟩ (km_answer l D cI cZ (zm_rounds (y.2.2.2.2.2.2.2.1 (Int32.toNatClampNeg (g2 - 1))) (y.2.2.2.2.2.2.2.1 (Int32.toNatClampNeg (g3 - 1))) 1) _) ⟨(callB_of 1 hts gd_yM_answer rfl rfl rfl (hts _ mw27) (hts _ mw412) (by decide +kernel) ⟨Nat.le_of_ble_eq_true rfl, Nat.le_of_ble_eq_true rfl⟩), hts _ mw413⟩ (kpreS hNw hP hD hK [] rfl (by decide)) rfl rfl hl.1 rfl (lv_room (Nat.le_of_ble_eq_true rfl)) dM_wrap_133 ⟨Nat.le_of_ble_eq_true rfl, Nat.le_of_ble_eq_true rfl⟩) hP hD hS hA [0, 1, 2, 3, 4, 5, 6, 7] rfl rfl (by decide) (by decide) (by decide) rfl (fun H locs hP hD hS => ?_)
              refine lv_ladd hx hb dM_wrap_136 ?_
              exact kretL (by first | (rw [zm_wrap, if_pos h1, if_pos h2, if_pos h3, if_neg h4, if_neg h5, if_neg h6]; done) | exact ((if_pos h1).trans ((if_pos h2).trans ((if_pos h3).trans ((if_neg h4).trans ((if_neg h5).trans (if_neg h6))))))) hx hb hr hlk hS hP hD hK dM_wrap_137
            ·
              refine lv_ldc2 (v := (-5)) hx hb hown (hts _ mw443) dM_wrap_82 ?_
              exact kretL (by first | (rw [zm_wrap, if_pos h1, if_pos h2, if_pos h3, if_neg h4, if_neg h5, if_pos h6]; done) | exact ((if_pos h1).trans ((if_pos h2).trans ((if_pos h3).trans ((if_neg h4).trans ((if_neg h5).trans (if_pos h6))))))) hx hb hr hlk hS hP hD hK dM_wrap_85
      ·
        refine lv_ldc2 (v := (-2)) hx hb hown (hts _ mw442) dM_wrap_28 ?_
        exact kretL (by first | (rw [zm_wrap, if_pos h1, if_pos h2, if_neg h3]; done) | exact ((if_pos h1).trans ((if_pos h2).trans (if_neg h3)))) hx hb hr hlk hS hP hD hK dM_wrap_31
  ·
    refine lv_ldc2 (v := (-1)) hx hb hown (hts _ mw441) dM_wrap_8 ?_
    exact kretL (by first | (rw [zm_wrap, if_neg h1]; done) | exact (if_neg h1)) hx hb hr hlk hS hP hD hK dM_wrap_11

def zm_unwrap (y : YS) (g1 : Int32) (g2 : Int32) (g3 : Int64) (g4 : Int32) : Int32 × YS := (if (zm_closed y g1) = 0 then (if (zm_hidden y g2) = 0 then (if 0 ≤ (zm_obstacle y g1 g4 (if (zm_has g4 128) = 0 then (if (zm_has (y.2.2.2.2.2.2.2.2.2 (Int32.toNatClampNeg (g2 - 1))) 256) = 0 then (1 : Int32) else (0 : Int32)) else (1 : Int32))) then (if (lg_cmp (zlush g3 32) (Int32.toInt64 ((zm_mac (y.2.2.2.2.2.2.2.1 (Int32.toNatClampNeg (g2 - 1))) (zm_rounds (y.2.2.2.2.2.2.2.1 (Int32.toNatClampNeg (g2 - 1))) (Int64.toInt32 g3) 0)) &&& 2147483647))) = 0 then ((zm_enter y g1 g4 (zm_rounds (y.2.2.2.2.2.2.2.1 (Int32.toNatClampNeg (g2 - 1))) (Int64.toInt32 g3) 0)).1, (zm_enter y g1 g4 (zm_rounds (y.2.2.2.2.2.2.2.1 (Int32.toNatClampNeg (g2 - 1))) (Int64.toInt32 g3) 0)).2) else ((-7), y)) else ((zm_obstacle y g1 g4 (if (zm_has g4 128) = 0 then (if (zm_has (y.2.2.2.2.2.2.2.2.2 (Int32.toNatClampNeg (g2 - 1))) 256) = 0 then (1 : Int32) else (0 : Int32)) else (1 : Int32))), y)) else ((-2), y)) else ((-1), y))

set_option maxHeartbeats 4000000 in
set_option maxRecDepth 100000 in
theorem km_unwrap (l : Launch) (D : va_G) (cI cZ : ClassId) (bo b1 b2 b3 b4 b5 b6 b7 : Nat) (y : YS) (g1 : Int32) (g2 : Int32) (g3 : Int64) (g4 : Int32) (hn : y.2.2.2.2.1 < 512) : kI l yM_unwrap wsM_unwrap (rmOf 3 66) D (kT cI cZ) [.ref bo, .int g1, .int g2, .long g3, .int g4] (wY cI cZ bo b1 b2 b3 b4 b5 b6 b7 y) (zm_unwrap y g1 g2 g3 g4).1 (wY cI cZ bo b1 b2 b3 b4 b5 b6 b7 ((zm_unwrap y g1 g2 g3 g4).2)) := by
  intro sz
  refine kOf (Qc := fun A => kQi D (kT cI cZ) A (zm_unwrap y g1 g2 g3 g4).1 (wY cI cZ bo b1 b2 b3 b4 b5 b6 b7 ((zm_unwrap y g1 g2 g3 g4).2))) (cc := cM_unwrap) (maxL := 11) (ret := some .int) (by decide) rfl (Nat.le_of_ble_eq_true rfl) ?_ sz
  intro p e s m args below meth c A ls hx hb hml hown hts hNw hr hlk hin hA hS hP hD hK hl
  show W p l e (rmOf 3 66) s m args below meth c s.heap [] 0 0 (MQ below (kQi D (kT cI cZ) A (zm_unwrap y g1 g2 g3 g4).1 (wY cI cZ bo b1 b2 b3 b4 b5 b6 b7 ((zm_unwrap y g1 g2 g3 g4).2))) args s 0 0 A) (F0 m 0 ls [])
  have hts : ∀ q ∈ lw_g, q.before args s = true := fun q h => hts q (List.mem_cons_of_mem _ h)
  have hown : s.vm.findClass cnM = some m.cls := hown
  have hl : lv_has ls 11 [(0, .ref bo), (1, .int g1), (2, .int g2), (3, .long g3), (5, .int g4)] := hl
  have hP : va_P D vwCl [(bo, .inr (3, [.ref b1, .int y.2.1, .ref b2, .ref b3, .int (nI y.2.2.2.2.1), .int y.2.2.2.2.2.1, .ref b4, .ref b5, .ref b6, .ref b7])), (b1, .inl (cI, 3, .inl y.1)), (b2, .inl (cI, 3, .inl y.2.2.1)), (b3, .inl (cI, 3, .inl y.2.2.2.1)), (b4, .inl (cZ, 512, .inl y.2.2.2.2.2.2.1)), (b5, .inl (cI, 512, .inl y.2.2.2.2.2.2.2.1)), (b6, .inl (cI, 512, .inl y.2.2.2.2.2.2.2.2.1)), (b7, .inl (cI, 512, .inl y.2.2.2.2.2.2.2.2.2))] s.heap := hP
  have hD : va_D A [(bo, .inr (3, [.ref b1, .int y.2.1, .ref b2, .ref b3, .int (nI y.2.2.2.2.1), .int y.2.2.2.2.2.1, .ref b4, .ref b5, .ref b6, .ref b7])), (b1, .inl (cI, 3, .inl y.1)), (b2, .inl (cI, 3, .inl y.2.2.1)), (b3, .inl (cI, 3, .inl y.2.2.2.1)), (b4, .inl (cZ, 512, .inl y.2.2.2.2.2.2.1)), (b5, .inl (cI, 512, .inl y.2.2.2.2.2.2.2.1)), (b6, .inl (cI, 512, .inl y.2.2.2.2.2.2.2.2.1)), (b7, .inl (cI, 512, .inl y.2.2.2.2.2.2.2.2.2))] := hD
  refine lv_aload_n hx hb dM_unwrap_0 rfl (lv_at hl 0 rfl) ?_
  refine lv_iload_n hx hb dM_unwrap_1 rfl (lv_at hl 1 rfl) ?_
  refine kcI (isR := []) (isC := [0, 1, 2, 3, 4, 5, 6, 7]) (wr := []) (w2 := [(bo, .inr (3, [.ref b1, .int y.2.1, .ref b2, .ref b3, .int (nI y.2.2.2.2.1), .int y.2.2.2.2.2.1, .ref b4, .ref b5, .ref b6, .ref b7])), (b1, .inl (cI, 3, .inl y.1)), (b2, .inl (cI, 3, .inl y.2.2.1)), (b3, .inl (cI, 3, .inl y.2.2.2.1)), (b4, .inl (cZ, 512, .inl y.2.2.2.2.2.2.1)), (b5, .inl (cI, 512, .inl y.2.2.2.2.2.2.2.1)), (b6, .inl (cI, 512, .inl y.2.2.2.2.2.2.2.2.1)), (b7, .inl (cI, 512, .inl y.2.2.2.2.2.2.2.2.2))]) (va_runV (As := [.int g1]) (rest := []) ⟨hx, hb, hml, hown, hts⟩ (km_closed l D cI cZ bo b1 b2 b3 b4 b5 b6 b7 y g1 _) ⟨(callB_of 1 hts gd_yM_closed rfl rfl rfl (hts _ mw27) (hts _ mw329) (by decide +kernel) ⟨Nat.le_of_ble_eq_true rfl, Nat.le_of_ble_eq_true rfl⟩), hts _ mw331, hts _ mw15⟩ (kpreV hNw hP hD hK [0, 1, 2, 3, 4, 5, 6, 7] rfl (by decide) 0 rfl (ci := 3) rfl) rfl rfl hl.1 rfl (lv_room (Nat.le_of_ble_eq_true rfl)) dM_unwrap_2 ⟨Nat.le_of_ble_eq_true rfl, Nat.le_of_ble_eq_true rfl⟩) hP hD hS hA [0, 1, 2, 3, 4, 5, 6, 7] rfl rfl (by decide) (by decide) (by decide) rfl (fun H locs hP hD hS => ?_)
  refine lv_if_eq (tgt := 10) hx hb dM_unwrap_5 (by decide) (fun h1 => ?_) (fun h1 => ?_)
  ·
    refine lv_aload_n hx hb dM_unwrap_10 rfl (lv_at hl 0 rfl) ?_
    refine lv_iload_n hx hb dM_unwrap_11 rfl (lv_at hl 2 rfl) ?_
    refine kcI (isR := []) (isC := [0, 1, 2, 3, 4, 5, 6, 7]) (wr := []) (w2 := [(bo, .inr (3, [.ref b1, .int y.2.1, .ref b2, .ref b3, .int (nI y.2.2.2.2.1), .int y.2.2.2.2.2.1, .ref b4, .ref b5, .ref b6, .ref b7])), (b1, .inl (cI, 3, .inl y.1)), (b2, .inl (cI, 3, .inl y.2.2.1)), (b3, .inl (cI, 3, .inl y.2.2.2.1)), (b4, .inl (cZ, 512, .inl y.2.2.2.2.2.2.1)), (b5, .inl (cI, 512, .inl y.2.2.2.2.2.2.2.1)), (b6, .inl (cI, 512, .inl y.2.2.2.2.2.2.2.2.1)), (b7, .inl (cI, 512, .inl y.2.2.2.2.2.2.2.2.2))]) (va_runV (As := [.int g2]) (rest := []) ⟨hx, hb, hml, hown, hts⟩ (km_hidden l D cI cZ bo b1 b2 b3 b4 b5 b6 b7 y g2 (Nat.le_of_lt hn) _) ⟨(callB_of 1 hts gd_yM_hidden rfl rfl rfl (hts _ mw27) (hts _ mw384) (by decide +kernel) ⟨Nat.le_of_ble_eq_true rfl, Nat.le_of_ble_eq_true rfl⟩), hts _ mw386, hts _ mw20⟩ (kpreV hNw hP hD hK [0, 1, 2, 3, 4, 5, 6, 7] rfl (by decide) 0 rfl (ci := 3) rfl) rfl rfl hl.1 rfl (lv_room (Nat.le_of_ble_eq_true rfl)) dM_unwrap_12 ⟨Nat.le_of_ble_eq_true rfl, Nat.le_of_ble_eq_true rfl⟩) hP hD hS hA [0, 1, 2, 3, 4, 5, 6, 7] rfl rfl (by decide) (by decide) (by decide) rfl (fun H locs hP hD hS => ?_)
    refine lv_if_eq (tgt := 21) hx hb dM_unwrap_15 (by decide) (fun h2 => ?_) (fun h2 => ?_)
    ·
      refine lv_aload_n hx hb dM_unwrap_21 rfl (lv_at hl 0 rfl) ?_
      refine lv_iload_n hx hb dM_unwrap_22 rfl (lv_at hl 1 rfl) ?_
      refine lv_iload hx hb dM_unwrap_23 (lv_at hl 4 rfl) ?_
      refine lv_iload hx hb dM_unwrap_25 (lv_at hl 4 rfl) ?_
      refine lv_sipush (v := 128) hx hb dM_unwrap_27 (by decide) ?_
      refine kcI (isR := [0, 1, 2, 3, 4, 5, 6, 7]) (isC := []) (wr := [(bo, .inr (3, [.ref b1, .int y.2.1, .ref b2, .ref b3, .int (nI y.2.2.2.2.1), .int y.2.2.2.2.2.1, .ref b4, .ref b5, .ref b6, .ref b7])), (b1, .inl (cI, 3, .inl y.1)), (b2, .inl (cI, 3, .inl y.2.2.1)), (b3, .inl (cI, 3, .inl y.2.2.2.1)), (b4, .inl (cZ, 512, .inl y.2.2.2.2.2.2.1)), (b5, .inl (cI, 512, .inl y.2.2.2.2.2.2.2.1)), (b6, .inl (cI, 512, .inl y.2.2.2.2.2.2.2.2.1)), (b7, .inl (cI, 512, .inl y.2.2.2.2.2.2.2.2.2))]) (w2 := [(bo, .inr (3, [.ref b1, .int y.2.1, .ref b2, .ref b3, .int (nI y.2.2.2.2.1), .int y.2.2.2.2.2.1, .ref b4, .ref b5, .ref b6, .ref b7])), (b1, .inl (cI, 3, .inl y.1)), (b2, .inl (cI, 3, .inl y.2.2.1)), (b3, .inl (cI, 3, .inl y.2.2.2.1)), (b4, .inl (cZ, 512, .inl y.2.2.2.2.2.2.1)), (b5, .inl (cI, 512, .inl y.2.2.2.2.2.2.2.1)), (b6, .inl (cI, 512, .inl y.2.2.2.2.2.2.2.2.1)), (b7, .inl (cI, 512, .inl y.2.2.2.2.2.2.2.2.2))]) (va_runS (As := [.int g4, .int 128]) (rest := [.int g4, .int g1, .ref bo]) ⟨hx, hb, hml, hown, hts⟩ (km_has l D cI cZ g4 128 _) ⟨(callB_of 2 hts gd_yM_has rfl rfl rfl (hts _ mw27) (hts _ mw333) (by decide +kernel) ⟨Nat.le_of_ble_eq_true rfl, Nat.le_of_ble_eq_true rfl⟩), hts _ mw334⟩ (kpreS hNw hP hD hK [] rfl (by decide)) rfl rfl hl.1 rfl (lv_room (Nat.le_of_ble_eq_true rfl)) dM_unwrap_30 ⟨Nat.le_of_ble_eq_true rfl, Nat.le_of_ble_eq_true rfl⟩) hP hD hS hA [0, 1, 2, 3, 4, 5, 6, 7] rfl rfl (by decide) (by decide) (by decide) rfl (fun H locs hP hD hS => ?_)
      refine kJoin (pcJ := 58) (z := (if (zm_has g4 128) = 0 then (if (zm_has (y.2.2.2.2.2.2.2.2.2 (Int32.toNatClampNeg (g2 - 1))) 256) = 0 then (1 : Int32) else (0 : Int32)) else (1 : Int32))) (ws := [(bo, .inr (3, [.ref b1, .int y.2.1, .ref b2, .ref b3, .int (nI y.2.2.2.2.1), .int y.2.2.2.2.2.1, .ref b4, .ref b5, .ref b6, .ref b7])), (b1, .inl (cI, 3, .inl y.1)), (b2, .inl (cI, 3, .inl y.2.2.1)), (b3, .inl (cI, 3, .inl y.2.2.2.1)), (b4, .inl (cZ, 512, .inl y.2.2.2.2.2.2.1)), (b5, .inl (cI, 512, .inl y.2.2.2.2.2.2.2.1)), (b6, .inl (cI, 512, .inl y.2.2.2.2.2.2.2.2.1)), (b7, .inl (cI, 512, .inl y.2.2.2.2.2.2.2.2.2))]) (rest := [.int g4, .int g1, .ref bo]) (D := D) (A := A) (H0 := s.heap) (fun J58 => ?_) (fun H locs hP hD hS => ?_)
      ·
        refine lv_if_ne (tgt := 53) hx hb dM_unwrap_33 (by decide) (fun h3 => ?_) (fun h3 => ?_)
        ·
          refine lv_iconst (v := 1) hx hb dM_unwrap_53 (by decide) ?_
          refine lv_goto hx hb dM_unwrap_54 (tgt := 58) (by decide) ?_
          exact J58 _ _ hP hD hS _ ((if_neg h3).symm)
        ·
          refine lv_aload_n hx hb dM_unwrap_36 rfl (lv_at hl 0 rfl) ?_
          refine va_get (D := D) (ci := 3) (v := .ref b7) (C := cnM) (T := ftM) (N := 10) hx hb hts inM hown hK hP 0 rfl rfl 9 (by decide) (hts _ mw298) (fun _ h9 => h9) rfl dM_unwrap_37 ?_
          refine lv_iload_n hx hb dM_unwrap_40 rfl (lv_at hl 2 rfl) ?_
          refine lv_iconst (v := 1) hx hb dM_unwrap_41 (by decide) ?_
          refine lv_isub hx hb dM_unwrap_42 ?_
          refine va_iald hx hb hK hP 7 0 rfl rfl (zm_hidden_in (Nat.le_of_lt hn) h2) dM_unwrap_43 ?_
          refine lv_sipush (v := 256) hx hb dM_unwrap_44 (by decide) ?_
          refine kcI (isR := [0, 1, 2, 3, 4, 5, 6, 7]) (isC := []) (wr := [(bo, .inr (3, [.ref b1, .int y.2.1, .ref b2, .ref b3, .int (nI y.2.2.2.2.1), .int y.2.2.2.2.2.1, .ref b4, .ref b5, .ref b6, .ref b7])), (b1, .inl (cI, 3, .inl y.1)), (b2, .inl (cI, 3, .inl y.2.2.1)), (b3, .inl (cI, 3, .inl y.2.2.2.1)), (b4, .inl (cZ, 512, .inl y.2.2.2.2.2.2.1)), (b5, .inl (cI, 512, .inl y.2.2.2.2.2.2.2.1)), (b6, .inl (cI, 512, .inl y.2.2.2.2.2.2.2.2.1)), (b7, .inl (cI, 512, .inl y.2.2.2.2.2.2.2.2.2))]) (w2 := [(bo, .inr (3, [.ref b1, .int y.2.1, .ref b2, .ref b3, .int (nI y.2.2.2.2.1), .int y.2.2.2.2.2.1, .ref b4, .ref b5, .ref b6, .ref b7])), (b1, .inl (cI, 3, .inl y.1)), (b2, .inl (cI, 3, .inl y.2.2.1)), (b3, .inl (cI, 3, .inl y.2.2.2.1)), (b4, .inl (cZ, 512, .inl y.2.2.2.2.2.2.1)), (b5, .inl (cI, 512, .inl y.2.2.2.2.2.2.2.1)), (b6, .inl (cI, 512, .inl y.2.2.2.2.2.2.2.2.1)), (b7, .inl (cI, 512, .inl y.2.2.2.2.2.2.2.2.2))]) (va_runS (As := [.int (y.2.2.2.2.2.2.2.2.2 (Int32.toNatClampNeg (g2 - 1))), .int 256]) (rest := [.int g4, .int g1, .ref bo]) ⟨hx, hb, hml, hown, hts⟩ (km_has l D cI cZ (y.2.2.2.2.2.2.2.2.2 (Int32.toNatClampNeg (g2 - 1))) 256 _) ⟨(callB_of 2 hts gd_yM_has rfl rfl rfl (hts _ mw27) (hts _ mw333) (by decide +kernel) ⟨Nat.le_of_ble_eq_true rfl, Nat.le_of_ble_eq_true rfl⟩), hts _ mw334⟩ (kpreS hNw hP hD hK [] rfl (by decide)) rfl rfl hl.1 rfl (lv_room (Nat.le_of_ble_eq_true rfl)) dM_unwrap_47 ⟨Nat.le_of_ble_eq_true rfl, Nat.le_of_ble_eq_true rfl⟩) hP hD hS hA [0, 1, 2, 3, 4, 5, 6, 7] rfl rfl (by decide) (by decide) (by decide) rfl (fun H locs hP hD hS => ?_)
          refine lv_if_ne (tgt := 57) hx hb dM_unwrap_50 (by decide) (fun h4 => ?_) (fun h4 => ?_)
          ·
            refine lv_iconst (v := 0) hx hb dM_unwrap_57 (by decide) ?_
            exact J58 _ _ hP hD hS _ (((if_pos h3).trans (if_neg h4)).symm)
          ·
            refine lv_iconst (v := 1) hx hb dM_unwrap_53 (by decide) ?_
            refine lv_goto hx hb dM_unwrap_54 (tgt := 58) (by decide) ?_
            exact J58 _ _ hP hD hS _ (((if_pos h3).trans (if_pos h4)).symm)
      refine kcI (isR := []) (isC := [0, 1, 2, 3, 4, 5, 6, 7]) (wr := []) (w2 := [(bo, .inr (3, [.ref b1, .int y.2.1, .ref b2, .ref b3, .int (nI y.2.2.2.2.1), .int y.2.2.2.2.2.1, .ref b4, .ref b5, .ref b6, .ref b7])), (b1, .inl (cI, 3, .inl y.1)), (b2, .inl (cI, 3, .inl y.2.2.1)), (b3, .inl (cI, 3, .inl y.2.2.2.1)), (b4, .inl (cZ, 512, .inl y.2.2.2.2.2.2.1)), (b5, .inl (cI, 512, .inl y.2.2.2.2.2.2.2.1)), (b6, .inl (cI, 512, .inl y.2.2.2.2.2.2.2.2.1)), (b7, .inl (cI, 512, .inl y.2.2.2.2.2.2.2.2.2))]) (va_runV (As := [.int g1, .int g4, .int (if (zm_has g4 128) = 0 then (if (zm_has (y.2.2.2.2.2.2.2.2.2 (Int32.toNatClampNeg (g2 - 1))) 256) = 0 then (1 : Int32) else (0 : Int32)) else (1 : Int32))]) (rest := []) ⟨hx, hb, hml, hown, hts⟩ (km_obstacle l D cI cZ bo b1 b2 b3 b4 b5 b6 b7 y g1 g4 (if (zm_has g4 128) = 0 then (if (zm_has (y.2.2.2.2.2.2.2.2.2 (Int32.toNatClampNeg (g2 - 1))) 256) = 0 then (1 : Int32) else (0 : Int32)) else (1 : Int32)) (zm_closed_in h1) (Nat.le_of_lt hn) _) ⟨(callB_of 3 hts gd_yM_obstacle rfl rfl rfl (hts _ mw27) (hts _ mw352) (by decide +kernel) ⟨Nat.le_of_ble_eq_true rfl, Nat.le_of_ble_eq_true rfl⟩), hts _ mw354, hts _ mw16⟩ (kpreV hNw hP hD hK [0, 1, 2, 3, 4, 5, 6, 7] rfl (by decide) 0 rfl (ci := 3) rfl) rfl rfl hl.1 rfl (lv_room (Nat.le_of_ble_eq_true rfl)) dM_unwrap_58 ⟨Nat.le_of_ble_eq_true rfl, Nat.le_of_ble_eq_true rfl⟩) hP hD hS hA [0, 1, 2, 3, 4, 5, 6, 7] rfl rfl (by decide) (by decide) (by decide) rfl (fun H locs hP hD hS => ?_)
      refine lv_istore hx hb dM_unwrap_61 hl (by decide) rfl (fun ls hl => ?_)
      have hl : lv_has ls 11 [(6, .int (zm_obstacle y g1 g4 (if (zm_has g4 128) = 0 then (if (zm_has (y.2.2.2.2.2.2.2.2.2 (Int32.toNatClampNeg (g2 - 1))) 256) = 0 then (1 : Int32) else (0 : Int32)) else (1 : Int32)))), (0, .ref bo), (1, .int g1), (2, .int g2), (3, .long g3), (5, .int g4)] := hl
      refine lv_iload hx hb dM_unwrap_63 (lv_at hl 0 rfl) ?_
      refine lv_if_ge (tgt := 71) hx hb dM_unwrap_65 (by decide) (fun h5 => ?_) (fun h5 => ?_)
      ·
        refine lv_aload_n hx hb dM_unwrap_71 rfl (lv_at hl 1 rfl) ?_
        refine va_get (D := D) (ci := 3) (v := .ref b5) (C := cnM) (T := ftM) (N := 10) hx hb hts inM hown hK hP 0 rfl rfl 7 (by decide) (hts _ mw296) (fun _ h9 => h9) rfl dM_unwrap_72 ?_
        refine lv_iload_n hx hb dM_unwrap_75 rfl (lv_at hl 3 rfl) ?_
        refine lv_iconst (v := 1) hx hb dM_unwrap_76 (by decide) ?_
        refine lv_isub hx hb dM_unwrap_77 ?_
        refine va_iald hx hb hK hP 5 0 rfl rfl (zm_hidden_in (Nat.le_of_lt hn) h2) dM_unwrap_78 ?_
        refine lv_istore hx hb dM_unwrap_79 hl (by decide) rfl (fun ls hl => ?_)
        have hl : lv_has ls 11 [(7, .int (y.2.2.2.2.2.2.2.1 (Int32.toNatClampNeg (g2 - 1)))), (6, .int (zm_obstacle y g1 g4 (if (zm_has g4 128) = 0 then (if (zm_has (y.2.2.2.2.2.2.2.2.2 (Int32.toNatClampNeg (g2 - 1))) 256) = 0 then (1 : Int32) else (0 : Int32)) else (1 : Int32)))), (0, .ref bo), (1, .int g1), (2, .int g2), (3, .long g3), (5, .int g4)] := hl
        refine lv_iload hx hb dM_unwrap_81 (lv_at hl 0 rfl) ?_
        refine lv_lload_n hx hb dM_unwrap_83 rfl (lv_at hl 5 rfl) ?_
        refine lv_l2i (v := (Int64.toInt32 g3)) hx hb dM_unwrap_84 rfl ?_
        refine lv_iconst (v := 0) hx hb dM_unwrap_85 (by decide) ?_
        refine kcI (isR := [0, 1, 2, 3, 4, 5, 6, 7]) (isC := []) (wr := [(bo, .inr (3, [.ref b1, .int y.2.1, .ref b2, .ref b3, .int (nI y.2.2.2.2.1), .int y.2.2.2.2.2.1, .ref b4, .ref b5, .ref b6, .ref b7])), (b1, .inl (cI, 3, .inl y.1)), (b2, .inl (cI, 3, .inl y.2.2.1)), (b3, .inl (cI, 3, .inl y.2.2.2.1)), (b4, .inl (cZ, 512, .inl y.2.2.2.2.2.2.1)), (b5, .inl (cI, 512, .inl y.2.2.2.2.2.2.2.1)), (b6, .inl (cI, 512, .inl y.2.2.2.2.2.2.2.2.1)), (b7, .inl (cI, 512, .inl y.2.2.2.2.2.2.2.2.2))]) (w2 := [(bo, .inr (3, [.ref b1, .int y.2.1, .ref b2, .ref b3, .int (nI y.2.2.2.2.1), .int y.2.2.2.2.2.1, .ref b4, .ref b5, .ref b6, .ref b7])), (b1, .inl (cI, 3, .inl y.1)), (b2, .inl (cI, 3, .inl y.2.2.1)), (b3, .inl (cI, 3, .inl y.2.2.2.1)), (b4, .inl (cZ, 512, .inl y.2.2.2.2.2.2.1)), (b5, .inl (cI, 512, .inl y.2.2.2.2.2.2.2.1)), (b6, .inl (cI, 512, .inl y.2.2.2.2.2.2.2.2.1)), (b7, .inl (cI, 512, .inl y.2.2.2.2.2.2.2.2.2))]) (va_runS (As := [.int (y.2.2.2.2.2.2.2.1 (Int32.toNatClampNeg (g2 - 1))), .int (Int64.toInt32 g3), .int 0]) (rest := []) ⟨hx, hb, hml, hown, hts⟩ (km_rounds l D cI cZ (y.2.2.2.2.2.2.2.1 (Int32.toNatClampNeg (g2 - 1))) (Int64.toInt32 g3) 0 _) ⟨(callB_of 3 hts gd_yM_rounds rfl rfl rfl (hts _ mw27) (hts _ mw420) (by decide +kernel) ⟨Nat.le_of_ble_eq_true rfl, Nat.le_of_ble_eq_true rfl⟩), hts _ mw421⟩ (kpreS hNw hP hD hK [] rfl (by decide)) rfl rfl hl.1 rfl (lv_room (Nat.le_of_ble_eq_true rfl)) dM_unwrap_86 ⟨Nat.le_of_ble_eq_true rfl, Nat.le_of_ble_eq_true rfl⟩) hP hD hS hA [0, 1, 2, 3, 4, 5, 6, 7] rfl rfl (by decide) (by decide) (by decide) rfl (fun H locs hP hD hS => ?_)
        refine lv_istore hx hb dM_unwrap_89 hl (by decide) rfl (fun ls hl => ?_)
        have hl : lv_has ls 11 [(8, .int (zm_rounds (y.2.2.2.2.2.2.2.1 (Int32.toNatClampNeg (g2 - 1))) (Int64.toInt32 g3) 0)), (7, .int (y.2.2.2.2.2.2.2.1 (Int32.toNatClampNeg (g2 - 1)))), (6, .int (zm_obstacle y g1 g4 (if (zm_has g4 128) = 0 then (if (zm_has (y.2.2.2.2.2.2.2.2.2 (Int32.toNatClampNeg (g2 - 1))) 256) = 0 then (1 : Int32) else (0 : Int32)) else (1 : Int32)))), (0, .ref bo), (1, .int g1), (2, .int g2), (3, .long g3), (5, .int g4)] := hl
        refine lv_iload hx hb dM_unwrap_91 (lv_at hl 1 rfl) ?_
        refine lv_iload hx hb dM_unwrap_93 (lv_at hl 0 rfl) ?_
        refine kcI (isR := [0, 1, 2, 3, 4, 5, 6, 7]) (isC := []) (wr := [(bo, .inr (3, [.ref b1, .int y.2.1, .ref b2, .ref b3, .int (nI y.2.2.2.2.1), .int y.2.2.2.2.2.1, .ref b4, .ref b5, .ref b6, .ref b7])), (b1, .inl (cI, 3, .inl y.1)), (b2, .inl (cI, 3, .inl y.2.2.1)), (b3, .inl (cI, 3, .inl y.2.2.2.1)), (b4, .inl (cZ, 512, .inl y.2.2.2.2.2.2.1)), (b5, .inl (cI, 512, .inl y.2.2.2.2.2.2.2.1)), (b6, .inl (cI, 512, .inl y.2.2.2.2.2.2.2.2.1)), (b7, .inl (cI, 512, .inl y.2.2.2.2.2.2.2.2.2))]) (w2 := [(bo, .inr (3, [.ref b1, .int y.2.1, .ref b2, .ref b3, .int (nI y.2.2.2.2.1), .int y.2.2.2.2.2.1, .ref b4, .ref b5, .ref b6, .ref b7])), (b1, .inl (cI, 3, .inl y.1)), (b2, .inl (cI, 3, .inl y.2.2.1)), (b3, .inl (cI, 3, .inl y.2.2.2.1)), (b4, .inl (cZ, 512, .inl y.2.2.2.2.2.2.1)), (b5, .inl (cI, 512, .inl y.2.2.2.2.2.2.2.1)), (b6, .inl (cI, 512, .inl y.2.2.2.2.2.2.2.2.1)), (b7, .inl (cI, 512, .inl y.2.2.2.2.2.2.2.2.2))]) (va_runS (As := [.int (y.2.2.2.2.2.2.2.1 (Int32.toNatClampNeg (g2 - 1))), .int (zm_rounds (y.2.2.2.2.2.2.2.1 (Int32.toNatClampNeg (g2 - 1))) (Int64.toInt32 g3) 0)]) (rest := []) ⟨hx, hb, hml, hown, hts⟩ (km_mac l D cI cZ (y.2.2.2.2.2.2.2.1 (Int32.toNatClampNeg (g2 - 1))) (zm_rounds (y.2.2.2.2.2.2.2.1 (Int32.toNatClampNeg (g2 - 1))) (Int64.toInt32 g3) 0) _) ⟨(callB_of 2 hts gd_yM_mac rfl rfl rfl (hts _ mw27) (hts _ mw376) (by decide +kernel) ⟨Nat.le_of_ble_eq_true rfl, Nat.le_of_ble_eq_true rfl⟩), hts _ mw377⟩ (kpreS hNw hP hD hK [] rfl (by decide)) rfl rfl hl.1 rfl (lv_room (Nat.le_of_ble_eq_true rfl)) dM_unwrap_95 ⟨Nat.le_of_ble_eq_true rfl, Nat.le_of_ble_eq_true rfl⟩) hP hD hS hA [0, 1, 2, 3, 4, 5, 6, 7] rfl rfl (by decide) (by decide) (by decide) rfl (fun H locs hP hD hS => ?_)
        refine lv_ldc (v := 2147483647) hx hb hown (hts _ mw444) dM_unwrap_98 ?_
        refine lv_iand hx hb dM_unwrap_100 ?_
        refine lv_i2l (v := (Int32.toInt64 ((zm_mac (y.2.2.2.2.2.2.2.1 (Int32.toNatClampNeg (g2 - 1))) (zm_rounds (y.2.2.2.2.2.2.2.1 (Int32.toNatClampNeg (g2 - 1))) (Int64.toInt32 g3) 0)) &&& 2147483647))) hx hb dM_unwrap_101 rfl ?_
        refine lv_lstore hx hb dM_unwrap_102 hl (by decide) rfl (fun ls hl => ?_)
        have hl : lv_has ls 11 [(9, .long (Int32.toInt64 ((zm_mac (y.2.2.2.2.2.2.2.1 (Int32.toNatClampNeg (g2 - 1))) (zm_rounds (y.2.2.2.2.2.2.2.1 (Int32.toNatClampNeg (g2 - 1))) (Int64.toInt32 g3) 0)) &&& 2147483647))), (8, .int (zm_rounds (y.2.2.2.2.2.2.2.1 (Int32.toNatClampNeg (g2 - 1))) (Int64.toInt32 g3) 0)), (7, .int (y.2.2.2.2.2.2.2.1 (Int32.toNatClampNeg (g2 - 1)))), (6, .int (zm_obstacle y g1 g4 (if (zm_has g4 128) = 0 then (if (zm_has (y.2.2.2.2.2.2.2.2.2 (Int32.toNatClampNeg (g2 - 1))) 256) = 0 then (1 : Int32) else (0 : Int32)) else (1 : Int32)))), (0, .ref bo), (1, .int g1), (2, .int g2), (3, .long g3), (5, .int g4)] := hl
        refine lv_lload_n hx hb dM_unwrap_104 rfl (lv_at hl 7 rfl) ?_
        refine lv_bipush (v := 32) hx hb dM_unwrap_105 (by decide) ?_
        refine lv_lushr (v := (zlush g3 32)) hx hb dM_unwrap_107 rfl ?_
        refine lv_lload hx hb dM_unwrap_108 (lv_at hl 0 rfl) ?_
        refine W.lcmp hx hb dM_unwrap_110 ?_
        refine lv_if_eq (tgt := 119) hx hb dM_unwrap_111 (by decide) (fun h6 => ?_) (fun h6 => ?_)
        ·
          refine lv_aload_n hx hb dM_unwrap_119 rfl (lv_at hl 4 rfl) ?_
          refine lv_iload_n hx hb dM_unwrap_120 rfl (lv_at hl 5 rfl) ?_
          refine lv_iload hx hb dM_unwrap_121 (lv_at hl 8 rfl) ?_
          refine lv_iload hx hb dM_unwrap_123 (lv_at hl 1 rfl) ?_
          refine kcI (isR := []) (isC := [0, 1, 2, 3, 4, 5, 6, 7]) (wr := []) (w2 := [(bo, .inr (3, [.ref b1, .int ((zm_enter y g1 g4 (zm_rounds (y.2.2.2.2.2.2.2.1 (Int32.toNatClampNeg (g2 - 1))) (Int64.toInt32 g3) 0)).2.2.1), .ref b2, .ref b3, .int (nI (zm_enter y g1 g4 (zm_rounds (y.2.2.2.2.2.2.2.1 (Int32.toNatClampNeg (g2 - 1))) (Int64.toInt32 g3) 0)).2.2.2.2.2.1), .int ((zm_enter y g1 g4 (zm_rounds (y.2.2.2.2.2.2.2.1 (Int32.toNatClampNeg (g2 - 1))) (Int64.toInt32 g3) 0)).2.2.2.2.2.2.1), .ref b4, .ref b5, .ref b6, .ref b7])), (b1, .inl (cI, 3, .inl ((zm_enter y g1 g4 (zm_rounds (y.2.2.2.2.2.2.2.1 (Int32.toNatClampNeg (g2 - 1))) (Int64.toInt32 g3) 0)).2.1))), (b2, .inl (cI, 3, .inl ((zm_enter y g1 g4 (zm_rounds (y.2.2.2.2.2.2.2.1 (Int32.toNatClampNeg (g2 - 1))) (Int64.toInt32 g3) 0)).2.2.2.1))), (b3, .inl (cI, 3, .inl ((zm_enter y g1 g4 (zm_rounds (y.2.2.2.2.2.2.2.1 (Int32.toNatClampNeg (g2 - 1))) (Int64.toInt32 g3) 0)).2.2.2.2.1))), (b4, .inl (cZ, 512, .inl ((zm_enter y g1 g4 (zm_rounds (y.2.2.2.2.2.2.2.1 (Int32.toNatClampNeg (g2 - 1))) (Int64.toInt32 g3) 0)).2.2.2.2.2.2.2.1))), (b5, .inl (cI, 512, .inl ((zm_enter y g1 g4 (zm_rounds (y.2.2.2.2.2.2.2.1 (Int32.toNatClampNeg (g2 - 1))) (Int64.toInt32 g3) 0)).2.2.2.2.2.2.2.2.1))), (b6, .inl (cI, 512, .inl ((zm_enter y g1 g4 (zm_rounds (y.2.2.2.2.2.2.2.1 (Int32.toNatClampNeg (g2 - 1))) (Int64.toInt32 g3) 0)).2.2.2.2.2.2.2.2.2.1))), (b7, .inl (cI, 512, .inl ((zm_enter y g1 g4 (zm_rounds (y.2.2.2.2.2.2.2.1 (Int32.toNatClampNeg (g2 - 1))) (Int64.toInt32 g3) 0)).2.2.2.2.2.2.2.2.2.2)))]) (va_runV (As := [.int g1, .int g4, .int (zm_rounds (y.2.2.2.2.2.2.2.1 (Int32.toNatClampNeg (g2 - 1))) (Int64.toInt32 g3) 0)]) (rest := []) ⟨hx, hb, hml, hown, hts⟩ (km_enter l D cI cZ bo b1 b2 b3 b4 b5 b6 b7 y g1 g4 (zm_rounds (y.2.2.2.2.2.2.2.1 (Int32.toNatClampNeg (g2 - 1))) (Int64.toInt32 g3) 0) (hn) _) ⟨(callB_of 3 hts gd_yM_enter rfl rfl rfl (hts _ mw27) (hts _ mw367) (by decide +kernel) ⟨Nat.le_of_ble_eq_true rfl, Nat.le_of_ble_eq_true rfl⟩), hts _ mw369, hts _ mw19⟩ (kpreV hNw hP hD hK [0, 1, 2, 3, 4, 5, 6, 7] rfl (by decide) 0 rfl (ci := 3) rfl) rfl rfl hl.1 rfl (lv_room (Nat.le_of_ble_eq_true rfl)) dM_unwrap_125 ⟨Nat.le_of_ble_eq_true rfl, Nat.le_of_ble_eq_true rfl⟩) hP hD hS hA [0, 1, 2, 3, 4, 5, 6, 7] rfl rfl (by decide) (by decide) (by decide) rfl (fun H locs hP hD hS => ?_)
          exact kretI (wf := fun st => wY cI cZ bo b1 b2 b3 b4 b5 b6 b7 st) (st := (zm_enter y g1 g4 (zm_rounds (y.2.2.2.2.2.2.2.1 (Int32.toNatClampNeg (g2 - 1))) (Int64.toInt32 g3) 0)).2) (by first | (rw [zm_unwrap, if_pos h1, if_pos h2, if_pos h5, if_pos h6]; done) | exact ((if_pos h1).trans ((if_pos h2).trans ((if_pos h5).trans (if_pos h6))))) hx hb hr hlk hS hP hD hK dM_unwrap_128
        ·
          refine lv_bipush (v := (-7)) hx hb dM_unwrap_114 (by decide) ?_
          refine lv_goto hx hb dM_unwrap_116 (tgt := 128) (by decide) ?_
          exact kretI (wf := fun st => wY cI cZ bo b1 b2 b3 b4 b5 b6 b7 st) (st := y) (by first | (rw [zm_unwrap, if_pos h1, if_pos h2, if_pos h5, if_neg h6]; done) | exact ((if_pos h1).trans ((if_pos h2).trans ((if_pos h5).trans (if_neg h6))))) hx hb hr hlk hS hP hD hK dM_unwrap_128
      ·
        refine lv_iload hx hb dM_unwrap_68 (lv_at hl 0 rfl) ?_
        exact kretI (wf := fun st => wY cI cZ bo b1 b2 b3 b4 b5 b6 b7 st) (st := y) (by first | (rw [zm_unwrap, if_pos h1, if_pos h2, if_neg h5]; done) | exact ((if_pos h1).trans ((if_pos h2).trans (if_neg h5)))) hx hb hr hlk hS hP hD hK dM_unwrap_70
    ·
      refine lv_bipush (v := (-2)) hx hb dM_unwrap_18 (by decide) ?_
      exact kretI (wf := fun st => wY cI cZ bo b1 b2 b3 b4 b5 b6 b7 st) (st := y) (by first | (rw [zm_unwrap, if_pos h1, if_neg h2]; done) | exact ((if_pos h1).trans (if_neg h2))) hx hb hr hlk hS hP hD hK dM_unwrap_20
  ·
    refine lv_iconst (v := (-1)) hx hb dM_unwrap_8 (by decide) ?_
    exact kretI (wf := fun st => wY cI cZ bo b1 b2 b3 b4 b5 b6 b7 st) (st := y) (by first | (rw [zm_unwrap, if_neg h1]; done) | exact (if_neg h1)) hx hb hr hlk hS hP hD hK dM_unwrap_9

def zm_fnd (y : YS) (k : Int32) : Nat → Nat → Int32 → Int32
  | 0, _, _ => 0
  | f + 1, i, b => if zm_visible y (nI i) = 0 then zm_fnd y k f (i + 1) b else if b = k then ((nI i) + 1) else zm_fnd y k f (i + 1) (b + 1)
def zm_find (y : YS) (g1 g2 : Int32) : Int32 := if zm_closed y g1 = 0 then zm_fnd y g2 y.2.2.2.2.1 0 0 else (-1)

set_option maxHeartbeats 4000000 in
set_option maxRecDepth 100000 in
theorem km_find (l : Launch) (D : va_G) (cI cZ : ClassId) (bo b1 b2 b3 b4 b5 b6 b7 : Nat) (y : YS) (g1 : Int32) (g2 : Int32) (hn : y.2.2.2.2.1 ≤ 512) : kI l yM_find wsM_find (rmOf 2 42) D (kT cI cZ) [.ref bo, .int g1, .int g2] (wY cI cZ bo b1 b2 b3 b4 b5 b6 b7 y) (zm_find y g1 g2) (wY cI cZ bo b1 b2 b3 b4 b5 b6 b7 y) := by
  intro sz
  refine kOf (Qc := fun A => kQi D (kT cI cZ) A (zm_find y g1 g2) (wY cI cZ bo b1 b2 b3 b4 b5 b6 b7 y)) (cc := cM_find) (maxL := 5) (ret := some .int) (by decide) rfl (Nat.le_of_ble_eq_true rfl) ?_ sz
  intro p e s m args below meth c A ls hx hb hml hown hts hNw hr hlk hin hA hS hP hD hK hl
  show W p l e (rmOf 2 42) s m args below meth c s.heap [] 0 0 (MQ below (kQi D (kT cI cZ) A (zm_find y g1 g2) (wY cI cZ bo b1 b2 b3 b4 b5 b6 b7 y)) args s 0 0 A) (F0 m 0 ls [])
  have hts : ∀ q ∈ lw_g, q.before args s = true := fun q h => hts q (List.mem_cons_of_mem _ h)
  have hown : s.vm.findClass cnM = some m.cls := hown
  have hl : lv_has ls 5 [(0, .ref bo), (1, .int g1), (2, .int g2)] := hl
  have hP : va_P D vwCl [(bo, .inr (3, [.ref b1, .int y.2.1, .ref b2, .ref b3, .int (nI y.2.2.2.2.1), .int y.2.2.2.2.2.1, .ref b4, .ref b5, .ref b6, .ref b7])), (b1, .inl (cI, 3, .inl y.1)), (b2, .inl (cI, 3, .inl y.2.2.1)), (b3, .inl (cI, 3, .inl y.2.2.2.1)), (b4, .inl (cZ, 512, .inl y.2.2.2.2.2.2.1)), (b5, .inl (cI, 512, .inl y.2.2.2.2.2.2.2.1)), (b6, .inl (cI, 512, .inl y.2.2.2.2.2.2.2.2.1)), (b7, .inl (cI, 512, .inl y.2.2.2.2.2.2.2.2.2))] s.heap := hP
  have hD : va_D A [(bo, .inr (3, [.ref b1, .int y.2.1, .ref b2, .ref b3, .int (nI y.2.2.2.2.1), .int y.2.2.2.2.2.1, .ref b4, .ref b5, .ref b6, .ref b7])), (b1, .inl (cI, 3, .inl y.1)), (b2, .inl (cI, 3, .inl y.2.2.1)), (b3, .inl (cI, 3, .inl y.2.2.2.1)), (b4, .inl (cZ, 512, .inl y.2.2.2.2.2.2.1)), (b5, .inl (cI, 512, .inl y.2.2.2.2.2.2.2.1)), (b6, .inl (cI, 512, .inl y.2.2.2.2.2.2.2.2.1)), (b7, .inl (cI, 512, .inl y.2.2.2.2.2.2.2.2.2))] := hD
  have L : ∀ (f : Nat) (i : Nat) (b : Int32) (ls : Array Slot) (H : Heap) (locs : List Loc), (i + f = y.2.2.2.2.1) → (zm_find y g1 g2 = zm_fnd y g2 f i b) → lv_has ls 5 [(4, .int (nI i)), (3, .int b), (0, .ref bo), (1, .int g1), (2, .int g2)] → va_P D vwCl [(bo, .inr (3, [.ref b1, .int y.2.1, .ref b2, .ref b3, .int (nI y.2.2.2.2.1), .int y.2.2.2.2.2.1, .ref b4, .ref b5, .ref b6, .ref b7])), (b1, .inl (cI, 3, .inl y.1)), (b2, .inl (cI, 3, .inl y.2.2.1)), (b3, .inl (cI, 3, .inl y.2.2.2.1)), (b4, .inl (cZ, 512, .inl y.2.2.2.2.2.2.1)), (b5, .inl (cI, 512, .inl y.2.2.2.2.2.2.2.1)), (b6, .inl (cI, 512, .inl y.2.2.2.2.2.2.2.2.1)), (b7, .inl (cI, 512, .inl y.2.2.2.2.2.2.2.2.2))] H → va_D A [(bo, .inr (3, [.ref b1, .int y.2.1, .ref b2, .ref b3, .int (nI y.2.2.2.2.1), .int y.2.2.2.2.2.1, .ref b4, .ref b5, .ref b6, .ref b7])), (b1, .inl (cI, 3, .inl y.1)), (b2, .inl (cI, 3, .inl y.2.2.1)), (b3, .inl (cI, 3, .inl y.2.2.2.1)), (b4, .inl (cZ, 512, .inl y.2.2.2.2.2.2.1)), (b5, .inl (cI, 512, .inl y.2.2.2.2.2.2.2.1)), (b6, .inl (cI, 512, .inl y.2.2.2.2.2.2.2.2.1)), (b7, .inl (cI, 512, .inl y.2.2.2.2.2.2.2.2.2))] → va_S A s.heap H locs → W p l e (rmOf 2 42) s m args below meth c H locs 0 0 (MQ below (kQi D (kT cI cZ) A (zm_find y g1 g2) (wY cI cZ bo b1 b2 b3 b4 b5 b6 b7 y)) args s 0 0 A) (F0 m 15 ls []) := by
    intro f
    induction f with
    | zero =>
      intro i b ls H locs hf he hl hP hD hS
      refine lv_iload hx hb dM_find_15 (lv_at hl 0 rfl) ?_
      refine lv_aload_n hx hb dM_find_17 rfl (lv_at hl 2 rfl) ?_
      refine va_get (D := D) (ci := 3) (v := .int (nI y.2.2.2.2.1)) (C := cnM) (T := ftM) (N := 10) hx hb hts inM hown hK hP 0 rfl rfl 4 (by decide) (hts _ mw293) (fun _ h9 => h9) rfl dM_find_18 ?_
      refine lv_icmp_ge (tgt := 52) hx hb dM_find_21 (by decide) (fun _ => ?_) (fun h => absurd (nI_le (by omega) (by omega)) h)
      refine lv_iconst (v := 0) hx hb dM_find_52 (by decide) ?_
      exact kretP (he) hx hb hr hlk hS hP hD hK dM_find_53
    | succ f ih =>
      intro i b ls H locs hf he hl hP hD hS
      refine lv_iload hx hb dM_find_15 (lv_at hl 0 rfl) ?_
      refine lv_aload_n hx hb dM_find_17 rfl (lv_at hl 2 rfl) ?_
      refine va_get (D := D) (ci := 3) (v := .int (nI y.2.2.2.2.1)) (C := cnM) (T := ftM) (N := 10) hx hb hts inM hown hK hP 0 rfl rfl 4 (by decide) (hts _ mw293) (fun _ h9 => h9) rfl dM_find_18 ?_
      refine lv_icmp_ge (tgt := 52) hx hb dM_find_21 (by decide) (fun h => absurd h (nI_ge (by omega) (by omega))) (fun _ => ?_)
      refine lv_aload_n hx hb dM_find_24 rfl (lv_at hl 2 rfl) ?_
      refine lv_iload hx hb dM_find_25 (lv_at hl 0 rfl) ?_
      refine kcI (isR := []) (isC := [0, 1, 2, 3, 4, 5, 6, 7]) (wr := []) (w2 := [(bo, .inr (3, [.ref b1, .int y.2.1, .ref b2, .ref b3, .int (nI y.2.2.2.2.1), .int y.2.2.2.2.2.1, .ref b4, .ref b5, .ref b6, .ref b7])), (b1, .inl (cI, 3, .inl y.1)), (b2, .inl (cI, 3, .inl y.2.2.1)), (b3, .inl (cI, 3, .inl y.2.2.2.1)), (b4, .inl (cZ, 512, .inl y.2.2.2.2.2.2.1)), (b5, .inl (cI, 512, .inl y.2.2.2.2.2.2.2.1)), (b6, .inl (cI, 512, .inl y.2.2.2.2.2.2.2.2.1)), (b7, .inl (cI, 512, .inl y.2.2.2.2.2.2.2.2.2))]) (va_runV (As := [.int (nI i)]) (rest := []) ⟨hx, hb, hml, hown, hts⟩ (km_visible l D cI cZ bo b1 b2 b3 b4 b5 b6 b7 y (nI i) (vp_in_nI (by omega) (by decide)) _) ⟨(callB_of 1 hts gd_yM_visible rfl rfl rfl (hts _ mw27) (hts _ mw388) (by decide +kernel) ⟨Nat.le_of_ble_eq_true rfl, Nat.le_of_ble_eq_true rfl⟩), hts _ mw390, hts _ mw21⟩ (kpreV hNw hP hD hK [0, 1, 2, 3, 4, 5, 6, 7] rfl (by decide) 0 rfl (ci := 3) rfl) rfl rfl hl.1 rfl (lv_room (Nat.le_of_ble_eq_true rfl)) dM_find_27 ⟨Nat.le_of_ble_eq_true rfl, Nat.le_of_ble_eq_true rfl⟩) hP hD hS hA [0, 1, 2, 3, 4, 5, 6, 7] rfl rfl (by decide) (by decide) (by decide) rfl (fun H locs hP hD hS => ?_)
      refine lv_if_eq (tgt := 46) hx hb dM_find_30 (by decide) (fun h1 => ?_) (fun h1 => ?_)
      ·
        refine lv_iinc (k := 0) (v := (nI (i + 1))) hx hb dM_find_46 hl rfl (kincN1 _) (by decide) rfl (fun ls hl => ?_)
        have hl : lv_has ls 5 [(4, .int (nI (i + 1))), (3, .int b), (0, .ref bo), (1, .int g1), (2, .int g2)] := hl
        refine lv_goto hx hb dM_find_49 (tgt := 15) (by decide) ?_
        exact ih (i + 1) b _ _ _ (by omega) (by rw [he, zm_fnd, if_pos h1]) (lv_sub hl [0, 1, 2, 3, 4] rfl) hP hD hS
      ·
        refine lv_iload_n hx hb dM_find_33 rfl (lv_at hl 1 rfl) ?_
        refine lv_iload_n hx hb dM_find_34 rfl (lv_at hl 4 rfl) ?_
        refine lv_icmp_ne (tgt := 43) hx hb dM_find_35 (by decide) (fun h2 => ?_) (fun h2 => ?_)
        ·
          refine lv_iinc (k := 1) (v := (b + 1)) hx hb dM_find_43 hl rfl (kinc1 _) (by decide) rfl (fun ls hl => ?_)
          have hl : lv_has ls 5 [(3, .int (b + 1)), (4, .int (nI i)), (0, .ref bo), (1, .int g1), (2, .int g2)] := hl
          refine lv_iinc (k := 1) (v := (nI (i + 1))) hx hb dM_find_46 hl rfl (kincN1 _) (by decide) rfl (fun ls hl => ?_)
          have hl : lv_has ls 5 [(4, .int (nI (i + 1))), (3, .int (b + 1)), (0, .ref bo), (1, .int g1), (2, .int g2)] := hl
          refine lv_goto hx hb dM_find_49 (tgt := 15) (by decide) ?_
          exact ih (i + 1) (b + 1) _ _ _ (by omega) (by rw [he, zm_fnd, if_neg h1, if_neg h2]) (lv_sub hl [0, 1, 2, 3, 4] rfl) hP hD hS
        ·
          refine lv_iload hx hb dM_find_38 (lv_at hl 0 rfl) ?_
          refine lv_iconst (v := 1) hx hb dM_find_40 (by decide) ?_
          refine lv_iadd hx hb dM_find_41 ?_
          exact kretP (by rw [he, zm_fnd, if_neg h1, if_pos h2]) hx hb hr hlk hS hP hD hK dM_find_42
  refine lv_aload_n hx hb dM_find_0 rfl (lv_at hl 0 rfl) ?_
  refine lv_iload_n hx hb dM_find_1 rfl (lv_at hl 1 rfl) ?_
  refine kcI (isR := []) (isC := [0, 1, 2, 3, 4, 5, 6, 7]) (wr := []) (w2 := [(bo, .inr (3, [.ref b1, .int y.2.1, .ref b2, .ref b3, .int (nI y.2.2.2.2.1), .int y.2.2.2.2.2.1, .ref b4, .ref b5, .ref b6, .ref b7])), (b1, .inl (cI, 3, .inl y.1)), (b2, .inl (cI, 3, .inl y.2.2.1)), (b3, .inl (cI, 3, .inl y.2.2.2.1)), (b4, .inl (cZ, 512, .inl y.2.2.2.2.2.2.1)), (b5, .inl (cI, 512, .inl y.2.2.2.2.2.2.2.1)), (b6, .inl (cI, 512, .inl y.2.2.2.2.2.2.2.2.1)), (b7, .inl (cI, 512, .inl y.2.2.2.2.2.2.2.2.2))]) (va_runV (As := [.int g1]) (rest := []) ⟨hx, hb, hml, hown, hts⟩ (km_closed l D cI cZ bo b1 b2 b3 b4 b5 b6 b7 y g1 _) ⟨(callB_of 1 hts gd_yM_closed rfl rfl rfl (hts _ mw27) (hts _ mw329) (by decide +kernel) ⟨Nat.le_of_ble_eq_true rfl, Nat.le_of_ble_eq_true rfl⟩), hts _ mw331, hts _ mw15⟩ (kpreV hNw hP hD hK [0, 1, 2, 3, 4, 5, 6, 7] rfl (by decide) 0 rfl (ci := 3) rfl) rfl rfl hl.1 rfl (lv_room (Nat.le_of_ble_eq_true rfl)) dM_find_2 ⟨Nat.le_of_ble_eq_true rfl, Nat.le_of_ble_eq_true rfl⟩) hP hD hS hA [0, 1, 2, 3, 4, 5, 6, 7] rfl rfl (by decide) (by decide) (by decide) rfl (fun H locs hP hD hS => ?_)
  refine lv_if_eq (tgt := 10) hx hb dM_find_5 (by decide) (fun h1 => ?_) (fun h1 => ?_)
  ·
    refine lv_iconst (v := 0) hx hb dM_find_10 (by decide) ?_
    refine lv_istore_n hx hb dM_find_11 rfl hl (by decide) rfl (fun ls hl => ?_)
    have hl : lv_has ls 5 [(3, .int 0), (0, .ref bo), (1, .int g1), (2, .int g2)] := hl
    refine lv_iconst (v := 0) hx hb dM_find_12 (by decide) ?_
    refine lv_istore hx hb dM_find_13 hl (by decide) rfl (fun ls hl => ?_)
    have hl : lv_has ls 5 [(4, .int 0), (3, .int 0), (0, .ref bo), (1, .int g1), (2, .int g2)] := hl
    exact L y.2.2.2.2.1 0 0 _ _ _ (by omega) (by rw [zm_find, if_pos h1]) (lv_sub hl [0, 1, 2, 3, 4] rfl) hP hD hS
  ·
    refine lv_iconst (v := (-1)) hx hb dM_find_8 (by decide) ?_
    exact kretP (by first | (rw [zm_find, if_neg h1]; done) | exact (if_neg h1)) hx hb hr hlk hS hP hD hK dM_find_9

def zm_status (y : YS) (g1 : Int32) : Int32 := (if g1 = 0 then y.2.1 else (if g1 = 1 then ((((((0 + (if (y.1 0) ≤ 0 then (0 : Int32) else (1 : Int32))) + (if (y.1 0) = 2 then (8 : Int32) else (0 : Int32))) + (if (y.1 1) ≤ 0 then (0 : Int32) else (2 : Int32))) + (if (y.1 1) = 2 then (16 : Int32) else (0 : Int32))) + (if (y.1 2) ≤ 0 then (0 : Int32) else (4 : Int32))) + (if (y.1 2) = 2 then (32 : Int32) else (0 : Int32))) else (if g1 = 2 then (y.2.2.2.1 1) else (if g1 = 3 then (y.2.2.2.1 2) else (if g1 = 4 then (zm_count y) else (if g1 = 5 then (nI y.2.2.2.2.1) else (-1)))))))

set_option maxHeartbeats 4000000 in
set_option maxRecDepth 100000 in
theorem km_status (l : Launch) (D : va_G) (cI cZ : ClassId) (bo b1 b2 b3 b4 b5 b6 b7 : Nat) (y : YS) (g1 : Int32) (hn : y.2.2.2.2.1 ≤ 512) : kI l yM_status wsM_status (rmOf 1 22) D (kT cI cZ) [.ref bo, .int g1] (wY cI cZ bo b1 b2 b3 b4 b5 b6 b7 y) (zm_status y g1) (wY cI cZ bo b1 b2 b3 b4 b5 b6 b7 y) := by
  intro sz
  refine kOf (Qc := fun A => kQi D (kT cI cZ) A (zm_status y g1) (wY cI cZ bo b1 b2 b3 b4 b5 b6 b7 y)) (cc := cM_status) (maxL := 4) (ret := some .int) (by decide) rfl (Nat.le_of_ble_eq_true rfl) ?_ sz
  intro p e s m args below meth c A ls hx hb hml hown hts hNw hr hlk hin hA hS hP hD hK hl
  show W p l e (rmOf 1 22) s m args below meth c s.heap [] 0 0 (MQ below (kQi D (kT cI cZ) A (zm_status y g1) (wY cI cZ bo b1 b2 b3 b4 b5 b6 b7 y)) args s 0 0 A) (F0 m 0 ls [])
  have hts : ∀ q ∈ lw_g, q.before args s = true := fun q h => hts q (List.mem_cons_of_mem _ h)
  have hown : s.vm.findClass cnM = some m.cls := hown
  have hl : lv_has ls 4 [(0, .ref bo), (1, .int g1)] := hl
  have hP : va_P D vwCl [(bo, .inr (3, [.ref b1, .int y.2.1, .ref b2, .ref b3, .int (nI y.2.2.2.2.1), .int y.2.2.2.2.2.1, .ref b4, .ref b5, .ref b6, .ref b7])), (b1, .inl (cI, 3, .inl y.1)), (b2, .inl (cI, 3, .inl y.2.2.1)), (b3, .inl (cI, 3, .inl y.2.2.2.1)), (b4, .inl (cZ, 512, .inl y.2.2.2.2.2.2.1)), (b5, .inl (cI, 512, .inl y.2.2.2.2.2.2.2.1)), (b6, .inl (cI, 512, .inl y.2.2.2.2.2.2.2.2.1)), (b7, .inl (cI, 512, .inl y.2.2.2.2.2.2.2.2.2))] s.heap := hP
  have hD : va_D A [(bo, .inr (3, [.ref b1, .int y.2.1, .ref b2, .ref b3, .int (nI y.2.2.2.2.1), .int y.2.2.2.2.2.1, .ref b4, .ref b5, .ref b6, .ref b7])), (b1, .inl (cI, 3, .inl y.1)), (b2, .inl (cI, 3, .inl y.2.2.1)), (b3, .inl (cI, 3, .inl y.2.2.2.1)), (b4, .inl (cZ, 512, .inl y.2.2.2.2.2.2.1)), (b5, .inl (cI, 512, .inl y.2.2.2.2.2.2.2.1)), (b6, .inl (cI, 512, .inl y.2.2.2.2.2.2.2.2.1)), (b7, .inl (cI, 512, .inl y.2.2.2.2.2.2.2.2.2))] := hD
  refine lv_iload_n hx hb dM_status_0 rfl (lv_at hl 1 rfl) ?_
  by_cases q0 : g1 = 0
  ·
    subst q0
    refine lv_tableIn (x := 0) (off := 39) (tgt := 40) hx hb dM_status_1 (by decide) (by decide) (by decide) (by decide) ?_
    refine lv_aload_n hx hb dM_status_40 rfl (lv_at hl 0 rfl) ?_
    refine va_get (D := D) (ci := 3) (v := .int y.2.1) (C := cnM) (T := ftM) (N := 10) hx hb hts inM hown hK hP 0 rfl rfl 1 (by decide) (hts _ mw290) (fun _ h9 => h9) rfl dM_status_41 ?_
    exact kretP (by first | (rw [zm_status, if_pos (rfl : (0 : Int32) = 0)]; done) | exact (if_pos (rfl : (0 : Int32) = 0))) hx hb hr hlk hS hP hD hK dM_status_44
  by_cases q1 : g1 = 1
  ·
    subst q1
    refine lv_tableIn (x := 1) (off := 44) (tgt := 45) hx hb dM_status_1 (by decide) (by decide) (by decide) (by decide) ?_
    refine lv_iconst (v := 0) hx hb dM_status_45 (by decide) ?_
    refine lv_istore_n hx hb dM_status_46 rfl hl (by decide) rfl (fun ls hl => ?_)
    have hl : lv_has ls 4 [(2, .int 0), (0, .ref bo), (1, .int 1)] := hl
    refine lv_iconst (v := 0) hx hb dM_status_47 (by decide) ?_
    refine lv_istore_n hx hb dM_status_48 rfl hl (by decide) rfl (fun ls hl => ?_)
    have hl : lv_has ls 4 [(3, .int 0), (2, .int 0), (0, .ref bo), (1, .int 1)] := hl
    refine lv_iload_n hx hb dM_status_49 rfl (lv_at hl 0 rfl) ?_
    refine lv_iconst (v := 3) hx hb dM_status_50 (by decide) ?_
    refine lv_icmp_ge (tgt := 98) hx hb dM_status_51 (by decide) (fun h => absurd h (by decide)) (fun _ => ?_)
    refine lv_iload_n hx hb dM_status_54 rfl (lv_at hl 1 rfl) ?_
    refine lv_aload_n hx hb dM_status_55 rfl (lv_at hl 2 rfl) ?_
    refine va_get (D := D) (ci := 3) (v := .ref b1) (C := cnM) (T := ftM) (N := 10) hx hb hts inM hown hK hP 0 rfl rfl 0 (by decide) (hts _ mw289) (fun _ h9 => h9) rfl dM_status_56 ?_
    refine lv_iload_n hx hb dM_status_59 rfl (lv_at hl 0 rfl) ?_
    refine va_iald hx hb hK hP 1 0 rfl rfl ((show ¬ ((0 : Int32) < 0 ∨ 3 ≤ Int32.toNatClampNeg 0) by decide)) dM_status_60 ?_
    refine kTop (y := (y.1 0)) (by rw [show Int32.toNatClampNeg 0 = 0 by decide]) ?_
    refine kJoin (pcJ := 71) (z := (if (y.1 0) ≤ 0 then (0 : Int32) else (1 : Int32))) (ws := [(bo, .inr (3, [.ref b1, .int y.2.1, .ref b2, .ref b3, .int (nI y.2.2.2.2.1), .int y.2.2.2.2.2.1, .ref b4, .ref b5, .ref b6, .ref b7])), (b1, .inl (cI, 3, .inl y.1)), (b2, .inl (cI, 3, .inl y.2.2.1)), (b3, .inl (cI, 3, .inl y.2.2.2.1)), (b4, .inl (cZ, 512, .inl y.2.2.2.2.2.2.1)), (b5, .inl (cI, 512, .inl y.2.2.2.2.2.2.2.1)), (b6, .inl (cI, 512, .inl y.2.2.2.2.2.2.2.2.1)), (b7, .inl (cI, 512, .inl y.2.2.2.2.2.2.2.2.2))]) (rest := [.int 0]) (D := D) (A := A) (H0 := s.heap) (fun J71 => ?_) (fun H locs hP hD hS => ?_)
    ·
      refine lv_if_le (tgt := 70) hx hb dM_status_61 (by decide) (fun h1 => ?_) (fun h1 => ?_)
      ·
        refine lv_iconst (v := 0) hx hb dM_status_70 (by decide) ?_
        exact J71 _ _ hP hD hS _ ((if_pos h1).symm)
      ·
        refine lv_iconst (v := 1) hx hb dM_status_64 (by decide) ?_
        refine lv_iload_n hx hb dM_status_65 rfl (lv_at hl 0 rfl) ?_
        refine lv_ishl hx hb dM_status_66 ?_
        refine kTop (y := 1) (by decide) ?_
        refine lv_goto hx hb dM_status_67 (tgt := 71) (by decide) ?_
        exact J71 _ _ hP hD hS _ ((if_neg h1).symm)
    refine lv_iadd hx hb dM_status_71 ?_
    refine lv_aload_n hx hb dM_status_72 rfl (lv_at hl 2 rfl) ?_
    refine va_get (D := D) (ci := 3) (v := .ref b1) (C := cnM) (T := ftM) (N := 10) hx hb hts inM hown hK hP 0 rfl rfl 0 (by decide) (hts _ mw289) (fun _ h9 => h9) rfl dM_status_73 ?_
    refine lv_iload_n hx hb dM_status_76 rfl (lv_at hl 0 rfl) ?_
    refine va_iald hx hb hK hP 1 0 rfl rfl ((show ¬ ((0 : Int32) < 0 ∨ 3 ≤ Int32.toNatClampNeg 0) by decide)) dM_status_77 ?_
    refine kTop (y := (y.1 0)) (by rw [show Int32.toNatClampNeg 0 = 0 by decide]) ?_
    refine lv_iconst (v := 2) hx hb dM_status_78 (by decide) ?_
    refine kJoin (pcJ := 90) (z := (if (y.1 0) = 2 then (8 : Int32) else (0 : Int32))) (ws := [(bo, .inr (3, [.ref b1, .int y.2.1, .ref b2, .ref b3, .int (nI y.2.2.2.2.1), .int y.2.2.2.2.2.1, .ref b4, .ref b5, .ref b6, .ref b7])), (b1, .inl (cI, 3, .inl y.1)), (b2, .inl (cI, 3, .inl y.2.2.1)), (b3, .inl (cI, 3, .inl y.2.2.2.1)), (b4, .inl (cZ, 512, .inl y.2.2.2.2.2.2.1)), (b5, .inl (cI, 512, .inl y.2.2.2.2.2.2.2.1)), (b6, .inl (cI, 512, .inl y.2.2.2.2.2.2.2.2.1)), (b7, .inl (cI, 512, .inl y.2.2.2.2.2.2.2.2.2))]) (rest := [.int (0 + (if (y.1 0) ≤ 0 then (0 : Int32) else (1 : Int32)))]) (D := D) (A := A) (H0 := s.heap) (fun J90 => ?_) (fun H locs hP hD hS => ?_)
    ·
      refine lv_icmp_ne (tgt := 89) hx hb dM_status_79 (by decide) (fun h2 => ?_) (fun h2 => ?_)
      ·
        refine lv_iconst (v := 0) hx hb dM_status_89 (by decide) ?_
        exact J90 _ _ hP hD hS _ ((if_neg h2).symm)
      ·
        refine lv_bipush (v := 8) hx hb dM_status_82 (by decide) ?_
        refine lv_iload_n hx hb dM_status_84 rfl (lv_at hl 0 rfl) ?_
        refine lv_ishl hx hb dM_status_85 ?_
        refine kTop (y := 8) (by decide) ?_
        refine lv_goto hx hb dM_status_86 (tgt := 90) (by decide) ?_
        exact J90 _ _ hP hD hS _ ((if_pos h2).symm)
    refine lv_iadd hx hb dM_status_90 ?_
    refine lv_istore_n hx hb dM_status_91 rfl hl (by decide) rfl (fun ls hl => ?_)
    have hl : lv_has ls 4 [(2, .int ((0 + (if (y.1 0) ≤ 0 then (0 : Int32) else (1 : Int32))) + (if (y.1 0) = 2 then (8 : Int32) else (0 : Int32)))), (3, .int 0), (0, .ref bo), (1, .int 1)] := hl
    refine lv_iinc (k := 1) (v := 1) hx hb dM_status_92 hl rfl (by decide) (by decide) rfl (fun ls hl => ?_)
    have hl : lv_has ls 4 [(3, .int 1), (2, .int ((0 + (if (y.1 0) ≤ 0 then (0 : Int32) else (1 : Int32))) + (if (y.1 0) = 2 then (8 : Int32) else (0 : Int32)))), (0, .ref bo), (1, .int 1)] := hl
    refine lv_goto hx hb dM_status_95 (tgt := 49) (by decide) ?_
    refine lv_iload_n hx hb dM_status_49 rfl (lv_at hl 0 rfl) ?_
    refine lv_iconst (v := 3) hx hb dM_status_50 (by decide) ?_
    refine lv_icmp_ge (tgt := 98) hx hb dM_status_51 (by decide) (fun h => absurd h (by decide)) (fun _ => ?_)
    refine lv_iload_n hx hb dM_status_54 rfl (lv_at hl 1 rfl) ?_
    refine lv_aload_n hx hb dM_status_55 rfl (lv_at hl 2 rfl) ?_
    refine va_get (D := D) (ci := 3) (v := .ref b1) (C := cnM) (T := ftM) (N := 10) hx hb hts inM hown hK hP 0 rfl rfl 0 (by decide) (hts _ mw289) (fun _ h9 => h9) rfl dM_status_56 ?_
    refine lv_iload_n hx hb dM_status_59 rfl (lv_at hl 0 rfl) ?_
    refine va_iald hx hb hK hP 1 0 rfl rfl ((show ¬ ((1 : Int32) < 0 ∨ 3 ≤ Int32.toNatClampNeg 1) by decide)) dM_status_60 ?_
    refine kTop (y := (y.1 1)) (by rw [show Int32.toNatClampNeg 1 = 1 by decide]) ?_
    refine kJoin (pcJ := 71) (z := (if (y.1 1) ≤ 0 then (0 : Int32) else (2 : Int32))) (ws := [(bo, .inr (3, [.ref b1, .int y.2.1, .ref b2, .ref b3, .int (nI y.2.2.2.2.1), .int y.2.2.2.2.2.1, .ref b4, .ref b5, .ref b6, .ref b7])), (b1, .inl (cI, 3, .inl y.1)), (b2, .inl (cI, 3, .inl y.2.2.1)), (b3, .inl (cI, 3, .inl y.2.2.2.1)), (b4, .inl (cZ, 512, .inl y.2.2.2.2.2.2.1)), (b5, .inl (cI, 512, .inl y.2.2.2.2.2.2.2.1)), (b6, .inl (cI, 512, .inl y.2.2.2.2.2.2.2.2.1)), (b7, .inl (cI, 512, .inl y.2.2.2.2.2.2.2.2.2))]) (rest := [.int ((0 + (if (y.1 0) ≤ 0 then (0 : Int32) else (1 : Int32))) + (if (y.1 0) = 2 then (8 : Int32) else (0 : Int32)))]) (D := D) (A := A) (H0 := s.heap) (fun J71 => ?_) (fun H locs hP hD hS => ?_)
    ·
      refine lv_if_le (tgt := 70) hx hb dM_status_61 (by decide) (fun h3 => ?_) (fun h3 => ?_)
      ·
        refine lv_iconst (v := 0) hx hb dM_status_70 (by decide) ?_
        exact J71 _ _ hP hD hS _ ((if_pos h3).symm)
      ·
        refine lv_iconst (v := 1) hx hb dM_status_64 (by decide) ?_
        refine lv_iload_n hx hb dM_status_65 rfl (lv_at hl 0 rfl) ?_
        refine lv_ishl hx hb dM_status_66 ?_
        refine kTop (y := 2) (by decide) ?_
        refine lv_goto hx hb dM_status_67 (tgt := 71) (by decide) ?_
        exact J71 _ _ hP hD hS _ ((if_neg h3).symm)
    refine lv_iadd hx hb dM_status_71 ?_
    refine lv_aload_n hx hb dM_status_72 rfl (lv_at hl 2 rfl) ?_
    refine va_get (D := D) (ci := 3) (v := .ref b1) (C := cnM) (T := ftM) (N := 10) hx hb hts inM hown hK hP 0 rfl rfl 0 (by decide) (hts _ mw289) (fun _ h9 => h9) rfl dM_status_73 ?_
    refine lv_iload_n hx hb dM_status_76 rfl (lv_at hl 0 rfl) ?_
    refine va_iald hx hb hK hP 1 0 rfl rfl ((show ¬ ((1 : Int32) < 0 ∨ 3 ≤ Int32.toNatClampNeg 1) by decide)) dM_status_77 ?_
    refine kTop (y := (y.1 1)) (by rw [show Int32.toNatClampNeg 1 = 1 by decide]) ?_
    refine lv_iconst (v := 2) hx hb dM_status_78 (by decide) ?_
    refine kJoin (pcJ := 90) (z := (if (y.1 1) = 2 then (16 : Int32) else (0 : Int32))) (ws := [(bo, .inr (3, [.ref b1, .int y.2.1, .ref b2, .ref b3, .int (nI y.2.2.2.2.1), .int y.2.2.2.2.2.1, .ref b4, .ref b5, .ref b6, .ref b7])), (b1, .inl (cI, 3, .inl y.1)), (b2, .inl (cI, 3, .inl y.2.2.1)), (b3, .inl (cI, 3, .inl y.2.2.2.1)), (b4, .inl (cZ, 512, .inl y.2.2.2.2.2.2.1)), (b5, .inl (cI, 512, .inl y.2.2.2.2.2.2.2.1)), (b6, .inl (cI, 512, .inl y.2.2.2.2.2.2.2.2.1)), (b7, .inl (cI, 512, .inl y.2.2.2.2.2.2.2.2.2))]) (rest := [.int (((0 + (if (y.1 0) ≤ 0 then (0 : Int32) else (1 : Int32))) + (if (y.1 0) = 2 then (8 : Int32) else (0 : Int32))) + (if (y.1 1) ≤ 0 then (0 : Int32) else (2 : Int32)))]) (D := D) (A := A) (H0 := s.heap) (fun J90 => ?_) (fun H locs hP hD hS => ?_)
    ·
      refine lv_icmp_ne (tgt := 89) hx hb dM_status_79 (by decide) (fun h4 => ?_) (fun h4 => ?_)
      ·
        refine lv_iconst (v := 0) hx hb dM_status_89 (by decide) ?_
        exact J90 _ _ hP hD hS _ ((if_neg h4).symm)
      ·
        refine lv_bipush (v := 8) hx hb dM_status_82 (by decide) ?_
        refine lv_iload_n hx hb dM_status_84 rfl (lv_at hl 0 rfl) ?_
        refine lv_ishl hx hb dM_status_85 ?_
        refine kTop (y := 16) (by decide) ?_
        refine lv_goto hx hb dM_status_86 (tgt := 90) (by decide) ?_
        exact J90 _ _ hP hD hS _ ((if_pos h4).symm)
    refine lv_iadd hx hb dM_status_90 ?_
    refine lv_istore_n hx hb dM_status_91 rfl hl (by decide) rfl (fun ls hl => ?_)
    have hl : lv_has ls 4 [(2, .int ((((0 + (if (y.1 0) ≤ 0 then (0 : Int32) else (1 : Int32))) + (if (y.1 0) = 2 then (8 : Int32) else (0 : Int32))) + (if (y.1 1) ≤ 0 then (0 : Int32) else (2 : Int32))) + (if (y.1 1) = 2 then (16 : Int32) else (0 : Int32)))), (3, .int 1), (0, .ref bo), (1, .int 1)] := hl
    refine lv_iinc (k := 1) (v := 2) hx hb dM_status_92 hl rfl (by decide) (by decide) rfl (fun ls hl => ?_)
    have hl : lv_has ls 4 [(3, .int 2), (2, .int ((((0 + (if (y.1 0) ≤ 0 then (0 : Int32) else (1 : Int32))) + (if (y.1 0) = 2 then (8 : Int32) else (0 : Int32))) + (if (y.1 1) ≤ 0 then (0 : Int32) else (2 : Int32))) + (if (y.1 1) = 2 then (16 : Int32) else (0 : Int32)))), (0, .ref bo), (1, .int 1)] := hl
    refine lv_goto hx hb dM_status_95 (tgt := 49) (by decide) ?_
    refine lv_iload_n hx hb dM_status_49 rfl (lv_at hl 0 rfl) ?_
    refine lv_iconst (v := 3) hx hb dM_status_50 (by decide) ?_
    refine lv_icmp_ge (tgt := 98) hx hb dM_status_51 (by decide) (fun h => absurd h (by decide)) (fun _ => ?_)
    refine lv_iload_n hx hb dM_status_54 rfl (lv_at hl 1 rfl) ?_
    refine lv_aload_n hx hb dM_status_55 rfl (lv_at hl 2 rfl) ?_
    refine va_get (D := D) (ci := 3) (v := .ref b1) (C := cnM) (T := ftM) (N := 10) hx hb hts inM hown hK hP 0 rfl rfl 0 (by decide) (hts _ mw289) (fun _ h9 => h9) rfl dM_status_56 ?_
    refine lv_iload_n hx hb dM_status_59 rfl (lv_at hl 0 rfl) ?_
    refine va_iald hx hb hK hP 1 0 rfl rfl ((show ¬ ((2 : Int32) < 0 ∨ 3 ≤ Int32.toNatClampNeg 2) by decide)) dM_status_60 ?_
    refine kTop (y := (y.1 2)) (by rw [show Int32.toNatClampNeg 2 = 2 by decide]) ?_
    refine kJoin (pcJ := 71) (z := (if (y.1 2) ≤ 0 then (0 : Int32) else (4 : Int32))) (ws := [(bo, .inr (3, [.ref b1, .int y.2.1, .ref b2, .ref b3, .int (nI y.2.2.2.2.1), .int y.2.2.2.2.2.1, .ref b4, .ref b5, .ref b6, .ref b7])), (b1, .inl (cI, 3, .inl y.1)), (b2, .inl (cI, 3, .inl y.2.2.1)), (b3, .inl (cI, 3, .inl y.2.2.2.1)), (b4, .inl (cZ, 512, .inl y.2.2.2.2.2.2.1)), (b5, .inl (cI, 512, .inl y.2.2.2.2.2.2.2.1)), (b6, .inl (cI, 512, .inl y.2.2.2.2.2.2.2.2.1)), (b7, .inl (cI, 512, .inl y.2.2.2.2.2.2.2.2.2))]) (rest := [.int ((((0 + (if (y.1 0) ≤ 0 then (0 : Int32) else (1 : Int32))) + (if (y.1 0) = 2 then (8 : Int32) else (0 : Int32))) + (if (y.1 1) ≤ 0 then (0 : Int32) else (2 : Int32))) + (if (y.1 1) = 2 then (16 : Int32) else (0 : Int32)))]) (D := D) (A := A) (H0 := s.heap) (fun J71 => ?_) (fun H locs hP hD hS => ?_)
    ·
      refine lv_if_le (tgt := 70) hx hb dM_status_61 (by decide) (fun h5 => ?_) (fun h5 => ?_)
      ·
        refine lv_iconst (v := 0) hx hb dM_status_70 (by decide) ?_
        exact J71 _ _ hP hD hS _ ((if_pos h5).symm)
      ·
        refine lv_iconst (v := 1) hx hb dM_status_64 (by decide) ?_
        refine lv_iload_n hx hb dM_status_65 rfl (lv_at hl 0 rfl) ?_
        refine lv_ishl hx hb dM_status_66 ?_
        refine kTop (y := 4) (by decide) ?_
        refine lv_goto hx hb dM_status_67 (tgt := 71) (by decide) ?_
        exact J71 _ _ hP hD hS _ ((if_neg h5).symm)
    refine lv_iadd hx hb dM_status_71 ?_
    refine lv_aload_n hx hb dM_status_72 rfl (lv_at hl 2 rfl) ?_
    refine va_get (D := D) (ci := 3) (v := .ref b1) (C := cnM) (T := ftM) (N := 10) hx hb hts inM hown hK hP 0 rfl rfl 0 (by decide) (hts _ mw289) (fun _ h9 => h9) rfl dM_status_73 ?_
    refine lv_iload_n hx hb dM_status_76 rfl (lv_at hl 0 rfl) ?_
    refine va_iald hx hb hK hP 1 0 rfl rfl ((show ¬ ((2 : Int32) < 0 ∨ 3 ≤ Int32.toNatClampNeg 2) by decide)) dM_status_77 ?_
    refine kTop (y := (y.1 2)) (by rw [show Int32.toNatClampNeg 2 = 2 by decide]) ?_
    refine lv_iconst (v := 2) hx hb dM_status_78 (by decide) ?_
    refine kJoin (pcJ := 90) (z := (if (y.1 2) = 2 then (32 : Int32) else (0 : Int32))) (ws := [(bo, .inr (3, [.ref b1, .int y.2.1, .ref b2, .ref b3, .int (nI y.2.2.2.2.1), .int y.2.2.2.2.2.1, .ref b4, .ref b5, .ref b6, .ref b7])), (b1, .inl (cI, 3, .inl y.1)), (b2, .inl (cI, 3, .inl y.2.2.1)), (b3, .inl (cI, 3, .inl y.2.2.2.1)), (b4, .inl (cZ, 512, .inl y.2.2.2.2.2.2.1)), (b5, .inl (cI, 512, .inl y.2.2.2.2.2.2.2.1)), (b6, .inl (cI, 512, .inl y.2.2.2.2.2.2.2.2.1)), (b7, .inl (cI, 512, .inl y.2.2.2.2.2.2.2.2.2))]) (rest := [.int (((((0 + (if (y.1 0) ≤ 0 then (0 : Int32) else (1 : Int32))) + (if (y.1 0) = 2 then (8 : Int32) else (0 : Int32))) + (if (y.1 1) ≤ 0 then (0 : Int32) else (2 : Int32))) + (if (y.1 1) = 2 then (16 : Int32) else (0 : Int32))) + (if (y.1 2) ≤ 0 then (0 : Int32) else (4 : Int32)))]) (D := D) (A := A) (H0 := s.heap) (fun J90 => ?_) (fun H locs hP hD hS => ?_)
    ·
      refine lv_icmp_ne (tgt := 89) hx hb dM_status_79 (by decide) (fun h6 => ?_) (fun h6 => ?_)
      ·
        refine lv_iconst (v := 0) hx hb dM_status_89 (by decide) ?_
        exact J90 _ _ hP hD hS _ ((if_neg h6).symm)
      ·
        refine lv_bipush (v := 8) hx hb dM_status_82 (by decide) ?_
        refine lv_iload_n hx hb dM_status_84 rfl (lv_at hl 0 rfl) ?_
        refine lv_ishl hx hb dM_status_85 ?_
        refine kTop (y := 32) (by decide) ?_
        refine lv_goto hx hb dM_status_86 (tgt := 90) (by decide) ?_
        exact J90 _ _ hP hD hS _ ((if_pos h6).symm)
    refine lv_iadd hx hb dM_status_90 ?_
    refine lv_istore_n hx hb dM_status_91 rfl hl (by decide) rfl (fun ls hl => ?_)
    have hl : lv_has ls 4 [(2, .int ((((((0 + (if (y.1 0) ≤ 0 then (0 : Int32) else (1 : Int32))) + (if (y.1 0) = 2 then (8 : Int32) else (0 : Int32))) + (if (y.1 1) ≤ 0 then (0 : Int32) else (2 : Int32))) + (if (y.1 1) = 2 then (16 : Int32) else (0 : Int32))) + (if (y.1 2) ≤ 0 then (0 : Int32) else (4 : Int32))) + (if (y.1 2) = 2 then (32 : Int32) else (0 : Int32)))), (3, .int 2), (0, .ref bo), (1, .int 1)] := hl
    refine lv_iinc (k := 1) (v := 3) hx hb dM_status_92 hl rfl (by decide) (by decide) rfl (fun ls hl => ?_)
    have hl : lv_has ls 4 [(3, .int 3), (2, .int ((((((0 + (if (y.1 0) ≤ 0 then (0 : Int32) else (1 : Int32))) + (if (y.1 0) = 2 then (8 : Int32) else (0 : Int32))) + (if (y.1 1) ≤ 0 then (0 : Int32) else (2 : Int32))) + (if (y.1 1) = 2 then (16 : Int32) else (0 : Int32))) + (if (y.1 2) ≤ 0 then (0 : Int32) else (4 : Int32))) + (if (y.1 2) = 2 then (32 : Int32) else (0 : Int32)))), (0, .ref bo), (1, .int 1)] := hl
    refine lv_goto hx hb dM_status_95 (tgt := 49) (by decide) ?_
    refine lv_iload_n hx hb dM_status_49 rfl (lv_at hl 0 rfl) ?_
    refine lv_iconst (v := 3) hx hb dM_status_50 (by decide) ?_
    refine lv_icmp_ge (tgt := 98) hx hb dM_status_51 (by decide) (fun _ => ?_) (fun h => absurd h (by decide))
    refine lv_iload_n hx hb dM_status_98 rfl (lv_at hl 1 rfl) ?_
    exact kretP (by first | (rw [zm_status, if_neg (show ¬ (1 : Int32) = 0 by decide), if_pos (rfl : (1 : Int32) = 1)]; done) | exact ((if_neg (show ¬ (1 : Int32) = 0 by decide)).trans (if_pos (rfl : (1 : Int32) = 1)))) hx hb hr hlk hS hP hD hK dM_status_99
  by_cases q2 : g1 = 2
  ·
    subst q2
    refine lv_tableIn (x := 2) (off := 99) (tgt := 100) hx hb dM_status_1 (by decide) (by decide) (by decide) (by decide) ?_
    refine lv_aload_n hx hb dM_status_100 rfl (lv_at hl 0 rfl) ?_
    refine va_get (D := D) (ci := 3) (v := .ref b3) (C := cnM) (T := ftM) (N := 10) hx hb hts inM hown hK hP 0 rfl rfl 3 (by decide) (hts _ mw292) (fun _ h9 => h9) rfl dM_status_101 ?_
    refine lv_iload_n hx hb dM_status_104 rfl (lv_at hl 1 rfl) ?_
    refine lv_iconst (v := 1) hx hb dM_status_105 (by decide) ?_
    refine lv_isub hx hb dM_status_106 ?_
    refine kTop (y := 1) (by decide) ?_
    refine va_iald hx hb hK hP 3 0 rfl rfl ((show ¬ ((1 : Int32) < 0 ∨ 3 ≤ Int32.toNatClampNeg 1) by decide)) dM_status_107 ?_
    refine kTop (y := (y.2.2.2.1 1)) (by rw [show Int32.toNatClampNeg 1 = 1 by decide]) ?_
    exact kretP (by first | (rw [zm_status, if_neg (show ¬ (2 : Int32) = 0 by decide), if_neg (show ¬ (2 : Int32) = 1 by decide), if_pos (rfl : (2 : Int32) = 2)]; done) | exact ((if_neg (show ¬ (2 : Int32) = 0 by decide)).trans ((if_neg (show ¬ (2 : Int32) = 1 by decide)).trans (if_pos (rfl : (2 : Int32) = 2))))) hx hb hr hlk hS hP hD hK dM_status_108
  by_cases q3 : g1 = 3
  ·
    subst q3
    refine lv_tableIn (x := 3) (off := 99) (tgt := 100) hx hb dM_status_1 (by decide) (by decide) (by decide) (by decide) ?_
    refine lv_aload_n hx hb dM_status_100 rfl (lv_at hl 0 rfl) ?_
    refine va_get (D := D) (ci := 3) (v := .ref b3) (C := cnM) (T := ftM) (N := 10) hx hb hts inM hown hK hP 0 rfl rfl 3 (by decide) (hts _ mw292) (fun _ h9 => h9) rfl dM_status_101 ?_
    refine lv_iload_n hx hb dM_status_104 rfl (lv_at hl 1 rfl) ?_
    refine lv_iconst (v := 1) hx hb dM_status_105 (by decide) ?_
    refine lv_isub hx hb dM_status_106 ?_
    refine kTop (y := 2) (by decide) ?_
    refine va_iald hx hb hK hP 3 0 rfl rfl ((show ¬ ((2 : Int32) < 0 ∨ 3 ≤ Int32.toNatClampNeg 2) by decide)) dM_status_107 ?_
    refine kTop (y := (y.2.2.2.1 2)) (by rw [show Int32.toNatClampNeg 2 = 2 by decide]) ?_
    exact kretP (by first | (rw [zm_status, if_neg (show ¬ (3 : Int32) = 0 by decide), if_neg (show ¬ (3 : Int32) = 1 by decide), if_neg (show ¬ (3 : Int32) = 2 by decide), if_pos (rfl : (3 : Int32) = 3)]; done) | exact ((if_neg (show ¬ (3 : Int32) = 0 by decide)).trans ((if_neg (show ¬ (3 : Int32) = 1 by decide)).trans ((if_neg (show ¬ (3 : Int32) = 2 by decide)).trans (if_pos (rfl : (3 : Int32) = 3)))))) hx hb hr hlk hS hP hD hK dM_status_108
  by_cases q4 : g1 = 4
  ·
    subst q4
    refine lv_tableIn (x := 4) (off := 108) (tgt := 109) hx hb dM_status_1 (by decide) (by decide) (by decide) (by decide) ?_
    refine lv_aload_n hx hb dM_status_109 rfl (lv_at hl 0 rfl) ?_
    refine kcI (isR := []) (isC := [0, 1, 2, 3, 4, 5, 6, 7]) (wr := []) (w2 := [(bo, .inr (3, [.ref b1, .int y.2.1, .ref b2, .ref b3, .int (nI y.2.2.2.2.1), .int y.2.2.2.2.2.1, .ref b4, .ref b5, .ref b6, .ref b7])), (b1, .inl (cI, 3, .inl y.1)), (b2, .inl (cI, 3, .inl y.2.2.1)), (b3, .inl (cI, 3, .inl y.2.2.2.1)), (b4, .inl (cZ, 512, .inl y.2.2.2.2.2.2.1)), (b5, .inl (cI, 512, .inl y.2.2.2.2.2.2.2.1)), (b6, .inl (cI, 512, .inl y.2.2.2.2.2.2.2.2.1)), (b7, .inl (cI, 512, .inl y.2.2.2.2.2.2.2.2.2))]) (va_runV (As := []) (rest := []) ⟨hx, hb, hml, hown, hts⟩ (km_count l D cI cZ bo b1 b2 b3 b4 b5 b6 b7 y (hn) _) ⟨(callB_of 0 hts gd_yM_count rfl rfl rfl (hts _ mw27) (hts _ mw363) (by decide +kernel) ⟨Nat.le_of_ble_eq_true rfl, Nat.le_of_ble_eq_true rfl⟩), hts _ mw365, hts _ mw18⟩ (kpreV hNw hP hD hK [0, 1, 2, 3, 4, 5, 6, 7] rfl (by decide) 0 rfl (ci := 3) rfl) rfl rfl hl.1 rfl (lv_room (Nat.le_of_ble_eq_true rfl)) dM_status_110 ⟨Nat.le_of_ble_eq_true rfl, Nat.le_of_ble_eq_true rfl⟩) hP hD hS hA [0, 1, 2, 3, 4, 5, 6, 7] rfl rfl (by decide) (by decide) (by decide) rfl (fun H locs hP hD hS => ?_)
    exact kretP (by first | (rw [zm_status, if_neg (show ¬ (4 : Int32) = 0 by decide), if_neg (show ¬ (4 : Int32) = 1 by decide), if_neg (show ¬ (4 : Int32) = 2 by decide), if_neg (show ¬ (4 : Int32) = 3 by decide), if_pos (rfl : (4 : Int32) = 4)]; done) | exact ((if_neg (show ¬ (4 : Int32) = 0 by decide)).trans ((if_neg (show ¬ (4 : Int32) = 1 by decide)).trans ((if_neg (show ¬ (4 : Int32) = 2 by decide)).trans ((if_neg (show ¬ (4 : Int32) = 3 by decide)).trans (if_pos (rfl : (4 : Int32) = 4))))))) hx hb hr hlk hS hP hD hK dM_status_113
  by_cases q5 : g1 = 5
  ·
    subst q5
    refine lv_tableIn (x := 5) (off := 113) (tgt := 114) hx hb dM_status_1 (by decide) (by decide) (by decide) (by decide) ?_
    refine lv_aload_n hx hb dM_status_114 rfl (lv_at hl 0 rfl) ?_
    refine va_get (D := D) (ci := 3) (v := .int (nI y.2.2.2.2.1)) (C := cnM) (T := ftM) (N := 10) hx hb hts inM hown hK hP 0 rfl rfl 4 (by decide) (hts _ mw293) (fun _ h9 => h9) rfl dM_status_115 ?_
    exact kretP (by first | (rw [zm_status, if_neg (show ¬ (5 : Int32) = 0 by decide), if_neg (show ¬ (5 : Int32) = 1 by decide), if_neg (show ¬ (5 : Int32) = 2 by decide), if_neg (show ¬ (5 : Int32) = 3 by decide), if_neg (show ¬ (5 : Int32) = 4 by decide), if_pos (rfl : (5 : Int32) = 5)]; done) | exact ((if_neg (show ¬ (5 : Int32) = 0 by decide)).trans ((if_neg (show ¬ (5 : Int32) = 1 by decide)).trans ((if_neg (show ¬ (5 : Int32) = 2 by decide)).trans ((if_neg (show ¬ (5 : Int32) = 3 by decide)).trans ((if_neg (show ¬ (5 : Int32) = 4 by decide)).trans (if_pos (rfl : (5 : Int32) = 5)))))))) hx hb hr hlk hS hP hD hK dM_status_118
  refine lv_tableOut (tgt := 119) hx hb dM_status_1 (ksw6 q0 q1 q2 q3 q4 q5) (by decide) ?_
  refine lv_iconst (v := (-1)) hx hb dM_status_119 (by decide) ?_
  exact kretP (by first | (rw [zm_status, if_neg q0, if_neg q1, if_neg q2, if_neg q3, if_neg q4, if_neg q5]; done) | exact ((if_neg q0).trans ((if_neg q1).trans ((if_neg q2).trans ((if_neg q3).trans ((if_neg q4).trans (if_neg q5))))))) hx hb hr hlk hS hP hD hK dM_status_120
